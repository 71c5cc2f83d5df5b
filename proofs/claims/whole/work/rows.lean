section
-- ===== PART A: goes FIRST, ahead of the names: the tables' words, and 'selects' of the private methods out of them =====
/-- a private method of a class that the tables say can be made, by its rows of tables_1 -/
def lw_okq (q : MethodName × Nat) : Prop := (q.1.cls ≠ "java/lang/invoke/MethodHandle" ∧ q.1.cls ≠ "java/lang/invoke/VarHandle") ∧ Cond.instantiable q.1.cls q.2 ∈ tables_1 ∧ Cond.privateMethod q.1 ∈ tables_1 ∧ Cond.instanceMethod q.1 ∈ tables_1
theorem lw_p0 : lw_okq (⟨"OilTown", "hasCell", "(I)Z"⟩, 10) := ⟨⟨by decide +kernel, by decide +kernel⟩, List.mem_of_getElem? (i := 22) (by decide +kernel), List.mem_of_getElem? (i := 481) (by decide +kernel), List.mem_of_getElem? (i := 482) (by decide +kernel)⟩
theorem lw_p1 : lw_okq (⟨"OilTown$Town", "drawBy", "(I[I)I"⟩, 5) := ⟨⟨by decide +kernel, by decide +kernel⟩, List.mem_of_getElem? (i := 30) (by decide +kernel), List.mem_of_getElem? (i := 522) (by decide +kernel), List.mem_of_getElem? (i := 523) (by decide +kernel)⟩
theorem lw_p2 : lw_okq (⟨"OilTown$Currents", "measureCell", "(LOilTown$Pool;I)V"⟩, 8) := ⟨⟨by decide +kernel, by decide +kernel⟩, List.mem_of_getElem? (i := 352) (by decide +kernel), List.mem_of_getElem? (i := 558) (by decide +kernel), List.mem_of_getElem? (i := 559) (by decide +kernel)⟩
theorem lw_p3 : lw_okq (⟨"OilTown$Currents", "add", "(LOilTown$Pool;IIJ)V"⟩, 8) := ⟨⟨by decide +kernel, by decide +kernel⟩, List.mem_of_getElem? (i := 352) (by decide +kernel), List.mem_of_getElem? (i := 572) (by decide +kernel), List.mem_of_getElem? (i := 573) (by decide +kernel)⟩
theorem lw_p4 : lw_okq (⟨"OilTown$Currents", "moveWater", "(LOilTown$Pool;)V"⟩, 8) := ⟨⟨by decide +kernel, by decide +kernel⟩, List.mem_of_getElem? (i := 352) (by decide +kernel), List.mem_of_getElem? (i := 582) (by decide +kernel), List.mem_of_getElem? (i := 583) (by decide +kernel)⟩
theorem lw_p5 : lw_okq (⟨"OilTown", "isPerson", "(I)Z"⟩, 10) := ⟨⟨by decide +kernel, by decide +kernel⟩, List.mem_of_getElem? (i := 22) (by decide +kernel), List.mem_of_getElem? (i := 594) (by decide +kernel), List.mem_of_getElem? (i := 595) (by decide +kernel)⟩
theorem lw_p6 : lw_okq (⟨"OilTown$Town", "hasWellOn", "(II)Z"⟩, 5) := ⟨⟨by decide +kernel, by decide +kernel⟩, List.mem_of_getElem? (i := 30) (by decide +kernel), List.mem_of_getElem? (i := 614) (by decide +kernel), List.mem_of_getElem? (i := 615) (by decide +kernel)⟩
theorem lw_p7 : lw_okq (⟨"OilTown$Orders", "excepts", "(II)Z"⟩, 5) := ⟨⟨by decide +kernel, by decide +kernel⟩, List.mem_of_getElem? (i := 290) (by decide +kernel), List.mem_of_getElem? (i := 698) (by decide +kernel), List.mem_of_getElem? (i := 699) (by decide +kernel)⟩
theorem lw_p8 : lw_okq (⟨"OilTown", "isWell", "(I)Z"⟩, 10) := ⟨⟨by decide +kernel, by decide +kernel⟩, List.mem_of_getElem? (i := 22) (by decide +kernel), List.mem_of_getElem? (i := 732) (by decide +kernel), List.mem_of_getElem? (i := 733) (by decide +kernel)⟩
theorem lw_p9 : lw_okq (⟨"OilTown$Tape", "nextToken", "()V"⟩, 9) := ⟨⟨by decide +kernel, by decide +kernel⟩, List.mem_of_getElem? (i := 284) (by decide +kernel), List.mem_of_getElem? (i := 790) (by decide +kernel), List.mem_of_getElem? (i := 791) (by decide +kernel)⟩
theorem lw_p10 : lw_okq (⟨"OilTown$Tape", "readName", "()V"⟩, 9) := ⟨⟨by decide +kernel, by decide +kernel⟩, List.mem_of_getElem? (i := 284) (by decide +kernel), List.mem_of_getElem? (i := 797) (by decide +kernel), List.mem_of_getElem? (i := 798) (by decide +kernel)⟩
theorem lw_p11 : lw_okq (⟨"OilTown$Tape", "isSpelt", "(Ljava/lang/String;)Z"⟩, 9) := ⟨⟨by decide +kernel, by decide +kernel⟩, List.mem_of_getElem? (i := 284) (by decide +kernel), List.mem_of_getElem? (i := 811) (by decide +kernel), List.mem_of_getElem? (i := 812) (by decide +kernel)⟩
theorem lw_p12 : lw_okq (⟨"OilTown$Tape", "fail", "(I)V"⟩, 9) := ⟨⟨by decide +kernel, by decide +kernel⟩, List.mem_of_getElem? (i := 284) (by decide +kernel), List.mem_of_getElem? (i := 863) (by decide +kernel), List.mem_of_getElem? (i := 864) (by decide +kernel)⟩
theorem lw_p13 : lw_okq (⟨"OilTown$Tape", "readFigures", "()V"⟩, 9) := ⟨⟨by decide +kernel, by decide +kernel⟩, List.mem_of_getElem? (i := 284) (by decide +kernel), List.mem_of_getElem? (i := 870) (by decide +kernel), List.mem_of_getElem? (i := 871) (by decide +kernel)⟩
theorem lw_p14 : lw_okq (⟨"OilTown$Tape", "readFrom", "()I"⟩, 9) := ⟨⟨by decide +kernel, by decide +kernel⟩, List.mem_of_getElem? (i := 284) (by decide +kernel), List.mem_of_getElem? (i := 874) (by decide +kernel), List.mem_of_getElem? (i := 875) (by decide +kernel)⟩
theorem lw_p15 : lw_okq (⟨"OilTown$Tape", "checkNumber", "(I)V"⟩, 9) := ⟨⟨by decide +kernel, by decide +kernel⟩, List.mem_of_getElem? (i := 284) (by decide +kernel), List.mem_of_getElem? (i := 878) (by decide +kernel), List.mem_of_getElem? (i := 879) (by decide +kernel)⟩
def lw_privs_1 : List (MethodName × Nat) := [(⟨"OilTown", "hasCell", "(I)Z"⟩, 10), (⟨"OilTown$Town", "drawBy", "(I[I)I"⟩, 5), (⟨"OilTown$Currents", "measureCell", "(LOilTown$Pool;I)V"⟩, 8), (⟨"OilTown$Currents", "add", "(LOilTown$Pool;IIJ)V"⟩, 8), (⟨"OilTown$Currents", "moveWater", "(LOilTown$Pool;)V"⟩, 8), (⟨"OilTown", "isPerson", "(I)Z"⟩, 10), (⟨"OilTown$Town", "hasWellOn", "(II)Z"⟩, 5), (⟨"OilTown$Orders", "excepts", "(II)Z"⟩, 5), (⟨"OilTown", "isWell", "(I)Z"⟩, 10), (⟨"OilTown$Tape", "nextToken", "()V"⟩, 9), (⟨"OilTown$Tape", "readName", "()V"⟩, 9), (⟨"OilTown$Tape", "isSpelt", "(Ljava/lang/String;)Z"⟩, 9), (⟨"OilTown$Tape", "fail", "(I)V"⟩, 9), (⟨"OilTown$Tape", "readFigures", "()V"⟩, 9), (⟨"OilTown$Tape", "readFrom", "()I"⟩, 9), (⟨"OilTown$Tape", "checkNumber", "(I)V"⟩, 9)]
theorem lw_r1 : ∀ q ∈ lw_privs_1, lw_okq q := List.forall_mem_cons.mpr ⟨lw_p0, List.forall_mem_cons.mpr ⟨lw_p1, List.forall_mem_cons.mpr ⟨lw_p2, List.forall_mem_cons.mpr ⟨lw_p3, List.forall_mem_cons.mpr ⟨lw_p4, List.forall_mem_cons.mpr ⟨lw_p5, List.forall_mem_cons.mpr ⟨lw_p6, List.forall_mem_cons.mpr ⟨lw_p7, List.forall_mem_cons.mpr ⟨lw_p8, List.forall_mem_cons.mpr ⟨lw_p9, List.forall_mem_cons.mpr ⟨lw_p10, List.forall_mem_cons.mpr ⟨lw_p11, List.forall_mem_cons.mpr ⟨lw_p12, List.forall_mem_cons.mpr ⟨lw_p13, List.forall_mem_cons.mpr ⟨lw_p14, List.forall_mem_cons.mpr ⟨lw_p15, fun _ h => absurd h List.not_mem_nil⟩⟩⟩⟩⟩⟩⟩⟩⟩⟩⟩⟩⟩⟩⟩⟩
theorem lw_p16 : lw_okq (⟨"OilTown$Tape", "readRule", "(I)V"⟩, 9) := ⟨⟨by decide +kernel, by decide +kernel⟩, List.mem_of_getElem? (i := 284) (by decide +kernel), List.mem_of_getElem? (i := 882) (by decide +kernel), List.mem_of_getElem? (i := 883) (by decide +kernel)⟩
theorem lw_p17 : lw_okq (⟨"OilTown", "isRace", "(IIII)Z"⟩, 10) := ⟨⟨by decide +kernel, by decide +kernel⟩, List.mem_of_getElem? (i := 22) (by decide +kernel), List.mem_of_getElem? (i := 941) (by decide +kernel), List.mem_of_getElem? (i := 942) (by decide +kernel)⟩
theorem lw_p18 : lw_okq (⟨"OilTown", "haveSpots", "(I)Z"⟩, 10) := ⟨⟨by decide +kernel, by decide +kernel⟩, List.mem_of_getElem? (i := 22) (by decide +kernel), List.mem_of_getElem? (i := 945) (by decide +kernel), List.mem_of_getElem? (i := 946) (by decide +kernel)⟩
theorem lw_p19 : lw_okq (⟨"OilTown$Race", "drawAll", "(LOilTown$Wells;[II)V"⟩, 8) := ⟨⟨by decide +kernel, by decide +kernel⟩, List.mem_of_getElem? (i := 385) (by decide +kernel), List.mem_of_getElem? (i := 963) (by decide +kernel), List.mem_of_getElem? (i := 964) (by decide +kernel)⟩
theorem lw_p20 : lw_okq (⟨"OilTown$Race", "drawFrom", "(II)I"⟩, 8) := ⟨⟨by decide +kernel, by decide +kernel⟩, List.mem_of_getElem? (i := 385) (by decide +kernel), List.mem_of_getElem? (i := 967) (by decide +kernel), List.mem_of_getElem? (i := 968) (by decide +kernel)⟩
theorem lw_p21 : lw_okq (⟨"OilTown$Race", "isSteady", "(I)Z"⟩, 8) := ⟨⟨by decide +kernel, by decide +kernel⟩, List.mem_of_getElem? (i := 385) (by decide +kernel), List.mem_of_getElem? (i := 998) (by decide +kernel), List.mem_of_getElem? (i := 999) (by decide +kernel)⟩
theorem lw_p22 : lw_okq (⟨"OilTown$Race", "sumOf", "(I)I"⟩, 8) := ⟨⟨by decide +kernel, by decide +kernel⟩, List.mem_of_getElem? (i := 385) (by decide +kernel), List.mem_of_getElem? (i := 1011) (by decide +kernel), List.mem_of_getElem? (i := 1012) (by decide +kernel)⟩
theorem lw_p23 : lw_okq (⟨"OilTown", "tellOilFrom", "(LOilTown$Sheet;I)V"⟩, 10) := ⟨⟨by decide +kernel, by decide +kernel⟩, List.mem_of_getElem? (i := 22) (by decide +kernel), List.mem_of_getElem? (i := 1087) (by decide +kernel), List.mem_of_getElem? (i := 1088) (by decide +kernel)⟩
theorem lw_p24 : lw_okq (⟨"OilTown$Pool", "sumOverCells", "([I)I"⟩, 9) := ⟨⟨by decide +kernel, by decide +kernel⟩, List.mem_of_getElem? (i := 42) (by decide +kernel), List.mem_of_getElem? (i := 1099) (by decide +kernel), List.mem_of_getElem? (i := 1100) (by decide +kernel)⟩
theorem lw_p25 : lw_okq (⟨"OilTownModel", "isCell", "(I)Z"⟩, 65) := ⟨⟨by decide +kernel, by decide +kernel⟩, List.mem_of_getElem? (i := 1118) (by decide +kernel), List.mem_of_getElem? (i := 1332) (by decide +kernel), List.mem_of_getElem? (i := 1333) (by decide +kernel)⟩
theorem lw_p26 : lw_okq (⟨"OilTownModel", "cells", "()I"⟩, 65) := ⟨⟨by decide +kernel, by decide +kernel⟩, List.mem_of_getElem? (i := 1118) (by decide +kernel), List.mem_of_getElem? (i := 1336) (by decide +kernel), List.mem_of_getElem? (i := 1337) (by decide +kernel)⟩
theorem lw_p27 : lw_okq (⟨"OilTownModel", "putOil", "(II)V"⟩, 65) := ⟨⟨by decide +kernel, by decide +kernel⟩, List.mem_of_getElem? (i := 1118) (by decide +kernel), List.mem_of_getElem? (i := 1342) (by decide +kernel), List.mem_of_getElem? (i := 1343) (by decide +kernel)⟩
theorem lw_p28 : lw_okq (⟨"OilTownModel", "oilOf", "(I)I"⟩, 65) := ⟨⟨by decide +kernel, by decide +kernel⟩, List.mem_of_getElem? (i := 1118) (by decide +kernel), List.mem_of_getElem? (i := 1360) (by decide +kernel), List.mem_of_getElem? (i := 1361) (by decide +kernel)⟩
theorem lw_p29 : lw_okq (⟨"OilTownModel", "pushOf", "(I)I"⟩, 65) := ⟨⟨by decide +kernel, by decide +kernel⟩, List.mem_of_getElem? (i := 1118) (by decide +kernel), List.mem_of_getElem? (i := 1364) (by decide +kernel), List.mem_of_getElem? (i := 1365) (by decide +kernel)⟩
theorem lw_p30 : lw_okq (⟨"OilTownModel", "step", "()I"⟩, 65) := ⟨⟨by decide +kernel, by decide +kernel⟩, List.mem_of_getElem? (i := 1118) (by decide +kernel), List.mem_of_getElem? (i := 1372) (by decide +kernel), List.mem_of_getElem? (i := 1373) (by decide +kernel)⟩
theorem lw_p31 : lw_okq (⟨"OilTownModel", "draws", "()I"⟩, 65) := ⟨⟨by decide +kernel, by decide +kernel⟩, List.mem_of_getElem? (i := 1118) (by decide +kernel), List.mem_of_getElem? (i := 1376) (by decide +kernel), List.mem_of_getElem? (i := 1377) (by decide +kernel)⟩
def lw_privs_2 : List (MethodName × Nat) := [(⟨"OilTown$Tape", "readRule", "(I)V"⟩, 9), (⟨"OilTown", "isRace", "(IIII)Z"⟩, 10), (⟨"OilTown", "haveSpots", "(I)Z"⟩, 10), (⟨"OilTown$Race", "drawAll", "(LOilTown$Wells;[II)V"⟩, 8), (⟨"OilTown$Race", "drawFrom", "(II)I"⟩, 8), (⟨"OilTown$Race", "isSteady", "(I)Z"⟩, 8), (⟨"OilTown$Race", "sumOf", "(I)I"⟩, 8), (⟨"OilTown", "tellOilFrom", "(LOilTown$Sheet;I)V"⟩, 10), (⟨"OilTown$Pool", "sumOverCells", "([I)I"⟩, 9), (⟨"OilTownModel", "isCell", "(I)Z"⟩, 65), (⟨"OilTownModel", "cells", "()I"⟩, 65), (⟨"OilTownModel", "putOil", "(II)V"⟩, 65), (⟨"OilTownModel", "oilOf", "(I)I"⟩, 65), (⟨"OilTownModel", "pushOf", "(I)I"⟩, 65), (⟨"OilTownModel", "step", "()I"⟩, 65), (⟨"OilTownModel", "draws", "()I"⟩, 65)]
theorem lw_r2 : ∀ q ∈ lw_privs_2, lw_okq q := List.forall_mem_cons.mpr ⟨lw_p16, List.forall_mem_cons.mpr ⟨lw_p17, List.forall_mem_cons.mpr ⟨lw_p18, List.forall_mem_cons.mpr ⟨lw_p19, List.forall_mem_cons.mpr ⟨lw_p20, List.forall_mem_cons.mpr ⟨lw_p21, List.forall_mem_cons.mpr ⟨lw_p22, List.forall_mem_cons.mpr ⟨lw_p23, List.forall_mem_cons.mpr ⟨lw_p24, List.forall_mem_cons.mpr ⟨lw_p25, List.forall_mem_cons.mpr ⟨lw_p26, List.forall_mem_cons.mpr ⟨lw_p27, List.forall_mem_cons.mpr ⟨lw_p28, List.forall_mem_cons.mpr ⟨lw_p29, List.forall_mem_cons.mpr ⟨lw_p30, List.forall_mem_cons.mpr ⟨lw_p31, fun _ h => absurd h List.not_mem_nil⟩⟩⟩⟩⟩⟩⟩⟩⟩⟩⟩⟩⟩⟩⟩⟩
theorem lw_p32 : lw_okq (⟨"OilTownModel", "take", "(II)V"⟩, 65) := ⟨⟨by decide +kernel, by decide +kernel⟩, List.mem_of_getElem? (i := 1118) (by decide +kernel), List.mem_of_getElem? (i := 1380) (by decide +kernel), List.mem_of_getElem? (i := 1381) (by decide +kernel)⟩
theorem lw_p33 : lw_okq (⟨"OilTownModel", "shift", "()I"⟩, 65) := ⟨⟨by decide +kernel, by decide +kernel⟩, List.mem_of_getElem? (i := 1118) (by decide +kernel), List.mem_of_getElem? (i := 1384) (by decide +kernel), List.mem_of_getElem? (i := 1385) (by decide +kernel)⟩
theorem lw_p34 : lw_okq (⟨"OilTownModel", "flows", "()V"⟩, 65) := ⟨⟨by decide +kernel, by decide +kernel⟩, List.mem_of_getElem? (i := 1118) (by decide +kernel), List.mem_of_getElem? (i := 1388) (by decide +kernel), List.mem_of_getElem? (i := 1389) (by decide +kernel)⟩
theorem lw_p35 : lw_okq (⟨"OilTownModel", "flowOf", "(I)V"⟩, 65) := ⟨⟨by decide +kernel, by decide +kernel⟩, List.mem_of_getElem? (i := 1118) (by decide +kernel), List.mem_of_getElem? (i := 1392) (by decide +kernel), List.mem_of_getElem? (i := 1393) (by decide +kernel)⟩
theorem lw_p36 : lw_okq (⟨"OilTownModel", "wantOf", "(II)I"⟩, 65) := ⟨⟨by decide +kernel, by decide +kernel⟩, List.mem_of_getElem? (i := 1118) (by decide +kernel), List.mem_of_getElem? (i := 1396) (by decide +kernel), List.mem_of_getElem? (i := 1397) (by decide +kernel)⟩
theorem lw_p37 : lw_okq (⟨"OilTownModel", "beside", "(II)I"⟩, 65) := ⟨⟨by decide +kernel, by decide +kernel⟩, List.mem_of_getElem? (i := 1118) (by decide +kernel), List.mem_of_getElem? (i := 1400) (by decide +kernel), List.mem_of_getElem? (i := 1401) (by decide +kernel)⟩
theorem lw_p38 : lw_okq (⟨"OilTownModel", "isPerson", "(I)Z"⟩, 65) := ⟨⟨by decide +kernel, by decide +kernel⟩, List.mem_of_getElem? (i := 1118) (by decide +kernel), List.mem_of_getElem? (i := 1412) (by decide +kernel), List.mem_of_getElem? (i := 1413) (by decide +kernel)⟩
theorem lw_p39 : lw_okq (⟨"OilTownModel", "hasEnded", "(I)Z"⟩, 65) := ⟨⟨by decide +kernel, by decide +kernel⟩, List.mem_of_getElem? (i := 1118) (by decide +kernel), List.mem_of_getElem? (i := 1425) (by decide +kernel), List.mem_of_getElem? (i := 1426) (by decide +kernel)⟩
theorem lw_p40 : lw_okq (⟨"OilTownModel", "holderOf", "(I)I"⟩, 65) := ⟨⟨by decide +kernel, by decide +kernel⟩, List.mem_of_getElem? (i := 1118) (by decide +kernel), List.mem_of_getElem? (i := 1433) (by decide +kernel), List.mem_of_getElem? (i := 1434) (by decide +kernel)⟩
theorem lw_p41 : lw_okq (⟨"OilTownModel", "hotOf", "(I)I"⟩, 65) := ⟨⟨by decide +kernel, by decide +kernel⟩, List.mem_of_getElem? (i := 1118) (by decide +kernel), List.mem_of_getElem? (i := 1441) (by decide +kernel), List.mem_of_getElem? (i := 1442) (by decide +kernel)⟩
theorem lw_p42 : lw_okq (⟨"OilTownModel", "hotIn", "(II)I"⟩, 65) := ⟨⟨by decide +kernel, by decide +kernel⟩, List.mem_of_getElem? (i := 1118) (by decide +kernel), List.mem_of_getElem? (i := 1445) (by decide +kernel), List.mem_of_getElem? (i := 1446) (by decide +kernel)⟩
theorem lw_p43 : lw_okq (⟨"OilTownModel", "letOf", "(II)I"⟩, 65) := ⟨⟨by decide +kernel, by decide +kernel⟩, List.mem_of_getElem? (i := 1118) (by decide +kernel), List.mem_of_getElem? (i := 1449) (by decide +kernel), List.mem_of_getElem? (i := 1450) (by decide +kernel)⟩
theorem lw_p44 : lw_okq (⟨"OilTownModel", "lineAt", "(II)I"⟩, 65) := ⟨⟨by decide +kernel, by decide +kernel⟩, List.mem_of_getElem? (i := 1118) (by decide +kernel), List.mem_of_getElem? (i := 1453) (by decide +kernel), List.mem_of_getElem? (i := 1454) (by decide +kernel)⟩
theorem lw_p45 : lw_okq (⟨"OilTownModel", "whyNow", "(II)I"⟩, 65) := ⟨⟨by decide +kernel, by decide +kernel⟩, List.mem_of_getElem? (i := 1118) (by decide +kernel), List.mem_of_getElem? (i := 1462) (by decide +kernel), List.mem_of_getElem? (i := 1463) (by decide +kernel)⟩
theorem lw_p46 : lw_okq (⟨"OilTownModel", "whyNot", "(IIII)I"⟩, 65) := ⟨⟨by decide +kernel, by decide +kernel⟩, List.mem_of_getElem? (i := 1118) (by decide +kernel), List.mem_of_getElem? (i := 1466) (by decide +kernel), List.mem_of_getElem? (i := 1467) (by decide +kernel)⟩
theorem lw_p47 : lw_okq (⟨"OilTownModel", "isExcepted", "(I)Z"⟩, 65) := ⟨⟨by decide +kernel, by decide +kernel⟩, List.mem_of_getElem? (i := 1118) (by decide +kernel), List.mem_of_getElem? (i := 1470) (by decide +kernel), List.mem_of_getElem? (i := 1471) (by decide +kernel)⟩
def lw_privs_3 : List (MethodName × Nat) := [(⟨"OilTownModel", "take", "(II)V"⟩, 65), (⟨"OilTownModel", "shift", "()I"⟩, 65), (⟨"OilTownModel", "flows", "()V"⟩, 65), (⟨"OilTownModel", "flowOf", "(I)V"⟩, 65), (⟨"OilTownModel", "wantOf", "(II)I"⟩, 65), (⟨"OilTownModel", "beside", "(II)I"⟩, 65), (⟨"OilTownModel", "isPerson", "(I)Z"⟩, 65), (⟨"OilTownModel", "hasEnded", "(I)Z"⟩, 65), (⟨"OilTownModel", "holderOf", "(I)I"⟩, 65), (⟨"OilTownModel", "hotOf", "(I)I"⟩, 65), (⟨"OilTownModel", "hotIn", "(II)I"⟩, 65), (⟨"OilTownModel", "letOf", "(II)I"⟩, 65), (⟨"OilTownModel", "lineAt", "(II)I"⟩, 65), (⟨"OilTownModel", "whyNow", "(II)I"⟩, 65), (⟨"OilTownModel", "whyNot", "(IIII)I"⟩, 65), (⟨"OilTownModel", "isExcepted", "(I)Z"⟩, 65)]
theorem lw_r3 : ∀ q ∈ lw_privs_3, lw_okq q := List.forall_mem_cons.mpr ⟨lw_p32, List.forall_mem_cons.mpr ⟨lw_p33, List.forall_mem_cons.mpr ⟨lw_p34, List.forall_mem_cons.mpr ⟨lw_p35, List.forall_mem_cons.mpr ⟨lw_p36, List.forall_mem_cons.mpr ⟨lw_p37, List.forall_mem_cons.mpr ⟨lw_p38, List.forall_mem_cons.mpr ⟨lw_p39, List.forall_mem_cons.mpr ⟨lw_p40, List.forall_mem_cons.mpr ⟨lw_p41, List.forall_mem_cons.mpr ⟨lw_p42, List.forall_mem_cons.mpr ⟨lw_p43, List.forall_mem_cons.mpr ⟨lw_p44, List.forall_mem_cons.mpr ⟨lw_p45, List.forall_mem_cons.mpr ⟨lw_p46, List.forall_mem_cons.mpr ⟨lw_p47, fun _ h => absurd h List.not_mem_nil⟩⟩⟩⟩⟩⟩⟩⟩⟩⟩⟩⟩⟩⟩⟩⟩
theorem lw_p48 : lw_okq (⟨"OilTownModel", "howFar", "(II)I"⟩, 65) := ⟨⟨by decide +kernel, by decide +kernel⟩, List.mem_of_getElem? (i := 1118) (by decide +kernel), List.mem_of_getElem? (i := 1474) (by decide +kernel), List.mem_of_getElem? (i := 1475) (by decide +kernel)⟩
theorem lw_p49 : lw_okq (⟨"OilTownModel", "addWell", "(III)V"⟩, 65) := ⟨⟨by decide +kernel, by decide +kernel⟩, List.mem_of_getElem? (i := 1118) (by decide +kernel), List.mem_of_getElem? (i := 1478) (by decide +kernel), List.mem_of_getElem? (i := 1479) (by decide +kernel)⟩
theorem lw_p50 : lw_okq (⟨"OilTownModel", "isWell", "(I)Z"⟩, 65) := ⟨⟨by decide +kernel, by decide +kernel⟩, List.mem_of_getElem? (i := 1118) (by decide +kernel), List.mem_of_getElem? (i := 1490) (by decide +kernel), List.mem_of_getElem? (i := 1491) (by decide +kernel)⟩
theorem lw_p51 : lw_okq (⟨"OilTownModel", "priceOf", "(I)I"⟩, 65) := ⟨⟨by decide +kernel, by decide +kernel⟩, List.mem_of_getElem? (i := 1118) (by decide +kernel), List.mem_of_getElem? (i := 1512) (by decide +kernel), List.mem_of_getElem? (i := 1513) (by decide +kernel)⟩
theorem lw_p52 : lw_okq (⟨"OilTownModel", "next", "()V"⟩, 65) := ⟨⟨by decide +kernel, by decide +kernel⟩, List.mem_of_getElem? (i := 1118) (by decide +kernel), List.mem_of_getElem? (i := 1532) (by decide +kernel), List.mem_of_getElem? (i := 1533) (by decide +kernel)⟩
theorem lw_p53 : lw_okq (⟨"OilTownModel", "byteAt", "(I)I"⟩, 65) := ⟨⟨by decide +kernel, by decide +kernel⟩, List.mem_of_getElem? (i := 1118) (by decide +kernel), List.mem_of_getElem? (i := 1536) (by decide +kernel), List.mem_of_getElem? (i := 1537) (by decide +kernel)⟩
theorem lw_p54 : lw_okq (⟨"OilTownModel", "nameAt", "(II)I"⟩, 65) := ⟨⟨by decide +kernel, by decide +kernel⟩, List.mem_of_getElem? (i := 1118) (by decide +kernel), List.mem_of_getElem? (i := 1542) (by decide +kernel), List.mem_of_getElem? (i := 1543) (by decide +kernel)⟩
theorem lw_p55 : lw_okq (⟨"OilTownModel", "fails", "(I)V"⟩, 65) := ⟨⟨by decide +kernel, by decide +kernel⟩, List.mem_of_getElem? (i := 1118) (by decide +kernel), List.mem_of_getElem? (i := 1546) (by decide +kernel), List.mem_of_getElem? (i := 1547) (by decide +kernel)⟩
theorem lw_p56 : lw_okq (⟨"OilTownModel", "oneLine", "()V"⟩, 65) := ⟨⟨by decide +kernel, by decide +kernel⟩, List.mem_of_getElem? (i := 1118) (by decide +kernel), List.mem_of_getElem? (i := 1552) (by decide +kernel), List.mem_of_getElem? (i := 1553) (by decide +kernel)⟩
theorem lw_p57 : lw_okq (⟨"OilTownModel", "number", "(I)I"⟩, 65) := ⟨⟨by decide +kernel, by decide +kernel⟩, List.mem_of_getElem? (i := 1118) (by decide +kernel), List.mem_of_getElem? (i := 1556) (by decide +kernel), List.mem_of_getElem? (i := 1557) (by decide +kernel)⟩
theorem lw_p58 : lw_okq (⟨"OilTownModel", "once", "(III)V"⟩, 65) := ⟨⟨by decide +kernel, by decide +kernel⟩, List.mem_of_getElem? (i := 1118) (by decide +kernel), List.mem_of_getElem? (i := 1560) (by decide +kernel), List.mem_of_getElem? (i := 1561) (by decide +kernel)⟩
theorem lw_p59 : lw_okq (⟨"OilTownModel", "hotAll", "()I"⟩, 65) := ⟨⟨by decide +kernel, by decide +kernel⟩, List.mem_of_getElem? (i := 1118) (by decide +kernel), List.mem_of_getElem? (i := 1578) (by decide +kernel), List.mem_of_getElem? (i := 1579) (by decide +kernel)⟩
theorem lw_p60 : lw_okq (⟨"OilTownModel", "turnPage", "(IZ)V"⟩, 65) := ⟨⟨by decide +kernel, by decide +kernel⟩, List.mem_of_getElem? (i := 1118) (by decide +kernel), List.mem_of_getElem? (i := 1590) (by decide +kernel), List.mem_of_getElem? (i := 1591) (by decide +kernel)⟩
theorem lw_p61 : lw_okq (⟨"OilTownModel", "turnLand", "()V"⟩, 65) := ⟨⟨by decide +kernel, by decide +kernel⟩, List.mem_of_getElem? (i := 1118) (by decide +kernel), List.mem_of_getElem? (i := 1594) (by decide +kernel), List.mem_of_getElem? (i := 1595) (by decide +kernel)⟩
theorem lw_p62 : lw_okq (⟨"OilTownModel", "turn", "(I)I"⟩, 65) := ⟨⟨by decide +kernel, by decide +kernel⟩, List.mem_of_getElem? (i := 1118) (by decide +kernel), List.mem_of_getElem? (i := 1598) (by decide +kernel), List.mem_of_getElem? (i := 1599) (by decide +kernel)⟩
theorem lw_p63 : lw_okq (⟨"OilTownModel", "turnPapers", "()V"⟩, 65) := ⟨⟨by decide +kernel, by decide +kernel⟩, List.mem_of_getElem? (i := 1118) (by decide +kernel), List.mem_of_getElem? (i := 1602) (by decide +kernel), List.mem_of_getElem? (i := 1603) (by decide +kernel)⟩
def lw_privs_4 : List (MethodName × Nat) := [(⟨"OilTownModel", "howFar", "(II)I"⟩, 65), (⟨"OilTownModel", "addWell", "(III)V"⟩, 65), (⟨"OilTownModel", "isWell", "(I)Z"⟩, 65), (⟨"OilTownModel", "priceOf", "(I)I"⟩, 65), (⟨"OilTownModel", "next", "()V"⟩, 65), (⟨"OilTownModel", "byteAt", "(I)I"⟩, 65), (⟨"OilTownModel", "nameAt", "(II)I"⟩, 65), (⟨"OilTownModel", "fails", "(I)V"⟩, 65), (⟨"OilTownModel", "oneLine", "()V"⟩, 65), (⟨"OilTownModel", "number", "(I)I"⟩, 65), (⟨"OilTownModel", "once", "(III)V"⟩, 65), (⟨"OilTownModel", "hotAll", "()I"⟩, 65), (⟨"OilTownModel", "turnPage", "(IZ)V"⟩, 65), (⟨"OilTownModel", "turnLand", "()V"⟩, 65), (⟨"OilTownModel", "turn", "(I)I"⟩, 65), (⟨"OilTownModel", "turnPapers", "()V"⟩, 65)]
theorem lw_r4 : ∀ q ∈ lw_privs_4, lw_okq q := List.forall_mem_cons.mpr ⟨lw_p48, List.forall_mem_cons.mpr ⟨lw_p49, List.forall_mem_cons.mpr ⟨lw_p50, List.forall_mem_cons.mpr ⟨lw_p51, List.forall_mem_cons.mpr ⟨lw_p52, List.forall_mem_cons.mpr ⟨lw_p53, List.forall_mem_cons.mpr ⟨lw_p54, List.forall_mem_cons.mpr ⟨lw_p55, List.forall_mem_cons.mpr ⟨lw_p56, List.forall_mem_cons.mpr ⟨lw_p57, List.forall_mem_cons.mpr ⟨lw_p58, List.forall_mem_cons.mpr ⟨lw_p59, List.forall_mem_cons.mpr ⟨lw_p60, List.forall_mem_cons.mpr ⟨lw_p61, List.forall_mem_cons.mpr ⟨lw_p62, List.forall_mem_cons.mpr ⟨lw_p63, fun _ h => absurd h List.not_mem_nil⟩⟩⟩⟩⟩⟩⟩⟩⟩⟩⟩⟩⟩⟩⟩⟩
theorem lw_p64 : lw_okq (⟨"OilTownModel", "isRace", "(IIII)Z"⟩, 65) := ⟨⟨by decide +kernel, by decide +kernel⟩, List.mem_of_getElem? (i := 1118) (by decide +kernel), List.mem_of_getElem? (i := 1618) (by decide +kernel), List.mem_of_getElem? (i := 1619) (by decide +kernel)⟩
theorem lw_p65 : lw_okq (⟨"OilTownModel", "haveSpots", "(I)Z"⟩, 65) := ⟨⟨by decide +kernel, by decide +kernel⟩, List.mem_of_getElem? (i := 1118) (by decide +kernel), List.mem_of_getElem? (i := 1624) (by decide +kernel), List.mem_of_getElem? (i := 1625) (by decide +kernel)⟩
theorem lw_p66 : lw_okq (⟨"OilTownModel", "race", "(IIIII)V"⟩, 65) := ⟨⟨by decide +kernel, by decide +kernel⟩, List.mem_of_getElem? (i := 1118) (by decide +kernel), List.mem_of_getElem? (i := 1628) (by decide +kernel), List.mem_of_getElem? (i := 1629) (by decide +kernel)⟩
theorem lw_p67 : lw_okq (⟨"OilTownModel", "raceAll", "(IIII)V"⟩, 65) := ⟨⟨by decide +kernel, by decide +kernel⟩, List.mem_of_getElem? (i := 1118) (by decide +kernel), List.mem_of_getElem? (i := 1637) (by decide +kernel), List.mem_of_getElem? (i := 1638) (by decide +kernel)⟩
theorem lw_p68 : lw_okq (⟨"OilTownModel", "isSteady", "(II)Z"⟩, 65) := ⟨⟨by decide +kernel, by decide +kernel⟩, List.mem_of_getElem? (i := 1118) (by decide +kernel), List.mem_of_getElem? (i := 1641) (by decide +kernel), List.mem_of_getElem? (i := 1642) (by decide +kernel)⟩
theorem lw_p69 : lw_okq (⟨"OilTownModel", "sumOf", "(II)I"⟩, 65) := ⟨⟨by decide +kernel, by decide +kernel⟩, List.mem_of_getElem? (i := 1118) (by decide +kernel), List.mem_of_getElem? (i := 1645) (by decide +kernel), List.mem_of_getElem? (i := 1646) (by decide +kernel)⟩
def lw_privs_5 : List (MethodName × Nat) := [(⟨"OilTownModel", "isRace", "(IIII)Z"⟩, 65), (⟨"OilTownModel", "haveSpots", "(I)Z"⟩, 65), (⟨"OilTownModel", "race", "(IIIII)V"⟩, 65), (⟨"OilTownModel", "raceAll", "(IIII)V"⟩, 65), (⟨"OilTownModel", "isSteady", "(II)Z"⟩, 65), (⟨"OilTownModel", "sumOf", "(II)I"⟩, 65)]
theorem lw_r5 : ∀ q ∈ lw_privs_5, lw_okq q := List.forall_mem_cons.mpr ⟨lw_p64, List.forall_mem_cons.mpr ⟨lw_p65, List.forall_mem_cons.mpr ⟨lw_p66, List.forall_mem_cons.mpr ⟨lw_p67, List.forall_mem_cons.mpr ⟨lw_p68, List.forall_mem_cons.mpr ⟨lw_p69, fun _ h => absurd h List.not_mem_nil⟩⟩⟩⟩⟩⟩
def lw_privs : List (MethodName × Nat) := lw_privs_1 ++ (lw_privs_2 ++ (lw_privs_3 ++ (lw_privs_4 ++ (lw_privs_5))))
def lw_tbl : List Cond := k2_sels lw_privs ++ tables_1
theorem lw_privs_ok : ∀ q ∈ lw_privs, lw_okq q := by
  show ∀ q ∈ lw_privs_1 ++ (lw_privs_2 ++ (lw_privs_3 ++ (lw_privs_4 ++ (lw_privs_5)))), lw_okq q
  exact List.forall_mem_append.mpr ⟨lw_r1, List.forall_mem_append.mpr ⟨lw_r2, List.forall_mem_append.mpr ⟨lw_r3, List.forall_mem_append.mpr ⟨lw_r4, lw_r5⟩⟩⟩⟩
/-! ===== BEGIN words of one list among another's, by their places ===== -/
theorem goodIn_r {big : List Cond} (ws : List Cond) (ps : List Nat) (hp : ws = ps.filterMap (fun i => big[i]?)) (h : ws.all goodWord = true) : GoodIn big ws := by
  intro w hw
  have h1 := List.all_eq_true.mp h w hw
  rw [hp] at hw
  obtain ⟨i, -, hi⟩ := List.mem_filterMap.mp hw
  have hm : w ∈ big := by first | exact List.mem_of_getElem? hi | exact List.getElem?_mem hi
  exact ⟨hm, good_of_word h1⟩
theorem goodIn_app {big a b : List Cond} (ha : GoodIn big a) (hb : GoodIn big b) : GoodIn big (a ++ b) := fun w h => (List.mem_append.mp h).elim (ha w) (hb w)
theorem goodIn_ca {big a b : List Cond} {c : Cond} (ha : GoodIn big (c :: a)) (hb : GoodIn big b) : GoodIn big (c :: (a ++ b)) := fun w h => (List.mem_cons.mp h).elim (fun e => ha w (List.mem_cons.mpr (Or.inl e))) (fun h => (List.mem_append.mp h).elim (fun h => ha w (List.mem_cons.mpr (Or.inr h))) (hb w))
theorem goodIn_sub {big ws : List Cond} (hm : ∀ w ∈ ws, w ∈ big) (h : ws.all goodWord = true) : GoodIn big ws := fun w hw => ⟨hm w hw, good_of_word (List.all_eq_true.mp h w hw)⟩
/-! ===== END ===== -/

/-! ===== BEGIN printed: names, fields, word lists, decode rows ===== -/
def RX0 : String := "OilTown$Books"
def TX0 : u_T := fun k => match k with
  | 0 => ("OilTown$Books", "tank", "[I", true)
  | 1 => ("OilTown$Books", "sold", "[I", true)
  | 2 => ("OilTown$Books", "paid", "[I", true)
  | _ => ("OilTown$Books", "soldByShift", "[I", true)
def tyX0 : Nat → FieldType := fun k => match k with
  | 0 => .array .int
  | 1 => .array .int
  | 2 => .array .int
  | _ => .array .int
abbrev wsX00 : List Cond := u_ws RX0 TX0 4
theorem nmX0 : ∀ a, a < 4 → ∀ b, b < 4 → a ≠ b → (TX0 a).2.1 ≠ (TX0 b).2.1 := by decide +kernel
theorem tyX0_ok : ∀ k, k < 4 → parseFieldDescriptor (TX0 k).2.2.1 = some (tyX0 k) := by decide +kernel
abbrev cX0_init : ByteArray := prog_2_method_1_code
def yX0_init : MethodName := ⟨RX0, "<init>", "()V"⟩
abbrev cX0_clear : ByteArray := prog_2_method_2_code
def yX0_clear : MethodName := ⟨RX0, "clear", "()V"⟩
abbrev cX0_copyFrom : ByteArray := prog_2_method_3_code
def yX0_copyFrom : MethodName := ⟨RX0, "copyFrom", "(LOilTown$Books;)V"⟩
abbrev cX0_priceIn : ByteArray := prog_2_method_4_code
def yX0_priceIn : MethodName := ⟨RX0, "priceIn", "(I)I"⟩
abbrev cX0_sellAt : ByteArray := prog_2_method_5_code
def yX0_sellAt : MethodName := ⟨RX0, "sellAt", "(III)I"⟩
abbrev cX0_allInTanks : ByteArray := prog_2_method_6_code
def yX0_allInTanks : MethodName := ⟨RX0, "allInTanks", "()I"⟩
abbrev cX0_allSold : ByteArray := prog_2_method_7_code
def yX0_allSold : MethodName := ⟨RX0, "allSold", "()I"⟩
abbrev cX0_sumOverPersons : ByteArray := prog_2_method_8_code
def yX0_sumOverPersons : MethodName := ⟨RX0, "sumOverPersons", "([I)I"⟩
def RX1 : String := "OilTown$Currents"
def TX1 : u_T := fun k => match k with
  | 0 => ("OilTown$Currents", "taken", "[I", true)
  | 1 => ("OilTown$Currents", "wants", "[J", true)
  | 2 => ("OilTown$Currents", "size", "I", false)
  | 3 => ("OilTown$Currents", "from", "[I", true)
  | 4 => ("OilTown$Currents", "to", "[I", true)
  | 5 => ("OilTown$Currents", "oil", "[I", true)
  | 6 => ("OilTown$Currents", "water", "[I", true)
  | _ => ("OilTown$Currents", "arrives", "[I", true)
def tyX1 : Nat → FieldType := fun k => match k with
  | 0 => .array .int
  | 1 => .array .long
  | 2 => .int
  | 3 => .array .int
  | 4 => .array .int
  | 5 => .array .int
  | 6 => .array .int
  | _ => .array .int
abbrev wsX10 : List Cond := u_ws RX1 TX1 8
theorem nmX1 : ∀ a, a < 8 → ∀ b, b < 8 → a ≠ b → (TX1 a).2.1 ≠ (TX1 b).2.1 := by decide +kernel
theorem tyX1_ok : ∀ k, k < 8 → parseFieldDescriptor (TX1 k).2.2.1 = some (tyX1 k) := by decide +kernel
abbrev cX1_init : ByteArray := prog_3_method_1_code
def yX1_init : MethodName := ⟨RX1, "<init>", "()V"⟩
abbrev cX1_measure : ByteArray := prog_3_method_2_code
def yX1_measure : MethodName := ⟨RX1, "measure", "(LOilTown$Pool;)V"⟩
abbrev cX1_measureCell : ByteArray := prog_3_method_3_code
def yX1_measureCell : MethodName := ⟨RX1, "measureCell", "(LOilTown$Pool;I)V"⟩
abbrev cX1_wantOf : ByteArray := prog_3_method_4_code
def yX1_wantOf : MethodName := ⟨RX1, "wantOf", "(LOilTown$Pool;II)J"⟩
abbrev cX1_add : ByteArray := prog_3_method_5_code
def yX1_add : MethodName := ⟨RX1, "add", "(LOilTown$Pool;IIJ)V"⟩
abbrev cX1_movePool : ByteArray := prog_3_method_6_code
def yX1_movePool : MethodName := ⟨RX1, "movePool", "(LOilTown$Pool;)V"⟩
abbrev cX1_moveGround : ByteArray := prog_3_method_7_code
def yX1_moveGround : MethodName := ⟨RX1, "moveGround", "(LOilTown$Ground;)V"⟩
abbrev cX1_moveWater : ByteArray := prog_3_method_8_code
def yX1_moveWater : MethodName := ⟨RX1, "moveWater", "(LOilTown$Pool;)V"⟩
def RX2 : String := "OilTown$Deeds"
def TX2 : u_T := fun k => match k with
  | 0 => ("OilTown$Deeds", "ownerOf", "[I", true)
  | 1 => ("OilTown$Deeds", "size", "I", false)
  | 2 => ("OilTown$Deeds", "lot", "[I", true)
  | 3 => ("OilTown$Deeds", "person", "[I", true)
  | 4 => ("OilTown$Deeds", "until", "[I", true)
  | _ => ("OilTown$Deeds", "stamp", "[I", true)
def tyX2 : Nat → FieldType := fun k => match k with
  | 0 => .array .int
  | 1 => .int
  | 2 => .array .int
  | 3 => .array .int
  | 4 => .array .int
  | _ => .array .int
abbrev wsX20 : List Cond := u_ws RX2 TX2 6
theorem nmX2 : ∀ a, a < 6 → ∀ b, b < 6 → a ≠ b → (TX2 a).2.1 ≠ (TX2 b).2.1 := by decide +kernel
theorem tyX2_ok : ∀ k, k < 6 → parseFieldDescriptor (TX2 k).2.2.1 = some (tyX2 k) := by decide +kernel
abbrev cX2_init : ByteArray := prog_4_method_1_code
def yX2_init : MethodName := ⟨RX2, "<init>", "()V"⟩
abbrev cX2_clear : ByteArray := prog_4_method_2_code
def yX2_clear : MethodName := ⟨RX2, "clear", "()V"⟩
abbrev cX2_copyFrom : ByteArray := prog_4_method_3_code
def yX2_copyFrom : MethodName := ⟨RX2, "copyFrom", "(LOilTown$Deeds;)V"⟩
abbrev cX2_add : ByteArray := prog_4_method_4_code
def yX2_add : MethodName := ⟨RX2, "add", "(IIII)I"⟩
def RX3 : String := "OilTown$Ground"
def TX3 : u_T := fun k => match k with
  | 0 => ("OilTown$Ground", "pool", "LOilTown$Pool;", true)
  | 1 => ("OilTown$Ground", "lotOf", "[I", true)
  | _ => ("OilTown$Ground", "oilByLot", "[I", true)
def tyX3 : Nat → FieldType := fun k => match k with
  | 0 => .object "OilTown$Pool"
  | 1 => .array .int
  | _ => .array .int
abbrev wsX30 : List Cond := u_ws RX3 TX3 3
theorem nmX3 : ∀ a, a < 3 → ∀ b, b < 3 → a ≠ b → (TX3 a).2.1 ≠ (TX3 b).2.1 := by decide +kernel
theorem tyX3_ok : ∀ k, k < 3 → parseFieldDescriptor (TX3 k).2.2.1 = some (tyX3 k) := by decide +kernel
abbrev cX3_init : ByteArray := prog_5_method_1_code
def yX3_init : MethodName := ⟨RX3, "<init>", "()V"⟩
abbrev cX3_becomeNew : ByteArray := prog_5_method_2_code
def yX3_becomeNew : MethodName := ⟨RX3, "becomeNew", "(II)V"⟩
abbrev cX3_copyFrom : ByteArray := prog_5_method_3_code
def yX3_copyFrom : MethodName := ⟨RX3, "copyFrom", "(LOilTown$Ground;)V"⟩
abbrev cX3_tellOil : ByteArray := prog_5_method_4_code
def yX3_tellOil : MethodName := ⟨RX3, "tellOil", "(II)V"⟩
abbrev cX3_take : ByteArray := prog_5_method_5_code
def yX3_take : MethodName := ⟨RX3, "take", "(II[I)V"⟩
abbrev cX3_cellsOf : ByteArray := prog_5_method_6_code
def yX3_cellsOf : MethodName := ⟨RX3, "cellsOf", "(I)I"⟩
abbrev cX3_strangerFrom : ByteArray := prog_5_method_7_code
def yX3_strangerFrom : MethodName := ⟨RX3, "strangerFrom", "(I)I"⟩
def RX4 : String := "OilTown$Orders"
def TX4 : u_T := fun k => match k with
  | 0 => ("OilTown$Orders", "size", "I", false)
  | 1 => ("OilTown$Orders", "rule", "[I", true)
  | 2 => ("OilTown$Orders", "from", "[I", true)
  | 3 => ("OilTown$Orders", "number", "[I", true)
  | _ => ("OilTown$Orders", "isVoid", "[Z", true)
def tyX4 : Nat → FieldType := fun k => match k with
  | 0 => .int
  | 1 => .array .int
  | 2 => .array .int
  | 3 => .array .int
  | _ => .array .boolean
abbrev wsX40 : List Cond := u_ws RX4 TX4 5
theorem nmX4 : ∀ a, a < 5 → ∀ b, b < 5 → a ≠ b → (TX4 a).2.1 ≠ (TX4 b).2.1 := by decide +kernel
theorem tyX4_ok : ∀ k, k < 5 → parseFieldDescriptor (TX4 k).2.2.1 = some (tyX4 k) := by decide +kernel
abbrev cX4_init : ByteArray := prog_6_method_1_code
def yX4_init : MethodName := ⟨RX4, "<init>", "()V"⟩
abbrev cX4_copyFrom : ByteArray := prog_6_method_2_code
def yX4_copyFrom : MethodName := ⟨RX4, "copyFrom", "(LOilTown$Orders;)V"⟩
abbrev cX4_add : ByteArray := prog_6_method_3_code
def yX4_add : MethodName := ⟨RX4, "add", "(III)V"⟩
abbrev cX4_tells : ByteArray := prog_6_method_4_code
def yX4_tells : MethodName := ⟨RX4, "tells", "(II)Z"⟩
abbrev cX4_tellsExcept : ByteArray := prog_6_method_5_code
def yX4_tellsExcept : MethodName := ⟨RX4, "tellsExcept", "(II)Z"⟩
abbrev cX4_lineIn : ByteArray := prog_6_method_6_code
def yX4_lineIn : MethodName := ⟨RX4, "lineIn", "(II)I"⟩
abbrev cX4_numberIn : ByteArray := prog_6_method_7_code
def yX4_numberIn : MethodName := ⟨RX4, "numberIn", "(II)I"⟩
abbrev cX4_excepts : ByteArray := prog_6_method_8_code
def yX4_excepts : MethodName := ⟨RX4, "excepts", "(II)Z"⟩
abbrev cX4_whyNot : ByteArray := prog_6_method_9_code
def yX4_whyNot : MethodName := ⟨RX4, "whyNot", "(LOilTown$Town;II)I"⟩
abbrev cX4_whyNotUnder : ByteArray := prog_6_method_10_code
def yX4_whyNotUnder : MethodName := ⟨RX4, "whyNotUnder", "(LOilTown$Town;IIII)I"⟩
abbrev cX4_letOf : ByteArray := prog_6_method_11_code
def yX4_letOf : MethodName := ⟨RX4, "letOf", "(LOilTown$Town;II)I"⟩
abbrev cX4_hotIn : ByteArray := prog_6_method_12_code
def yX4_hotIn : MethodName := ⟨RX4, "hotIn", "(LOilTown$Town;II)I"⟩
abbrev cX4_hotOfWell : ByteArray := prog_6_method_13_code
def yX4_hotOfWell : MethodName := ⟨RX4, "hotOfWell", "(LOilTown$Town;I)I"⟩
abbrev cX4_hotOfPerson : ByteArray := prog_6_method_14_code
def yX4_hotOfPerson : MethodName := ⟨RX4, "hotOfPerson", "(LOilTown$Town;I)I"⟩
abbrev cX4_hotOfAll : ByteArray := prog_6_method_15_code
def yX4_hotOfAll : MethodName := ⟨RX4, "hotOfAll", "(LOilTown$Town;)I"⟩
def RX5 : String := "OilTown$Pool"
def TX5 : u_T := fun k => match k with
  | 0 => ("OilTown$Pool", "wide", "I", false)
  | 1 => ("OilTown$Pool", "high", "I", false)
  | 2 => ("OilTown$Pool", "size", "I", false)
  | 3 => ("OilTown$Pool", "column", "[I", true)
  | 4 => ("OilTown$Pool", "row", "[I", true)
  | 5 => ("OilTown$Pool", "sand", "[I", true)
  | 6 => ("OilTown$Pool", "gas", "[I", true)
  | 7 => ("OilTown$Pool", "water", "[I", true)
  | _ => ("OilTown$Pool", "oil", "[I", true)
def tyX5 : Nat → FieldType := fun k => match k with
  | 0 => .int
  | 1 => .int
  | 2 => .int
  | 3 => .array .int
  | 4 => .array .int
  | 5 => .array .int
  | 6 => .array .int
  | 7 => .array .int
  | _ => .array .int
abbrev wsX50 : List Cond := u_ws RX5 TX5 9
theorem nmX5 : ∀ a, a < 9 → ∀ b, b < 9 → a ≠ b → (TX5 a).2.1 ≠ (TX5 b).2.1 := by decide +kernel
theorem tyX5_ok : ∀ k, k < 9 → parseFieldDescriptor (TX5 k).2.2.1 = some (tyX5 k) := by decide +kernel
abbrev cX5_init : ByteArray := prog_7_method_1_code
def yX5_init : MethodName := ⟨RX5, "<init>", "()V"⟩
abbrev cX5_becomeNew : ByteArray := prog_7_method_2_code
def yX5_becomeNew : MethodName := ⟨RX5, "becomeNew", "(II)V"⟩
abbrev cX5_copyFrom : ByteArray := prog_7_method_3_code
def yX5_copyFrom : MethodName := ⟨RX5, "copyFrom", "(LOilTown$Pool;)V"⟩
abbrev cX5_has : ByteArray := prog_7_method_4_code
def yX5_has : MethodName := ⟨RX5, "has", "(I)Z"⟩
abbrev cX5_liquid : ByteArray := prog_7_method_5_code
def yX5_liquid : MethodName := ⟨RX5, "liquid", "(I)I"⟩
abbrev cX5_push : ByteArray := prog_7_method_6_code
def yX5_push : MethodName := ⟨RX5, "push", "(I)I"⟩
abbrev cX5_beside : ByteArray := prog_7_method_7_code
def yX5_beside : MethodName := ⟨RX5, "beside", "(II)I"⟩
abbrev cX5_howFar : ByteArray := prog_7_method_8_code
def yX5_howFar : MethodName := ⟨RX5, "howFar", "(II)I"⟩
abbrev cX5_barrelsUnder : ByteArray := prog_7_method_9_code
def yX5_barrelsUnder : MethodName := ⟨RX5, "barrelsUnder", "(II)I"⟩
abbrev cX5_oilAmong : ByteArray := prog_7_method_10_code
def yX5_oilAmong : MethodName := ⟨RX5, "oilAmong", "(II)I"⟩
abbrev cX5_allOil : ByteArray := prog_7_method_11_code
def yX5_allOil : MethodName := ⟨RX5, "allOil", "()I"⟩
abbrev cX5_allWater : ByteArray := prog_7_method_12_code
def yX5_allWater : MethodName := ⟨RX5, "allWater", "()I"⟩
abbrev cX5_sumOverCells : ByteArray := prog_7_method_13_code
def yX5_sumOverCells : MethodName := ⟨RX5, "sumOverCells", "([I)I"⟩
def RX6 : String := "OilTown$Race"
def TX6 : u_T := fun k => match k with
  | 0 => ("OilTown$Race", "pool", "LOilTown$Pool;", true)
  | 1 => ("OilTown$Race", "currents", "LOilTown$Currents;", true)
  | 2 => ("OilTown$Race", "came", "[I", true)
  | 3 => ("OilTown$Race", "gains", "[I", true)
  | 4 => ("OilTown$Race", "racers", "I", false)
  | 5 => ("OilTown$Race", "will", "I", false)
  | 6 => ("OilTown$Race", "cost", "I", false)
  | _ => ("OilTown$Race", "hours", "I", false)
def tyX6 : Nat → FieldType := fun k => match k with
  | 0 => .object "OilTown$Pool"
  | 1 => .object "OilTown$Currents"
  | 2 => .array .int
  | 3 => .array .int
  | 4 => .int
  | 5 => .int
  | 6 => .int
  | _ => .int
abbrev wsX60 : List Cond := u_ws RX6 TX6 8
theorem nmX6 : ∀ a, a < 8 → ∀ b, b < 8 → a ≠ b → (TX6 a).2.1 ≠ (TX6 b).2.1 := by decide +kernel
theorem tyX6_ok : ∀ k, k < 8 → parseFieldDescriptor (TX6 k).2.2.1 = some (tyX6 k) := by decide +kernel
abbrev cX6_init : ByteArray := prog_8_method_1_code
def yX6_init : MethodName := ⟨RX6, "<init>", "()V"⟩
abbrev cX6_prepare : ByteArray := prog_8_method_2_code
def yX6_prepare : MethodName := ⟨RX6, "prepare", "(IIII)V"⟩
abbrev cX6_runAll : ByteArray := prog_8_method_3_code
def yX6_runAll : MethodName := ⟨RX6, "runAll", "(LOilTown$Town;[I)V"⟩
abbrev cX6_run : ByteArray := prog_8_method_4_code
def yX6_run : MethodName := ⟨RX6, "run", "(LOilTown$Town;[II)V"⟩
abbrev cX6_drawAll : ByteArray := prog_8_method_5_code
def yX6_drawAll : MethodName := ⟨RX6, "drawAll", "(LOilTown$Wells;[II)V"⟩
abbrev cX6_drawFrom : ByteArray := prog_8_method_6_code
def yX6_drawFrom : MethodName := ⟨RX6, "drawFrom", "(II)I"⟩
abbrev cX6_drills : ByteArray := prog_8_method_7_code
def yX6_drills : MethodName := ⟨RX6, "drills", "(II)Z"⟩
abbrev cX6_gainOf : ByteArray := prog_8_method_8_code
def yX6_gainOf : MethodName := ⟨RX6, "gainOf", "(II)I"⟩
abbrev cX6_sumOf : ByteArray := prog_8_method_9_code
def yX6_sumOf : MethodName := ⟨RX6, "sumOf", "(I)I"⟩
abbrev cX6_isSteady : ByteArray := prog_8_method_10_code
def yX6_isSteady : MethodName := ⟨RX6, "isSteady", "(I)Z"⟩
abbrev cX6_steadySets : ByteArray := prog_8_method_11_code
def yX6_steadySets : MethodName := ⟨RX6, "steadySets", "()I"⟩
abbrev cX6_leastSteady : ByteArray := prog_8_method_12_code
def yX6_leastSteady : MethodName := ⟨RX6, "leastSteady", "()I"⟩
abbrev cX6_richest : ByteArray := prog_8_method_13_code
def yX6_richest : MethodName := ⟨RX6, "richest", "(Z)I"⟩
abbrev cX6_urgeOf : ByteArray := prog_8_method_14_code
def yX6_urgeOf : MethodName := ⟨RX6, "urgeOf", "(I)I"⟩
def RX7 : String := "OilTown$Sheet"
def TX7 : u_T := fun k => match k with
  | 0 => ("OilTown$Sheet", "lane", "I", false)
  | 1 => ("OilTown$Sheet", "size", "I", false)
  | _ => ("OilTown$Sheet", "rows", "[I", true)
def tyX7 : Nat → FieldType := fun k => match k with
  | 0 => .int
  | 1 => .int
  | _ => .array .int
abbrev wsX70 : List Cond := u_ws RX7 TX7 3
theorem nmX7 : ∀ a, a < 3 → ∀ b, b < 3 → a ≠ b → (TX7 a).2.1 ≠ (TX7 b).2.1 := by decide +kernel
theorem tyX7_ok : ∀ k, k < 3 → parseFieldDescriptor (TX7 k).2.2.1 = some (tyX7 k) := by decide +kernel
abbrev cX7_init : ByteArray := prog_9_method_1_code
def yX7_init : MethodName := ⟨RX7, "<init>", "()V"⟩
abbrev cX7_becomeNew : ByteArray := prog_9_method_2_code
def yX7_becomeNew : MethodName := ⟨RX7, "becomeNew", "(II)V"⟩
abbrev cX7_put : ByteArray := prog_9_method_3_code
def yX7_put : MethodName := ⟨RX7, "put", "(II)V"⟩
abbrev cX7_sumOf : ByteArray := prog_9_method_4_code
def yX7_sumOf : MethodName := ⟨RX7, "sumOf", "(II)I"⟩
def RX8 : String := "OilTown$Tape"
def TX8 : u_T := fun k => match k with
  | 0 => ("OilTown$Tape", "size", "I", false)
  | 1 => ("OilTown$Tape", "bytes", "[I", true)
  | 2 => ("OilTown$Tape", "draft", "LOilTown$Orders;", true)
  | 3 => ("OilTown$Tape", "fault", "I", false)
  | 4 => ("OilTown$Tape", "place", "I", false)
  | 5 => ("OilTown$Tape", "at", "I", false)
  | 6 => ("OilTown$Tape", "token", "I", false)
  | 7 => ("OilTown$Tape", "start", "I", false)
  | _ => ("OilTown$Tape", "value", "I", false)
def tyX8 : Nat → FieldType := fun k => match k with
  | 0 => .int
  | 1 => .array .int
  | 2 => .object "OilTown$Orders"
  | 3 => .int
  | 4 => .int
  | 5 => .int
  | 6 => .int
  | 7 => .int
  | _ => .int
abbrev wsX80 : List Cond := u_ws RX8 TX8 9
theorem nmX8 : ∀ a, a < 9 → ∀ b, b < 9 → a ≠ b → (TX8 a).2.1 ≠ (TX8 b).2.1 := by decide +kernel
theorem tyX8_ok : ∀ k, k < 9 → parseFieldDescriptor (TX8 k).2.2.1 = some (tyX8 k) := by decide +kernel
abbrev cX8_init : ByteArray := prog_10_method_1_code
def yX8_init : MethodName := ⟨RX8, "<init>", "()V"⟩
abbrev cX8_add : ByteArray := prog_10_method_2_code
def yX8_add : MethodName := ⟨RX8, "add", "(J)I"⟩
abbrev cX8_read : ByteArray := prog_10_method_3_code
def yX8_read : MethodName := ⟨RX8, "read", "()V"⟩
abbrev cX8_readFrom : ByteArray := prog_10_method_4_code
def yX8_readFrom : MethodName := ⟨RX8, "readFrom", "()I"⟩
abbrev cX8_readRule : ByteArray := prog_10_method_5_code
def yX8_readRule : MethodName := ⟨RX8, "readRule", "(I)V"⟩
abbrev cX8_checkNumber : ByteArray := prog_10_method_6_code
def yX8_checkNumber : MethodName := ⟨RX8, "checkNumber", "(I)V"⟩
abbrev cX8_mostOf : ByteArray := prog_10_method_7_code
def yX8_mostOf : MethodName := ⟨RX8, "mostOf", "(I)I"⟩
abbrev cX8_fail : ByteArray := prog_10_method_8_code
def yX8_fail : MethodName := ⟨RX8, "fail", "(I)V"⟩
abbrev cX8_nextToken : ByteArray := prog_10_method_9_code
def yX8_nextToken : MethodName := ⟨RX8, "nextToken", "()V"⟩
abbrev cX8_readName : ByteArray := prog_10_method_10_code
def yX8_readName : MethodName := ⟨RX8, "readName", "()V"⟩
abbrev cX8_readFigures : ByteArray := prog_10_method_11_code
def yX8_readFigures : MethodName := ⟨RX8, "readFigures", "()V"⟩
abbrev cX8_isSpelt : ByteArray := prog_10_method_12_code
def yX8_isSpelt : MethodName := ⟨RX8, "isSpelt", "(Ljava/lang/String;)Z"⟩
abbrev cX8_nameOf : ByteArray := prog_10_method_13_code
def yX8_nameOf : MethodName := ⟨RX8, "nameOf", "(I)Ljava/lang/String;"⟩
abbrev cX8_isLetter : ByteArray := prog_10_method_14_code
def yX8_isLetter : MethodName := ⟨RX8, "isLetter", "(I)Z"⟩
abbrev cX8_isFigure : ByteArray := prog_10_method_15_code
def yX8_isFigure : MethodName := ⟨RX8, "isFigure", "(I)Z"⟩
def RX9 : String := "OilTown$Town"
def TX9 : u_T := fun k => match k with
  | 0 => ("OilTown$Town", "ground", "LOilTown$Ground;", true)
  | 1 => ("OilTown$Town", "deeds", "LOilTown$Deeds;", true)
  | 2 => ("OilTown$Town", "wells", "LOilTown$Wells;", true)
  | 3 => ("OilTown$Town", "books", "LOilTown$Books;", true)
  | _ => ("OilTown$Town", "hour", "I", false)
def tyX9 : Nat → FieldType := fun k => match k with
  | 0 => .object "OilTown$Ground"
  | 1 => .object "OilTown$Deeds"
  | 2 => .object "OilTown$Wells"
  | 3 => .object "OilTown$Books"
  | _ => .int
abbrev wsX90 : List Cond := u_ws RX9 TX9 5
theorem nmX9 : ∀ a, a < 5 → ∀ b, b < 5 → a ≠ b → (TX9 a).2.1 ≠ (TX9 b).2.1 := by decide +kernel
theorem tyX9_ok : ∀ k, k < 5 → parseFieldDescriptor (TX9 k).2.2.1 = some (tyX9 k) := by decide +kernel
abbrev cX9_init : ByteArray := prog_11_method_1_code
def yX9_init : MethodName := ⟨RX9, "<init>", "()V"⟩
abbrev cX9_becomeNew : ByteArray := prog_11_method_2_code
def yX9_becomeNew : MethodName := ⟨RX9, "becomeNew", "(II)V"⟩
abbrev cX9_copyFrom : ByteArray := prog_11_method_3_code
def yX9_copyFrom : MethodName := ⟨RX9, "copyFrom", "(LOilTown$Town;)V"⟩
abbrev cX9_shift : ByteArray := prog_11_method_4_code
def yX9_shift : MethodName := ⟨RX9, "shift", "()I"⟩
abbrev cX9_letHourGo : ByteArray := prog_11_method_5_code
def yX9_letHourGo : MethodName := ⟨RX9, "letHourGo", "(LOilTown$Currents;)I"⟩
abbrev cX9_drawBy : ByteArray := prog_11_method_6_code
def yX9_drawBy : MethodName := ⟨RX9, "drawBy", "(I[I)I"⟩
abbrev cX9_hasEnded : ByteArray := prog_11_method_7_code
def yX9_hasEnded : MethodName := ⟨RX9, "hasEnded", "(I)Z"⟩
abbrev cX9_hasWellOn : ByteArray := prog_11_method_8_code
def yX9_hasWellOn : MethodName := ⟨RX9, "hasWellOn", "(II)Z"⟩
abbrev cX9_holderOf : ByteArray := prog_11_method_9_code
def yX9_holderOf : MethodName := ⟨RX9, "holderOf", "(I)I"⟩
abbrev cX9_wellsOn : ByteArray := prog_11_method_10_code
def yX9_wellsOn : MethodName := ⟨RX9, "wellsOn", "(I)I"⟩
abbrev cX9_nearestWellFrom : ByteArray := prog_11_method_11_code
def yX9_nearestWellFrom : MethodName := ⟨RX9, "nearestWellFrom", "(I)I"⟩
abbrev cX9_shareByAcres : ByteArray := prog_11_method_12_code
def yX9_shareByAcres : MethodName := ⟨RX9, "shareByAcres", "(II)I"⟩
def RX10 : String := "OilTown$Wells"
def TX10 : u_T := fun k => match k with
  | 0 => ("OilTown$Wells", "size", "I", false)
  | 1 => ("OilTown$Wells", "person", "[I", true)
  | 2 => ("OilTown$Wells", "cell", "[I", true)
  | 3 => ("OilTown$Wells", "will", "[I", true)
  | 4 => ("OilTown$Wells", "isOpen", "[Z", true)
  | 5 => ("OilTown$Wells", "oil", "[I", true)
  | 6 => ("OilTown$Wells", "water", "[I", true)
  | 7 => ("OilTown$Wells", "oilByLot", "[I", true)
  | _ => ("OilTown$Wells", "oilByShift", "[I", true)
def tyX10 : Nat → FieldType := fun k => match k with
  | 0 => .int
  | 1 => .array .int
  | 2 => .array .int
  | 3 => .array .int
  | 4 => .array .boolean
  | 5 => .array .int
  | 6 => .array .int
  | 7 => .array .int
  | _ => .array .int
abbrev wsX100 : List Cond := u_ws RX10 TX10 9
theorem nmX10 : ∀ a, a < 9 → ∀ b, b < 9 → a ≠ b → (TX10 a).2.1 ≠ (TX10 b).2.1 := by decide +kernel
theorem tyX10_ok : ∀ k, k < 9 → parseFieldDescriptor (TX10 k).2.2.1 = some (tyX10 k) := by decide +kernel
abbrev cX10_init : ByteArray := prog_12_method_1_code
def yX10_init : MethodName := ⟨RX10, "<init>", "()V"⟩
abbrev cX10_clear : ByteArray := prog_12_method_2_code
def yX10_clear : MethodName := ⟨RX10, "clear", "()V"⟩
abbrev cX10_copyFrom : ByteArray := prog_12_method_3_code
def yX10_copyFrom : MethodName := ⟨RX10, "copyFrom", "(LOilTown$Wells;)V"⟩
abbrev cX10_add : ByteArray := prog_12_method_4_code
def yX10_add : MethodName := ⟨RX10, "add", "(III)I"⟩
abbrev cX10_noteDraw : ByteArray := prog_12_method_5_code
def yX10_noteDraw : MethodName := ⟨RX10, "noteDraw", "(II[II)V"⟩
abbrev cX10_sizeOf : ByteArray := prog_12_method_6_code
def yX10_sizeOf : MethodName := ⟨RX10, "sizeOf", "(I)I"⟩
abbrev cX10_oilOf : ByteArray := prog_12_method_7_code
def yX10_oilOf : MethodName := ⟨RX10, "oilOf", "(I)I"⟩
abbrev cX10_oilOfLot : ByteArray := prog_12_method_8_code
def yX10_oilOfLot : MethodName := ⟨RX10, "oilOfLot", "(II)I"⟩
def RX11 : String := "OilTown"
def TX11 : u_T := fun k => match k with
  | 0 => ("OilTown", "now", "LOilTown$Town;", true)
  | 1 => ("OilTown", "kept", "[LOilTown$Town;", true)
  | 2 => ("OilTown", "keptSize", "I", false)
  | 3 => ("OilTown", "persons", "I", false)
  | 4 => ("OilTown", "spots", "[I", true)
  | 5 => ("OilTown", "tape", "LOilTown$Tape;", true)
  | 6 => ("OilTown", "law", "LOilTown$Orders;", true)
  | 7 => ("OilTown", "currents", "LOilTown$Currents;", true)
  | 8 => ("OilTown", "race", "LOilTown$Race;", true)
  | _ => ("OilTown", "sheets", "[LOilTown$Sheet;", true)
def tyX11 : Nat → FieldType := fun k => match k with
  | 0 => .object "OilTown$Town"
  | 1 => .array (.object "OilTown$Town")
  | 2 => .int
  | 3 => .int
  | 4 => .array .int
  | 5 => .object "OilTown$Tape"
  | 6 => .object "OilTown$Orders"
  | 7 => .object "OilTown$Currents"
  | 8 => .object "OilTown$Race"
  | _ => .array (.object "OilTown$Sheet")
abbrev wsX110 : List Cond := u_ws RX11 TX11 10
theorem nmX11 : ∀ a, a < 10 → ∀ b, b < 10 → a ≠ b → (TX11 a).2.1 ≠ (TX11 b).2.1 := by decide +kernel
theorem tyX11_ok : ∀ k, k < 10 → parseFieldDescriptor (TX11 k).2.2.1 = some (tyX11 k) := by decide +kernel
abbrev cX11_init : ByteArray := prog_1_method_1_code
def yX11_init : MethodName := ⟨RX11, "<init>", "()V"⟩
abbrev cX11_field : ByteArray := prog_1_method_2_code
def yX11_field : MethodName := ⟨RX11, "field", "(II)I"⟩
abbrev cX11_cell : ByteArray := prog_1_method_3_code
def yX11_cell : MethodName := ⟨RX11, "cell", "(IIIII)I"⟩
abbrev cX11_lay : ByteArray := prog_1_method_4_code
def yX11_lay : MethodName := ⟨RX11, "lay", "(II)I"⟩
abbrev cX11_cellOf : ByteArray := prog_1_method_5_code
def yX11_cellOf : MethodName := ⟨RX11, "cellOf", "(II)I"⟩
abbrev cX11_hour : ByteArray := prog_1_method_6_code
def yX11_hour : MethodName := ⟨RX11, "hour", "()I"⟩
abbrev cX11_person : ByteArray := prog_1_method_7_code
def yX11_person : MethodName := ⟨RX11, "person", "()I"⟩
abbrev cX11_owner : ByteArray := prog_1_method_8_code
def yX11_owner : MethodName := ⟨RX11, "owner", "(II)I"⟩
abbrev cX11_lease : ByteArray := prog_1_method_9_code
def yX11_lease : MethodName := ⟨RX11, "lease", "(IIII)I"⟩
abbrev cX11_leaseOf : ByteArray := prog_1_method_10_code
def yX11_leaseOf : MethodName := ⟨RX11, "leaseOf", "(II)I"⟩
abbrev cX11_holds : ByteArray := prog_1_method_11_code
def yX11_holds : MethodName := ⟨RX11, "holds", "(I)I"⟩
abbrev cX11_told : ByteArray := prog_1_method_12_code
def yX11_told : MethodName := ⟨RX11, "told", "(II)I"⟩
abbrev cX11_drill : ByteArray := prog_1_method_13_code
def yX11_drill : MethodName := ⟨RX11, "drill", "(III)I"⟩
abbrev cX11_why : ByteArray := prog_1_method_14_code
def yX11_why : MethodName := ⟨RX11, "why", "(II)I"⟩
abbrev cX11_will : ByteArray := prog_1_method_15_code
def yX11_will : MethodName := ⟨RX11, "will", "(II)I"⟩
abbrev cX11_open : ByteArray := prog_1_method_16_code
def yX11_open : MethodName := ⟨RX11, "open", "(IZ)I"⟩
abbrev cX11_wellOf : ByteArray := prog_1_method_17_code
def yX11_wellOf : MethodName := ⟨RX11, "wellOf", "(II)I"⟩
abbrev cX11_drew : ByteArray := prog_1_method_18_code
def yX11_drew : MethodName := ⟨RX11, "drew", "(III)I"⟩
abbrev cX11_sell : ByteArray := prog_1_method_19_code
def yX11_sell : MethodName := ⟨RX11, "sell", "(II)I"⟩
abbrev cX11_price : ByteArray := prog_1_method_20_code
def yX11_price : MethodName := ⟨RX11, "price", "(I)I"⟩
abbrev cX11_feed : ByteArray := prog_1_method_21_code
def yX11_feed : MethodName := ⟨RX11, "feed", "(J)I"⟩
abbrev cX11_end : ByteArray := prog_1_method_22_code
def yX11_end : MethodName := ⟨RX11, "end", "(I)I"⟩
abbrev cX11_orders : ByteArray := prog_1_method_23_code
def yX11_orders : MethodName := ⟨RX11, "orders", "()I"⟩
abbrev cX11_fault : ByteArray := prog_1_method_24_code
def yX11_fault : MethodName := ⟨RX11, "fault", "()I"⟩
abbrev cX11_line : ByteArray := prog_1_method_25_code
def yX11_line : MethodName := ⟨RX11, "line", "(II)I"⟩
abbrev cX11_voids : ByteArray := prog_1_method_26_code
def yX11_voids : MethodName := ⟨RX11, "voids", "(I)I"⟩
abbrev cX11_lets : ByteArray := prog_1_method_27_code
def yX11_lets : MethodName := ⟨RX11, "lets", "(III)I"⟩
abbrev cX11_spot : ByteArray := prog_1_method_28_code
def yX11_spot : MethodName := ⟨RX11, "spot", "(II)I"⟩
abbrev cX11_gain : ByteArray := prog_1_method_29_code
def yX11_gain : MethodName := ⟨RX11, "gain", "(IIIIII)I"⟩
abbrev cX11_steady : ByteArray := prog_1_method_30_code
def yX11_steady : MethodName := ⟨RX11, "steady", "(IIIII)I"⟩
abbrev cX11_must : ByteArray := prog_1_method_31_code
def yX11_must : MethodName := ⟨RX11, "must", "(IIIII)I"⟩
abbrev cX11_keep : ByteArray := prog_1_method_32_code
def yX11_keep : MethodName := ⟨RX11, "keep", "()I"⟩
abbrev cX11_stand : ByteArray := prog_1_method_33_code
def yX11_stand : MethodName := ⟨RX11, "stand", "(I)I"⟩
abbrev cX11_sheet : ByteArray := prog_1_method_34_code
def yX11_sheet : MethodName := ⟨RX11, "sheet", "(III)I"⟩
abbrev cX11_write : ByteArray := prog_1_method_35_code
def yX11_write : MethodName := ⟨RX11, "write", "(III)I"⟩
abbrev cX11_scan : ByteArray := prog_1_method_36_code
def yX11_scan : MethodName := ⟨RX11, "scan", "(III)I"⟩
abbrev cX11_count : ByteArray := prog_1_method_37_code
def yX11_count : MethodName := ⟨RX11, "count", "(I)I"⟩
abbrev cX11_within : ByteArray := prog_1_method_38_code
def yX11_within : MethodName := ⟨RX11, "within", "(II)Z"⟩
abbrev cX11_isLot : ByteArray := prog_1_method_39_code
def yX11_isLot : MethodName := ⟨RX11, "isLot", "(I)Z"⟩
abbrev cX11_isByLot : ByteArray := prog_1_method_40_code
def yX11_isByLot : MethodName := ⟨RX11, "isByLot", "(I)Z"⟩
abbrev cX11_isSheet : ByteArray := prog_1_method_41_code
def yX11_isSheet : MethodName := ⟨RX11, "isSheet", "(I)Z"⟩
abbrev cX11_isLane : ByteArray := prog_1_method_42_code
def yX11_isLane : MethodName := ⟨RX11, "isLane", "(I)Z"⟩
abbrev cX11_hasCell : ByteArray := prog_1_method_43_code
def yX11_hasCell : MethodName := ⟨RX11, "hasCell", "(I)Z"⟩
abbrev cX11_isPerson : ByteArray := prog_1_method_44_code
def yX11_isPerson : MethodName := ⟨RX11, "isPerson", "(I)Z"⟩
abbrev cX11_isWell : ByteArray := prog_1_method_45_code
def yX11_isWell : MethodName := ⟨RX11, "isWell", "(I)Z"⟩
abbrev cX11_isRace : ByteArray := prog_1_method_46_code
def yX11_isRace : MethodName := ⟨RX11, "isRace", "(IIII)Z"⟩
abbrev cX11_haveSpots : ByteArray := prog_1_method_47_code
def yX11_haveSpots : MethodName := ⟨RX11, "haveSpots", "(I)Z"⟩
abbrev cX11_tellOilFrom : ByteArray := prog_1_method_48_code
def yX11_tellOilFrom : MethodName := ⟨RX11, "tellOilFrom", "(LOilTown$Sheet;I)V"⟩
def RX12 : String := "OilTownModel"
def TX12 : u_T := fun k => match k with
  | 0 => ("OilTownModel", "wide", "I", false)
  | 1 => ("OilTownModel", "high", "I", false)
  | 2 => ("OilTownModel", "now", "I", false)
  | 3 => ("OilTownModel", "sand", "[I", true)
  | 4 => ("OilTownModel", "gas", "[I", true)
  | 5 => ("OilTownModel", "water", "[I", true)
  | 6 => ("OilTownModel", "lots", "[I", true)
  | 7 => ("OilTownModel", "oil", "[I", true)
  | 8 => ("OilTownModel", "persons", "I", false)
  | 9 => ("OilTownModel", "owners", "[I", true)
  | 10 => ("OilTownModel", "leases", "I", false)
  | 11 => ("OilTownModel", "leaseLot", "[I", true)
  | 12 => ("OilTownModel", "leasePerson", "[I", true)
  | 13 => ("OilTownModel", "leaseUntil", "[I", true)
  | 14 => ("OilTownModel", "leaseStamp", "[I", true)
  | 15 => ("OilTownModel", "wells", "I", false)
  | 16 => ("OilTownModel", "wellPerson", "[I", true)
  | 17 => ("OilTownModel", "wellCell", "[I", true)
  | 18 => ("OilTownModel", "wellWill", "[I", true)
  | 19 => ("OilTownModel", "wellOpen", "[I", true)
  | 20 => ("OilTownModel", "wellOil", "[I", true)
  | 21 => ("OilTownModel", "wellWater", "[I", true)
  | 22 => ("OilTownModel", "wellLots", "[I", true)
  | 23 => ("OilTownModel", "wellShifts", "[I", true)
  | 24 => ("OilTownModel", "tanks", "[I", true)
  | 25 => ("OilTownModel", "sold", "[I", true)
  | 26 => ("OilTownModel", "paid", "[I", true)
  | 27 => ("OilTownModel", "soldIn", "[I", true)
  | 28 => ("OilTownModel", "spots", "[I", true)
  | 29 => ("OilTownModel", "part", "[I", true)
  | 30 => ("OilTownModel", "pushes", "[I", true)
  | 31 => ("OilTownModel", "oils", "[I", true)
  | 32 => ("OilTownModel", "waters", "[I", true)
  | 33 => ("OilTownModel", "oilIn", "[I", true)
  | 34 => ("OilTownModel", "waterIn", "[I", true)
  | 35 => ("OilTownModel", "wants", "[I", true)
  | 36 => ("OilTownModel", "tape", "[I", true)
  | 37 => ("OilTownModel", "taped", "I", false)
  | 38 => ("OilTownModel", "fault", "I", false)
  | 39 => ("OilTownModel", "wrong", "I", false)
  | 40 => ("OilTownModel", "wrongAt", "I", false)
  | 41 => ("OilTownModel", "at", "I", false)
  | 42 => ("OilTownModel", "place", "I", false)
  | 43 => ("OilTownModel", "token", "I", false)
  | 44 => ("OilTownModel", "value", "I", false)
  | 45 => ("OilTownModel", "ends", "[I", true)
  | 46 => ("OilTownModel", "letters", "[I", true)
  | 47 => ("OilTownModel", "mosts", "[I", true)
  | 48 => ("OilTownModel", "lines", "I", false)
  | 49 => ("OilTownModel", "lineRule", "[I", true)
  | 50 => ("OilTownModel", "lineFrom", "[I", true)
  | 51 => ("OilTownModel", "lineNumber", "[I", true)
  | 52 => ("OilTownModel", "lineVoid", "[I", true)
  | 53 => ("OilTownModel", "newLines", "I", false)
  | 54 => ("OilTownModel", "newRule", "[I", true)
  | 55 => ("OilTownModel", "newFrom", "[I", true)
  | 56 => ("OilTownModel", "newNumber", "[I", true)
  | 57 => ("OilTownModel", "kept", "[I", true)
  | 58 => ("OilTownModel", "page", "I", false)
  | 59 => ("OilTownModel", "puts", "Z", false)
  | 60 => ("OilTownModel", "fields", "I", false)
  | 61 => ("OilTownModel", "gains", "[I", true)
  | 62 => ("OilTownModel", "lanes", "[I", true)
  | 63 => ("OilTownModel", "lengths", "[I", true)
  | _ => ("OilTownModel", "marks", "[I", true)
def tyX12 : Nat → FieldType := fun k => match k with
  | 0 => .int
  | 1 => .int
  | 2 => .int
  | 3 => .array .int
  | 4 => .array .int
  | 5 => .array .int
  | 6 => .array .int
  | 7 => .array .int
  | 8 => .int
  | 9 => .array .int
  | 10 => .int
  | 11 => .array .int
  | 12 => .array .int
  | 13 => .array .int
  | 14 => .array .int
  | 15 => .int
  | 16 => .array .int
  | 17 => .array .int
  | 18 => .array .int
  | 19 => .array .int
  | 20 => .array .int
  | 21 => .array .int
  | 22 => .array .int
  | 23 => .array .int
  | 24 => .array .int
  | 25 => .array .int
  | 26 => .array .int
  | 27 => .array .int
  | 28 => .array .int
  | 29 => .array .int
  | 30 => .array .int
  | 31 => .array .int
  | 32 => .array .int
  | 33 => .array .int
  | 34 => .array .int
  | 35 => .array .int
  | 36 => .array .int
  | 37 => .int
  | 38 => .int
  | 39 => .int
  | 40 => .int
  | 41 => .int
  | 42 => .int
  | 43 => .int
  | 44 => .int
  | 45 => .array .int
  | 46 => .array .int
  | 47 => .array .int
  | 48 => .int
  | 49 => .array .int
  | 50 => .array .int
  | 51 => .array .int
  | 52 => .array .int
  | 53 => .int
  | 54 => .array .int
  | 55 => .array .int
  | 56 => .array .int
  | 57 => .array .int
  | 58 => .int
  | 59 => .boolean
  | 60 => .int
  | 61 => .array .int
  | 62 => .array .int
  | 63 => .array .int
  | _ => .array .int
abbrev wsX120 : List Cond := u_ws RX12 TX12 65
theorem nmX12 : ∀ a, a < 65 → ∀ b, b < 65 → a ≠ b → (TX12 a).2.1 ≠ (TX12 b).2.1 := by decide +kernel
theorem tyX12_ok : ∀ k, k < 65 → parseFieldDescriptor (TX12 k).2.2.1 = some (tyX12 k) := by decide +kernel
abbrev cX12_init : ByteArray := prog_14_method_1_code
def yX12_init : MethodName := ⟨RX12, "<init>", "()V"⟩
abbrev cX12_in : ByteArray := prog_14_method_3_code
def yX12_in : MethodName := ⟨RX12, "in", "(JJJ)Z"⟩
abbrev cX12_cells : ByteArray := prog_14_method_4_code
def yX12_cells : MethodName := ⟨RX12, "cells", "()I"⟩
abbrev cX12_isCell : ByteArray := prog_14_method_5_code
def yX12_isCell : MethodName := ⟨RX12, "isCell", "(I)Z"⟩
abbrev cX12_isLot : ByteArray := prog_14_method_6_code
def yX12_isLot : MethodName := ⟨RX12, "isLot", "(I)Z"⟩
abbrev cX12_isPerson : ByteArray := prog_14_method_7_code
def yX12_isPerson : MethodName := ⟨RX12, "isPerson", "(I)Z"⟩
abbrev cX12_isWell : ByteArray := prog_14_method_8_code
def yX12_isWell : MethodName := ⟨RX12, "isWell", "(I)Z"⟩
abbrev cX12_shift : ByteArray := prog_14_method_9_code
def yX12_shift : MethodName := ⟨RX12, "shift", "()I"⟩
abbrev cX12_field : ByteArray := prog_14_method_10_code
def yX12_field : MethodName := ⟨RX12, "field", "(II)I"⟩
abbrev cX12_putOil : ByteArray := prog_14_method_11_code
def yX12_putOil : MethodName := ⟨RX12, "putOil", "(II)V"⟩
abbrev cX12_oilOf : ByteArray := prog_14_method_12_code
def yX12_oilOf : MethodName := ⟨RX12, "oilOf", "(I)I"⟩
abbrev cX12_cell : ByteArray := prog_14_method_13_code
def yX12_cell : MethodName := ⟨RX12, "cell", "(IIIII)I"⟩
abbrev cX12_lay : ByteArray := prog_14_method_14_code
def yX12_lay : MethodName := ⟨RX12, "lay", "(II)I"⟩
abbrev cX12_pushOf : ByteArray := prog_14_method_15_code
def yX12_pushOf : MethodName := ⟨RX12, "pushOf", "(I)I"⟩
abbrev cX12_cellOf : ByteArray := prog_14_method_16_code
def yX12_cellOf : MethodName := ⟨RX12, "cellOf", "(II)I"⟩
abbrev cX12_take : ByteArray := prog_14_method_17_code
def yX12_take : MethodName := ⟨RX12, "take", "(II)V"⟩
abbrev cX12_draws : ByteArray := prog_14_method_18_code
def yX12_draws : MethodName := ⟨RX12, "draws", "()I"⟩
abbrev cX12_beside : ByteArray := prog_14_method_19_code
def yX12_beside : MethodName := ⟨RX12, "beside", "(II)I"⟩
abbrev cX12_wantOf : ByteArray := prog_14_method_20_code
def yX12_wantOf : MethodName := ⟨RX12, "wantOf", "(II)I"⟩
abbrev cX12_flowOf : ByteArray := prog_14_method_21_code
def yX12_flowOf : MethodName := ⟨RX12, "flowOf", "(I)V"⟩
abbrev cX12_flows : ByteArray := prog_14_method_22_code
def yX12_flows : MethodName := ⟨RX12, "flows", "()V"⟩
abbrev cX12_step : ByteArray := prog_14_method_23_code
def yX12_step : MethodName := ⟨RX12, "step", "()I"⟩
abbrev cX12_hour : ByteArray := prog_14_method_24_code
def yX12_hour : MethodName := ⟨RX12, "hour", "()I"⟩
abbrev cX12_person : ByteArray := prog_14_method_25_code
def yX12_person : MethodName := ⟨RX12, "person", "()I"⟩
abbrev cX12_owner : ByteArray := prog_14_method_26_code
def yX12_owner : MethodName := ⟨RX12, "owner", "(II)I"⟩
abbrev cX12_lease : ByteArray := prog_14_method_27_code
def yX12_lease : MethodName := ⟨RX12, "lease", "(IIII)I"⟩
abbrev cX12_hasEnded : ByteArray := prog_14_method_28_code
def yX12_hasEnded : MethodName := ⟨RX12, "hasEnded", "(I)Z"⟩
abbrev cX12_leaseOf : ByteArray := prog_14_method_29_code
def yX12_leaseOf : MethodName := ⟨RX12, "leaseOf", "(II)I"⟩
abbrev cX12_holderOf : ByteArray := prog_14_method_30_code
def yX12_holderOf : MethodName := ⟨RX12, "holderOf", "(I)I"⟩
abbrev cX12_holds : ByteArray := prog_14_method_31_code
def yX12_holds : MethodName := ⟨RX12, "holds", "(I)I"⟩
abbrev cX12_told : ByteArray := prog_14_method_32_code
def yX12_told : MethodName := ⟨RX12, "told", "(II)I"⟩
abbrev cX12_howFar : ByteArray := prog_14_method_33_code
def yX12_howFar : MethodName := ⟨RX12, "howFar", "(II)I"⟩
abbrev cX12_isExcepted : ByteArray := prog_14_method_34_code
def yX12_isExcepted : MethodName := ⟨RX12, "isExcepted", "(I)Z"⟩
abbrev cX12_whyNot : ByteArray := prog_14_method_35_code
def yX12_whyNot : MethodName := ⟨RX12, "whyNot", "(IIII)I"⟩
abbrev cX12_whyNow : ByteArray := prog_14_method_36_code
def yX12_whyNow : MethodName := ⟨RX12, "whyNow", "(II)I"⟩
abbrev cX12_addWell : ByteArray := prog_14_method_37_code
def yX12_addWell : MethodName := ⟨RX12, "addWell", "(III)V"⟩
abbrev cX12_drill : ByteArray := prog_14_method_38_code
def yX12_drill : MethodName := ⟨RX12, "drill", "(III)I"⟩
abbrev cX12_why : ByteArray := prog_14_method_39_code
def yX12_why : MethodName := ⟨RX12, "why", "(II)I"⟩
abbrev cX12_will : ByteArray := prog_14_method_40_code
def yX12_will : MethodName := ⟨RX12, "will", "(II)I"⟩
abbrev cX12_open : ByteArray := prog_14_method_41_code
def yX12_open : MethodName := ⟨RX12, "open", "(IZ)I"⟩
abbrev cX12_letOf : ByteArray := prog_14_method_42_code
def yX12_letOf : MethodName := ⟨RX12, "letOf", "(II)I"⟩
abbrev cX12_hotIn : ByteArray := prog_14_method_43_code
def yX12_hotIn : MethodName := ⟨RX12, "hotIn", "(II)I"⟩
abbrev cX12_hotOf : ByteArray := prog_14_method_44_code
def yX12_hotOf : MethodName := ⟨RX12, "hotOf", "(I)I"⟩
abbrev cX12_hotAll : ByteArray := prog_14_method_45_code
def yX12_hotAll : MethodName := ⟨RX12, "hotAll", "()I"⟩
abbrev cX12_wellOf : ByteArray := prog_14_method_46_code
def yX12_wellOf : MethodName := ⟨RX12, "wellOf", "(II)I"⟩
abbrev cX12_drew : ByteArray := prog_14_method_47_code
def yX12_drew : MethodName := ⟨RX12, "drew", "(III)I"⟩
abbrev cX12_priceOf : ByteArray := prog_14_method_48_code
def yX12_priceOf : MethodName := ⟨RX12, "priceOf", "(I)I"⟩
abbrev cX12_sell : ByteArray := prog_14_method_49_code
def yX12_sell : MethodName := ⟨RX12, "sell", "(II)I"⟩
abbrev cX12_price : ByteArray := prog_14_method_50_code
def yX12_price : MethodName := ⟨RX12, "price", "(I)I"⟩
abbrev cX12_feed : ByteArray := prog_14_method_51_code
def yX12_feed : MethodName := ⟨RX12, "feed", "(J)I"⟩
abbrev cX12_end : ByteArray := prog_14_method_52_code
def yX12_end : MethodName := ⟨RX12, "end", "(I)I"⟩
abbrev cX12_byteAt : ByteArray := prog_14_method_53_code
def yX12_byteAt : MethodName := ⟨RX12, "byteAt", "(I)I"⟩
abbrev cX12_fails : ByteArray := prog_14_method_54_code
def yX12_fails : MethodName := ⟨RX12, "fails", "(I)V"⟩
abbrev cX12_nameAt : ByteArray := prog_14_method_55_code
def yX12_nameAt : MethodName := ⟨RX12, "nameAt", "(II)I"⟩
abbrev cX12_next : ByteArray := prog_14_method_56_code
def yX12_next : MethodName := ⟨RX12, "next", "()V"⟩
abbrev cX12_number : ByteArray := prog_14_method_57_code
def yX12_number : MethodName := ⟨RX12, "number", "(I)I"⟩
abbrev cX12_once : ByteArray := prog_14_method_58_code
def yX12_once : MethodName := ⟨RX12, "once", "(III)V"⟩
abbrev cX12_oneLine : ByteArray := prog_14_method_59_code
def yX12_oneLine : MethodName := ⟨RX12, "oneLine", "()V"⟩
abbrev cX12_orders : ByteArray := prog_14_method_60_code
def yX12_orders : MethodName := ⟨RX12, "orders", "()I"⟩
abbrev cX12_fault : ByteArray := prog_14_method_61_code
def yX12_fault : MethodName := ⟨RX12, "fault", "()I"⟩
abbrev cX12_lineAt : ByteArray := prog_14_method_62_code
def yX12_lineAt : MethodName := ⟨RX12, "lineAt", "(II)I"⟩
abbrev cX12_line : ByteArray := prog_14_method_63_code
def yX12_line : MethodName := ⟨RX12, "line", "(II)I"⟩
abbrev cX12_voids : ByteArray := prog_14_method_64_code
def yX12_voids : MethodName := ⟨RX12, "voids", "(I)I"⟩
abbrev cX12_lets : ByteArray := prog_14_method_65_code
def yX12_lets : MethodName := ⟨RX12, "lets", "(III)I"⟩
abbrev cX12_turn : ByteArray := prog_14_method_66_code
def yX12_turn : MethodName := ⟨RX12, "turn", "(I)I"⟩
abbrev cX12_turnLand : ByteArray := prog_14_method_67_code
def yX12_turnLand : MethodName := ⟨RX12, "turnLand", "()V"⟩
abbrev cX12_turnPapers : ByteArray := prog_14_method_68_code
def yX12_turnPapers : MethodName := ⟨RX12, "turnPapers", "()V"⟩
abbrev cX12_turnPage : ByteArray := prog_14_method_69_code
def yX12_turnPage : MethodName := ⟨RX12, "turnPage", "(IZ)V"⟩
abbrev cX12_keep : ByteArray := prog_14_method_70_code
def yX12_keep : MethodName := ⟨RX12, "keep", "()I"⟩
abbrev cX12_stand : ByteArray := prog_14_method_71_code
def yX12_stand : MethodName := ⟨RX12, "stand", "(I)I"⟩
abbrev cX12_spot : ByteArray := prog_14_method_72_code
def yX12_spot : MethodName := ⟨RX12, "spot", "(II)I"⟩
abbrev cX12_isRace : ByteArray := prog_14_method_73_code
def yX12_isRace : MethodName := ⟨RX12, "isRace", "(IIII)Z"⟩
abbrev cX12_haveSpots : ByteArray := prog_14_method_74_code
def yX12_haveSpots : MethodName := ⟨RX12, "haveSpots", "(I)Z"⟩
abbrev cX12_race : ByteArray := prog_14_method_75_code
def yX12_race : MethodName := ⟨RX12, "race", "(IIIII)V"⟩
abbrev cX12_gain : ByteArray := prog_14_method_76_code
def yX12_gain : MethodName := ⟨RX12, "gain", "(IIIIII)I"⟩
abbrev cX12_raceAll : ByteArray := prog_14_method_77_code
def yX12_raceAll : MethodName := ⟨RX12, "raceAll", "(IIII)V"⟩
abbrev cX12_isSteady : ByteArray := prog_14_method_78_code
def yX12_isSteady : MethodName := ⟨RX12, "isSteady", "(II)Z"⟩
abbrev cX12_sumOf : ByteArray := prog_14_method_79_code
def yX12_sumOf : MethodName := ⟨RX12, "sumOf", "(II)I"⟩
abbrev cX12_steady : ByteArray := prog_14_method_80_code
def yX12_steady : MethodName := ⟨RX12, "steady", "(IIIII)I"⟩
abbrev cX12_must : ByteArray := prog_14_method_81_code
def yX12_must : MethodName := ⟨RX12, "must", "(IIIII)I"⟩
abbrev cX12_sheet : ByteArray := prog_14_method_82_code
def yX12_sheet : MethodName := ⟨RX12, "sheet", "(III)I"⟩
abbrev cX12_write : ByteArray := prog_14_method_83_code
def yX12_write : MethodName := ⟨RX12, "write", "(III)I"⟩
abbrev cX12_scan : ByteArray := prog_14_method_84_code
def yX12_scan : MethodName := ⟨RX12, "scan", "(III)I"⟩
abbrev cX12_count : ByteArray := prog_14_method_85_code
def yX12_count : MethodName := ⟨RX12, "count", "(I)I"⟩
def RJ9 : String := "java/lang/Math"
def TJ9 : u_T := fun k => match k with
  | _ => ("", "", "", false)
def tyJ9 : Nat → FieldType := fun k => match k with
  | _ => .int
abbrev wsJ90 : List Cond := u_ws RJ9 TJ9 0
theorem nmJ9 : ∀ a, a < 0 → ∀ b, b < 0 → a ≠ b → (TJ9 a).2.1 ≠ (TJ9 b).2.1 := by decide +kernel
theorem tyJ9_ok : ∀ k, k < 0 → parseFieldDescriptor (TJ9 k).2.2.1 = some (tyJ9 k) := by decide +kernel
abbrev cJ9_abs_0f7a4 : ByteArray := prog_15_method_59_code
def yJ9_abs_0f7a4 : MethodName := ⟨RJ9, "abs", "(I)I"⟩
abbrev cJ9_max_7cf53 : ByteArray := prog_15_method_65_code
def yJ9_max_7cf53 : MethodName := ⟨RJ9, "max", "(II)I"⟩
abbrev cJ9_min_7cf53 : ByteArray := prog_15_method_69_code
def yJ9_min_7cf53 : MethodName := ⟨RJ9, "min", "(II)I"⟩
def RJ0 : String := "java/lang/String"
def TJ0 : u_T := fun k => match k with
  | _ => ("", "", "", false)
def tyJ0 : Nat → FieldType := fun k => match k with
  | _ => .int
abbrev wsJ00 : List Cond := u_ws RJ0 TJ0 0
theorem nmJ0 : ∀ a, a < 0 → ∀ b, b < 0 → a ≠ b → (TJ0 a).2.1 ≠ (TJ0 b).2.1 := by decide +kernel
theorem tyJ0_ok : ∀ k, k < 0 → parseFieldDescriptor (TJ0 k).2.2.1 = some (tyJ0 k) := by decide +kernel
abbrev cJ0_length_8abf5 : ByteArray := prog_16_method_54_code
def yJ0_length_8abf5 : MethodName := ⟨RJ0, "length", "()I"⟩
abbrev cJ0_charAt_5068e : ByteArray := prog_16_method_56_code
def yJ0_charAt_5068e : MethodName := ⟨RJ0, "charAt", "(I)C"⟩
abbrev cJ0_coder_7d493 : ByteArray := prog_16_method_152_code
def yJ0_coder_7d493 : MethodName := ⟨RJ0, "coder", "()B"⟩
abbrev cJ0_isLatin1_aae02 : ByteArray := prog_16_method_154_code
def yJ0_isLatin1_aae02 : MethodName := ⟨RJ0, "isLatin1", "()Z"⟩
abbrev cJ0_checkIndex_df160 : ByteArray := prog_16_method_155_code
def yJ0_checkIndex_df160 : MethodName := ⟨RJ0, "checkIndex", "(II)V"⟩
def RJ1 : String := "java/lang/StringLatin1"
def TJ1 : u_T := fun k => match k with
  | _ => ("", "", "", false)
def tyJ1 : Nat → FieldType := fun k => match k with
  | _ => .int
abbrev wsJ10 : List Cond := u_ws RJ1 TJ1 0
theorem nmJ1 : ∀ a, a < 0 → ∀ b, b < 0 → a ≠ b → (TJ1 a).2.1 ≠ (TJ1 b).2.1 := by decide +kernel
theorem tyJ1_ok : ∀ k, k < 0 → parseFieldDescriptor (TJ1 k).2.2.1 = some (tyJ1 k) := by decide +kernel
abbrev cJ1_charAt_3b067 : ByteArray := prog_17_method_2_code
def yJ1_charAt_3b067 : MethodName := ⟨RJ1, "charAt", "([BI)C"⟩
def RJ2 : String := "java/lang/StringUTF16"
def TJ2 : u_T := fun k => match k with
  | _ => ("", "", "", false)
def tyJ2 : Nat → FieldType := fun k => match k with
  | _ => .int
abbrev wsJ20 : List Cond := u_ws RJ2 TJ2 0
theorem nmJ2 : ∀ a, a < 0 → ∀ b, b < 0 → a ≠ b → (TJ2 a).2.1 ≠ (TJ2 b).2.1 := by decide +kernel
theorem tyJ2_ok : ∀ k, k < 0 → parseFieldDescriptor (TJ2 k).2.2.1 = some (tyJ2 k) := by decide +kernel
abbrev cJ2_getChar_3b067 : ByteArray := prog_18_method_5_code
def yJ2_getChar_3b067 : MethodName := ⟨RJ2, "getChar", "([BI)C"⟩
abbrev cJ2_length_9d52b : ByteArray := prog_18_method_6_code
def yJ2_length_9d52b : MethodName := ⟨RJ2, "length", "([B)I"⟩
abbrev cJ2_charAt_3b067 : ByteArray := prog_18_method_83_code
def yJ2_charAt_3b067 : MethodName := ⟨RJ2, "charAt", "([BI)C"⟩
abbrev cJ2_checkIndex_2214a : ByteArray := prog_18_method_91_code
def yJ2_checkIndex_2214a : MethodName := ⟨RJ2, "checkIndex", "(I[B)V"⟩
def RJ10 : String := "java/lang/System"
def TJ10 : u_T := fun k => match k with
  | _ => ("", "", "", false)
def tyJ10 : Nat → FieldType := fun k => match k with
  | _ => .int
abbrev wsJ100 : List Cond := u_ws RJ10 TJ10 0
theorem nmJ10 : ∀ a, a < 0 → ∀ b, b < 0 → a ≠ b → (TJ10 a).2.1 ≠ (TJ10 b).2.1 := by decide +kernel
theorem tyJ10_ok : ∀ k, k < 0 → parseFieldDescriptor (TJ10 k).2.2.1 = some (tyJ10 k) := by decide +kernel
def RJ7 : String := "java/util/Arrays"
def TJ7 : u_T := fun k => match k with
  | _ => ("", "", "", false)
def tyJ7 : Nat → FieldType := fun k => match k with
  | _ => .int
abbrev wsJ70 : List Cond := u_ws RJ7 TJ7 0
theorem nmJ7 : ∀ a, a < 0 → ∀ b, b < 0 → a ≠ b → (TJ7 a).2.1 ≠ (TJ7 b).2.1 := by decide +kernel
theorem tyJ7_ok : ∀ k, k < 0 → parseFieldDescriptor (TJ7 k).2.2.1 = some (tyJ7 k) := by decide +kernel
abbrev cJ7_fill_53178 : ByteArray := prog_20_method_103_code
def yJ7_fill_53178 : MethodName := ⟨RJ7, "fill", "([II)V"⟩
def RJ3 : String := "jdk/internal/util/Preconditions"
def TJ3 : u_T := fun k => match k with
  | _ => ("", "", "", false)
def tyJ3 : Nat → FieldType := fun k => match k with
  | _ => .int
abbrev wsJ30 : List Cond := u_ws RJ3 TJ3 0
theorem nmJ3 : ∀ a, a < 0 → ∀ b, b < 0 → a ≠ b → (TJ3 a).2.1 ≠ (TJ3 b).2.1 := by decide +kernel
theorem tyJ3_ok : ∀ k, k < 0 → parseFieldDescriptor (TJ3 k).2.2.1 = some (tyJ3 k) := by decide +kernel
abbrev cJ3_checkIndex_8e157 : ByteArray := prog_21_method_11_code
def yJ3_checkIndex_8e157 : MethodName := ⟨RJ3, "checkIndex", "(IILjava/util/function/BiFunction;)I"⟩
def RL : String := "OilTownLaw"
abbrev cL_law : ByteArray := code
def yL_law : MethodName := ⟨RL, "law", "([I)Z"⟩
theorem gin0 : ∀ w ∈ wsX00, w ∈ lw_tbl := by decide +kernel
theorem gin1 : ∀ w ∈ wsX10, w ∈ lw_tbl := by decide +kernel
theorem gin2 : ∀ w ∈ wsX20, w ∈ lw_tbl := by decide +kernel
theorem gin3 : ∀ w ∈ wsX30, w ∈ lw_tbl := by decide +kernel
theorem gin4 : ∀ w ∈ wsX40, w ∈ lw_tbl := by decide +kernel
theorem gin5 : ∀ w ∈ wsX50, w ∈ lw_tbl := by decide +kernel
theorem gin6 : ∀ w ∈ wsX60, w ∈ lw_tbl := by decide +kernel
theorem gin7 : ∀ w ∈ wsX70, w ∈ lw_tbl := by decide +kernel
theorem gin8 : ∀ w ∈ wsX80, w ∈ lw_tbl := by decide +kernel
theorem gin9 : ∀ w ∈ wsX90, w ∈ lw_tbl := by decide +kernel
theorem gin10 : ∀ w ∈ wsX100, w ∈ lw_tbl := by decide +kernel
theorem gin11 : ∀ w ∈ wsX110, w ∈ lw_tbl := by decide +kernel
theorem gin12 : ∀ w ∈ wsX120, w ∈ lw_tbl := by decide +kernel
end
section
/-! ===== base: words, classes ===== -/
abbrev gC : Type := Nat → Option (Instr × Nat × Int32 × Nat)
/-- the fields that are boolean -/
def gZf (ci f : Nat) : Bool := Nat.beq ci 12 && Nat.beq f 59
abbrev gcl : List vw_C := [(RX0, TX0, 4), (RX1, TX1, 8), (RX2, TX2, 6), (RX3, TX3, 3), (RX4, TX4, 5), (RX5, TX5, 9), (RX6, TX6, 8), (RX7, TX7, 3), (RX8, TX8, 9), (RX9, TX9, 5), (RX10, TX10, 9), (RX11, TX11, 10), (RX12, TX12, 65)]
def gT : List Cond := lw_tbl.filter goodWord
theorem gT_mem {w : Cond} (h : w ∈ lw_tbl) (hg : goodWord w = true) : w ∈ gT := List.mem_filter.mpr ⟨h, hg⟩
theorem gT_all {ws : List Cond} (h : ∀ w ∈ ws, w ∈ lw_tbl) (hg : ws.all goodWord = true) : ∀ w ∈ ws, w ∈ gT := fun w hw => gT_mem (h w hw) (List.all_eq_true.mp hg w hw)
end
section
/-! ===== tables: methods, links, resolved code (by program) ===== -/
abbrev gIn : Type := Nat × Instr × Nat × Int32 × Nat
abbrev gMe : Type := (MethodName × ByteArray × Nat × Option FieldType) × (Nat × Bool) × (Nat × Nat × Nat × Nat) × List gIn
def gnm : Nat → String := fun o => match o with
  | 0 => RX0
  | 1 => RX1
  | 2 => RX2
  | 3 => RX3
  | 4 => RX4
  | 5 => RX5
  | 6 => RX6
  | 7 => RX7
  | 8 => RX8
  | 9 => RX9
  | 10 => RX10
  | 11 => RX11
  | 12 => RX12
  | 20 => RJ9
  | _ => RJ7
def gco_0_0 : List gIn := [(0, .aload 0, 1, 0, 0),
  (1, .invokespecial 999, 4, 0, 0),
  (4, .aload 0, 5, 0, 0),
  (5, .iconst 0, 7, 6, 0),
  (7, .newarray .int, 9, 0, 0),
  (9, .multianewarray 0 0, 12, 0, 0),
  (12, .aload 0, 13, 0, 0),
  (13, .iconst 0, 15, 6, 0),
  (15, .newarray .int, 17, 0, 0),
  (17, .multianewarray 0 1, 20, 0, 0),
  (20, .aload 0, 21, 0, 0),
  (21, .iconst 0, 23, 6, 0),
  (23, .newarray .int, 25, 0, 0),
  (25, .multianewarray 0 2, 28, 0, 0),
  (28, .aload 0, 29, 0, 0),
  (29, .iconst 0, 31, 50, 0),
  (31, .newarray .int, 33, 0, 0),
  (33, .multianewarray 0 3, 36, 0, 0),
  (36, .return_, 37, 0, 0)]
def gme_0 : gMe := ((yX0_init, cX0_init, 1, none), (0, true), (0, 0, 4, 68), gco_0_0)
def gco_1_0 : List gIn := [(0, .aload 0, 1, 0, 0),
  (1, .invokeinterface 0 0, 4, 0, 0),
  (4, .iconst 0, 5, 0, 0),
  (5, .invokestatic 240, 8, 0, 0),
  (8, .aload 0, 9, 0, 0),
  (9, .invokeinterface 0 1, 12, 0, 0),
  (12, .iconst 0, 13, 0, 0),
  (13, .invokestatic 240, 16, 0, 0),
  (16, .aload 0, 17, 0, 0),
  (17, .invokeinterface 0 2, 20, 0, 0),
  (20, .iconst 0, 21, 0, 0),
  (21, .invokestatic 240, 24, 0, 0),
  (24, .aload 0, 25, 0, 0),
  (25, .invokeinterface 0 3, 28, 0, 0),
  (28, .iconst 0, 29, 0, 0),
  (29, .invokestatic 240, 32, 0, 0),
  (32, .return_, 33, 0, 0)]
def gme_1 : gMe := ((yX0_clear, cX0_clear, 1, none), (0, false), (0, 0, 0, 0), gco_1_0)
def gco_2_0 : List gIn := [(0, .aload 1, 1, 0, 0),
  (1, .invokeinterface 0 0, 4, 0, 0),
  (4, .iconst 0, 5, 0, 0),
  (5, .aload 0, 6, 0, 0),
  (6, .invokeinterface 0 0, 9, 0, 0),
  (9, .iconst 0, 10, 0, 0),
  (10, .iconst 0, 12, 6, 0),
  (12, .invokedynamic 0, 15, 0, 0),
  (15, .aload 1, 16, 0, 0),
  (16, .invokeinterface 0 1, 19, 0, 0),
  (19, .iconst 0, 20, 0, 0),
  (20, .aload 0, 21, 0, 0),
  (21, .invokeinterface 0 1, 24, 0, 0),
  (24, .iconst 0, 25, 0, 0),
  (25, .iconst 0, 27, 6, 0),
  (27, .invokedynamic 0, 30, 0, 0),
  (30, .aload 1, 31, 0, 0),
  (31, .invokeinterface 0 2, 34, 0, 0),
  (34, .iconst 0, 35, 0, 0),
  (35, .aload 0, 36, 0, 0),
  (36, .invokeinterface 0 2, 39, 0, 0),
  (39, .iconst 0, 40, 0, 0),
  (40, .iconst 0, 42, 6, 0),
  (42, .invokedynamic 0, 45, 0, 0),
  (45, .aload 1, 46, 0, 0),
  (46, .invokeinterface 0 3, 49, 0, 0),
  (49, .iconst 0, 50, 0, 0),
  (50, .aload 0, 51, 0, 0),
  (51, .invokeinterface 0 3, 54, 0, 0),
  (54, .iconst 0, 55, 0, 0),
  (55, .iconst 0, 57, 50, 0),
  (57, .invokedynamic 0, 60, 0, 0),
  (60, .return_, 61, 0, 0)]
def gme_2 : gMe := ((yX0_copyFrom, cX0_copyFrom, 2, none), (0, false), (0, 1, 0, 0), gco_2_0)
def gco_3_0 : List gIn := [(0, .iload 1, 1, 0, 0),
  (1, .ifCond .gt 7, 4, 0, 0),
  (4, .iconst 0, 6, 100, 0),
  (6, .ireturn, 7, 0, 0),
  (7, .iconst 0, 8, 4, 0),
  (8, .iconst 0, 10, 100, 0),
  (10, .aload 0, 11, 0, 0),
  (11, .invokeinterface 0 3, 14, 0, 0),
  (14, .iload 1, 15, 0, 0),
  (15, .iconst 0, 16, 1, 0),
  (16, .isub, 17, 0, 0),
  (17, .iaload, 18, 0, 0),
  (18, .iconst 0, 19, 5, 0),
  (19, .idiv, 20, 0, 0),
  (20, .isub, 21, 0, 0),
  (21, .invokedynamic 3, 24, 0, 0),
  (24, .ireturn, 25, 0, 0)]
def gme_3 : gMe := ((yX0_priceIn, cX0_priceIn, 2, (some .int)), (0, false), (0, 1, 0, 0), gco_3_0)
def gco_4_0 : List gIn := [(0, .iload 3, 1, 0, 0),
  (1, .aload 0, 2, 0, 0),
  (2, .iload 1, 3, 0, 0),
  (3, .invokevirtual 3, 6, 0, 0),
  (6, .imul, 7, 0, 0),
  (7, .istore 4, 9, 0, 0),
  (9, .aload 0, 10, 0, 0),
  (10, .invokeinterface 0 0, 13, 0, 0),
  (13, .iload 2, 14, 0, 0),
  (14, .dup2, 15, 0, 0),
  (15, .iaload, 16, 0, 0),
  (16, .iload 3, 17, 0, 0),
  (17, .isub, 18, 0, 0),
  (18, .iastore, 19, 0, 0),
  (19, .aload 0, 20, 0, 0),
  (20, .invokeinterface 0 1, 23, 0, 0),
  (23, .iload 2, 24, 0, 0),
  (24, .dup2, 25, 0, 0),
  (25, .iaload, 26, 0, 0),
  (26, .iload 3, 27, 0, 0),
  (27, .iadd, 28, 0, 0),
  (28, .iastore, 29, 0, 0),
  (29, .aload 0, 30, 0, 0),
  (30, .invokeinterface 0 2, 33, 0, 0),
  (33, .iload 2, 34, 0, 0),
  (34, .dup2, 35, 0, 0),
  (35, .iaload, 36, 0, 0),
  (36, .iload 4, 38, 0, 0),
  (38, .iadd, 39, 0, 0),
  (39, .iastore, 40, 0, 0),
  (40, .aload 0, 41, 0, 0),
  (41, .invokeinterface 0 3, 44, 0, 0),
  (44, .iload 1, 45, 0, 0),
  (45, .dup2, 46, 0, 0),
  (46, .iaload, 47, 0, 0),
  (47, .iload 3, 48, 0, 0),
  (48, .iadd, 49, 0, 0),
  (49, .iastore, 50, 0, 0),
  (50, .iload 4, 52, 0, 0),
  (52, .ireturn, 53, 0, 0)]
def gme_4 : gMe := ((yX0_sellAt, cX0_sellAt, 5, (some .int)), (0, false), (0, 3, 0, 0), gco_4_0)
def gco_5_0 : List gIn := [(0, .aload 0, 1, 0, 0),
  (1, .invokeinterface 0 0, 4, 0, 0),
  (4, .invokestatic 7, 7, 0, 0),
  (7, .ireturn, 8, 0, 0)]
def gme_5 : gMe := ((yX0_allInTanks, cX0_allInTanks, 1, (some .int)), (0, false), (0, 0, 0, 0), gco_5_0)
def gco_6_0 : List gIn := [(0, .aload 0, 1, 0, 0),
  (1, .invokeinterface 0 1, 4, 0, 0),
  (4, .invokestatic 7, 7, 0, 0),
  (7, .ireturn, 8, 0, 0)]
def gme_6 : gMe := ((yX0_allSold, cX0_allSold, 1, (some .int)), (0, false), (0, 0, 0, 0), gco_6_0)
def gco_7_0 : List gIn := [(0, .iconst 0, 1, 0, 0),
  (1, .istore 1, 2, 0, 0),
  (2, .iconst 0, 3, 0, 0),
  (3, .istore 2, 4, 0, 0),
  (4, .iload 2, 5, 0, 3),
  (5, .iconst 0, 7, 6, 0),
  (7, .if_icmp .ge 22, 10, 0, 0),
  (10, .iload 1, 11, 0, 0),
  (11, .aload 0, 12, 0, 0),
  (12, .iload 2, 13, 0, 0),
  (13, .iaload, 14, 0, 0),
  (14, .iadd, 15, 0, 0),
  (15, .istore 1, 16, 0, 0),
  (16, .iinc 2 0, 19, 1, 0),
  (19, .goto 4, 22, 0, 0),
  (22, .iload 1, 23, 0, 0),
  (23, .ireturn, 24, 0, 0)]
def gme_7 : gMe := ((yX0_sumOverPersons, cX0_sumOverPersons, 3, (some .int)), (0, false), (0, 1, 0, 0), gco_7_0)
def gco_8_0 : List gIn := [(0, .aload 0, 1, 0, 0),
  (1, .invokespecial 999, 4, 0, 0),
  (4, .aload 0, 5, 0, 0),
  (5, .iconst 0, 7, 9, 0),
  (7, .newarray .int, 9, 0, 0),
  (9, .multianewarray 1 0, 12, 0, 0),
  (12, .aload 0, 13, 0, 0),
  (13, .iconst 0, 14, 4, 0),
  (14, .newarray .long, 16, 0, 0),
  (16, .multianewarray 1 1, 19, 0, 0),
  (19, .aload 0, 20, 0, 0),
  (20, .iconst 0, 23, 144, 0),
  (23, .newarray .int, 25, 0, 0),
  (25, .multianewarray 1 3, 28, 0, 0),
  (28, .aload 0, 29, 0, 0),
  (29, .iconst 0, 32, 144, 0),
  (32, .newarray .int, 34, 0, 0),
  (34, .multianewarray 1 4, 37, 0, 0),
  (37, .aload 0, 38, 0, 0),
  (38, .iconst 0, 41, 144, 0),
  (41, .newarray .int, 43, 0, 0),
  (43, .multianewarray 1 5, 46, 0, 0),
  (46, .aload 0, 47, 0, 0),
  (47, .iconst 0, 50, 144, 0),
  (50, .newarray .int, 52, 0, 0),
  (52, .multianewarray 1 6, 55, 0, 0),
  (55, .aload 0, 56, 0, 0),
  (56, .iconst 0, 59, 324, 0),
  (59, .newarray .int, 61, 0, 0),
  (61, .multianewarray 1 7, 64, 0, 0),
  (64, .return_, 65, 0, 0)]
def gme_8 : gMe := ((yX1_init, cX1_init, 1, none), (1, true), (1, 0, 7, 913), gco_8_0)
def gco_9_0 : List gIn := [(0, .aload 0, 1, 0, 0),
  (1, .iconst 0, 2, 0, 0),
  (2, .multianewarray 1 2, 5, 0, 0),
  (5, .iconst 0, 6, 0, 0),
  (6, .istore 2, 7, 0, 0),
  (7, .iload 2, 8, 0, 3),
  (8, .aload 1, 9, 0, 0),
  (9, .invokeinterface 5 2, 12, 0, 0),
  (12, .if_icmp .ge 35, 15, 0, 0),
  (15, .aload 1, 16, 0, 0),
  (16, .iload 2, 17, 0, 0),
  (17, .invokevirtual 46, 20, 0, 0),
  (20, .ifCond .le 29, 23, 0, 0),
  (23, .aload 0, 24, 0, 0),
  (24, .aload 1, 25, 0, 0),
  (25, .iload 2, 26, 0, 0),
  (26, .invokevirtual 10, 29, 0, 0),
  (29, .iinc 2 0, 32, 1, 3),
  (32, .goto 7, 35, 0, 0),
  (35, .return_, 36, 0, 0)]
def gme_9 : gMe := ((yX1_measure, cX1_measure, 3, none), (1, false), (1, 1, 0, 0), gco_9_0)
def gco_10_0 : List gIn := [(0, .lconst 0, 1, 0, 0),
  (1, .lstore 3, 2, 0, 0),
  (2, .iconst 0, 3, 0, 0),
  (3, .istore 5, 5, 0, 0),
  (5, .iload 5, 7, 0, 7),
  (7, .iconst 0, 8, 4, 0),
  (8, .if_icmp .ge 46, 11, 0, 0),
  (11, .aload 0, 12, 0, 0),
  (12, .invokeinterface 1 1, 15, 0, 0),
  (15, .iload 5, 17, 0, 0),
  (17, .aload 1, 18, 0, 0),
  (18, .iload 2, 19, 0, 0),
  (19, .aload 1, 20, 0, 0),
  (20, .iload 2, 21, 0, 0),
  (21, .iload 5, 23, 0, 0),
  (23, .invokevirtual 48, 26, 0, 0),
  (26, .invokestatic 11, 29, 0, 0),
  (29, .lastore, 30, 0, 0),
  (30, .lload 3, 31, 0, 0),
  (31, .aload 0, 32, 0, 0),
  (32, .invokeinterface 1 1, 35, 0, 0),
  (35, .iload 5, 37, 0, 0),
  (37, .laload, 38, 0, 0),
  (38, .ladd, 39, 0, 0),
  (39, .lstore 3, 40, 0, 0),
  (40, .iinc 5 0, 43, 1, 0),
  (43, .goto 5, 46, 0, 0),
  (46, .aload 1, 47, 0, 0),
  (47, .iload 2, 48, 0, 0),
  (48, .invokevirtual 46, 51, 0, 0),
  (51, .i2l, 52, 0, 0),
  (52, .lstore 5, 54, 0, 0),
  (54, .iconst 0, 55, 0, 0),
  (55, .istore 7, 57, 0, 0),
  (57, .iload 7, 59, 0, 8),
  (59, .iconst 0, 60, 4, 0),
  (60, .if_icmp .ge 133, 63, 0, 0),
  (63, .aload 0, 64, 0, 0),
  (64, .invokeinterface 1 1, 67, 0, 0),
  (67, .iload 7, 69, 0, 0),
  (69, .laload, 70, 0, 0),
  (70, .lconst 0, 71, 0, 0),
  (71, .lcmp, 72, 0, 0),
  (72, .ifCond .le 127, 75, 0, 0),
  (75, .lload 3, 76, 0, 0),
  (76, .lload 5, 78, 0, 0),
  (78, .lcmp, 79, 0, 0),
  (79, .ifCond .le 103, 82, 0, 0),
  (82, .lload 3, 83, 0, 0),
  (83, .lconst 0, 84, 0, 0),
  (84, .lcmp, 85, 0, 0),
  (85, .ifCond .le 103, 88, 0, 0),
  (88, .aload 0, 89, 0, 0),
  (89, .invokeinterface 1 1, 92, 0, 0),
  (92, .iload 7, 94, 0, 0),
  (94, .laload, 95, 0, 0),
  (95, .lload 5, 97, 0, 0),
  (97, .lmul, 98, 0, 0),
  (98, .lload 3, 99, 0, 0),
  (99, .ldiv, 100, 0, 0)]
def gco_10_1 : List gIn := [(100, .goto 110, 103, 0, 0),
  (103, .aload 0, 104, 0, 8),
  (104, .invokeinterface 1 1, 107, 0, 0),
  (107, .iload 7, 109, 0, 0),
  (109, .laload, 110, 0, 0),
  (110, .lstore 8, 112, 0, 8),
  (112, .aload 0, 113, 0, 0),
  (113, .aload 1, 114, 0, 0),
  (114, .iload 2, 115, 0, 0),
  (115, .aload 1, 116, 0, 0),
  (116, .iload 2, 117, 0, 0),
  (117, .iload 7, 119, 0, 0),
  (119, .invokevirtual 48, 122, 0, 0),
  (122, .lload 8, 124, 0, 0),
  (124, .invokevirtual 12, 127, 0, 0),
  (127, .iinc 7 0, 130, 1, 8),
  (130, .goto 57, 133, 0, 0),
  (133, .return_, 134, 0, 0)]
def gme_10 : gMe := ((yX1_measureCell, cX1_measureCell, 10, none), (1, false), (1, 2, 0, 0), gco_10_0 ++ (gco_10_1))
def gco_11_0 : List gIn := [(0, .iload 2, 1, 0, 0),
  (1, .iconst 0, 3, (-4), 0),
  (3, .if_icmp .ne 8, 6, 0, 0),
  (6, .lconst 0, 7, 0, 0),
  (7, .lreturn, 8, 0, 0),
  (8, .aload 0, 9, 0, 0),
  (9, .iload 1, 10, 0, 0),
  (10, .invokevirtual 47, 13, 0, 0),
  (13, .aload 0, 14, 0, 0),
  (14, .iload 2, 15, 0, 0),
  (15, .invokevirtual 47, 18, 0, 0),
  (18, .isub, 19, 0, 0),
  (19, .i2l, 20, 0, 0),
  (20, .lstore 3, 21, 0, 0),
  (21, .lload 3, 22, 0, 0),
  (22, .lconst 0, 23, 0, 0),
  (23, .lcmp, 24, 0, 0),
  (24, .ifCond .gt 31, 27, 0, 0),
  (27, .lconst 0, 28, 0, 0),
  (28, .goto 53, 31, 0, 0),
  (31, .lload 3, 32, 0, 0),
  (32, .aload 0, 33, 0, 0),
  (33, .invokeinterface 5 5, 36, 0, 0),
  (36, .iload 1, 37, 0, 0),
  (37, .iaload, 38, 0, 0),
  (38, .aload 0, 39, 0, 0),
  (39, .invokeinterface 5 5, 42, 0, 0),
  (42, .iload 2, 43, 0, 0),
  (43, .iaload, 44, 0, 0),
  (44, .invokedynamic 4, 47, 0, 0),
  (47, .i2l, 48, 0, 0),
  (48, .lmul, 49, 0, 0),
  (49, .lconst 0, 52, 40, 0),
  (52, .ldiv, 53, 0, 0),
  (53, .lreturn, 54, 0, 1)]
def gme_11 : gMe := ((yX1_wantOf, cX1_wantOf, 5, (some .long)), (1, false), (1, 3, 0, 0), gco_11_0)
def gco_12_0 : List gIn := [(0, .aload 1, 1, 0, 0),
  (1, .iload 2, 2, 0, 0),
  (2, .invokevirtual 46, 5, 0, 0),
  (5, .i2l, 6, 0, 0),
  (6, .lstore 6, 8, 0, 0),
  (8, .lload 6, 10, 0, 0),
  (10, .lconst 0, 11, 0, 0),
  (11, .lcmp, 12, 0, 0),
  (12, .ifCond .le 25, 15, 0, 0),
  (15, .aload 0, 16, 0, 0),
  (16, .invokeinterface 1 2, 19, 0, 0),
  (19, .iconst 0, 22, 144, 0),
  (22, .if_icmp .lt 26, 25, 0, 0),
  (25, .return_, 26, 0, 1),
  (26, .aload 0, 27, 0, 0),
  (27, .invokeinterface 1 3, 30, 0, 0),
  (30, .aload 0, 31, 0, 0),
  (31, .invokeinterface 1 2, 34, 0, 0),
  (34, .iload 2, 35, 0, 0),
  (35, .iastore, 36, 0, 0),
  (36, .aload 0, 37, 0, 0),
  (37, .invokeinterface 1 4, 40, 0, 0),
  (40, .aload 0, 41, 0, 0),
  (41, .invokeinterface 1 2, 44, 0, 0),
  (44, .iload 3, 45, 0, 0),
  (45, .iastore, 46, 0, 0),
  (46, .aload 0, 47, 0, 0),
  (47, .invokeinterface 1 5, 50, 0, 0),
  (50, .aload 0, 51, 0, 0),
  (51, .invokeinterface 1 2, 54, 0, 0),
  (54, .lload 4, 56, 0, 0),
  (56, .aload 1, 57, 0, 0),
  (57, .invokeinterface 5 8, 60, 0, 0),
  (60, .iload 2, 61, 0, 0),
  (61, .iaload, 62, 0, 0),
  (62, .i2l, 63, 0, 0),
  (63, .lmul, 64, 0, 0),
  (64, .lload 6, 66, 0, 0),
  (66, .ldiv, 67, 0, 0),
  (67, .l2i, 68, 0, 0),
  (68, .iastore, 69, 0, 0),
  (69, .aload 0, 70, 0, 0),
  (70, .invokeinterface 1 6, 73, 0, 0),
  (73, .aload 0, 74, 0, 0),
  (74, .invokeinterface 1 2, 77, 0, 0),
  (77, .lload 4, 79, 0, 0),
  (79, .aload 1, 80, 0, 0),
  (80, .invokeinterface 5 7, 83, 0, 0),
  (83, .iload 2, 84, 0, 0),
  (84, .iaload, 85, 0, 0),
  (85, .i2l, 86, 0, 0),
  (86, .lmul, 87, 0, 0),
  (87, .lload 6, 89, 0, 0),
  (89, .ldiv, 90, 0, 0),
  (90, .l2i, 91, 0, 0),
  (91, .iastore, 92, 0, 0),
  (92, .aload 0, 93, 0, 0),
  (93, .dup, 94, 0, 0),
  (94, .invokeinterface 1 2, 97, 0, 0),
  (97, .iconst 0, 98, 1, 0)]
def gco_12_1 : List gIn := [(98, .iadd, 99, 0, 0),
  (99, .multianewarray 1 2, 102, 0, 0),
  (102, .return_, 103, 0, 0)]
def gme_12 : gMe := ((yX1_add, cX1_add, 8, none), (1, false), (1, 4, 0, 0), gco_12_0 ++ (gco_12_1))
def gco_13_0 : List gIn := [(0, .iconst 0, 1, 0, 0),
  (1, .istore 2, 2, 0, 0),
  (2, .iload 2, 3, 0, 3),
  (3, .aload 0, 4, 0, 0),
  (4, .invokeinterface 1 2, 7, 0, 0),
  (7, .if_icmp .ge 56, 10, 0, 0),
  (10, .aload 1, 11, 0, 0),
  (11, .invokeinterface 5 8, 14, 0, 0),
  (14, .aload 0, 15, 0, 0),
  (15, .invokeinterface 1 3, 18, 0, 0),
  (18, .iload 2, 19, 0, 0),
  (19, .iaload, 20, 0, 0),
  (20, .dup2, 21, 0, 0),
  (21, .iaload, 22, 0, 0),
  (22, .aload 0, 23, 0, 0),
  (23, .invokeinterface 1 5, 26, 0, 0),
  (26, .iload 2, 27, 0, 0),
  (27, .iaload, 28, 0, 0),
  (28, .isub, 29, 0, 0),
  (29, .iastore, 30, 0, 0),
  (30, .aload 1, 31, 0, 0),
  (31, .invokeinterface 5 8, 34, 0, 0),
  (34, .aload 0, 35, 0, 0),
  (35, .invokeinterface 1 4, 38, 0, 0),
  (38, .iload 2, 39, 0, 0),
  (39, .iaload, 40, 0, 0),
  (40, .dup2, 41, 0, 0),
  (41, .iaload, 42, 0, 0),
  (42, .aload 0, 43, 0, 0),
  (43, .invokeinterface 1 5, 46, 0, 0),
  (46, .iload 2, 47, 0, 0),
  (47, .iaload, 48, 0, 0),
  (48, .iadd, 49, 0, 0),
  (49, .iastore, 50, 0, 0),
  (50, .iinc 2 0, 53, 1, 0),
  (53, .goto 2, 56, 0, 0),
  (56, .aload 0, 57, 0, 0),
  (57, .aload 1, 58, 0, 0),
  (58, .invokevirtual 15, 61, 0, 0),
  (61, .return_, 62, 0, 0)]
def gme_13 : gMe := ((yX1_movePool, cX1_movePool, 3, none), (1, false), (1, 1, 0, 0), gco_13_0)
def gco_14_0 : List gIn := [(0, .aload 0, 1, 0, 0),
  (1, .invokeinterface 1 7, 4, 0, 0),
  (4, .iconst 0, 5, 0, 0),
  (5, .invokestatic 240, 8, 0, 0),
  (8, .iconst 0, 9, 0, 0),
  (9, .istore 2, 10, 0, 0),
  (10, .iload 2, 11, 0, 3),
  (11, .aload 0, 12, 0, 0),
  (12, .invokeinterface 1 2, 15, 0, 0),
  (15, .if_icmp .ge 83, 18, 0, 0),
  (18, .aload 1, 19, 0, 0),
  (19, .aload 0, 20, 0, 0),
  (20, .invokeinterface 1 3, 23, 0, 0),
  (23, .iload 2, 24, 0, 0),
  (24, .iaload, 25, 0, 0),
  (25, .aload 0, 26, 0, 0),
  (26, .invokeinterface 1 5, 29, 0, 0),
  (29, .iload 2, 30, 0, 0),
  (30, .iaload, 31, 0, 0),
  (31, .aload 0, 32, 0, 0),
  (32, .invokeinterface 1 0, 35, 0, 0),
  (35, .invokevirtual 24, 38, 0, 0),
  (38, .iconst 0, 39, 0, 0),
  (39, .istore 3, 40, 0, 0),
  (40, .iload 3, 41, 0, 4),
  (41, .iconst 0, 43, 9, 0),
  (43, .if_icmp .ge 77, 46, 0, 0),
  (46, .aload 0, 47, 0, 0),
  (47, .invokeinterface 1 7, 50, 0, 0),
  (50, .aload 0, 51, 0, 0),
  (51, .invokeinterface 1 4, 54, 0, 0),
  (54, .iload 2, 55, 0, 0),
  (55, .iaload, 56, 0, 0),
  (56, .iconst 0, 58, 9, 0),
  (58, .imul, 59, 0, 0),
  (59, .iload 3, 60, 0, 0),
  (60, .iadd, 61, 0, 0),
  (61, .dup2, 62, 0, 0),
  (62, .iaload, 63, 0, 0),
  (63, .aload 0, 64, 0, 0),
  (64, .invokeinterface 1 0, 67, 0, 0),
  (67, .iload 3, 68, 0, 0),
  (68, .iaload, 69, 0, 0),
  (69, .iadd, 70, 0, 0),
  (70, .iastore, 71, 0, 0),
  (71, .iinc 3 0, 74, 1, 0),
  (74, .goto 40, 77, 0, 0),
  (77, .iinc 2 0, 80, 1, 0),
  (80, .goto 10, 83, 0, 0),
  (83, .iconst 0, 84, 0, 0),
  (84, .istore 2, 85, 0, 0),
  (85, .iload 2, 86, 0, 3),
  (86, .aload 1, 87, 0, 0),
  (87, .invokeinterface 3 0, 90, 0, 0),
  (90, .invokeinterface 5 2, 93, 0, 0),
  (93, .if_icmp .ge 164, 96, 0, 0),
  (96, .iconst 0, 97, 0, 0),
  (97, .istore 3, 98, 0, 0),
  (98, .iload 3, 99, 0, 4),
  (99, .iconst 0, 101, 9, 0)]
def gco_14_1 : List gIn := [(101, .if_icmp .ge 158, 104, 0, 0),
  (104, .aload 1, 105, 0, 0),
  (105, .invokeinterface 3 2, 108, 0, 0),
  (108, .iload 2, 109, 0, 0),
  (109, .iconst 0, 111, 9, 0),
  (111, .imul, 112, 0, 0),
  (112, .iload 3, 113, 0, 0),
  (113, .iadd, 114, 0, 0),
  (114, .dup2, 115, 0, 0),
  (115, .iaload, 116, 0, 0),
  (116, .aload 0, 117, 0, 0),
  (117, .invokeinterface 1 7, 120, 0, 0),
  (120, .iload 2, 121, 0, 0),
  (121, .iconst 0, 123, 9, 0),
  (123, .imul, 124, 0, 0),
  (124, .iload 3, 125, 0, 0),
  (125, .iadd, 126, 0, 0),
  (126, .iaload, 127, 0, 0),
  (127, .iadd, 128, 0, 0),
  (128, .iastore, 129, 0, 0),
  (129, .aload 1, 130, 0, 0),
  (130, .invokeinterface 3 0, 133, 0, 0),
  (133, .invokeinterface 5 8, 136, 0, 0),
  (136, .iload 2, 137, 0, 0),
  (137, .dup2, 138, 0, 0),
  (138, .iaload, 139, 0, 0),
  (139, .aload 0, 140, 0, 0),
  (140, .invokeinterface 1 7, 143, 0, 0),
  (143, .iload 2, 144, 0, 0),
  (144, .iconst 0, 146, 9, 0),
  (146, .imul, 147, 0, 0),
  (147, .iload 3, 148, 0, 0),
  (148, .iadd, 149, 0, 0),
  (149, .iaload, 150, 0, 0),
  (150, .iadd, 151, 0, 0),
  (151, .iastore, 152, 0, 0),
  (152, .iinc 3 0, 155, 1, 0),
  (155, .goto 98, 158, 0, 0),
  (158, .iinc 2 0, 161, 1, 0),
  (161, .goto 85, 164, 0, 0),
  (164, .aload 0, 165, 0, 0),
  (165, .aload 1, 166, 0, 0),
  (166, .invokeinterface 3 0, 169, 0, 0),
  (169, .invokevirtual 15, 172, 0, 0),
  (172, .return_, 173, 0, 0)]
def gme_14 : gMe := ((yX1_moveGround, cX1_moveGround, 4, none), (1, false), (1, 1, 0, 0), gco_14_0 ++ (gco_14_1))
def gco_15_0 : List gIn := [(0, .iconst 0, 1, 0, 0),
  (1, .istore 2, 2, 0, 0),
  (2, .iload 2, 3, 0, 3),
  (3, .aload 0, 4, 0, 0),
  (4, .invokeinterface 1 2, 7, 0, 0),
  (7, .if_icmp .ge 56, 10, 0, 0),
  (10, .aload 1, 11, 0, 0),
  (11, .invokeinterface 5 7, 14, 0, 0),
  (14, .aload 0, 15, 0, 0),
  (15, .invokeinterface 1 3, 18, 0, 0),
  (18, .iload 2, 19, 0, 0),
  (19, .iaload, 20, 0, 0),
  (20, .dup2, 21, 0, 0),
  (21, .iaload, 22, 0, 0),
  (22, .aload 0, 23, 0, 0),
  (23, .invokeinterface 1 6, 26, 0, 0),
  (26, .iload 2, 27, 0, 0),
  (27, .iaload, 28, 0, 0),
  (28, .isub, 29, 0, 0),
  (29, .iastore, 30, 0, 0),
  (30, .aload 1, 31, 0, 0),
  (31, .invokeinterface 5 7, 34, 0, 0),
  (34, .aload 0, 35, 0, 0),
  (35, .invokeinterface 1 4, 38, 0, 0),
  (38, .iload 2, 39, 0, 0),
  (39, .iaload, 40, 0, 0),
  (40, .dup2, 41, 0, 0),
  (41, .iaload, 42, 0, 0),
  (42, .aload 0, 43, 0, 0),
  (43, .invokeinterface 1 6, 46, 0, 0),
  (46, .iload 2, 47, 0, 0),
  (47, .iaload, 48, 0, 0),
  (48, .iadd, 49, 0, 0),
  (49, .iastore, 50, 0, 0),
  (50, .iinc 2 0, 53, 1, 0),
  (53, .goto 2, 56, 0, 0),
  (56, .return_, 57, 0, 0)]
def gme_15 : gMe := ((yX1_moveWater, cX1_moveWater, 3, none), (1, false), (1, 1, 0, 0), gco_15_0)
def gco_16_0 : List gIn := [(0, .aload 0, 1, 0, 0),
  (1, .invokespecial 999, 4, 0, 0),
  (4, .aload 0, 5, 0, 0),
  (5, .iconst 0, 7, 8, 0),
  (7, .newarray .int, 9, 0, 0),
  (9, .multianewarray 2 0, 12, 0, 0),
  (12, .aload 0, 13, 0, 0),
  (13, .iconst 0, 15, 12, 0),
  (15, .newarray .int, 17, 0, 0),
  (17, .multianewarray 2 2, 20, 0, 0),
  (20, .aload 0, 21, 0, 0),
  (21, .iconst 0, 23, 12, 0),
  (23, .newarray .int, 25, 0, 0),
  (25, .multianewarray 2 3, 28, 0, 0),
  (28, .aload 0, 29, 0, 0),
  (29, .iconst 0, 31, 12, 0),
  (31, .newarray .int, 33, 0, 0),
  (33, .multianewarray 2 4, 36, 0, 0),
  (36, .aload 0, 37, 0, 0),
  (37, .iconst 0, 39, 12, 0),
  (39, .newarray .int, 41, 0, 0),
  (41, .multianewarray 2 5, 44, 0, 0),
  (44, .return_, 45, 0, 0)]
def gme_16 : gMe := ((yX2_init, cX2_init, 1, none), (2, true), (2, 0, 5, 56), gco_16_0)
def gco_17_0 : List gIn := [(0, .aload 0, 1, 0, 0),
  (1, .invokeinterface 2 0, 4, 0, 0),
  (4, .iconst 0, 6, (-4), 0),
  (6, .invokestatic 240, 9, 0, 0),
  (9, .aload 0, 10, 0, 0),
  (10, .iconst 0, 11, 0, 0),
  (11, .multianewarray 2 1, 14, 0, 0),
  (14, .return_, 15, 0, 0)]
def gme_17 : gMe := ((yX2_clear, cX2_clear, 1, none), (2, false), (2, 0, 0, 0), gco_17_0)
def gco_18_0 : List gIn := [(0, .aload 0, 1, 0, 0),
  (1, .aload 1, 2, 0, 0),
  (2, .invokeinterface 2 1, 5, 0, 0),
  (5, .multianewarray 2 1, 8, 0, 0),
  (8, .aload 1, 9, 0, 0),
  (9, .invokeinterface 2 0, 12, 0, 0),
  (12, .iconst 0, 13, 0, 0),
  (13, .aload 0, 14, 0, 0),
  (14, .invokeinterface 2 0, 17, 0, 0),
  (17, .iconst 0, 18, 0, 0),
  (18, .iconst 0, 20, 8, 0),
  (20, .invokedynamic 0, 23, 0, 0),
  (23, .aload 1, 24, 0, 0),
  (24, .invokeinterface 2 2, 27, 0, 0),
  (27, .iconst 0, 28, 0, 0),
  (28, .aload 0, 29, 0, 0),
  (29, .invokeinterface 2 2, 32, 0, 0),
  (32, .iconst 0, 33, 0, 0),
  (33, .iconst 0, 35, 12, 0),
  (35, .invokedynamic 0, 38, 0, 0),
  (38, .aload 1, 39, 0, 0),
  (39, .invokeinterface 2 3, 42, 0, 0),
  (42, .iconst 0, 43, 0, 0),
  (43, .aload 0, 44, 0, 0),
  (44, .invokeinterface 2 3, 47, 0, 0),
  (47, .iconst 0, 48, 0, 0),
  (48, .iconst 0, 50, 12, 0),
  (50, .invokedynamic 0, 53, 0, 0),
  (53, .aload 1, 54, 0, 0),
  (54, .invokeinterface 2 4, 57, 0, 0),
  (57, .iconst 0, 58, 0, 0),
  (58, .aload 0, 59, 0, 0),
  (59, .invokeinterface 2 4, 62, 0, 0),
  (62, .iconst 0, 63, 0, 0),
  (63, .iconst 0, 65, 12, 0),
  (65, .invokedynamic 0, 68, 0, 0),
  (68, .aload 1, 69, 0, 0),
  (69, .invokeinterface 2 5, 72, 0, 0),
  (72, .iconst 0, 73, 0, 0),
  (73, .aload 0, 74, 0, 0),
  (74, .invokeinterface 2 5, 77, 0, 0),
  (77, .iconst 0, 78, 0, 0),
  (78, .iconst 0, 80, 12, 0),
  (80, .invokedynamic 0, 83, 0, 0),
  (83, .return_, 84, 0, 0)]
def gme_18 : gMe := ((yX2_copyFrom, cX2_copyFrom, 2, none), (2, false), (2, 1, 0, 0), gco_18_0)
def gco_19_0 : List gIn := [(0, .aload 0, 1, 0, 0),
  (1, .invokeinterface 2 1, 4, 0, 0),
  (4, .iconst 0, 6, 12, 0),
  (6, .if_icmp .lt 12, 9, 0, 0),
  (9, .iconst 0, 11, (-3), 0),
  (11, .ireturn, 12, 0, 0),
  (12, .aload 0, 13, 0, 0),
  (13, .invokeinterface 2 2, 16, 0, 0),
  (16, .aload 0, 17, 0, 0),
  (17, .invokeinterface 2 1, 20, 0, 0),
  (20, .iload 1, 21, 0, 0),
  (21, .iastore, 22, 0, 0),
  (22, .aload 0, 23, 0, 0),
  (23, .invokeinterface 2 3, 26, 0, 0),
  (26, .aload 0, 27, 0, 0),
  (27, .invokeinterface 2 1, 30, 0, 0),
  (30, .iload 2, 31, 0, 0),
  (31, .iastore, 32, 0, 0),
  (32, .aload 0, 33, 0, 0),
  (33, .invokeinterface 2 4, 36, 0, 0),
  (36, .aload 0, 37, 0, 0),
  (37, .invokeinterface 2 1, 40, 0, 0),
  (40, .iload 3, 41, 0, 0),
  (41, .iastore, 42, 0, 0),
  (42, .aload 0, 43, 0, 0),
  (43, .invokeinterface 2 5, 46, 0, 0),
  (46, .aload 0, 47, 0, 0),
  (47, .invokeinterface 2 1, 50, 0, 0),
  (50, .iload 4, 52, 0, 0),
  (52, .iastore, 53, 0, 0),
  (53, .aload 0, 54, 0, 0),
  (54, .dup, 55, 0, 0),
  (55, .invokeinterface 2 1, 58, 0, 0),
  (58, .iconst 0, 59, 1, 0),
  (59, .iadd, 60, 0, 0),
  (60, .multianewarray 2 1, 63, 0, 0),
  (63, .aload 0, 64, 0, 0),
  (64, .invokeinterface 2 1, 67, 0, 0),
  (67, .iconst 0, 68, 1, 0),
  (68, .isub, 69, 0, 0),
  (69, .ireturn, 70, 0, 0)]
def gme_19 : gMe := ((yX2_add, cX2_add, 5, (some .int)), (2, false), (2, 4, 0, 0), gco_19_0)
def gco_20_0 : List gIn := [(0, .aload 0, 1, 0, 0),
  (1, .invokespecial 999, 4, 0, 0),
  (4, .aload 0, 5, 0, 0),
  (5, .new 5, 8, 0, 0),
  (8, .dup, 9, 0, 0),
  (9, .invokespecial 42, 12, 0, 0),
  (12, .multianewarray 3 0, 15, 0, 0),
  (15, .aload 0, 16, 0, 0),
  (16, .iconst 0, 18, 36, 0),
  (18, .newarray .int, 20, 0, 0),
  (20, .multianewarray 3 1, 23, 0, 0),
  (23, .aload 0, 24, 0, 0),
  (24, .iconst 0, 27, 324, 0),
  (27, .newarray .int, 29, 0, 0),
  (29, .multianewarray 3 2, 32, 0, 0),
  (32, .return_, 33, 0, 0)]
def gme_20 : gMe := ((yX3_init, cX3_init, 1, none), (3, true), (3, 0, 9, 585), gco_20_0)
def gco_21_0 : List gIn := [(0, .aload 0, 1, 0, 0),
  (1, .invokeinterface 3 0, 4, 0, 0),
  (4, .iload 1, 5, 0, 0),
  (5, .iload 2, 6, 0, 0),
  (6, .invokevirtual 43, 9, 0, 0),
  (9, .aload 0, 10, 0, 0),
  (10, .invokeinterface 3 1, 13, 0, 0),
  (13, .iconst 0, 15, (-4), 0),
  (15, .invokestatic 240, 18, 0, 0),
  (18, .aload 0, 19, 0, 0),
  (19, .invokeinterface 3 2, 22, 0, 0),
  (22, .iconst 0, 23, 0, 0),
  (23, .invokestatic 240, 26, 0, 0),
  (26, .return_, 27, 0, 0)]
def gme_21 : gMe := ((yX3_becomeNew, cX3_becomeNew, 3, none), (3, false), (3, 2, 0, 0), gco_21_0)
def gco_22_0 : List gIn := [(0, .aload 0, 1, 0, 0),
  (1, .invokeinterface 3 0, 4, 0, 0),
  (4, .aload 1, 5, 0, 0),
  (5, .invokeinterface 3 0, 8, 0, 0),
  (8, .invokevirtual 44, 11, 0, 0),
  (11, .aload 1, 12, 0, 0),
  (12, .invokeinterface 3 1, 15, 0, 0),
  (15, .iconst 0, 16, 0, 0),
  (16, .aload 0, 17, 0, 0),
  (17, .invokeinterface 3 1, 20, 0, 0),
  (20, .iconst 0, 21, 0, 0),
  (21, .iconst 0, 23, 36, 0),
  (23, .invokedynamic 0, 26, 0, 0),
  (26, .aload 1, 27, 0, 0),
  (27, .invokeinterface 3 2, 30, 0, 0),
  (30, .iconst 0, 31, 0, 0),
  (31, .aload 0, 32, 0, 0),
  (32, .invokeinterface 3 2, 35, 0, 0),
  (35, .iconst 0, 36, 0, 0),
  (36, .iconst 0, 39, 324, 0),
  (39, .invokedynamic 0, 42, 0, 0),
  (42, .return_, 43, 0, 0)]
def gme_22 : gMe := ((yX3_copyFrom, cX3_copyFrom, 2, none), (3, false), (3, 1, 0, 0), gco_22_0)
def gco_23_0 : List gIn := [(0, .iconst 0, 1, 0, 0),
  (1, .istore 3, 2, 0, 0),
  (2, .iload 3, 3, 0, 4),
  (3, .iconst 0, 5, 9, 0),
  (5, .if_icmp .ge 26, 8, 0, 0),
  (8, .aload 0, 9, 0, 0),
  (9, .invokeinterface 3 2, 12, 0, 0),
  (12, .iload 1, 13, 0, 0),
  (13, .iconst 0, 15, 9, 0),
  (15, .imul, 16, 0, 0),
  (16, .iload 3, 17, 0, 0),
  (17, .iadd, 18, 0, 0),
  (18, .iconst 0, 19, 0, 0),
  (19, .iastore, 20, 0, 0),
  (20, .iinc 3 0, 23, 1, 0),
  (23, .goto 2, 26, 0, 0),
  (26, .aload 0, 27, 0, 0),
  (27, .invokeinterface 3 1, 30, 0, 0),
  (30, .iload 1, 31, 0, 0),
  (31, .iaload, 32, 0, 0),
  (32, .iconst 0, 34, (-4), 0),
  (34, .if_icmp .ne 42, 37, 0, 0),
  (37, .iconst 0, 39, 8, 0),
  (39, .goto 48, 42, 0, 0),
  (42, .aload 0, 43, 0, 0),
  (43, .invokeinterface 3 1, 46, 0, 0),
  (46, .iload 1, 47, 0, 0),
  (47, .iaload, 48, 0, 0),
  (48, .istore 3, 49, 0, 3),
  (49, .aload 0, 50, 0, 0),
  (50, .invokeinterface 3 2, 53, 0, 0),
  (53, .iload 1, 54, 0, 0),
  (54, .iconst 0, 56, 9, 0),
  (56, .imul, 57, 0, 0),
  (57, .iload 3, 58, 0, 0),
  (58, .iadd, 59, 0, 0),
  (59, .iload 2, 60, 0, 0),
  (60, .iastore, 61, 0, 0),
  (61, .aload 0, 62, 0, 0),
  (62, .invokeinterface 3 0, 65, 0, 0),
  (65, .invokeinterface 5 8, 68, 0, 0),
  (68, .iload 1, 69, 0, 0),
  (69, .iload 2, 70, 0, 0),
  (70, .iastore, 71, 0, 0),
  (71, .return_, 72, 0, 0)]
def gme_23 : gMe := ((yX3_tellOil, cX3_tellOil, 4, none), (3, false), (3, 2, 0, 0), gco_23_0)
def gco_24_0 : List gIn := [(0, .iload 1, 1, 0, 0),
  (1, .iconst 0, 3, 9, 0),
  (3, .imul, 4, 0, 0),
  (4, .istore 4, 6, 0, 0),
  (6, .aload 0, 7, 0, 0),
  (7, .invokeinterface 3 0, 10, 0, 0),
  (10, .invokeinterface 5 8, 13, 0, 0),
  (13, .iload 1, 14, 0, 0),
  (14, .iaload, 15, 0, 0),
  (15, .istore 5, 17, 0, 0),
  (17, .iload 2, 18, 0, 0),
  (18, .istore 6, 20, 0, 0),
  (20, .iconst 0, 21, 0, 0),
  (21, .istore 7, 23, 0, 0),
  (23, .iload 7, 25, 0, 8),
  (25, .iconst 0, 27, 9, 0),
  (27, .if_icmp .ge 77, 30, 0, 0),
  (30, .aload 3, 31, 0, 0),
  (31, .iload 7, 33, 0, 0),
  (33, .iload 5, 35, 0, 0),
  (35, .ifCond .gt 42, 38, 0, 0),
  (38, .iconst 0, 39, 0, 0),
  (39, .goto 61, 42, 0, 0),
  (42, .iload 2, 43, 0, 0),
  (43, .i2l, 44, 0, 0),
  (44, .aload 0, 45, 0, 0),
  (45, .invokeinterface 3 2, 48, 0, 0),
  (48, .iload 4, 50, 0, 0),
  (50, .iload 7, 52, 0, 0),
  (52, .iadd, 53, 0, 0),
  (53, .iaload, 54, 0, 0),
  (54, .i2l, 55, 0, 0),
  (55, .lmul, 56, 0, 0),
  (56, .iload 5, 58, 0, 0),
  (58, .i2l, 59, 0, 0),
  (59, .ldiv, 60, 0, 0),
  (60, .l2i, 61, 0, 0),
  (61, .iastore, 62, 0, 8),
  (62, .iload 6, 64, 0, 0),
  (64, .aload 3, 65, 0, 0),
  (65, .iload 7, 67, 0, 0),
  (67, .iaload, 68, 0, 0),
  (68, .isub, 69, 0, 0),
  (69, .istore 6, 71, 0, 0),
  (71, .iinc 7 0, 74, 1, 0),
  (74, .goto 23, 77, 0, 0),
  (77, .iconst 0, 78, 0, 0),
  (78, .istore 7, 80, 0, 0),
  (80, .iload 7, 82, 0, 8),
  (82, .iconst 0, 84, 9, 0),
  (84, .if_icmp .ge 143, 87, 0, 0),
  (87, .iload 6, 89, 0, 0),
  (89, .ifCond .le 120, 92, 0, 0),
  (92, .aload 0, 93, 0, 0),
  (93, .invokeinterface 3 2, 96, 0, 0),
  (96, .iload 4, 98, 0, 0),
  (98, .iload 7, 100, 0, 0),
  (100, .iadd, 101, 0, 0),
  (101, .iaload, 102, 0, 0),
  (102, .aload 3, 103, 0, 0)]
def gco_24_1 : List gIn := [(103, .iload 7, 105, 0, 0),
  (105, .iaload, 106, 0, 0),
  (106, .if_icmp .le 120, 109, 0, 0),
  (109, .aload 3, 110, 0, 0),
  (110, .iload 7, 112, 0, 0),
  (112, .dup2, 113, 0, 0),
  (113, .iaload, 114, 0, 0),
  (114, .iconst 0, 115, 1, 0),
  (115, .iadd, 116, 0, 0),
  (116, .iastore, 117, 0, 0),
  (117, .iinc 6 0, 120, (-1), 0),
  (120, .aload 0, 121, 0, 8),
  (121, .invokeinterface 3 2, 124, 0, 0),
  (124, .iload 4, 126, 0, 0),
  (126, .iload 7, 128, 0, 0),
  (128, .iadd, 129, 0, 0),
  (129, .dup2, 130, 0, 0),
  (130, .iaload, 131, 0, 0),
  (131, .aload 3, 132, 0, 0),
  (132, .iload 7, 134, 0, 0),
  (134, .iaload, 135, 0, 0),
  (135, .isub, 136, 0, 0),
  (136, .iastore, 137, 0, 0),
  (137, .iinc 7 0, 140, 1, 0),
  (140, .goto 80, 143, 0, 0),
  (143, .aload 0, 144, 0, 0),
  (144, .invokeinterface 3 0, 147, 0, 0),
  (147, .invokeinterface 5 8, 150, 0, 0),
  (150, .iload 1, 151, 0, 0),
  (151, .dup2, 152, 0, 0),
  (152, .iaload, 153, 0, 0),
  (153, .iload 2, 154, 0, 0),
  (154, .isub, 155, 0, 0),
  (155, .iastore, 156, 0, 0),
  (156, .return_, 157, 0, 0)]
def gme_24 : gMe := ((yX3_take, cX3_take, 8, none), (3, false), (3, 3, 0, 0), gco_24_0 ++ (gco_24_1))
def gco_25_0 : List gIn := [(0, .iconst 0, 1, 0, 0),
  (1, .istore 2, 2, 0, 0),
  (2, .iconst 0, 3, 0, 0),
  (3, .istore 3, 4, 0, 0),
  (4, .iload 3, 5, 0, 4),
  (5, .aload 0, 6, 0, 0),
  (6, .invokeinterface 3 0, 9, 0, 0),
  (9, .invokeinterface 5 2, 12, 0, 0),
  (12, .if_icmp .ge 34, 15, 0, 0),
  (15, .aload 0, 16, 0, 0),
  (16, .invokeinterface 3 1, 19, 0, 0),
  (19, .iload 3, 20, 0, 0),
  (20, .iaload, 21, 0, 0),
  (21, .iload 1, 22, 0, 0),
  (22, .if_icmp .ne 28, 25, 0, 0),
  (25, .iinc 2 0, 28, 1, 0),
  (28, .iinc 3 0, 31, 1, 4),
  (31, .goto 4, 34, 0, 0),
  (34, .iload 2, 35, 0, 0),
  (35, .ireturn, 36, 0, 0)]
def gme_25 : gMe := ((yX3_cellsOf, cX3_cellsOf, 4, (some .int)), (3, false), (3, 1, 0, 0), gco_25_0)
def gco_26_0 : List gIn := [(0, .iconst 0, 2, 99, 0),
  (2, .istore 2, 3, 0, 0),
  (3, .iconst 0, 4, 0, 0),
  (4, .istore 3, 5, 0, 0),
  (5, .iload 3, 6, 0, 4),
  (6, .aload 0, 7, 0, 0),
  (7, .invokeinterface 3 0, 10, 0, 0),
  (10, .invokeinterface 5 2, 13, 0, 0),
  (13, .if_icmp .ge 51, 16, 0, 0),
  (16, .aload 0, 17, 0, 0),
  (17, .invokeinterface 3 1, 20, 0, 0),
  (20, .iload 3, 21, 0, 0),
  (21, .iaload, 22, 0, 0),
  (22, .aload 0, 23, 0, 0),
  (23, .invokeinterface 3 1, 26, 0, 0),
  (26, .iload 1, 27, 0, 0),
  (27, .iaload, 28, 0, 0),
  (28, .if_icmp .eq 45, 31, 0, 0),
  (31, .iload 2, 32, 0, 0),
  (32, .aload 0, 33, 0, 0),
  (33, .invokeinterface 3 0, 36, 0, 0),
  (36, .iload 1, 37, 0, 0),
  (37, .iload 3, 38, 0, 0),
  (38, .invokevirtual 49, 41, 0, 0),
  (41, .invokedynamic 4, 44, 0, 0),
  (44, .istore 2, 45, 0, 0),
  (45, .iinc 3 0, 48, 1, 4),
  (48, .goto 5, 51, 0, 0),
  (51, .iload 2, 52, 0, 0),
  (52, .ireturn, 53, 0, 0)]
def gme_26 : gMe := ((yX3_strangerFrom, cX3_strangerFrom, 4, (some .int)), (3, false), (3, 1, 0, 0), gco_26_0)
def gco_27_0 : List gIn := [(0, .aload 0, 1, 0, 0),
  (1, .invokespecial 999, 4, 0, 0),
  (4, .aload 0, 5, 0, 0),
  (5, .iconst 0, 7, 12, 0),
  (7, .newarray .int, 9, 0, 0),
  (9, .multianewarray 4 1, 12, 0, 0),
  (12, .aload 0, 13, 0, 0),
  (13, .iconst 0, 15, 12, 0),
  (15, .newarray .int, 17, 0, 0),
  (17, .multianewarray 4 2, 20, 0, 0),
  (20, .aload 0, 21, 0, 0),
  (21, .iconst 0, 23, 12, 0),
  (23, .newarray .int, 25, 0, 0),
  (25, .multianewarray 4 3, 28, 0, 0),
  (28, .aload 0, 29, 0, 0),
  (29, .iconst 0, 31, 12, 0),
  (31, .newarray .boolean, 33, 0, 0),
  (33, .multianewarray 4 4, 36, 0, 0),
  (36, .return_, 37, 0, 0)]
def gme_27 : gMe := ((yX4_init, cX4_init, 1, none), (4, true), (4, 0, 4, 48), gco_27_0)
def gco_28_0 : List gIn := [(0, .aload 0, 1, 0, 0),
  (1, .aload 1, 2, 0, 0),
  (2, .invokeinterface 4 0, 5, 0, 0),
  (5, .multianewarray 4 0, 8, 0, 0),
  (8, .aload 1, 9, 0, 0),
  (9, .invokeinterface 4 1, 12, 0, 0),
  (12, .iconst 0, 13, 0, 0),
  (13, .aload 0, 14, 0, 0),
  (14, .invokeinterface 4 1, 17, 0, 0),
  (17, .iconst 0, 18, 0, 0),
  (18, .iconst 0, 20, 12, 0),
  (20, .invokedynamic 0, 23, 0, 0),
  (23, .aload 1, 24, 0, 0),
  (24, .invokeinterface 4 2, 27, 0, 0),
  (27, .iconst 0, 28, 0, 0),
  (28, .aload 0, 29, 0, 0),
  (29, .invokeinterface 4 2, 32, 0, 0),
  (32, .iconst 0, 33, 0, 0),
  (33, .iconst 0, 35, 12, 0),
  (35, .invokedynamic 0, 38, 0, 0),
  (38, .aload 1, 39, 0, 0),
  (39, .invokeinterface 4 3, 42, 0, 0),
  (42, .iconst 0, 43, 0, 0),
  (43, .aload 0, 44, 0, 0),
  (44, .invokeinterface 4 3, 47, 0, 0),
  (47, .iconst 0, 48, 0, 0),
  (48, .iconst 0, 50, 12, 0),
  (50, .invokedynamic 0, 53, 0, 0),
  (53, .iconst 0, 54, 0, 0),
  (54, .istore 2, 55, 0, 0),
  (55, .iload 2, 56, 0, 3),
  (56, .iconst 0, 58, 12, 0),
  (58, .if_icmp .ge 79, 61, 0, 0),
  (61, .aload 0, 62, 0, 0),
  (62, .invokeinterface 4 4, 65, 0, 0),
  (65, .iload 2, 66, 0, 0),
  (66, .aload 1, 67, 0, 0),
  (67, .invokeinterface 4 4, 70, 0, 0),
  (70, .iload 2, 71, 0, 0),
  (71, .baload, 72, 0, 0),
  (72, .bastore, 73, 0, 0),
  (73, .iinc 2 0, 76, 1, 0),
  (76, .goto 55, 79, 0, 0),
  (79, .return_, 80, 0, 0)]
def gme_28 : gMe := ((yX4_copyFrom, cX4_copyFrom, 3, none), (4, false), (4, 1, 0, 0), gco_28_0)
def gco_29_0 : List gIn := [(0, .aload 0, 1, 0, 0),
  (1, .invokeinterface 4 0, 4, 0, 0),
  (4, .iconst 0, 6, 12, 0),
  (6, .if_icmp .lt 10, 9, 0, 0),
  (9, .return_, 10, 0, 0),
  (10, .aload 0, 11, 0, 0),
  (11, .invokeinterface 4 1, 14, 0, 0),
  (14, .aload 0, 15, 0, 0),
  (15, .invokeinterface 4 0, 18, 0, 0),
  (18, .iload 1, 19, 0, 0),
  (19, .iastore, 20, 0, 0),
  (20, .aload 0, 21, 0, 0),
  (21, .invokeinterface 4 2, 24, 0, 0),
  (24, .aload 0, 25, 0, 0),
  (25, .invokeinterface 4 0, 28, 0, 0),
  (28, .iload 2, 29, 0, 0),
  (29, .iastore, 30, 0, 0),
  (30, .aload 0, 31, 0, 0),
  (31, .invokeinterface 4 3, 34, 0, 0),
  (34, .aload 0, 35, 0, 0),
  (35, .invokeinterface 4 0, 38, 0, 0),
  (38, .iload 3, 39, 0, 0),
  (39, .iastore, 40, 0, 0),
  (40, .aload 0, 41, 0, 0),
  (41, .invokeinterface 4 4, 44, 0, 0),
  (44, .aload 0, 45, 0, 0),
  (45, .invokeinterface 4 0, 48, 0, 0),
  (48, .iconst 0, 49, 0, 0),
  (49, .bastore, 50, 0, 0),
  (50, .aload 0, 51, 0, 0),
  (51, .dup, 52, 0, 0),
  (52, .invokeinterface 4 0, 55, 0, 0),
  (55, .iconst 0, 56, 1, 0),
  (56, .iadd, 57, 0, 0),
  (57, .multianewarray 4 0, 60, 0, 0),
  (60, .return_, 61, 0, 0)]
def gme_29 : gMe := ((yX4_add, cX4_add, 4, none), (4, false), (4, 3, 0, 0), gco_29_0)
def gco_30_0 : List gIn := [(0, .iconst 0, 1, 0, 0),
  (1, .istore 3, 2, 0, 0),
  (2, .iload 3, 3, 0, 4),
  (3, .aload 0, 4, 0, 0),
  (4, .invokeinterface 4 0, 7, 0, 0),
  (7, .if_icmp .ge 38, 10, 0, 0),
  (10, .aload 0, 11, 0, 0),
  (11, .invokeinterface 4 1, 14, 0, 0),
  (14, .iload 3, 15, 0, 0),
  (15, .iaload, 16, 0, 0),
  (16, .iload 1, 17, 0, 0),
  (17, .if_icmp .ne 32, 20, 0, 0),
  (20, .aload 0, 21, 0, 0),
  (21, .invokeinterface 4 2, 24, 0, 0),
  (24, .iload 3, 25, 0, 0),
  (25, .iaload, 26, 0, 0),
  (26, .iload 2, 27, 0, 0),
  (27, .if_icmp .ne 32, 30, 0, 0),
  (30, .iconst 0, 31, 1, 0),
  (31, .freturn, 32, 0, 0),
  (32, .iinc 3 0, 35, 1, 4),
  (35, .goto 2, 38, 0, 0),
  (38, .iconst 0, 39, 0, 0),
  (39, .freturn, 40, 0, 0)]
def gme_30 : gMe := ((yX4_tells, cX4_tells, 4, (some .boolean)), (4, false), (4, 2, 0, 0), gco_30_0)
def gco_31_0 : List gIn := [(0, .iconst 0, 1, 0, 0),
  (1, .istore 3, 2, 0, 0),
  (2, .iload 3, 3, 0, 4),
  (3, .aload 0, 4, 0, 0),
  (4, .invokeinterface 4 0, 7, 0, 0),
  (7, .if_icmp .ge 48, 10, 0, 0),
  (10, .aload 0, 11, 0, 0),
  (11, .invokeinterface 4 1, 14, 0, 0),
  (14, .iload 3, 15, 0, 0),
  (15, .iaload, 16, 0, 0),
  (16, .iconst 0, 17, 5, 0),
  (17, .if_icmp .ne 42, 20, 0, 0),
  (20, .aload 0, 21, 0, 0),
  (21, .invokeinterface 4 2, 24, 0, 0),
  (24, .iload 3, 25, 0, 0),
  (25, .iaload, 26, 0, 0),
  (26, .iload 2, 27, 0, 0),
  (27, .if_icmp .ne 42, 30, 0, 0),
  (30, .aload 0, 31, 0, 0),
  (31, .invokeinterface 4 3, 34, 0, 0),
  (34, .iload 3, 35, 0, 0),
  (35, .iaload, 36, 0, 0),
  (36, .iload 1, 37, 0, 0),
  (37, .if_icmp .ne 42, 40, 0, 0),
  (40, .iconst 0, 41, 1, 0),
  (41, .freturn, 42, 0, 0),
  (42, .iinc 3 0, 45, 1, 4),
  (45, .goto 2, 48, 0, 0),
  (48, .iconst 0, 49, 0, 0),
  (49, .freturn, 50, 0, 0)]
def gme_31 : gMe := ((yX4_tellsExcept, cX4_tellsExcept, 4, (some .boolean)), (4, false), (4, 2, 0, 0), gco_31_0)
def gco_32_0 : List gIn := [(0, .iconst 0, 2, (-4), 0),
  (2, .istore 3, 3, 0, 0),
  (3, .iconst 0, 4, 0, 0),
  (4, .istore 4, 6, 0, 0),
  (6, .iload 4, 8, 0, 5),
  (8, .aload 0, 9, 0, 0),
  (9, .invokeinterface 4 0, 12, 0, 0),
  (12, .if_icmp .ge 78, 15, 0, 0),
  (15, .aload 0, 16, 0, 0),
  (16, .invokeinterface 4 1, 19, 0, 0),
  (19, .iload 4, 21, 0, 0),
  (21, .iaload, 22, 0, 0),
  (22, .iload 1, 23, 0, 0),
  (23, .if_icmp .ne 72, 26, 0, 0),
  (26, .aload 0, 27, 0, 0),
  (27, .invokeinterface 4 4, 30, 0, 0),
  (30, .iload 4, 32, 0, 0),
  (32, .baload, 33, 0, 0),
  (33, .ifCond .ne 72, 36, 0, 0),
  (36, .aload 0, 37, 0, 0),
  (37, .invokeinterface 4 2, 40, 0, 0),
  (40, .iload 4, 42, 0, 0),
  (42, .iaload, 43, 0, 0),
  (43, .iload 2, 44, 0, 0),
  (44, .if_icmp .gt 72, 47, 0, 0),
  (47, .iload 3, 48, 0, 0),
  (48, .iconst 0, 50, (-4), 0),
  (50, .if_icmp .eq 69, 53, 0, 0),
  (53, .aload 0, 54, 0, 0),
  (54, .invokeinterface 4 2, 57, 0, 0),
  (57, .iload 4, 59, 0, 0),
  (59, .iaload, 60, 0, 0),
  (60, .aload 0, 61, 0, 0),
  (61, .invokeinterface 4 2, 64, 0, 0),
  (64, .iload 3, 65, 0, 0),
  (65, .iaload, 66, 0, 0),
  (66, .if_icmp .le 72, 69, 0, 0),
  (69, .iload 4, 71, 0, 5),
  (71, .istore 3, 72, 0, 0),
  (72, .iinc 4 0, 75, 1, 5),
  (75, .goto 6, 78, 0, 0),
  (78, .iload 3, 79, 0, 0),
  (79, .ireturn, 80, 0, 0)]
def gme_32 : gMe := ((yX4_lineIn, cX4_lineIn, 5, (some .int)), (4, false), (4, 2, 0, 0), gco_32_0)
def gco_33_0 : List gIn := [(0, .aload 0, 1, 0, 0),
  (1, .iload 1, 2, 0, 0),
  (2, .iload 2, 3, 0, 0),
  (3, .invokevirtual 32, 6, 0, 0),
  (6, .istore 3, 7, 0, 0),
  (7, .iload 3, 8, 0, 0),
  (8, .iconst 0, 10, (-4), 0),
  (10, .if_icmp .ne 17, 13, 0, 0),
  (13, .iconst 0, 14, 0, 0),
  (14, .goto 23, 17, 0, 0),
  (17, .aload 0, 18, 0, 0),
  (18, .invokeinterface 4 3, 21, 0, 0),
  (21, .iload 3, 22, 0, 0),
  (22, .iaload, 23, 0, 0),
  (23, .ireturn, 24, 0, 1)]
def gme_33 : gMe := ((yX4_numberIn, cX4_numberIn, 4, (some .int)), (4, false), (4, 2, 0, 0), gco_33_0)
def gco_34_0 : List gIn := [(0, .iconst 0, 1, 0, 0),
  (1, .istore 3, 2, 0, 0),
  (2, .iload 3, 3, 0, 4),
  (3, .aload 0, 4, 0, 0),
  (4, .invokeinterface 4 0, 7, 0, 0),
  (7, .if_icmp .ge 57, 10, 0, 0),
  (10, .aload 0, 11, 0, 0),
  (11, .invokeinterface 4 1, 14, 0, 0),
  (14, .iload 3, 15, 0, 0),
  (15, .iaload, 16, 0, 0),
  (16, .iconst 0, 17, 5, 0),
  (17, .if_icmp .ne 51, 20, 0, 0),
  (20, .aload 0, 21, 0, 0),
  (21, .invokeinterface 4 4, 24, 0, 0),
  (24, .iload 3, 25, 0, 0),
  (25, .baload, 26, 0, 0),
  (26, .ifCond .ne 51, 29, 0, 0),
  (29, .aload 0, 30, 0, 0),
  (30, .invokeinterface 4 2, 33, 0, 0),
  (33, .iload 3, 34, 0, 0),
  (34, .iaload, 35, 0, 0),
  (35, .iload 2, 36, 0, 0),
  (36, .if_icmp .gt 51, 39, 0, 0),
  (39, .aload 0, 40, 0, 0),
  (40, .invokeinterface 4 3, 43, 0, 0),
  (43, .iload 3, 44, 0, 0),
  (44, .iaload, 45, 0, 0),
  (45, .iload 1, 46, 0, 0),
  (46, .if_icmp .ne 51, 49, 0, 0),
  (49, .iconst 0, 50, 1, 0),
  (50, .freturn, 51, 0, 0),
  (51, .iinc 3 0, 54, 1, 4),
  (54, .goto 2, 57, 0, 0),
  (57, .iconst 0, 58, 0, 0),
  (58, .freturn, 59, 0, 0)]
def gme_34 : gMe := ((yX4_excepts, cX4_excepts, 4, (some .boolean)), (4, false), (4, 2, 0, 0), gco_34_0)
def gco_35_0 : List gIn := [(0, .aload 1, 1, 0, 0),
  (1, .invokevirtual 91, 4, 0, 0),
  (4, .istore 4, 6, 0, 0),
  (6, .aload 0, 7, 0, 0),
  (7, .aload 1, 8, 0, 0),
  (8, .iload 2, 9, 0, 0),
  (9, .iload 3, 10, 0, 0),
  (10, .aload 0, 11, 0, 0),
  (11, .iconst 0, 12, 0, 0),
  (12, .iload 4, 14, 0, 0),
  (14, .invokevirtual 33, 17, 0, 0),
  (17, .aload 0, 18, 0, 0),
  (18, .iconst 0, 19, 1, 0),
  (19, .iload 4, 21, 0, 0),
  (21, .invokevirtual 33, 24, 0, 0),
  (24, .invokevirtual 36, 27, 0, 0),
  (27, .ireturn, 28, 0, 0)]
def gme_35 : gMe := ((yX4_whyNot, cX4_whyNot, 5, (some .int)), (4, false), (4, 3, 0, 0), gco_35_0)
def gco_36_0 : List gIn := [(0, .aload 1, 1, 0, 0),
  (1, .invokeinterface 9 0, 4, 0, 0),
  (4, .invokeinterface 3 1, 7, 0, 0),
  (7, .iload 3, 8, 0, 0),
  (8, .iaload, 9, 0, 0),
  (9, .istore 6, 11, 0, 0),
  (11, .iload 6, 13, 0, 0),
  (13, .iconst 0, 15, (-4), 0),
  (15, .if_icmp .eq 28, 18, 0, 0),
  (18, .aload 1, 19, 0, 0),
  (19, .iload 6, 21, 0, 0),
  (21, .invokevirtual 96, 24, 0, 0),
  (24, .iload 2, 25, 0, 0),
  (25, .if_icmp .eq 30, 28, 0, 0),
  (28, .iconst 0, 29, 1, 1),
  (29, .ireturn, 30, 0, 0),
  (30, .aload 0, 31, 0, 0),
  (31, .iload 2, 32, 0, 0),
  (32, .aload 1, 33, 0, 0),
  (33, .invokevirtual 91, 36, 0, 0),
  (36, .invokevirtual 34, 39, 0, 0),
  (39, .ifCond .eq 44, 42, 0, 0),
  (42, .iconst 0, 43, 0, 0),
  (43, .ireturn, 44, 0, 0),
  (44, .aload 1, 45, 0, 0),
  (45, .invokeinterface 9 0, 48, 0, 0),
  (48, .iload 3, 49, 0, 0),
  (49, .invokevirtual 26, 52, 0, 0),
  (52, .iload 4, 54, 0, 0),
  (54, .if_icmp .ge 59, 57, 0, 0),
  (57, .iconst 0, 58, 2, 0),
  (58, .ireturn, 59, 0, 0),
  (59, .aload 1, 60, 0, 0),
  (60, .iload 3, 61, 0, 0),
  (61, .invokevirtual 98, 64, 0, 0),
  (64, .iload 5, 66, 0, 0),
  (66, .if_icmp .ge 73, 69, 0, 0),
  (69, .iconst 0, 70, 3, 0),
  (70, .goto 74, 73, 0, 0),
  (73, .iconst 0, 74, 0, 0),
  (74, .ireturn, 75, 0, 1)]
def gme_36 : gMe := ((yX4_whyNotUnder, cX4_whyNotUnder, 7, (some .int)), (4, false), (4, 5, 0, 0), gco_36_0)
def gco_37_0 : List gIn := [(0, .aload 0, 1, 0, 0),
  (1, .iconst 0, 2, 4, 0),
  (2, .iload 3, 3, 0, 0),
  (3, .invokevirtual 32, 6, 0, 0),
  (6, .iconst 0, 8, (-4), 0),
  (8, .if_icmp .eq 13, 11, 0, 0),
  (11, .iconst 0, 12, 0, 0),
  (12, .ireturn, 13, 0, 0),
  (13, .aload 0, 14, 0, 0),
  (14, .iconst 0, 15, 2, 0),
  (15, .iload 3, 16, 0, 0),
  (16, .invokevirtual 32, 19, 0, 0),
  (19, .istore 4, 21, 0, 0),
  (21, .aload 0, 22, 0, 0),
  (22, .iconst 0, 23, 3, 0),
  (23, .iload 3, 24, 0, 0),
  (24, .invokevirtual 32, 27, 0, 0),
  (27, .istore 5, 29, 0, 0),
  (29, .iload 5, 31, 0, 0),
  (31, .iconst 0, 33, (-4), 0),
  (33, .if_icmp .ne 56, 36, 0, 0),
  (36, .iload 4, 38, 0, 0),
  (38, .iconst 0, 40, (-4), 0),
  (40, .if_icmp .ne 48, 43, 0, 0),
  (43, .iconst 0, 45, (-4), 0),
  (45, .goto 55, 48, 0, 0),
  (48, .aload 0, 49, 0, 0),
  (49, .invokeinterface 4 3, 52, 0, 0),
  (52, .iload 4, 54, 0, 0),
  (54, .iaload, 55, 0, 0),
  (55, .ireturn, 56, 0, 1),
  (56, .aload 1, 57, 0, 0),
  (57, .iload 2, 58, 0, 0),
  (58, .aload 0, 59, 0, 0),
  (59, .invokeinterface 4 3, 62, 0, 0),
  (62, .iload 5, 64, 0, 0),
  (64, .iaload, 65, 0, 0),
  (65, .invokevirtual 99, 68, 0, 0),
  (68, .istore 6, 70, 0, 0),
  (70, .iload 4, 72, 0, 0),
  (72, .iconst 0, 74, (-4), 0),
  (74, .if_icmp .ne 82, 77, 0, 0),
  (77, .iload 6, 79, 0, 0),
  (79, .goto 94, 82, 0, 0),
  (82, .aload 0, 83, 0, 0),
  (83, .invokeinterface 4 3, 86, 0, 0),
  (86, .iload 4, 88, 0, 0),
  (88, .iaload, 89, 0, 0),
  (89, .iload 6, 91, 0, 0),
  (91, .invokedynamic 4, 94, 0, 0),
  (94, .ireturn, 95, 0, 1)]
def gme_37 : gMe := ((yX4_letOf, cX4_letOf, 7, (some .int)), (4, false), (4, 3, 0, 0), gco_37_0)
def gco_38_0 : List gIn := [(0, .aload 1, 1, 0, 0),
  (1, .invokeinterface 9 2, 4, 0, 0),
  (4, .invokeinterface 10 8, 7, 0, 0),
  (7, .iload 2, 8, 0, 0),
  (8, .iconst 0, 10, 50, 0),
  (10, .imul, 11, 0, 0),
  (11, .iload 3, 12, 0, 0),
  (12, .iadd, 13, 0, 0),
  (13, .iaload, 14, 0, 0),
  (14, .istore 4, 16, 0, 0),
  (16, .iload 4, 18, 0, 0),
  (18, .ifCond .ne 23, 21, 0, 0),
  (21, .iconst 0, 22, 0, 0),
  (22, .ireturn, 23, 0, 0),
  (23, .aload 0, 24, 0, 0),
  (24, .aload 1, 25, 0, 0),
  (25, .iload 2, 26, 0, 0),
  (26, .iload 3, 27, 0, 0),
  (27, .invokevirtual 37, 30, 0, 0),
  (30, .istore 5, 32, 0, 0),
  (32, .iload 5, 34, 0, 0),
  (34, .iconst 0, 36, (-4), 0),
  (36, .if_icmp .ne 43, 39, 0, 0),
  (39, .iconst 0, 40, 0, 0),
  (40, .goto 52, 43, 0, 0),
  (43, .iconst 0, 44, 0, 0),
  (44, .iload 4, 46, 0, 0),
  (46, .iload 5, 48, 0, 0),
  (48, .isub, 49, 0, 0),
  (49, .invokedynamic 3, 52, 0, 0),
  (52, .ireturn, 53, 0, 1)]
def gme_38 : gMe := ((yX4_hotIn, cX4_hotIn, 6, (some .int)), (4, false), (4, 3, 0, 0), gco_38_0)
def gco_39_0 : List gIn := [(0, .iconst 0, 1, 0, 0),
  (1, .istore 3, 2, 0, 0),
  (2, .iconst 0, 3, 0, 0),
  (3, .istore 4, 5, 0, 0),
  (5, .iload 4, 7, 0, 5),
  (7, .iconst 0, 9, 50, 0),
  (9, .if_icmp .ge 29, 12, 0, 0),
  (12, .iload 3, 13, 0, 0),
  (13, .aload 0, 14, 0, 0),
  (14, .aload 1, 15, 0, 0),
  (15, .iload 2, 16, 0, 0),
  (16, .iload 4, 18, 0, 0),
  (18, .invokevirtual 38, 21, 0, 0),
  (21, .iadd, 22, 0, 0),
  (22, .istore 3, 23, 0, 0),
  (23, .iinc 4 0, 26, 1, 0),
  (26, .goto 5, 29, 0, 0),
  (29, .iload 3, 30, 0, 0),
  (30, .ireturn, 31, 0, 0)]
def gme_39 : gMe := ((yX4_hotOfWell, cX4_hotOfWell, 5, (some .int)), (4, false), (4, 2, 0, 0), gco_39_0)
def gco_40_0 : List gIn := [(0, .iconst 0, 1, 0, 0),
  (1, .istore 3, 2, 0, 0),
  (2, .iconst 0, 3, 0, 0),
  (3, .istore 4, 5, 0, 0),
  (5, .iload 4, 7, 0, 5),
  (7, .aload 1, 8, 0, 0),
  (8, .invokeinterface 9 2, 11, 0, 0),
  (11, .invokeinterface 10 0, 14, 0, 0),
  (14, .if_icmp .ge 47, 17, 0, 0),
  (17, .aload 1, 18, 0, 0),
  (18, .invokeinterface 9 2, 21, 0, 0),
  (21, .invokeinterface 10 1, 24, 0, 0),
  (24, .iload 4, 26, 0, 0),
  (26, .iaload, 27, 0, 0),
  (27, .iload 2, 28, 0, 0),
  (28, .if_icmp .ne 41, 31, 0, 0),
  (31, .iload 3, 32, 0, 0),
  (32, .aload 0, 33, 0, 0),
  (33, .aload 1, 34, 0, 0),
  (34, .iload 4, 36, 0, 0),
  (36, .invokevirtual 39, 39, 0, 0),
  (39, .iadd, 40, 0, 0),
  (40, .istore 3, 41, 0, 0),
  (41, .iinc 4 0, 44, 1, 5),
  (44, .goto 5, 47, 0, 0),
  (47, .iload 3, 48, 0, 0),
  (48, .ireturn, 49, 0, 0)]
def gme_40 : gMe := ((yX4_hotOfPerson, cX4_hotOfPerson, 5, (some .int)), (4, false), (4, 2, 0, 0), gco_40_0)
def gco_41_0 : List gIn := [(0, .iconst 0, 1, 0, 0),
  (1, .istore 2, 2, 0, 0),
  (2, .iconst 0, 3, 0, 0),
  (3, .istore 3, 4, 0, 0),
  (4, .iload 3, 5, 0, 4),
  (5, .aload 1, 6, 0, 0),
  (6, .invokeinterface 9 2, 9, 0, 0),
  (9, .invokeinterface 10 0, 12, 0, 0),
  (12, .if_icmp .ge 30, 15, 0, 0),
  (15, .iload 2, 16, 0, 0),
  (16, .aload 0, 17, 0, 0),
  (17, .aload 1, 18, 0, 0),
  (18, .iload 3, 19, 0, 0),
  (19, .invokevirtual 39, 22, 0, 0),
  (22, .iadd, 23, 0, 0),
  (23, .istore 2, 24, 0, 0),
  (24, .iinc 3 0, 27, 1, 0),
  (27, .goto 4, 30, 0, 0),
  (30, .iload 2, 31, 0, 0),
  (31, .ireturn, 32, 0, 0)]
def gme_41 : gMe := ((yX4_hotOfAll, cX4_hotOfAll, 4, (some .int)), (4, false), (4, 1, 0, 0), gco_41_0)
def gco_42_0 : List gIn := [(0, .aload 0, 1, 0, 0),
  (1, .invokespecial 999, 4, 0, 0),
  (4, .aload 0, 5, 0, 0),
  (5, .iconst 0, 7, 36, 0),
  (7, .newarray .int, 9, 0, 0),
  (9, .multianewarray 5 3, 12, 0, 0),
  (12, .aload 0, 13, 0, 0),
  (13, .iconst 0, 15, 36, 0),
  (15, .newarray .int, 17, 0, 0),
  (17, .multianewarray 5 4, 20, 0, 0),
  (20, .aload 0, 21, 0, 0),
  (21, .iconst 0, 23, 36, 0),
  (23, .newarray .int, 25, 0, 0),
  (25, .multianewarray 5 5, 28, 0, 0),
  (28, .aload 0, 29, 0, 0),
  (29, .iconst 0, 31, 36, 0),
  (31, .newarray .int, 33, 0, 0),
  (33, .multianewarray 5 6, 36, 0, 0),
  (36, .aload 0, 37, 0, 0),
  (37, .iconst 0, 39, 36, 0),
  (39, .newarray .int, 41, 0, 0),
  (41, .multianewarray 5 7, 44, 0, 0),
  (44, .aload 0, 45, 0, 0),
  (45, .iconst 0, 47, 36, 0),
  (47, .newarray .int, 49, 0, 0),
  (49, .multianewarray 5 8, 52, 0, 0),
  (52, .return_, 53, 0, 0)]
def gme_42 : gMe := ((yX5_init, cX5_init, 1, none), (5, true), (5, 0, 6, 216), gco_42_0)
def gco_43_0 : List gIn := [(0, .aload 0, 1, 0, 0),
  (1, .iload 1, 2, 0, 0),
  (2, .multianewarray 5 0, 5, 0, 0),
  (5, .aload 0, 6, 0, 0),
  (6, .iload 2, 7, 0, 0),
  (7, .multianewarray 5 1, 10, 0, 0),
  (10, .aload 0, 11, 0, 0),
  (11, .iload 1, 12, 0, 0),
  (12, .iload 2, 13, 0, 0),
  (13, .imul, 14, 0, 0),
  (14, .multianewarray 5 2, 17, 0, 0),
  (17, .iconst 0, 18, 0, 0),
  (18, .istore 3, 19, 0, 0),
  (19, .iload 3, 20, 0, 4),
  (20, .iload 2, 21, 0, 0),
  (21, .if_icmp .ge 70, 24, 0, 0),
  (24, .iconst 0, 25, 0, 0),
  (25, .istore 4, 27, 0, 0),
  (27, .iload 4, 29, 0, 5),
  (29, .iload 1, 30, 0, 0),
  (30, .if_icmp .ge 64, 33, 0, 0),
  (33, .aload 0, 34, 0, 0),
  (34, .invokeinterface 5 3, 37, 0, 0),
  (37, .iload 3, 38, 0, 0),
  (38, .iload 1, 39, 0, 0),
  (39, .imul, 40, 0, 0),
  (40, .iload 4, 42, 0, 0),
  (42, .iadd, 43, 0, 0),
  (43, .iload 4, 45, 0, 0),
  (45, .iastore, 46, 0, 0),
  (46, .aload 0, 47, 0, 0),
  (47, .invokeinterface 5 4, 50, 0, 0),
  (50, .iload 3, 51, 0, 0),
  (51, .iload 1, 52, 0, 0),
  (52, .imul, 53, 0, 0),
  (53, .iload 4, 55, 0, 0),
  (55, .iadd, 56, 0, 0),
  (56, .iload 3, 57, 0, 0),
  (57, .iastore, 58, 0, 0),
  (58, .iinc 4 0, 61, 1, 0),
  (61, .goto 27, 64, 0, 0),
  (64, .iinc 3 0, 67, 1, 0),
  (67, .goto 19, 70, 0, 0),
  (70, .aload 0, 71, 0, 0),
  (71, .invokeinterface 5 5, 74, 0, 0),
  (74, .iconst 0, 75, 5, 0),
  (75, .invokestatic 240, 78, 0, 0),
  (78, .aload 0, 79, 0, 0),
  (79, .invokeinterface 5 6, 82, 0, 0),
  (82, .iconst 0, 83, 0, 0),
  (83, .invokestatic 240, 86, 0, 0),
  (86, .aload 0, 87, 0, 0),
  (87, .invokeinterface 5 7, 90, 0, 0),
  (90, .iconst 0, 91, 0, 0),
  (91, .invokestatic 240, 94, 0, 0),
  (94, .aload 0, 95, 0, 0),
  (95, .invokeinterface 5 8, 98, 0, 0),
  (98, .iconst 0, 99, 0, 0),
  (99, .invokestatic 240, 102, 0, 0),
  (102, .return_, 103, 0, 0)]
def gme_43 : gMe := ((yX5_becomeNew, cX5_becomeNew, 5, none), (5, false), (5, 2, 0, 0), gco_43_0)
def gco_44_0 : List gIn := [(0, .aload 0, 1, 0, 0),
  (1, .aload 1, 2, 0, 0),
  (2, .invokeinterface 5 0, 5, 0, 0),
  (5, .multianewarray 5 0, 8, 0, 0),
  (8, .aload 0, 9, 0, 0),
  (9, .aload 1, 10, 0, 0),
  (10, .invokeinterface 5 1, 13, 0, 0),
  (13, .multianewarray 5 1, 16, 0, 0),
  (16, .aload 0, 17, 0, 0),
  (17, .aload 1, 18, 0, 0),
  (18, .invokeinterface 5 2, 21, 0, 0),
  (21, .multianewarray 5 2, 24, 0, 0),
  (24, .aload 1, 25, 0, 0),
  (25, .invokeinterface 5 3, 28, 0, 0),
  (28, .iconst 0, 29, 0, 0),
  (29, .aload 0, 30, 0, 0),
  (30, .invokeinterface 5 3, 33, 0, 0),
  (33, .iconst 0, 34, 0, 0),
  (34, .iconst 0, 36, 36, 0),
  (36, .invokedynamic 0, 39, 0, 0),
  (39, .aload 1, 40, 0, 0),
  (40, .invokeinterface 5 4, 43, 0, 0),
  (43, .iconst 0, 44, 0, 0),
  (44, .aload 0, 45, 0, 0),
  (45, .invokeinterface 5 4, 48, 0, 0),
  (48, .iconst 0, 49, 0, 0),
  (49, .iconst 0, 51, 36, 0),
  (51, .invokedynamic 0, 54, 0, 0),
  (54, .aload 1, 55, 0, 0),
  (55, .invokeinterface 5 5, 58, 0, 0),
  (58, .iconst 0, 59, 0, 0),
  (59, .aload 0, 60, 0, 0),
  (60, .invokeinterface 5 5, 63, 0, 0),
  (63, .iconst 0, 64, 0, 0),
  (64, .iconst 0, 66, 36, 0),
  (66, .invokedynamic 0, 69, 0, 0),
  (69, .aload 1, 70, 0, 0),
  (70, .invokeinterface 5 6, 73, 0, 0),
  (73, .iconst 0, 74, 0, 0),
  (74, .aload 0, 75, 0, 0),
  (75, .invokeinterface 5 6, 78, 0, 0),
  (78, .iconst 0, 79, 0, 0),
  (79, .iconst 0, 81, 36, 0),
  (81, .invokedynamic 0, 84, 0, 0),
  (84, .aload 1, 85, 0, 0),
  (85, .invokeinterface 5 7, 88, 0, 0),
  (88, .iconst 0, 89, 0, 0),
  (89, .aload 0, 90, 0, 0),
  (90, .invokeinterface 5 7, 93, 0, 0),
  (93, .iconst 0, 94, 0, 0),
  (94, .iconst 0, 96, 36, 0),
  (96, .invokedynamic 0, 99, 0, 0),
  (99, .aload 1, 100, 0, 0),
  (100, .invokeinterface 5 8, 103, 0, 0),
  (103, .iconst 0, 104, 0, 0),
  (104, .aload 0, 105, 0, 0),
  (105, .invokeinterface 5 8, 108, 0, 0),
  (108, .iconst 0, 109, 0, 0),
  (109, .iconst 0, 111, 36, 0),
  (111, .invokedynamic 0, 114, 0, 0)]
def gco_44_1 : List gIn := [(114, .return_, 115, 0, 0)]
def gme_44 : gMe := ((yX5_copyFrom, cX5_copyFrom, 2, none), (5, false), (5, 1, 0, 0), gco_44_0 ++ (gco_44_1))
def gco_45_0 : List gIn := [(0, .iload 1, 1, 0, 0),
  (1, .ifCond .lt 16, 4, 0, 0),
  (4, .iload 1, 5, 0, 0),
  (5, .aload 0, 6, 0, 0),
  (6, .invokeinterface 5 2, 9, 0, 0),
  (9, .if_icmp .ge 16, 12, 0, 0),
  (12, .iconst 0, 13, 1, 0),
  (13, .goto 17, 16, 0, 0),
  (16, .iconst 0, 17, 0, 1),
  (17, .freturn, 18, 0, 1)]
def gme_45 : gMe := ((yX5_has, cX5_has, 2, (some .boolean)), (5, false), (5, 1, 0, 0), gco_45_0)
def gco_46_0 : List gIn := [(0, .aload 0, 1, 0, 0),
  (1, .invokeinterface 5 8, 4, 0, 0),
  (4, .iload 1, 5, 0, 0),
  (5, .iaload, 6, 0, 0),
  (6, .aload 0, 7, 0, 0),
  (7, .invokeinterface 5 7, 10, 0, 0),
  (10, .iload 1, 11, 0, 0),
  (11, .iaload, 12, 0, 0),
  (12, .iadd, 13, 0, 0),
  (13, .ireturn, 14, 0, 0)]
def gme_46 : gMe := ((yX5_liquid, cX5_liquid, 2, (some .int)), (5, false), (5, 1, 0, 0), gco_46_0)
def gco_47_0 : List gIn := [(0, .aload 0, 1, 0, 0),
  (1, .invokeinterface 5 8, 4, 0, 0),
  (4, .iload 1, 5, 0, 0),
  (5, .iaload, 6, 0, 0),
  (6, .aload 0, 7, 0, 0),
  (7, .invokeinterface 5 7, 10, 0, 0),
  (10, .iload 1, 11, 0, 0),
  (11, .iaload, 12, 0, 0),
  (12, .iadd, 13, 0, 0),
  (13, .aload 0, 14, 0, 0),
  (14, .invokeinterface 5 6, 17, 0, 0),
  (17, .iload 1, 18, 0, 0),
  (18, .iaload, 19, 0, 0),
  (19, .iadd, 20, 0, 0),
  (20, .ireturn, 21, 0, 0)]
def gme_47 : gMe := ((yX5_push, cX5_push, 2, (some .int)), (5, false), (5, 1, 0, 0), gco_47_0)
def gco_48_0 : List gIn := [(0, .iload 2, 1, 0, 0),
  (1, .lookupswitch 91 #[(0, 28), (1, 46), (2, 70)], 28, 0, 0),
  (28, .aload 0, 29, 0, 0),
  (29, .invokeinterface 5 3, 32, 0, 0),
  (32, .iload 1, 33, 0, 0),
  (33, .iaload, 34, 0, 0),
  (34, .ifCond .le 43, 37, 0, 0),
  (37, .iload 1, 38, 0, 0),
  (38, .iconst 0, 39, 1, 0),
  (39, .isub, 40, 0, 0),
  (40, .goto 45, 43, 0, 0),
  (43, .iconst 0, 45, (-4), 0),
  (45, .ireturn, 46, 0, 1),
  (46, .aload 0, 47, 0, 0),
  (47, .invokeinterface 5 3, 50, 0, 0),
  (50, .iload 1, 51, 0, 0),
  (51, .iaload, 52, 0, 0),
  (52, .aload 0, 53, 0, 0),
  (53, .invokeinterface 5 0, 56, 0, 0),
  (56, .iconst 0, 57, 1, 0),
  (57, .isub, 58, 0, 0),
  (58, .if_icmp .ge 67, 61, 0, 0),
  (61, .iload 1, 62, 0, 0),
  (62, .iconst 0, 63, 1, 0),
  (63, .iadd, 64, 0, 0),
  (64, .goto 69, 67, 0, 0),
  (67, .iconst 0, 69, (-4), 0),
  (69, .ireturn, 70, 0, 1),
  (70, .aload 0, 71, 0, 0),
  (71, .invokeinterface 5 4, 74, 0, 0),
  (74, .iload 1, 75, 0, 0),
  (75, .iaload, 76, 0, 0),
  (76, .ifCond .le 88, 79, 0, 0),
  (79, .iload 1, 80, 0, 0),
  (80, .aload 0, 81, 0, 0),
  (81, .invokeinterface 5 0, 84, 0, 0),
  (84, .isub, 85, 0, 0),
  (85, .goto 90, 88, 0, 0),
  (88, .iconst 0, 90, (-4), 0),
  (90, .ireturn, 91, 0, 1),
  (91, .aload 0, 92, 0, 0),
  (92, .invokeinterface 5 4, 95, 0, 0),
  (95, .iload 1, 96, 0, 0),
  (96, .iaload, 97, 0, 0),
  (97, .aload 0, 98, 0, 0),
  (98, .invokeinterface 5 1, 101, 0, 0),
  (101, .iconst 0, 102, 1, 0),
  (102, .isub, 103, 0, 0),
  (103, .if_icmp .ge 115, 106, 0, 0),
  (106, .iload 1, 107, 0, 0),
  (107, .aload 0, 108, 0, 0),
  (108, .invokeinterface 5 0, 111, 0, 0),
  (111, .iadd, 112, 0, 0),
  (112, .goto 117, 115, 0, 0),
  (115, .iconst 0, 117, (-4), 0),
  (117, .ireturn, 118, 0, 1)]
def gme_48 : gMe := ((yX5_beside, cX5_beside, 3, (some .int)), (5, false), (5, 2, 0, 0), gco_48_0)
def gco_49_0 : List gIn := [(0, .aload 0, 1, 0, 0),
  (1, .invokeinterface 5 3, 4, 0, 0),
  (4, .iload 1, 5, 0, 0),
  (5, .iaload, 6, 0, 0),
  (6, .aload 0, 7, 0, 0),
  (7, .invokeinterface 5 3, 10, 0, 0),
  (10, .iload 2, 11, 0, 0),
  (11, .iaload, 12, 0, 0),
  (12, .isub, 13, 0, 0),
  (13, .invokedynamic 5, 16, 0, 0),
  (16, .aload 0, 17, 0, 0),
  (17, .invokeinterface 5 4, 20, 0, 0),
  (20, .iload 1, 21, 0, 0),
  (21, .iaload, 22, 0, 0),
  (22, .aload 0, 23, 0, 0),
  (23, .invokeinterface 5 4, 26, 0, 0),
  (26, .iload 2, 27, 0, 0),
  (27, .iaload, 28, 0, 0),
  (28, .isub, 29, 0, 0),
  (29, .invokedynamic 5, 32, 0, 0),
  (32, .iadd, 33, 0, 0),
  (33, .ireturn, 34, 0, 0)]
def gme_49 : gMe := ((yX5_howFar, cX5_howFar, 3, (some .int)), (5, false), (5, 2, 0, 0), gco_49_0)
def gco_50_0 : List gIn := [(0, .iload 2, 1, 0, 0),
  (1, .aload 0, 2, 0, 0),
  (2, .iload 1, 3, 0, 0),
  (3, .invokevirtual 46, 6, 0, 0),
  (6, .invokedynamic 4, 9, 0, 0),
  (9, .ireturn, 10, 0, 0)]
def gme_50 : gMe := ((yX5_barrelsUnder, cX5_barrelsUnder, 3, (some .int)), (5, false), (5, 2, 0, 0), gco_50_0)
def gco_51_0 : List gIn := [(0, .aload 0, 1, 0, 0),
  (1, .iload 1, 2, 0, 0),
  (2, .invokevirtual 46, 5, 0, 0),
  (5, .istore 3, 6, 0, 0),
  (6, .iload 3, 7, 0, 0),
  (7, .ifCond .gt 14, 10, 0, 0),
  (10, .iconst 0, 11, 0, 0),
  (11, .goto 28, 14, 0, 0),
  (14, .iload 2, 15, 0, 0),
  (15, .i2l, 16, 0, 0),
  (16, .aload 0, 17, 0, 0),
  (17, .invokeinterface 5 8, 20, 0, 0),
  (20, .iload 1, 21, 0, 0),
  (21, .iaload, 22, 0, 0),
  (22, .i2l, 23, 0, 0),
  (23, .lmul, 24, 0, 0),
  (24, .iload 3, 25, 0, 0),
  (25, .i2l, 26, 0, 0),
  (26, .ldiv, 27, 0, 0),
  (27, .l2i, 28, 0, 0),
  (28, .ireturn, 29, 0, 1)]
def gme_51 : gMe := ((yX5_oilAmong, cX5_oilAmong, 4, (some .int)), (5, false), (5, 2, 0, 0), gco_51_0)
def gco_52_0 : List gIn := [(0, .aload 0, 1, 0, 0),
  (1, .aload 0, 2, 0, 0),
  (2, .invokeinterface 5 8, 5, 0, 0),
  (5, .invokevirtual 54, 8, 0, 0),
  (8, .ireturn, 9, 0, 0)]
def gme_52 : gMe := ((yX5_allOil, cX5_allOil, 1, (some .int)), (5, false), (5, 0, 0, 0), gco_52_0)
def gco_53_0 : List gIn := [(0, .aload 0, 1, 0, 0),
  (1, .aload 0, 2, 0, 0),
  (2, .invokeinterface 5 7, 5, 0, 0),
  (5, .invokevirtual 54, 8, 0, 0),
  (8, .ireturn, 9, 0, 0)]
def gme_53 : gMe := ((yX5_allWater, cX5_allWater, 1, (some .int)), (5, false), (5, 0, 0, 0), gco_53_0)
def gco_54_0 : List gIn := [(0, .iconst 0, 1, 0, 0),
  (1, .istore 2, 2, 0, 0),
  (2, .iconst 0, 3, 0, 0),
  (3, .istore 3, 4, 0, 0),
  (4, .iload 3, 5, 0, 4),
  (5, .aload 0, 6, 0, 0),
  (6, .invokeinterface 5 2, 9, 0, 0),
  (9, .if_icmp .ge 24, 12, 0, 0),
  (12, .iload 2, 13, 0, 0),
  (13, .aload 1, 14, 0, 0),
  (14, .iload 3, 15, 0, 0),
  (15, .iaload, 16, 0, 0),
  (16, .iadd, 17, 0, 0),
  (17, .istore 2, 18, 0, 0),
  (18, .iinc 3 0, 21, 1, 0),
  (21, .goto 4, 24, 0, 0),
  (24, .iload 2, 25, 0, 0),
  (25, .ireturn, 26, 0, 0)]
def gme_54 : gMe := ((yX5_sumOverCells, cX5_sumOverCells, 4, (some .int)), (5, false), (5, 1, 0, 0), gco_54_0)
def gco_55_0 : List gIn := [(0, .aload 0, 1, 0, 0),
  (1, .invokespecial 999, 4, 0, 0),
  (4, .aload 0, 5, 0, 0),
  (5, .new 5, 8, 0, 0),
  (8, .dup, 9, 0, 0),
  (9, .invokespecial 42, 12, 0, 0),
  (12, .multianewarray 6 0, 15, 0, 0),
  (15, .aload 0, 16, 0, 0),
  (16, .new 1, 19, 0, 0),
  (19, .dup, 20, 0, 0),
  (20, .invokespecial 8, 23, 0, 0),
  (23, .multianewarray 6 1, 26, 0, 0),
  (26, .aload 0, 27, 0, 0),
  (27, .iconst 0, 29, 6, 0),
  (29, .newarray .int, 31, 0, 0),
  (31, .multianewarray 6 2, 34, 0, 0),
  (34, .aload 0, 35, 0, 0),
  (35, .iconst 0, 37, 64, 0),
  (37, .newarray .int, 39, 0, 0),
  (39, .multianewarray 6 3, 42, 0, 0),
  (42, .return_, 43, 0, 0)]
def gme_55 : gMe := ((yX6_init, cX6_init, 1, none), (6, true), (6, 0, 17, 1216), gco_55_0)
def gco_56_0 : List gIn := [(0, .aload 0, 1, 0, 0),
  (1, .iload 1, 2, 0, 0),
  (2, .multianewarray 6 4, 5, 0, 0),
  (5, .aload 0, 6, 0, 0),
  (6, .iload 2, 7, 0, 0),
  (7, .multianewarray 6 5, 10, 0, 0),
  (10, .aload 0, 11, 0, 0),
  (11, .iload 3, 12, 0, 0),
  (12, .multianewarray 6 6, 15, 0, 0),
  (15, .aload 0, 16, 0, 0),
  (16, .iload 4, 18, 0, 0),
  (18, .multianewarray 6 7, 21, 0, 0),
  (21, .return_, 22, 0, 0)]
def gme_56 : gMe := ((yX6_prepare, cX6_prepare, 5, none), (6, false), (6, 4, 0, 0), gco_56_0)
def gco_57_0 : List gIn := [(0, .iconst 0, 1, 0, 0),
  (1, .istore 3, 2, 0, 0),
  (2, .iload 3, 3, 0, 4),
  (3, .iconst 0, 4, 1, 0),
  (4, .aload 0, 5, 0, 0),
  (5, .invokeinterface 6 4, 8, 0, 0),
  (8, .ishl, 9, 0, 0),
  (9, .if_icmp .ge 25, 12, 0, 0),
  (12, .aload 0, 13, 0, 0),
  (13, .aload 1, 14, 0, 0),
  (14, .aload 2, 15, 0, 0),
  (15, .iload 3, 16, 0, 0),
  (16, .invokevirtual 58, 19, 0, 0),
  (19, .iinc 3 0, 22, 1, 0),
  (22, .goto 2, 25, 0, 0),
  (25, .return_, 26, 0, 0)]
def gme_57 : gMe := ((yX6_runAll, cX6_runAll, 4, none), (6, false), (6, 2, 0, 0), gco_57_0)
def gco_58_0 : List gIn := [(0, .aload 0, 1, 0, 0),
  (1, .invokeinterface 6 0, 4, 0, 0),
  (4, .aload 1, 5, 0, 0),
  (5, .invokeinterface 9 0, 8, 0, 0),
  (8, .invokeinterface 3 0, 11, 0, 0),
  (11, .invokevirtual 44, 14, 0, 0),
  (14, .aload 0, 15, 0, 0),
  (15, .invokeinterface 6 2, 18, 0, 0),
  (18, .iconst 0, 19, 0, 0),
  (19, .invokestatic 240, 22, 0, 0),
  (22, .iconst 0, 23, 0, 0),
  (23, .istore 4, 25, 0, 0),
  (25, .iload 4, 27, 0, 5),
  (27, .aload 0, 28, 0, 0),
  (28, .invokeinterface 6 7, 31, 0, 0),
  (31, .if_icmp .ge 72, 34, 0, 0),
  (34, .aload 0, 35, 0, 0),
  (35, .aload 1, 36, 0, 0),
  (36, .invokeinterface 9 2, 39, 0, 0),
  (39, .aload 2, 40, 0, 0),
  (40, .iload 3, 41, 0, 0),
  (41, .invokevirtual 59, 44, 0, 0),
  (44, .aload 0, 45, 0, 0),
  (45, .invokeinterface 6 1, 48, 0, 0),
  (48, .aload 0, 49, 0, 0),
  (49, .invokeinterface 6 0, 52, 0, 0),
  (52, .invokevirtual 9, 55, 0, 0),
  (55, .aload 0, 56, 0, 0),
  (56, .invokeinterface 6 1, 59, 0, 0),
  (59, .aload 0, 60, 0, 0),
  (60, .invokeinterface 6 0, 63, 0, 0),
  (63, .invokevirtual 13, 66, 0, 0),
  (66, .iinc 4 0, 69, 1, 0),
  (69, .goto 25, 72, 0, 0),
  (72, .iconst 0, 73, 0, 0),
  (73, .istore 4, 75, 0, 0),
  (75, .iload 4, 77, 0, 5),
  (77, .aload 0, 78, 0, 0),
  (78, .invokeinterface 6 4, 81, 0, 0),
  (81, .if_icmp .ge 126, 84, 0, 0),
  (84, .aload 0, 85, 0, 0),
  (85, .invokeinterface 6 3, 88, 0, 0),
  (88, .iload 3, 89, 0, 0),
  (89, .iconst 0, 90, 4, 0),
  (90, .imul, 91, 0, 0),
  (91, .iload 4, 93, 0, 0),
  (93, .iadd, 94, 0, 0),
  (94, .aload 0, 95, 0, 0),
  (95, .invokeinterface 6 2, 98, 0, 0),
  (98, .iload 4, 100, 0, 0),
  (100, .iaload, 101, 0, 0),
  (101, .iload 3, 102, 0, 0),
  (102, .iload 4, 104, 0, 0),
  (104, .invokestatic 61, 107, 0, 0),
  (107, .ifCond .eq 117, 110, 0, 0),
  (110, .aload 0, 111, 0, 0),
  (111, .invokeinterface 6 6, 114, 0, 0),
  (114, .goto 118, 117, 0, 0),
  (117, .iconst 0, 118, 0, 0),
  (118, .isub, 119, 0, 5)]
def gco_58_1 : List gIn := [(119, .iastore, 120, 0, 0),
  (120, .iinc 4 0, 123, 1, 0),
  (123, .goto 75, 126, 0, 0),
  (126, .return_, 127, 0, 0)]
def gme_58 : gMe := ((yX6_run, cX6_run, 5, none), (6, false), (6, 3, 0, 0), gco_58_0 ++ (gco_58_1))
def gco_59_0 : List gIn := [(0, .iconst 0, 1, 0, 0),
  (1, .istore 4, 3, 0, 0),
  (3, .iload 4, 5, 0, 5),
  (5, .aload 1, 6, 0, 0),
  (6, .invokeinterface 10 0, 9, 0, 0),
  (9, .if_icmp .ge 61, 12, 0, 0),
  (12, .aload 1, 13, 0, 0),
  (13, .invokeinterface 10 4, 16, 0, 0),
  (16, .iload 4, 18, 0, 0),
  (18, .baload, 19, 0, 0),
  (19, .ifCond .eq 55, 22, 0, 0),
  (22, .aload 0, 23, 0, 0),
  (23, .invokeinterface 6 2, 26, 0, 0),
  (26, .aload 1, 27, 0, 0),
  (27, .invokeinterface 10 1, 30, 0, 0),
  (30, .iload 4, 32, 0, 0),
  (32, .iaload, 33, 0, 0),
  (33, .dup2, 34, 0, 0),
  (34, .iaload, 35, 0, 0),
  (35, .aload 0, 36, 0, 0),
  (36, .aload 1, 37, 0, 0),
  (37, .invokeinterface 10 2, 40, 0, 0),
  (40, .iload 4, 42, 0, 0),
  (42, .iaload, 43, 0, 0),
  (43, .aload 1, 44, 0, 0),
  (44, .invokeinterface 10 3, 47, 0, 0),
  (47, .iload 4, 49, 0, 0),
  (49, .iaload, 50, 0, 0),
  (50, .invokevirtual 60, 53, 0, 0),
  (53, .iadd, 54, 0, 0),
  (54, .iastore, 55, 0, 0),
  (55, .iinc 4 0, 58, 1, 5),
  (58, .goto 3, 61, 0, 0),
  (61, .iconst 0, 62, 0, 0),
  (62, .istore 4, 64, 0, 0),
  (64, .iload 4, 66, 0, 5),
  (66, .aload 0, 67, 0, 0),
  (67, .invokeinterface 6 4, 70, 0, 0),
  (70, .if_icmp .ge 110, 73, 0, 0),
  (73, .iload 3, 74, 0, 0),
  (74, .iload 4, 76, 0, 0),
  (76, .invokestatic 61, 79, 0, 0),
  (79, .ifCond .eq 104, 82, 0, 0),
  (82, .aload 0, 83, 0, 0),
  (83, .invokeinterface 6 2, 86, 0, 0),
  (86, .iload 4, 88, 0, 0),
  (88, .dup2, 89, 0, 0),
  (89, .iaload, 90, 0, 0),
  (90, .aload 0, 91, 0, 0),
  (91, .aload 2, 92, 0, 0),
  (92, .iload 4, 94, 0, 0),
  (94, .iaload, 95, 0, 0),
  (95, .aload 0, 96, 0, 0),
  (96, .invokeinterface 6 5, 99, 0, 0),
  (99, .invokevirtual 60, 102, 0, 0),
  (102, .iadd, 103, 0, 0),
  (103, .iastore, 104, 0, 0),
  (104, .iinc 4 0, 107, 1, 5),
  (107, .goto 64, 110, 0, 0),
  (110, .return_, 111, 0, 0)]
def gme_59 : gMe := ((yX6_drawAll, cX6_drawAll, 5, none), (6, false), (6, 3, 0, 0), gco_59_0)
def gco_60_0 : List gIn := [(0, .aload 0, 1, 0, 0),
  (1, .invokeinterface 6 0, 4, 0, 0),
  (4, .iload 1, 5, 0, 0),
  (5, .iload 2, 6, 0, 0),
  (6, .invokevirtual 50, 9, 0, 0),
  (9, .istore 3, 10, 0, 0),
  (10, .aload 0, 11, 0, 0),
  (11, .invokeinterface 6 0, 14, 0, 0),
  (14, .iload 1, 15, 0, 0),
  (15, .iload 3, 16, 0, 0),
  (16, .invokevirtual 51, 19, 0, 0),
  (19, .istore 4, 21, 0, 0),
  (21, .aload 0, 22, 0, 0),
  (22, .invokeinterface 6 0, 25, 0, 0),
  (25, .invokeinterface 5 8, 28, 0, 0),
  (28, .iload 1, 29, 0, 0),
  (29, .dup2, 30, 0, 0),
  (30, .iaload, 31, 0, 0),
  (31, .iload 4, 33, 0, 0),
  (33, .isub, 34, 0, 0),
  (34, .iastore, 35, 0, 0),
  (35, .aload 0, 36, 0, 0),
  (36, .invokeinterface 6 0, 39, 0, 0),
  (39, .invokeinterface 5 7, 42, 0, 0),
  (42, .iload 1, 43, 0, 0),
  (43, .dup2, 44, 0, 0),
  (44, .iaload, 45, 0, 0),
  (45, .iload 3, 46, 0, 0),
  (46, .iload 4, 48, 0, 0),
  (48, .isub, 49, 0, 0),
  (49, .isub, 50, 0, 0),
  (50, .iastore, 51, 0, 0),
  (51, .iload 4, 53, 0, 0),
  (53, .ireturn, 54, 0, 0)]
def gme_60 : gMe := ((yX6_drawFrom, cX6_drawFrom, 5, (some .int)), (6, false), (6, 2, 0, 0), gco_60_0)
def gco_61_0 : List gIn := [(0, .iload 0, 1, 0, 0),
  (1, .iload 1, 2, 0, 0),
  (2, .ishr, 3, 0, 0),
  (3, .iconst 0, 4, 1, 0),
  (4, .iand, 5, 0, 0),
  (5, .iconst 0, 6, 1, 0),
  (6, .if_icmp .ne 13, 9, 0, 0),
  (9, .iconst 0, 10, 1, 0),
  (10, .goto 14, 13, 0, 0),
  (13, .iconst 0, 14, 0, 0),
  (14, .freturn, 15, 0, 1)]
def gme_61 : gMe := ((yX6_drills, cX6_drills, 2, (some .boolean)), (6, false), (6, 2, 0, 0), gco_61_0)
def gco_62_0 : List gIn := [(0, .aload 0, 1, 0, 0),
  (1, .invokeinterface 6 3, 4, 0, 0),
  (4, .iload 1, 5, 0, 0),
  (5, .iconst 0, 6, 4, 0),
  (6, .imul, 7, 0, 0),
  (7, .iload 2, 8, 0, 0),
  (8, .iadd, 9, 0, 0),
  (9, .iaload, 10, 0, 0),
  (10, .ireturn, 11, 0, 0)]
def gme_62 : gMe := ((yX6_gainOf, cX6_gainOf, 3, (some .int)), (6, false), (6, 2, 0, 0), gco_62_0)
def gco_63_0 : List gIn := [(0, .iconst 0, 1, 0, 0),
  (1, .istore 2, 2, 0, 0),
  (2, .iconst 0, 3, 0, 0),
  (3, .istore 3, 4, 0, 0),
  (4, .iload 3, 5, 0, 4),
  (5, .aload 0, 6, 0, 0),
  (6, .invokeinterface 6 4, 9, 0, 0),
  (9, .if_icmp .ge 27, 12, 0, 0),
  (12, .iload 2, 13, 0, 0),
  (13, .aload 0, 14, 0, 0),
  (14, .iload 1, 15, 0, 0),
  (15, .iload 3, 16, 0, 0),
  (16, .invokevirtual 62, 19, 0, 0),
  (19, .iadd, 20, 0, 0),
  (20, .istore 2, 21, 0, 0),
  (21, .iinc 3 0, 24, 1, 0),
  (24, .goto 4, 27, 0, 0),
  (27, .iload 2, 28, 0, 0),
  (28, .ireturn, 29, 0, 0)]
def gme_63 : gMe := ((yX6_sumOf, cX6_sumOf, 4, (some .int)), (6, false), (6, 1, 0, 0), gco_63_0)
def gco_64_0 : List gIn := [(0, .iconst 0, 1, 0, 0),
  (1, .istore 2, 2, 0, 0),
  (2, .iload 2, 3, 0, 3),
  (3, .aload 0, 4, 0, 0),
  (4, .invokeinterface 6 4, 7, 0, 0),
  (7, .if_icmp .ge 37, 10, 0, 0),
  (10, .aload 0, 11, 0, 0),
  (11, .iload 1, 12, 0, 0),
  (12, .iconst 0, 13, 1, 0),
  (13, .iload 2, 14, 0, 0),
  (14, .ishl, 15, 0, 0),
  (15, .ixor, 16, 0, 0),
  (16, .iload 2, 17, 0, 0),
  (17, .invokevirtual 62, 20, 0, 0),
  (20, .aload 0, 21, 0, 0),
  (21, .iload 1, 22, 0, 0),
  (22, .iload 2, 23, 0, 0),
  (23, .invokevirtual 62, 26, 0, 0),
  (26, .if_icmp .le 31, 29, 0, 0),
  (29, .iconst 0, 30, 0, 0),
  (30, .freturn, 31, 0, 0),
  (31, .iinc 2 0, 34, 1, 0),
  (34, .goto 2, 37, 0, 0),
  (37, .iconst 0, 38, 1, 0),
  (38, .freturn, 39, 0, 0)]
def gme_64 : gMe := ((yX6_isSteady, cX6_isSteady, 3, (some .boolean)), (6, false), (6, 1, 0, 0), gco_64_0)
def gco_65_0 : List gIn := [(0, .iconst 0, 1, 0, 0),
  (1, .istore 1, 2, 0, 0),
  (2, .iconst 0, 3, 0, 0),
  (3, .istore 2, 4, 0, 0),
  (4, .iload 2, 5, 0, 3),
  (5, .iconst 0, 6, 1, 0),
  (6, .aload 0, 7, 0, 0),
  (7, .invokeinterface 6 4, 10, 0, 0),
  (10, .ishl, 11, 0, 0),
  (11, .if_icmp .ge 31, 14, 0, 0),
  (14, .aload 0, 15, 0, 0),
  (15, .iload 2, 16, 0, 0),
  (16, .invokevirtual 64, 19, 0, 0),
  (19, .ifCond .eq 25, 22, 0, 0),
  (22, .iinc 1 0, 25, 1, 0),
  (25, .iinc 2 0, 28, 1, 3),
  (28, .goto 4, 31, 0, 0),
  (31, .iload 1, 32, 0, 0),
  (32, .ireturn, 33, 0, 0)]
def gme_65 : gMe := ((yX6_steadySets, cX6_steadySets, 3, (some .int)), (6, false), (6, 0, 0, 0), gco_65_0)
def gco_66_0 : List gIn := [(0, .iconst 0, 1, 0, 0),
  (1, .istore 1, 2, 0, 0),
  (2, .iload 1, 3, 0, 2),
  (3, .iconst 0, 4, 1, 0),
  (4, .aload 0, 5, 0, 0),
  (5, .invokeinterface 6 4, 8, 0, 0),
  (8, .ishl, 9, 0, 0),
  (9, .if_icmp .ge 28, 12, 0, 0),
  (12, .aload 0, 13, 0, 0),
  (13, .iload 1, 14, 0, 0),
  (14, .invokevirtual 64, 17, 0, 0),
  (17, .ifCond .eq 22, 20, 0, 0),
  (20, .iload 1, 21, 0, 0),
  (21, .ireturn, 22, 0, 0),
  (22, .iinc 1 0, 25, 1, 0),
  (25, .goto 2, 28, 0, 0),
  (28, .iconst 0, 30, (-4), 0),
  (30, .ireturn, 31, 0, 0)]
def gme_66 : gMe := ((yX6_leastSteady, cX6_leastSteady, 2, (some .int)), (6, false), (6, 0, 0, 0), gco_66_0)
def gco_67_0 : List gIn := [(0, .iconst 0, 2, (-4), 0),
  (2, .istore 2, 3, 0, 0),
  (3, .iconst 0, 4, 0, 0),
  (4, .istore 3, 5, 0, 0),
  (5, .iload 3, 6, 0, 4),
  (6, .iconst 0, 7, 1, 0),
  (7, .aload 0, 8, 0, 0),
  (8, .invokeinterface 6 4, 11, 0, 0),
  (11, .ishl, 12, 0, 0),
  (12, .if_icmp .ge 54, 15, 0, 0),
  (15, .iload 1, 16, 0, 0),
  (16, .ifCond .eq 27, 19, 0, 0),
  (19, .aload 0, 20, 0, 0),
  (20, .iload 3, 21, 0, 0),
  (21, .invokevirtual 64, 24, 0, 0),
  (24, .ifCond .eq 48, 27, 0, 0),
  (27, .iload 2, 28, 0, 4),
  (28, .iconst 0, 30, (-4), 0),
  (30, .if_icmp .eq 46, 33, 0, 0),
  (33, .aload 0, 34, 0, 0),
  (34, .iload 3, 35, 0, 0),
  (35, .invokevirtual 63, 38, 0, 0),
  (38, .aload 0, 39, 0, 0),
  (39, .iload 2, 40, 0, 0),
  (40, .invokevirtual 63, 43, 0, 0),
  (43, .if_icmp .le 48, 46, 0, 0),
  (46, .iload 3, 47, 0, 4),
  (47, .istore 2, 48, 0, 0),
  (48, .iinc 3 0, 51, 1, 4),
  (51, .goto 5, 54, 0, 0),
  (54, .iload 2, 55, 0, 0),
  (55, .ireturn, 56, 0, 0)]
def gme_67 : gMe := ((yX6_richest, cX6_richest, 4, (some .int)), (6, false), (6, 1, 0, 0), gco_67_0)
def gco_68_0 : List gIn := [(0, .iconst 0, 1, 1, 0),
  (1, .istore 2, 2, 0, 0),
  (2, .iconst 0, 3, 0, 0),
  (3, .istore 3, 4, 0, 0),
  (4, .iconst 0, 5, 0, 0),
  (5, .istore 4, 7, 0, 0),
  (7, .iload 4, 9, 0, 5),
  (9, .iconst 0, 10, 1, 0),
  (10, .aload 0, 11, 0, 0),
  (11, .invokeinterface 6 4, 14, 0, 0),
  (14, .ishl, 15, 0, 0),
  (15, .if_icmp .ge 91, 18, 0, 0),
  (18, .iload 4, 20, 0, 0),
  (20, .iload 1, 21, 0, 0),
  (21, .invokestatic 61, 24, 0, 0),
  (24, .ifCond .ne 85, 27, 0, 0),
  (27, .aload 0, 28, 0, 0),
  (28, .iload 4, 30, 0, 0),
  (30, .iconst 0, 31, 1, 0),
  (31, .iload 1, 32, 0, 0),
  (32, .ishl, 33, 0, 0),
  (33, .ior, 34, 0, 0),
  (34, .iload 1, 35, 0, 0),
  (35, .invokevirtual 62, 38, 0, 0),
  (38, .aload 0, 39, 0, 0),
  (39, .iload 4, 41, 0, 0),
  (41, .iload 1, 42, 0, 0),
  (42, .invokevirtual 62, 45, 0, 0),
  (45, .isub, 46, 0, 0),
  (46, .istore 5, 48, 0, 0),
  (48, .iload 5, 50, 0, 0),
  (50, .ifCond .ge 55, 53, 0, 0),
  (53, .iconst 0, 54, 0, 0),
  (54, .ireturn, 55, 0, 0),
  (55, .iload 2, 56, 0, 0),
  (56, .ifCond .eq 68, 59, 0, 0),
  (59, .iload 5, 61, 0, 0),
  (61, .ifCond .le 68, 64, 0, 0),
  (64, .iconst 0, 65, 1, 0),
  (65, .goto 69, 68, 0, 0),
  (68, .iconst 0, 69, 0, 6),
  (69, .istore 2, 70, 0, 6),
  (70, .iload 3, 71, 0, 0),
  (71, .ifCond .ne 79, 74, 0, 0),
  (74, .iload 5, 76, 0, 0),
  (76, .ifCond .le 83, 79, 0, 0),
  (79, .iconst 0, 80, 1, 5),
  (80, .goto 84, 83, 0, 0),
  (83, .iconst 0, 84, 0, 0),
  (84, .istore 3, 85, 0, 5),
  (85, .iinc 4 0, 88, 1, 5),
  (88, .goto 7, 91, 0, 0),
  (91, .iload 2, 92, 0, 0),
  (92, .ifCond .eq 99, 95, 0, 0),
  (95, .iconst 0, 96, 2, 0),
  (96, .goto 108, 99, 0, 0),
  (99, .iload 3, 100, 0, 0),
  (100, .ifCond .eq 107, 103, 0, 0),
  (103, .iconst 0, 104, 1, 0),
  (104, .goto 108, 107, 0, 0)]
def gco_68_1 : List gIn := [(107, .iconst 0, 108, 0, 0),
  (108, .ireturn, 109, 0, 1)]
def gme_68 : gMe := ((yX6_urgeOf, cX6_urgeOf, 6, (some .int)), (6, false), (6, 1, 0, 0), gco_68_0 ++ (gco_68_1))
def gco_69_0 : List gIn := [(0, .aload 0, 1, 0, 0),
  (1, .invokespecial 999, 4, 0, 0),
  (4, .aload 0, 5, 0, 0),
  (5, .iconst 0, 7, (-4), 0),
  (7, .multianewarray 7 0, 10, 0, 0),
  (10, .aload 0, 11, 0, 0),
  (11, .iconst 0, 13, 72, 0),
  (13, .newarray .int, 15, 0, 0),
  (15, .multianewarray 7 2, 18, 0, 0),
  (18, .return_, 19, 0, 0)]
def gme_69 : gMe := ((yX7_init, cX7_init, 1, none), (7, true), (7, 0, 1, 72), gco_69_0)
def gco_70_0 : List gIn := [(0, .aload 0, 1, 0, 0),
  (1, .iload 1, 2, 0, 0),
  (2, .multianewarray 7 0, 5, 0, 0),
  (5, .aload 0, 6, 0, 0),
  (6, .iload 2, 7, 0, 0),
  (7, .multianewarray 7 1, 10, 0, 0),
  (10, .aload 0, 11, 0, 0),
  (11, .invokeinterface 7 2, 14, 0, 0),
  (14, .iconst 0, 15, 0, 0),
  (15, .invokestatic 240, 18, 0, 0),
  (18, .return_, 19, 0, 0)]
def gme_70 : gMe := ((yX7_becomeNew, cX7_becomeNew, 3, none), (7, false), (7, 2, 0, 0), gco_70_0)
def gco_71_0 : List gIn := [(0, .aload 0, 1, 0, 0),
  (1, .invokeinterface 7 2, 4, 0, 0),
  (4, .iload 1, 5, 0, 0),
  (5, .aload 0, 6, 0, 0),
  (6, .invokeinterface 7 0, 9, 0, 0),
  (9, .ifCond .ne 17, 12, 0, 0),
  (12, .iload 2, 13, 0, 0),
  (13, .i2b, 14, 0, 0),
  (14, .goto 31, 17, 0, 0),
  (17, .aload 0, 18, 0, 0),
  (18, .invokeinterface 7 0, 21, 0, 0),
  (21, .iconst 0, 22, 1, 0),
  (22, .if_icmp .ne 30, 25, 0, 0),
  (25, .iload 2, 26, 0, 0),
  (26, .i2s, 27, 0, 0),
  (27, .goto 31, 30, 0, 0),
  (30, .iload 2, 31, 0, 0),
  (31, .iastore, 32, 0, 1),
  (32, .return_, 33, 0, 0)]
def gme_71 : gMe := ((yX7_put, cX7_put, 3, none), (7, false), (7, 2, 0, 0), gco_71_0)
def gco_72_0 : List gIn := [(0, .iconst 0, 1, 0, 0),
  (1, .istore 3, 2, 0, 0),
  (2, .iconst 0, 3, 0, 0),
  (3, .istore 4, 5, 0, 0),
  (5, .iload 4, 7, 0, 5),
  (7, .iload 2, 8, 0, 0),
  (8, .if_icmp .ge 70, 11, 0, 0),
  (11, .iload 1, 12, 0, 0),
  (12, .ifCond .lt 26, 15, 0, 0),
  (15, .iload 1, 16, 0, 0),
  (16, .aload 0, 17, 0, 0),
  (17, .invokeinterface 7 1, 20, 0, 0),
  (20, .iload 4, 22, 0, 0),
  (22, .isub, 23, 0, 0),
  (23, .if_icmp .lt 29, 26, 0, 0),
  (26, .iconst 0, 28, (-12), 1),
  (28, .ireturn, 29, 0, 0),
  (29, .aload 0, 30, 0, 0),
  (30, .invokeinterface 7 2, 33, 0, 0),
  (33, .iload 1, 34, 0, 0),
  (34, .iload 4, 36, 0, 0),
  (36, .iadd, 37, 0, 0),
  (37, .iaload, 38, 0, 0),
  (38, .istore 5, 40, 0, 0),
  (40, .iload 5, 42, 0, 0),
  (42, .ifCond .lt 53, 45, 0, 0),
  (45, .iload 5, 47, 0, 0),
  (47, .iconst 0, 50, 999, 0),
  (50, .if_icmp .le 59, 53, 0, 0),
  (53, .iconst 0, 55, (-100), 5),
  (55, .iload 4, 57, 0, 0),
  (57, .isub, 58, 0, 0),
  (58, .ireturn, 59, 0, 0),
  (59, .iload 3, 60, 0, 0),
  (60, .iload 5, 62, 0, 0),
  (62, .iadd, 63, 0, 0),
  (63, .istore 3, 64, 0, 0),
  (64, .iinc 4 0, 67, 1, 0),
  (67, .goto 5, 70, 0, 0),
  (70, .iload 3, 71, 0, 0),
  (71, .ireturn, 72, 0, 0)]
def gme_72 : gMe := ((yX7_sumOf, cX7_sumOf, 6, (some .int)), (7, false), (7, 2, 0, 0), gco_72_0)
def gco_73_0 : List gIn := [(0, .aload 0, 1, 0, 0),
  (1, .invokespecial 999, 4, 0, 0),
  (4, .aload 0, 5, 0, 0),
  (5, .iconst 0, 8, 160, 0),
  (8, .newarray .int, 10, 0, 0),
  (10, .multianewarray 8 1, 13, 0, 0),
  (13, .aload 0, 14, 0, 0),
  (14, .new 4, 17, 0, 0),
  (17, .dup, 18, 0, 0),
  (18, .invokespecial 27, 21, 0, 0),
  (21, .multianewarray 8 2, 24, 0, 0),
  (24, .return_, 25, 0, 0)]
def gme_73 : gMe := ((yX8_init, cX8_init, 1, none), (8, true), (8, 0, 6, 213), gco_73_0)
def gco_74_0 : List gIn := [(0, .aload 0, 1, 0, 0),
  (1, .invokeinterface 8 0, 4, 0, 0),
  (4, .iconst 0, 6, 8, 0),
  (6, .iadd, 7, 0, 0),
  (7, .iconst 0, 10, 160, 0),
  (10, .if_icmp .le 16, 13, 0, 0),
  (13, .iconst 0, 15, (-3), 0),
  (15, .ireturn, 16, 0, 0),
  (16, .iconst 0, 17, 0, 0),
  (17, .istore 3, 18, 0, 0),
  (18, .iload 3, 19, 0, 4),
  (19, .iconst 0, 21, 8, 0),
  (21, .if_icmp .ge 55, 24, 0, 0),
  (24, .aload 0, 25, 0, 0),
  (25, .invokeinterface 8 1, 28, 0, 0),
  (28, .aload 0, 29, 0, 0),
  (29, .invokeinterface 8 0, 32, 0, 0),
  (32, .iload 3, 33, 0, 0),
  (33, .iadd, 34, 0, 0),
  (34, .lload 1, 35, 0, 0),
  (35, .iconst 0, 37, 56, 0),
  (37, .iconst 0, 39, 8, 0),
  (39, .iload 3, 40, 0, 0),
  (40, .imul, 41, 0, 0),
  (41, .isub, 42, 0, 0),
  (42, .lushr, 43, 0, 0),
  (43, .l2i, 44, 0, 0),
  (44, .iconst 0, 47, 255, 0),
  (47, .iand, 48, 0, 0),
  (48, .iastore, 49, 0, 0),
  (49, .iinc 3 0, 52, 1, 0),
  (52, .goto 18, 55, 0, 0),
  (55, .aload 0, 56, 0, 0),
  (56, .dup, 57, 0, 0),
  (57, .invokeinterface 8 0, 60, 0, 0),
  (60, .iconst 0, 62, 8, 0),
  (62, .iadd, 63, 0, 0),
  (63, .multianewarray 8 0, 66, 0, 0),
  (66, .aload 0, 67, 0, 0),
  (67, .invokeinterface 8 0, 70, 0, 0),
  (70, .ireturn, 71, 0, 0)]
def gme_74 : gMe := ((yX8_add, cX8_add, 4, (some .int)), (8, false), (8, 1, 0, 0), gco_74_0)
def gco_75_0 : List gIn := [(0, .aload 0, 1, 0, 0),
  (1, .invokeinterface 8 2, 4, 0, 0),
  (4, .iconst 0, 5, 0, 0),
  (5, .multianewarray 4 0, 8, 0, 0),
  (8, .aload 0, 9, 0, 0),
  (9, .iconst 0, 10, 0, 0),
  (10, .multianewarray 8 3, 13, 0, 0),
  (13, .aload 0, 14, 0, 0),
  (14, .iconst 0, 15, 0, 0),
  (15, .multianewarray 8 4, 18, 0, 0),
  (18, .aload 0, 19, 0, 0),
  (19, .iconst 0, 20, 0, 0),
  (20, .multianewarray 8 5, 23, 0, 0),
  (23, .aload 0, 24, 0, 0),
  (24, .invokevirtual 81, 27, 0, 0),
  (27, .iconst 0, 28, 0, 0),
  (28, .istore 1, 29, 0, 0),
  (29, .iload 1, 30, 0, 2),
  (30, .iconst 0, 33, 160, 0),
  (33, .if_icmp .gt 68, 36, 0, 0),
  (36, .aload 0, 37, 0, 0),
  (37, .invokeinterface 8 3, 40, 0, 0),
  (40, .ifCond .ne 68, 43, 0, 0),
  (43, .aload 0, 44, 0, 0),
  (44, .invokeinterface 8 6, 47, 0, 0),
  (47, .iconst 0, 49, 9, 0),
  (49, .if_icmp .eq 68, 52, 0, 0),
  (52, .aload 0, 53, 0, 0),
  (53, .invokevirtual 76, 56, 0, 0),
  (56, .istore 2, 57, 0, 0),
  (57, .aload 0, 58, 0, 0),
  (58, .iload 2, 59, 0, 0),
  (59, .invokevirtual 77, 62, 0, 0),
  (62, .iinc 1 0, 65, 1, 0),
  (65, .goto 29, 68, 0, 0),
  (68, .return_, 69, 0, 1)]
def gme_75 : gMe := ((yX8_read, cX8_read, 3, none), (8, false), (8, 0, 0, 0), gco_75_0)
def gco_76_0 : List gIn := [(0, .aload 0, 1, 0, 0),
  (1, .invokeinterface 8 6, 4, 0, 0),
  (4, .iconst 0, 6, 6, 0),
  (6, .if_icmp .le 14, 9, 0, 0),
  (9, .aload 0, 10, 0, 0),
  (10, .iconst 0, 11, 2, 0),
  (11, .invokevirtual 80, 14, 0, 0),
  (14, .aload 0, 15, 0, 1),
  (15, .invokeinterface 8 2, 18, 0, 0),
  (18, .invokeinterface 4 0, 21, 0, 0),
  (21, .iconst 0, 23, 12, 0),
  (23, .if_icmp .lt 31, 26, 0, 0),
  (26, .aload 0, 27, 0, 0),
  (27, .iconst 0, 28, 4, 0),
  (28, .invokevirtual 80, 31, 0, 0),
  (31, .aload 0, 32, 0, 1),
  (32, .invokeinterface 8 3, 35, 0, 0),
  (35, .ifCond .ne 47, 38, 0, 0),
  (38, .aload 0, 39, 0, 0),
  (39, .invokeinterface 8 6, 42, 0, 0),
  (42, .iconst 0, 44, 6, 0),
  (44, .if_icmp .eq 49, 47, 0, 0),
  (47, .iconst 0, 48, 0, 1),
  (48, .ireturn, 49, 0, 0),
  (49, .aload 0, 50, 0, 0),
  (50, .invokevirtual 81, 53, 0, 0),
  (53, .aload 0, 54, 0, 0),
  (54, .iconst 0, 56, 49, 0),
  (56, .invokevirtual 78, 59, 0, 0),
  (59, .aload 0, 60, 0, 0),
  (60, .invokeinterface 8 8, 63, 0, 0),
  (63, .istore 1, 64, 0, 0),
  (64, .aload 0, 65, 0, 0),
  (65, .invokevirtual 81, 68, 0, 0),
  (68, .iload 1, 69, 0, 0),
  (69, .ireturn, 70, 0, 0)]
def gme_76 : gMe := ((yX8_readFrom, cX8_readFrom, 2, (some .int)), (8, false), (8, 0, 0, 0), gco_76_0)
def gco_77_0 : List gIn := [(0, .aload 0, 1, 0, 0),
  (1, .invokeinterface 8 6, 4, 0, 0),
  (4, .iconst 0, 6, 6, 0),
  (6, .if_icmp .lt 14, 9, 0, 0),
  (9, .aload 0, 10, 0, 0),
  (10, .iconst 0, 11, 2, 0),
  (11, .invokevirtual 80, 14, 0, 0),
  (14, .aload 0, 15, 0, 2),
  (15, .invokeinterface 8 6, 18, 0, 0),
  (18, .istore 2, 19, 0, 0),
  (19, .iload 2, 20, 0, 0),
  (20, .iconst 0, 21, 5, 0),
  (21, .if_icmp .eq 41, 24, 0, 0),
  (24, .aload 0, 25, 0, 0),
  (25, .invokeinterface 8 2, 28, 0, 0),
  (28, .iload 2, 29, 0, 0),
  (29, .iload 1, 30, 0, 0),
  (30, .invokevirtual 30, 33, 0, 0),
  (33, .ifCond .eq 41, 36, 0, 0),
  (36, .aload 0, 37, 0, 0),
  (37, .iconst 0, 38, 5, 0),
  (38, .invokevirtual 80, 41, 0, 0),
  (41, .aload 0, 42, 0, 3),
  (42, .invokevirtual 81, 45, 0, 0),
  (45, .iconst 0, 46, 0, 0),
  (46, .istore 3, 47, 0, 0),
  (47, .iload 2, 48, 0, 0),
  (48, .iconst 0, 49, 4, 0),
  (49, .if_icmp .eq 91, 52, 0, 0),
  (52, .aload 0, 53, 0, 0),
  (53, .iload 2, 54, 0, 0),
  (54, .invokestatic 79, 57, 0, 0),
  (57, .invokevirtual 78, 60, 0, 0),
  (60, .aload 0, 61, 0, 0),
  (61, .invokeinterface 8 8, 64, 0, 0),
  (64, .istore 3, 65, 0, 0),
  (65, .iload 2, 66, 0, 0),
  (66, .iconst 0, 67, 5, 0),
  (67, .if_icmp .ne 87, 70, 0, 0),
  (70, .aload 0, 71, 0, 0),
  (71, .invokeinterface 8 2, 74, 0, 0),
  (74, .iload 3, 75, 0, 0),
  (75, .iload 1, 76, 0, 0),
  (76, .invokevirtual 31, 79, 0, 0),
  (79, .ifCond .eq 87, 82, 0, 0),
  (82, .aload 0, 83, 0, 0),
  (83, .iconst 0, 84, 5, 0),
  (84, .invokevirtual 80, 87, 0, 0),
  (87, .aload 0, 88, 0, 4),
  (88, .invokevirtual 81, 91, 0, 0),
  (91, .aload 0, 92, 0, 4),
  (92, .invokeinterface 8 6, 95, 0, 0),
  (95, .iconst 0, 97, 8, 0),
  (97, .if_icmp .eq 105, 100, 0, 0),
  (100, .aload 0, 101, 0, 0),
  (101, .iconst 0, 102, 2, 0),
  (102, .invokevirtual 80, 105, 0, 0),
  (105, .aload 0, 106, 0, 4),
  (106, .invokeinterface 8 3, 109, 0, 0),
  (109, .ifCond .ne 126, 112, 0, 0)]
def gco_77_1 : List gIn := [(112, .aload 0, 113, 0, 0),
  (113, .invokeinterface 8 2, 116, 0, 0),
  (116, .iload 2, 117, 0, 0),
  (117, .iload 1, 118, 0, 0),
  (118, .iload 3, 119, 0, 0),
  (119, .invokevirtual 29, 122, 0, 0),
  (122, .aload 0, 123, 0, 0),
  (123, .invokevirtual 81, 126, 0, 0),
  (126, .return_, 127, 0, 1)]
def gme_77 : gMe := ((yX8_readRule, cX8_readRule, 4, none), (8, false), (8, 1, 0, 0), gco_77_0 ++ (gco_77_1))
def gco_78_0 : List gIn := [(0, .aload 0, 1, 0, 0),
  (1, .invokeinterface 8 6, 4, 0, 0),
  (4, .iconst 0, 6, 7, 0),
  (6, .if_icmp .eq 17, 9, 0, 0),
  (9, .aload 0, 10, 0, 0),
  (10, .iconst 0, 11, 2, 0),
  (11, .invokevirtual 80, 14, 0, 0),
  (14, .goto 30, 17, 0, 0),
  (17, .aload 0, 18, 0, 0),
  (18, .invokeinterface 8 8, 21, 0, 0),
  (21, .iload 1, 22, 0, 0),
  (22, .if_icmp .le 30, 25, 0, 0),
  (25, .aload 0, 26, 0, 0),
  (26, .iconst 0, 27, 3, 0),
  (27, .invokevirtual 80, 30, 0, 0),
  (30, .return_, 31, 0, 1)]
def gme_78 : gMe := ((yX8_checkNumber, cX8_checkNumber, 2, none), (8, false), (8, 1, 0, 0), gco_78_0)
def gco_79_0 : List gIn := [(0, .iload 0, 1, 0, 0),
  (1, .lookupswitch 41 #[(0, 36), (1, 36), (5, 39)], 36, 0, 0),
  (36, .iconst 0, 38, 9, 0),
  (38, .ireturn, 39, 0, 0),
  (39, .iconst 0, 40, 5, 0),
  (40, .ireturn, 41, 0, 0),
  (41, .iconst 0, 44, 999, 0),
  (44, .ireturn, 45, 0, 0)]
def gme_79 : gMe := ((yX8_mostOf, cX8_mostOf, 1, (some .int)), (8, false), (8, 1, 0, 0), gco_79_0)
def gco_80_0 : List gIn := [(0, .aload 0, 1, 0, 0),
  (1, .invokeinterface 8 3, 4, 0, 0),
  (4, .ifCond .ne 20, 7, 0, 0),
  (7, .aload 0, 8, 0, 0),
  (8, .iload 1, 9, 0, 0),
  (9, .multianewarray 8 3, 12, 0, 0),
  (12, .aload 0, 13, 0, 0),
  (13, .aload 0, 14, 0, 0),
  (14, .invokeinterface 8 7, 17, 0, 0),
  (17, .multianewarray 8 4, 20, 0, 0),
  (20, .return_, 21, 0, 1)]
def gme_80 : gMe := ((yX8_fail, cX8_fail, 2, none), (8, false), (8, 1, 0, 0), gco_80_0)
def gco_81_0 : List gIn := [(0, .aload 0, 1, 0, 0),
  (1, .invokeinterface 8 3, 4, 0, 0),
  (4, .ifCond .eq 8, 7, 0, 0),
  (7, .return_, 8, 0, 0),
  (8, .aload 0, 9, 0, 1),
  (9, .invokeinterface 8 5, 12, 0, 0),
  (12, .aload 0, 13, 0, 0),
  (13, .invokeinterface 8 0, 16, 0, 0),
  (16, .if_icmp .ge 46, 19, 0, 0),
  (19, .aload 0, 20, 0, 0),
  (20, .invokeinterface 8 1, 23, 0, 0),
  (23, .aload 0, 24, 0, 0),
  (24, .invokeinterface 8 5, 27, 0, 0),
  (27, .iaload, 28, 0, 0),
  (28, .iconst 0, 30, 32, 0),
  (30, .if_icmp .ne 46, 33, 0, 0),
  (33, .aload 0, 34, 0, 0),
  (34, .dup, 35, 0, 0),
  (35, .invokeinterface 8 5, 38, 0, 0),
  (38, .iconst 0, 39, 1, 0),
  (39, .iadd, 40, 0, 0),
  (40, .multianewarray 8 5, 43, 0, 0),
  (43, .goto 8, 46, 0, 0),
  (46, .aload 0, 47, 0, 1),
  (47, .aload 0, 48, 0, 0),
  (48, .invokeinterface 8 5, 51, 0, 0),
  (51, .multianewarray 8 7, 54, 0, 0),
  (54, .aload 0, 55, 0, 0),
  (55, .iconst 0, 56, 0, 0),
  (56, .multianewarray 8 8, 59, 0, 0),
  (59, .aload 0, 60, 0, 0),
  (60, .invokeinterface 8 5, 63, 0, 0),
  (63, .aload 0, 64, 0, 0),
  (64, .invokeinterface 8 0, 67, 0, 0),
  (67, .if_icmp .lt 79, 70, 0, 0),
  (70, .aload 0, 71, 0, 0),
  (71, .iconst 0, 73, 9, 0),
  (73, .multianewarray 8 6, 76, 0, 0),
  (76, .goto 161, 79, 0, 0),
  (79, .aload 0, 80, 0, 0),
  (80, .invokeinterface 8 1, 83, 0, 0),
  (83, .aload 0, 84, 0, 0),
  (84, .invokeinterface 8 5, 87, 0, 0),
  (87, .iaload, 88, 0, 0),
  (88, .invokestatic 86, 91, 0, 0),
  (91, .ifCond .eq 101, 94, 0, 0),
  (94, .aload 0, 95, 0, 0),
  (95, .invokevirtual 82, 98, 0, 0),
  (98, .goto 161, 101, 0, 0),
  (101, .aload 0, 102, 0, 0),
  (102, .invokeinterface 8 1, 105, 0, 0),
  (105, .aload 0, 106, 0, 0),
  (106, .invokeinterface 8 5, 109, 0, 0),
  (109, .iaload, 110, 0, 0),
  (110, .invokestatic 87, 113, 0, 0),
  (113, .ifCond .eq 123, 116, 0, 0),
  (116, .aload 0, 117, 0, 0),
  (117, .invokevirtual 83, 120, 0, 0),
  (120, .goto 161, 123, 0, 0),
  (123, .aload 0, 124, 0, 0)]
def gco_81_1 : List gIn := [(124, .invokeinterface 8 1, 127, 0, 0),
  (127, .aload 0, 128, 0, 0),
  (128, .invokeinterface 8 5, 131, 0, 0),
  (131, .iaload, 132, 0, 0),
  (132, .iconst 0, 134, 59, 0),
  (134, .if_icmp .ne 156, 137, 0, 0),
  (137, .aload 0, 138, 0, 0),
  (138, .iconst 0, 140, 8, 0),
  (140, .multianewarray 8 6, 143, 0, 0),
  (143, .aload 0, 144, 0, 0),
  (144, .dup, 145, 0, 0),
  (145, .invokeinterface 8 5, 148, 0, 0),
  (148, .iconst 0, 149, 1, 0),
  (149, .iadd, 150, 0, 0),
  (150, .multianewarray 8 5, 153, 0, 0),
  (153, .goto 161, 156, 0, 0),
  (156, .aload 0, 157, 0, 0),
  (157, .iconst 0, 158, 1, 0),
  (158, .invokevirtual 80, 161, 0, 0),
  (161, .return_, 162, 0, 1)]
def gme_81 : gMe := ((yX8_nextToken, cX8_nextToken, 1, none), (8, false), (8, 0, 0, 0), gco_81_0 ++ (gco_81_1))
def gco_82_0 : List gIn := [(0, .aload 0, 1, 0, 1),
  (1, .invokeinterface 8 5, 4, 0, 0),
  (4, .aload 0, 5, 0, 0),
  (5, .invokeinterface 8 0, 8, 0, 0),
  (8, .if_icmp .ge 39, 11, 0, 0),
  (11, .aload 0, 12, 0, 0),
  (12, .invokeinterface 8 1, 15, 0, 0),
  (15, .aload 0, 16, 0, 0),
  (16, .invokeinterface 8 5, 19, 0, 0),
  (19, .iaload, 20, 0, 0),
  (20, .invokestatic 86, 23, 0, 0),
  (23, .ifCond .eq 39, 26, 0, 0),
  (26, .aload 0, 27, 0, 0),
  (27, .dup, 28, 0, 0),
  (28, .invokeinterface 8 5, 31, 0, 0),
  (31, .iconst 0, 32, 1, 0),
  (32, .iadd, 33, 0, 0),
  (33, .multianewarray 8 5, 36, 0, 0),
  (36, .goto 0, 39, 0, 0),
  (39, .iconst 0, 40, 0, 1),
  (40, .istore 1, 41, 0, 0),
  (41, .iload 1, 42, 0, 2),
  (42, .iconst 0, 44, 6, 0),
  (44, .if_icmp .gt 70, 47, 0, 0),
  (47, .aload 0, 48, 0, 0),
  (48, .iload 1, 49, 0, 0),
  (49, .invokestatic 85, 52, 0, 0),
  (52, .invokevirtual 84, 55, 0, 0),
  (55, .ifCond .eq 64, 58, 0, 0),
  (58, .aload 0, 59, 0, 0),
  (59, .iload 1, 60, 0, 0),
  (60, .multianewarray 8 6, 63, 0, 0),
  (63, .return_, 64, 0, 0),
  (64, .iinc 1 0, 67, 1, 0),
  (67, .goto 41, 70, 0, 0),
  (70, .aload 0, 71, 0, 0),
  (71, .iconst 0, 72, 1, 0),
  (72, .invokevirtual 80, 75, 0, 0),
  (75, .return_, 76, 0, 0)]
def gme_82 : gMe := ((yX8_readName, cX8_readName, 2, none), (8, false), (8, 0, 0, 0), gco_82_0)
def gco_83_0 : List gIn := [(0, .aload 0, 1, 0, 1),
  (1, .invokeinterface 8 5, 4, 0, 0),
  (4, .aload 0, 5, 0, 0),
  (5, .invokeinterface 8 0, 8, 0, 0),
  (8, .if_icmp .ge 76, 11, 0, 0),
  (11, .aload 0, 12, 0, 0),
  (12, .invokeinterface 8 1, 15, 0, 0),
  (15, .aload 0, 16, 0, 0),
  (16, .invokeinterface 8 5, 19, 0, 0),
  (19, .iaload, 20, 0, 0),
  (20, .invokestatic 87, 23, 0, 0),
  (23, .ifCond .eq 76, 26, 0, 0),
  (26, .aload 0, 27, 0, 0),
  (27, .invokeinterface 8 5, 30, 0, 0),
  (30, .aload 0, 31, 0, 0),
  (31, .invokeinterface 8 7, 34, 0, 0),
  (34, .isub, 35, 0, 0),
  (35, .iconst 0, 36, 3, 0),
  (36, .if_icmp .ge 63, 39, 0, 0),
  (39, .aload 0, 40, 0, 0),
  (40, .aload 0, 41, 0, 0),
  (41, .invokeinterface 8 8, 44, 0, 0),
  (44, .iconst 0, 46, 10, 0),
  (46, .imul, 47, 0, 0),
  (47, .aload 0, 48, 0, 0),
  (48, .invokeinterface 8 1, 51, 0, 0),
  (51, .aload 0, 52, 0, 0),
  (52, .invokeinterface 8 5, 55, 0, 0),
  (55, .iaload, 56, 0, 0),
  (56, .iadd, 57, 0, 0),
  (57, .iconst 0, 59, 48, 0),
  (59, .isub, 60, 0, 0),
  (60, .multianewarray 8 8, 63, 0, 0),
  (63, .aload 0, 64, 0, 1),
  (64, .dup, 65, 0, 0),
  (65, .invokeinterface 8 5, 68, 0, 0),
  (68, .iconst 0, 69, 1, 0),
  (69, .iadd, 70, 0, 0),
  (70, .multianewarray 8 5, 73, 0, 0),
  (73, .goto 0, 76, 0, 0),
  (76, .aload 0, 77, 0, 1),
  (77, .iconst 0, 79, 7, 0),
  (79, .multianewarray 8 6, 82, 0, 0),
  (82, .aload 0, 83, 0, 0),
  (83, .invokeinterface 8 5, 86, 0, 0),
  (86, .aload 0, 87, 0, 0),
  (87, .invokeinterface 8 7, 90, 0, 0),
  (90, .isub, 91, 0, 0),
  (91, .iconst 0, 92, 3, 0),
  (92, .if_icmp .le 100, 95, 0, 0),
  (95, .aload 0, 96, 0, 0),
  (96, .iconst 0, 97, 1, 0),
  (97, .invokevirtual 80, 100, 0, 0),
  (100, .return_, 101, 0, 1)]
def gme_83 : gMe := ((yX8_readFigures, cX8_readFigures, 1, none), (8, false), (8, 0, 0, 0), gco_83_0)
def gco_84_0 : List gIn := [(0, .aload 0, 1, 0, 0),
  (1, .invokeinterface 8 5, 4, 0, 0),
  (4, .aload 0, 5, 0, 0),
  (5, .invokeinterface 8 7, 8, 0, 0),
  (8, .isub, 9, 0, 0),
  (9, .aload 1, 10, 0, 0),
  (10, .invokedynamic 1, 13, 0, 0),
  (13, .if_icmp .eq 18, 16, 0, 0),
  (16, .iconst 0, 17, 0, 0),
  (17, .freturn, 18, 0, 0),
  (18, .iconst 0, 19, 0, 0),
  (19, .istore 2, 20, 0, 0),
  (20, .iload 2, 21, 0, 3),
  (21, .aload 1, 22, 0, 0),
  (22, .invokedynamic 1, 25, 0, 0),
  (25, .if_icmp .ge 55, 28, 0, 0),
  (28, .aload 0, 29, 0, 0),
  (29, .invokeinterface 8 1, 32, 0, 0),
  (32, .aload 0, 33, 0, 0),
  (33, .invokeinterface 8 7, 36, 0, 0),
  (36, .iload 2, 37, 0, 0),
  (37, .iadd, 38, 0, 0),
  (38, .iaload, 39, 0, 0),
  (39, .aload 1, 40, 0, 0),
  (40, .iload 2, 41, 0, 0),
  (41, .invokedynamic 2, 44, 0, 0),
  (44, .if_icmp .eq 49, 47, 0, 0),
  (47, .iconst 0, 48, 0, 0),
  (48, .freturn, 49, 0, 0),
  (49, .iinc 2 0, 52, 1, 0),
  (52, .goto 20, 55, 0, 0),
  (55, .iconst 0, 56, 1, 0),
  (56, .freturn, 57, 0, 0)]
def gme_84 : gMe := ((yX8_isSpelt, cX8_isSpelt, 3, (some .boolean)), (8, false), (8, 1, 0, 0), gco_84_0)
def gco_85_0 : List gIn := [(0, .iload 0, 1, 0, 0),
  (1, .lookupswitch 58 #[(0, 40), (1, 43), (2, 46), (3, 49), (4, 52), (5, 55)], 40, 0, 0),
  (40, .ldc 0, 42, 0, 0),
  (42, .areturn, 43, 0, 0),
  (43, .ldc 1, 45, 0, 0),
  (45, .areturn, 46, 0, 0),
  (46, .ldc 2, 48, 0, 0),
  (48, .areturn, 49, 0, 0),
  (49, .ldc 3, 51, 0, 0),
  (51, .areturn, 52, 0, 0),
  (52, .ldc 4, 54, 0, 0),
  (54, .areturn, 55, 0, 0),
  (55, .ldc 5, 57, 0, 0),
  (57, .areturn, 58, 0, 0),
  (58, .ldc 6, 60, 0, 0),
  (60, .areturn, 61, 0, 0)]
def gme_85 : gMe := ((yX8_nameOf, cX8_nameOf, 1, (some (.object "java/lang/String"))), (8, false), (8, 1, 0, 0), gco_85_0)
def gco_86_0 : List gIn := [(0, .iload 0, 1, 0, 0),
  (1, .iconst 0, 3, 97, 0),
  (3, .if_icmp .lt 16, 6, 0, 0),
  (6, .iload 0, 7, 0, 0),
  (7, .iconst 0, 9, 122, 0),
  (9, .if_icmp .gt 16, 12, 0, 0),
  (12, .iconst 0, 13, 1, 0),
  (13, .goto 17, 16, 0, 0),
  (16, .iconst 0, 17, 0, 1),
  (17, .freturn, 18, 0, 1)]
def gme_86 : gMe := ((yX8_isLetter, cX8_isLetter, 1, (some .boolean)), (8, false), (8, 1, 0, 0), gco_86_0)
def gco_87_0 : List gIn := [(0, .iload 0, 1, 0, 0),
  (1, .iconst 0, 3, 48, 0),
  (3, .if_icmp .lt 16, 6, 0, 0),
  (6, .iload 0, 7, 0, 0),
  (7, .iconst 0, 9, 57, 0),
  (9, .if_icmp .gt 16, 12, 0, 0),
  (12, .iconst 0, 13, 1, 0),
  (13, .goto 17, 16, 0, 0),
  (16, .iconst 0, 17, 0, 1),
  (17, .freturn, 18, 0, 1)]
def gme_87 : gMe := ((yX8_isFigure, cX8_isFigure, 1, (some .boolean)), (8, false), (8, 1, 0, 0), gco_87_0)
def gco_88_0 : List gIn := [(0, .aload 0, 1, 0, 0),
  (1, .invokespecial 999, 4, 0, 0),
  (4, .aload 0, 5, 0, 0),
  (5, .new 3, 8, 0, 0),
  (8, .dup, 9, 0, 0),
  (9, .invokespecial 20, 12, 0, 0),
  (12, .multianewarray 9 0, 15, 0, 0),
  (15, .aload 0, 16, 0, 0),
  (16, .new 2, 19, 0, 0),
  (19, .dup, 20, 0, 0),
  (20, .invokespecial 16, 23, 0, 0),
  (23, .multianewarray 9 1, 26, 0, 0),
  (26, .aload 0, 27, 0, 0),
  (27, .new 10, 30, 0, 0),
  (30, .dup, 31, 0, 0),
  (31, .invokespecial 100, 34, 0, 0),
  (34, .multianewarray 9 2, 37, 0, 0),
  (37, .aload 0, 38, 0, 0),
  (38, .new 0, 41, 0, 0),
  (41, .dup, 42, 0, 0),
  (42, .invokespecial 0, 45, 0, 0),
  (45, .multianewarray 9 3, 48, 0, 0),
  (48, .aload 0, 49, 0, 0),
  (49, .iconst 0, 50, 3, 0),
  (50, .iconst 0, 51, 3, 0),
  (51, .invokevirtual 89, 54, 0, 0),
  (54, .return_, 55, 0, 0)]
def gme_88 : gMe := ((yX9_init, cX9_init, 1, none), (9, true), (9, 0, 30, 1381), gco_88_0)
def gco_89_0 : List gIn := [(0, .aload 0, 1, 0, 0),
  (1, .invokeinterface 9 0, 4, 0, 0),
  (4, .iload 1, 5, 0, 0),
  (5, .iload 2, 6, 0, 0),
  (6, .invokevirtual 21, 9, 0, 0),
  (9, .aload 0, 10, 0, 0),
  (10, .invokeinterface 9 1, 13, 0, 0),
  (13, .invokevirtual 17, 16, 0, 0),
  (16, .aload 0, 17, 0, 0),
  (17, .invokeinterface 9 2, 20, 0, 0),
  (20, .invokevirtual 101, 23, 0, 0),
  (23, .aload 0, 24, 0, 0),
  (24, .invokeinterface 9 3, 27, 0, 0),
  (27, .invokevirtual 1, 30, 0, 0),
  (30, .aload 0, 31, 0, 0),
  (31, .iconst 0, 32, 0, 0),
  (32, .multianewarray 9 4, 35, 0, 0),
  (35, .return_, 36, 0, 0)]
def gme_89 : gMe := ((yX9_becomeNew, cX9_becomeNew, 3, none), (9, false), (9, 2, 0, 0), gco_89_0)
def gco_90_0 : List gIn := [(0, .aload 0, 1, 0, 0),
  (1, .invokeinterface 9 0, 4, 0, 0),
  (4, .aload 1, 5, 0, 0),
  (5, .invokeinterface 9 0, 8, 0, 0),
  (8, .invokevirtual 22, 11, 0, 0),
  (11, .aload 0, 12, 0, 0),
  (12, .invokeinterface 9 1, 15, 0, 0),
  (15, .aload 1, 16, 0, 0),
  (16, .invokeinterface 9 1, 19, 0, 0),
  (19, .invokevirtual 18, 22, 0, 0),
  (22, .aload 0, 23, 0, 0),
  (23, .invokeinterface 9 2, 26, 0, 0),
  (26, .aload 1, 27, 0, 0),
  (27, .invokeinterface 9 2, 30, 0, 0),
  (30, .invokevirtual 102, 33, 0, 0),
  (33, .aload 0, 34, 0, 0),
  (34, .invokeinterface 9 3, 37, 0, 0),
  (37, .aload 1, 38, 0, 0),
  (38, .invokeinterface 9 3, 41, 0, 0),
  (41, .invokevirtual 2, 44, 0, 0),
  (44, .aload 0, 45, 0, 0),
  (45, .aload 1, 46, 0, 0),
  (46, .invokeinterface 9 4, 49, 0, 0),
  (49, .multianewarray 9 4, 52, 0, 0),
  (52, .return_, 53, 0, 0)]
def gme_90 : gMe := ((yX9_copyFrom, cX9_copyFrom, 2, none), (9, false), (9, 1, 0, 0), gco_90_0)
def gco_91_0 : List gIn := [(0, .aload 0, 1, 0, 0),
  (1, .invokeinterface 9 4, 4, 0, 0),
  (4, .iconst 0, 5, 4, 0),
  (5, .idiv, 6, 0, 0),
  (6, .ireturn, 7, 0, 0)]
def gme_91 : gMe := ((yX9_shift, cX9_shift, 1, (some .int)), (9, false), (9, 0, 0, 0), gco_91_0)
def gco_92_0 : List gIn := [(0, .iconst 0, 1, 0, 0),
  (1, .istore 2, 2, 0, 0),
  (2, .iconst 0, 3, 0, 0),
  (3, .istore 3, 4, 0, 0),
  (4, .iload 3, 5, 0, 4),
  (5, .aload 0, 6, 0, 0),
  (6, .invokeinterface 9 2, 9, 0, 0),
  (9, .invokeinterface 10 0, 12, 0, 0),
  (12, .if_icmp .ge 45, 15, 0, 0),
  (15, .aload 0, 16, 0, 0),
  (16, .invokeinterface 9 2, 19, 0, 0),
  (19, .invokeinterface 10 4, 22, 0, 0),
  (22, .iload 3, 23, 0, 0),
  (23, .baload, 24, 0, 0),
  (24, .ifCond .eq 39, 27, 0, 0),
  (27, .iload 2, 28, 0, 0),
  (28, .aload 0, 29, 0, 0),
  (29, .iload 3, 30, 0, 0),
  (30, .aload 1, 31, 0, 0),
  (31, .invokeinterface 1 0, 34, 0, 0),
  (34, .invokevirtual 93, 37, 0, 0),
  (37, .iadd, 38, 0, 0),
  (38, .istore 2, 39, 0, 0),
  (39, .iinc 3 0, 42, 1, 4),
  (42, .goto 4, 45, 0, 0),
  (45, .aload 1, 46, 0, 0),
  (46, .aload 0, 47, 0, 0),
  (47, .invokeinterface 9 0, 50, 0, 0),
  (50, .invokeinterface 3 0, 53, 0, 0),
  (53, .invokevirtual 9, 56, 0, 0),
  (56, .aload 1, 57, 0, 0),
  (57, .aload 0, 58, 0, 0),
  (58, .invokeinterface 9 0, 61, 0, 0),
  (61, .invokevirtual 14, 64, 0, 0),
  (64, .aload 0, 65, 0, 0),
  (65, .dup, 66, 0, 0),
  (66, .invokeinterface 9 4, 69, 0, 0),
  (69, .iconst 0, 70, 1, 0),
  (70, .iadd, 71, 0, 0),
  (71, .multianewarray 9 4, 74, 0, 0),
  (74, .iload 2, 75, 0, 0),
  (75, .ireturn, 76, 0, 0)]
def gme_92 : gMe := ((yX9_letHourGo, cX9_letHourGo, 4, (some .int)), (9, false), (9, 1, 0, 0), gco_92_0)
def gco_93_0 : List gIn := [(0, .aload 0, 1, 0, 0),
  (1, .invokeinterface 9 2, 4, 0, 0),
  (4, .invokeinterface 10 2, 7, 0, 0),
  (7, .iload 1, 8, 0, 0),
  (8, .iaload, 9, 0, 0),
  (9, .istore 3, 10, 0, 0),
  (10, .aload 0, 11, 0, 0),
  (11, .invokeinterface 9 0, 14, 0, 0),
  (14, .invokeinterface 3 0, 17, 0, 0),
  (17, .iload 3, 18, 0, 0),
  (18, .aload 0, 19, 0, 0),
  (19, .invokeinterface 9 2, 22, 0, 0),
  (22, .invokeinterface 10 3, 25, 0, 0),
  (25, .iload 1, 26, 0, 0),
  (26, .iaload, 27, 0, 0),
  (27, .invokevirtual 50, 30, 0, 0),
  (30, .istore 4, 32, 0, 0),
  (32, .aload 0, 33, 0, 0),
  (33, .invokeinterface 9 0, 36, 0, 0),
  (36, .invokeinterface 3 0, 39, 0, 0),
  (39, .iload 3, 40, 0, 0),
  (40, .iload 4, 42, 0, 0),
  (42, .invokevirtual 51, 45, 0, 0),
  (45, .istore 5, 47, 0, 0),
  (47, .aload 0, 48, 0, 0),
  (48, .invokeinterface 9 0, 51, 0, 0),
  (51, .iload 3, 52, 0, 0),
  (52, .iload 5, 54, 0, 0),
  (54, .aload 2, 55, 0, 0),
  (55, .invokevirtual 24, 58, 0, 0),
  (58, .aload 0, 59, 0, 0),
  (59, .invokeinterface 9 0, 62, 0, 0),
  (62, .invokeinterface 3 0, 65, 0, 0),
  (65, .invokeinterface 5 7, 68, 0, 0),
  (68, .iload 3, 69, 0, 0),
  (69, .dup2, 70, 0, 0),
  (70, .iaload, 71, 0, 0),
  (71, .iload 4, 73, 0, 0),
  (73, .iload 5, 75, 0, 0),
  (75, .isub, 76, 0, 0),
  (76, .isub, 77, 0, 0),
  (77, .iastore, 78, 0, 0),
  (78, .aload 0, 79, 0, 0),
  (79, .invokeinterface 9 2, 82, 0, 0),
  (82, .iload 1, 83, 0, 0),
  (83, .aload 0, 84, 0, 0),
  (84, .invokevirtual 91, 87, 0, 0),
  (87, .aload 2, 88, 0, 0),
  (88, .iload 4, 90, 0, 0),
  (90, .iload 5, 92, 0, 0),
  (92, .isub, 93, 0, 0),
  (93, .invokevirtual 104, 96, 0, 0),
  (96, .aload 0, 97, 0, 0),
  (97, .invokeinterface 9 3, 100, 0, 0),
  (100, .invokeinterface 0 0, 103, 0, 0),
  (103, .aload 0, 104, 0, 0),
  (104, .invokeinterface 9 2, 107, 0, 0),
  (107, .invokeinterface 10 1, 110, 0, 0),
  (110, .iload 1, 111, 0, 0),
  (111, .iaload, 112, 0, 0)]
def gco_93_1 : List gIn := [(112, .dup2, 113, 0, 0),
  (113, .iaload, 114, 0, 0),
  (114, .iload 5, 116, 0, 0),
  (116, .iadd, 117, 0, 0),
  (117, .iastore, 118, 0, 0),
  (118, .iload 5, 120, 0, 0),
  (120, .ireturn, 121, 0, 0)]
def gme_93 : gMe := ((yX9_drawBy, cX9_drawBy, 6, (some .int)), (9, false), (9, 2, 0, 0), gco_93_0 ++ (gco_93_1))
def gco_94_0 : List gIn := [(0, .aload 0, 1, 0, 0),
  (1, .invokeinterface 9 4, 4, 0, 0),
  (4, .aload 0, 5, 0, 0),
  (5, .invokeinterface 9 1, 8, 0, 0),
  (8, .invokeinterface 2 4, 11, 0, 0),
  (11, .iload 1, 12, 0, 0),
  (12, .iaload, 13, 0, 0),
  (13, .if_icmp .lt 45, 16, 0, 0),
  (16, .aload 0, 17, 0, 0),
  (17, .aload 0, 18, 0, 0),
  (18, .invokeinterface 9 1, 21, 0, 0),
  (21, .invokeinterface 2 3, 24, 0, 0),
  (24, .iload 1, 25, 0, 0),
  (25, .iaload, 26, 0, 0),
  (26, .aload 0, 27, 0, 0),
  (27, .invokeinterface 9 1, 30, 0, 0),
  (30, .invokeinterface 2 2, 33, 0, 0),
  (33, .iload 1, 34, 0, 0),
  (34, .iaload, 35, 0, 0),
  (35, .invokevirtual 95, 38, 0, 0),
  (38, .ifCond .ne 45, 41, 0, 0),
  (41, .iconst 0, 42, 1, 0),
  (42, .goto 46, 45, 0, 0),
  (45, .iconst 0, 46, 0, 1),
  (46, .freturn, 47, 0, 1)]
def gme_94 : gMe := ((yX9_hasEnded, cX9_hasEnded, 2, (some .boolean)), (9, false), (9, 1, 0, 0), gco_94_0)
def gco_95_0 : List gIn := [(0, .iconst 0, 1, 0, 0),
  (1, .istore 3, 2, 0, 0),
  (2, .iload 3, 3, 0, 4),
  (3, .aload 0, 4, 0, 0),
  (4, .invokeinterface 9 2, 7, 0, 0),
  (7, .invokeinterface 10 0, 10, 0, 0),
  (10, .if_icmp .ge 55, 13, 0, 0),
  (13, .aload 0, 14, 0, 0),
  (14, .invokeinterface 9 2, 17, 0, 0),
  (17, .invokeinterface 10 1, 20, 0, 0),
  (20, .iload 3, 21, 0, 0),
  (21, .iaload, 22, 0, 0),
  (22, .iload 1, 23, 0, 0),
  (23, .if_icmp .ne 49, 26, 0, 0),
  (26, .aload 0, 27, 0, 0),
  (27, .invokeinterface 9 0, 30, 0, 0),
  (30, .invokeinterface 3 1, 33, 0, 0),
  (33, .aload 0, 34, 0, 0),
  (34, .invokeinterface 9 2, 37, 0, 0),
  (37, .invokeinterface 10 2, 40, 0, 0),
  (40, .iload 3, 41, 0, 0),
  (41, .iaload, 42, 0, 0),
  (42, .iaload, 43, 0, 0),
  (43, .iload 2, 44, 0, 0),
  (44, .if_icmp .ne 49, 47, 0, 0),
  (47, .iconst 0, 48, 1, 0),
  (48, .freturn, 49, 0, 0),
  (49, .iinc 3 0, 52, 1, 4),
  (52, .goto 2, 55, 0, 0),
  (55, .iconst 0, 56, 0, 0),
  (56, .freturn, 57, 0, 0)]
def gme_95 : gMe := ((yX9_hasWellOn, cX9_hasWellOn, 4, (some .boolean)), (9, false), (9, 2, 0, 0), gco_95_0)
def gco_96_0 : List gIn := [(0, .iconst 0, 2, (-4), 0),
  (2, .istore 2, 3, 0, 0),
  (3, .iconst 0, 4, 0, 0),
  (4, .istore 3, 5, 0, 0),
  (5, .iload 3, 6, 0, 4),
  (6, .aload 0, 7, 0, 0),
  (7, .invokeinterface 9 1, 10, 0, 0),
  (10, .invokeinterface 2 1, 13, 0, 0),
  (13, .if_icmp .ge 72, 16, 0, 0),
  (16, .aload 0, 17, 0, 0),
  (17, .invokeinterface 9 1, 20, 0, 0),
  (20, .invokeinterface 2 2, 23, 0, 0),
  (23, .iload 3, 24, 0, 0),
  (24, .iaload, 25, 0, 0),
  (25, .iload 1, 26, 0, 0),
  (26, .if_icmp .ne 66, 29, 0, 0),
  (29, .aload 0, 30, 0, 0),
  (30, .iload 3, 31, 0, 0),
  (31, .invokevirtual 94, 34, 0, 0),
  (34, .ifCond .ne 66, 37, 0, 0),
  (37, .iload 2, 38, 0, 0),
  (38, .iconst 0, 40, (-4), 0),
  (40, .if_icmp .eq 64, 43, 0, 0),
  (43, .aload 0, 44, 0, 0),
  (44, .invokeinterface 9 1, 47, 0, 0),
  (47, .invokeinterface 2 5, 50, 0, 0),
  (50, .iload 3, 51, 0, 0),
  (51, .iaload, 52, 0, 0),
  (52, .aload 0, 53, 0, 0),
  (53, .invokeinterface 9 1, 56, 0, 0),
  (56, .invokeinterface 2 5, 59, 0, 0),
  (59, .iload 2, 60, 0, 0),
  (60, .iaload, 61, 0, 0),
  (61, .if_icmp .ge 66, 64, 0, 0),
  (64, .iload 3, 65, 0, 4),
  (65, .istore 2, 66, 0, 0),
  (66, .iinc 3 0, 69, 1, 4),
  (69, .goto 5, 72, 0, 0),
  (72, .iload 2, 73, 0, 0),
  (73, .iconst 0, 75, (-4), 0),
  (75, .if_icmp .ne 90, 78, 0, 0),
  (78, .aload 0, 79, 0, 0),
  (79, .invokeinterface 9 1, 82, 0, 0),
  (82, .invokeinterface 2 0, 85, 0, 0),
  (85, .iload 1, 86, 0, 0),
  (86, .iaload, 87, 0, 0),
  (87, .goto 99, 90, 0, 0),
  (90, .aload 0, 91, 0, 0),
  (91, .invokeinterface 9 1, 94, 0, 0),
  (94, .invokeinterface 2 3, 97, 0, 0),
  (97, .iload 2, 98, 0, 0),
  (98, .iaload, 99, 0, 0),
  (99, .ireturn, 100, 0, 1)]
def gme_96 : gMe := ((yX9_holderOf, cX9_holderOf, 4, (some .int)), (9, false), (9, 1, 0, 0), gco_96_0)
def gco_97_0 : List gIn := [(0, .iconst 0, 1, 0, 0),
  (1, .istore 2, 2, 0, 0),
  (2, .iconst 0, 3, 0, 0),
  (3, .istore 3, 4, 0, 0),
  (4, .iload 3, 5, 0, 4),
  (5, .aload 0, 6, 0, 0),
  (6, .invokeinterface 9 2, 9, 0, 0),
  (9, .invokeinterface 10 0, 12, 0, 0),
  (12, .if_icmp .ge 45, 15, 0, 0),
  (15, .aload 0, 16, 0, 0),
  (16, .invokeinterface 9 0, 19, 0, 0),
  (19, .invokeinterface 3 1, 22, 0, 0),
  (22, .aload 0, 23, 0, 0),
  (23, .invokeinterface 9 2, 26, 0, 0),
  (26, .invokeinterface 10 2, 29, 0, 0),
  (29, .iload 3, 30, 0, 0),
  (30, .iaload, 31, 0, 0),
  (31, .iaload, 32, 0, 0),
  (32, .iload 1, 33, 0, 0),
  (33, .if_icmp .ne 39, 36, 0, 0),
  (36, .iinc 2 0, 39, 1, 0),
  (39, .iinc 3 0, 42, 1, 4),
  (42, .goto 4, 45, 0, 0),
  (45, .iload 2, 46, 0, 0),
  (46, .ireturn, 47, 0, 0)]
def gme_97 : gMe := ((yX9_wellsOn, cX9_wellsOn, 4, (some .int)), (9, false), (9, 1, 0, 0), gco_97_0)
def gco_98_0 : List gIn := [(0, .iconst 0, 2, 99, 0),
  (2, .istore 2, 3, 0, 0),
  (3, .iconst 0, 4, 0, 0),
  (4, .istore 3, 5, 0, 0),
  (5, .iload 3, 6, 0, 4),
  (6, .aload 0, 7, 0, 0),
  (7, .invokeinterface 9 2, 10, 0, 0),
  (10, .invokeinterface 10 0, 13, 0, 0),
  (13, .if_icmp .ge 47, 16, 0, 0),
  (16, .iload 2, 17, 0, 0),
  (17, .aload 0, 18, 0, 0),
  (18, .invokeinterface 9 0, 21, 0, 0),
  (21, .invokeinterface 3 0, 24, 0, 0),
  (24, .iload 1, 25, 0, 0),
  (25, .aload 0, 26, 0, 0),
  (26, .invokeinterface 9 2, 29, 0, 0),
  (29, .invokeinterface 10 2, 32, 0, 0),
  (32, .iload 3, 33, 0, 0),
  (33, .iaload, 34, 0, 0),
  (34, .invokevirtual 49, 37, 0, 0),
  (37, .invokedynamic 4, 40, 0, 0),
  (40, .istore 2, 41, 0, 0),
  (41, .iinc 3 0, 44, 1, 0),
  (44, .goto 5, 47, 0, 0),
  (47, .iload 2, 48, 0, 0),
  (48, .ireturn, 49, 0, 0)]
def gme_98 : gMe := ((yX9_nearestWellFrom, cX9_nearestWellFrom, 4, (some .int)), (9, false), (9, 1, 0, 0), gco_98_0)
def gco_99_0 : List gIn := [(0, .aload 0, 1, 0, 0),
  (1, .invokeinterface 9 0, 4, 0, 0),
  (4, .invokeinterface 3 1, 7, 0, 0),
  (7, .aload 0, 8, 0, 0),
  (8, .invokeinterface 9 2, 11, 0, 0),
  (11, .invokeinterface 10 2, 14, 0, 0),
  (14, .iload 1, 15, 0, 0),
  (15, .iaload, 16, 0, 0),
  (16, .iaload, 17, 0, 0),
  (17, .istore 3, 18, 0, 0),
  (18, .iload 3, 19, 0, 0),
  (19, .iconst 0, 21, (-4), 0),
  (21, .if_icmp .ne 28, 24, 0, 0),
  (24, .iconst 0, 25, 0, 0),
  (25, .goto 33, 28, 0, 0),
  (28, .aload 0, 29, 0, 0),
  (29, .iload 3, 30, 0, 0),
  (30, .invokevirtual 97, 33, 0, 0),
  (33, .istore 4, 35, 0, 4),
  (35, .iload 4, 37, 0, 0),
  (37, .ifCond .gt 44, 40, 0, 0),
  (40, .iconst 0, 41, 0, 0),
  (41, .goto 57, 44, 0, 0),
  (44, .iload 2, 45, 0, 0),
  (45, .aload 0, 46, 0, 0),
  (46, .invokeinterface 9 0, 49, 0, 0),
  (49, .iload 3, 50, 0, 0),
  (50, .invokevirtual 25, 53, 0, 0),
  (53, .imul, 54, 0, 0),
  (54, .iload 4, 56, 0, 0),
  (56, .idiv, 57, 0, 0),
  (57, .ireturn, 58, 0, 1)]
def gme_99 : gMe := ((yX9_shareByAcres, cX9_shareByAcres, 5, (some .int)), (9, false), (9, 2, 0, 0), gco_99_0)
def gco_100_0 : List gIn := [(0, .aload 0, 1, 0, 0),
  (1, .invokespecial 999, 4, 0, 0),
  (4, .aload 0, 5, 0, 0),
  (5, .iconst 0, 7, 10, 0),
  (7, .newarray .int, 9, 0, 0),
  (9, .multianewarray 10 1, 12, 0, 0),
  (12, .aload 0, 13, 0, 0),
  (13, .iconst 0, 15, 10, 0),
  (15, .newarray .int, 17, 0, 0),
  (17, .multianewarray 10 2, 20, 0, 0),
  (20, .aload 0, 21, 0, 0),
  (21, .iconst 0, 23, 10, 0),
  (23, .newarray .int, 25, 0, 0),
  (25, .multianewarray 10 3, 28, 0, 0),
  (28, .aload 0, 29, 0, 0),
  (29, .iconst 0, 31, 10, 0),
  (31, .newarray .boolean, 33, 0, 0),
  (33, .multianewarray 10 4, 36, 0, 0),
  (36, .aload 0, 37, 0, 0),
  (37, .iconst 0, 39, 10, 0),
  (39, .newarray .int, 41, 0, 0),
  (41, .multianewarray 10 5, 44, 0, 0),
  (44, .aload 0, 45, 0, 0),
  (45, .iconst 0, 47, 10, 0),
  (47, .newarray .int, 49, 0, 0),
  (49, .multianewarray 10 6, 52, 0, 0),
  (52, .aload 0, 53, 0, 0),
  (53, .iconst 0, 55, 90, 0),
  (55, .newarray .int, 57, 0, 0),
  (57, .multianewarray 10 7, 60, 0, 0),
  (60, .aload 0, 61, 0, 0),
  (61, .iconst 0, 64, 500, 0),
  (64, .newarray .int, 66, 0, 0),
  (66, .multianewarray 10 8, 69, 0, 0),
  (69, .return_, 70, 0, 0)]
def gme_100 : gMe := ((yX10_init, cX10_init, 1, none), (10, true), (10, 0, 8, 650), gco_100_0)
def gco_101_0 : List gIn := [(0, .aload 0, 1, 0, 0),
  (1, .iconst 0, 2, 0, 0),
  (2, .multianewarray 10 0, 5, 0, 0),
  (5, .aload 0, 6, 0, 0),
  (6, .invokeinterface 10 5, 9, 0, 0),
  (9, .iconst 0, 10, 0, 0),
  (10, .invokestatic 240, 13, 0, 0),
  (13, .aload 0, 14, 0, 0),
  (14, .invokeinterface 10 6, 17, 0, 0),
  (17, .iconst 0, 18, 0, 0),
  (18, .invokestatic 240, 21, 0, 0),
  (21, .aload 0, 22, 0, 0),
  (22, .invokeinterface 10 7, 25, 0, 0),
  (25, .iconst 0, 26, 0, 0),
  (26, .invokestatic 240, 29, 0, 0),
  (29, .aload 0, 30, 0, 0),
  (30, .invokeinterface 10 8, 33, 0, 0),
  (33, .iconst 0, 34, 0, 0),
  (34, .invokestatic 240, 37, 0, 0),
  (37, .return_, 38, 0, 0)]
def gme_101 : gMe := ((yX10_clear, cX10_clear, 1, none), (10, false), (10, 0, 0, 0), gco_101_0)
def gco_102_0 : List gIn := [(0, .aload 0, 1, 0, 0),
  (1, .aload 1, 2, 0, 0),
  (2, .invokeinterface 10 0, 5, 0, 0),
  (5, .multianewarray 10 0, 8, 0, 0),
  (8, .aload 1, 9, 0, 0),
  (9, .invokeinterface 10 1, 12, 0, 0),
  (12, .iconst 0, 13, 0, 0),
  (13, .aload 0, 14, 0, 0),
  (14, .invokeinterface 10 1, 17, 0, 0),
  (17, .iconst 0, 18, 0, 0),
  (18, .iconst 0, 20, 10, 0),
  (20, .invokedynamic 0, 23, 0, 0),
  (23, .aload 1, 24, 0, 0),
  (24, .invokeinterface 10 2, 27, 0, 0),
  (27, .iconst 0, 28, 0, 0),
  (28, .aload 0, 29, 0, 0),
  (29, .invokeinterface 10 2, 32, 0, 0),
  (32, .iconst 0, 33, 0, 0),
  (33, .iconst 0, 35, 10, 0),
  (35, .invokedynamic 0, 38, 0, 0),
  (38, .aload 1, 39, 0, 0),
  (39, .invokeinterface 10 3, 42, 0, 0),
  (42, .iconst 0, 43, 0, 0),
  (43, .aload 0, 44, 0, 0),
  (44, .invokeinterface 10 3, 47, 0, 0),
  (47, .iconst 0, 48, 0, 0),
  (48, .iconst 0, 50, 10, 0),
  (50, .invokedynamic 0, 53, 0, 0),
  (53, .aload 1, 54, 0, 0),
  (54, .invokeinterface 10 5, 57, 0, 0),
  (57, .iconst 0, 58, 0, 0),
  (58, .aload 0, 59, 0, 0),
  (59, .invokeinterface 10 5, 62, 0, 0),
  (62, .iconst 0, 63, 0, 0),
  (63, .iconst 0, 65, 10, 0),
  (65, .invokedynamic 0, 68, 0, 0),
  (68, .aload 1, 69, 0, 0),
  (69, .invokeinterface 10 6, 72, 0, 0),
  (72, .iconst 0, 73, 0, 0),
  (73, .aload 0, 74, 0, 0),
  (74, .invokeinterface 10 6, 77, 0, 0),
  (77, .iconst 0, 78, 0, 0),
  (78, .iconst 0, 80, 10, 0),
  (80, .invokedynamic 0, 83, 0, 0),
  (83, .aload 1, 84, 0, 0),
  (84, .invokeinterface 10 7, 87, 0, 0),
  (87, .iconst 0, 88, 0, 0),
  (88, .aload 0, 89, 0, 0),
  (89, .invokeinterface 10 7, 92, 0, 0),
  (92, .iconst 0, 93, 0, 0),
  (93, .iconst 0, 95, 90, 0),
  (95, .invokedynamic 0, 98, 0, 0),
  (98, .aload 1, 99, 0, 0),
  (99, .invokeinterface 10 8, 102, 0, 0),
  (102, .iconst 0, 103, 0, 0),
  (103, .aload 0, 104, 0, 0),
  (104, .invokeinterface 10 8, 107, 0, 0),
  (107, .iconst 0, 108, 0, 0),
  (108, .iconst 0, 111, 500, 0),
  (111, .invokedynamic 0, 114, 0, 0)]
def gco_102_1 : List gIn := [(114, .iconst 0, 115, 0, 0),
  (115, .istore 2, 116, 0, 0),
  (116, .iload 2, 117, 0, 3),
  (117, .iconst 0, 119, 10, 0),
  (119, .if_icmp .ge 140, 122, 0, 0),
  (122, .aload 0, 123, 0, 0),
  (123, .invokeinterface 10 4, 126, 0, 0),
  (126, .iload 2, 127, 0, 0),
  (127, .aload 1, 128, 0, 0),
  (128, .invokeinterface 10 4, 131, 0, 0),
  (131, .iload 2, 132, 0, 0),
  (132, .baload, 133, 0, 0),
  (133, .bastore, 134, 0, 0),
  (134, .iinc 2 0, 137, 1, 0),
  (137, .goto 116, 140, 0, 0),
  (140, .return_, 141, 0, 0)]
def gme_102 : gMe := ((yX10_copyFrom, cX10_copyFrom, 3, none), (10, false), (10, 1, 0, 0), gco_102_0 ++ (gco_102_1))
def gco_103_0 : List gIn := [(0, .aload 0, 1, 0, 0),
  (1, .invokeinterface 10 0, 4, 0, 0),
  (4, .iconst 0, 6, 10, 0),
  (6, .if_icmp .lt 12, 9, 0, 0),
  (9, .iconst 0, 11, (-3), 0),
  (11, .ireturn, 12, 0, 0),
  (12, .aload 0, 13, 0, 0),
  (13, .invokeinterface 10 1, 16, 0, 0),
  (16, .aload 0, 17, 0, 0),
  (17, .invokeinterface 10 0, 20, 0, 0),
  (20, .iload 1, 21, 0, 0),
  (21, .iastore, 22, 0, 0),
  (22, .aload 0, 23, 0, 0),
  (23, .invokeinterface 10 2, 26, 0, 0),
  (26, .aload 0, 27, 0, 0),
  (27, .invokeinterface 10 0, 30, 0, 0),
  (30, .iload 2, 31, 0, 0),
  (31, .iastore, 32, 0, 0),
  (32, .aload 0, 33, 0, 0),
  (33, .invokeinterface 10 3, 36, 0, 0),
  (36, .aload 0, 37, 0, 0),
  (37, .invokeinterface 10 0, 40, 0, 0),
  (40, .iload 3, 41, 0, 0),
  (41, .iastore, 42, 0, 0),
  (42, .aload 0, 43, 0, 0),
  (43, .invokeinterface 10 4, 46, 0, 0),
  (46, .aload 0, 47, 0, 0),
  (47, .invokeinterface 10 0, 50, 0, 0),
  (50, .iconst 0, 51, 1, 0),
  (51, .bastore, 52, 0, 0),
  (52, .aload 0, 53, 0, 0),
  (53, .dup, 54, 0, 0),
  (54, .invokeinterface 10 0, 57, 0, 0),
  (57, .iconst 0, 58, 1, 0),
  (58, .iadd, 59, 0, 0),
  (59, .multianewarray 10 0, 62, 0, 0),
  (62, .aload 0, 63, 0, 0),
  (63, .invokeinterface 10 0, 66, 0, 0),
  (66, .iconst 0, 67, 1, 0),
  (67, .isub, 68, 0, 0),
  (68, .ireturn, 69, 0, 0)]
def gme_103 : gMe := ((yX10_add, cX10_add, 4, (some .int)), (10, false), (10, 3, 0, 0), gco_103_0)
def gco_104_0 : List gIn := [(0, .iconst 0, 1, 0, 0),
  (1, .istore 5, 3, 0, 0),
  (3, .iload 5, 5, 0, 6),
  (5, .iconst 0, 7, 9, 0),
  (7, .if_icmp .ge 66, 10, 0, 0),
  (10, .aload 0, 11, 0, 0),
  (11, .invokeinterface 10 5, 14, 0, 0),
  (14, .iload 1, 15, 0, 0),
  (15, .dup2, 16, 0, 0),
  (16, .iaload, 17, 0, 0),
  (17, .aload 3, 18, 0, 0),
  (18, .iload 5, 20, 0, 0),
  (20, .iaload, 21, 0, 0),
  (21, .iadd, 22, 0, 0),
  (22, .iastore, 23, 0, 0),
  (23, .aload 0, 24, 0, 0),
  (24, .invokeinterface 10 7, 27, 0, 0),
  (27, .iload 1, 28, 0, 0),
  (28, .iconst 0, 30, 9, 0),
  (30, .imul, 31, 0, 0),
  (31, .iload 5, 33, 0, 0),
  (33, .iadd, 34, 0, 0),
  (34, .dup2, 35, 0, 0),
  (35, .iaload, 36, 0, 0),
  (36, .aload 3, 37, 0, 0),
  (37, .iload 5, 39, 0, 0),
  (39, .iaload, 40, 0, 0),
  (40, .iadd, 41, 0, 0),
  (41, .iastore, 42, 0, 0),
  (42, .aload 0, 43, 0, 0),
  (43, .invokeinterface 10 8, 46, 0, 0),
  (46, .iload 1, 47, 0, 0),
  (47, .iconst 0, 49, 50, 0),
  (49, .imul, 50, 0, 0),
  (50, .iload 2, 51, 0, 0),
  (51, .iadd, 52, 0, 0),
  (52, .dup2, 53, 0, 0),
  (53, .iaload, 54, 0, 0),
  (54, .aload 3, 55, 0, 0),
  (55, .iload 5, 57, 0, 0),
  (57, .iaload, 58, 0, 0),
  (58, .iadd, 59, 0, 0),
  (59, .iastore, 60, 0, 0),
  (60, .iinc 5 0, 63, 1, 0),
  (63, .goto 3, 66, 0, 0),
  (66, .aload 0, 67, 0, 0),
  (67, .invokeinterface 10 6, 70, 0, 0),
  (70, .iload 1, 71, 0, 0),
  (71, .dup2, 72, 0, 0),
  (72, .iaload, 73, 0, 0),
  (73, .iload 4, 75, 0, 0),
  (75, .iadd, 76, 0, 0),
  (76, .iastore, 77, 0, 0),
  (77, .return_, 78, 0, 0)]
def gme_104 : gMe := ((yX10_noteDraw, cX10_noteDraw, 6, none), (10, false), (10, 4, 0, 0), gco_104_0)
def gco_105_0 : List gIn := [(0, .iconst 0, 1, 0, 0),
  (1, .istore 2, 2, 0, 0),
  (2, .iconst 0, 3, 0, 0),
  (3, .istore 3, 4, 0, 0),
  (4, .iload 3, 5, 0, 4),
  (5, .aload 0, 6, 0, 0),
  (6, .invokeinterface 10 0, 9, 0, 0),
  (9, .if_icmp .ge 31, 12, 0, 0),
  (12, .aload 0, 13, 0, 0),
  (13, .invokeinterface 10 1, 16, 0, 0),
  (16, .iload 3, 17, 0, 0),
  (17, .iaload, 18, 0, 0),
  (18, .iload 1, 19, 0, 0),
  (19, .if_icmp .ne 25, 22, 0, 0),
  (22, .iinc 2 0, 25, 1, 0),
  (25, .iinc 3 0, 28, 1, 4),
  (28, .goto 4, 31, 0, 0),
  (31, .iload 2, 32, 0, 0),
  (32, .ireturn, 33, 0, 0)]
def gme_105 : gMe := ((yX10_sizeOf, cX10_sizeOf, 4, (some .int)), (10, false), (10, 1, 0, 0), gco_105_0)
def gco_106_0 : List gIn := [(0, .iconst 0, 1, 0, 0),
  (1, .istore 2, 2, 0, 0),
  (2, .iconst 0, 3, 0, 0),
  (3, .istore 3, 4, 0, 0),
  (4, .iload 3, 5, 0, 4),
  (5, .aload 0, 6, 0, 0),
  (6, .invokeinterface 10 0, 9, 0, 0),
  (9, .if_icmp .ge 37, 12, 0, 0),
  (12, .aload 0, 13, 0, 0),
  (13, .invokeinterface 10 1, 16, 0, 0),
  (16, .iload 3, 17, 0, 0),
  (17, .iaload, 18, 0, 0),
  (18, .iload 1, 19, 0, 0),
  (19, .if_icmp .ne 31, 22, 0, 0),
  (22, .iload 2, 23, 0, 0),
  (23, .aload 0, 24, 0, 0),
  (24, .invokeinterface 10 5, 27, 0, 0),
  (27, .iload 3, 28, 0, 0),
  (28, .iaload, 29, 0, 0),
  (29, .iadd, 30, 0, 0),
  (30, .istore 2, 31, 0, 0),
  (31, .iinc 3 0, 34, 1, 4),
  (34, .goto 4, 37, 0, 0),
  (37, .iload 2, 38, 0, 0),
  (38, .ireturn, 39, 0, 0)]
def gme_106 : gMe := ((yX10_oilOf, cX10_oilOf, 4, (some .int)), (10, false), (10, 1, 0, 0), gco_106_0)
def gco_107_0 : List gIn := [(0, .iconst 0, 1, 0, 0),
  (1, .istore 3, 2, 0, 0),
  (2, .iconst 0, 3, 0, 0),
  (3, .istore 4, 5, 0, 0),
  (5, .iload 4, 7, 0, 5),
  (7, .aload 0, 8, 0, 0),
  (8, .invokeinterface 10 0, 11, 0, 0),
  (11, .if_icmp .ge 46, 14, 0, 0),
  (14, .aload 0, 15, 0, 0),
  (15, .invokeinterface 10 1, 18, 0, 0),
  (18, .iload 4, 20, 0, 0),
  (20, .iaload, 21, 0, 0),
  (21, .iload 1, 22, 0, 0),
  (22, .if_icmp .ne 40, 25, 0, 0),
  (25, .iload 3, 26, 0, 0),
  (26, .aload 0, 27, 0, 0),
  (27, .invokeinterface 10 7, 30, 0, 0),
  (30, .iload 4, 32, 0, 0),
  (32, .iconst 0, 34, 9, 0),
  (34, .imul, 35, 0, 0),
  (35, .iload 2, 36, 0, 0),
  (36, .iadd, 37, 0, 0),
  (37, .iaload, 38, 0, 0),
  (38, .iadd, 39, 0, 0),
  (39, .istore 3, 40, 0, 0),
  (40, .iinc 4 0, 43, 1, 5),
  (43, .goto 5, 46, 0, 0),
  (46, .iload 3, 47, 0, 0),
  (47, .ireturn, 48, 0, 0)]
def gme_107 : gMe := ((yX10_oilOfLot, cX10_oilOfLot, 5, (some .int)), (10, false), (10, 2, 0, 0), gco_107_0)
def gco_108_0 : List gIn := [(0, .aload 0, 1, 0, 0),
  (1, .invokespecial 999, 4, 0, 0),
  (4, .aload 0, 5, 0, 0),
  (5, .new 9, 8, 0, 0),
  (8, .dup, 9, 0, 0),
  (9, .invokespecial 88, 12, 0, 0),
  (12, .multianewarray 11 0, 15, 0, 0),
  (15, .aload 0, 16, 0, 0),
  (16, .iconst 0, 17, 3, 0),
  (17, .anewarray 12, 20, 0, 0),
  (20, .multianewarray 11 1, 23, 0, 0),
  (23, .aload 0, 24, 0, 0),
  (24, .iconst 0, 26, 6, 0),
  (26, .newarray .int, 28, 0, 0),
  (28, .multianewarray 11 4, 31, 0, 0),
  (31, .aload 0, 32, 0, 0),
  (32, .new 8, 35, 0, 0),
  (35, .dup, 36, 0, 0),
  (36, .invokespecial 73, 39, 0, 0),
  (39, .multianewarray 11 5, 42, 0, 0),
  (42, .aload 0, 43, 0, 0),
  (43, .new 4, 46, 0, 0),
  (46, .dup, 47, 0, 0),
  (47, .invokespecial 27, 50, 0, 0),
  (50, .multianewarray 11 6, 53, 0, 0),
  (53, .aload 0, 54, 0, 0),
  (54, .new 1, 57, 0, 0),
  (57, .dup, 58, 0, 0),
  (58, .invokespecial 8, 61, 0, 0),
  (61, .multianewarray 11 7, 64, 0, 0),
  (64, .aload 0, 65, 0, 0),
  (65, .new 6, 68, 0, 0),
  (68, .dup, 69, 0, 0),
  (69, .invokespecial 55, 72, 0, 0),
  (72, .multianewarray 11 8, 75, 0, 0),
  (75, .aload 0, 76, 0, 0),
  (76, .iconst 0, 77, 4, 0),
  (77, .anewarray 10, 80, 0, 0),
  (80, .multianewarray 11 9, 83, 0, 0),
  (83, .aload 0, 84, 0, 0),
  (84, .invokeinterface 11 4, 87, 0, 0),
  (87, .iconst 0, 89, (-4), 0),
  (89, .invokestatic 240, 92, 0, 0),
  (92, .iconst 0, 93, 0, 0),
  (93, .istore 1, 94, 0, 0),
  (94, .iload 1, 95, 0, 2),
  (95, .iconst 0, 96, 4, 0),
  (96, .if_icmp .ge 118, 99, 0, 0),
  (99, .aload 0, 100, 0, 0),
  (100, .invokeinterface 11 9, 103, 0, 0),
  (103, .iload 1, 104, 0, 0),
  (104, .new 7, 107, 0, 0),
  (107, .dup, 108, 0, 0),
  (108, .invokespecial 69, 111, 0, 0),
  (111, .aastore, 112, 0, 0),
  (112, .iinc 1 0, 115, 1, 0),
  (115, .goto 94, 118, 0, 0),
  (118, .return_, 119, 0, 0)]
def gme_108 : gMe := ((yX11_init, cX11_init, 2, none), (11, true), (11, 0, 80, 4119), gco_108_0)
def gco_109_0 : List gIn := [(0, .iload 1, 1, 0, 0),
  (1, .iconst 0, 2, 1, 0),
  (2, .if_icmp .lt 22, 5, 0, 0),
  (5, .iload 1, 6, 0, 0),
  (6, .iconst 0, 8, 6, 0),
  (8, .if_icmp .gt 22, 11, 0, 0),
  (11, .iload 2, 12, 0, 0),
  (12, .iconst 0, 13, 1, 0),
  (13, .if_icmp .lt 22, 16, 0, 0),
  (16, .iload 2, 17, 0, 0),
  (17, .iconst 0, 19, 6, 0),
  (19, .if_icmp .le 24, 22, 0, 0),
  (22, .iconst 0, 23, (-1), 1),
  (23, .ireturn, 24, 0, 0),
  (24, .aload 0, 25, 0, 0),
  (25, .invokeinterface 11 0, 28, 0, 0),
  (28, .iload 1, 29, 0, 0),
  (29, .iload 2, 30, 0, 0),
  (30, .invokevirtual 89, 33, 0, 0),
  (33, .iconst 0, 34, 1, 0),
  (34, .ireturn, 35, 0, 0)]
def gme_109 : gMe := ((yX11_field, cX11_field, 3, (some .int)), (11, false), (11, 2, 0, 0), gco_109_0)
def gco_110_0 : List gIn := [(0, .aload 0, 1, 0, 0),
  (1, .iload 1, 2, 0, 0),
  (2, .invokevirtual 150, 5, 0, 0),
  (5, .ifCond .eq 49, 8, 0, 0),
  (8, .iload 2, 9, 0, 0),
  (9, .iconst 0, 11, 9, 0),
  (11, .invokestatic 145, 14, 0, 0),
  (14, .ifCond .eq 49, 17, 0, 0),
  (17, .iload 3, 18, 0, 0),
  (18, .iconst 0, 21, 999, 0),
  (21, .invokestatic 145, 24, 0, 0),
  (24, .ifCond .eq 49, 27, 0, 0),
  (27, .iload 4, 29, 0, 0),
  (29, .iconst 0, 32, 999, 0),
  (32, .invokestatic 145, 35, 0, 0),
  (35, .ifCond .eq 49, 38, 0, 0),
  (38, .iload 5, 40, 0, 0),
  (40, .iconst 0, 43, 999, 0),
  (43, .invokestatic 145, 46, 0, 0),
  (46, .ifCond .ne 51, 49, 0, 0),
  (49, .iconst 0, 50, (-1), 1),
  (50, .ireturn, 51, 0, 0),
  (51, .aload 0, 52, 0, 0),
  (52, .invokeinterface 11 0, 55, 0, 0),
  (55, .invokeinterface 9 0, 58, 0, 0),
  (58, .invokeinterface 3 0, 61, 0, 0),
  (61, .astore 6, 63, 0, 0),
  (63, .aload 6, 65, 0, 0),
  (65, .invokeinterface 5 5, 68, 0, 0),
  (68, .iload 1, 69, 0, 0),
  (69, .iload 2, 70, 0, 0),
  (70, .iastore, 71, 0, 0),
  (71, .aload 6, 73, 0, 0),
  (73, .invokeinterface 5 6, 76, 0, 0),
  (76, .iload 1, 77, 0, 0),
  (77, .iload 3, 78, 0, 0),
  (78, .iastore, 79, 0, 0),
  (79, .aload 6, 81, 0, 0),
  (81, .invokeinterface 5 7, 84, 0, 0),
  (84, .iload 1, 85, 0, 0),
  (85, .iload 4, 87, 0, 0),
  (87, .iastore, 88, 0, 0),
  (88, .aload 0, 89, 0, 0),
  (89, .invokeinterface 11 0, 92, 0, 0),
  (92, .invokeinterface 9 0, 95, 0, 0),
  (95, .iload 1, 96, 0, 0),
  (96, .iload 5, 98, 0, 0),
  (98, .invokevirtual 23, 101, 0, 0),
  (101, .iconst 0, 102, 1, 0),
  (102, .ireturn, 103, 0, 0)]
def gme_110 : gMe := ((yX11_cell, cX11_cell, 7, (some .int)), (11, false), (11, 5, 0, 0), gco_110_0)
def gco_111_0 : List gIn := [(0, .aload 0, 1, 0, 0),
  (1, .iload 1, 2, 0, 0),
  (2, .invokevirtual 150, 5, 0, 0),
  (5, .ifCond .eq 21, 8, 0, 0),
  (8, .iload 2, 9, 0, 0),
  (9, .iconst 0, 11, (-4), 0),
  (11, .if_icmp .eq 23, 14, 0, 0),
  (14, .iload 2, 15, 0, 0),
  (15, .invokestatic 146, 18, 0, 0),
  (18, .ifCond .ne 23, 21, 0, 0),
  (21, .iconst 0, 22, (-1), 1),
  (22, .ireturn, 23, 0, 0),
  (23, .aload 0, 24, 0, 3),
  (24, .invokeinterface 11 0, 27, 0, 0),
  (27, .invokeinterface 9 0, 30, 0, 0),
  (30, .invokeinterface 3 1, 33, 0, 0),
  (33, .iload 1, 34, 0, 0),
  (34, .iaload, 35, 0, 0),
  (35, .istore 3, 36, 0, 0),
  (36, .aload 0, 37, 0, 0),
  (37, .invokeinterface 11 0, 40, 0, 0),
  (40, .invokeinterface 9 0, 43, 0, 0),
  (43, .invokeinterface 3 1, 46, 0, 0),
  (46, .iload 1, 47, 0, 0),
  (47, .iload 2, 48, 0, 0),
  (48, .iastore, 49, 0, 0),
  (49, .iload 3, 50, 0, 0),
  (50, .ireturn, 51, 0, 0)]
def gme_111 : gMe := ((yX11_lay, cX11_lay, 4, (some .int)), (11, false), (11, 2, 0, 0), gco_111_0)
def gco_112_0 : List gIn := [(0, .aload 0, 1, 0, 0),
  (1, .iload 1, 2, 0, 0),
  (2, .invokevirtual 150, 5, 0, 0),
  (5, .ifCond .ne 10, 8, 0, 0),
  (8, .iconst 0, 9, (-1), 0),
  (9, .ireturn, 10, 0, 0),
  (10, .aload 0, 11, 0, 0),
  (11, .invokeinterface 11 0, 14, 0, 0),
  (14, .invokeinterface 9 0, 17, 0, 0),
  (17, .invokeinterface 3 0, 20, 0, 0),
  (20, .astore 3, 21, 0, 0),
  (21, .iload 2, 22, 0, 0),
  (22, .lookupswitch 107 #[(0, 60), (1, 67), (2, 74), (3, 81), (4, 88), (5, 101)], 60, 0, 0),
  (60, .aload 3, 61, 0, 0),
  (61, .invokeinterface 5 5, 64, 0, 0),
  (64, .iload 1, 65, 0, 0),
  (65, .iaload, 66, 0, 0),
  (66, .ireturn, 67, 0, 0),
  (67, .aload 3, 68, 0, 0),
  (68, .invokeinterface 5 6, 71, 0, 0),
  (71, .iload 1, 72, 0, 0),
  (72, .iaload, 73, 0, 0),
  (73, .ireturn, 74, 0, 0),
  (74, .aload 3, 75, 0, 0),
  (75, .invokeinterface 5 7, 78, 0, 0),
  (78, .iload 1, 79, 0, 0),
  (79, .iaload, 80, 0, 0),
  (80, .ireturn, 81, 0, 0),
  (81, .aload 3, 82, 0, 0),
  (82, .invokeinterface 5 8, 85, 0, 0),
  (85, .iload 1, 86, 0, 0),
  (86, .iaload, 87, 0, 0),
  (87, .ireturn, 88, 0, 0),
  (88, .aload 0, 89, 0, 0),
  (89, .invokeinterface 11 0, 92, 0, 0),
  (92, .invokeinterface 9 0, 95, 0, 0),
  (95, .invokeinterface 3 1, 98, 0, 0),
  (98, .iload 1, 99, 0, 0),
  (99, .iaload, 100, 0, 0),
  (100, .ireturn, 101, 0, 0),
  (101, .aload 3, 102, 0, 0),
  (102, .iload 1, 103, 0, 0),
  (103, .invokevirtual 47, 106, 0, 0),
  (106, .ireturn, 107, 0, 0),
  (107, .iload 2, 108, 0, 0),
  (108, .invokestatic 147, 111, 0, 0),
  (111, .ifCond .eq 137, 114, 0, 0),
  (114, .aload 0, 115, 0, 0),
  (115, .invokeinterface 11 0, 118, 0, 0),
  (118, .invokeinterface 9 0, 121, 0, 0),
  (121, .invokeinterface 3 2, 124, 0, 0),
  (124, .iload 1, 125, 0, 0),
  (125, .iconst 0, 127, 9, 0),
  (127, .imul, 128, 0, 0),
  (128, .iload 2, 129, 0, 0),
  (129, .iadd, 130, 0, 0),
  (130, .iconst 0, 132, 10, 0),
  (132, .isub, 133, 0, 0),
  (133, .iaload, 134, 0, 0),
  (134, .goto 138, 137, 0, 0)]
def gco_112_1 : List gIn := [(137, .iconst 0, 138, (-1), 0),
  (138, .ireturn, 139, 0, 1)]
def gme_112 : gMe := ((yX11_cellOf, cX11_cellOf, 4, (some .int)), (11, false), (11, 2, 0, 0), gco_112_0 ++ (gco_112_1))
def gco_113_0 : List gIn := [(0, .aload 0, 1, 0, 0),
  (1, .invokeinterface 11 0, 4, 0, 0),
  (4, .invokeinterface 9 4, 7, 0, 0),
  (7, .iconst 0, 10, 199, 0),
  (10, .if_icmp .lt 16, 13, 0, 0),
  (13, .iconst 0, 15, (-3), 0),
  (15, .ireturn, 16, 0, 0),
  (16, .aload 0, 17, 0, 0),
  (17, .invokeinterface 11 0, 20, 0, 0),
  (20, .aload 0, 21, 0, 0),
  (21, .invokeinterface 11 7, 24, 0, 0),
  (24, .invokevirtual 92, 27, 0, 0),
  (27, .ireturn, 28, 0, 0)]
def gme_113 : gMe := ((yX11_hour, cX11_hour, 1, (some .int)), (11, false), (11, 0, 0, 0), gco_113_0)
def gco_114_0 : List gIn := [(0, .aload 0, 1, 0, 0),
  (1, .invokeinterface 11 3, 4, 0, 0),
  (4, .iconst 0, 6, 6, 0),
  (6, .if_icmp .lt 12, 9, 0, 0),
  (9, .iconst 0, 11, (-3), 0),
  (11, .ireturn, 12, 0, 0),
  (12, .aload 0, 13, 0, 0),
  (13, .dup, 14, 0, 0),
  (14, .invokeinterface 11 3, 17, 0, 0),
  (17, .iconst 0, 18, 1, 0),
  (18, .iadd, 19, 0, 0),
  (19, .multianewarray 11 3, 22, 0, 0),
  (22, .aload 0, 23, 0, 0),
  (23, .invokeinterface 11 3, 26, 0, 0),
  (26, .iconst 0, 27, 1, 0),
  (27, .isub, 28, 0, 0),
  (28, .ireturn, 29, 0, 0)]
def gme_114 : gMe := ((yX11_person, cX11_person, 1, (some .int)), (11, false), (11, 0, 0, 0), gco_114_0)
def gco_115_0 : List gIn := [(0, .iload 1, 1, 0, 0),
  (1, .invokestatic 146, 4, 0, 0),
  (4, .ifCond .eq 21, 7, 0, 0),
  (7, .iload 2, 8, 0, 0),
  (8, .iconst 0, 10, (-4), 0),
  (10, .if_icmp .eq 24, 13, 0, 0),
  (13, .aload 0, 14, 0, 0),
  (14, .iload 2, 15, 0, 0),
  (15, .invokevirtual 151, 18, 0, 0),
  (18, .ifCond .ne 24, 21, 0, 0),
  (21, .iconst 0, 23, (-5), 1),
  (23, .ireturn, 24, 0, 0),
  (24, .aload 0, 25, 0, 3),
  (25, .invokeinterface 11 0, 28, 0, 0),
  (28, .invokeinterface 9 1, 31, 0, 0),
  (31, .invokeinterface 2 0, 34, 0, 0),
  (34, .iload 1, 35, 0, 0),
  (35, .iaload, 36, 0, 0),
  (36, .istore 3, 37, 0, 0),
  (37, .aload 0, 38, 0, 0),
  (38, .invokeinterface 11 0, 41, 0, 0),
  (41, .invokeinterface 9 1, 44, 0, 0),
  (44, .invokeinterface 2 0, 47, 0, 0),
  (47, .iload 1, 48, 0, 0),
  (48, .iload 2, 49, 0, 0),
  (49, .iastore, 50, 0, 0),
  (50, .iload 3, 51, 0, 0),
  (51, .ireturn, 52, 0, 0)]
def gme_115 : gMe := ((yX11_owner, cX11_owner, 4, (some .int)), (11, false), (11, 2, 0, 0), gco_115_0)
def gco_116_0 : List gIn := [(0, .iload 1, 1, 0, 0),
  (1, .invokestatic 146, 4, 0, 0),
  (4, .ifCond .eq 38, 7, 0, 0),
  (7, .aload 0, 8, 0, 0),
  (8, .iload 2, 9, 0, 0),
  (9, .invokevirtual 151, 12, 0, 0),
  (12, .ifCond .eq 38, 15, 0, 0),
  (15, .iload 3, 16, 0, 0),
  (16, .iconst 0, 17, 1, 0),
  (17, .if_icmp .lt 38, 20, 0, 0),
  (20, .iload 3, 21, 0, 0),
  (21, .iconst 0, 24, 199, 0),
  (24, .if_icmp .gt 38, 27, 0, 0),
  (27, .iload 4, 29, 0, 0),
  (29, .iconst 0, 32, 999, 0),
  (32, .invokestatic 145, 35, 0, 0),
  (35, .ifCond .ne 40, 38, 0, 0),
  (38, .iconst 0, 39, (-1), 1),
  (39, .ireturn, 40, 0, 0),
  (40, .aload 0, 41, 0, 0),
  (41, .invokeinterface 11 0, 44, 0, 0),
  (44, .invokeinterface 9 1, 47, 0, 0),
  (47, .iload 1, 48, 0, 0),
  (48, .iload 2, 49, 0, 0),
  (49, .iload 3, 50, 0, 0),
  (50, .iload 4, 52, 0, 0),
  (52, .invokevirtual 19, 55, 0, 0),
  (55, .ireturn, 56, 0, 0)]
def gme_116 : gMe := ((yX11_lease, cX11_lease, 5, (some .int)), (11, false), (11, 4, 0, 0), gco_116_0)
def gco_117_0 : List gIn := [(0, .aload 0, 1, 0, 0),
  (1, .invokeinterface 11 0, 4, 0, 0),
  (4, .invokeinterface 9 1, 7, 0, 0),
  (7, .astore 3, 8, 0, 0),
  (8, .iload 1, 9, 0, 0),
  (9, .ifCond .lt 20, 12, 0, 0),
  (12, .iload 1, 13, 0, 0),
  (13, .aload 3, 14, 0, 0),
  (14, .invokeinterface 2 1, 17, 0, 0),
  (17, .if_icmp .lt 22, 20, 0, 0),
  (20, .iconst 0, 21, (-1), 1),
  (21, .ireturn, 22, 0, 0),
  (22, .iload 2, 23, 0, 0),
  (23, .lookupswitch 101 #[(0, 56), (1, 63), (2, 70), (3, 77), (4, 84)], 56, 0, 0),
  (56, .aload 3, 57, 0, 0),
  (57, .invokeinterface 2 2, 60, 0, 0),
  (60, .iload 1, 61, 0, 0),
  (61, .iaload, 62, 0, 0),
  (62, .ireturn, 63, 0, 0),
  (63, .aload 3, 64, 0, 0),
  (64, .invokeinterface 2 3, 67, 0, 0),
  (67, .iload 1, 68, 0, 0),
  (68, .iaload, 69, 0, 0),
  (69, .ireturn, 70, 0, 0),
  (70, .aload 3, 71, 0, 0),
  (71, .invokeinterface 2 4, 74, 0, 0),
  (74, .iload 1, 75, 0, 0),
  (75, .iaload, 76, 0, 0),
  (76, .ireturn, 77, 0, 0),
  (77, .aload 3, 78, 0, 0),
  (78, .invokeinterface 2 5, 81, 0, 0),
  (81, .iload 1, 82, 0, 0),
  (82, .iaload, 83, 0, 0),
  (83, .ireturn, 84, 0, 0),
  (84, .aload 0, 85, 0, 0),
  (85, .invokeinterface 11 0, 88, 0, 0),
  (88, .iload 1, 89, 0, 0),
  (89, .invokevirtual 94, 92, 0, 0),
  (92, .ifCond .eq 99, 95, 0, 0),
  (95, .iconst 0, 96, 1, 0),
  (96, .goto 100, 99, 0, 0),
  (99, .iconst 0, 100, 0, 0),
  (100, .ireturn, 101, 0, 1),
  (101, .iconst 0, 102, (-1), 0),
  (102, .ireturn, 103, 0, 0)]
def gme_117 : gMe := ((yX11_leaseOf, cX11_leaseOf, 4, (some .int)), (11, false), (11, 2, 0, 0), gco_117_0)
def gco_118_0 : List gIn := [(0, .iload 1, 1, 0, 0),
  (1, .invokestatic 146, 4, 0, 0),
  (4, .ifCond .eq 18, 7, 0, 0),
  (7, .aload 0, 8, 0, 0),
  (8, .invokeinterface 11 0, 11, 0, 0),
  (11, .iload 1, 12, 0, 0),
  (12, .invokevirtual 96, 15, 0, 0),
  (15, .goto 19, 18, 0, 0),
  (18, .iconst 0, 19, (-1), 0),
  (19, .ireturn, 20, 0, 1)]
def gme_118 : gMe := ((yX11_holds, cX11_holds, 2, (some .int)), (11, false), (11, 1, 0, 0), gco_118_0)
def gco_119_0 : List gIn := [(0, .aload 0, 1, 0, 0),
  (1, .iload 1, 2, 0, 0),
  (2, .invokevirtual 151, 5, 0, 0),
  (5, .ifCond .ne 10, 8, 0, 0),
  (8, .iconst 0, 9, (-1), 0),
  (9, .ireturn, 10, 0, 0),
  (10, .aload 0, 11, 0, 0),
  (11, .invokeinterface 11 0, 14, 0, 0),
  (14, .invokeinterface 9 3, 17, 0, 0),
  (17, .astore 3, 18, 0, 0),
  (18, .aload 0, 19, 0, 0),
  (19, .invokeinterface 11 0, 22, 0, 0),
  (22, .invokeinterface 9 2, 25, 0, 0),
  (25, .astore 4, 27, 0, 0),
  (27, .iload 2, 28, 0, 0),
  (28, .lookupswitch 151 #[(0, 72), (1, 79), (2, 86), (3, 93), (4, 100), (5, 107), (6, 120)], 72, 0, 0),
  (72, .aload 3, 73, 0, 0),
  (73, .invokeinterface 0 0, 76, 0, 0),
  (76, .iload 1, 77, 0, 0),
  (77, .iaload, 78, 0, 0),
  (78, .ireturn, 79, 0, 0),
  (79, .aload 3, 80, 0, 0),
  (80, .invokeinterface 0 1, 83, 0, 0),
  (83, .iload 1, 84, 0, 0),
  (84, .iaload, 85, 0, 0),
  (85, .ireturn, 86, 0, 0),
  (86, .aload 3, 87, 0, 0),
  (87, .invokeinterface 0 2, 90, 0, 0),
  (90, .iload 1, 91, 0, 0),
  (91, .iaload, 92, 0, 0),
  (92, .ireturn, 93, 0, 0),
  (93, .aload 4, 95, 0, 0),
  (95, .iload 1, 96, 0, 0),
  (96, .invokevirtual 105, 99, 0, 0),
  (99, .ireturn, 100, 0, 0),
  (100, .aload 4, 102, 0, 0),
  (102, .iload 1, 103, 0, 0),
  (103, .invokevirtual 106, 106, 0, 0),
  (106, .ireturn, 107, 0, 0),
  (107, .aload 0, 108, 0, 0),
  (108, .invokeinterface 11 6, 111, 0, 0),
  (111, .aload 0, 112, 0, 0),
  (112, .invokeinterface 11 0, 115, 0, 0),
  (115, .iload 1, 116, 0, 0),
  (116, .invokevirtual 40, 119, 0, 0),
  (119, .ireturn, 120, 0, 0),
  (120, .iconst 0, 121, 0, 0),
  (121, .aload 3, 122, 0, 0),
  (122, .invokeinterface 0 1, 125, 0, 0),
  (125, .iload 1, 126, 0, 0),
  (126, .iaload, 127, 0, 0),
  (127, .aload 4, 129, 0, 0),
  (129, .iload 1, 130, 0, 0),
  (130, .invokevirtual 106, 133, 0, 0),
  (133, .aload 0, 134, 0, 0),
  (134, .invokeinterface 11 6, 137, 0, 0),
  (137, .aload 0, 138, 0, 0),
  (138, .invokeinterface 11 0, 141, 0, 0),
  (141, .iload 1, 142, 0, 0),
  (142, .invokevirtual 40, 145, 0, 0)]
def gco_119_1 : List gIn := [(145, .isub, 146, 0, 0),
  (146, .isub, 147, 0, 0),
  (147, .invokedynamic 3, 150, 0, 0),
  (150, .ireturn, 151, 0, 0),
  (151, .iload 2, 152, 0, 0),
  (152, .invokestatic 147, 155, 0, 0),
  (155, .ifCond .eq 171, 158, 0, 0),
  (158, .aload 4, 160, 0, 0),
  (160, .iload 1, 161, 0, 0),
  (161, .iload 2, 162, 0, 0),
  (162, .iconst 0, 164, 10, 0),
  (164, .isub, 165, 0, 0),
  (165, .invokevirtual 107, 168, 0, 0),
  (168, .goto 172, 171, 0, 0),
  (171, .iconst 0, 172, (-1), 0),
  (172, .ireturn, 173, 0, 1)]
def gme_119 : gMe := ((yX11_told, cX11_told, 5, (some .int)), (11, false), (11, 2, 0, 0), gco_119_0 ++ (gco_119_1))
def gco_120_0 : List gIn := [(0, .aload 0, 1, 0, 0),
  (1, .iload 1, 2, 0, 0),
  (2, .invokevirtual 151, 5, 0, 0),
  (5, .ifCond .eq 25, 8, 0, 0),
  (8, .aload 0, 9, 0, 0),
  (9, .iload 2, 10, 0, 0),
  (10, .invokevirtual 150, 13, 0, 0),
  (13, .ifCond .eq 25, 16, 0, 0),
  (16, .iload 3, 17, 0, 0),
  (17, .iconst 0, 19, 60, 0),
  (19, .invokestatic 145, 22, 0, 0),
  (22, .ifCond .ne 27, 25, 0, 0),
  (25, .iconst 0, 26, (-1), 1),
  (26, .ireturn, 27, 0, 0),
  (27, .aload 0, 28, 0, 0),
  (28, .invokeinterface 11 6, 31, 0, 0),
  (31, .aload 0, 32, 0, 0),
  (32, .invokeinterface 11 0, 35, 0, 0),
  (35, .iload 1, 36, 0, 0),
  (36, .iload 2, 37, 0, 0),
  (37, .invokevirtual 35, 40, 0, 0),
  (40, .ifCond .eq 46, 43, 0, 0),
  (43, .iconst 0, 45, (-2), 0),
  (45, .ireturn, 46, 0, 0),
  (46, .aload 0, 47, 0, 0),
  (47, .invokeinterface 11 0, 50, 0, 0),
  (50, .invokeinterface 9 2, 53, 0, 0),
  (53, .iload 1, 54, 0, 0),
  (54, .iload 2, 55, 0, 0),
  (55, .iload 3, 56, 0, 0),
  (56, .invokevirtual 103, 59, 0, 0),
  (59, .ireturn, 60, 0, 0)]
def gme_120 : gMe := ((yX11_drill, cX11_drill, 4, (some .int)), (11, false), (11, 3, 0, 0), gco_120_0)
def gco_121_0 : List gIn := [(0, .aload 0, 1, 0, 0),
  (1, .iload 1, 2, 0, 0),
  (2, .invokevirtual 151, 5, 0, 0),
  (5, .ifCond .eq 32, 8, 0, 0),
  (8, .aload 0, 9, 0, 0),
  (9, .iload 2, 10, 0, 0),
  (10, .invokevirtual 150, 13, 0, 0),
  (13, .ifCond .eq 32, 16, 0, 0),
  (16, .aload 0, 17, 0, 0),
  (17, .invokeinterface 11 6, 20, 0, 0),
  (20, .aload 0, 21, 0, 0),
  (21, .invokeinterface 11 0, 24, 0, 0),
  (24, .iload 1, 25, 0, 0),
  (25, .iload 2, 26, 0, 0),
  (26, .invokevirtual 35, 29, 0, 0),
  (29, .goto 33, 32, 0, 0),
  (32, .iconst 0, 33, (-1), 1),
  (33, .ireturn, 34, 0, 1)]
def gme_121 : gMe := ((yX11_why, cX11_why, 3, (some .int)), (11, false), (11, 2, 0, 0), gco_121_0)
def gco_122_0 : List gIn := [(0, .aload 0, 1, 0, 0),
  (1, .iload 1, 2, 0, 0),
  (2, .invokevirtual 152, 5, 0, 0),
  (5, .ifCond .eq 17, 8, 0, 0),
  (8, .iload 2, 9, 0, 0),
  (9, .iconst 0, 11, 60, 0),
  (11, .invokestatic 145, 14, 0, 0),
  (14, .ifCond .ne 19, 17, 0, 0),
  (17, .iconst 0, 18, (-1), 1),
  (18, .ireturn, 19, 0, 0),
  (19, .aload 0, 20, 0, 0),
  (20, .invokeinterface 11 0, 23, 0, 0),
  (23, .invokeinterface 9 2, 26, 0, 0),
  (26, .invokeinterface 10 3, 29, 0, 0),
  (29, .iload 1, 30, 0, 0),
  (30, .iaload, 31, 0, 0),
  (31, .istore 3, 32, 0, 0),
  (32, .aload 0, 33, 0, 0),
  (33, .invokeinterface 11 0, 36, 0, 0),
  (36, .invokeinterface 9 2, 39, 0, 0),
  (39, .invokeinterface 10 3, 42, 0, 0),
  (42, .iload 1, 43, 0, 0),
  (43, .iload 2, 44, 0, 0),
  (44, .iastore, 45, 0, 0),
  (45, .iload 3, 46, 0, 0),
  (46, .ireturn, 47, 0, 0)]
def gme_122 : gMe := ((yX11_will, cX11_will, 4, (some .int)), (11, false), (11, 2, 0, 0), gco_122_0)
def gco_123_0 : List gIn := [(0, .aload 0, 1, 0, 0),
  (1, .iload 1, 2, 0, 0),
  (2, .invokevirtual 152, 5, 0, 0),
  (5, .ifCond .ne 10, 8, 0, 0),
  (8, .iconst 0, 9, (-1), 0),
  (9, .ireturn, 10, 0, 0),
  (10, .aload 0, 11, 0, 0),
  (11, .invokeinterface 11 0, 14, 0, 0),
  (14, .invokeinterface 9 2, 17, 0, 0),
  (17, .invokeinterface 10 4, 20, 0, 0),
  (20, .iload 1, 21, 0, 0),
  (21, .baload, 22, 0, 0),
  (22, .istore 3, 23, 0, 0),
  (23, .aload 0, 24, 0, 0),
  (24, .invokeinterface 11 0, 27, 0, 0),
  (27, .invokeinterface 9 2, 30, 0, 0),
  (30, .invokeinterface 10 4, 33, 0, 0),
  (33, .iload 1, 34, 0, 0),
  (34, .iload 2, 35, 0, 0),
  (35, .bastore, 36, 0, 0),
  (36, .iload 3, 37, 0, 0),
  (37, .ifCond .eq 44, 40, 0, 0),
  (40, .iconst 0, 41, 1, 0),
  (41, .goto 45, 44, 0, 0),
  (44, .iconst 0, 45, 0, 0),
  (45, .ireturn, 46, 0, 1)]
def gme_123 : gMe := ((yX11_open, cX11_open, 4, (some .int)), (11, false), (11, 2, 0, 0), gco_123_0)
def gco_124_0 : List gIn := [(0, .aload 0, 1, 0, 0),
  (1, .iload 1, 2, 0, 0),
  (2, .invokevirtual 152, 5, 0, 0),
  (5, .ifCond .ne 10, 8, 0, 0),
  (8, .iconst 0, 9, (-1), 0),
  (9, .ireturn, 10, 0, 0),
  (10, .aload 0, 11, 0, 0),
  (11, .invokeinterface 11 0, 14, 0, 0),
  (14, .invokeinterface 9 2, 17, 0, 0),
  (17, .astore 3, 18, 0, 0),
  (18, .iload 2, 19, 0, 0),
  (19, .lookupswitch 123 #[(0, 60), (1, 67), (2, 74), (3, 81), (4, 96), (5, 103), (6, 110)], 60, 0, 0),
  (60, .aload 3, 61, 0, 0),
  (61, .invokeinterface 10 1, 64, 0, 0),
  (64, .iload 1, 65, 0, 0),
  (65, .iaload, 66, 0, 0),
  (66, .ireturn, 67, 0, 0),
  (67, .aload 3, 68, 0, 0),
  (68, .invokeinterface 10 2, 71, 0, 0),
  (71, .iload 1, 72, 0, 0),
  (72, .iaload, 73, 0, 0),
  (73, .ireturn, 74, 0, 0),
  (74, .aload 3, 75, 0, 0),
  (75, .invokeinterface 10 3, 78, 0, 0),
  (78, .iload 1, 79, 0, 0),
  (79, .iaload, 80, 0, 0),
  (80, .ireturn, 81, 0, 0),
  (81, .aload 3, 82, 0, 0),
  (82, .invokeinterface 10 4, 85, 0, 0),
  (85, .iload 1, 86, 0, 0),
  (86, .baload, 87, 0, 0),
  (87, .ifCond .eq 94, 90, 0, 0),
  (90, .iconst 0, 91, 1, 0),
  (91, .goto 95, 94, 0, 0),
  (94, .iconst 0, 95, 0, 0),
  (95, .ireturn, 96, 0, 1),
  (96, .aload 3, 97, 0, 0),
  (97, .invokeinterface 10 5, 100, 0, 0),
  (100, .iload 1, 101, 0, 0),
  (101, .iaload, 102, 0, 0),
  (102, .ireturn, 103, 0, 0),
  (103, .aload 3, 104, 0, 0),
  (104, .invokeinterface 10 6, 107, 0, 0),
  (107, .iload 1, 108, 0, 0),
  (108, .iaload, 109, 0, 0),
  (109, .ireturn, 110, 0, 0),
  (110, .aload 0, 111, 0, 0),
  (111, .invokeinterface 11 6, 114, 0, 0),
  (114, .aload 0, 115, 0, 0),
  (115, .invokeinterface 11 0, 118, 0, 0),
  (118, .iload 1, 119, 0, 0),
  (119, .invokevirtual 39, 122, 0, 0),
  (122, .ireturn, 123, 0, 0),
  (123, .iload 2, 124, 0, 0),
  (124, .invokestatic 147, 127, 0, 0),
  (127, .ifCond .eq 147, 130, 0, 0),
  (130, .aload 3, 131, 0, 0),
  (131, .invokeinterface 10 7, 134, 0, 0),
  (134, .iload 1, 135, 0, 0),
  (135, .iconst 0, 137, 9, 0)]
def gco_124_1 : List gIn := [(137, .imul, 138, 0, 0),
  (138, .iload 2, 139, 0, 0),
  (139, .iadd, 140, 0, 0),
  (140, .iconst 0, 142, 10, 0),
  (142, .isub, 143, 0, 0),
  (143, .iaload, 144, 0, 0),
  (144, .goto 148, 147, 0, 0),
  (147, .iconst 0, 148, (-1), 0),
  (148, .ireturn, 149, 0, 1)]
def gme_124 : gMe := ((yX11_wellOf, cX11_wellOf, 4, (some .int)), (11, false), (11, 2, 0, 0), gco_124_0 ++ (gco_124_1))
def gco_125_0 : List gIn := [(0, .aload 0, 1, 0, 0),
  (1, .iload 1, 2, 0, 0),
  (2, .invokevirtual 152, 5, 0, 0),
  (5, .ifCond .eq 17, 8, 0, 0),
  (8, .iload 2, 9, 0, 0),
  (9, .iconst 0, 11, 49, 0),
  (11, .invokestatic 145, 14, 0, 0),
  (14, .ifCond .ne 19, 17, 0, 0),
  (17, .iconst 0, 18, (-1), 1),
  (18, .ireturn, 19, 0, 0),
  (19, .iload 3, 20, 0, 0),
  (20, .lookupswitch 94 #[(0, 48), (1, 66), (2, 80)], 48, 0, 0),
  (48, .aload 0, 49, 0, 0),
  (49, .invokeinterface 11 0, 52, 0, 0),
  (52, .invokeinterface 9 2, 55, 0, 0),
  (55, .invokeinterface 10 8, 58, 0, 0),
  (58, .iload 1, 59, 0, 0),
  (59, .iconst 0, 61, 50, 0),
  (61, .imul, 62, 0, 0),
  (62, .iload 2, 63, 0, 0),
  (63, .iadd, 64, 0, 0),
  (64, .iaload, 65, 0, 0),
  (65, .ireturn, 66, 0, 0),
  (66, .aload 0, 67, 0, 0),
  (67, .invokeinterface 11 6, 70, 0, 0),
  (70, .aload 0, 71, 0, 0),
  (71, .invokeinterface 11 0, 74, 0, 0),
  (74, .iload 1, 75, 0, 0),
  (75, .iload 2, 76, 0, 0),
  (76, .invokevirtual 37, 79, 0, 0),
  (79, .ireturn, 80, 0, 0),
  (80, .aload 0, 81, 0, 0),
  (81, .invokeinterface 11 6, 84, 0, 0),
  (84, .aload 0, 85, 0, 0),
  (85, .invokeinterface 11 0, 88, 0, 0),
  (88, .iload 1, 89, 0, 0),
  (89, .iload 2, 90, 0, 0),
  (90, .invokevirtual 38, 93, 0, 0),
  (93, .ireturn, 94, 0, 0),
  (94, .iconst 0, 95, (-1), 0),
  (95, .ireturn, 96, 0, 0)]
def gme_125 : gMe := ((yX11_drew, cX11_drew, 4, (some .int)), (11, false), (11, 3, 0, 0), gco_125_0)
def gco_126_0 : List gIn := [(0, .aload 0, 1, 0, 0),
  (1, .iload 1, 2, 0, 0),
  (2, .invokevirtual 151, 5, 0, 0),
  (5, .ifCond .eq 20, 8, 0, 0),
  (8, .iload 2, 9, 0, 0),
  (9, .iconst 0, 10, 1, 0),
  (10, .if_icmp .lt 20, 13, 0, 0),
  (13, .iload 2, 14, 0, 0),
  (14, .iconst 0, 17, 999, 0),
  (17, .if_icmp .le 22, 20, 0, 0),
  (20, .iconst 0, 21, (-1), 1),
  (21, .ireturn, 22, 0, 0),
  (22, .aload 0, 23, 0, 0),
  (23, .invokeinterface 11 0, 26, 0, 0),
  (26, .invokeinterface 9 3, 29, 0, 0),
  (29, .invokeinterface 0 0, 32, 0, 0),
  (32, .iload 1, 33, 0, 0),
  (33, .iaload, 34, 0, 0),
  (34, .iload 2, 35, 0, 0),
  (35, .if_icmp .ge 41, 38, 0, 0),
  (38, .iconst 0, 40, (-2), 0),
  (40, .ireturn, 41, 0, 0),
  (41, .aload 0, 42, 0, 0),
  (42, .invokeinterface 11 0, 45, 0, 0),
  (45, .invokeinterface 9 3, 48, 0, 0),
  (48, .aload 0, 49, 0, 0),
  (49, .invokeinterface 11 0, 52, 0, 0),
  (52, .invokevirtual 91, 55, 0, 0),
  (55, .iload 1, 56, 0, 0),
  (56, .iload 2, 57, 0, 0),
  (57, .invokevirtual 4, 60, 0, 0),
  (60, .ireturn, 61, 0, 0)]
def gme_126 : gMe := ((yX11_sell, cX11_sell, 3, (some .int)), (11, false), (11, 2, 0, 0), gco_126_0)
def gco_127_0 : List gIn := [(0, .iload 1, 1, 0, 0),
  (1, .aload 0, 2, 0, 0),
  (2, .invokeinterface 11 0, 5, 0, 0),
  (5, .invokevirtual 91, 8, 0, 0),
  (8, .invokestatic 145, 11, 0, 0),
  (11, .ifCond .eq 28, 14, 0, 0),
  (14, .aload 0, 15, 0, 0),
  (15, .invokeinterface 11 0, 18, 0, 0),
  (18, .invokeinterface 9 3, 21, 0, 0),
  (21, .iload 1, 22, 0, 0),
  (22, .invokevirtual 3, 25, 0, 0),
  (25, .goto 29, 28, 0, 0),
  (28, .iconst 0, 29, (-1), 0),
  (29, .ireturn, 30, 0, 1)]
def gme_127 : gMe := ((yX11_price, cX11_price, 2, (some .int)), (11, false), (11, 1, 0, 0), gco_127_0)
def gco_128_0 : List gIn := [(0, .aload 0, 1, 0, 0),
  (1, .invokeinterface 11 5, 4, 0, 0),
  (4, .lload 1, 5, 0, 0),
  (5, .invokevirtual 74, 8, 0, 0),
  (8, .ireturn, 9, 0, 0)]
def gme_128 : gMe := ((yX11_feed, cX11_feed, 3, (some .int)), (11, false), (11, 1, 0, 0), gco_128_0)
def gco_129_0 : List gIn := [(0, .iload 1, 1, 0, 0),
  (1, .ifCond .lt 15, 4, 0, 0),
  (4, .iload 1, 5, 0, 0),
  (5, .aload 0, 6, 0, 0),
  (6, .invokeinterface 11 5, 9, 0, 0),
  (9, .invokeinterface 8 0, 12, 0, 0),
  (12, .if_icmp .le 17, 15, 0, 0),
  (15, .iconst 0, 16, (-1), 1),
  (16, .ireturn, 17, 0, 0),
  (17, .aload 0, 18, 0, 0),
  (18, .invokeinterface 11 5, 21, 0, 0),
  (21, .invokeinterface 8 0, 24, 0, 0),
  (24, .istore 2, 25, 0, 0),
  (25, .aload 0, 26, 0, 0),
  (26, .invokeinterface 11 5, 29, 0, 0),
  (29, .iload 1, 30, 0, 0),
  (30, .multianewarray 8 0, 33, 0, 0),
  (33, .iload 2, 34, 0, 0),
  (34, .ireturn, 35, 0, 0)]
def gme_129 : gMe := ((yX11_end, cX11_end, 3, (some .int)), (11, false), (11, 1, 0, 0), gco_129_0)
def gco_130_0 : List gIn := [(0, .aload 0, 1, 0, 0),
  (1, .invokeinterface 11 5, 4, 0, 0),
  (4, .invokevirtual 75, 7, 0, 0),
  (7, .aload 0, 8, 0, 0),
  (8, .invokeinterface 11 5, 11, 0, 0),
  (11, .iconst 0, 12, 0, 0),
  (12, .multianewarray 8 0, 15, 0, 0),
  (15, .aload 0, 16, 0, 0),
  (16, .invokeinterface 11 5, 19, 0, 0),
  (19, .invokeinterface 8 3, 22, 0, 0),
  (22, .ifCond .eq 36, 25, 0, 0),
  (25, .iconst 0, 27, (-10), 0),
  (27, .aload 0, 28, 0, 0),
  (28, .invokeinterface 11 5, 31, 0, 0),
  (31, .invokeinterface 8 4, 34, 0, 0),
  (34, .isub, 35, 0, 0),
  (35, .ireturn, 36, 0, 0),
  (36, .aload 0, 37, 0, 0),
  (37, .invokeinterface 11 6, 40, 0, 0),
  (40, .aload 0, 41, 0, 0),
  (41, .invokeinterface 11 5, 44, 0, 0),
  (44, .invokeinterface 8 2, 47, 0, 0),
  (47, .invokevirtual 28, 50, 0, 0),
  (50, .aload 0, 51, 0, 0),
  (51, .invokeinterface 11 6, 54, 0, 0),
  (54, .invokeinterface 4 0, 57, 0, 0),
  (57, .ireturn, 58, 0, 0)]
def gme_130 : gMe := ((yX11_orders, cX11_orders, 1, (some .int)), (11, false), (11, 0, 0, 0), gco_130_0)
def gco_131_0 : List gIn := [(0, .aload 0, 1, 0, 0),
  (1, .invokeinterface 11 5, 4, 0, 0),
  (4, .invokeinterface 8 3, 7, 0, 0),
  (7, .ireturn, 8, 0, 0)]
def gme_131 : gMe := ((yX11_fault, cX11_fault, 1, (some .int)), (11, false), (11, 0, 0, 0), gco_131_0)
def gco_132_0 : List gIn := [(0, .iload 1, 1, 0, 0),
  (1, .ifCond .lt 15, 4, 0, 0),
  (4, .iload 1, 5, 0, 0),
  (5, .aload 0, 6, 0, 0),
  (6, .invokeinterface 11 6, 9, 0, 0),
  (9, .invokeinterface 4 0, 12, 0, 0),
  (12, .if_icmp .lt 17, 15, 0, 0),
  (15, .iconst 0, 16, (-1), 1),
  (16, .ireturn, 17, 0, 0),
  (17, .iload 2, 18, 0, 0),
  (18, .lookupswitch 96 #[(0, 48), (1, 58), (2, 68), (3, 78)], 48, 0, 0),
  (48, .aload 0, 49, 0, 0),
  (49, .invokeinterface 11 6, 52, 0, 0),
  (52, .invokeinterface 4 1, 55, 0, 0),
  (55, .iload 1, 56, 0, 0),
  (56, .iaload, 57, 0, 0),
  (57, .ireturn, 58, 0, 0),
  (58, .aload 0, 59, 0, 0),
  (59, .invokeinterface 11 6, 62, 0, 0),
  (62, .invokeinterface 4 2, 65, 0, 0),
  (65, .iload 1, 66, 0, 0),
  (66, .iaload, 67, 0, 0),
  (67, .ireturn, 68, 0, 0),
  (68, .aload 0, 69, 0, 0),
  (69, .invokeinterface 11 6, 72, 0, 0),
  (72, .invokeinterface 4 3, 75, 0, 0),
  (75, .iload 1, 76, 0, 0),
  (76, .iaload, 77, 0, 0),
  (77, .ireturn, 78, 0, 0),
  (78, .aload 0, 79, 0, 0),
  (79, .invokeinterface 11 6, 82, 0, 0),
  (82, .invokeinterface 4 4, 85, 0, 0),
  (85, .iload 1, 86, 0, 0),
  (86, .baload, 87, 0, 0),
  (87, .ifCond .eq 94, 90, 0, 0),
  (90, .iconst 0, 91, 1, 0),
  (91, .goto 95, 94, 0, 0),
  (94, .iconst 0, 95, 0, 0),
  (95, .ireturn, 96, 0, 1),
  (96, .iconst 0, 97, (-1), 0),
  (97, .ireturn, 98, 0, 0)]
def gme_132 : gMe := ((yX11_line, cX11_line, 3, (some .int)), (11, false), (11, 2, 0, 0), gco_132_0)
def gco_133_0 : List gIn := [(0, .iload 1, 1, 0, 0),
  (1, .ifCond .lt 15, 4, 0, 0),
  (4, .iload 1, 5, 0, 0),
  (5, .aload 0, 6, 0, 0),
  (6, .invokeinterface 11 6, 9, 0, 0),
  (9, .invokeinterface 4 0, 12, 0, 0),
  (12, .if_icmp .lt 19, 15, 0, 0),
  (15, .iconst 0, 18, (-100000), 1),
  (18, .ireturn, 19, 0, 0),
  (19, .aload 0, 20, 0, 0),
  (20, .invokeinterface 11 6, 23, 0, 0),
  (23, .invokeinterface 4 4, 26, 0, 0),
  (26, .iload 1, 27, 0, 0),
  (27, .baload, 28, 0, 0),
  (28, .ifCond .eq 35, 31, 0, 0),
  (31, .iconst 0, 34, (-100002), 0),
  (34, .ireturn, 35, 0, 0),
  (35, .aload 0, 36, 0, 0),
  (36, .invokeinterface 11 6, 39, 0, 0),
  (39, .aload 0, 40, 0, 0),
  (40, .invokeinterface 11 0, 43, 0, 0),
  (43, .invokevirtual 41, 46, 0, 0),
  (46, .istore 2, 47, 0, 0),
  (47, .aload 0, 48, 0, 0),
  (48, .invokeinterface 11 6, 51, 0, 0),
  (51, .invokeinterface 4 4, 54, 0, 0),
  (54, .iload 1, 55, 0, 0),
  (55, .iconst 0, 56, 1, 0),
  (56, .bastore, 57, 0, 0),
  (57, .iload 2, 58, 0, 0),
  (58, .aload 0, 59, 0, 0),
  (59, .invokeinterface 11 6, 62, 0, 0),
  (62, .aload 0, 63, 0, 0),
  (63, .invokeinterface 11 0, 66, 0, 0),
  (66, .invokevirtual 41, 69, 0, 0),
  (69, .isub, 70, 0, 0),
  (70, .ireturn, 71, 0, 0)]
def gme_133 : gMe := ((yX11_voids, cX11_voids, 3, (some .int)), (11, false), (11, 1, 0, 0), gco_133_0)
def gco_134_0 : List gIn := [(0, .aload 0, 1, 0, 0),
  (1, .iload 1, 2, 0, 0),
  (2, .invokevirtual 151, 5, 0, 0),
  (5, .ifCond .eq 25, 8, 0, 0),
  (8, .aload 0, 9, 0, 0),
  (9, .iload 2, 10, 0, 0),
  (10, .invokevirtual 150, 13, 0, 0),
  (13, .ifCond .eq 25, 16, 0, 0),
  (16, .iload 3, 17, 0, 0),
  (17, .ifCond .eq 27, 20, 0, 0),
  (20, .iload 3, 21, 0, 0),
  (21, .iconst 0, 22, 1, 0),
  (22, .if_icmp .eq 27, 25, 0, 0),
  (25, .iconst 0, 26, (-1), 1),
  (26, .ireturn, 27, 0, 0),
  (27, .aload 0, 28, 0, 4),
  (28, .invokeinterface 11 6, 31, 0, 0),
  (31, .iconst 0, 32, 0, 0),
  (32, .aload 0, 33, 0, 0),
  (33, .invokeinterface 11 0, 36, 0, 0),
  (36, .invokevirtual 91, 39, 0, 0),
  (39, .invokevirtual 33, 42, 0, 0),
  (42, .istore 4, 44, 0, 0),
  (44, .aload 0, 45, 0, 0),
  (45, .invokeinterface 11 6, 48, 0, 0),
  (48, .iconst 0, 49, 1, 0),
  (49, .aload 0, 50, 0, 0),
  (50, .invokeinterface 11 0, 53, 0, 0),
  (53, .invokevirtual 91, 56, 0, 0),
  (56, .invokevirtual 33, 59, 0, 0),
  (59, .istore 5, 61, 0, 0),
  (61, .iconst 0, 63, 9, 0),
  (63, .istore 6, 65, 0, 0),
  (65, .iload 6, 67, 0, 7),
  (67, .ifCond .lt 127, 70, 0, 0),
  (70, .iload 3, 71, 0, 0),
  (71, .ifCond .ne 94, 74, 0, 0),
  (74, .aload 0, 75, 0, 0),
  (75, .invokeinterface 11 6, 78, 0, 0),
  (78, .aload 0, 79, 0, 0),
  (79, .invokeinterface 11 0, 82, 0, 0),
  (82, .iload 1, 83, 0, 0),
  (83, .iload 2, 84, 0, 0),
  (84, .iload 6, 86, 0, 0),
  (86, .iload 5, 88, 0, 0),
  (88, .invokevirtual 36, 91, 0, 0),
  (91, .goto 111, 94, 0, 0),
  (94, .aload 0, 95, 0, 0),
  (95, .invokeinterface 11 6, 98, 0, 0),
  (98, .aload 0, 99, 0, 0),
  (99, .invokeinterface 11 0, 102, 0, 0),
  (102, .iload 1, 103, 0, 0),
  (103, .iload 2, 104, 0, 0),
  (104, .iload 4, 106, 0, 0),
  (106, .iload 6, 108, 0, 0),
  (108, .invokevirtual 36, 111, 0, 0),
  (111, .istore 7, 113, 0, 7),
  (113, .iload 7, 115, 0, 0),
  (115, .ifCond .ne 121, 118, 0, 0),
  (118, .iload 6, 120, 0, 0)]
def gco_134_1 : List gIn := [(120, .ireturn, 121, 0, 0),
  (121, .iinc 6 0, 124, (-1), 0),
  (124, .goto 65, 127, 0, 0),
  (127, .iconst 0, 129, (-4), 0),
  (129, .ireturn, 130, 0, 0)]
def gme_134 : gMe := ((yX11_lets, cX11_lets, 8, (some .int)), (11, false), (11, 3, 0, 0), gco_134_0 ++ (gco_134_1))
def gco_135_0 : List gIn := [(0, .aload 0, 1, 0, 0),
  (1, .iload 1, 2, 0, 0),
  (2, .invokevirtual 151, 5, 0, 0),
  (5, .ifCond .eq 16, 8, 0, 0),
  (8, .aload 0, 9, 0, 0),
  (9, .iload 2, 10, 0, 0),
  (10, .invokevirtual 150, 13, 0, 0),
  (13, .ifCond .ne 19, 16, 0, 0),
  (16, .iconst 0, 18, (-5), 1),
  (18, .ireturn, 19, 0, 0),
  (19, .aload 0, 20, 0, 0),
  (20, .invokeinterface 11 4, 23, 0, 0),
  (23, .iload 1, 24, 0, 0),
  (24, .iaload, 25, 0, 0),
  (25, .istore 3, 26, 0, 0),
  (26, .aload 0, 27, 0, 0),
  (27, .invokeinterface 11 4, 30, 0, 0),
  (30, .iload 1, 31, 0, 0),
  (31, .iload 2, 32, 0, 0),
  (32, .iastore, 33, 0, 0),
  (33, .iload 3, 34, 0, 0),
  (34, .ireturn, 35, 0, 0)]
def gme_135 : gMe := ((yX11_spot, cX11_spot, 4, (some .int)), (11, false), (11, 2, 0, 0), gco_135_0)
def gco_136_0 : List gIn := [(0, .aload 0, 1, 0, 0),
  (1, .iload 1, 2, 0, 0),
  (2, .iload 2, 3, 0, 0),
  (3, .iload 3, 4, 0, 0),
  (4, .iload 4, 6, 0, 0),
  (6, .invokevirtual 153, 9, 0, 0),
  (9, .ifCond .eq 36, 12, 0, 0),
  (12, .iload 5, 14, 0, 0),
  (14, .ifCond .lt 36, 17, 0, 0),
  (17, .iload 5, 19, 0, 0),
  (19, .iconst 0, 20, 1, 0),
  (20, .iload 1, 21, 0, 0),
  (21, .ishl, 22, 0, 0),
  (22, .if_icmp .ge 36, 25, 0, 0),
  (25, .iload 6, 27, 0, 0),
  (27, .ifCond .lt 36, 30, 0, 0),
  (30, .iload 6, 32, 0, 0),
  (32, .iload 1, 33, 0, 0),
  (33, .if_icmp .lt 40, 36, 0, 0),
  (36, .iconst 0, 39, (-100000), 1),
  (39, .ireturn, 40, 0, 0),
  (40, .aload 0, 41, 0, 0),
  (41, .iload 1, 42, 0, 0),
  (42, .invokevirtual 154, 45, 0, 0),
  (45, .ifCond .ne 52, 48, 0, 0),
  (48, .iconst 0, 51, (-100002), 0),
  (51, .ireturn, 52, 0, 0),
  (52, .aload 0, 53, 0, 0),
  (53, .invokeinterface 11 8, 56, 0, 0),
  (56, .iload 1, 57, 0, 0),
  (57, .iload 2, 58, 0, 0),
  (58, .iload 3, 59, 0, 0),
  (59, .iload 4, 61, 0, 0),
  (61, .invokevirtual 56, 64, 0, 0),
  (64, .aload 0, 65, 0, 0),
  (65, .invokeinterface 11 8, 68, 0, 0),
  (68, .aload 0, 69, 0, 0),
  (69, .invokeinterface 11 0, 72, 0, 0),
  (72, .aload 0, 73, 0, 0),
  (73, .invokeinterface 11 4, 76, 0, 0),
  (76, .iload 5, 78, 0, 0),
  (78, .invokevirtual 58, 81, 0, 0),
  (81, .aload 0, 82, 0, 0),
  (82, .invokeinterface 11 8, 85, 0, 0),
  (85, .iload 5, 87, 0, 0),
  (87, .iload 6, 89, 0, 0),
  (89, .invokevirtual 62, 92, 0, 0),
  (92, .ireturn, 93, 0, 0)]
def gme_136 : gMe := ((yX11_gain, cX11_gain, 7, (some .int)), (11, false), (11, 6, 0, 0), gco_136_0)
def gco_137_0 : List gIn := [(0, .aload 0, 1, 0, 0),
  (1, .iload 1, 2, 0, 0),
  (2, .iload 2, 3, 0, 0),
  (3, .iload 3, 4, 0, 0),
  (4, .iload 4, 6, 0, 0),
  (6, .invokevirtual 153, 9, 0, 0),
  (9, .ifCond .eq 23, 12, 0, 0),
  (12, .iload 5, 14, 0, 0),
  (14, .ifCond .lt 23, 17, 0, 0),
  (17, .iload 5, 19, 0, 0),
  (19, .iconst 0, 20, 3, 0),
  (20, .if_icmp .le 25, 23, 0, 0),
  (23, .iconst 0, 24, (-1), 1),
  (24, .ireturn, 25, 0, 0),
  (25, .aload 0, 26, 0, 0),
  (26, .iload 1, 27, 0, 0),
  (27, .invokevirtual 154, 30, 0, 0),
  (30, .ifCond .ne 36, 33, 0, 0),
  (33, .iconst 0, 35, (-2), 0),
  (35, .ireturn, 36, 0, 0),
  (36, .aload 0, 37, 0, 0),
  (37, .invokeinterface 11 8, 40, 0, 0),
  (40, .iload 1, 41, 0, 0),
  (41, .iload 2, 42, 0, 0),
  (42, .iload 3, 43, 0, 0),
  (43, .iload 4, 45, 0, 0),
  (45, .invokevirtual 56, 48, 0, 0),
  (48, .aload 0, 49, 0, 0),
  (49, .invokeinterface 11 8, 52, 0, 0),
  (52, .aload 0, 53, 0, 0),
  (53, .invokeinterface 11 0, 56, 0, 0),
  (56, .aload 0, 57, 0, 0),
  (57, .invokeinterface 11 4, 60, 0, 0),
  (60, .invokevirtual 57, 63, 0, 0),
  (63, .iload 5, 65, 0, 0),
  (65, .lookupswitch 117 #[(0, 92), (1, 100), (2, 108)], 92, 0, 0),
  (92, .aload 0, 93, 0, 0),
  (93, .invokeinterface 11 8, 96, 0, 0),
  (96, .invokevirtual 65, 99, 0, 0),
  (99, .ireturn, 100, 0, 0),
  (100, .aload 0, 101, 0, 0),
  (101, .invokeinterface 11 8, 104, 0, 0),
  (104, .invokevirtual 66, 107, 0, 0),
  (107, .ireturn, 108, 0, 0),
  (108, .aload 0, 109, 0, 0),
  (109, .invokeinterface 11 8, 112, 0, 0),
  (112, .iconst 0, 113, 1, 0),
  (113, .invokevirtual 67, 116, 0, 0),
  (116, .ireturn, 117, 0, 0),
  (117, .aload 0, 118, 0, 0),
  (118, .invokeinterface 11 8, 121, 0, 0),
  (121, .iconst 0, 122, 0, 0),
  (122, .invokevirtual 67, 125, 0, 0),
  (125, .ireturn, 126, 0, 0)]
def gme_137 : gMe := ((yX11_steady, cX11_steady, 6, (some .int)), (11, false), (11, 5, 0, 0), gco_137_0)
def gco_138_0 : List gIn := [(0, .aload 0, 1, 0, 0),
  (1, .iload 1, 2, 0, 0),
  (2, .iload 2, 3, 0, 0),
  (3, .iload 3, 4, 0, 0),
  (4, .iload 4, 6, 0, 0),
  (6, .invokevirtual 153, 9, 0, 0),
  (9, .ifCond .eq 23, 12, 0, 0),
  (12, .iload 5, 14, 0, 0),
  (14, .ifCond .lt 23, 17, 0, 0),
  (17, .iload 5, 19, 0, 0),
  (19, .iload 1, 20, 0, 0),
  (20, .if_icmp .lt 25, 23, 0, 0),
  (23, .iconst 0, 24, (-1), 1),
  (24, .ireturn, 25, 0, 0),
  (25, .aload 0, 26, 0, 0),
  (26, .iload 1, 27, 0, 0),
  (27, .invokevirtual 154, 30, 0, 0),
  (30, .ifCond .ne 36, 33, 0, 0),
  (33, .iconst 0, 35, (-2), 0),
  (35, .ireturn, 36, 0, 0),
  (36, .aload 0, 37, 0, 0),
  (37, .invokeinterface 11 8, 40, 0, 0),
  (40, .iload 1, 41, 0, 0),
  (41, .iload 2, 42, 0, 0),
  (42, .iload 3, 43, 0, 0),
  (43, .iload 4, 45, 0, 0),
  (45, .invokevirtual 56, 48, 0, 0),
  (48, .aload 0, 49, 0, 0),
  (49, .invokeinterface 11 8, 52, 0, 0),
  (52, .aload 0, 53, 0, 0),
  (53, .invokeinterface 11 0, 56, 0, 0),
  (56, .aload 0, 57, 0, 0),
  (57, .invokeinterface 11 4, 60, 0, 0),
  (60, .invokevirtual 57, 63, 0, 0),
  (63, .aload 0, 64, 0, 0),
  (64, .invokeinterface 11 8, 67, 0, 0),
  (67, .iload 5, 69, 0, 0),
  (69, .invokevirtual 68, 72, 0, 0),
  (72, .ireturn, 73, 0, 0)]
def gme_138 : gMe := ((yX11_must, cX11_must, 6, (some .int)), (11, false), (11, 5, 0, 0), gco_138_0)
def gco_139_0 : List gIn := [(0, .aload 0, 1, 0, 0),
  (1, .invokeinterface 11 2, 4, 0, 0),
  (4, .iconst 0, 5, 3, 0),
  (5, .if_icmp .lt 11, 8, 0, 0),
  (8, .iconst 0, 10, (-3), 0),
  (10, .ireturn, 11, 0, 0),
  (11, .new 9, 14, 0, 0),
  (14, .dup, 15, 0, 0),
  (15, .invokespecial 88, 18, 0, 0),
  (18, .astore 1, 19, 0, 0),
  (19, .aload 1, 20, 0, 0),
  (20, .aload 0, 21, 0, 0),
  (21, .invokeinterface 11 0, 24, 0, 0),
  (24, .invokevirtual 90, 27, 0, 0),
  (27, .aload 0, 28, 0, 0),
  (28, .invokeinterface 11 1, 31, 0, 0),
  (31, .aload 0, 32, 0, 0),
  (32, .invokeinterface 11 2, 35, 0, 0),
  (35, .aload 1, 36, 0, 0),
  (36, .aastore, 37, 0, 0),
  (37, .aload 0, 38, 0, 0),
  (38, .dup, 39, 0, 0),
  (39, .invokeinterface 11 2, 42, 0, 0),
  (42, .iconst 0, 43, 1, 0),
  (43, .iadd, 44, 0, 0),
  (44, .multianewarray 11 2, 47, 0, 0),
  (47, .aload 0, 48, 0, 0),
  (48, .invokeinterface 11 2, 51, 0, 0),
  (51, .iconst 0, 52, 1, 0),
  (52, .isub, 53, 0, 0),
  (53, .ireturn, 54, 0, 0)]
def gme_139 : gMe := ((yX11_keep, cX11_keep, 2, (some .int)), (11, false), (11, 0, 31, 1386), gco_139_0)
def gco_140_0 : List gIn := [(0, .iload 1, 1, 0, 0),
  (1, .ifCond .lt 12, 4, 0, 0),
  (4, .iload 1, 5, 0, 0),
  (5, .aload 0, 6, 0, 0),
  (6, .invokeinterface 11 2, 9, 0, 0),
  (9, .if_icmp .lt 14, 12, 0, 0),
  (12, .iconst 0, 13, (-1), 1),
  (13, .ireturn, 14, 0, 0),
  (14, .aload 0, 15, 0, 0),
  (15, .invokeinterface 11 1, 18, 0, 0),
  (18, .iload 1, 19, 0, 0),
  (19, .aaload, 20, 0, 0),
  (20, .astore 2, 21, 0, 0),
  (21, .aload 2, 22, 0, 0),
  (22, .ifnonnull 27, 25, 0, 0),
  (25, .iconst 0, 26, (-1), 0),
  (26, .ireturn, 27, 0, 0),
  (27, .aload 0, 28, 0, 0),
  (28, .invokeinterface 11 0, 31, 0, 0),
  (31, .aload 2, 32, 0, 0),
  (32, .invokevirtual 90, 35, 0, 0),
  (35, .iconst 0, 36, 1, 0),
  (36, .ireturn, 37, 0, 0)]
def gme_140 : gMe := ((yX11_stand, cX11_stand, 3, (some .int)), (11, false), (11, 1, 0, 0), gco_140_0)
def gco_141_0 : List gIn := [(0, .iload 1, 1, 0, 0),
  (1, .invokestatic 148, 4, 0, 0),
  (4, .ifCond .eq 20, 7, 0, 0),
  (7, .iload 2, 8, 0, 0),
  (8, .invokestatic 149, 11, 0, 0),
  (11, .ifCond .eq 20, 14, 0, 0),
  (14, .iload 3, 15, 0, 0),
  (15, .iconst 0, 17, 72, 0),
  (17, .if_icmp .le 22, 20, 0, 0),
  (20, .iconst 0, 21, (-1), 1),
  (21, .ireturn, 22, 0, 0),
  (22, .iload 3, 23, 0, 0),
  (23, .ifCond .ge 29, 26, 0, 0),
  (26, .iconst 0, 28, (-14), 0),
  (28, .ireturn, 29, 0, 0),
  (29, .aload 0, 30, 0, 0),
  (30, .invokeinterface 11 9, 33, 0, 0),
  (33, .iload 1, 34, 0, 0),
  (34, .aaload, 35, 0, 0),
  (35, .iload 2, 36, 0, 0),
  (36, .iload 3, 37, 0, 0),
  (37, .invokevirtual 70, 40, 0, 0),
  (40, .iconst 0, 41, 1, 0),
  (41, .ireturn, 42, 0, 0)]
def gme_141 : gMe := ((yX11_sheet, cX11_sheet, 4, (some .int)), (11, false), (11, 3, 0, 0), gco_141_0)
def gco_142_0 : List gIn := [(0, .iload 1, 1, 0, 0),
  (1, .invokestatic 148, 4, 0, 0),
  (4, .ifCond .ne 9, 7, 0, 0),
  (7, .iconst 0, 8, (-1), 0),
  (8, .ireturn, 9, 0, 0),
  (9, .aload 0, 10, 0, 0),
  (10, .invokeinterface 11 9, 13, 0, 0),
  (13, .iload 1, 14, 0, 0),
  (14, .aaload, 15, 0, 0),
  (15, .astore 4, 17, 0, 0),
  (17, .aload 4, 19, 0, 0),
  (19, .invokeinterface 7 0, 22, 0, 0),
  (22, .iconst 0, 24, (-4), 0),
  (24, .if_icmp .ne 30, 27, 0, 0),
  (27, .iconst 0, 29, (-11), 0),
  (29, .ireturn, 30, 0, 0),
  (30, .iload 2, 31, 0, 0),
  (31, .ifCond .lt 43, 34, 0, 0),
  (34, .iload 2, 35, 0, 0),
  (35, .aload 4, 37, 0, 0),
  (37, .invokeinterface 7 1, 40, 0, 0),
  (40, .if_icmp .lt 46, 43, 0, 0),
  (43, .iconst 0, 45, (-12), 1),
  (45, .ireturn, 46, 0, 0),
  (46, .aload 4, 48, 0, 0),
  (48, .iload 2, 49, 0, 0),
  (49, .iload 3, 50, 0, 0),
  (50, .invokevirtual 71, 53, 0, 0),
  (53, .iconst 0, 54, 1, 0),
  (54, .ireturn, 55, 0, 0)]
def gme_142 : gMe := ((yX11_write, cX11_write, 5, (some .int)), (11, false), (11, 3, 0, 0), gco_142_0)
def gco_143_0 : List gIn := [(0, .iload 1, 1, 0, 0),
  (1, .invokestatic 148, 4, 0, 0),
  (4, .ifCond .eq 14, 7, 0, 0),
  (7, .iload 2, 8, 0, 0),
  (8, .invokestatic 149, 11, 0, 0),
  (11, .ifCond .ne 16, 14, 0, 0),
  (14, .iconst 0, 15, (-1), 1),
  (15, .ireturn, 16, 0, 0),
  (16, .aload 0, 17, 0, 0),
  (17, .invokeinterface 11 9, 20, 0, 0),
  (20, .iload 1, 21, 0, 0),
  (21, .aaload, 22, 0, 0),
  (22, .astore 4, 24, 0, 0),
  (24, .aload 4, 26, 0, 0),
  (26, .invokeinterface 7 0, 29, 0, 0),
  (29, .iconst 0, 31, (-4), 0),
  (31, .if_icmp .ne 37, 34, 0, 0),
  (34, .iconst 0, 36, (-11), 0),
  (36, .ireturn, 37, 0, 0),
  (37, .aload 4, 39, 0, 0),
  (39, .invokeinterface 7 0, 42, 0, 0),
  (42, .iload 2, 43, 0, 0),
  (43, .if_icmp .eq 49, 46, 0, 0),
  (46, .iconst 0, 48, (-13), 0),
  (48, .ireturn, 49, 0, 0),
  (49, .aload 4, 51, 0, 0),
  (51, .iload 3, 52, 0, 0),
  (52, .aload 0, 53, 0, 0),
  (53, .invokeinterface 11 0, 56, 0, 0),
  (56, .invokeinterface 9 0, 59, 0, 0),
  (59, .invokeinterface 3 0, 62, 0, 0),
  (62, .invokeinterface 5 2, 65, 0, 0),
  (65, .invokevirtual 72, 68, 0, 0),
  (68, .istore 5, 70, 0, 0),
  (70, .iload 5, 72, 0, 0),
  (72, .ifCond .lt 82, 75, 0, 0),
  (75, .aload 0, 76, 0, 0),
  (76, .aload 4, 78, 0, 0),
  (78, .iload 3, 79, 0, 0),
  (79, .invokevirtual 155, 82, 0, 0),
  (82, .iload 5, 84, 0, 6),
  (84, .ireturn, 85, 0, 0)]
def gme_143 : gMe := ((yX11_scan, cX11_scan, 6, (some .int)), (11, false), (11, 3, 0, 0), gco_143_0)
def gco_144_0 : List gIn := [(0, .iload 1, 1, 0, 0),
  (1, .lookupswitch 233 #[(0, 72), (1, 86), (2, 100), (3, 114), (4, 119), (5, 130), (6, 141), (7, 149), (8, 157), (9, 168), (10, 179), (11, 191), (12, 196), (13, 204)], 72, 0, 0),
  (72, .aload 0, 73, 0, 0),
  (73, .invokeinterface 11 0, 76, 0, 0),
  (76, .invokeinterface 9 0, 79, 0, 0),
  (79, .invokeinterface 3 0, 82, 0, 0),
  (82, .invokeinterface 5 2, 85, 0, 0),
  (85, .ireturn, 86, 0, 0),
  (86, .aload 0, 87, 0, 0),
  (87, .invokeinterface 11 0, 90, 0, 0),
  (90, .invokeinterface 9 0, 93, 0, 0),
  (93, .invokeinterface 3 0, 96, 0, 0),
  (96, .invokevirtual 52, 99, 0, 0),
  (99, .ireturn, 100, 0, 0),
  (100, .aload 0, 101, 0, 0),
  (101, .invokeinterface 11 0, 104, 0, 0),
  (104, .invokeinterface 9 0, 107, 0, 0),
  (107, .invokeinterface 3 0, 110, 0, 0),
  (110, .invokevirtual 53, 113, 0, 0),
  (113, .ireturn, 114, 0, 0),
  (114, .aload 0, 115, 0, 0),
  (115, .invokeinterface 11 3, 118, 0, 0),
  (118, .ireturn, 119, 0, 0),
  (119, .aload 0, 120, 0, 0),
  (120, .invokeinterface 11 0, 123, 0, 0),
  (123, .invokeinterface 9 1, 126, 0, 0),
  (126, .invokeinterface 2 1, 129, 0, 0),
  (129, .ireturn, 130, 0, 0),
  (130, .aload 0, 131, 0, 0),
  (131, .invokeinterface 11 0, 134, 0, 0),
  (134, .invokeinterface 9 2, 137, 0, 0),
  (137, .invokeinterface 10 0, 140, 0, 0),
  (140, .ireturn, 141, 0, 0),
  (141, .aload 0, 142, 0, 0),
  (142, .invokeinterface 11 6, 145, 0, 0),
  (145, .invokeinterface 4 0, 148, 0, 0),
  (148, .ireturn, 149, 0, 0),
  (149, .aload 0, 150, 0, 0),
  (150, .invokeinterface 11 0, 153, 0, 0),
  (153, .invokeinterface 9 4, 156, 0, 0),
  (156, .ireturn, 157, 0, 0),
  (157, .aload 0, 158, 0, 0),
  (158, .invokeinterface 11 0, 161, 0, 0),
  (161, .invokeinterface 9 3, 164, 0, 0),
  (164, .invokevirtual 5, 167, 0, 0),
  (167, .ireturn, 168, 0, 0),
  (168, .aload 0, 169, 0, 0),
  (169, .invokeinterface 11 0, 172, 0, 0),
  (172, .invokeinterface 9 3, 175, 0, 0),
  (175, .invokevirtual 6, 178, 0, 0),
  (178, .ireturn, 179, 0, 0),
  (179, .aload 0, 180, 0, 0),
  (180, .invokeinterface 11 6, 183, 0, 0),
  (183, .aload 0, 184, 0, 0),
  (184, .invokeinterface 11 0, 187, 0, 0),
  (187, .invokevirtual 41, 190, 0, 0),
  (190, .ireturn, 191, 0, 0),
  (191, .aload 0, 192, 0, 0),
  (192, .invokeinterface 11 2, 195, 0, 0),
  (195, .ireturn, 196, 0, 0)]
def gco_144_1 : List gIn := [(196, .aload 0, 197, 0, 0),
  (197, .invokeinterface 11 5, 200, 0, 0),
  (200, .invokeinterface 8 0, 203, 0, 0),
  (203, .ireturn, 204, 0, 0),
  (204, .aload 0, 205, 0, 0),
  (205, .invokeinterface 11 9, 208, 0, 0),
  (208, .iconst 0, 209, 0, 0),
  (209, .aaload, 210, 0, 0),
  (210, .invokeinterface 7 0, 213, 0, 0),
  (213, .iconst 0, 215, (-4), 0),
  (215, .if_icmp .ne 223, 218, 0, 0),
  (218, .iconst 0, 220, (-4), 0),
  (220, .goto 232, 223, 0, 0),
  (223, .aload 0, 224, 0, 0),
  (224, .invokeinterface 11 9, 227, 0, 0),
  (227, .iconst 0, 228, 0, 0),
  (228, .aaload, 229, 0, 0),
  (229, .invokeinterface 7 1, 232, 0, 0),
  (232, .ireturn, 233, 0, 1),
  (233, .iconst 0, 234, (-1), 0),
  (234, .ireturn, 235, 0, 0)]
def gme_144 : gMe := ((yX11_count, cX11_count, 2, (some .int)), (11, false), (11, 1, 0, 0), gco_144_0 ++ (gco_144_1))
def gco_145_0 : List gIn := [(0, .iload 0, 1, 0, 0),
  (1, .ifCond .lt 13, 4, 0, 0),
  (4, .iload 0, 5, 0, 0),
  (5, .iload 1, 6, 0, 0),
  (6, .if_icmp .gt 13, 9, 0, 0),
  (9, .iconst 0, 10, 1, 0),
  (10, .goto 14, 13, 0, 0),
  (13, .iconst 0, 14, 0, 1),
  (14, .freturn, 15, 0, 1)]
def gme_145 : gMe := ((yX11_within, cX11_within, 2, (some .boolean)), (11, false), (11, 2, 0, 0), gco_145_0)
def gco_146_0 : List gIn := [(0, .iload 0, 1, 0, 0),
  (1, .ifCond .lt 14, 4, 0, 0),
  (4, .iload 0, 5, 0, 0),
  (5, .iconst 0, 7, 8, 0),
  (7, .if_icmp .ge 14, 10, 0, 0),
  (10, .iconst 0, 11, 1, 0),
  (11, .goto 15, 14, 0, 0),
  (14, .iconst 0, 15, 0, 1),
  (15, .freturn, 16, 0, 1)]
def gme_146 : gMe := ((yX11_isLot, cX11_isLot, 1, (some .boolean)), (11, false), (11, 1, 0, 0), gco_146_0)
def gco_147_0 : List gIn := [(0, .iload 0, 1, 0, 0),
  (1, .iconst 0, 3, 10, 0),
  (3, .if_icmp .lt 16, 6, 0, 0),
  (6, .iload 0, 7, 0, 0),
  (7, .iconst 0, 9, 19, 0),
  (9, .if_icmp .ge 16, 12, 0, 0),
  (12, .iconst 0, 13, 1, 0),
  (13, .goto 17, 16, 0, 0),
  (16, .iconst 0, 17, 0, 1),
  (17, .freturn, 18, 0, 1)]
def gme_147 : gMe := ((yX11_isByLot, cX11_isByLot, 1, (some .boolean)), (11, false), (11, 1, 0, 0), gco_147_0)
def gco_148_0 : List gIn := [(0, .iload 0, 1, 0, 0),
  (1, .ifCond .lt 13, 4, 0, 0),
  (4, .iload 0, 5, 0, 0),
  (5, .iconst 0, 6, 4, 0),
  (6, .if_icmp .ge 13, 9, 0, 0),
  (9, .iconst 0, 10, 1, 0),
  (10, .goto 14, 13, 0, 0),
  (13, .iconst 0, 14, 0, 1),
  (14, .freturn, 15, 0, 1)]
def gme_148 : gMe := ((yX11_isSheet, cX11_isSheet, 1, (some .boolean)), (11, false), (11, 1, 0, 0), gco_148_0)
def gco_149_0 : List gIn := [(0, .iload 0, 1, 0, 0),
  (1, .ifCond .lt 13, 4, 0, 0),
  (4, .iload 0, 5, 0, 0),
  (5, .iconst 0, 6, 2, 0),
  (6, .if_icmp .gt 13, 9, 0, 0),
  (9, .iconst 0, 10, 1, 0),
  (10, .goto 14, 13, 0, 0),
  (13, .iconst 0, 14, 0, 1),
  (14, .freturn, 15, 0, 1)]
def gme_149 : gMe := ((yX11_isLane, cX11_isLane, 1, (some .boolean)), (11, false), (11, 1, 0, 0), gco_149_0)
def gco_150_0 : List gIn := [(0, .aload 0, 1, 0, 0),
  (1, .invokeinterface 11 0, 4, 0, 0),
  (4, .invokeinterface 9 0, 7, 0, 0),
  (7, .invokeinterface 3 0, 10, 0, 0),
  (10, .iload 1, 11, 0, 0),
  (11, .invokevirtual 45, 14, 0, 0),
  (14, .freturn, 15, 0, 0)]
def gme_150 : gMe := ((yX11_hasCell, cX11_hasCell, 2, (some .boolean)), (11, false), (11, 1, 0, 0), gco_150_0)
def gco_151_0 : List gIn := [(0, .iload 1, 1, 0, 0),
  (1, .ifCond .lt 16, 4, 0, 0),
  (4, .iload 1, 5, 0, 0),
  (5, .aload 0, 6, 0, 0),
  (6, .invokeinterface 11 3, 9, 0, 0),
  (9, .if_icmp .ge 16, 12, 0, 0),
  (12, .iconst 0, 13, 1, 0),
  (13, .goto 17, 16, 0, 0),
  (16, .iconst 0, 17, 0, 1),
  (17, .freturn, 18, 0, 1)]
def gme_151 : gMe := ((yX11_isPerson, cX11_isPerson, 2, (some .boolean)), (11, false), (11, 1, 0, 0), gco_151_0)
def gco_152_0 : List gIn := [(0, .iload 1, 1, 0, 0),
  (1, .ifCond .lt 22, 4, 0, 0),
  (4, .iload 1, 5, 0, 0),
  (5, .aload 0, 6, 0, 0),
  (6, .invokeinterface 11 0, 9, 0, 0),
  (9, .invokeinterface 9 2, 12, 0, 0),
  (12, .invokeinterface 10 0, 15, 0, 0),
  (15, .if_icmp .ge 22, 18, 0, 0),
  (18, .iconst 0, 19, 1, 0),
  (19, .goto 23, 22, 0, 0),
  (22, .iconst 0, 23, 0, 1),
  (23, .freturn, 24, 0, 1)]
def gme_152 : gMe := ((yX11_isWell, cX11_isWell, 2, (some .boolean)), (11, false), (11, 1, 0, 0), gco_152_0)
def gco_153_0 : List gIn := [(0, .iload 1, 1, 0, 0),
  (1, .iconst 0, 2, 1, 0),
  (2, .if_icmp .lt 54, 5, 0, 0),
  (5, .iload 1, 6, 0, 0),
  (6, .iconst 0, 7, 4, 0),
  (7, .if_icmp .gt 54, 10, 0, 0),
  (10, .iload 1, 11, 0, 0),
  (11, .aload 0, 12, 0, 0),
  (12, .invokeinterface 11 3, 15, 0, 0),
  (15, .if_icmp .gt 54, 18, 0, 0),
  (18, .iload 2, 19, 0, 0),
  (19, .iconst 0, 21, 60, 0),
  (21, .invokestatic 145, 24, 0, 0),
  (24, .ifCond .eq 54, 27, 0, 0),
  (27, .iload 3, 28, 0, 0),
  (28, .iconst 0, 31, 999, 0),
  (31, .invokestatic 145, 34, 0, 0),
  (34, .ifCond .eq 54, 37, 0, 0),
  (37, .iload 4, 39, 0, 0),
  (39, .iconst 0, 40, 1, 0),
  (40, .if_icmp .lt 54, 43, 0, 0),
  (43, .iload 4, 45, 0, 0),
  (45, .iconst 0, 47, 24, 0),
  (47, .if_icmp .gt 54, 50, 0, 0),
  (50, .iconst 0, 51, 1, 0),
  (51, .goto 55, 54, 0, 0),
  (54, .iconst 0, 55, 0, 1),
  (55, .freturn, 56, 0, 1)]
def gme_153 : gMe := ((yX11_isRace, cX11_isRace, 5, (some .boolean)), (11, false), (11, 4, 0, 0), gco_153_0)
def gco_154_0 : List gIn := [(0, .iconst 0, 1, 0, 0),
  (1, .istore 2, 2, 0, 0),
  (2, .iload 2, 3, 0, 3),
  (3, .iload 1, 4, 0, 0),
  (4, .if_icmp .ge 28, 7, 0, 0),
  (7, .aload 0, 8, 0, 0),
  (8, .aload 0, 9, 0, 0),
  (9, .invokeinterface 11 4, 12, 0, 0),
  (12, .iload 2, 13, 0, 0),
  (13, .iaload, 14, 0, 0),
  (14, .invokevirtual 150, 17, 0, 0),
  (17, .ifCond .ne 22, 20, 0, 0),
  (20, .iconst 0, 21, 0, 0),
  (21, .freturn, 22, 0, 0),
  (22, .iinc 2 0, 25, 1, 0),
  (25, .goto 2, 28, 0, 0),
  (28, .iconst 0, 29, 1, 0),
  (29, .freturn, 30, 0, 0)]
def gme_154 : gMe := ((yX11_haveSpots, cX11_haveSpots, 3, (some .boolean)), (11, false), (11, 1, 0, 0), gco_154_0)
def gco_155_0 : List gIn := [(0, .aload 0, 1, 0, 0),
  (1, .invokeinterface 11 0, 4, 0, 0),
  (4, .invokeinterface 9 0, 7, 0, 0),
  (7, .invokeinterface 3 0, 10, 0, 0),
  (10, .invokeinterface 5 2, 13, 0, 0),
  (13, .istore 3, 14, 0, 0),
  (14, .iconst 0, 15, 0, 0),
  (15, .istore 4, 17, 0, 0),
  (17, .iload 4, 19, 0, 5),
  (19, .iload 3, 20, 0, 0),
  (20, .if_icmp .ge 50, 23, 0, 0),
  (23, .aload 0, 24, 0, 0),
  (24, .invokeinterface 11 0, 27, 0, 0),
  (27, .invokeinterface 9 0, 30, 0, 0),
  (30, .iload 4, 32, 0, 0),
  (32, .aload 1, 33, 0, 0),
  (33, .invokeinterface 7 2, 36, 0, 0),
  (36, .iload 2, 37, 0, 0),
  (37, .iload 4, 39, 0, 0),
  (39, .iadd, 40, 0, 0),
  (40, .iaload, 41, 0, 0),
  (41, .invokevirtual 23, 44, 0, 0),
  (44, .iinc 4 0, 47, 1, 0),
  (47, .goto 17, 50, 0, 0),
  (50, .return_, 51, 0, 0)]
def gme_155 : gMe := ((yX11_tellOilFrom, cX11_tellOilFrom, 5, none), (11, false), (11, 2, 0, 0), gco_155_0)
def gco_156_0 : List gIn := [(0, .aload 0, 1, 0, 0),
  (1, .invokespecial 999, 4, 0, 0),
  (4, .aload 0, 5, 0, 0),
  (5, .iconst 0, 6, 3, 0),
  (6, .multianewarray 12 0, 9, 0, 0),
  (9, .aload 0, 10, 0, 0),
  (10, .iconst 0, 11, 3, 0),
  (11, .multianewarray 12 1, 14, 0, 0),
  (14, .aload 0, 15, 0, 0),
  (15, .iconst 0, 17, 36, 0),
  (17, .newarray .int, 19, 0, 0),
  (19, .dup, 20, 0, 0),
  (20, .iconst 0, 21, 0, 0),
  (21, .iconst 0, 22, 5, 0),
  (22, .iastore, 23, 0, 0),
  (23, .dup, 24, 0, 0),
  (24, .iconst 0, 25, 1, 0),
  (25, .iconst 0, 26, 5, 0),
  (26, .iastore, 27, 0, 0),
  (27, .dup, 28, 0, 0),
  (28, .iconst 0, 29, 2, 0),
  (29, .iconst 0, 30, 5, 0),
  (30, .iastore, 31, 0, 0),
  (31, .dup, 32, 0, 0),
  (32, .iconst 0, 33, 3, 0),
  (33, .iconst 0, 34, 5, 0),
  (34, .iastore, 35, 0, 0),
  (35, .dup, 36, 0, 0),
  (36, .iconst 0, 37, 4, 0),
  (37, .iconst 0, 38, 5, 0),
  (38, .iastore, 39, 0, 0),
  (39, .dup, 40, 0, 0),
  (40, .iconst 0, 41, 5, 0),
  (41, .iconst 0, 42, 5, 0),
  (42, .iastore, 43, 0, 0),
  (43, .dup, 44, 0, 0),
  (44, .iconst 0, 46, 6, 0),
  (46, .iconst 0, 47, 5, 0),
  (47, .iastore, 48, 0, 0),
  (48, .dup, 49, 0, 0),
  (49, .iconst 0, 51, 7, 0),
  (51, .iconst 0, 52, 5, 0),
  (52, .iastore, 53, 0, 0),
  (53, .dup, 54, 0, 0),
  (54, .iconst 0, 56, 8, 0),
  (56, .iconst 0, 57, 5, 0),
  (57, .iastore, 58, 0, 0),
  (58, .dup, 59, 0, 0),
  (59, .iconst 0, 61, 9, 0),
  (61, .iconst 0, 62, 5, 0),
  (62, .iastore, 63, 0, 0),
  (63, .dup, 64, 0, 0),
  (64, .iconst 0, 66, 10, 0),
  (66, .iconst 0, 67, 5, 0),
  (67, .iastore, 68, 0, 0),
  (68, .dup, 69, 0, 0),
  (69, .iconst 0, 71, 11, 0),
  (71, .iconst 0, 72, 5, 0),
  (72, .iastore, 73, 0, 0),
  (73, .dup, 74, 0, 0)]
def gco_156_1 : List gIn := [(74, .iconst 0, 76, 12, 0),
  (76, .iconst 0, 77, 5, 0),
  (77, .iastore, 78, 0, 0),
  (78, .dup, 79, 0, 0),
  (79, .iconst 0, 81, 13, 0),
  (81, .iconst 0, 82, 5, 0),
  (82, .iastore, 83, 0, 0),
  (83, .dup, 84, 0, 0),
  (84, .iconst 0, 86, 14, 0),
  (86, .iconst 0, 87, 5, 0),
  (87, .iastore, 88, 0, 0),
  (88, .dup, 89, 0, 0),
  (89, .iconst 0, 91, 15, 0),
  (91, .iconst 0, 92, 5, 0),
  (92, .iastore, 93, 0, 0),
  (93, .dup, 94, 0, 0),
  (94, .iconst 0, 96, 16, 0),
  (96, .iconst 0, 97, 5, 0),
  (97, .iastore, 98, 0, 0),
  (98, .dup, 99, 0, 0),
  (99, .iconst 0, 101, 17, 0),
  (101, .iconst 0, 102, 5, 0),
  (102, .iastore, 103, 0, 0),
  (103, .dup, 104, 0, 0),
  (104, .iconst 0, 106, 18, 0),
  (106, .iconst 0, 107, 5, 0),
  (107, .iastore, 108, 0, 0),
  (108, .dup, 109, 0, 0),
  (109, .iconst 0, 111, 19, 0),
  (111, .iconst 0, 112, 5, 0),
  (112, .iastore, 113, 0, 0),
  (113, .dup, 114, 0, 0),
  (114, .iconst 0, 116, 20, 0),
  (116, .iconst 0, 117, 5, 0),
  (117, .iastore, 118, 0, 0),
  (118, .dup, 119, 0, 0),
  (119, .iconst 0, 121, 21, 0),
  (121, .iconst 0, 122, 5, 0),
  (122, .iastore, 123, 0, 0),
  (123, .dup, 124, 0, 0),
  (124, .iconst 0, 126, 22, 0),
  (126, .iconst 0, 127, 5, 0),
  (127, .iastore, 128, 0, 0),
  (128, .dup, 129, 0, 0),
  (129, .iconst 0, 131, 23, 0),
  (131, .iconst 0, 132, 5, 0),
  (132, .iastore, 133, 0, 0),
  (133, .dup, 134, 0, 0),
  (134, .iconst 0, 136, 24, 0),
  (136, .iconst 0, 137, 5, 0),
  (137, .iastore, 138, 0, 0),
  (138, .dup, 139, 0, 0),
  (139, .iconst 0, 141, 25, 0),
  (141, .iconst 0, 142, 5, 0),
  (142, .iastore, 143, 0, 0),
  (143, .dup, 144, 0, 0),
  (144, .iconst 0, 146, 26, 0),
  (146, .iconst 0, 147, 5, 0),
  (147, .iastore, 148, 0, 0),
  (148, .dup, 149, 0, 0)]
def gco_156_2 : List gIn := [(149, .iconst 0, 151, 27, 0),
  (151, .iconst 0, 152, 5, 0),
  (152, .iastore, 153, 0, 0),
  (153, .dup, 154, 0, 0),
  (154, .iconst 0, 156, 28, 0),
  (156, .iconst 0, 157, 5, 0),
  (157, .iastore, 158, 0, 0),
  (158, .dup, 159, 0, 0),
  (159, .iconst 0, 161, 29, 0),
  (161, .iconst 0, 162, 5, 0),
  (162, .iastore, 163, 0, 0),
  (163, .dup, 164, 0, 0),
  (164, .iconst 0, 166, 30, 0),
  (166, .iconst 0, 167, 5, 0),
  (167, .iastore, 168, 0, 0),
  (168, .dup, 169, 0, 0),
  (169, .iconst 0, 171, 31, 0),
  (171, .iconst 0, 172, 5, 0),
  (172, .iastore, 173, 0, 0),
  (173, .dup, 174, 0, 0),
  (174, .iconst 0, 176, 32, 0),
  (176, .iconst 0, 177, 5, 0),
  (177, .iastore, 178, 0, 0),
  (178, .dup, 179, 0, 0),
  (179, .iconst 0, 181, 33, 0),
  (181, .iconst 0, 182, 5, 0),
  (182, .iastore, 183, 0, 0),
  (183, .dup, 184, 0, 0),
  (184, .iconst 0, 186, 34, 0),
  (186, .iconst 0, 187, 5, 0),
  (187, .iastore, 188, 0, 0),
  (188, .dup, 189, 0, 0),
  (189, .iconst 0, 191, 35, 0),
  (191, .iconst 0, 192, 5, 0),
  (192, .iastore, 193, 0, 0),
  (193, .multianewarray 12 3, 196, 0, 0),
  (196, .aload 0, 197, 0, 0),
  (197, .iconst 0, 199, 36, 0),
  (199, .newarray .int, 201, 0, 0),
  (201, .multianewarray 12 4, 204, 0, 0),
  (204, .aload 0, 205, 0, 0),
  (205, .iconst 0, 207, 36, 0),
  (207, .newarray .int, 209, 0, 0),
  (209, .multianewarray 12 5, 212, 0, 0),
  (212, .aload 0, 213, 0, 0),
  (213, .iconst 0, 215, 36, 0),
  (215, .newarray .int, 217, 0, 0),
  (217, .dup, 218, 0, 0),
  (218, .iconst 0, 219, 0, 0),
  (219, .iconst 0, 221, (-4), 0),
  (221, .iastore, 222, 0, 0),
  (222, .dup, 223, 0, 0),
  (223, .iconst 0, 224, 1, 0),
  (224, .iconst 0, 226, (-4), 0),
  (226, .iastore, 227, 0, 0),
  (227, .dup, 228, 0, 0),
  (228, .iconst 0, 229, 2, 0),
  (229, .iconst 0, 231, (-4), 0),
  (231, .iastore, 232, 0, 0),
  (232, .dup, 233, 0, 0)]
def gco_156_3 : List gIn := [(233, .iconst 0, 234, 3, 0),
  (234, .iconst 0, 236, (-4), 0),
  (236, .iastore, 237, 0, 0),
  (237, .dup, 238, 0, 0),
  (238, .iconst 0, 239, 4, 0),
  (239, .iconst 0, 241, (-4), 0),
  (241, .iastore, 242, 0, 0),
  (242, .dup, 243, 0, 0),
  (243, .iconst 0, 244, 5, 0),
  (244, .iconst 0, 246, (-4), 0),
  (246, .iastore, 247, 0, 0),
  (247, .dup, 248, 0, 0),
  (248, .iconst 0, 250, 6, 0),
  (250, .iconst 0, 252, (-4), 0),
  (252, .iastore, 253, 0, 0),
  (253, .dup, 254, 0, 0),
  (254, .iconst 0, 256, 7, 0),
  (256, .iconst 0, 258, (-4), 0),
  (258, .iastore, 259, 0, 0),
  (259, .dup, 260, 0, 0),
  (260, .iconst 0, 262, 8, 0),
  (262, .iconst 0, 264, (-4), 0),
  (264, .iastore, 265, 0, 0),
  (265, .dup, 266, 0, 0),
  (266, .iconst 0, 268, 9, 0),
  (268, .iconst 0, 270, (-4), 0),
  (270, .iastore, 271, 0, 0),
  (271, .dup, 272, 0, 0),
  (272, .iconst 0, 274, 10, 0),
  (274, .iconst 0, 276, (-4), 0),
  (276, .iastore, 277, 0, 0),
  (277, .dup, 278, 0, 0),
  (278, .iconst 0, 280, 11, 0),
  (280, .iconst 0, 282, (-4), 0),
  (282, .iastore, 283, 0, 0),
  (283, .dup, 284, 0, 0),
  (284, .iconst 0, 286, 12, 0),
  (286, .iconst 0, 288, (-4), 0),
  (288, .iastore, 289, 0, 0),
  (289, .dup, 290, 0, 0),
  (290, .iconst 0, 292, 13, 0),
  (292, .iconst 0, 294, (-4), 0),
  (294, .iastore, 295, 0, 0),
  (295, .dup, 296, 0, 0),
  (296, .iconst 0, 298, 14, 0),
  (298, .iconst 0, 300, (-4), 0),
  (300, .iastore, 301, 0, 0),
  (301, .dup, 302, 0, 0),
  (302, .iconst 0, 304, 15, 0),
  (304, .iconst 0, 306, (-4), 0),
  (306, .iastore, 307, 0, 0),
  (307, .dup, 308, 0, 0),
  (308, .iconst 0, 310, 16, 0),
  (310, .iconst 0, 312, (-4), 0),
  (312, .iastore, 313, 0, 0),
  (313, .dup, 314, 0, 0),
  (314, .iconst 0, 316, 17, 0),
  (316, .iconst 0, 318, (-4), 0),
  (318, .iastore, 319, 0, 0),
  (319, .dup, 320, 0, 0)]
def gco_156_4 : List gIn := [(320, .iconst 0, 322, 18, 0),
  (322, .iconst 0, 324, (-4), 0),
  (324, .iastore, 325, 0, 0),
  (325, .dup, 326, 0, 0),
  (326, .iconst 0, 328, 19, 0),
  (328, .iconst 0, 330, (-4), 0),
  (330, .iastore, 331, 0, 0),
  (331, .dup, 332, 0, 0),
  (332, .iconst 0, 334, 20, 0),
  (334, .iconst 0, 336, (-4), 0),
  (336, .iastore, 337, 0, 0),
  (337, .dup, 338, 0, 0),
  (338, .iconst 0, 340, 21, 0),
  (340, .iconst 0, 342, (-4), 0),
  (342, .iastore, 343, 0, 0),
  (343, .dup, 344, 0, 0),
  (344, .iconst 0, 346, 22, 0),
  (346, .iconst 0, 348, (-4), 0),
  (348, .iastore, 349, 0, 0),
  (349, .dup, 350, 0, 0),
  (350, .iconst 0, 352, 23, 0),
  (352, .iconst 0, 354, (-4), 0),
  (354, .iastore, 355, 0, 0),
  (355, .dup, 356, 0, 0),
  (356, .iconst 0, 358, 24, 0),
  (358, .iconst 0, 360, (-4), 0),
  (360, .iastore, 361, 0, 0),
  (361, .dup, 362, 0, 0),
  (362, .iconst 0, 364, 25, 0),
  (364, .iconst 0, 366, (-4), 0),
  (366, .iastore, 367, 0, 0),
  (367, .dup, 368, 0, 0),
  (368, .iconst 0, 370, 26, 0),
  (370, .iconst 0, 372, (-4), 0),
  (372, .iastore, 373, 0, 0),
  (373, .dup, 374, 0, 0),
  (374, .iconst 0, 376, 27, 0),
  (376, .iconst 0, 378, (-4), 0),
  (378, .iastore, 379, 0, 0),
  (379, .dup, 380, 0, 0),
  (380, .iconst 0, 382, 28, 0),
  (382, .iconst 0, 384, (-4), 0),
  (384, .iastore, 385, 0, 0),
  (385, .dup, 386, 0, 0),
  (386, .iconst 0, 388, 29, 0),
  (388, .iconst 0, 390, (-4), 0),
  (390, .iastore, 391, 0, 0),
  (391, .dup, 392, 0, 0),
  (392, .iconst 0, 394, 30, 0),
  (394, .iconst 0, 396, (-4), 0),
  (396, .iastore, 397, 0, 0),
  (397, .dup, 398, 0, 0),
  (398, .iconst 0, 400, 31, 0),
  (400, .iconst 0, 402, (-4), 0),
  (402, .iastore, 403, 0, 0),
  (403, .dup, 404, 0, 0),
  (404, .iconst 0, 406, 32, 0),
  (406, .iconst 0, 408, (-4), 0),
  (408, .iastore, 409, 0, 0),
  (409, .dup, 410, 0, 0)]
def gco_156_5 : List gIn := [(410, .iconst 0, 412, 33, 0),
  (412, .iconst 0, 414, (-4), 0),
  (414, .iastore, 415, 0, 0),
  (415, .dup, 416, 0, 0),
  (416, .iconst 0, 418, 34, 0),
  (418, .iconst 0, 420, (-4), 0),
  (420, .iastore, 421, 0, 0),
  (421, .dup, 422, 0, 0),
  (422, .iconst 0, 424, 35, 0),
  (424, .iconst 0, 426, (-4), 0),
  (426, .iastore, 427, 0, 0),
  (427, .multianewarray 12 6, 430, 0, 0),
  (430, .aload 0, 431, 0, 0),
  (431, .iconst 0, 434, 324, 0),
  (434, .newarray .int, 436, 0, 0),
  (436, .multianewarray 12 7, 439, 0, 0),
  (439, .aload 0, 440, 0, 0),
  (440, .iconst 0, 442, 8, 0),
  (442, .newarray .int, 444, 0, 0),
  (444, .dup, 445, 0, 0),
  (445, .iconst 0, 446, 0, 0),
  (446, .iconst 0, 448, (-4), 0),
  (448, .iastore, 449, 0, 0),
  (449, .dup, 450, 0, 0),
  (450, .iconst 0, 451, 1, 0),
  (451, .iconst 0, 453, (-4), 0),
  (453, .iastore, 454, 0, 0),
  (454, .dup, 455, 0, 0),
  (455, .iconst 0, 456, 2, 0),
  (456, .iconst 0, 458, (-4), 0),
  (458, .iastore, 459, 0, 0),
  (459, .dup, 460, 0, 0),
  (460, .iconst 0, 461, 3, 0),
  (461, .iconst 0, 463, (-4), 0),
  (463, .iastore, 464, 0, 0),
  (464, .dup, 465, 0, 0),
  (465, .iconst 0, 466, 4, 0),
  (466, .iconst 0, 468, (-4), 0),
  (468, .iastore, 469, 0, 0),
  (469, .dup, 470, 0, 0),
  (470, .iconst 0, 471, 5, 0),
  (471, .iconst 0, 473, (-4), 0),
  (473, .iastore, 474, 0, 0),
  (474, .dup, 475, 0, 0),
  (475, .iconst 0, 477, 6, 0),
  (477, .iconst 0, 479, (-4), 0),
  (479, .iastore, 480, 0, 0),
  (480, .dup, 481, 0, 0),
  (481, .iconst 0, 483, 7, 0),
  (483, .iconst 0, 485, (-4), 0),
  (485, .iastore, 486, 0, 0),
  (486, .multianewarray 12 9, 489, 0, 0),
  (489, .aload 0, 490, 0, 0),
  (490, .iconst 0, 492, 12, 0),
  (492, .newarray .int, 494, 0, 0),
  (494, .multianewarray 12 11, 497, 0, 0),
  (497, .aload 0, 498, 0, 0),
  (498, .iconst 0, 500, 12, 0),
  (500, .newarray .int, 502, 0, 0),
  (502, .multianewarray 12 12, 505, 0, 0)]
def gco_156_6 : List gIn := [(505, .aload 0, 506, 0, 0),
  (506, .iconst 0, 508, 12, 0),
  (508, .newarray .int, 510, 0, 0),
  (510, .multianewarray 12 13, 513, 0, 0),
  (513, .aload 0, 514, 0, 0),
  (514, .iconst 0, 516, 12, 0),
  (516, .newarray .int, 518, 0, 0),
  (518, .multianewarray 12 14, 521, 0, 0),
  (521, .aload 0, 522, 0, 0),
  (522, .iconst 0, 524, 14, 0),
  (524, .newarray .int, 526, 0, 0),
  (526, .multianewarray 12 16, 529, 0, 0),
  (529, .aload 0, 530, 0, 0),
  (530, .iconst 0, 532, 14, 0),
  (532, .newarray .int, 534, 0, 0),
  (534, .multianewarray 12 17, 537, 0, 0),
  (537, .aload 0, 538, 0, 0),
  (538, .iconst 0, 540, 14, 0),
  (540, .newarray .int, 542, 0, 0),
  (542, .multianewarray 12 18, 545, 0, 0),
  (545, .aload 0, 546, 0, 0),
  (546, .iconst 0, 548, 14, 0),
  (548, .newarray .int, 550, 0, 0),
  (550, .multianewarray 12 19, 553, 0, 0),
  (553, .aload 0, 554, 0, 0),
  (554, .iconst 0, 556, 14, 0),
  (556, .newarray .int, 558, 0, 0),
  (558, .multianewarray 12 20, 561, 0, 0),
  (561, .aload 0, 562, 0, 0),
  (562, .iconst 0, 564, 14, 0),
  (564, .newarray .int, 566, 0, 0),
  (566, .multianewarray 12 21, 569, 0, 0),
  (569, .aload 0, 570, 0, 0),
  (570, .iconst 0, 572, 126, 0),
  (572, .newarray .int, 574, 0, 0),
  (574, .multianewarray 12 22, 577, 0, 0),
  (577, .aload 0, 578, 0, 0),
  (578, .iconst 0, 581, 840, 0),
  (581, .newarray .int, 583, 0, 0),
  (583, .multianewarray 12 23, 586, 0, 0),
  (586, .aload 0, 587, 0, 0),
  (587, .iconst 0, 589, 6, 0),
  (589, .newarray .int, 591, 0, 0),
  (591, .multianewarray 12 24, 594, 0, 0),
  (594, .aload 0, 595, 0, 0),
  (595, .iconst 0, 597, 6, 0),
  (597, .newarray .int, 599, 0, 0),
  (599, .multianewarray 12 25, 602, 0, 0),
  (602, .aload 0, 603, 0, 0),
  (603, .iconst 0, 605, 6, 0),
  (605, .newarray .int, 607, 0, 0),
  (607, .multianewarray 12 26, 610, 0, 0),
  (610, .aload 0, 611, 0, 0),
  (611, .iconst 0, 613, 50, 0),
  (613, .newarray .int, 615, 0, 0),
  (615, .multianewarray 12 27, 618, 0, 0),
  (618, .aload 0, 619, 0, 0),
  (619, .iconst 0, 621, 6, 0),
  (621, .newarray .int, 623, 0, 0),
  (623, .dup, 624, 0, 0)]
def gco_156_7 : List gIn := [(624, .iconst 0, 625, 0, 0),
  (625, .iconst 0, 627, (-4), 0),
  (627, .iastore, 628, 0, 0),
  (628, .dup, 629, 0, 0),
  (629, .iconst 0, 630, 1, 0),
  (630, .iconst 0, 632, (-4), 0),
  (632, .iastore, 633, 0, 0),
  (633, .dup, 634, 0, 0),
  (634, .iconst 0, 635, 2, 0),
  (635, .iconst 0, 637, (-4), 0),
  (637, .iastore, 638, 0, 0),
  (638, .dup, 639, 0, 0),
  (639, .iconst 0, 640, 3, 0),
  (640, .iconst 0, 642, (-4), 0),
  (642, .iastore, 643, 0, 0),
  (643, .dup, 644, 0, 0),
  (644, .iconst 0, 645, 4, 0),
  (645, .iconst 0, 647, (-4), 0),
  (647, .iastore, 648, 0, 0),
  (648, .dup, 649, 0, 0),
  (649, .iconst 0, 650, 5, 0),
  (650, .iconst 0, 652, (-4), 0),
  (652, .iastore, 653, 0, 0),
  (653, .multianewarray 12 28, 656, 0, 0),
  (656, .aload 0, 657, 0, 0),
  (657, .iconst 0, 659, 9, 0),
  (659, .newarray .int, 661, 0, 0),
  (661, .multianewarray 12 29, 664, 0, 0),
  (664, .aload 0, 665, 0, 0),
  (665, .iconst 0, 667, 36, 0),
  (667, .newarray .int, 669, 0, 0),
  (669, .multianewarray 12 30, 672, 0, 0),
  (672, .aload 0, 673, 0, 0),
  (673, .iconst 0, 675, 36, 0),
  (675, .newarray .int, 677, 0, 0),
  (677, .multianewarray 12 31, 680, 0, 0),
  (680, .aload 0, 681, 0, 0),
  (681, .iconst 0, 683, 36, 0),
  (683, .newarray .int, 685, 0, 0),
  (685, .multianewarray 12 32, 688, 0, 0),
  (688, .aload 0, 689, 0, 0),
  (689, .iconst 0, 692, 324, 0),
  (692, .newarray .int, 694, 0, 0),
  (694, .multianewarray 12 33, 697, 0, 0),
  (697, .aload 0, 698, 0, 0),
  (698, .iconst 0, 700, 36, 0),
  (700, .newarray .int, 702, 0, 0),
  (702, .multianewarray 12 34, 705, 0, 0),
  (705, .aload 0, 706, 0, 0),
  (706, .iconst 0, 707, 4, 0),
  (707, .newarray .int, 709, 0, 0),
  (709, .multianewarray 12 35, 712, 0, 0),
  (712, .aload 0, 713, 0, 0),
  (713, .iconst 0, 716, 160, 0),
  (716, .newarray .int, 718, 0, 0),
  (718, .multianewarray 12 36, 721, 0, 0),
  (721, .aload 0, 722, 0, 0),
  (722, .iconst 0, 724, 8, 0),
  (724, .newarray .int, 726, 0, 0),
  (726, .dup, 727, 0, 0)]
def gco_156_8 : List gIn := [(727, .iconst 0, 728, 0, 0),
  (728, .iconst 0, 729, 0, 0),
  (729, .iastore, 730, 0, 0),
  (730, .dup, 731, 0, 0),
  (731, .iconst 0, 732, 1, 0),
  (732, .iconst 0, 733, 4, 0),
  (733, .iastore, 734, 0, 0),
  (734, .dup, 735, 0, 0),
  (735, .iconst 0, 736, 2, 0),
  (736, .iconst 0, 738, 9, 0),
  (738, .iastore, 739, 0, 0),
  (739, .dup, 740, 0, 0),
  (740, .iconst 0, 741, 3, 0),
  (741, .iconst 0, 743, 13, 0),
  (743, .iastore, 744, 0, 0),
  (744, .dup, 745, 0, 0),
  (745, .iconst 0, 746, 4, 0),
  (746, .iconst 0, 748, 17, 0),
  (748, .iastore, 749, 0, 0),
  (749, .dup, 750, 0, 0),
  (750, .iconst 0, 751, 5, 0),
  (751, .iconst 0, 753, 21, 0),
  (753, .iastore, 754, 0, 0),
  (754, .dup, 755, 0, 0),
  (755, .iconst 0, 757, 6, 0),
  (757, .iconst 0, 759, 27, 0),
  (759, .iastore, 760, 0, 0),
  (760, .dup, 761, 0, 0),
  (761, .iconst 0, 763, 7, 0),
  (763, .iconst 0, 765, 31, 0),
  (765, .iastore, 766, 0, 0),
  (766, .multianewarray 12 45, 769, 0, 0),
  (769, .aload 0, 770, 0, 0),
  (770, .iconst 0, 772, 31, 0),
  (772, .newarray .int, 774, 0, 0),
  (774, .dup, 775, 0, 0),
  (775, .iconst 0, 776, 0, 0),
  (776, .iconst 0, 778, 110, 0),
  (778, .iastore, 779, 0, 0),
  (779, .dup, 780, 0, 0),
  (780, .iconst 0, 781, 1, 0),
  (781, .iconst 0, 783, 101, 0),
  (783, .iastore, 784, 0, 0),
  (784, .dup, 785, 0, 0),
  (785, .iconst 0, 786, 2, 0),
  (786, .iconst 0, 788, 97, 0),
  (788, .iastore, 789, 0, 0),
  (789, .dup, 790, 0, 0),
  (790, .iconst 0, 791, 3, 0),
  (791, .iconst 0, 793, 114, 0),
  (793, .iastore, 794, 0, 0),
  (794, .dup, 795, 0, 0),
  (795, .iconst 0, 796, 4, 0),
  (796, .iconst 0, 798, 97, 0),
  (798, .iastore, 799, 0, 0),
  (799, .dup, 800, 0, 0),
  (800, .iconst 0, 801, 5, 0),
  (801, .iconst 0, 803, 112, 0),
  (803, .iastore, 804, 0, 0),
  (804, .dup, 805, 0, 0)]
def gco_156_9 : List gIn := [(805, .iconst 0, 807, 6, 0),
  (807, .iconst 0, 809, 97, 0),
  (809, .iastore, 810, 0, 0),
  (810, .dup, 811, 0, 0),
  (811, .iconst 0, 813, 7, 0),
  (813, .iconst 0, 815, 114, 0),
  (815, .iastore, 816, 0, 0),
  (816, .dup, 817, 0, 0),
  (817, .iconst 0, 819, 8, 0),
  (819, .iconst 0, 821, 116, 0),
  (821, .iastore, 822, 0, 0),
  (822, .dup, 823, 0, 0),
  (823, .iconst 0, 825, 9, 0),
  (825, .iconst 0, 827, 101, 0),
  (827, .iastore, 828, 0, 0),
  (828, .dup, 829, 0, 0),
  (829, .iconst 0, 831, 10, 0),
  (831, .iconst 0, 833, 97, 0),
  (833, .iastore, 834, 0, 0),
  (834, .dup, 835, 0, 0),
  (835, .iconst 0, 837, 11, 0),
  (837, .iconst 0, 839, 99, 0),
  (839, .iastore, 840, 0, 0),
  (840, .dup, 841, 0, 0),
  (841, .iconst 0, 843, 12, 0),
  (843, .iconst 0, 845, 104, 0),
  (845, .iastore, 846, 0, 0),
  (846, .dup, 847, 0, 0),
  (847, .iconst 0, 849, 13, 0),
  (849, .iconst 0, 851, 97, 0),
  (851, .iastore, 852, 0, 0),
  (852, .dup, 853, 0, 0),
  (853, .iconst 0, 855, 14, 0),
  (855, .iconst 0, 857, 99, 0),
  (857, .iastore, 858, 0, 0),
  (858, .dup, 859, 0, 0),
  (859, .iconst 0, 861, 15, 0),
  (861, .iconst 0, 863, 114, 0),
  (863, .iastore, 864, 0, 0),
  (864, .dup, 865, 0, 0),
  (865, .iconst 0, 867, 16, 0),
  (867, .iconst 0, 869, 101, 0),
  (869, .iastore, 870, 0, 0),
  (870, .dup, 871, 0, 0),
  (871, .iconst 0, 873, 17, 0),
  (873, .iconst 0, 875, 115, 0),
  (875, .iastore, 876, 0, 0),
  (876, .dup, 877, 0, 0),
  (877, .iconst 0, 879, 18, 0),
  (879, .iconst 0, 881, 104, 0),
  (881, .iastore, 882, 0, 0),
  (882, .dup, 883, 0, 0),
  (883, .iconst 0, 885, 19, 0),
  (885, .iconst 0, 887, 117, 0),
  (887, .iastore, 888, 0, 0),
  (888, .dup, 889, 0, 0),
  (889, .iconst 0, 891, 20, 0),
  (891, .iconst 0, 893, 116, 0),
  (893, .iastore, 894, 0, 0),
  (894, .dup, 895, 0, 0)]
def gco_156_10 : List gIn := [(895, .iconst 0, 897, 21, 0),
  (897, .iconst 0, 899, 101, 0),
  (899, .iastore, 900, 0, 0),
  (900, .dup, 901, 0, 0),
  (901, .iconst 0, 903, 22, 0),
  (903, .iconst 0, 905, 120, 0),
  (905, .iastore, 906, 0, 0),
  (906, .dup, 907, 0, 0),
  (907, .iconst 0, 909, 23, 0),
  (909, .iconst 0, 911, 99, 0),
  (911, .iastore, 912, 0, 0),
  (912, .dup, 913, 0, 0),
  (913, .iconst 0, 915, 24, 0),
  (915, .iconst 0, 917, 101, 0),
  (917, .iastore, 918, 0, 0),
  (918, .dup, 919, 0, 0),
  (919, .iconst 0, 921, 25, 0),
  (921, .iconst 0, 923, 112, 0),
  (923, .iastore, 924, 0, 0),
  (924, .dup, 925, 0, 0),
  (925, .iconst 0, 927, 26, 0),
  (927, .iconst 0, 929, 116, 0),
  (929, .iastore, 930, 0, 0),
  (930, .dup, 931, 0, 0),
  (931, .iconst 0, 933, 27, 0),
  (933, .iconst 0, 935, 102, 0),
  (935, .iastore, 936, 0, 0),
  (936, .dup, 937, 0, 0),
  (937, .iconst 0, 939, 28, 0),
  (939, .iconst 0, 941, 114, 0),
  (941, .iastore, 942, 0, 0),
  (942, .dup, 943, 0, 0),
  (943, .iconst 0, 945, 29, 0),
  (945, .iconst 0, 947, 111, 0),
  (947, .iastore, 948, 0, 0),
  (948, .dup, 949, 0, 0),
  (949, .iconst 0, 951, 30, 0),
  (951, .iconst 0, 953, 109, 0),
  (953, .iastore, 954, 0, 0),
  (954, .multianewarray 12 46, 957, 0, 0),
  (957, .aload 0, 958, 0, 0),
  (958, .iconst 0, 960, 6, 0),
  (960, .newarray .int, 962, 0, 0),
  (962, .dup, 963, 0, 0),
  (963, .iconst 0, 964, 0, 0),
  (964, .iconst 0, 966, 9, 0),
  (966, .iastore, 967, 0, 0),
  (967, .dup, 968, 0, 0),
  (968, .iconst 0, 969, 1, 0),
  (969, .iconst 0, 971, 9, 0),
  (971, .iastore, 972, 0, 0),
  (972, .dup, 973, 0, 0),
  (973, .iconst 0, 974, 2, 0),
  (974, .iconst 0, 977, 999, 0),
  (977, .iastore, 978, 0, 0),
  (978, .dup, 979, 0, 0),
  (979, .iconst 0, 980, 3, 0),
  (980, .iconst 0, 983, 999, 0),
  (983, .iastore, 984, 0, 0),
  (984, .dup, 985, 0, 0)]
def gco_156_11 : List gIn := [(985, .iconst 0, 986, 4, 0),
  (986, .iconst 0, 987, 0, 0),
  (987, .iastore, 988, 0, 0),
  (988, .dup, 989, 0, 0),
  (989, .iconst 0, 990, 5, 0),
  (990, .iconst 0, 991, 5, 0),
  (991, .iastore, 992, 0, 0),
  (992, .multianewarray 12 47, 995, 0, 0),
  (995, .aload 0, 996, 0, 0),
  (996, .iconst 0, 998, 12, 0),
  (998, .newarray .int, 1000, 0, 0),
  (1000, .multianewarray 12 49, 1003, 0, 0),
  (1003, .aload 0, 1004, 0, 0),
  (1004, .iconst 0, 1006, 12, 0),
  (1006, .newarray .int, 1008, 0, 0),
  (1008, .multianewarray 12 50, 1011, 0, 0),
  (1011, .aload 0, 1012, 0, 0),
  (1012, .iconst 0, 1014, 12, 0),
  (1014, .newarray .int, 1016, 0, 0),
  (1016, .multianewarray 12 51, 1019, 0, 0),
  (1019, .aload 0, 1020, 0, 0),
  (1020, .iconst 0, 1022, 12, 0),
  (1022, .newarray .int, 1024, 0, 0),
  (1024, .multianewarray 12 52, 1027, 0, 0),
  (1027, .aload 0, 1028, 0, 0),
  (1028, .iconst 0, 1030, 12, 0),
  (1030, .newarray .int, 1032, 0, 0),
  (1032, .multianewarray 12 54, 1035, 0, 0),
  (1035, .aload 0, 1036, 0, 0),
  (1036, .iconst 0, 1038, 12, 0),
  (1038, .newarray .int, 1040, 0, 0),
  (1040, .multianewarray 12 55, 1043, 0, 0),
  (1043, .aload 0, 1044, 0, 0),
  (1044, .iconst 0, 1046, 12, 0),
  (1046, .newarray .int, 1048, 0, 0),
  (1048, .multianewarray 12 56, 1051, 0, 0),
  (1051, .aload 0, 1052, 0, 0),
  (1052, .iconst 0, 1055, 7200, 0),
  (1055, .newarray .int, 1057, 0, 0),
  (1057, .multianewarray 12 57, 1060, 0, 0),
  (1060, .aload 0, 1061, 0, 0),
  (1061, .iconst 0, 1063, 64, 0),
  (1063, .newarray .int, 1065, 0, 0),
  (1065, .multianewarray 12 61, 1068, 0, 0),
  (1068, .aload 0, 1069, 0, 0),
  (1069, .iconst 0, 1070, 4, 0),
  (1070, .newarray .int, 1072, 0, 0),
  (1072, .dup, 1073, 0, 0),
  (1073, .iconst 0, 1074, 0, 0),
  (1074, .iconst 0, 1076, (-4), 0),
  (1076, .iastore, 1077, 0, 0),
  (1077, .dup, 1078, 0, 0),
  (1078, .iconst 0, 1079, 1, 0),
  (1079, .iconst 0, 1081, (-4), 0),
  (1081, .iastore, 1082, 0, 0),
  (1082, .dup, 1083, 0, 0),
  (1083, .iconst 0, 1084, 2, 0),
  (1084, .iconst 0, 1086, (-4), 0),
  (1086, .iastore, 1087, 0, 0),
  (1087, .dup, 1088, 0, 0)]
def gco_156_12 : List gIn := [(1088, .iconst 0, 1089, 3, 0),
  (1089, .iconst 0, 1091, (-4), 0),
  (1091, .iastore, 1092, 0, 0),
  (1092, .multianewarray 12 62, 1095, 0, 0),
  (1095, .aload 0, 1096, 0, 0),
  (1096, .iconst 0, 1097, 4, 0),
  (1097, .newarray .int, 1099, 0, 0),
  (1099, .multianewarray 12 63, 1102, 0, 0),
  (1102, .aload 0, 1103, 0, 0),
  (1103, .iconst 0, 1106, 288, 0),
  (1106, .newarray .int, 1108, 0, 0),
  (1108, .multianewarray 12 64, 1111, 0, 0),
  (1111, .return_, 1112, 0, 0)]
def gme_156 : gMe := ((yX12_init, cX12_init, 1, none), (12, true), (12, 0, 46, 9978), gco_156_0 ++ (gco_156_1 ++ (gco_156_2 ++ (gco_156_3 ++ (gco_156_4 ++ (gco_156_5 ++ (gco_156_6 ++ (gco_156_7 ++ (gco_156_8 ++ (gco_156_9 ++ (gco_156_10 ++ (gco_156_11 ++ (gco_156_12)))))))))))))
def gco_157_0 : List gIn := [(0, .lload 0, 1, 0, 0),
  (1, .lload 2, 2, 0, 0),
  (2, .lcmp, 3, 0, 0),
  (3, .ifCond .lt 17, 6, 0, 0),
  (6, .lload 0, 7, 0, 0),
  (7, .lload 4, 9, 0, 0),
  (9, .lcmp, 10, 0, 0),
  (10, .ifCond .gt 17, 13, 0, 0),
  (13, .iconst 0, 14, 1, 0),
  (14, .goto 18, 17, 0, 0),
  (17, .iconst 0, 18, 0, 1),
  (18, .freturn, 19, 0, 1)]
def gme_157 : gMe := ((yX12_in, cX12_in, 6, (some .boolean)), (12, false), (12, 3, 0, 0), gco_157_0)
def gco_158_0 : List gIn := [(0, .aload 0, 1, 0, 0),
  (1, .invokeinterface 12 0, 4, 0, 0),
  (4, .aload 0, 5, 0, 0),
  (5, .invokeinterface 12 1, 8, 0, 0),
  (8, .imul, 9, 0, 0),
  (9, .ireturn, 10, 0, 0)]
def gme_158 : gMe := ((yX12_cells, cX12_cells, 1, (some .int)), (12, false), (12, 0, 0, 0), gco_158_0)
def gco_159_0 : List gIn := [(0, .iload 1, 1, 0, 0),
  (1, .i2l, 2, 0, 0),
  (2, .lconst 0, 3, 0, 0),
  (3, .aload 0, 4, 0, 0),
  (4, .invokevirtual 158, 7, 0, 0),
  (7, .iconst 0, 8, 1, 0),
  (8, .isub, 9, 0, 0),
  (9, .i2l, 10, 0, 0),
  (10, .invokestatic 157, 13, 0, 0),
  (13, .freturn, 14, 0, 0)]
def gme_159 : gMe := ((yX12_isCell, cX12_isCell, 2, (some .boolean)), (12, false), (12, 1, 0, 0), gco_159_0)
def gco_160_0 : List gIn := [(0, .iload 0, 1, 0, 0),
  (1, .i2l, 2, 0, 0),
  (2, .lconst 0, 3, 0, 0),
  (3, .lconst 0, 6, 7, 0),
  (6, .invokestatic 157, 9, 0, 0),
  (9, .freturn, 10, 0, 0)]
def gme_160 : gMe := ((yX12_isLot, cX12_isLot, 1, (some .boolean)), (12, false), (12, 1, 0, 0), gco_160_0)
def gco_161_0 : List gIn := [(0, .iload 1, 1, 0, 0),
  (1, .i2l, 2, 0, 0),
  (2, .lconst 0, 3, 0, 0),
  (3, .aload 0, 4, 0, 0),
  (4, .invokeinterface 12 8, 7, 0, 0),
  (7, .iconst 0, 8, 1, 0),
  (8, .isub, 9, 0, 0),
  (9, .i2l, 10, 0, 0),
  (10, .invokestatic 157, 13, 0, 0),
  (13, .freturn, 14, 0, 0)]
def gme_161 : gMe := ((yX12_isPerson, cX12_isPerson, 2, (some .boolean)), (12, false), (12, 1, 0, 0), gco_161_0)
def gco_162_0 : List gIn := [(0, .iload 1, 1, 0, 0),
  (1, .i2l, 2, 0, 0),
  (2, .lconst 0, 3, 0, 0),
  (3, .aload 0, 4, 0, 0),
  (4, .invokeinterface 12 15, 7, 0, 0),
  (7, .iconst 0, 8, 1, 0),
  (8, .isub, 9, 0, 0),
  (9, .i2l, 10, 0, 0),
  (10, .invokestatic 157, 13, 0, 0),
  (13, .freturn, 14, 0, 0)]
def gme_162 : gMe := ((yX12_isWell, cX12_isWell, 2, (some .boolean)), (12, false), (12, 1, 0, 0), gco_162_0)
def gco_163_0 : List gIn := [(0, .aload 0, 1, 0, 0),
  (1, .invokeinterface 12 2, 4, 0, 0),
  (4, .iconst 0, 5, 4, 0),
  (5, .idiv, 6, 0, 0),
  (6, .ireturn, 7, 0, 0)]
def gme_163 : gMe := ((yX12_shift, cX12_shift, 1, (some .int)), (12, false), (12, 0, 0, 0), gco_163_0)
def gco_164_0 : List gIn := [(0, .iload 1, 1, 0, 0),
  (1, .i2l, 2, 0, 0),
  (2, .lconst 0, 3, 1, 0),
  (3, .lconst 0, 6, 6, 0),
  (6, .invokestatic 157, 9, 0, 0),
  (9, .ifCond .eq 24, 12, 0, 0),
  (12, .iload 2, 13, 0, 0),
  (13, .i2l, 14, 0, 0),
  (14, .lconst 0, 15, 1, 0),
  (15, .lconst 0, 18, 6, 0),
  (18, .invokestatic 157, 21, 0, 0),
  (21, .ifCond .ne 26, 24, 0, 0),
  (24, .iconst 0, 25, (-1), 1),
  (25, .ireturn, 26, 0, 0),
  (26, .aload 0, 27, 0, 0),
  (27, .iload 1, 28, 0, 0),
  (28, .multianewarray 12 0, 31, 0, 0),
  (31, .aload 0, 32, 0, 0),
  (32, .iload 2, 33, 0, 0),
  (33, .multianewarray 12 1, 36, 0, 0),
  (36, .aload 0, 37, 0, 0),
  (37, .iconst 0, 38, 0, 0),
  (38, .multianewarray 12 2, 41, 0, 0),
  (41, .aload 0, 42, 0, 0),
  (42, .iconst 0, 43, 0, 0),
  (43, .multianewarray 12 10, 46, 0, 0),
  (46, .aload 0, 47, 0, 0),
  (47, .iconst 0, 48, 0, 0),
  (48, .multianewarray 12 15, 51, 0, 0),
  (51, .iconst 0, 52, 0, 0),
  (52, .istore 3, 53, 0, 0),
  (53, .iload 3, 54, 0, 4),
  (54, .iconst 0, 56, 36, 0),
  (56, .if_icmp .ge 94, 59, 0, 0),
  (59, .aload 0, 60, 0, 0),
  (60, .invokeinterface 12 3, 63, 0, 0),
  (63, .iload 3, 64, 0, 0),
  (64, .iconst 0, 65, 5, 0),
  (65, .iastore, 66, 0, 0),
  (66, .aload 0, 67, 0, 0),
  (67, .invokeinterface 12 4, 70, 0, 0),
  (70, .iload 3, 71, 0, 0),
  (71, .iconst 0, 72, 0, 0),
  (72, .iastore, 73, 0, 0),
  (73, .aload 0, 74, 0, 0),
  (74, .invokeinterface 12 5, 77, 0, 0),
  (77, .iload 3, 78, 0, 0),
  (78, .iconst 0, 79, 0, 0),
  (79, .iastore, 80, 0, 0),
  (80, .aload 0, 81, 0, 0),
  (81, .invokeinterface 12 6, 84, 0, 0),
  (84, .iload 3, 85, 0, 0),
  (85, .iconst 0, 87, (-4), 0),
  (87, .iastore, 88, 0, 0),
  (88, .iinc 3 0, 91, 1, 0),
  (91, .goto 53, 94, 0, 0),
  (94, .iconst 0, 95, 0, 0),
  (95, .istore 3, 96, 0, 0),
  (96, .iload 3, 97, 0, 4),
  (97, .iconst 0, 100, 324, 0)]
def gco_164_1 : List gIn := [(100, .if_icmp .ge 116, 103, 0, 0),
  (103, .aload 0, 104, 0, 0),
  (104, .invokeinterface 12 7, 107, 0, 0),
  (107, .iload 3, 108, 0, 0),
  (108, .iconst 0, 109, 0, 0),
  (109, .iastore, 110, 0, 0),
  (110, .iinc 3 0, 113, 1, 0),
  (113, .goto 96, 116, 0, 0),
  (116, .iconst 0, 117, 0, 0),
  (117, .istore 3, 118, 0, 0),
  (118, .iload 3, 119, 0, 4),
  (119, .iconst 0, 121, 8, 0),
  (121, .if_icmp .ge 138, 124, 0, 0),
  (124, .aload 0, 125, 0, 0),
  (125, .invokeinterface 12 9, 128, 0, 0),
  (128, .iload 3, 129, 0, 0),
  (129, .iconst 0, 131, (-4), 0),
  (131, .iastore, 132, 0, 0),
  (132, .iinc 3 0, 135, 1, 0),
  (135, .goto 118, 138, 0, 0),
  (138, .iconst 0, 139, 0, 0),
  (139, .istore 3, 140, 0, 0),
  (140, .iload 3, 141, 0, 4),
  (141, .iconst 0, 143, 6, 0),
  (143, .if_icmp .ge 173, 146, 0, 0),
  (146, .aload 0, 147, 0, 0),
  (147, .invokeinterface 12 24, 150, 0, 0),
  (150, .iload 3, 151, 0, 0),
  (151, .iconst 0, 152, 0, 0),
  (152, .iastore, 153, 0, 0),
  (153, .aload 0, 154, 0, 0),
  (154, .invokeinterface 12 25, 157, 0, 0),
  (157, .iload 3, 158, 0, 0),
  (158, .iconst 0, 159, 0, 0),
  (159, .iastore, 160, 0, 0),
  (160, .aload 0, 161, 0, 0),
  (161, .invokeinterface 12 26, 164, 0, 0),
  (164, .iload 3, 165, 0, 0),
  (165, .iconst 0, 166, 0, 0),
  (166, .iastore, 167, 0, 0),
  (167, .iinc 3 0, 170, 1, 0),
  (170, .goto 140, 173, 0, 0),
  (173, .iconst 0, 174, 0, 0),
  (174, .istore 3, 175, 0, 0),
  (175, .iload 3, 176, 0, 4),
  (176, .iconst 0, 178, 50, 0),
  (178, .if_icmp .ge 194, 181, 0, 0),
  (181, .aload 0, 182, 0, 0),
  (182, .invokeinterface 12 27, 185, 0, 0),
  (185, .iload 3, 186, 0, 0),
  (186, .iconst 0, 187, 0, 0),
  (187, .iastore, 188, 0, 0),
  (188, .iinc 3 0, 191, 1, 0),
  (191, .goto 175, 194, 0, 0),
  (194, .iconst 0, 195, 1, 0),
  (195, .ireturn, 196, 0, 0)]
def gme_164 : gMe := ((yX12_field, cX12_field, 4, (some .int)), (12, false), (12, 2, 0, 0), gco_164_0 ++ (gco_164_1))
def gco_165_0 : List gIn := [(0, .iconst 0, 1, 0, 0),
  (1, .istore 3, 2, 0, 0),
  (2, .iload 3, 3, 0, 4),
  (3, .iconst 0, 5, 9, 0),
  (5, .if_icmp .ge 26, 8, 0, 0),
  (8, .aload 0, 9, 0, 0),
  (9, .invokeinterface 12 7, 12, 0, 0),
  (12, .iconst 0, 14, 9, 0),
  (14, .iload 1, 15, 0, 0),
  (15, .imul, 16, 0, 0),
  (16, .iload 3, 17, 0, 0),
  (17, .iadd, 18, 0, 0),
  (18, .iconst 0, 19, 0, 0),
  (19, .iastore, 20, 0, 0),
  (20, .iinc 3 0, 23, 1, 0),
  (23, .goto 2, 26, 0, 0),
  (26, .aload 0, 27, 0, 0),
  (27, .invokeinterface 12 7, 30, 0, 0),
  (30, .iconst 0, 32, 9, 0),
  (32, .iload 1, 33, 0, 0),
  (33, .imul, 34, 0, 0),
  (34, .aload 0, 35, 0, 0),
  (35, .invokeinterface 12 6, 38, 0, 0),
  (38, .iload 1, 39, 0, 0),
  (39, .iaload, 40, 0, 0),
  (40, .iconst 0, 42, (-4), 0),
  (42, .if_icmp .ne 50, 45, 0, 0),
  (45, .iconst 0, 47, 8, 0),
  (47, .goto 56, 50, 0, 0),
  (50, .aload 0, 51, 0, 0),
  (51, .invokeinterface 12 6, 54, 0, 0),
  (54, .iload 1, 55, 0, 0),
  (55, .iaload, 56, 0, 0),
  (56, .iadd, 57, 0, 3),
  (57, .iload 2, 58, 0, 0),
  (58, .iastore, 59, 0, 0),
  (59, .return_, 60, 0, 0)]
def gme_165 : gMe := ((yX12_putOil, cX12_putOil, 4, none), (12, false), (12, 2, 0, 0), gco_165_0)
def gco_166_0 : List gIn := [(0, .iconst 0, 1, 0, 0),
  (1, .istore 2, 2, 0, 0),
  (2, .iconst 0, 3, 0, 0),
  (3, .istore 3, 4, 0, 0),
  (4, .iload 3, 5, 0, 4),
  (5, .iconst 0, 7, 9, 0),
  (7, .if_icmp .ge 30, 10, 0, 0),
  (10, .iload 2, 11, 0, 0),
  (11, .aload 0, 12, 0, 0),
  (12, .invokeinterface 12 7, 15, 0, 0),
  (15, .iconst 0, 17, 9, 0),
  (17, .iload 1, 18, 0, 0),
  (18, .imul, 19, 0, 0),
  (19, .iload 3, 20, 0, 0),
  (20, .iadd, 21, 0, 0),
  (21, .iaload, 22, 0, 0),
  (22, .iadd, 23, 0, 0),
  (23, .istore 2, 24, 0, 0),
  (24, .iinc 3 0, 27, 1, 0),
  (27, .goto 4, 30, 0, 0),
  (30, .iload 2, 31, 0, 0),
  (31, .ireturn, 32, 0, 0)]
def gme_166 : gMe := ((yX12_oilOf, cX12_oilOf, 4, (some .int)), (12, false), (12, 1, 0, 0), gco_166_0)
def gco_167_0 : List gIn := [(0, .aload 0, 1, 0, 0),
  (1, .iload 1, 2, 0, 0),
  (2, .invokevirtual 159, 5, 0, 0),
  (5, .ifCond .eq 58, 8, 0, 0),
  (8, .iload 2, 9, 0, 0),
  (9, .i2l, 10, 0, 0),
  (10, .lconst 0, 11, 0, 0),
  (11, .lconst 0, 14, 9, 0),
  (14, .invokestatic 157, 17, 0, 0),
  (17, .ifCond .eq 58, 20, 0, 0),
  (20, .iload 3, 21, 0, 0),
  (21, .i2l, 22, 0, 0),
  (22, .lconst 0, 23, 0, 0),
  (23, .lconst 0, 26, 999, 0),
  (26, .invokestatic 157, 29, 0, 0),
  (29, .ifCond .eq 58, 32, 0, 0),
  (32, .iload 4, 34, 0, 0),
  (34, .i2l, 35, 0, 0),
  (35, .lconst 0, 36, 0, 0),
  (36, .lconst 0, 39, 999, 0),
  (39, .invokestatic 157, 42, 0, 0),
  (42, .ifCond .eq 58, 45, 0, 0),
  (45, .iload 5, 47, 0, 0),
  (47, .i2l, 48, 0, 0),
  (48, .lconst 0, 49, 0, 0),
  (49, .lconst 0, 52, 999, 0),
  (52, .invokestatic 157, 55, 0, 0),
  (55, .ifCond .ne 60, 58, 0, 0),
  (58, .iconst 0, 59, (-1), 1),
  (59, .ireturn, 60, 0, 0),
  (60, .aload 0, 61, 0, 0),
  (61, .invokeinterface 12 3, 64, 0, 0),
  (64, .iload 1, 65, 0, 0),
  (65, .iload 2, 66, 0, 0),
  (66, .iastore, 67, 0, 0),
  (67, .aload 0, 68, 0, 0),
  (68, .invokeinterface 12 4, 71, 0, 0),
  (71, .iload 1, 72, 0, 0),
  (72, .iload 3, 73, 0, 0),
  (73, .iastore, 74, 0, 0),
  (74, .aload 0, 75, 0, 0),
  (75, .invokeinterface 12 5, 78, 0, 0),
  (78, .iload 1, 79, 0, 0),
  (79, .iload 4, 81, 0, 0),
  (81, .iastore, 82, 0, 0),
  (82, .aload 0, 83, 0, 0),
  (83, .iload 1, 84, 0, 0),
  (84, .iload 5, 86, 0, 0),
  (86, .invokevirtual 165, 89, 0, 0),
  (89, .iconst 0, 90, 1, 0),
  (90, .ireturn, 91, 0, 0)]
def gme_167 : gMe := ((yX12_cell, cX12_cell, 6, (some .int)), (12, false), (12, 5, 0, 0), gco_167_0)
def gco_168_0 : List gIn := [(0, .aload 0, 1, 0, 0),
  (1, .iload 1, 2, 0, 0),
  (2, .invokevirtual 159, 5, 0, 0),
  (5, .ifCond .eq 21, 8, 0, 0),
  (8, .iload 2, 9, 0, 0),
  (9, .invokestatic 160, 12, 0, 0),
  (12, .ifCond .ne 23, 15, 0, 0),
  (15, .iload 2, 16, 0, 0),
  (16, .iconst 0, 18, (-4), 0),
  (18, .if_icmp .eq 23, 21, 0, 0),
  (21, .iconst 0, 22, (-1), 1),
  (22, .ireturn, 23, 0, 0),
  (23, .aload 0, 24, 0, 3),
  (24, .invokeinterface 12 6, 27, 0, 0),
  (27, .iload 1, 28, 0, 0),
  (28, .iaload, 29, 0, 0),
  (29, .istore 3, 30, 0, 0),
  (30, .aload 0, 31, 0, 0),
  (31, .invokeinterface 12 6, 34, 0, 0),
  (34, .iload 1, 35, 0, 0),
  (35, .iload 2, 36, 0, 0),
  (36, .iastore, 37, 0, 0),
  (37, .iload 3, 38, 0, 0),
  (38, .ireturn, 39, 0, 0)]
def gme_168 : gMe := ((yX12_lay, cX12_lay, 4, (some .int)), (12, false), (12, 2, 0, 0), gco_168_0)
def gco_169_0 : List gIn := [(0, .aload 0, 1, 0, 0),
  (1, .iload 1, 2, 0, 0),
  (2, .invokevirtual 166, 5, 0, 0),
  (5, .aload 0, 6, 0, 0),
  (6, .invokeinterface 12 5, 9, 0, 0),
  (9, .iload 1, 10, 0, 0),
  (10, .iaload, 11, 0, 0),
  (11, .iadd, 12, 0, 0),
  (12, .aload 0, 13, 0, 0),
  (13, .invokeinterface 12 4, 16, 0, 0),
  (16, .iload 1, 17, 0, 0),
  (17, .iaload, 18, 0, 0),
  (18, .iadd, 19, 0, 0),
  (19, .ireturn, 20, 0, 0)]
def gme_169 : gMe := ((yX12_pushOf, cX12_pushOf, 2, (some .int)), (12, false), (12, 1, 0, 0), gco_169_0)
def gco_170_0 : List gIn := [(0, .aload 0, 1, 0, 0),
  (1, .iload 1, 2, 0, 0),
  (2, .invokevirtual 159, 5, 0, 0),
  (5, .ifCond .ne 10, 8, 0, 0),
  (8, .iconst 0, 9, (-1), 0),
  (9, .ireturn, 10, 0, 0),
  (10, .iload 2, 11, 0, 0),
  (11, .i2l, 12, 0, 0),
  (12, .lconst 0, 15, 10, 0),
  (15, .lconst 0, 18, 18, 0),
  (18, .invokestatic 157, 21, 0, 0),
  (21, .ifCond .eq 39, 24, 0, 0),
  (24, .aload 0, 25, 0, 0),
  (25, .invokeinterface 12 7, 28, 0, 0),
  (28, .iconst 0, 30, 9, 0),
  (30, .iload 1, 31, 0, 0),
  (31, .imul, 32, 0, 0),
  (32, .iload 2, 33, 0, 0),
  (33, .iadd, 34, 0, 0),
  (34, .iconst 0, 36, 10, 0),
  (36, .isub, 37, 0, 0),
  (37, .iaload, 38, 0, 0),
  (38, .ireturn, 39, 0, 0),
  (39, .iload 2, 40, 0, 0),
  (40, .lookupswitch 120 #[(0, 80), (1, 87), (2, 94), (3, 101), (4, 107), (5, 114)], 80, 0, 0),
  (80, .aload 0, 81, 0, 0),
  (81, .invokeinterface 12 3, 84, 0, 0),
  (84, .iload 1, 85, 0, 0),
  (85, .iaload, 86, 0, 0),
  (86, .ireturn, 87, 0, 0),
  (87, .aload 0, 88, 0, 0),
  (88, .invokeinterface 12 4, 91, 0, 0),
  (91, .iload 1, 92, 0, 0),
  (92, .iaload, 93, 0, 0),
  (93, .ireturn, 94, 0, 0),
  (94, .aload 0, 95, 0, 0),
  (95, .invokeinterface 12 5, 98, 0, 0),
  (98, .iload 1, 99, 0, 0),
  (99, .iaload, 100, 0, 0),
  (100, .ireturn, 101, 0, 0),
  (101, .aload 0, 102, 0, 0),
  (102, .iload 1, 103, 0, 0),
  (103, .invokevirtual 166, 106, 0, 0),
  (106, .ireturn, 107, 0, 0),
  (107, .aload 0, 108, 0, 0),
  (108, .invokeinterface 12 6, 111, 0, 0),
  (111, .iload 1, 112, 0, 0),
  (112, .iaload, 113, 0, 0),
  (113, .ireturn, 114, 0, 0),
  (114, .aload 0, 115, 0, 0),
  (115, .iload 1, 116, 0, 0),
  (116, .invokevirtual 169, 119, 0, 0),
  (119, .ireturn, 120, 0, 0),
  (120, .iconst 0, 121, (-1), 0),
  (121, .ireturn, 122, 0, 0)]
def gme_170 : gMe := ((yX12_cellOf, cX12_cellOf, 3, (some .int)), (12, false), (12, 2, 0, 0), gco_170_0)
def gco_171_0 : List gIn := [(0, .aload 0, 1, 0, 0),
  (1, .iload 1, 2, 0, 0),
  (2, .invokevirtual 166, 5, 0, 0),
  (5, .istore 3, 6, 0, 0),
  (6, .iload 2, 7, 0, 0),
  (7, .istore 4, 9, 0, 0),
  (9, .iconst 0, 10, 0, 0),
  (10, .istore 5, 12, 0, 0),
  (12, .iload 5, 14, 0, 6),
  (14, .iconst 0, 16, 9, 0),
  (16, .if_icmp .ge 68, 19, 0, 0),
  (19, .aload 0, 20, 0, 0),
  (20, .invokeinterface 12 29, 23, 0, 0),
  (23, .iload 5, 25, 0, 0),
  (25, .iload 3, 26, 0, 0),
  (26, .ifCond .ne 33, 29, 0, 0),
  (29, .iconst 0, 30, 0, 0),
  (30, .goto 49, 33, 0, 0),
  (33, .iload 2, 34, 0, 0),
  (34, .aload 0, 35, 0, 0),
  (35, .invokeinterface 12 7, 38, 0, 0),
  (38, .iconst 0, 40, 9, 0),
  (40, .iload 1, 41, 0, 0),
  (41, .imul, 42, 0, 0),
  (42, .iload 5, 44, 0, 0),
  (44, .iadd, 45, 0, 0),
  (45, .iaload, 46, 0, 0),
  (46, .imul, 47, 0, 0),
  (47, .iload 3, 48, 0, 0),
  (48, .idiv, 49, 0, 0),
  (49, .iastore, 50, 0, 6),
  (50, .iload 4, 52, 0, 0),
  (52, .aload 0, 53, 0, 0),
  (53, .invokeinterface 12 29, 56, 0, 0),
  (56, .iload 5, 58, 0, 0),
  (58, .iaload, 59, 0, 0),
  (59, .isub, 60, 0, 0),
  (60, .istore 4, 62, 0, 0),
  (62, .iinc 5 0, 65, 1, 0),
  (65, .goto 12, 68, 0, 0),
  (68, .iconst 0, 69, 0, 0),
  (69, .istore 5, 71, 0, 0),
  (71, .iload 5, 73, 0, 6),
  (73, .iconst 0, 75, 9, 0),
  (75, .if_icmp .ge 125, 78, 0, 0),
  (78, .iload 4, 80, 0, 0),
  (80, .ifCond .le 125, 83, 0, 0),
  (83, .aload 0, 84, 0, 0),
  (84, .invokeinterface 12 7, 87, 0, 0),
  (87, .iconst 0, 89, 9, 0),
  (89, .iload 1, 90, 0, 0),
  (90, .imul, 91, 0, 0),
  (91, .iload 5, 93, 0, 0),
  (93, .iadd, 94, 0, 0),
  (94, .iaload, 95, 0, 0),
  (95, .aload 0, 96, 0, 0),
  (96, .invokeinterface 12 29, 99, 0, 0),
  (99, .iload 5, 101, 0, 0),
  (101, .iaload, 102, 0, 0),
  (102, .if_icmp .le 119, 105, 0, 0)]
def gco_171_1 : List gIn := [(105, .aload 0, 106, 0, 0),
  (106, .invokeinterface 12 29, 109, 0, 0),
  (109, .iload 5, 111, 0, 0),
  (111, .dup2, 112, 0, 0),
  (112, .iaload, 113, 0, 0),
  (113, .iconst 0, 114, 1, 0),
  (114, .iadd, 115, 0, 0),
  (115, .iastore, 116, 0, 0),
  (116, .iinc 4 0, 119, (-1), 0),
  (119, .iinc 5 0, 122, 1, 6),
  (122, .goto 71, 125, 0, 0),
  (125, .iconst 0, 126, 0, 2),
  (126, .istore 5, 128, 0, 0),
  (128, .iload 5, 130, 0, 6),
  (130, .iconst 0, 132, 9, 0),
  (132, .if_icmp .ge 163, 135, 0, 0),
  (135, .aload 0, 136, 0, 0),
  (136, .invokeinterface 12 7, 139, 0, 0),
  (139, .iconst 0, 141, 9, 0),
  (141, .iload 1, 142, 0, 0),
  (142, .imul, 143, 0, 0),
  (143, .iload 5, 145, 0, 0),
  (145, .iadd, 146, 0, 0),
  (146, .dup2, 147, 0, 0),
  (147, .iaload, 148, 0, 0),
  (148, .aload 0, 149, 0, 0),
  (149, .invokeinterface 12 29, 152, 0, 0),
  (152, .iload 5, 154, 0, 0),
  (154, .iaload, 155, 0, 0),
  (155, .isub, 156, 0, 0),
  (156, .iastore, 157, 0, 0),
  (157, .iinc 5 0, 160, 1, 0),
  (160, .goto 128, 163, 0, 0),
  (163, .return_, 164, 0, 0)]
def gme_171 : gMe := ((yX12_take, cX12_take, 6, none), (12, false), (12, 2, 0, 0), gco_171_0 ++ (gco_171_1))
def gco_172_0 : List gIn := [(0, .iconst 0, 1, 0, 0),
  (1, .istore 1, 2, 0, 0),
  (2, .iconst 0, 3, 0, 0),
  (3, .istore 2, 4, 0, 0),
  (4, .iload 2, 5, 0, 3),
  (5, .aload 0, 6, 0, 0),
  (6, .invokeinterface 12 15, 9, 0, 0),
  (9, .if_icmp .ge 215, 12, 0, 0),
  (12, .aload 0, 13, 0, 0),
  (13, .invokeinterface 12 17, 16, 0, 0),
  (16, .iload 2, 17, 0, 0),
  (17, .iaload, 18, 0, 0),
  (18, .istore 3, 19, 0, 0),
  (19, .aload 0, 20, 0, 0),
  (20, .iload 3, 21, 0, 0),
  (21, .invokevirtual 166, 24, 0, 0),
  (24, .aload 0, 25, 0, 0),
  (25, .invokeinterface 12 5, 28, 0, 0),
  (28, .iload 3, 29, 0, 0),
  (29, .iaload, 30, 0, 0),
  (30, .iadd, 31, 0, 0),
  (31, .istore 4, 33, 0, 0),
  (33, .aload 0, 34, 0, 0),
  (34, .invokeinterface 12 18, 37, 0, 0),
  (37, .iload 2, 38, 0, 0),
  (38, .iaload, 39, 0, 0),
  (39, .iload 4, 41, 0, 0),
  (41, .if_icmp .ge 53, 44, 0, 0),
  (44, .aload 0, 45, 0, 0),
  (45, .invokeinterface 12 18, 48, 0, 0),
  (48, .iload 2, 49, 0, 0),
  (49, .iaload, 50, 0, 0),
  (50, .goto 55, 53, 0, 0),
  (53, .iload 4, 55, 0, 0),
  (55, .istore 5, 57, 0, 5),
  (57, .aload 0, 58, 0, 0),
  (58, .invokeinterface 12 19, 61, 0, 0),
  (61, .iload 2, 62, 0, 0),
  (62, .iaload, 63, 0, 0),
  (63, .iconst 0, 64, 1, 0),
  (64, .if_icmp .ne 209, 67, 0, 0),
  (67, .iload 5, 69, 0, 0),
  (69, .ifCond .le 209, 72, 0, 0),
  (72, .iload 5, 74, 0, 0),
  (74, .aload 0, 75, 0, 0),
  (75, .iload 3, 76, 0, 0),
  (76, .invokevirtual 166, 79, 0, 0),
  (79, .imul, 80, 0, 0),
  (80, .iload 4, 82, 0, 0),
  (82, .idiv, 83, 0, 0),
  (83, .istore 6, 85, 0, 0),
  (85, .aload 0, 86, 0, 0),
  (86, .iload 3, 87, 0, 0),
  (87, .iload 6, 89, 0, 0),
  (89, .invokevirtual 171, 92, 0, 0),
  (92, .aload 0, 93, 0, 0),
  (93, .invokeinterface 12 5, 96, 0, 0),
  (96, .iload 3, 97, 0, 0),
  (97, .dup2, 98, 0, 0),
  (98, .iaload, 99, 0, 0)]
def gco_172_1 : List gIn := [(99, .iload 5, 101, 0, 0),
  (101, .iload 6, 103, 0, 0),
  (103, .isub, 104, 0, 0),
  (104, .isub, 105, 0, 0),
  (105, .iastore, 106, 0, 0),
  (106, .aload 0, 107, 0, 0),
  (107, .invokeinterface 12 21, 110, 0, 0),
  (110, .iload 2, 111, 0, 0),
  (111, .dup2, 112, 0, 0),
  (112, .iaload, 113, 0, 0),
  (113, .iload 5, 115, 0, 0),
  (115, .iload 6, 117, 0, 0),
  (117, .isub, 118, 0, 0),
  (118, .iadd, 119, 0, 0),
  (119, .iastore, 120, 0, 0),
  (120, .aload 0, 121, 0, 0),
  (121, .invokeinterface 12 20, 124, 0, 0),
  (124, .iload 2, 125, 0, 0),
  (125, .dup2, 126, 0, 0),
  (126, .iaload, 127, 0, 0),
  (127, .iload 6, 129, 0, 0),
  (129, .iadd, 130, 0, 0),
  (130, .iastore, 131, 0, 0),
  (131, .iconst 0, 132, 0, 0),
  (132, .istore 7, 134, 0, 0),
  (134, .iload 7, 136, 0, 8),
  (136, .iconst 0, 138, 9, 0),
  (138, .if_icmp .ge 169, 141, 0, 0),
  (141, .aload 0, 142, 0, 0),
  (142, .invokeinterface 12 22, 145, 0, 0),
  (145, .iconst 0, 147, 9, 0),
  (147, .iload 2, 148, 0, 0),
  (148, .imul, 149, 0, 0),
  (149, .iload 7, 151, 0, 0),
  (151, .iadd, 152, 0, 0),
  (152, .dup2, 153, 0, 0),
  (153, .iaload, 154, 0, 0),
  (154, .aload 0, 155, 0, 0),
  (155, .invokeinterface 12 29, 158, 0, 0),
  (158, .iload 7, 160, 0, 0),
  (160, .iaload, 161, 0, 0),
  (161, .iadd, 162, 0, 0),
  (162, .iastore, 163, 0, 0),
  (163, .iinc 7 0, 166, 1, 0),
  (166, .goto 134, 169, 0, 0),
  (169, .aload 0, 170, 0, 0),
  (170, .invokeinterface 12 23, 173, 0, 0),
  (173, .iconst 0, 175, 60, 0),
  (175, .iload 2, 176, 0, 0),
  (176, .imul, 177, 0, 0),
  (177, .aload 0, 178, 0, 0),
  (178, .invokevirtual 163, 181, 0, 0),
  (181, .iadd, 182, 0, 0),
  (182, .dup2, 183, 0, 0),
  (183, .iaload, 184, 0, 0),
  (184, .iload 6, 186, 0, 0),
  (186, .iadd, 187, 0, 0),
  (187, .iastore, 188, 0, 0),
  (188, .aload 0, 189, 0, 0),
  (189, .invokeinterface 12 24, 192, 0, 0)]
def gco_172_2 : List gIn := [(192, .aload 0, 193, 0, 0),
  (193, .invokeinterface 12 16, 196, 0, 0),
  (196, .iload 2, 197, 0, 0),
  (197, .iaload, 198, 0, 0),
  (198, .dup2, 199, 0, 0),
  (199, .iaload, 200, 0, 0),
  (200, .iload 6, 202, 0, 0),
  (202, .iadd, 203, 0, 0),
  (203, .iastore, 204, 0, 0),
  (204, .iload 1, 205, 0, 0),
  (205, .iload 6, 207, 0, 0),
  (207, .iadd, 208, 0, 0),
  (208, .istore 1, 209, 0, 0),
  (209, .iinc 2 0, 212, 1, 3),
  (212, .goto 4, 215, 0, 0),
  (215, .iload 1, 216, 0, 0),
  (216, .ireturn, 217, 0, 0)]
def gme_172 : gMe := ((yX12_draws, cX12_draws, 8, (some .int)), (12, false), (12, 0, 0, 0), gco_172_0 ++ (gco_172_1 ++ (gco_172_2)))
def gco_173_0 : List gIn := [(0, .iload 1, 1, 0, 0),
  (1, .aload 0, 2, 0, 0),
  (2, .invokeinterface 12 0, 5, 0, 0),
  (5, .irem, 6, 0, 0),
  (6, .iload 2, 7, 0, 0),
  (7, .ifCond .ne 14, 10, 0, 0),
  (10, .iconst 0, 11, (-1), 0),
  (11, .goto 24, 14, 0, 0),
  (14, .iload 2, 15, 0, 0),
  (15, .iconst 0, 16, 1, 0),
  (16, .if_icmp .ne 23, 19, 0, 0),
  (19, .iconst 0, 20, 1, 0),
  (20, .goto 24, 23, 0, 0),
  (23, .iconst 0, 24, 0, 0),
  (24, .iadd, 25, 0, 3),
  (25, .istore 3, 26, 0, 0),
  (26, .iload 1, 27, 0, 0),
  (27, .aload 0, 28, 0, 0),
  (28, .invokeinterface 12 0, 31, 0, 0),
  (31, .idiv, 32, 0, 0),
  (32, .iload 2, 33, 0, 0),
  (33, .iconst 0, 34, 2, 0),
  (34, .if_icmp .ne 41, 37, 0, 0),
  (37, .iconst 0, 38, (-1), 0),
  (38, .goto 51, 41, 0, 0),
  (41, .iload 2, 42, 0, 0),
  (42, .iconst 0, 43, 3, 0),
  (43, .if_icmp .ne 50, 46, 0, 0),
  (46, .iconst 0, 47, 1, 0),
  (47, .goto 51, 50, 0, 0),
  (50, .iconst 0, 51, 0, 0),
  (51, .iadd, 52, 0, 4),
  (52, .istore 4, 54, 0, 0),
  (54, .iload 3, 55, 0, 0),
  (55, .i2l, 56, 0, 0),
  (56, .lconst 0, 57, 0, 0),
  (57, .aload 0, 58, 0, 0),
  (58, .invokeinterface 12 0, 61, 0, 0),
  (61, .iconst 0, 62, 1, 0),
  (62, .isub, 63, 0, 0),
  (63, .i2l, 64, 0, 0),
  (64, .invokestatic 157, 67, 0, 0),
  (67, .ifCond .eq 99, 70, 0, 0),
  (70, .iload 4, 72, 0, 0),
  (72, .i2l, 73, 0, 0),
  (73, .lconst 0, 74, 0, 0),
  (74, .aload 0, 75, 0, 0),
  (75, .invokeinterface 12 1, 78, 0, 0),
  (78, .iconst 0, 79, 1, 0),
  (79, .isub, 80, 0, 0),
  (80, .i2l, 81, 0, 0),
  (81, .invokestatic 157, 84, 0, 0),
  (84, .ifCond .eq 99, 87, 0, 0),
  (87, .aload 0, 88, 0, 0),
  (88, .invokeinterface 12 0, 91, 0, 0),
  (91, .iload 4, 93, 0, 0),
  (93, .imul, 94, 0, 0),
  (94, .iload 3, 95, 0, 0),
  (95, .iadd, 96, 0, 0),
  (96, .goto 101, 99, 0, 0)]
def gco_173_1 : List gIn := [(99, .iconst 0, 101, (-4), 1),
  (101, .ireturn, 102, 0, 1)]
def gme_173 : gMe := ((yX12_beside, cX12_beside, 5, (some .int)), (12, false), (12, 2, 0, 0), gco_173_0 ++ (gco_173_1))
def gco_174_0 : List gIn := [(0, .aload 0, 1, 0, 0),
  (1, .iload 1, 2, 0, 0),
  (2, .iload 2, 3, 0, 0),
  (3, .invokevirtual 173, 6, 0, 0),
  (6, .istore 3, 7, 0, 0),
  (7, .iload 3, 8, 0, 0),
  (8, .iconst 0, 10, (-4), 0),
  (10, .if_icmp .eq 28, 13, 0, 0),
  (13, .aload 0, 14, 0, 0),
  (14, .invokeinterface 12 30, 17, 0, 0),
  (17, .iload 3, 18, 0, 0),
  (18, .iaload, 19, 0, 0),
  (19, .aload 0, 20, 0, 0),
  (20, .invokeinterface 12 30, 23, 0, 0),
  (23, .iload 1, 24, 0, 0),
  (24, .iaload, 25, 0, 0),
  (25, .if_icmp .lt 30, 28, 0, 0),
  (28, .iconst 0, 29, 0, 1),
  (29, .ireturn, 30, 0, 0),
  (30, .aload 0, 31, 0, 0),
  (31, .invokeinterface 12 3, 34, 0, 0),
  (34, .iload 1, 35, 0, 0),
  (35, .iaload, 36, 0, 0),
  (36, .aload 0, 37, 0, 0),
  (37, .invokeinterface 12 3, 40, 0, 0),
  (40, .iload 3, 41, 0, 0),
  (41, .iaload, 42, 0, 0),
  (42, .if_icmp .ge 54, 45, 0, 0),
  (45, .aload 0, 46, 0, 0),
  (46, .invokeinterface 12 3, 49, 0, 0),
  (49, .iload 1, 50, 0, 0),
  (50, .iaload, 51, 0, 0),
  (51, .goto 60, 54, 0, 0),
  (54, .aload 0, 55, 0, 0),
  (55, .invokeinterface 12 3, 58, 0, 0),
  (58, .iload 3, 59, 0, 0),
  (59, .iaload, 60, 0, 0),
  (60, .istore 4, 62, 0, 4),
  (62, .aload 0, 63, 0, 0),
  (63, .invokeinterface 12 30, 66, 0, 0),
  (66, .iload 1, 67, 0, 0),
  (67, .iaload, 68, 0, 0),
  (68, .aload 0, 69, 0, 0),
  (69, .invokeinterface 12 30, 72, 0, 0),
  (72, .iload 3, 73, 0, 0),
  (73, .iaload, 74, 0, 0),
  (74, .isub, 75, 0, 0),
  (75, .iload 4, 77, 0, 0),
  (77, .imul, 78, 0, 0),
  (78, .iconst 0, 80, 40, 0),
  (80, .idiv, 81, 0, 0),
  (81, .ireturn, 82, 0, 0)]
def gme_174 : gMe := ((yX12_wantOf, cX12_wantOf, 5, (some .int)), (12, false), (12, 2, 0, 0), gco_174_0)
def gco_175_0 : List gIn := [(0, .aload 0, 1, 0, 0),
  (1, .invokeinterface 12 31, 4, 0, 0),
  (4, .iload 1, 5, 0, 0),
  (5, .iaload, 6, 0, 0),
  (6, .aload 0, 7, 0, 0),
  (7, .invokeinterface 12 32, 10, 0, 0),
  (10, .iload 1, 11, 0, 0),
  (11, .iaload, 12, 0, 0),
  (12, .iadd, 13, 0, 0),
  (13, .istore 2, 14, 0, 0),
  (14, .iconst 0, 15, 0, 0),
  (15, .istore 3, 16, 0, 0),
  (16, .iconst 0, 17, 0, 0),
  (17, .istore 4, 19, 0, 0),
  (19, .iload 4, 21, 0, 5),
  (21, .iconst 0, 22, 4, 0),
  (22, .if_icmp .ge 55, 25, 0, 0),
  (25, .aload 0, 26, 0, 0),
  (26, .invokeinterface 12 35, 29, 0, 0),
  (29, .iload 4, 31, 0, 0),
  (31, .aload 0, 32, 0, 0),
  (32, .iload 1, 33, 0, 0),
  (33, .iload 4, 35, 0, 0),
  (35, .invokevirtual 174, 38, 0, 0),
  (38, .iastore, 39, 0, 0),
  (39, .iload 3, 40, 0, 0),
  (40, .aload 0, 41, 0, 0),
  (41, .invokeinterface 12 35, 44, 0, 0),
  (44, .iload 4, 46, 0, 0),
  (46, .iaload, 47, 0, 0),
  (47, .iadd, 48, 0, 0),
  (48, .istore 3, 49, 0, 0),
  (49, .iinc 4 0, 52, 1, 0),
  (52, .goto 19, 55, 0, 0),
  (55, .iconst 0, 56, 0, 0),
  (56, .istore 4, 58, 0, 0),
  (58, .iload 4, 60, 0, 5),
  (60, .iconst 0, 61, 4, 0),
  (61, .if_icmp .ge 207, 64, 0, 0),
  (64, .iload 3, 65, 0, 0),
  (65, .iload 2, 66, 0, 0),
  (66, .if_icmp .le 83, 69, 0, 0),
  (69, .aload 0, 70, 0, 0),
  (70, .invokeinterface 12 35, 73, 0, 0),
  (73, .iload 4, 75, 0, 0),
  (75, .iaload, 76, 0, 0),
  (76, .iload 2, 77, 0, 0),
  (77, .imul, 78, 0, 0),
  (78, .iload 3, 79, 0, 0),
  (79, .idiv, 80, 0, 0),
  (80, .goto 90, 83, 0, 0),
  (83, .aload 0, 84, 0, 0),
  (84, .invokeinterface 12 35, 87, 0, 0),
  (87, .iload 4, 89, 0, 0),
  (89, .iaload, 90, 0, 0),
  (90, .istore 5, 92, 0, 5),
  (92, .iload 5, 94, 0, 0),
  (94, .ifCond .le 201, 97, 0, 0),
  (97, .iload 2, 98, 0, 0),
  (98, .ifCond .le 201, 101, 0, 0)]
def gco_175_1 : List gIn := [(101, .aload 0, 102, 0, 0),
  (102, .iload 1, 103, 0, 0),
  (103, .iload 4, 105, 0, 0),
  (105, .invokevirtual 173, 108, 0, 0),
  (108, .istore 6, 110, 0, 0),
  (110, .iload 5, 112, 0, 0),
  (112, .aload 0, 113, 0, 0),
  (113, .invokeinterface 12 32, 116, 0, 0),
  (116, .iload 1, 117, 0, 0),
  (117, .iaload, 118, 0, 0),
  (118, .imul, 119, 0, 0),
  (119, .iload 2, 120, 0, 0),
  (120, .idiv, 121, 0, 0),
  (121, .istore 7, 123, 0, 0),
  (123, .aload 0, 124, 0, 0),
  (124, .iload 1, 125, 0, 0),
  (125, .iload 5, 127, 0, 0),
  (127, .aload 0, 128, 0, 0),
  (128, .invokeinterface 12 31, 131, 0, 0),
  (131, .iload 1, 132, 0, 0),
  (132, .iaload, 133, 0, 0),
  (133, .imul, 134, 0, 0),
  (134, .iload 2, 135, 0, 0),
  (135, .idiv, 136, 0, 0),
  (136, .invokevirtual 171, 139, 0, 0),
  (139, .iconst 0, 140, 0, 0),
  (140, .istore 8, 142, 0, 0),
  (142, .iload 8, 144, 0, 9),
  (144, .iconst 0, 146, 9, 0),
  (146, .if_icmp .ge 178, 149, 0, 0),
  (149, .aload 0, 150, 0, 0),
  (150, .invokeinterface 12 33, 153, 0, 0),
  (153, .iconst 0, 155, 9, 0),
  (155, .iload 6, 157, 0, 0),
  (157, .imul, 158, 0, 0),
  (158, .iload 8, 160, 0, 0),
  (160, .iadd, 161, 0, 0),
  (161, .dup2, 162, 0, 0),
  (162, .iaload, 163, 0, 0),
  (163, .aload 0, 164, 0, 0),
  (164, .invokeinterface 12 29, 167, 0, 0),
  (167, .iload 8, 169, 0, 0),
  (169, .iaload, 170, 0, 0),
  (170, .iadd, 171, 0, 0),
  (171, .iastore, 172, 0, 0),
  (172, .iinc 8 0, 175, 1, 0),
  (175, .goto 142, 178, 0, 0),
  (178, .aload 0, 179, 0, 0),
  (179, .invokeinterface 12 5, 182, 0, 0),
  (182, .iload 1, 183, 0, 0),
  (183, .dup2, 184, 0, 0),
  (184, .iaload, 185, 0, 0),
  (185, .iload 7, 187, 0, 0),
  (187, .isub, 188, 0, 0),
  (188, .iastore, 189, 0, 0),
  (189, .aload 0, 190, 0, 0),
  (190, .invokeinterface 12 34, 193, 0, 0),
  (193, .iload 6, 195, 0, 0),
  (195, .dup2, 196, 0, 0),
  (196, .iaload, 197, 0, 0)]
def gco_175_2 : List gIn := [(197, .iload 7, 199, 0, 0),
  (199, .iadd, 200, 0, 0),
  (200, .iastore, 201, 0, 0),
  (201, .iinc 4 0, 204, 1, 5),
  (204, .goto 58, 207, 0, 0),
  (207, .return_, 208, 0, 0)]
def gme_175 : gMe := ((yX12_flowOf, cX12_flowOf, 9, none), (12, false), (12, 1, 0, 0), gco_175_0 ++ (gco_175_1 ++ (gco_175_2)))
def gco_176_0 : List gIn := [(0, .iconst 0, 1, 0, 0),
  (1, .istore 1, 2, 0, 0),
  (2, .iload 1, 3, 0, 2),
  (3, .aload 0, 4, 0, 0),
  (4, .invokevirtual 158, 7, 0, 0),
  (7, .if_icmp .ge 83, 10, 0, 0),
  (10, .aload 0, 11, 0, 0),
  (11, .invokeinterface 12 30, 14, 0, 0),
  (14, .iload 1, 15, 0, 0),
  (15, .aload 0, 16, 0, 0),
  (16, .iload 1, 17, 0, 0),
  (17, .invokevirtual 169, 20, 0, 0),
  (20, .iastore, 21, 0, 0),
  (21, .aload 0, 22, 0, 0),
  (22, .invokeinterface 12 31, 25, 0, 0),
  (25, .iload 1, 26, 0, 0),
  (26, .aload 0, 27, 0, 0),
  (27, .iload 1, 28, 0, 0),
  (28, .invokevirtual 166, 31, 0, 0),
  (31, .iastore, 32, 0, 0),
  (32, .aload 0, 33, 0, 0),
  (33, .invokeinterface 12 32, 36, 0, 0),
  (36, .iload 1, 37, 0, 0),
  (37, .aload 0, 38, 0, 0),
  (38, .invokeinterface 12 5, 41, 0, 0),
  (41, .iload 1, 42, 0, 0),
  (42, .iaload, 43, 0, 0),
  (43, .iastore, 44, 0, 0),
  (44, .aload 0, 45, 0, 0),
  (45, .invokeinterface 12 34, 48, 0, 0),
  (48, .iload 1, 49, 0, 0),
  (49, .iconst 0, 50, 0, 0),
  (50, .iastore, 51, 0, 0),
  (51, .iconst 0, 52, 0, 0),
  (52, .istore 2, 53, 0, 0),
  (53, .iload 2, 54, 0, 3),
  (54, .iconst 0, 56, 9, 0),
  (56, .if_icmp .ge 77, 59, 0, 0),
  (59, .aload 0, 60, 0, 0),
  (60, .invokeinterface 12 33, 63, 0, 0),
  (63, .iconst 0, 65, 9, 0),
  (65, .iload 1, 66, 0, 0),
  (66, .imul, 67, 0, 0),
  (67, .iload 2, 68, 0, 0),
  (68, .iadd, 69, 0, 0),
  (69, .iconst 0, 70, 0, 0),
  (70, .iastore, 71, 0, 0),
  (71, .iinc 2 0, 74, 1, 0),
  (74, .goto 53, 77, 0, 0),
  (77, .iinc 1 0, 80, 1, 0),
  (80, .goto 2, 83, 0, 0),
  (83, .iconst 0, 84, 0, 0),
  (84, .istore 1, 85, 0, 0),
  (85, .iload 1, 86, 0, 2),
  (86, .aload 0, 87, 0, 0),
  (87, .invokevirtual 158, 90, 0, 0),
  (90, .if_icmp .ge 104, 93, 0, 0),
  (93, .aload 0, 94, 0, 0),
  (94, .iload 1, 95, 0, 0),
  (95, .invokevirtual 175, 98, 0, 0)]
def gco_176_1 : List gIn := [(98, .iinc 1 0, 101, 1, 0),
  (101, .goto 85, 104, 0, 0),
  (104, .iconst 0, 105, 0, 0),
  (105, .istore 1, 106, 0, 0),
  (106, .iload 1, 107, 0, 2),
  (107, .aload 0, 108, 0, 0),
  (108, .invokevirtual 158, 111, 0, 0),
  (111, .if_icmp .ge 174, 114, 0, 0),
  (114, .aload 0, 115, 0, 0),
  (115, .invokeinterface 12 5, 118, 0, 0),
  (118, .iload 1, 119, 0, 0),
  (119, .dup2, 120, 0, 0),
  (120, .iaload, 121, 0, 0),
  (121, .aload 0, 122, 0, 0),
  (122, .invokeinterface 12 34, 125, 0, 0),
  (125, .iload 1, 126, 0, 0),
  (126, .iaload, 127, 0, 0),
  (127, .iadd, 128, 0, 0),
  (128, .iastore, 129, 0, 0),
  (129, .iconst 0, 130, 0, 0),
  (130, .istore 2, 131, 0, 0),
  (131, .iload 2, 132, 0, 3),
  (132, .iconst 0, 134, 9, 0),
  (134, .if_icmp .ge 168, 137, 0, 0),
  (137, .aload 0, 138, 0, 0),
  (138, .invokeinterface 12 7, 141, 0, 0),
  (141, .iconst 0, 143, 9, 0),
  (143, .iload 1, 144, 0, 0),
  (144, .imul, 145, 0, 0),
  (145, .iload 2, 146, 0, 0),
  (146, .iadd, 147, 0, 0),
  (147, .dup2, 148, 0, 0),
  (148, .iaload, 149, 0, 0),
  (149, .aload 0, 150, 0, 0),
  (150, .invokeinterface 12 33, 153, 0, 0),
  (153, .iconst 0, 155, 9, 0),
  (155, .iload 1, 156, 0, 0),
  (156, .imul, 157, 0, 0),
  (157, .iload 2, 158, 0, 0),
  (158, .iadd, 159, 0, 0),
  (159, .iaload, 160, 0, 0),
  (160, .iadd, 161, 0, 0),
  (161, .iastore, 162, 0, 0),
  (162, .iinc 2 0, 165, 1, 0),
  (165, .goto 131, 168, 0, 0),
  (168, .iinc 1 0, 171, 1, 0),
  (171, .goto 106, 174, 0, 0),
  (174, .return_, 175, 0, 0)]
def gme_176 : gMe := ((yX12_flows, cX12_flows, 3, none), (12, false), (12, 0, 0, 0), gco_176_0 ++ (gco_176_1))
def gco_177_0 : List gIn := [(0, .aload 0, 1, 0, 0),
  (1, .invokevirtual 172, 4, 0, 0),
  (4, .istore 1, 5, 0, 0),
  (5, .aload 0, 6, 0, 0),
  (6, .invokevirtual 176, 9, 0, 0),
  (9, .aload 0, 10, 0, 0),
  (10, .dup, 11, 0, 0),
  (11, .invokeinterface 12 2, 14, 0, 0),
  (14, .iconst 0, 15, 1, 0),
  (15, .iadd, 16, 0, 0),
  (16, .multianewarray 12 2, 19, 0, 0),
  (19, .iload 1, 20, 0, 0),
  (20, .ireturn, 21, 0, 0)]
def gme_177 : gMe := ((yX12_step, cX12_step, 2, (some .int)), (12, false), (12, 0, 0, 0), gco_177_0)
def gco_178_0 : List gIn := [(0, .aload 0, 1, 0, 0),
  (1, .invokeinterface 12 2, 4, 0, 0),
  (4, .iconst 0, 7, 199, 0),
  (7, .if_icmp .ne 15, 10, 0, 0),
  (10, .iconst 0, 12, (-3), 0),
  (12, .goto 19, 15, 0, 0),
  (15, .aload 0, 16, 0, 0),
  (16, .invokevirtual 177, 19, 0, 0),
  (19, .ireturn, 20, 0, 1)]
def gme_178 : gMe := ((yX12_hour, cX12_hour, 1, (some .int)), (12, false), (12, 0, 0, 0), gco_178_0)
def gco_179_0 : List gIn := [(0, .aload 0, 1, 0, 0),
  (1, .invokeinterface 12 8, 4, 0, 0),
  (4, .iconst 0, 6, 6, 0),
  (6, .if_icmp .ne 12, 9, 0, 0),
  (9, .iconst 0, 11, (-3), 0),
  (11, .ireturn, 12, 0, 0),
  (12, .aload 0, 13, 0, 0),
  (13, .dup, 14, 0, 0),
  (14, .invokeinterface 12 8, 17, 0, 0),
  (17, .iconst 0, 18, 1, 0),
  (18, .iadd, 19, 0, 0),
  (19, .multianewarray 12 8, 22, 0, 0),
  (22, .aload 0, 23, 0, 0),
  (23, .invokeinterface 12 8, 26, 0, 0),
  (26, .iconst 0, 27, 1, 0),
  (27, .isub, 28, 0, 0),
  (28, .ireturn, 29, 0, 0)]
def gme_179 : gMe := ((yX12_person, cX12_person, 1, (some .int)), (12, false), (12, 0, 0, 0), gco_179_0)
def gco_180_0 : List gIn := [(0, .iload 1, 1, 0, 0),
  (1, .invokestatic 160, 4, 0, 0),
  (4, .ifCond .eq 21, 7, 0, 0),
  (7, .aload 0, 8, 0, 0),
  (8, .iload 2, 9, 0, 0),
  (9, .invokevirtual 161, 12, 0, 0),
  (12, .ifCond .ne 24, 15, 0, 0),
  (15, .iload 2, 16, 0, 0),
  (16, .iconst 0, 18, (-4), 0),
  (18, .if_icmp .eq 24, 21, 0, 0),
  (21, .iconst 0, 23, (-5), 1),
  (23, .ireturn, 24, 0, 0),
  (24, .aload 0, 25, 0, 3),
  (25, .invokeinterface 12 9, 28, 0, 0),
  (28, .iload 1, 29, 0, 0),
  (29, .iaload, 30, 0, 0),
  (30, .istore 3, 31, 0, 0),
  (31, .aload 0, 32, 0, 0),
  (32, .invokeinterface 12 9, 35, 0, 0),
  (35, .iload 1, 36, 0, 0),
  (36, .iload 2, 37, 0, 0),
  (37, .iastore, 38, 0, 0),
  (38, .iload 3, 39, 0, 0),
  (39, .ireturn, 40, 0, 0)]
def gme_180 : gMe := ((yX12_owner, cX12_owner, 4, (some .int)), (12, false), (12, 2, 0, 0), gco_180_0)
def gco_181_0 : List gIn := [(0, .iload 1, 1, 0, 0),
  (1, .invokestatic 160, 4, 0, 0),
  (4, .ifCond .eq 40, 7, 0, 0),
  (7, .aload 0, 8, 0, 0),
  (8, .iload 2, 9, 0, 0),
  (9, .invokevirtual 161, 12, 0, 0),
  (12, .ifCond .eq 40, 15, 0, 0),
  (15, .iload 3, 16, 0, 0),
  (16, .i2l, 17, 0, 0),
  (17, .lconst 0, 18, 1, 0),
  (18, .lconst 0, 21, 199, 0),
  (21, .invokestatic 157, 24, 0, 0),
  (24, .ifCond .eq 40, 27, 0, 0),
  (27, .iload 4, 29, 0, 0),
  (29, .i2l, 30, 0, 0),
  (30, .lconst 0, 31, 0, 0),
  (31, .lconst 0, 34, 999, 0),
  (34, .invokestatic 157, 37, 0, 0),
  (37, .ifCond .ne 42, 40, 0, 0),
  (40, .iconst 0, 41, (-1), 1),
  (41, .ireturn, 42, 0, 0),
  (42, .aload 0, 43, 0, 0),
  (43, .invokeinterface 12 10, 46, 0, 0),
  (46, .iconst 0, 48, 12, 0),
  (48, .if_icmp .ne 54, 51, 0, 0),
  (51, .iconst 0, 53, (-3), 0),
  (53, .ireturn, 54, 0, 0),
  (54, .aload 0, 55, 0, 0),
  (55, .invokeinterface 12 11, 58, 0, 0),
  (58, .aload 0, 59, 0, 0),
  (59, .invokeinterface 12 10, 62, 0, 0),
  (62, .iload 1, 63, 0, 0),
  (63, .iastore, 64, 0, 0),
  (64, .aload 0, 65, 0, 0),
  (65, .invokeinterface 12 12, 68, 0, 0),
  (68, .aload 0, 69, 0, 0),
  (69, .invokeinterface 12 10, 72, 0, 0),
  (72, .iload 2, 73, 0, 0),
  (73, .iastore, 74, 0, 0),
  (74, .aload 0, 75, 0, 0),
  (75, .invokeinterface 12 13, 78, 0, 0),
  (78, .aload 0, 79, 0, 0),
  (79, .invokeinterface 12 10, 82, 0, 0),
  (82, .iload 3, 83, 0, 0),
  (83, .iastore, 84, 0, 0),
  (84, .aload 0, 85, 0, 0),
  (85, .invokeinterface 12 14, 88, 0, 0),
  (88, .aload 0, 89, 0, 0),
  (89, .invokeinterface 12 10, 92, 0, 0),
  (92, .iload 4, 94, 0, 0),
  (94, .iastore, 95, 0, 0),
  (95, .aload 0, 96, 0, 0),
  (96, .dup, 97, 0, 0),
  (97, .invokeinterface 12 10, 100, 0, 0),
  (100, .iconst 0, 101, 1, 0),
  (101, .iadd, 102, 0, 0),
  (102, .multianewarray 12 10, 105, 0, 0),
  (105, .aload 0, 106, 0, 0),
  (106, .invokeinterface 12 10, 109, 0, 0),
  (109, .iconst 0, 110, 1, 0)]
def gco_181_1 : List gIn := [(110, .isub, 111, 0, 0),
  (111, .ireturn, 112, 0, 0)]
def gme_181 : gMe := ((yX12_lease, cX12_lease, 5, (some .int)), (12, false), (12, 4, 0, 0), gco_181_0 ++ (gco_181_1))
def gco_182_0 : List gIn := [(0, .aload 0, 1, 0, 0),
  (1, .invokeinterface 12 2, 4, 0, 0),
  (4, .aload 0, 5, 0, 0),
  (5, .invokeinterface 12 13, 8, 0, 0),
  (8, .iload 1, 9, 0, 0),
  (9, .iaload, 10, 0, 0),
  (10, .if_icmp .lt 17, 13, 0, 0),
  (13, .iconst 0, 14, 1, 0),
  (14, .goto 18, 17, 0, 0),
  (17, .iconst 0, 18, 0, 0),
  (18, .istore 2, 19, 0, 2),
  (19, .iconst 0, 20, 0, 0),
  (20, .istore 3, 21, 0, 0),
  (21, .iload 3, 22, 0, 4),
  (22, .aload 0, 23, 0, 0),
  (23, .invokeinterface 12 15, 26, 0, 0),
  (26, .if_icmp .ge 80, 29, 0, 0),
  (29, .iload 2, 30, 0, 0),
  (30, .ifCond .eq 72, 33, 0, 0),
  (33, .aload 0, 34, 0, 0),
  (34, .invokeinterface 12 16, 37, 0, 0),
  (37, .iload 3, 38, 0, 0),
  (38, .iaload, 39, 0, 0),
  (39, .aload 0, 40, 0, 0),
  (40, .invokeinterface 12 12, 43, 0, 0),
  (43, .iload 1, 44, 0, 0),
  (44, .iaload, 45, 0, 0),
  (45, .if_icmp .ne 68, 48, 0, 0),
  (48, .aload 0, 49, 0, 0),
  (49, .invokeinterface 12 6, 52, 0, 0),
  (52, .aload 0, 53, 0, 0),
  (53, .invokeinterface 12 17, 56, 0, 0),
  (56, .iload 3, 57, 0, 0),
  (57, .iaload, 58, 0, 0),
  (58, .iaload, 59, 0, 0),
  (59, .aload 0, 60, 0, 0),
  (60, .invokeinterface 12 11, 63, 0, 0),
  (63, .iload 1, 64, 0, 0),
  (64, .iaload, 65, 0, 0),
  (65, .if_icmp .eq 72, 68, 0, 0),
  (68, .iconst 0, 69, 1, 4),
  (69, .goto 73, 72, 0, 0),
  (72, .iconst 0, 73, 0, 4),
  (73, .istore 2, 74, 0, 4),
  (74, .iinc 3 0, 77, 1, 0),
  (77, .goto 21, 80, 0, 0),
  (80, .iload 2, 81, 0, 0),
  (81, .freturn, 82, 0, 0)]
def gme_182 : gMe := ((yX12_hasEnded, cX12_hasEnded, 4, (some .boolean)), (12, false), (12, 1, 0, 0), gco_182_0)
def gco_183_0 : List gIn := [(0, .iload 1, 1, 0, 0),
  (1, .i2l, 2, 0, 0),
  (2, .lconst 0, 3, 0, 0),
  (3, .aload 0, 4, 0, 0),
  (4, .invokeinterface 12 10, 7, 0, 0),
  (7, .iconst 0, 8, 1, 0),
  (8, .isub, 9, 0, 0),
  (9, .i2l, 10, 0, 0),
  (10, .invokestatic 157, 13, 0, 0),
  (13, .ifCond .ne 18, 16, 0, 0),
  (16, .iconst 0, 17, (-1), 0),
  (17, .ireturn, 18, 0, 0),
  (18, .iload 2, 19, 0, 0),
  (19, .lookupswitch 94 #[(0, 52), (1, 59), (2, 66), (3, 73), (4, 80)], 52, 0, 0),
  (52, .aload 0, 53, 0, 0),
  (53, .invokeinterface 12 11, 56, 0, 0),
  (56, .iload 1, 57, 0, 0),
  (57, .iaload, 58, 0, 0),
  (58, .ireturn, 59, 0, 0),
  (59, .aload 0, 60, 0, 0),
  (60, .invokeinterface 12 12, 63, 0, 0),
  (63, .iload 1, 64, 0, 0),
  (64, .iaload, 65, 0, 0),
  (65, .ireturn, 66, 0, 0),
  (66, .aload 0, 67, 0, 0),
  (67, .invokeinterface 12 13, 70, 0, 0),
  (70, .iload 1, 71, 0, 0),
  (71, .iaload, 72, 0, 0),
  (72, .ireturn, 73, 0, 0),
  (73, .aload 0, 74, 0, 0),
  (74, .invokeinterface 12 14, 77, 0, 0),
  (77, .iload 1, 78, 0, 0),
  (78, .iaload, 79, 0, 0),
  (79, .ireturn, 80, 0, 0),
  (80, .aload 0, 81, 0, 0),
  (81, .iload 1, 82, 0, 0),
  (82, .invokevirtual 182, 85, 0, 0),
  (85, .ifCond .eq 92, 88, 0, 0),
  (88, .iconst 0, 89, 1, 0),
  (89, .goto 93, 92, 0, 0),
  (92, .iconst 0, 93, 0, 0),
  (93, .ireturn, 94, 0, 1),
  (94, .iconst 0, 95, (-1), 0),
  (95, .ireturn, 96, 0, 0)]
def gme_183 : gMe := ((yX12_leaseOf, cX12_leaseOf, 3, (some .int)), (12, false), (12, 2, 0, 0), gco_183_0)
def gco_184_0 : List gIn := [(0, .iconst 0, 2, (-4), 0),
  (2, .istore 2, 3, 0, 0),
  (3, .iconst 0, 4, 0, 0),
  (4, .istore 3, 5, 0, 0),
  (5, .iload 3, 6, 0, 4),
  (6, .aload 0, 7, 0, 0),
  (7, .invokeinterface 12 10, 10, 0, 0),
  (10, .if_icmp .ge 60, 13, 0, 0),
  (13, .aload 0, 14, 0, 0),
  (14, .invokeinterface 12 11, 17, 0, 0),
  (17, .iload 3, 18, 0, 0),
  (18, .iaload, 19, 0, 0),
  (19, .iload 1, 20, 0, 0),
  (20, .if_icmp .ne 54, 23, 0, 0),
  (23, .aload 0, 24, 0, 0),
  (24, .iload 3, 25, 0, 0),
  (25, .invokevirtual 182, 28, 0, 0),
  (28, .ifCond .ne 54, 31, 0, 0),
  (31, .iload 2, 32, 0, 0),
  (32, .iconst 0, 34, (-4), 0),
  (34, .if_icmp .eq 52, 37, 0, 0),
  (37, .aload 0, 38, 0, 0),
  (38, .invokeinterface 12 14, 41, 0, 0),
  (41, .iload 3, 42, 0, 0),
  (42, .iaload, 43, 0, 0),
  (43, .aload 0, 44, 0, 0),
  (44, .invokeinterface 12 14, 47, 0, 0),
  (47, .iload 2, 48, 0, 0),
  (48, .iaload, 49, 0, 0),
  (49, .if_icmp .ge 54, 52, 0, 0),
  (52, .iload 3, 53, 0, 4),
  (53, .istore 2, 54, 0, 0),
  (54, .iinc 3 0, 57, 1, 4),
  (57, .goto 5, 60, 0, 0),
  (60, .iload 2, 61, 0, 0),
  (61, .iconst 0, 63, (-4), 0),
  (63, .if_icmp .ne 75, 66, 0, 0),
  (66, .aload 0, 67, 0, 0),
  (67, .invokeinterface 12 9, 70, 0, 0),
  (70, .iload 1, 71, 0, 0),
  (71, .iaload, 72, 0, 0),
  (72, .goto 81, 75, 0, 0),
  (75, .aload 0, 76, 0, 0),
  (76, .invokeinterface 12 12, 79, 0, 0),
  (79, .iload 2, 80, 0, 0),
  (80, .iaload, 81, 0, 0),
  (81, .ireturn, 82, 0, 1)]
def gme_184 : gMe := ((yX12_holderOf, cX12_holderOf, 4, (some .int)), (12, false), (12, 1, 0, 0), gco_184_0)
def gco_185_0 : List gIn := [(0, .iload 1, 1, 0, 0),
  (1, .invokestatic 160, 4, 0, 0),
  (4, .ifCond .eq 15, 7, 0, 0),
  (7, .aload 0, 8, 0, 0),
  (8, .iload 1, 9, 0, 0),
  (9, .invokevirtual 184, 12, 0, 0),
  (12, .goto 16, 15, 0, 0),
  (15, .iconst 0, 16, (-1), 0),
  (16, .ireturn, 17, 0, 1)]
def gme_185 : gMe := ((yX12_holds, cX12_holds, 2, (some .int)), (12, false), (12, 1, 0, 0), gco_185_0)
def gco_186_0 : List gIn := [(0, .aload 0, 1, 0, 0),
  (1, .iload 1, 2, 0, 0),
  (2, .invokevirtual 161, 5, 0, 0),
  (5, .ifCond .ne 10, 8, 0, 0),
  (8, .iconst 0, 9, (-1), 0),
  (9, .ireturn, 10, 0, 0),
  (10, .iconst 0, 11, 0, 0),
  (11, .istore 3, 12, 0, 0),
  (12, .iconst 0, 13, 0, 0),
  (13, .istore 4, 15, 0, 0),
  (15, .iconst 0, 16, 0, 0),
  (16, .istore 5, 18, 0, 0),
  (18, .iconst 0, 19, 0, 0),
  (19, .istore 6, 21, 0, 0),
  (21, .iconst 0, 22, 0, 0),
  (22, .istore 7, 24, 0, 0),
  (24, .iload 7, 26, 0, 8),
  (26, .aload 0, 27, 0, 0),
  (27, .invokeinterface 12 15, 30, 0, 0),
  (30, .if_icmp .ge 114, 33, 0, 0),
  (33, .aload 0, 34, 0, 0),
  (34, .invokeinterface 12 16, 37, 0, 0),
  (37, .iload 7, 39, 0, 0),
  (39, .iaload, 40, 0, 0),
  (40, .iload 1, 41, 0, 0),
  (41, .if_icmp .ne 108, 44, 0, 0),
  (44, .iinc 3 0, 47, 1, 0),
  (47, .iload 4, 49, 0, 0),
  (49, .aload 0, 50, 0, 0),
  (50, .invokeinterface 12 20, 53, 0, 0),
  (53, .iload 7, 55, 0, 0),
  (55, .iaload, 56, 0, 0),
  (56, .iadd, 57, 0, 0),
  (57, .istore 4, 59, 0, 0),
  (59, .iload 5, 61, 0, 0),
  (61, .aload 0, 62, 0, 0),
  (62, .iload 7, 64, 0, 0),
  (64, .invokevirtual 198, 67, 0, 0),
  (67, .iadd, 68, 0, 0),
  (68, .istore 5, 70, 0, 0),
  (70, .iload 6, 72, 0, 0),
  (72, .iload 2, 73, 0, 0),
  (73, .i2l, 74, 0, 0),
  (74, .lconst 0, 77, 10, 0),
  (77, .lconst 0, 80, 18, 0),
  (80, .invokestatic 157, 83, 0, 0),
  (83, .ifCond .eq 104, 86, 0, 0),
  (86, .aload 0, 87, 0, 0),
  (87, .invokeinterface 12 22, 90, 0, 0),
  (90, .iconst 0, 92, 9, 0),
  (92, .iload 7, 94, 0, 0),
  (94, .imul, 95, 0, 0),
  (95, .iload 2, 96, 0, 0),
  (96, .iadd, 97, 0, 0),
  (97, .iconst 0, 99, 10, 0),
  (99, .isub, 100, 0, 0),
  (100, .iaload, 101, 0, 0),
  (101, .goto 105, 104, 0, 0),
  (104, .iconst 0, 105, 0, 0),
  (105, .iadd, 106, 0, 8)]
def gco_186_1 : List gIn := [(106, .istore 6, 108, 0, 0),
  (108, .iinc 7 0, 111, 1, 8),
  (111, .goto 24, 114, 0, 0),
  (114, .iload 2, 115, 0, 0),
  (115, .i2l, 116, 0, 0),
  (116, .lconst 0, 119, 10, 0),
  (119, .lconst 0, 122, 18, 0),
  (122, .invokestatic 157, 125, 0, 0),
  (125, .ifCond .eq 131, 128, 0, 0),
  (128, .iload 6, 130, 0, 0),
  (130, .ireturn, 131, 0, 0),
  (131, .aload 0, 132, 0, 0),
  (132, .invokeinterface 12 25, 135, 0, 0),
  (135, .iload 1, 136, 0, 0),
  (136, .iaload, 137, 0, 0),
  (137, .iload 4, 139, 0, 0),
  (139, .iload 5, 141, 0, 0),
  (141, .isub, 142, 0, 0),
  (142, .isub, 143, 0, 0),
  (143, .istore 7, 145, 0, 0),
  (145, .iload 2, 146, 0, 0),
  (146, .lookupswitch 229 #[(0, 188), (1, 195), (2, 202), (3, 209), (4, 211), (5, 214), (6, 217)], 188, 0, 0),
  (188, .aload 0, 189, 0, 0),
  (189, .invokeinterface 12 24, 192, 0, 0),
  (192, .iload 1, 193, 0, 0),
  (193, .iaload, 194, 0, 0),
  (194, .ireturn, 195, 0, 0),
  (195, .aload 0, 196, 0, 0),
  (196, .invokeinterface 12 25, 199, 0, 0),
  (199, .iload 1, 200, 0, 0),
  (200, .iaload, 201, 0, 0),
  (201, .ireturn, 202, 0, 0),
  (202, .aload 0, 203, 0, 0),
  (203, .invokeinterface 12 26, 206, 0, 0),
  (206, .iload 1, 207, 0, 0),
  (207, .iaload, 208, 0, 0),
  (208, .ireturn, 209, 0, 0),
  (209, .iload 3, 210, 0, 0),
  (210, .ireturn, 211, 0, 0),
  (211, .iload 4, 213, 0, 0),
  (213, .ireturn, 214, 0, 0),
  (214, .iload 5, 216, 0, 0),
  (216, .ireturn, 217, 0, 0),
  (217, .iload 7, 219, 0, 0),
  (219, .ifCond .ge 226, 222, 0, 0),
  (222, .iconst 0, 223, 0, 0),
  (223, .goto 228, 226, 0, 0),
  (226, .iload 7, 228, 0, 0),
  (228, .ireturn, 229, 0, 1),
  (229, .iconst 0, 230, (-1), 0),
  (230, .ireturn, 231, 0, 0)]
def gme_186 : gMe := ((yX12_told, cX12_told, 8, (some .int)), (12, false), (12, 2, 0, 0), gco_186_0 ++ (gco_186_1))
def gco_187_0 : List gIn := [(0, .iload 1, 1, 0, 0),
  (1, .aload 0, 2, 0, 0),
  (2, .invokeinterface 12 0, 5, 0, 0),
  (5, .irem, 6, 0, 0),
  (6, .iload 2, 7, 0, 0),
  (7, .aload 0, 8, 0, 0),
  (8, .invokeinterface 12 0, 11, 0, 0),
  (11, .irem, 12, 0, 0),
  (12, .isub, 13, 0, 0),
  (13, .istore 3, 14, 0, 0),
  (14, .iload 1, 15, 0, 0),
  (15, .aload 0, 16, 0, 0),
  (16, .invokeinterface 12 0, 19, 0, 0),
  (19, .idiv, 20, 0, 0),
  (20, .iload 2, 21, 0, 0),
  (21, .aload 0, 22, 0, 0),
  (22, .invokeinterface 12 0, 25, 0, 0),
  (25, .idiv, 26, 0, 0),
  (26, .isub, 27, 0, 0),
  (27, .istore 4, 29, 0, 0),
  (29, .iload 3, 30, 0, 0),
  (30, .ifCond .ge 38, 33, 0, 0),
  (33, .iload 3, 34, 0, 0),
  (34, .ineg, 35, 0, 0),
  (35, .goto 39, 38, 0, 0),
  (38, .iload 3, 39, 0, 0),
  (39, .iload 4, 41, 0, 5),
  (41, .ifCond .ge 50, 44, 0, 0),
  (44, .iload 4, 46, 0, 0),
  (46, .ineg, 47, 0, 0),
  (47, .goto 52, 50, 0, 0),
  (50, .iload 4, 52, 0, 0),
  (52, .iadd, 53, 0, 1),
  (53, .ireturn, 54, 0, 0)]
def gme_187 : gMe := ((yX12_howFar, cX12_howFar, 5, (some .int)), (12, false), (12, 2, 0, 0), gco_187_0)
def gco_188_0 : List gIn := [(0, .iconst 0, 1, 0, 0),
  (1, .istore 2, 2, 0, 0),
  (2, .iconst 0, 3, 0, 0),
  (3, .istore 3, 4, 0, 0),
  (4, .iload 3, 5, 0, 4),
  (5, .aload 0, 6, 0, 0),
  (6, .invokeinterface 12 48, 9, 0, 0),
  (9, .if_icmp .ge 70, 12, 0, 0),
  (12, .iload 2, 13, 0, 0),
  (13, .ifCond .ne 58, 16, 0, 0),
  (16, .aload 0, 17, 0, 0),
  (17, .invokeinterface 12 49, 20, 0, 0),
  (20, .iload 3, 21, 0, 0),
  (21, .iaload, 22, 0, 0),
  (22, .iconst 0, 23, 5, 0),
  (23, .if_icmp .ne 62, 26, 0, 0),
  (26, .aload 0, 27, 0, 0),
  (27, .invokeinterface 12 52, 30, 0, 0),
  (30, .iload 3, 31, 0, 0),
  (31, .iaload, 32, 0, 0),
  (32, .ifCond .ne 62, 35, 0, 0),
  (35, .aload 0, 36, 0, 0),
  (36, .invokeinterface 12 51, 39, 0, 0),
  (39, .iload 3, 40, 0, 0),
  (40, .iaload, 41, 0, 0),
  (41, .iload 1, 42, 0, 0),
  (42, .if_icmp .ne 62, 45, 0, 0),
  (45, .aload 0, 46, 0, 0),
  (46, .invokeinterface 12 50, 49, 0, 0),
  (49, .iload 3, 50, 0, 0),
  (50, .iaload, 51, 0, 0),
  (51, .aload 0, 52, 0, 0),
  (52, .invokevirtual 163, 55, 0, 0),
  (55, .if_icmp .gt 62, 58, 0, 0),
  (58, .iconst 0, 59, 1, 4),
  (59, .goto 63, 62, 0, 0),
  (62, .iconst 0, 63, 0, 4),
  (63, .istore 2, 64, 0, 4),
  (64, .iinc 3 0, 67, 1, 0),
  (67, .goto 4, 70, 0, 0),
  (70, .iload 2, 71, 0, 0),
  (71, .freturn, 72, 0, 0)]
def gme_188 : gMe := ((yX12_isExcepted, cX12_isExcepted, 4, (some .boolean)), (12, false), (12, 1, 0, 0), gco_188_0)
def gco_189_0 : List gIn := [(0, .aload 0, 1, 0, 0),
  (1, .invokeinterface 12 6, 4, 0, 0),
  (4, .iload 2, 5, 0, 0),
  (5, .iaload, 6, 0, 0),
  (6, .iconst 0, 8, (-4), 0),
  (8, .if_icmp .eq 25, 11, 0, 0),
  (11, .aload 0, 12, 0, 0),
  (12, .aload 0, 13, 0, 0),
  (13, .invokeinterface 12 6, 16, 0, 0),
  (16, .iload 2, 17, 0, 0),
  (17, .iaload, 18, 0, 0),
  (18, .invokevirtual 184, 21, 0, 0),
  (21, .iload 1, 22, 0, 0),
  (22, .if_icmp .eq 27, 25, 0, 0),
  (25, .iconst 0, 26, 1, 1),
  (26, .ireturn, 27, 0, 0),
  (27, .aload 0, 28, 0, 0),
  (28, .iload 1, 29, 0, 0),
  (29, .invokevirtual 188, 32, 0, 0),
  (32, .ifCond .eq 37, 35, 0, 0),
  (35, .iconst 0, 36, 0, 0),
  (36, .ireturn, 37, 0, 0),
  (37, .iconst 0, 38, 0, 0),
  (38, .istore 5, 40, 0, 0),
  (40, .iload 5, 42, 0, 6),
  (42, .aload 0, 43, 0, 0),
  (43, .invokevirtual 158, 46, 0, 0),
  (46, .if_icmp .ge 84, 49, 0, 0),
  (49, .aload 0, 50, 0, 0),
  (50, .invokeinterface 12 6, 53, 0, 0),
  (53, .iload 5, 55, 0, 0),
  (55, .iaload, 56, 0, 0),
  (56, .aload 0, 57, 0, 0),
  (57, .invokeinterface 12 6, 60, 0, 0),
  (60, .iload 2, 61, 0, 0),
  (61, .iaload, 62, 0, 0),
  (62, .if_icmp .eq 78, 65, 0, 0),
  (65, .aload 0, 66, 0, 0),
  (66, .iload 2, 67, 0, 0),
  (67, .iload 5, 69, 0, 0),
  (69, .invokevirtual 187, 72, 0, 0),
  (72, .iload 3, 73, 0, 0),
  (73, .if_icmp .ge 78, 76, 0, 0),
  (76, .iconst 0, 77, 2, 0),
  (77, .ireturn, 78, 0, 0),
  (78, .iinc 5 0, 81, 1, 6),
  (81, .goto 40, 84, 0, 0),
  (84, .iconst 0, 85, 0, 0),
  (85, .istore 5, 87, 0, 0),
  (87, .iload 5, 89, 0, 6),
  (89, .aload 0, 90, 0, 0),
  (90, .invokeinterface 12 15, 93, 0, 0),
  (93, .if_icmp .ge 121, 96, 0, 0),
  (96, .aload 0, 97, 0, 0),
  (97, .iload 2, 98, 0, 0),
  (98, .aload 0, 99, 0, 0),
  (99, .invokeinterface 12 17, 102, 0, 0),
  (102, .iload 5, 104, 0, 0),
  (104, .iaload, 105, 0, 0),
  (105, .invokevirtual 187, 108, 0, 0)]
def gco_189_1 : List gIn := [(108, .iload 4, 110, 0, 0),
  (110, .if_icmp .ge 115, 113, 0, 0),
  (113, .iconst 0, 114, 3, 0),
  (114, .ireturn, 115, 0, 0),
  (115, .iinc 5 0, 118, 1, 0),
  (118, .goto 87, 121, 0, 0),
  (121, .iconst 0, 122, 0, 0),
  (122, .ireturn, 123, 0, 0)]
def gme_189 : gMe := ((yX12_whyNot, cX12_whyNot, 6, (some .int)), (12, false), (12, 4, 0, 0), gco_189_0 ++ (gco_189_1))
def gco_190_0 : List gIn := [(0, .aload 0, 1, 0, 0),
  (1, .iconst 0, 2, 0, 0),
  (2, .aload 0, 3, 0, 0),
  (3, .invokevirtual 163, 6, 0, 0),
  (6, .invokevirtual 216, 9, 0, 0),
  (9, .istore 3, 10, 0, 0),
  (10, .aload 0, 11, 0, 0),
  (11, .iconst 0, 12, 1, 0),
  (12, .aload 0, 13, 0, 0),
  (13, .invokevirtual 163, 16, 0, 0),
  (16, .invokevirtual 216, 19, 0, 0),
  (19, .istore 4, 21, 0, 0),
  (21, .aload 0, 22, 0, 0),
  (22, .iload 1, 23, 0, 0),
  (23, .iload 2, 24, 0, 0),
  (24, .iload 3, 25, 0, 0),
  (25, .iconst 0, 27, (-4), 0),
  (27, .if_icmp .ne 34, 30, 0, 0),
  (30, .iconst 0, 31, 0, 0),
  (31, .goto 40, 34, 0, 0),
  (34, .aload 0, 35, 0, 0),
  (35, .invokeinterface 12 51, 38, 0, 0),
  (38, .iload 3, 39, 0, 0),
  (39, .iaload, 40, 0, 0),
  (40, .iload 4, 42, 0, 5),
  (42, .iconst 0, 44, (-4), 0),
  (44, .if_icmp .ne 51, 47, 0, 0),
  (47, .iconst 0, 48, 0, 0),
  (48, .goto 58, 51, 0, 0),
  (51, .aload 0, 52, 0, 0),
  (52, .invokeinterface 12 51, 55, 0, 0),
  (55, .iload 4, 57, 0, 0),
  (57, .iaload, 58, 0, 0),
  (58, .invokevirtual 189, 61, 0, 1),
  (61, .ireturn, 62, 0, 0)]
def gme_190 : gMe := ((yX12_whyNow, cX12_whyNow, 5, (some .int)), (12, false), (12, 2, 0, 0), gco_190_0)
def gco_191_0 : List gIn := [(0, .aload 0, 1, 0, 0),
  (1, .invokeinterface 12 15, 4, 0, 0),
  (4, .istore 4, 6, 0, 0),
  (6, .aload 0, 7, 0, 0),
  (7, .invokeinterface 12 16, 10, 0, 0),
  (10, .iload 4, 12, 0, 0),
  (12, .iload 1, 13, 0, 0),
  (13, .iastore, 14, 0, 0),
  (14, .aload 0, 15, 0, 0),
  (15, .invokeinterface 12 17, 18, 0, 0),
  (18, .iload 4, 20, 0, 0),
  (20, .iload 2, 21, 0, 0),
  (21, .iastore, 22, 0, 0),
  (22, .aload 0, 23, 0, 0),
  (23, .invokeinterface 12 18, 26, 0, 0),
  (26, .iload 4, 28, 0, 0),
  (28, .iload 3, 29, 0, 0),
  (29, .iastore, 30, 0, 0),
  (30, .aload 0, 31, 0, 0),
  (31, .invokeinterface 12 19, 34, 0, 0),
  (34, .iload 4, 36, 0, 0),
  (36, .iconst 0, 37, 1, 0),
  (37, .iastore, 38, 0, 0),
  (38, .aload 0, 39, 0, 0),
  (39, .invokeinterface 12 20, 42, 0, 0),
  (42, .iload 4, 44, 0, 0),
  (44, .iconst 0, 45, 0, 0),
  (45, .iastore, 46, 0, 0),
  (46, .aload 0, 47, 0, 0),
  (47, .invokeinterface 12 21, 50, 0, 0),
  (50, .iload 4, 52, 0, 0),
  (52, .iconst 0, 53, 0, 0),
  (53, .iastore, 54, 0, 0),
  (54, .iconst 0, 55, 0, 0),
  (55, .istore 5, 57, 0, 0),
  (57, .iload 5, 59, 0, 6),
  (59, .iconst 0, 61, 9, 0),
  (61, .if_icmp .ge 84, 64, 0, 0),
  (64, .aload 0, 65, 0, 0),
  (65, .invokeinterface 12 22, 68, 0, 0),
  (68, .iconst 0, 70, 9, 0),
  (70, .iload 4, 72, 0, 0),
  (72, .imul, 73, 0, 0),
  (73, .iload 5, 75, 0, 0),
  (75, .iadd, 76, 0, 0),
  (76, .iconst 0, 77, 0, 0),
  (77, .iastore, 78, 0, 0),
  (78, .iinc 5 0, 81, 1, 0),
  (81, .goto 57, 84, 0, 0),
  (84, .iconst 0, 85, 0, 0),
  (85, .istore 5, 87, 0, 0),
  (87, .iload 5, 89, 0, 6),
  (89, .iconst 0, 91, 60, 0),
  (91, .if_icmp .ge 114, 94, 0, 0),
  (94, .aload 0, 95, 0, 0),
  (95, .invokeinterface 12 23, 98, 0, 0),
  (98, .iconst 0, 100, 60, 0),
  (100, .iload 4, 102, 0, 0),
  (102, .imul, 103, 0, 0),
  (103, .iload 5, 105, 0, 0)]
def gco_191_1 : List gIn := [(105, .iadd, 106, 0, 0),
  (106, .iconst 0, 107, 0, 0),
  (107, .iastore, 108, 0, 0),
  (108, .iinc 5 0, 111, 1, 0),
  (111, .goto 87, 114, 0, 0),
  (114, .aload 0, 115, 0, 0),
  (115, .dup, 116, 0, 0),
  (116, .invokeinterface 12 15, 119, 0, 0),
  (119, .iconst 0, 120, 1, 0),
  (120, .iadd, 121, 0, 0),
  (121, .multianewarray 12 15, 124, 0, 0),
  (124, .return_, 125, 0, 0)]
def gme_191 : gMe := ((yX12_addWell, cX12_addWell, 6, none), (12, false), (12, 3, 0, 0), gco_191_0 ++ (gco_191_1))
def gco_192_0 : List gIn := [(0, .aload 0, 1, 0, 0),
  (1, .iload 1, 2, 0, 0),
  (2, .invokevirtual 161, 5, 0, 0),
  (5, .ifCond .eq 28, 8, 0, 0),
  (8, .aload 0, 9, 0, 0),
  (9, .iload 2, 10, 0, 0),
  (10, .invokevirtual 159, 13, 0, 0),
  (13, .ifCond .eq 28, 16, 0, 0),
  (16, .iload 3, 17, 0, 0),
  (17, .i2l, 18, 0, 0),
  (18, .lconst 0, 19, 0, 0),
  (19, .lconst 0, 22, 60, 0),
  (22, .invokestatic 157, 25, 0, 0),
  (25, .ifCond .ne 30, 28, 0, 0),
  (28, .iconst 0, 29, (-1), 1),
  (29, .ireturn, 30, 0, 0),
  (30, .aload 0, 31, 0, 0),
  (31, .iload 1, 32, 0, 0),
  (32, .iload 2, 33, 0, 0),
  (33, .invokevirtual 190, 36, 0, 0),
  (36, .ifCond .le 42, 39, 0, 0),
  (39, .iconst 0, 41, (-2), 0),
  (41, .ireturn, 42, 0, 0),
  (42, .aload 0, 43, 0, 0),
  (43, .invokeinterface 12 15, 46, 0, 0),
  (46, .iconst 0, 48, 10, 0),
  (48, .if_icmp .ne 54, 51, 0, 0),
  (51, .iconst 0, 53, (-3), 0),
  (53, .ireturn, 54, 0, 0),
  (54, .aload 0, 55, 0, 0),
  (55, .iload 1, 56, 0, 0),
  (56, .iload 2, 57, 0, 0),
  (57, .iload 3, 58, 0, 0),
  (58, .invokevirtual 191, 61, 0, 0),
  (61, .aload 0, 62, 0, 0),
  (62, .invokeinterface 12 15, 65, 0, 0),
  (65, .iconst 0, 66, 1, 0),
  (66, .isub, 67, 0, 0),
  (67, .ireturn, 68, 0, 0)]
def gme_192 : gMe := ((yX12_drill, cX12_drill, 4, (some .int)), (12, false), (12, 3, 0, 0), gco_192_0)
def gco_193_0 : List gIn := [(0, .aload 0, 1, 0, 0),
  (1, .iload 1, 2, 0, 0),
  (2, .invokevirtual 161, 5, 0, 0),
  (5, .ifCond .eq 25, 8, 0, 0),
  (8, .aload 0, 9, 0, 0),
  (9, .iload 2, 10, 0, 0),
  (10, .invokevirtual 159, 13, 0, 0),
  (13, .ifCond .eq 25, 16, 0, 0),
  (16, .aload 0, 17, 0, 0),
  (17, .iload 1, 18, 0, 0),
  (18, .iload 2, 19, 0, 0),
  (19, .invokevirtual 190, 22, 0, 0),
  (22, .goto 26, 25, 0, 0),
  (25, .iconst 0, 26, (-1), 1),
  (26, .ireturn, 27, 0, 1)]
def gme_193 : gMe := ((yX12_why, cX12_why, 3, (some .int)), (12, false), (12, 2, 0, 0), gco_193_0)
def gco_194_0 : List gIn := [(0, .aload 0, 1, 0, 0),
  (1, .iload 1, 2, 0, 0),
  (2, .invokevirtual 162, 5, 0, 0),
  (5, .ifCond .eq 20, 8, 0, 0),
  (8, .iload 2, 9, 0, 0),
  (9, .i2l, 10, 0, 0),
  (10, .lconst 0, 11, 0, 0),
  (11, .lconst 0, 14, 60, 0),
  (14, .invokestatic 157, 17, 0, 0),
  (17, .ifCond .ne 22, 20, 0, 0),
  (20, .iconst 0, 21, (-1), 1),
  (21, .ireturn, 22, 0, 0),
  (22, .aload 0, 23, 0, 0),
  (23, .invokeinterface 12 18, 26, 0, 0),
  (26, .iload 1, 27, 0, 0),
  (27, .iaload, 28, 0, 0),
  (28, .istore 3, 29, 0, 0),
  (29, .aload 0, 30, 0, 0),
  (30, .invokeinterface 12 18, 33, 0, 0),
  (33, .iload 1, 34, 0, 0),
  (34, .iload 2, 35, 0, 0),
  (35, .iastore, 36, 0, 0),
  (36, .iload 3, 37, 0, 0),
  (37, .ireturn, 38, 0, 0)]
def gme_194 : gMe := ((yX12_will, cX12_will, 4, (some .int)), (12, false), (12, 2, 0, 0), gco_194_0)
def gco_195_0 : List gIn := [(0, .aload 0, 1, 0, 0),
  (1, .iload 1, 2, 0, 0),
  (2, .invokevirtual 162, 5, 0, 0),
  (5, .ifCond .ne 10, 8, 0, 0),
  (8, .iconst 0, 9, (-1), 0),
  (9, .ireturn, 10, 0, 0),
  (10, .aload 0, 11, 0, 0),
  (11, .invokeinterface 12 19, 14, 0, 0),
  (14, .iload 1, 15, 0, 0),
  (15, .iaload, 16, 0, 0),
  (16, .istore 3, 17, 0, 0),
  (17, .aload 0, 18, 0, 0),
  (18, .invokeinterface 12 19, 21, 0, 0),
  (21, .iload 1, 22, 0, 0),
  (22, .iload 2, 23, 0, 0),
  (23, .ifCond .eq 30, 26, 0, 0),
  (26, .iconst 0, 27, 1, 0),
  (27, .goto 31, 30, 0, 0),
  (30, .iconst 0, 31, 0, 0),
  (31, .iastore, 32, 0, 4),
  (32, .iload 3, 33, 0, 0),
  (33, .ireturn, 34, 0, 0)]
def gme_195 : gMe := ((yX12_open, cX12_open, 4, (some .int)), (12, false), (12, 2, 0, 0), gco_195_0)
def gco_196_0 : List gIn := [(0, .aload 0, 1, 0, 0),
  (1, .iconst 0, 2, 4, 0),
  (2, .iload 2, 3, 0, 0),
  (3, .invokevirtual 216, 6, 0, 0),
  (6, .iconst 0, 8, (-4), 0),
  (8, .if_icmp .eq 13, 11, 0, 0),
  (11, .iconst 0, 12, 0, 0),
  (12, .ireturn, 13, 0, 0),
  (13, .aload 0, 14, 0, 0),
  (14, .iconst 0, 15, 2, 0),
  (15, .iload 2, 16, 0, 0),
  (16, .invokevirtual 216, 19, 0, 0),
  (19, .istore 3, 20, 0, 0),
  (20, .aload 0, 21, 0, 0),
  (21, .iconst 0, 22, 3, 0),
  (22, .iload 2, 23, 0, 0),
  (23, .invokevirtual 216, 26, 0, 0),
  (26, .istore 4, 28, 0, 0),
  (28, .iload 3, 29, 0, 0),
  (29, .iconst 0, 31, (-4), 0),
  (31, .if_icmp .ne 39, 34, 0, 0),
  (34, .iconst 0, 36, (-4), 0),
  (36, .goto 45, 39, 0, 0),
  (39, .aload 0, 40, 0, 0),
  (40, .invokeinterface 12 51, 43, 0, 0),
  (43, .iload 3, 44, 0, 0),
  (44, .iaload, 45, 0, 0),
  (45, .istore 5, 47, 0, 5),
  (47, .iload 4, 49, 0, 0),
  (49, .iconst 0, 51, (-4), 0),
  (51, .if_icmp .eq 207, 54, 0, 0),
  (54, .aload 0, 55, 0, 0),
  (55, .invokeinterface 12 6, 58, 0, 0),
  (58, .aload 0, 59, 0, 0),
  (59, .invokeinterface 12 17, 62, 0, 0),
  (62, .iload 1, 63, 0, 0),
  (63, .iaload, 64, 0, 0),
  (64, .iaload, 65, 0, 0),
  (65, .istore 6, 67, 0, 0),
  (67, .iconst 0, 68, 0, 0),
  (68, .istore 7, 70, 0, 0),
  (70, .iconst 0, 71, 0, 0),
  (71, .istore 8, 73, 0, 0),
  (73, .iconst 0, 74, 0, 0),
  (74, .istore 9, 76, 0, 0),
  (76, .iload 9, 78, 0, 10),
  (78, .aload 0, 79, 0, 0),
  (79, .invokevirtual 158, 82, 0, 0),
  (82, .if_icmp .ge 113, 85, 0, 0),
  (85, .iload 7, 87, 0, 0),
  (87, .aload 0, 88, 0, 0),
  (88, .invokeinterface 12 6, 91, 0, 0),
  (91, .iload 9, 93, 0, 0),
  (93, .iaload, 94, 0, 0),
  (94, .iload 6, 96, 0, 0),
  (96, .if_icmp .ne 103, 99, 0, 0),
  (99, .iconst 0, 100, 1, 0),
  (100, .goto 104, 103, 0, 0),
  (103, .iconst 0, 104, 0, 0),
  (104, .iadd, 105, 0, 10)]
def gco_196_1 : List gIn := [(105, .istore 7, 107, 0, 0),
  (107, .iinc 9 0, 110, 1, 0),
  (110, .goto 76, 113, 0, 0),
  (113, .iconst 0, 114, 0, 0),
  (114, .istore 9, 116, 0, 0),
  (116, .iload 9, 118, 0, 10),
  (118, .aload 0, 119, 0, 0),
  (119, .invokeinterface 12 15, 122, 0, 0),
  (122, .if_icmp .ge 158, 125, 0, 0),
  (125, .iload 8, 127, 0, 0),
  (127, .aload 0, 128, 0, 0),
  (128, .invokeinterface 12 6, 131, 0, 0),
  (131, .aload 0, 132, 0, 0),
  (132, .invokeinterface 12 17, 135, 0, 0),
  (135, .iload 9, 137, 0, 0),
  (137, .iaload, 138, 0, 0),
  (138, .iaload, 139, 0, 0),
  (139, .iload 6, 141, 0, 0),
  (141, .if_icmp .ne 148, 144, 0, 0),
  (144, .iconst 0, 145, 1, 0),
  (145, .goto 149, 148, 0, 0),
  (148, .iconst 0, 149, 0, 0),
  (149, .iadd, 150, 0, 10),
  (150, .istore 8, 152, 0, 0),
  (152, .iinc 9 0, 155, 1, 0),
  (155, .goto 116, 158, 0, 0),
  (158, .iload 6, 160, 0, 0),
  (160, .iconst 0, 162, (-4), 0),
  (162, .if_icmp .ne 169, 165, 0, 0),
  (165, .iconst 0, 166, 0, 0),
  (166, .goto 182, 169, 0, 0),
  (169, .aload 0, 170, 0, 0),
  (170, .invokeinterface 12 51, 173, 0, 0),
  (173, .iload 4, 175, 0, 0),
  (175, .iaload, 176, 0, 0),
  (176, .iload 7, 178, 0, 0),
  (178, .imul, 179, 0, 0),
  (179, .iload 8, 181, 0, 0),
  (181, .idiv, 182, 0, 0),
  (182, .istore 9, 184, 0, 6),
  (184, .iload 5, 186, 0, 0),
  (186, .iconst 0, 188, (-4), 0),
  (188, .if_icmp .eq 198, 191, 0, 0),
  (191, .iload 9, 193, 0, 0),
  (193, .iload 5, 195, 0, 0),
  (195, .if_icmp .ge 203, 198, 0, 0),
  (198, .iload 9, 200, 0, 10),
  (200, .goto 205, 203, 0, 0),
  (203, .iload 5, 205, 0, 0),
  (205, .istore 5, 207, 0, 1),
  (207, .iload 5, 209, 0, 6),
  (209, .ireturn, 210, 0, 0)]
def gme_196 : gMe := ((yX12_letOf, cX12_letOf, 10, (some .int)), (12, false), (12, 2, 0, 0), gco_196_0 ++ (gco_196_1))
def gco_197_0 : List gIn := [(0, .aload 0, 1, 0, 0),
  (1, .iload 1, 2, 0, 0),
  (2, .iload 2, 3, 0, 0),
  (3, .invokevirtual 196, 6, 0, 0),
  (6, .istore 3, 7, 0, 0),
  (7, .aload 0, 8, 0, 0),
  (8, .invokeinterface 12 23, 11, 0, 0),
  (11, .iconst 0, 13, 60, 0),
  (13, .iload 1, 14, 0, 0),
  (14, .imul, 15, 0, 0),
  (15, .iload 2, 16, 0, 0),
  (16, .iadd, 17, 0, 0),
  (17, .iaload, 18, 0, 0),
  (18, .iload 3, 19, 0, 0),
  (19, .isub, 20, 0, 0),
  (20, .istore 4, 22, 0, 0),
  (22, .iload 3, 23, 0, 0),
  (23, .iconst 0, 25, (-4), 0),
  (25, .if_icmp .eq 33, 28, 0, 0),
  (28, .iload 4, 30, 0, 0),
  (30, .ifCond .ge 37, 33, 0, 0),
  (33, .iconst 0, 34, 0, 1),
  (34, .goto 39, 37, 0, 0),
  (37, .iload 4, 39, 0, 0),
  (39, .ireturn, 40, 0, 1)]
def gme_197 : gMe := ((yX12_hotIn, cX12_hotIn, 5, (some .int)), (12, false), (12, 2, 0, 0), gco_197_0)
def gco_198_0 : List gIn := [(0, .iconst 0, 1, 0, 0),
  (1, .istore 2, 2, 0, 0),
  (2, .iconst 0, 3, 0, 0),
  (3, .istore 3, 4, 0, 0),
  (4, .iload 3, 5, 0, 4),
  (5, .iconst 0, 7, 50, 0),
  (7, .if_icmp .ge 43, 10, 0, 0),
  (10, .iload 2, 11, 0, 0),
  (11, .aload 0, 12, 0, 0),
  (12, .invokeinterface 12 23, 15, 0, 0),
  (15, .iconst 0, 17, 60, 0),
  (17, .iload 1, 18, 0, 0),
  (18, .imul, 19, 0, 0),
  (19, .iload 3, 20, 0, 0),
  (20, .iadd, 21, 0, 0),
  (21, .iaload, 22, 0, 0),
  (22, .ifCond .le 34, 25, 0, 0),
  (25, .aload 0, 26, 0, 0),
  (26, .iload 1, 27, 0, 0),
  (27, .iload 3, 28, 0, 0),
  (28, .invokevirtual 197, 31, 0, 0),
  (31, .goto 35, 34, 0, 0),
  (34, .iconst 0, 35, 0, 0),
  (35, .iadd, 36, 0, 4),
  (36, .istore 2, 37, 0, 0),
  (37, .iinc 3 0, 40, 1, 0),
  (40, .goto 4, 43, 0, 0),
  (43, .iload 2, 44, 0, 0),
  (44, .ireturn, 45, 0, 0)]
def gme_198 : gMe := ((yX12_hotOf, cX12_hotOf, 4, (some .int)), (12, false), (12, 1, 0, 0), gco_198_0)
def gco_199_0 : List gIn := [(0, .iconst 0, 1, 0, 0),
  (1, .istore 1, 2, 0, 0),
  (2, .iconst 0, 3, 0, 0),
  (3, .istore 2, 4, 0, 0),
  (4, .iload 2, 5, 0, 3),
  (5, .aload 0, 6, 0, 0),
  (6, .invokeinterface 12 15, 9, 0, 0),
  (9, .if_icmp .ge 26, 12, 0, 0),
  (12, .iload 1, 13, 0, 0),
  (13, .aload 0, 14, 0, 0),
  (14, .iload 2, 15, 0, 0),
  (15, .invokevirtual 198, 18, 0, 0),
  (18, .iadd, 19, 0, 0),
  (19, .istore 1, 20, 0, 0),
  (20, .iinc 2 0, 23, 1, 0),
  (23, .goto 4, 26, 0, 0),
  (26, .iload 1, 27, 0, 0),
  (27, .ireturn, 28, 0, 0)]
def gme_199 : gMe := ((yX12_hotAll, cX12_hotAll, 3, (some .int)), (12, false), (12, 0, 0, 0), gco_199_0)
def gco_200_0 : List gIn := [(0, .aload 0, 1, 0, 0),
  (1, .iload 1, 2, 0, 0),
  (2, .invokevirtual 162, 5, 0, 0),
  (5, .ifCond .ne 10, 8, 0, 0),
  (8, .iconst 0, 9, (-1), 0),
  (9, .ireturn, 10, 0, 0),
  (10, .iload 2, 11, 0, 0),
  (11, .i2l, 12, 0, 0),
  (12, .lconst 0, 15, 10, 0),
  (15, .lconst 0, 18, 18, 0),
  (18, .invokestatic 157, 21, 0, 0),
  (21, .ifCond .eq 39, 24, 0, 0),
  (24, .aload 0, 25, 0, 0),
  (25, .invokeinterface 12 22, 28, 0, 0),
  (28, .iconst 0, 30, 9, 0),
  (30, .iload 1, 31, 0, 0),
  (31, .imul, 32, 0, 0),
  (32, .iload 2, 33, 0, 0),
  (33, .iadd, 34, 0, 0),
  (34, .iconst 0, 36, 10, 0),
  (36, .isub, 37, 0, 0),
  (37, .iaload, 38, 0, 0),
  (38, .ireturn, 39, 0, 0),
  (39, .iload 2, 40, 0, 0),
  (40, .lookupswitch 132 #[(0, 84), (1, 91), (2, 98), (3, 105), (4, 112), (5, 119), (6, 126)], 84, 0, 0),
  (84, .aload 0, 85, 0, 0),
  (85, .invokeinterface 12 16, 88, 0, 0),
  (88, .iload 1, 89, 0, 0),
  (89, .iaload, 90, 0, 0),
  (90, .ireturn, 91, 0, 0),
  (91, .aload 0, 92, 0, 0),
  (92, .invokeinterface 12 17, 95, 0, 0),
  (95, .iload 1, 96, 0, 0),
  (96, .iaload, 97, 0, 0),
  (97, .ireturn, 98, 0, 0),
  (98, .aload 0, 99, 0, 0),
  (99, .invokeinterface 12 18, 102, 0, 0),
  (102, .iload 1, 103, 0, 0),
  (103, .iaload, 104, 0, 0),
  (104, .ireturn, 105, 0, 0),
  (105, .aload 0, 106, 0, 0),
  (106, .invokeinterface 12 19, 109, 0, 0),
  (109, .iload 1, 110, 0, 0),
  (110, .iaload, 111, 0, 0),
  (111, .ireturn, 112, 0, 0),
  (112, .aload 0, 113, 0, 0),
  (113, .invokeinterface 12 20, 116, 0, 0),
  (116, .iload 1, 117, 0, 0),
  (117, .iaload, 118, 0, 0),
  (118, .ireturn, 119, 0, 0),
  (119, .aload 0, 120, 0, 0),
  (120, .invokeinterface 12 21, 123, 0, 0),
  (123, .iload 1, 124, 0, 0),
  (124, .iaload, 125, 0, 0),
  (125, .ireturn, 126, 0, 0),
  (126, .aload 0, 127, 0, 0),
  (127, .iload 1, 128, 0, 0),
  (128, .invokevirtual 198, 131, 0, 0),
  (131, .ireturn, 132, 0, 0),
  (132, .iconst 0, 133, (-1), 0)]
def gco_200_1 : List gIn := [(133, .ireturn, 134, 0, 0)]
def gme_200 : gMe := ((yX12_wellOf, cX12_wellOf, 3, (some .int)), (12, false), (12, 2, 0, 0), gco_200_0 ++ (gco_200_1))
def gco_201_0 : List gIn := [(0, .aload 0, 1, 0, 0),
  (1, .iload 1, 2, 0, 0),
  (2, .invokevirtual 162, 5, 0, 0),
  (5, .ifCond .eq 32, 8, 0, 0),
  (8, .iload 2, 9, 0, 0),
  (9, .i2l, 10, 0, 0),
  (10, .lconst 0, 11, 0, 0),
  (11, .lconst 0, 14, 49, 0),
  (14, .invokestatic 157, 17, 0, 0),
  (17, .ifCond .eq 32, 20, 0, 0),
  (20, .iload 3, 21, 0, 0),
  (21, .i2l, 22, 0, 0),
  (22, .lconst 0, 23, 0, 0),
  (23, .lconst 0, 26, 2, 0),
  (26, .invokestatic 157, 29, 0, 0),
  (29, .ifCond .ne 34, 32, 0, 0),
  (32, .iconst 0, 33, (-1), 1),
  (33, .ireturn, 34, 0, 0),
  (34, .iload 3, 35, 0, 0),
  (35, .ifCond .ne 52, 38, 0, 0),
  (38, .aload 0, 39, 0, 0),
  (39, .invokeinterface 12 23, 42, 0, 0),
  (42, .iconst 0, 44, 60, 0),
  (44, .iload 1, 45, 0, 0),
  (45, .imul, 46, 0, 0),
  (46, .iload 2, 47, 0, 0),
  (47, .iadd, 48, 0, 0),
  (48, .iaload, 49, 0, 0),
  (49, .goto 72, 52, 0, 0),
  (52, .iload 3, 53, 0, 0),
  (53, .iconst 0, 54, 1, 0),
  (54, .if_icmp .ne 66, 57, 0, 0),
  (57, .aload 0, 58, 0, 0),
  (58, .iload 1, 59, 0, 0),
  (59, .iload 2, 60, 0, 0),
  (60, .invokevirtual 196, 63, 0, 0),
  (63, .goto 72, 66, 0, 0),
  (66, .aload 0, 67, 0, 0),
  (67, .iload 1, 68, 0, 0),
  (68, .iload 2, 69, 0, 0),
  (69, .invokevirtual 197, 72, 0, 0),
  (72, .ireturn, 73, 0, 1)]
def gme_201 : gMe := ((yX12_drew, cX12_drew, 4, (some .int)), (12, false), (12, 3, 0, 0), gco_201_0)
def gco_202_0 : List gIn := [(0, .iload 1, 1, 0, 0),
  (1, .ifCond .ne 9, 4, 0, 0),
  (4, .iconst 0, 6, 100, 0),
  (6, .goto 22, 9, 0, 0),
  (9, .iconst 0, 11, 100, 0),
  (11, .aload 0, 12, 0, 0),
  (12, .invokeinterface 12 27, 15, 0, 0),
  (15, .iload 1, 16, 0, 0),
  (16, .iconst 0, 17, 1, 0),
  (17, .isub, 18, 0, 0),
  (18, .iaload, 19, 0, 0),
  (19, .iconst 0, 20, 5, 0),
  (20, .idiv, 21, 0, 0),
  (21, .isub, 22, 0, 0),
  (22, .istore 2, 23, 0, 1),
  (23, .iload 2, 24, 0, 0),
  (24, .iconst 0, 25, 4, 0),
  (25, .if_icmp .ge 32, 28, 0, 0),
  (28, .iconst 0, 29, 4, 0),
  (29, .goto 33, 32, 0, 0),
  (32, .iload 2, 33, 0, 0),
  (33, .ireturn, 34, 0, 1)]
def gme_202 : gMe := ((yX12_priceOf, cX12_priceOf, 3, (some .int)), (12, false), (12, 1, 0, 0), gco_202_0)
def gco_203_0 : List gIn := [(0, .aload 0, 1, 0, 0),
  (1, .iload 1, 2, 0, 0),
  (2, .invokevirtual 161, 5, 0, 0),
  (5, .ifCond .eq 20, 8, 0, 0),
  (8, .iload 2, 9, 0, 0),
  (9, .i2l, 10, 0, 0),
  (10, .lconst 0, 11, 1, 0),
  (11, .lconst 0, 14, 999, 0),
  (14, .invokestatic 157, 17, 0, 0),
  (17, .ifCond .ne 22, 20, 0, 0),
  (20, .iconst 0, 21, (-1), 1),
  (21, .ireturn, 22, 0, 0),
  (22, .aload 0, 23, 0, 0),
  (23, .invokeinterface 12 24, 26, 0, 0),
  (26, .iload 1, 27, 0, 0),
  (27, .iaload, 28, 0, 0),
  (28, .iload 2, 29, 0, 0),
  (29, .if_icmp .ge 35, 32, 0, 0),
  (32, .iconst 0, 34, (-2), 0),
  (34, .ireturn, 35, 0, 0),
  (35, .iload 2, 36, 0, 0),
  (36, .aload 0, 37, 0, 0),
  (37, .aload 0, 38, 0, 0),
  (38, .invokevirtual 163, 41, 0, 0),
  (41, .invokevirtual 202, 44, 0, 0),
  (44, .imul, 45, 0, 0),
  (45, .istore 3, 46, 0, 0),
  (46, .aload 0, 47, 0, 0),
  (47, .invokeinterface 12 24, 50, 0, 0),
  (50, .iload 1, 51, 0, 0),
  (51, .dup2, 52, 0, 0),
  (52, .iaload, 53, 0, 0),
  (53, .iload 2, 54, 0, 0),
  (54, .isub, 55, 0, 0),
  (55, .iastore, 56, 0, 0),
  (56, .aload 0, 57, 0, 0),
  (57, .invokeinterface 12 25, 60, 0, 0),
  (60, .iload 1, 61, 0, 0),
  (61, .dup2, 62, 0, 0),
  (62, .iaload, 63, 0, 0),
  (63, .iload 2, 64, 0, 0),
  (64, .iadd, 65, 0, 0),
  (65, .iastore, 66, 0, 0),
  (66, .aload 0, 67, 0, 0),
  (67, .invokeinterface 12 26, 70, 0, 0),
  (70, .iload 1, 71, 0, 0),
  (71, .dup2, 72, 0, 0),
  (72, .iaload, 73, 0, 0),
  (73, .iload 3, 74, 0, 0),
  (74, .iadd, 75, 0, 0),
  (75, .iastore, 76, 0, 0),
  (76, .aload 0, 77, 0, 0),
  (77, .invokeinterface 12 27, 80, 0, 0),
  (80, .aload 0, 81, 0, 0),
  (81, .invokevirtual 163, 84, 0, 0),
  (84, .dup2, 85, 0, 0),
  (85, .iaload, 86, 0, 0),
  (86, .iload 2, 87, 0, 0),
  (87, .iadd, 88, 0, 0),
  (88, .iastore, 89, 0, 0)]
def gco_203_1 : List gIn := [(89, .iload 3, 90, 0, 0),
  (90, .ireturn, 91, 0, 0)]
def gme_203 : gMe := ((yX12_sell, cX12_sell, 4, (some .int)), (12, false), (12, 2, 0, 0), gco_203_0 ++ (gco_203_1))
def gco_204_0 : List gIn := [(0, .iload 1, 1, 0, 0),
  (1, .i2l, 2, 0, 0),
  (2, .lconst 0, 3, 0, 0),
  (3, .aload 0, 4, 0, 0),
  (4, .invokevirtual 163, 7, 0, 0),
  (7, .i2l, 8, 0, 0),
  (8, .invokestatic 157, 11, 0, 0),
  (11, .ifCond .eq 22, 14, 0, 0),
  (14, .aload 0, 15, 0, 0),
  (15, .iload 1, 16, 0, 0),
  (16, .invokevirtual 202, 19, 0, 0),
  (19, .goto 23, 22, 0, 0),
  (22, .iconst 0, 23, (-1), 0),
  (23, .ireturn, 24, 0, 1)]
def gme_204 : gMe := ((yX12_price, cX12_price, 2, (some .int)), (12, false), (12, 1, 0, 0), gco_204_0)
def gco_205_0 : List gIn := [(0, .aload 0, 1, 0, 0),
  (1, .invokeinterface 12 37, 4, 0, 0),
  (4, .iconst 0, 6, 8, 0),
  (6, .iadd, 7, 0, 0),
  (7, .iconst 0, 10, 160, 0),
  (10, .if_icmp .le 16, 13, 0, 0),
  (13, .iconst 0, 15, (-3), 0),
  (15, .ireturn, 16, 0, 0),
  (16, .iconst 0, 18, 56, 0),
  (18, .istore 3, 19, 0, 0),
  (19, .iload 3, 20, 0, 4),
  (20, .ifCond .lt 56, 23, 0, 0),
  (23, .aload 0, 24, 0, 0),
  (24, .invokeinterface 12 36, 27, 0, 0),
  (27, .aload 0, 28, 0, 0),
  (28, .invokeinterface 12 37, 31, 0, 0),
  (31, .lload 1, 32, 0, 0),
  (32, .iload 3, 33, 0, 0),
  (33, .lshr, 34, 0, 0),
  (34, .l2i, 35, 0, 0),
  (35, .iconst 0, 38, 255, 0),
  (38, .iand, 39, 0, 0),
  (39, .iastore, 40, 0, 0),
  (40, .aload 0, 41, 0, 0),
  (41, .dup, 42, 0, 0),
  (42, .invokeinterface 12 37, 45, 0, 0),
  (45, .iconst 0, 46, 1, 0),
  (46, .iadd, 47, 0, 0),
  (47, .multianewarray 12 37, 50, 0, 0),
  (50, .iinc 3 0, 53, (-8), 0),
  (53, .goto 19, 56, 0, 0),
  (56, .aload 0, 57, 0, 0),
  (57, .invokeinterface 12 37, 60, 0, 0),
  (60, .ireturn, 61, 0, 0)]
def gme_205 : gMe := ((yX12_feed, cX12_feed, 4, (some .int)), (12, false), (12, 1, 0, 0), gco_205_0)
def gco_206_0 : List gIn := [(0, .iload 1, 1, 0, 0),
  (1, .i2l, 2, 0, 0),
  (2, .lconst 0, 3, 0, 0),
  (3, .aload 0, 4, 0, 0),
  (4, .invokeinterface 12 37, 7, 0, 0),
  (7, .i2l, 8, 0, 0),
  (8, .invokestatic 157, 11, 0, 0),
  (11, .ifCond .ne 16, 14, 0, 0),
  (14, .iconst 0, 15, (-1), 0),
  (15, .ireturn, 16, 0, 0),
  (16, .aload 0, 17, 0, 0),
  (17, .invokeinterface 12 37, 20, 0, 0),
  (20, .istore 2, 21, 0, 0),
  (21, .aload 0, 22, 0, 0),
  (22, .iload 1, 23, 0, 0),
  (23, .multianewarray 12 37, 26, 0, 0),
  (26, .iload 2, 27, 0, 0),
  (27, .ireturn, 28, 0, 0)]
def gme_206 : gMe := ((yX12_end, cX12_end, 3, (some .int)), (12, false), (12, 1, 0, 0), gco_206_0)
def gco_207_0 : List gIn := [(0, .iload 1, 1, 0, 0),
  (1, .aload 0, 2, 0, 0),
  (2, .invokeinterface 12 37, 5, 0, 0),
  (5, .if_icmp .ge 17, 8, 0, 0),
  (8, .aload 0, 9, 0, 0),
  (9, .invokeinterface 12 36, 12, 0, 0),
  (12, .iload 1, 13, 0, 0),
  (13, .iaload, 14, 0, 0),
  (14, .goto 19, 17, 0, 0),
  (17, .iconst 0, 19, (-4), 0),
  (19, .ireturn, 20, 0, 1)]
def gme_207 : gMe := ((yX12_byteAt, cX12_byteAt, 2, (some .int)), (12, false), (12, 1, 0, 0), gco_207_0)
def gco_208_0 : List gIn := [(0, .aload 0, 1, 0, 0),
  (1, .invokeinterface 12 39, 4, 0, 0),
  (4, .ifCond .ne 20, 7, 0, 0),
  (7, .aload 0, 8, 0, 0),
  (8, .iload 1, 9, 0, 0),
  (9, .multianewarray 12 39, 12, 0, 0),
  (12, .aload 0, 13, 0, 0),
  (13, .aload 0, 14, 0, 0),
  (14, .invokeinterface 12 42, 17, 0, 0),
  (17, .multianewarray 12 40, 20, 0, 0),
  (20, .return_, 21, 0, 1)]
def gme_208 : gMe := ((yX12_fails, cX12_fails, 2, none), (12, false), (12, 1, 0, 0), gco_208_0)
def gco_209_0 : List gIn := [(0, .iconst 0, 1, 0, 0),
  (1, .istore 3, 2, 0, 0),
  (2, .iload 3, 3, 0, 4),
  (3, .iconst 0, 5, 7, 0),
  (5, .if_icmp .ge 103, 8, 0, 0),
  (8, .iload 2, 9, 0, 0),
  (9, .iload 1, 10, 0, 0),
  (10, .isub, 11, 0, 0),
  (11, .aload 0, 12, 0, 0),
  (12, .invokeinterface 12 45, 15, 0, 0),
  (15, .iload 3, 16, 0, 0),
  (16, .iconst 0, 17, 1, 0),
  (17, .iadd, 18, 0, 0),
  (18, .iaload, 19, 0, 0),
  (19, .aload 0, 20, 0, 0),
  (20, .invokeinterface 12 45, 23, 0, 0),
  (23, .iload 3, 24, 0, 0),
  (24, .iaload, 25, 0, 0),
  (25, .isub, 26, 0, 0),
  (26, .if_icmp .ne 33, 29, 0, 0),
  (29, .iconst 0, 30, 1, 0),
  (30, .goto 34, 33, 0, 0),
  (33, .iconst 0, 34, 0, 0),
  (34, .istore 4, 36, 0, 4),
  (36, .iconst 0, 37, 0, 0),
  (37, .istore 5, 39, 0, 0),
  (39, .iload 5, 41, 0, 6),
  (41, .iload 2, 42, 0, 0),
  (42, .iload 1, 43, 0, 0),
  (43, .isub, 44, 0, 0),
  (44, .if_icmp .ge 90, 47, 0, 0),
  (47, .iload 4, 49, 0, 0),
  (49, .ifCond .eq 90, 52, 0, 0),
  (52, .aload 0, 53, 0, 0),
  (53, .iload 1, 54, 0, 0),
  (54, .iload 5, 56, 0, 0),
  (56, .iadd, 57, 0, 0),
  (57, .invokevirtual 207, 60, 0, 0),
  (60, .aload 0, 61, 0, 0),
  (61, .invokeinterface 12 46, 64, 0, 0),
  (64, .aload 0, 65, 0, 0),
  (65, .invokeinterface 12 45, 68, 0, 0),
  (68, .iload 3, 69, 0, 0),
  (69, .iaload, 70, 0, 0),
  (70, .iload 5, 72, 0, 0),
  (72, .iadd, 73, 0, 0),
  (73, .iaload, 74, 0, 0),
  (74, .if_icmp .ne 81, 77, 0, 0),
  (77, .iconst 0, 78, 1, 0),
  (78, .goto 82, 81, 0, 0),
  (81, .iconst 0, 82, 0, 0),
  (82, .istore 4, 84, 0, 6),
  (84, .iinc 5 0, 87, 1, 0),
  (87, .goto 39, 90, 0, 0),
  (90, .iload 4, 92, 0, 5),
  (92, .ifCond .eq 97, 95, 0, 0),
  (95, .iload 3, 96, 0, 0),
  (96, .ireturn, 97, 0, 0),
  (97, .iinc 3 0, 100, 1, 0),
  (100, .goto 2, 103, 0, 0)]
def gco_209_1 : List gIn := [(103, .iconst 0, 105, (-4), 0),
  (105, .ireturn, 106, 0, 0)]
def gme_209 : gMe := ((yX12_nameAt, cX12_nameAt, 6, (some .int)), (12, false), (12, 2, 0, 0), gco_209_0 ++ (gco_209_1))
def gco_210_0 : List gIn := [(0, .aload 0, 1, 0, 0),
  (1, .invokeinterface 12 39, 4, 0, 0),
  (4, .ifCond .le 8, 7, 0, 0),
  (7, .return_, 8, 0, 0),
  (8, .aload 0, 9, 0, 1),
  (9, .aload 0, 10, 0, 0),
  (10, .invokeinterface 12 41, 13, 0, 0),
  (13, .invokevirtual 207, 16, 0, 0),
  (16, .iconst 0, 18, 32, 0),
  (18, .if_icmp .ne 34, 21, 0, 0),
  (21, .aload 0, 22, 0, 0),
  (22, .dup, 23, 0, 0),
  (23, .invokeinterface 12 41, 26, 0, 0),
  (26, .iconst 0, 27, 1, 0),
  (27, .iadd, 28, 0, 0),
  (28, .multianewarray 12 41, 31, 0, 0),
  (31, .goto 8, 34, 0, 0),
  (34, .aload 0, 35, 0, 0),
  (35, .aload 0, 36, 0, 0),
  (36, .invokeinterface 12 41, 39, 0, 0),
  (39, .multianewarray 12 42, 42, 0, 0),
  (42, .aload 0, 43, 0, 0),
  (43, .aload 0, 44, 0, 0),
  (44, .invokeinterface 12 41, 47, 0, 0),
  (47, .invokevirtual 207, 50, 0, 0),
  (50, .istore 1, 51, 0, 0),
  (51, .aload 0, 52, 0, 0),
  (52, .iconst 0, 53, 0, 0),
  (53, .multianewarray 12 44, 56, 0, 0),
  (56, .iload 1, 57, 0, 0),
  (57, .iconst 0, 59, (-4), 0),
  (59, .if_icmp .ne 70, 62, 0, 0),
  (62, .aload 0, 63, 0, 0),
  (63, .iconst 0, 64, 0, 0),
  (64, .multianewarray 12 43, 67, 0, 0),
  (67, .goto 299, 70, 0, 0),
  (70, .iload 1, 71, 0, 0),
  (71, .i2l, 72, 0, 0),
  (72, .lconst 0, 75, 97, 0),
  (75, .lconst 0, 78, 122, 0),
  (78, .invokestatic 157, 81, 0, 0),
  (81, .ifCond .eq 156, 84, 0, 0),
  (84, .aload 0, 85, 0, 1),
  (85, .aload 0, 86, 0, 0),
  (86, .invokeinterface 12 41, 89, 0, 0),
  (89, .invokevirtual 207, 92, 0, 0),
  (92, .i2l, 93, 0, 0),
  (93, .lconst 0, 96, 97, 0),
  (96, .lconst 0, 99, 122, 0),
  (99, .invokestatic 157, 102, 0, 0),
  (102, .ifCond .eq 118, 105, 0, 0),
  (105, .aload 0, 106, 0, 0),
  (106, .dup, 107, 0, 0),
  (107, .invokeinterface 12 41, 110, 0, 0),
  (110, .iconst 0, 111, 1, 0),
  (111, .iadd, 112, 0, 0),
  (112, .multianewarray 12 41, 115, 0, 0),
  (115, .goto 84, 118, 0, 0),
  (118, .aload 0, 119, 0, 0),
  (119, .iconst 0, 120, 1, 0)]
def gco_210_1 : List gIn := [(120, .multianewarray 12 43, 123, 0, 0),
  (123, .aload 0, 124, 0, 0),
  (124, .aload 0, 125, 0, 0),
  (125, .aload 0, 126, 0, 0),
  (126, .invokeinterface 12 42, 129, 0, 0),
  (129, .aload 0, 130, 0, 0),
  (130, .invokeinterface 12 41, 133, 0, 0),
  (133, .invokevirtual 209, 136, 0, 0),
  (136, .multianewarray 12 44, 139, 0, 0),
  (139, .aload 0, 140, 0, 0),
  (140, .invokeinterface 12 44, 143, 0, 0),
  (143, .iconst 0, 145, (-4), 0),
  (145, .if_icmp .ne 299, 148, 0, 0),
  (148, .aload 0, 149, 0, 0),
  (149, .iconst 0, 150, 1, 0),
  (150, .invokevirtual 208, 153, 0, 0),
  (153, .goto 299, 156, 0, 0),
  (156, .iload 1, 157, 0, 0),
  (157, .i2l, 158, 0, 0),
  (158, .lconst 0, 161, 48, 0),
  (161, .lconst 0, 164, 57, 0),
  (164, .invokestatic 157, 167, 0, 0),
  (167, .ifCond .eq 273, 170, 0, 0),
  (170, .aload 0, 171, 0, 1),
  (171, .aload 0, 172, 0, 0),
  (172, .invokeinterface 12 41, 175, 0, 0),
  (175, .invokevirtual 207, 178, 0, 0),
  (178, .i2l, 179, 0, 0),
  (179, .lconst 0, 182, 48, 0),
  (182, .lconst 0, 185, 57, 0),
  (185, .invokestatic 157, 188, 0, 0),
  (188, .ifCond .eq 247, 191, 0, 0),
  (191, .aload 0, 192, 0, 0),
  (192, .aload 0, 193, 0, 0),
  (193, .invokeinterface 12 41, 196, 0, 0),
  (196, .aload 0, 197, 0, 0),
  (197, .invokeinterface 12 42, 200, 0, 0),
  (200, .isub, 201, 0, 0),
  (201, .iconst 0, 202, 3, 0),
  (202, .if_icmp .ge 227, 205, 0, 0),
  (205, .iconst 0, 207, 10, 0),
  (207, .aload 0, 208, 0, 0),
  (208, .invokeinterface 12 44, 211, 0, 0),
  (211, .imul, 212, 0, 0),
  (212, .aload 0, 213, 0, 0),
  (213, .aload 0, 214, 0, 0),
  (214, .invokeinterface 12 41, 217, 0, 0),
  (217, .invokevirtual 207, 220, 0, 0),
  (220, .iadd, 221, 0, 0),
  (221, .iconst 0, 223, 48, 0),
  (223, .isub, 224, 0, 0),
  (224, .goto 231, 227, 0, 0),
  (227, .aload 0, 228, 0, 0),
  (228, .invokeinterface 12 44, 231, 0, 0),
  (231, .multianewarray 12 44, 234, 0, 1),
  (234, .aload 0, 235, 0, 0),
  (235, .dup, 236, 0, 0),
  (236, .invokeinterface 12 41, 239, 0, 0),
  (239, .iconst 0, 240, 1, 0),
  (240, .iadd, 241, 0, 0)]
def gco_210_2 : List gIn := [(241, .multianewarray 12 41, 244, 0, 0),
  (244, .goto 170, 247, 0, 0),
  (247, .aload 0, 248, 0, 0),
  (248, .iconst 0, 249, 2, 0),
  (249, .multianewarray 12 43, 252, 0, 0),
  (252, .aload 0, 253, 0, 0),
  (253, .invokeinterface 12 41, 256, 0, 0),
  (256, .aload 0, 257, 0, 0),
  (257, .invokeinterface 12 42, 260, 0, 0),
  (260, .isub, 261, 0, 0),
  (261, .iconst 0, 262, 3, 0),
  (262, .if_icmp .le 299, 265, 0, 0),
  (265, .aload 0, 266, 0, 0),
  (266, .iconst 0, 267, 1, 0),
  (267, .invokevirtual 208, 270, 0, 0),
  (270, .goto 299, 273, 0, 0),
  (273, .aload 0, 274, 0, 0),
  (274, .iconst 0, 275, 3, 0),
  (275, .multianewarray 12 43, 278, 0, 0),
  (278, .aload 0, 279, 0, 0),
  (279, .dup, 280, 0, 0),
  (280, .invokeinterface 12 41, 283, 0, 0),
  (283, .iconst 0, 284, 1, 0),
  (284, .iadd, 285, 0, 0),
  (285, .multianewarray 12 41, 288, 0, 0),
  (288, .iload 1, 289, 0, 0),
  (289, .iconst 0, 291, 59, 0),
  (291, .if_icmp .eq 299, 294, 0, 0),
  (294, .aload 0, 295, 0, 0),
  (295, .iconst 0, 296, 1, 0),
  (296, .invokevirtual 208, 299, 0, 0),
  (299, .return_, 300, 0, 1)]
def gme_210 : gMe := ((yX12_next, cX12_next, 2, none), (12, false), (12, 0, 0, 0), gco_210_0 ++ (gco_210_1 ++ (gco_210_2)))
def gco_211_0 : List gIn := [(0, .aload 0, 1, 0, 0),
  (1, .invokeinterface 12 39, 4, 0, 0),
  (4, .ifCond .ne 23, 7, 0, 0),
  (7, .aload 0, 8, 0, 0),
  (8, .invokeinterface 12 43, 11, 0, 0),
  (11, .iconst 0, 12, 2, 0),
  (12, .if_icmp .eq 23, 15, 0, 0),
  (15, .aload 0, 16, 0, 0),
  (16, .iconst 0, 17, 2, 0),
  (17, .invokevirtual 208, 20, 0, 0),
  (20, .goto 43, 23, 0, 0),
  (23, .aload 0, 24, 0, 2),
  (24, .invokeinterface 12 39, 27, 0, 0),
  (27, .ifCond .ne 43, 30, 0, 0),
  (30, .aload 0, 31, 0, 0),
  (31, .invokeinterface 12 44, 34, 0, 0),
  (34, .iload 1, 35, 0, 0),
  (35, .if_icmp .le 43, 38, 0, 0),
  (38, .aload 0, 39, 0, 0),
  (39, .iconst 0, 40, 3, 0),
  (40, .invokevirtual 208, 43, 0, 0),
  (43, .aload 0, 44, 0, 1),
  (44, .invokeinterface 12 44, 47, 0, 0),
  (47, .ireturn, 48, 0, 0)]
def gme_211 : gMe := ((yX12_number, cX12_number, 2, (some .int)), (12, false), (12, 1, 0, 0), gco_211_0)
def gco_212_0 : List gIn := [(0, .iconst 0, 1, 0, 0),
  (1, .istore 4, 3, 0, 0),
  (3, .iload 4, 5, 0, 5),
  (5, .aload 0, 6, 0, 0),
  (6, .invokeinterface 12 53, 9, 0, 0),
  (9, .if_icmp .ge 68, 12, 0, 0),
  (12, .aload 0, 13, 0, 0),
  (13, .invokeinterface 12 39, 16, 0, 0),
  (16, .ifCond .ne 68, 19, 0, 0),
  (19, .aload 0, 20, 0, 0),
  (20, .invokeinterface 12 54, 23, 0, 0),
  (23, .iload 4, 25, 0, 0),
  (25, .iaload, 26, 0, 0),
  (26, .iload 1, 27, 0, 0),
  (27, .if_icmp .ne 62, 30, 0, 0),
  (30, .aload 0, 31, 0, 0),
  (31, .invokeinterface 12 55, 34, 0, 0),
  (34, .iload 4, 36, 0, 0),
  (36, .iaload, 37, 0, 0),
  (37, .iload 2, 38, 0, 0),
  (38, .if_icmp .ne 62, 41, 0, 0),
  (41, .iload 1, 42, 0, 0),
  (42, .iconst 0, 43, 5, 0),
  (43, .if_icmp .ne 57, 46, 0, 0),
  (46, .aload 0, 47, 0, 0),
  (47, .invokeinterface 12 56, 50, 0, 0),
  (50, .iload 4, 52, 0, 0),
  (52, .iaload, 53, 0, 0),
  (53, .iload 3, 54, 0, 0),
  (54, .if_icmp .ne 62, 57, 0, 0),
  (57, .aload 0, 58, 0, 5),
  (58, .iconst 0, 59, 5, 0),
  (59, .invokevirtual 208, 62, 0, 0),
  (62, .iinc 4 0, 65, 1, 5),
  (65, .goto 3, 68, 0, 0),
  (68, .return_, 69, 0, 1)]
def gme_212 : gMe := ((yX12_once, cX12_once, 5, none), (12, false), (12, 3, 0, 0), gco_212_0)
def gco_213_0 : List gIn := [(0, .aload 0, 1, 0, 0),
  (1, .invokeinterface 12 43, 4, 0, 0),
  (4, .iconst 0, 5, 1, 0),
  (5, .if_icmp .eq 16, 8, 0, 0),
  (8, .aload 0, 9, 0, 0),
  (9, .iconst 0, 10, 2, 0),
  (10, .invokevirtual 208, 13, 0, 0),
  (13, .goto 30, 16, 0, 0),
  (16, .aload 0, 17, 0, 0),
  (17, .invokeinterface 12 53, 20, 0, 0),
  (20, .iconst 0, 22, 12, 0),
  (22, .if_icmp .ne 30, 25, 0, 0),
  (25, .aload 0, 26, 0, 0),
  (26, .iconst 0, 27, 4, 0),
  (27, .invokevirtual 208, 30, 0, 0),
  (30, .iconst 0, 31, 0, 1),
  (31, .istore 1, 32, 0, 0),
  (32, .aload 0, 33, 0, 0),
  (33, .invokeinterface 12 39, 36, 0, 0),
  (36, .ifCond .ne 92, 39, 0, 0),
  (39, .aload 0, 40, 0, 0),
  (40, .invokeinterface 12 44, 43, 0, 0),
  (43, .iconst 0, 45, 6, 0),
  (45, .if_icmp .ne 92, 48, 0, 0),
  (48, .aload 0, 49, 0, 0),
  (49, .invokevirtual 210, 52, 0, 0),
  (52, .aload 0, 53, 0, 0),
  (53, .iconst 0, 55, 49, 0),
  (55, .invokevirtual 211, 58, 0, 0),
  (58, .istore 1, 59, 0, 0),
  (59, .aload 0, 60, 0, 0),
  (60, .invokevirtual 210, 63, 0, 0),
  (63, .aload 0, 64, 0, 0),
  (64, .invokeinterface 12 39, 67, 0, 0),
  (67, .ifCond .ne 92, 70, 0, 0),
  (70, .aload 0, 71, 0, 0),
  (71, .invokeinterface 12 43, 74, 0, 0),
  (74, .iconst 0, 75, 1, 0),
  (75, .if_icmp .ne 87, 78, 0, 0),
  (78, .aload 0, 79, 0, 0),
  (79, .invokeinterface 12 44, 82, 0, 0),
  (82, .iconst 0, 84, 6, 0),
  (84, .if_icmp .ne 92, 87, 0, 0),
  (87, .aload 0, 88, 0, 2),
  (88, .iconst 0, 89, 2, 0),
  (89, .invokevirtual 208, 92, 0, 0),
  (92, .aload 0, 93, 0, 2),
  (93, .invokeinterface 12 39, 96, 0, 0),
  (96, .ifCond .le 100, 99, 0, 0),
  (99, .return_, 100, 0, 0),
  (100, .aload 0, 101, 0, 0),
  (101, .invokeinterface 12 44, 104, 0, 0),
  (104, .istore 2, 105, 0, 0),
  (105, .iconst 0, 106, 0, 0),
  (106, .istore 3, 107, 0, 0),
  (107, .iload 2, 108, 0, 0),
  (108, .iconst 0, 109, 5, 0),
  (109, .if_icmp .eq 119, 112, 0, 0),
  (112, .aload 0, 113, 0, 0),
  (113, .iload 2, 114, 0, 0)]
def gco_213_1 : List gIn := [(114, .iload 1, 115, 0, 0),
  (115, .iconst 0, 116, 0, 0),
  (116, .invokevirtual 212, 119, 0, 0),
  (119, .aload 0, 120, 0, 4),
  (120, .invokevirtual 210, 123, 0, 0),
  (123, .iload 2, 124, 0, 0),
  (124, .iconst 0, 125, 4, 0),
  (125, .if_icmp .eq 155, 128, 0, 0),
  (128, .aload 0, 129, 0, 0),
  (129, .aload 0, 130, 0, 0),
  (130, .invokeinterface 12 47, 133, 0, 0),
  (133, .iload 2, 134, 0, 0),
  (134, .iaload, 135, 0, 0),
  (135, .invokevirtual 211, 138, 0, 0),
  (138, .istore 3, 139, 0, 0),
  (139, .iload 2, 140, 0, 0),
  (140, .iconst 0, 141, 5, 0),
  (141, .if_icmp .ne 151, 144, 0, 0),
  (144, .aload 0, 145, 0, 0),
  (145, .iload 2, 146, 0, 0),
  (146, .iload 1, 147, 0, 0),
  (147, .iload 3, 148, 0, 0),
  (148, .invokevirtual 212, 151, 0, 0),
  (151, .aload 0, 152, 0, 4),
  (152, .invokevirtual 210, 155, 0, 0),
  (155, .aload 0, 156, 0, 4),
  (156, .invokeinterface 12 39, 159, 0, 0),
  (159, .ifCond .ne 175, 162, 0, 0),
  (162, .aload 0, 163, 0, 0),
  (163, .invokeinterface 12 43, 166, 0, 0),
  (166, .iconst 0, 167, 3, 0),
  (167, .if_icmp .eq 175, 170, 0, 0),
  (170, .aload 0, 171, 0, 0),
  (171, .iconst 0, 172, 2, 0),
  (172, .invokevirtual 208, 175, 0, 0),
  (175, .aload 0, 176, 0, 4),
  (176, .invokeinterface 12 39, 179, 0, 0),
  (179, .ifCond .ne 226, 182, 0, 0),
  (182, .aload 0, 183, 0, 0),
  (183, .invokeinterface 12 54, 186, 0, 0),
  (186, .aload 0, 187, 0, 0),
  (187, .invokeinterface 12 53, 190, 0, 0),
  (190, .iload 2, 191, 0, 0),
  (191, .iastore, 192, 0, 0),
  (192, .aload 0, 193, 0, 0),
  (193, .invokeinterface 12 55, 196, 0, 0),
  (196, .aload 0, 197, 0, 0),
  (197, .invokeinterface 12 53, 200, 0, 0),
  (200, .iload 1, 201, 0, 0),
  (201, .iastore, 202, 0, 0),
  (202, .aload 0, 203, 0, 0),
  (203, .invokeinterface 12 56, 206, 0, 0),
  (206, .aload 0, 207, 0, 0),
  (207, .invokeinterface 12 53, 210, 0, 0),
  (210, .iload 3, 211, 0, 0),
  (211, .iastore, 212, 0, 0),
  (212, .aload 0, 213, 0, 0),
  (213, .dup, 214, 0, 0),
  (214, .invokeinterface 12 53, 217, 0, 0),
  (217, .iconst 0, 218, 1, 0)]
def gco_213_2 : List gIn := [(218, .iadd, 219, 0, 0),
  (219, .multianewarray 12 53, 222, 0, 0),
  (222, .aload 0, 223, 0, 0),
  (223, .invokevirtual 210, 226, 0, 0),
  (226, .return_, 227, 0, 1)]
def gme_213 : gMe := ((yX12_oneLine, cX12_oneLine, 4, none), (12, false), (12, 0, 0, 0), gco_213_0 ++ (gco_213_1 ++ (gco_213_2)))
def gco_214_0 : List gIn := [(0, .aload 0, 1, 0, 0),
  (1, .iconst 0, 2, 0, 0),
  (2, .multianewarray 12 39, 5, 0, 0),
  (5, .aload 0, 6, 0, 0),
  (6, .iconst 0, 7, 0, 0),
  (7, .multianewarray 12 41, 10, 0, 0),
  (10, .aload 0, 11, 0, 0),
  (11, .iconst 0, 12, 0, 0),
  (12, .multianewarray 12 53, 15, 0, 0),
  (15, .aload 0, 16, 0, 0),
  (16, .invokevirtual 210, 19, 0, 0),
  (19, .aload 0, 20, 0, 1),
  (20, .invokeinterface 12 39, 23, 0, 0),
  (23, .ifCond .ne 40, 26, 0, 0),
  (26, .aload 0, 27, 0, 0),
  (27, .invokeinterface 12 43, 30, 0, 0),
  (30, .ifCond .eq 40, 33, 0, 0),
  (33, .aload 0, 34, 0, 0),
  (34, .invokevirtual 213, 37, 0, 0),
  (37, .goto 19, 40, 0, 0),
  (40, .aload 0, 41, 0, 1),
  (41, .iconst 0, 42, 0, 0),
  (42, .multianewarray 12 37, 45, 0, 0),
  (45, .aload 0, 46, 0, 0),
  (46, .aload 0, 47, 0, 0),
  (47, .invokeinterface 12 39, 50, 0, 0),
  (50, .multianewarray 12 38, 53, 0, 0),
  (53, .aload 0, 54, 0, 0),
  (54, .invokeinterface 12 39, 57, 0, 0),
  (57, .ifCond .le 68, 60, 0, 0),
  (60, .iconst 0, 62, (-10), 0),
  (62, .aload 0, 63, 0, 0),
  (63, .invokeinterface 12 40, 66, 0, 0),
  (66, .isub, 67, 0, 0),
  (67, .ireturn, 68, 0, 0),
  (68, .aload 0, 69, 0, 0),
  (69, .aload 0, 70, 0, 0),
  (70, .invokeinterface 12 53, 73, 0, 0),
  (73, .multianewarray 12 48, 76, 0, 0),
  (76, .iconst 0, 77, 0, 0),
  (77, .istore 1, 78, 0, 0),
  (78, .iload 1, 79, 0, 2),
  (79, .iconst 0, 81, 12, 0),
  (81, .if_icmp .ge 133, 84, 0, 0),
  (84, .aload 0, 85, 0, 0),
  (85, .invokeinterface 12 49, 88, 0, 0),
  (88, .iload 1, 89, 0, 0),
  (89, .aload 0, 90, 0, 0),
  (90, .invokeinterface 12 54, 93, 0, 0),
  (93, .iload 1, 94, 0, 0),
  (94, .iaload, 95, 0, 0),
  (95, .iastore, 96, 0, 0),
  (96, .aload 0, 97, 0, 0),
  (97, .invokeinterface 12 50, 100, 0, 0),
  (100, .iload 1, 101, 0, 0),
  (101, .aload 0, 102, 0, 0),
  (102, .invokeinterface 12 55, 105, 0, 0),
  (105, .iload 1, 106, 0, 0),
  (106, .iaload, 107, 0, 0),
  (107, .iastore, 108, 0, 0)]
def gco_214_1 : List gIn := [(108, .aload 0, 109, 0, 0),
  (109, .invokeinterface 12 51, 112, 0, 0),
  (112, .iload 1, 113, 0, 0),
  (113, .aload 0, 114, 0, 0),
  (114, .invokeinterface 12 56, 117, 0, 0),
  (117, .iload 1, 118, 0, 0),
  (118, .iaload, 119, 0, 0),
  (119, .iastore, 120, 0, 0),
  (120, .aload 0, 121, 0, 0),
  (121, .invokeinterface 12 52, 124, 0, 0),
  (124, .iload 1, 125, 0, 0),
  (125, .iconst 0, 126, 0, 0),
  (126, .iastore, 127, 0, 0),
  (127, .iinc 1 0, 130, 1, 0),
  (130, .goto 78, 133, 0, 0),
  (133, .aload 0, 134, 0, 0),
  (134, .invokeinterface 12 48, 137, 0, 0),
  (137, .ireturn, 138, 0, 0)]
def gme_214 : gMe := ((yX12_orders, cX12_orders, 2, (some .int)), (12, false), (12, 0, 0, 0), gco_214_0 ++ (gco_214_1))
def gco_215_0 : List gIn := [(0, .aload 0, 1, 0, 0),
  (1, .invokeinterface 12 38, 4, 0, 0),
  (4, .ireturn, 5, 0, 0)]
def gme_215 : gMe := ((yX12_fault, cX12_fault, 1, (some .int)), (12, false), (12, 0, 0, 0), gco_215_0)
def gco_216_0 : List gIn := [(0, .iconst 0, 2, (-4), 0),
  (2, .istore 3, 3, 0, 0),
  (3, .iconst 0, 4, 0, 0),
  (4, .istore 4, 6, 0, 0),
  (6, .iload 4, 8, 0, 5),
  (8, .aload 0, 9, 0, 0),
  (9, .invokeinterface 12 48, 12, 0, 0),
  (12, .if_icmp .ge 78, 15, 0, 0),
  (15, .aload 0, 16, 0, 0),
  (16, .invokeinterface 12 49, 19, 0, 0),
  (19, .iload 4, 21, 0, 0),
  (21, .iaload, 22, 0, 0),
  (22, .iload 1, 23, 0, 0),
  (23, .if_icmp .ne 72, 26, 0, 0),
  (26, .aload 0, 27, 0, 0),
  (27, .invokeinterface 12 52, 30, 0, 0),
  (30, .iload 4, 32, 0, 0),
  (32, .iaload, 33, 0, 0),
  (33, .ifCond .ne 72, 36, 0, 0),
  (36, .aload 0, 37, 0, 0),
  (37, .invokeinterface 12 50, 40, 0, 0),
  (40, .iload 4, 42, 0, 0),
  (42, .iaload, 43, 0, 0),
  (43, .iload 2, 44, 0, 0),
  (44, .if_icmp .gt 72, 47, 0, 0),
  (47, .iload 3, 48, 0, 0),
  (48, .iconst 0, 50, (-4), 0),
  (50, .if_icmp .eq 69, 53, 0, 0),
  (53, .aload 0, 54, 0, 0),
  (54, .invokeinterface 12 50, 57, 0, 0),
  (57, .iload 4, 59, 0, 0),
  (59, .iaload, 60, 0, 0),
  (60, .aload 0, 61, 0, 0),
  (61, .invokeinterface 12 50, 64, 0, 0),
  (64, .iload 3, 65, 0, 0),
  (65, .iaload, 66, 0, 0),
  (66, .if_icmp .le 72, 69, 0, 0),
  (69, .iload 4, 71, 0, 5),
  (71, .istore 3, 72, 0, 0),
  (72, .iinc 4 0, 75, 1, 5),
  (75, .goto 6, 78, 0, 0),
  (78, .iload 3, 79, 0, 0),
  (79, .ireturn, 80, 0, 0)]
def gme_216 : gMe := ((yX12_lineAt, cX12_lineAt, 5, (some .int)), (12, false), (12, 2, 0, 0), gco_216_0)
def gco_217_0 : List gIn := [(0, .iload 1, 1, 0, 0),
  (1, .i2l, 2, 0, 0),
  (2, .lconst 0, 3, 0, 0),
  (3, .aload 0, 4, 0, 0),
  (4, .invokeinterface 12 48, 7, 0, 0),
  (7, .iconst 0, 8, 1, 0),
  (8, .isub, 9, 0, 0),
  (9, .i2l, 10, 0, 0),
  (10, .invokestatic 157, 13, 0, 0),
  (13, .ifCond .ne 18, 16, 0, 0),
  (16, .iconst 0, 17, (-1), 0),
  (17, .ireturn, 18, 0, 0),
  (18, .iload 2, 19, 0, 0),
  (19, .ifCond .ne 31, 22, 0, 0),
  (22, .aload 0, 23, 0, 0),
  (23, .invokeinterface 12 49, 26, 0, 0),
  (26, .iload 1, 27, 0, 0),
  (27, .iaload, 28, 0, 0),
  (28, .goto 74, 31, 0, 0),
  (31, .iload 2, 32, 0, 0),
  (32, .iconst 0, 33, 1, 0),
  (33, .if_icmp .ne 45, 36, 0, 0),
  (36, .aload 0, 37, 0, 0),
  (37, .invokeinterface 12 50, 40, 0, 0),
  (40, .iload 1, 41, 0, 0),
  (41, .iaload, 42, 0, 0),
  (42, .goto 74, 45, 0, 0),
  (45, .iload 2, 46, 0, 0),
  (46, .iconst 0, 47, 2, 0),
  (47, .if_icmp .ne 59, 50, 0, 0),
  (50, .aload 0, 51, 0, 0),
  (51, .invokeinterface 12 51, 54, 0, 0),
  (54, .iload 1, 55, 0, 0),
  (55, .iaload, 56, 0, 0),
  (56, .goto 74, 59, 0, 0),
  (59, .iload 2, 60, 0, 0),
  (60, .iconst 0, 61, 3, 0),
  (61, .if_icmp .ne 73, 64, 0, 0),
  (64, .aload 0, 65, 0, 0),
  (65, .invokeinterface 12 52, 68, 0, 0),
  (68, .iload 1, 69, 0, 0),
  (69, .iaload, 70, 0, 0),
  (70, .goto 74, 73, 0, 0),
  (73, .iconst 0, 74, (-1), 0),
  (74, .ireturn, 75, 0, 1)]
def gme_217 : gMe := ((yX12_line, cX12_line, 3, (some .int)), (12, false), (12, 2, 0, 0), gco_217_0)
def gco_218_0 : List gIn := [(0, .iload 1, 1, 0, 0),
  (1, .i2l, 2, 0, 0),
  (2, .lconst 0, 3, 0, 0),
  (3, .aload 0, 4, 0, 0),
  (4, .invokeinterface 12 48, 7, 0, 0),
  (7, .iconst 0, 8, 1, 0),
  (8, .isub, 9, 0, 0),
  (9, .i2l, 10, 0, 0),
  (10, .invokestatic 157, 13, 0, 0),
  (13, .ifCond .ne 20, 16, 0, 0),
  (16, .iconst 0, 19, (-100000), 0),
  (19, .ireturn, 20, 0, 0),
  (20, .aload 0, 21, 0, 0),
  (21, .invokeinterface 12 52, 24, 0, 0),
  (24, .iload 1, 25, 0, 0),
  (25, .iaload, 26, 0, 0),
  (26, .iconst 0, 27, 1, 0),
  (27, .if_icmp .ne 34, 30, 0, 0),
  (30, .iconst 0, 33, (-100002), 0),
  (33, .ireturn, 34, 0, 0),
  (34, .aload 0, 35, 0, 0),
  (35, .invokevirtual 199, 38, 0, 0),
  (38, .istore 2, 39, 0, 0),
  (39, .aload 0, 40, 0, 0),
  (40, .invokeinterface 12 52, 43, 0, 0),
  (43, .iload 1, 44, 0, 0),
  (44, .iconst 0, 45, 1, 0),
  (45, .iastore, 46, 0, 0),
  (46, .iload 2, 47, 0, 0),
  (47, .aload 0, 48, 0, 0),
  (48, .invokevirtual 199, 51, 0, 0),
  (51, .isub, 52, 0, 0),
  (52, .ireturn, 53, 0, 0)]
def gme_218 : gMe := ((yX12_voids, cX12_voids, 3, (some .int)), (12, false), (12, 1, 0, 0), gco_218_0)
def gco_219_0 : List gIn := [(0, .aload 0, 1, 0, 0),
  (1, .iload 1, 2, 0, 0),
  (2, .invokevirtual 161, 5, 0, 0),
  (5, .ifCond .eq 26, 8, 0, 0),
  (8, .aload 0, 9, 0, 0),
  (9, .iload 2, 10, 0, 0),
  (10, .invokevirtual 159, 13, 0, 0),
  (13, .ifCond .eq 26, 16, 0, 0),
  (16, .iload 3, 17, 0, 0),
  (17, .i2l, 18, 0, 0),
  (18, .lconst 0, 19, 0, 0),
  (19, .lconst 0, 20, 1, 0),
  (20, .invokestatic 157, 23, 0, 0),
  (23, .ifCond .ne 28, 26, 0, 0),
  (26, .iconst 0, 27, (-1), 1),
  (27, .ireturn, 28, 0, 0),
  (28, .aload 0, 29, 0, 0),
  (29, .iload 3, 30, 0, 0),
  (30, .ifCond .ne 37, 33, 0, 0),
  (33, .iconst 0, 34, 1, 0),
  (34, .goto 38, 37, 0, 0),
  (37, .iconst 0, 38, 0, 0),
  (38, .aload 0, 39, 0, 4),
  (39, .invokevirtual 163, 42, 0, 0),
  (42, .invokevirtual 216, 45, 0, 0),
  (45, .istore 4, 47, 0, 0),
  (47, .iload 4, 49, 0, 0),
  (49, .iconst 0, 51, (-4), 0),
  (51, .if_icmp .ne 58, 54, 0, 0),
  (54, .iconst 0, 55, 0, 0),
  (55, .goto 65, 58, 0, 0),
  (58, .aload 0, 59, 0, 0),
  (59, .invokeinterface 12 51, 62, 0, 0),
  (62, .iload 4, 64, 0, 0),
  (64, .iaload, 65, 0, 0),
  (65, .istore 5, 67, 0, 4),
  (67, .iconst 0, 69, 9, 0),
  (69, .istore 6, 71, 0, 0),
  (71, .iload 6, 73, 0, 7),
  (73, .ifCond .lt 116, 76, 0, 0),
  (76, .aload 0, 77, 0, 0),
  (77, .iload 1, 78, 0, 0),
  (78, .iload 2, 79, 0, 0),
  (79, .iload 3, 80, 0, 0),
  (80, .ifCond .ne 88, 83, 0, 0),
  (83, .iload 6, 85, 0, 0),
  (85, .goto 90, 88, 0, 0),
  (88, .iload 5, 90, 0, 0),
  (90, .iload 3, 91, 0, 7),
  (91, .ifCond .ne 99, 94, 0, 0),
  (94, .iload 5, 96, 0, 0),
  (96, .goto 101, 99, 0, 0),
  (99, .iload 6, 101, 0, 0),
  (101, .invokevirtual 189, 104, 0, 7),
  (104, .ifCond .ne 110, 107, 0, 0),
  (107, .iload 6, 109, 0, 0),
  (109, .ireturn, 110, 0, 0),
  (110, .iinc 6 0, 113, (-1), 0),
  (113, .goto 71, 116, 0, 0),
  (116, .iconst 0, 118, (-4), 0)]
def gco_219_1 : List gIn := [(118, .ireturn, 119, 0, 0)]
def gme_219 : gMe := ((yX12_lets, cX12_lets, 7, (some .int)), (12, false), (12, 3, 0, 0), gco_219_0 ++ (gco_219_1))
def gco_220_0 : List gIn := [(0, .iload 1, 1, 0, 0),
  (1, .istore 2, 2, 0, 0),
  (2, .aload 0, 3, 0, 0),
  (3, .invokeinterface 12 59, 6, 0, 0),
  (6, .ifCond .eq 22, 9, 0, 0),
  (9, .aload 0, 10, 0, 0),
  (10, .invokeinterface 12 57, 13, 0, 0),
  (13, .aload 0, 14, 0, 0),
  (14, .invokeinterface 12 58, 17, 0, 0),
  (17, .iload 1, 18, 0, 0),
  (18, .iastore, 19, 0, 0),
  (19, .goto 32, 22, 0, 0),
  (22, .aload 0, 23, 0, 0),
  (23, .invokeinterface 12 57, 26, 0, 0),
  (26, .aload 0, 27, 0, 0),
  (27, .invokeinterface 12 58, 30, 0, 0),
  (30, .iaload, 31, 0, 0),
  (31, .istore 2, 32, 0, 0),
  (32, .aload 0, 33, 0, 3),
  (33, .dup, 34, 0, 0),
  (34, .invokeinterface 12 58, 37, 0, 0),
  (37, .iconst 0, 38, 1, 0),
  (38, .iadd, 39, 0, 0),
  (39, .multianewarray 12 58, 42, 0, 0),
  (42, .iload 2, 43, 0, 0),
  (43, .ireturn, 44, 0, 0)]
def gme_220 : gMe := ((yX12_turn, cX12_turn, 3, (some .int)), (12, false), (12, 1, 0, 0), gco_220_0)
def gco_221_0 : List gIn := [(0, .aload 0, 1, 0, 0),
  (1, .aload 0, 2, 0, 0),
  (2, .aload 0, 3, 0, 0),
  (3, .invokeinterface 12 0, 6, 0, 0),
  (6, .invokevirtual 220, 9, 0, 0),
  (9, .multianewarray 12 0, 12, 0, 0),
  (12, .aload 0, 13, 0, 0),
  (13, .aload 0, 14, 0, 0),
  (14, .aload 0, 15, 0, 0),
  (15, .invokeinterface 12 1, 18, 0, 0),
  (18, .invokevirtual 220, 21, 0, 0),
  (21, .multianewarray 12 1, 24, 0, 0),
  (24, .aload 0, 25, 0, 0),
  (25, .aload 0, 26, 0, 0),
  (26, .aload 0, 27, 0, 0),
  (27, .invokeinterface 12 2, 30, 0, 0),
  (30, .invokevirtual 220, 33, 0, 0),
  (33, .multianewarray 12 2, 36, 0, 0),
  (36, .iconst 0, 37, 0, 0),
  (37, .istore 1, 38, 0, 0),
  (38, .iload 1, 39, 0, 2),
  (39, .iconst 0, 41, 36, 0),
  (41, .if_icmp .ge 114, 44, 0, 0),
  (44, .aload 0, 45, 0, 0),
  (45, .invokeinterface 12 3, 48, 0, 0),
  (48, .iload 1, 49, 0, 0),
  (49, .aload 0, 50, 0, 0),
  (50, .aload 0, 51, 0, 0),
  (51, .invokeinterface 12 3, 54, 0, 0),
  (54, .iload 1, 55, 0, 0),
  (55, .iaload, 56, 0, 0),
  (56, .invokevirtual 220, 59, 0, 0),
  (59, .iastore, 60, 0, 0),
  (60, .aload 0, 61, 0, 0),
  (61, .invokeinterface 12 4, 64, 0, 0),
  (64, .iload 1, 65, 0, 0),
  (65, .aload 0, 66, 0, 0),
  (66, .aload 0, 67, 0, 0),
  (67, .invokeinterface 12 4, 70, 0, 0),
  (70, .iload 1, 71, 0, 0),
  (71, .iaload, 72, 0, 0),
  (72, .invokevirtual 220, 75, 0, 0),
  (75, .iastore, 76, 0, 0),
  (76, .aload 0, 77, 0, 0),
  (77, .invokeinterface 12 5, 80, 0, 0),
  (80, .iload 1, 81, 0, 0),
  (81, .aload 0, 82, 0, 0),
  (82, .aload 0, 83, 0, 0),
  (83, .invokeinterface 12 5, 86, 0, 0),
  (86, .iload 1, 87, 0, 0),
  (87, .iaload, 88, 0, 0),
  (88, .invokevirtual 220, 91, 0, 0),
  (91, .iastore, 92, 0, 0),
  (92, .aload 0, 93, 0, 0),
  (93, .invokeinterface 12 6, 96, 0, 0),
  (96, .iload 1, 97, 0, 0),
  (97, .aload 0, 98, 0, 0),
  (98, .aload 0, 99, 0, 0),
  (99, .invokeinterface 12 6, 102, 0, 0),
  (102, .iload 1, 103, 0, 0)]
def gco_221_1 : List gIn := [(103, .iaload, 104, 0, 0),
  (104, .invokevirtual 220, 107, 0, 0),
  (107, .iastore, 108, 0, 0),
  (108, .iinc 1 0, 111, 1, 0),
  (111, .goto 38, 114, 0, 0),
  (114, .iconst 0, 115, 0, 0),
  (115, .istore 1, 116, 0, 0),
  (116, .iload 1, 117, 0, 2),
  (117, .iconst 0, 120, 324, 0),
  (120, .if_icmp .ge 145, 123, 0, 0),
  (123, .aload 0, 124, 0, 0),
  (124, .invokeinterface 12 7, 127, 0, 0),
  (127, .iload 1, 128, 0, 0),
  (128, .aload 0, 129, 0, 0),
  (129, .aload 0, 130, 0, 0),
  (130, .invokeinterface 12 7, 133, 0, 0),
  (133, .iload 1, 134, 0, 0),
  (134, .iaload, 135, 0, 0),
  (135, .invokevirtual 220, 138, 0, 0),
  (138, .iastore, 139, 0, 0),
  (139, .iinc 1 0, 142, 1, 0),
  (142, .goto 116, 145, 0, 0),
  (145, .iconst 0, 146, 0, 0),
  (146, .istore 1, 147, 0, 0),
  (147, .iload 1, 148, 0, 2),
  (148, .iconst 0, 150, 50, 0),
  (150, .if_icmp .ge 175, 153, 0, 0),
  (153, .aload 0, 154, 0, 0),
  (154, .invokeinterface 12 27, 157, 0, 0),
  (157, .iload 1, 158, 0, 0),
  (158, .aload 0, 159, 0, 0),
  (159, .aload 0, 160, 0, 0),
  (160, .invokeinterface 12 27, 163, 0, 0),
  (163, .iload 1, 164, 0, 0),
  (164, .iaload, 165, 0, 0),
  (165, .invokevirtual 220, 168, 0, 0),
  (168, .iastore, 169, 0, 0),
  (169, .iinc 1 0, 172, 1, 0),
  (172, .goto 147, 175, 0, 0),
  (175, .iconst 0, 176, 0, 0),
  (176, .istore 1, 177, 0, 0),
  (177, .iload 1, 178, 0, 2),
  (178, .iconst 0, 180, 6, 0),
  (180, .if_icmp .ge 237, 183, 0, 0),
  (183, .aload 0, 184, 0, 0),
  (184, .invokeinterface 12 24, 187, 0, 0),
  (187, .iload 1, 188, 0, 0),
  (188, .aload 0, 189, 0, 0),
  (189, .aload 0, 190, 0, 0),
  (190, .invokeinterface 12 24, 193, 0, 0),
  (193, .iload 1, 194, 0, 0),
  (194, .iaload, 195, 0, 0),
  (195, .invokevirtual 220, 198, 0, 0),
  (198, .iastore, 199, 0, 0),
  (199, .aload 0, 200, 0, 0),
  (200, .invokeinterface 12 25, 203, 0, 0),
  (203, .iload 1, 204, 0, 0),
  (204, .aload 0, 205, 0, 0),
  (205, .aload 0, 206, 0, 0),
  (206, .invokeinterface 12 25, 209, 0, 0)]
def gco_221_2 : List gIn := [(209, .iload 1, 210, 0, 0),
  (210, .iaload, 211, 0, 0),
  (211, .invokevirtual 220, 214, 0, 0),
  (214, .iastore, 215, 0, 0),
  (215, .aload 0, 216, 0, 0),
  (216, .invokeinterface 12 26, 219, 0, 0),
  (219, .iload 1, 220, 0, 0),
  (220, .aload 0, 221, 0, 0),
  (221, .aload 0, 222, 0, 0),
  (222, .invokeinterface 12 26, 225, 0, 0),
  (225, .iload 1, 226, 0, 0),
  (226, .iaload, 227, 0, 0),
  (227, .invokevirtual 220, 230, 0, 0),
  (230, .iastore, 231, 0, 0),
  (231, .iinc 1 0, 234, 1, 0),
  (234, .goto 177, 237, 0, 0),
  (237, .return_, 238, 0, 0)]
def gme_221 : gMe := ((yX12_turnLand, cX12_turnLand, 2, none), (12, false), (12, 0, 0, 0), gco_221_0 ++ (gco_221_1 ++ (gco_221_2)))
def gco_222_0 : List gIn := [(0, .iconst 0, 1, 0, 0),
  (1, .istore 1, 2, 0, 0),
  (2, .iload 1, 3, 0, 2),
  (3, .iconst 0, 5, 8, 0),
  (5, .if_icmp .ge 30, 8, 0, 0),
  (8, .aload 0, 9, 0, 0),
  (9, .invokeinterface 12 9, 12, 0, 0),
  (12, .iload 1, 13, 0, 0),
  (13, .aload 0, 14, 0, 0),
  (14, .aload 0, 15, 0, 0),
  (15, .invokeinterface 12 9, 18, 0, 0),
  (18, .iload 1, 19, 0, 0),
  (19, .iaload, 20, 0, 0),
  (20, .invokevirtual 220, 23, 0, 0),
  (23, .iastore, 24, 0, 0),
  (24, .iinc 1 0, 27, 1, 0),
  (27, .goto 2, 30, 0, 0),
  (30, .aload 0, 31, 0, 0),
  (31, .aload 0, 32, 0, 0),
  (32, .aload 0, 33, 0, 0),
  (33, .invokeinterface 12 10, 36, 0, 0),
  (36, .invokevirtual 220, 39, 0, 0),
  (39, .multianewarray 12 10, 42, 0, 0),
  (42, .iconst 0, 43, 0, 0),
  (43, .istore 1, 44, 0, 0),
  (44, .iload 1, 45, 0, 2),
  (45, .iconst 0, 47, 12, 0),
  (47, .if_icmp .ge 120, 50, 0, 0),
  (50, .aload 0, 51, 0, 0),
  (51, .invokeinterface 12 11, 54, 0, 0),
  (54, .iload 1, 55, 0, 0),
  (55, .aload 0, 56, 0, 0),
  (56, .aload 0, 57, 0, 0),
  (57, .invokeinterface 12 11, 60, 0, 0),
  (60, .iload 1, 61, 0, 0),
  (61, .iaload, 62, 0, 0),
  (62, .invokevirtual 220, 65, 0, 0),
  (65, .iastore, 66, 0, 0),
  (66, .aload 0, 67, 0, 0),
  (67, .invokeinterface 12 12, 70, 0, 0),
  (70, .iload 1, 71, 0, 0),
  (71, .aload 0, 72, 0, 0),
  (72, .aload 0, 73, 0, 0),
  (73, .invokeinterface 12 12, 76, 0, 0),
  (76, .iload 1, 77, 0, 0),
  (77, .iaload, 78, 0, 0),
  (78, .invokevirtual 220, 81, 0, 0),
  (81, .iastore, 82, 0, 0),
  (82, .aload 0, 83, 0, 0),
  (83, .invokeinterface 12 13, 86, 0, 0),
  (86, .iload 1, 87, 0, 0),
  (87, .aload 0, 88, 0, 0),
  (88, .aload 0, 89, 0, 0),
  (89, .invokeinterface 12 13, 92, 0, 0),
  (92, .iload 1, 93, 0, 0),
  (93, .iaload, 94, 0, 0),
  (94, .invokevirtual 220, 97, 0, 0),
  (97, .iastore, 98, 0, 0),
  (98, .aload 0, 99, 0, 0),
  (99, .invokeinterface 12 14, 102, 0, 0)]
def gco_222_1 : List gIn := [(102, .iload 1, 103, 0, 0),
  (103, .aload 0, 104, 0, 0),
  (104, .aload 0, 105, 0, 0),
  (105, .invokeinterface 12 14, 108, 0, 0),
  (108, .iload 1, 109, 0, 0),
  (109, .iaload, 110, 0, 0),
  (110, .invokevirtual 220, 113, 0, 0),
  (113, .iastore, 114, 0, 0),
  (114, .iinc 1 0, 117, 1, 0),
  (117, .goto 44, 120, 0, 0),
  (120, .aload 0, 121, 0, 0),
  (121, .aload 0, 122, 0, 0),
  (122, .aload 0, 123, 0, 0),
  (123, .invokeinterface 12 15, 126, 0, 0),
  (126, .invokevirtual 220, 129, 0, 0),
  (129, .multianewarray 12 15, 132, 0, 0),
  (132, .iconst 0, 133, 0, 0),
  (133, .istore 1, 134, 0, 0),
  (134, .iload 1, 135, 0, 2),
  (135, .iconst 0, 137, 14, 0),
  (137, .if_icmp .ge 242, 140, 0, 0),
  (140, .aload 0, 141, 0, 0),
  (141, .invokeinterface 12 16, 144, 0, 0),
  (144, .iload 1, 145, 0, 0),
  (145, .aload 0, 146, 0, 0),
  (146, .aload 0, 147, 0, 0),
  (147, .invokeinterface 12 16, 150, 0, 0),
  (150, .iload 1, 151, 0, 0),
  (151, .iaload, 152, 0, 0),
  (152, .invokevirtual 220, 155, 0, 0),
  (155, .iastore, 156, 0, 0),
  (156, .aload 0, 157, 0, 0),
  (157, .invokeinterface 12 17, 160, 0, 0),
  (160, .iload 1, 161, 0, 0),
  (161, .aload 0, 162, 0, 0),
  (162, .aload 0, 163, 0, 0),
  (163, .invokeinterface 12 17, 166, 0, 0),
  (166, .iload 1, 167, 0, 0),
  (167, .iaload, 168, 0, 0),
  (168, .invokevirtual 220, 171, 0, 0),
  (171, .iastore, 172, 0, 0),
  (172, .aload 0, 173, 0, 0),
  (173, .invokeinterface 12 18, 176, 0, 0),
  (176, .iload 1, 177, 0, 0),
  (177, .aload 0, 178, 0, 0),
  (178, .aload 0, 179, 0, 0),
  (179, .invokeinterface 12 18, 182, 0, 0),
  (182, .iload 1, 183, 0, 0),
  (183, .iaload, 184, 0, 0),
  (184, .invokevirtual 220, 187, 0, 0),
  (187, .iastore, 188, 0, 0),
  (188, .aload 0, 189, 0, 0),
  (189, .invokeinterface 12 19, 192, 0, 0),
  (192, .iload 1, 193, 0, 0),
  (193, .aload 0, 194, 0, 0),
  (194, .aload 0, 195, 0, 0),
  (195, .invokeinterface 12 19, 198, 0, 0),
  (198, .iload 1, 199, 0, 0),
  (199, .iaload, 200, 0, 0),
  (200, .invokevirtual 220, 203, 0, 0)]
def gco_222_2 : List gIn := [(203, .iastore, 204, 0, 0),
  (204, .aload 0, 205, 0, 0),
  (205, .invokeinterface 12 20, 208, 0, 0),
  (208, .iload 1, 209, 0, 0),
  (209, .aload 0, 210, 0, 0),
  (210, .aload 0, 211, 0, 0),
  (211, .invokeinterface 12 20, 214, 0, 0),
  (214, .iload 1, 215, 0, 0),
  (215, .iaload, 216, 0, 0),
  (216, .invokevirtual 220, 219, 0, 0),
  (219, .iastore, 220, 0, 0),
  (220, .aload 0, 221, 0, 0),
  (221, .invokeinterface 12 21, 224, 0, 0),
  (224, .iload 1, 225, 0, 0),
  (225, .aload 0, 226, 0, 0),
  (226, .aload 0, 227, 0, 0),
  (227, .invokeinterface 12 21, 230, 0, 0),
  (230, .iload 1, 231, 0, 0),
  (231, .iaload, 232, 0, 0),
  (232, .invokevirtual 220, 235, 0, 0),
  (235, .iastore, 236, 0, 0),
  (236, .iinc 1 0, 239, 1, 0),
  (239, .goto 134, 242, 0, 0),
  (242, .iconst 0, 243, 0, 0),
  (243, .istore 1, 244, 0, 0),
  (244, .iload 1, 245, 0, 2),
  (245, .iconst 0, 247, 126, 0),
  (247, .if_icmp .ge 272, 250, 0, 0),
  (250, .aload 0, 251, 0, 0),
  (251, .invokeinterface 12 22, 254, 0, 0),
  (254, .iload 1, 255, 0, 0),
  (255, .aload 0, 256, 0, 0),
  (256, .aload 0, 257, 0, 0),
  (257, .invokeinterface 12 22, 260, 0, 0),
  (260, .iload 1, 261, 0, 0),
  (261, .iaload, 262, 0, 0),
  (262, .invokevirtual 220, 265, 0, 0),
  (265, .iastore, 266, 0, 0),
  (266, .iinc 1 0, 269, 1, 0),
  (269, .goto 244, 272, 0, 0),
  (272, .iconst 0, 273, 0, 0),
  (273, .istore 1, 274, 0, 0),
  (274, .iload 1, 275, 0, 2),
  (275, .iconst 0, 278, 840, 0),
  (278, .if_icmp .ge 303, 281, 0, 0),
  (281, .aload 0, 282, 0, 0),
  (282, .invokeinterface 12 23, 285, 0, 0),
  (285, .iload 1, 286, 0, 0),
  (286, .aload 0, 287, 0, 0),
  (287, .aload 0, 288, 0, 0),
  (288, .invokeinterface 12 23, 291, 0, 0),
  (291, .iload 1, 292, 0, 0),
  (292, .iaload, 293, 0, 0),
  (293, .invokevirtual 220, 296, 0, 0),
  (296, .iastore, 297, 0, 0),
  (297, .iinc 1 0, 300, 1, 0),
  (300, .goto 274, 303, 0, 0),
  (303, .return_, 304, 0, 0)]
def gme_222 : gMe := ((yX12_turnPapers, cX12_turnPapers, 2, none), (12, false), (12, 0, 0, 0), gco_222_0 ++ (gco_222_1 ++ (gco_222_2)))
def gco_223_0 : List gIn := [(0, .aload 0, 1, 0, 0),
  (1, .iconst 0, 4, 1800, 0),
  (4, .iload 1, 5, 0, 0),
  (5, .imul, 6, 0, 0),
  (6, .multianewarray 12 58, 9, 0, 0),
  (9, .aload 0, 10, 0, 0),
  (10, .iload 2, 11, 0, 0),
  (11, .multianewarray 12 59, 14, 0, 0),
  (14, .aload 0, 15, 0, 0),
  (15, .invokevirtual 221, 18, 0, 0),
  (18, .aload 0, 19, 0, 0),
  (19, .invokevirtual 222, 22, 0, 0),
  (22, .return_, 23, 0, 0)]
def gme_223 : gMe := ((yX12_turnPage, cX12_turnPage, 3, none), (12, false), (12, 2, 0, 0), gco_223_0)
def gco_224_0 : List gIn := [(0, .aload 0, 1, 0, 0),
  (1, .invokeinterface 12 60, 4, 0, 0),
  (4, .iconst 0, 5, 3, 0),
  (5, .if_icmp .ne 11, 8, 0, 0),
  (8, .iconst 0, 10, (-3), 0),
  (10, .ireturn, 11, 0, 0),
  (11, .aload 0, 12, 0, 0),
  (12, .aload 0, 13, 0, 0),
  (13, .invokeinterface 12 60, 16, 0, 0),
  (16, .iconst 0, 17, 1, 0),
  (17, .invokevirtual 223, 20, 0, 0),
  (20, .aload 0, 21, 0, 0),
  (21, .dup, 22, 0, 0),
  (22, .invokeinterface 12 60, 25, 0, 0),
  (25, .iconst 0, 26, 1, 0),
  (26, .iadd, 27, 0, 0),
  (27, .multianewarray 12 60, 30, 0, 0),
  (30, .aload 0, 31, 0, 0),
  (31, .invokeinterface 12 60, 34, 0, 0),
  (34, .iconst 0, 35, 1, 0),
  (35, .isub, 36, 0, 0),
  (36, .ireturn, 37, 0, 0)]
def gme_224 : gMe := ((yX12_keep, cX12_keep, 1, (some .int)), (12, false), (12, 0, 0, 0), gco_224_0)
def gco_225_0 : List gIn := [(0, .iload 1, 1, 0, 0),
  (1, .i2l, 2, 0, 0),
  (2, .lconst 0, 3, 0, 0),
  (3, .aload 0, 4, 0, 0),
  (4, .invokeinterface 12 60, 7, 0, 0),
  (7, .iconst 0, 8, 1, 0),
  (8, .isub, 9, 0, 0),
  (9, .i2l, 10, 0, 0),
  (10, .invokestatic 157, 13, 0, 0),
  (13, .ifCond .ne 18, 16, 0, 0),
  (16, .iconst 0, 17, (-1), 0),
  (17, .ireturn, 18, 0, 0),
  (18, .aload 0, 19, 0, 0),
  (19, .iload 1, 20, 0, 0),
  (20, .iconst 0, 21, 0, 0),
  (21, .invokevirtual 223, 24, 0, 0),
  (24, .iconst 0, 25, 1, 0),
  (25, .ireturn, 26, 0, 0)]
def gme_225 : gMe := ((yX12_stand, cX12_stand, 2, (some .int)), (12, false), (12, 1, 0, 0), gco_225_0)
def gco_226_0 : List gIn := [(0, .aload 0, 1, 0, 0),
  (1, .iload 1, 2, 0, 0),
  (2, .invokevirtual 161, 5, 0, 0),
  (5, .ifCond .eq 16, 8, 0, 0),
  (8, .aload 0, 9, 0, 0),
  (9, .iload 2, 10, 0, 0),
  (10, .invokevirtual 159, 13, 0, 0),
  (13, .ifCond .ne 19, 16, 0, 0),
  (16, .iconst 0, 18, (-5), 1),
  (18, .ireturn, 19, 0, 0),
  (19, .aload 0, 20, 0, 0),
  (20, .invokeinterface 12 28, 23, 0, 0),
  (23, .iload 1, 24, 0, 0),
  (24, .iaload, 25, 0, 0),
  (25, .istore 3, 26, 0, 0),
  (26, .aload 0, 27, 0, 0),
  (27, .invokeinterface 12 28, 30, 0, 0),
  (30, .iload 1, 31, 0, 0),
  (31, .iload 2, 32, 0, 0),
  (32, .iastore, 33, 0, 0),
  (33, .iload 3, 34, 0, 0),
  (34, .ireturn, 35, 0, 0)]
def gme_226 : gMe := ((yX12_spot, cX12_spot, 4, (some .int)), (12, false), (12, 2, 0, 0), gco_226_0)
def gco_227_0 : List gIn := [(0, .iload 1, 1, 0, 0),
  (1, .i2l, 2, 0, 0),
  (2, .lconst 0, 3, 1, 0),
  (3, .lconst 0, 6, 4, 0),
  (6, .invokestatic 157, 9, 0, 0),
  (9, .ifCond .eq 61, 12, 0, 0),
  (12, .iload 1, 13, 0, 0),
  (13, .aload 0, 14, 0, 0),
  (14, .invokeinterface 12 8, 17, 0, 0),
  (17, .if_icmp .gt 61, 20, 0, 0),
  (20, .iload 2, 21, 0, 0),
  (21, .i2l, 22, 0, 0),
  (22, .lconst 0, 23, 0, 0),
  (23, .lconst 0, 26, 60, 0),
  (26, .invokestatic 157, 29, 0, 0),
  (29, .ifCond .eq 61, 32, 0, 0),
  (32, .iload 3, 33, 0, 0),
  (33, .i2l, 34, 0, 0),
  (34, .lconst 0, 35, 0, 0),
  (35, .lconst 0, 38, 999, 0),
  (38, .invokestatic 157, 41, 0, 0),
  (41, .ifCond .eq 61, 44, 0, 0),
  (44, .iload 4, 46, 0, 0),
  (46, .i2l, 47, 0, 0),
  (47, .lconst 0, 48, 1, 0),
  (48, .lconst 0, 51, 24, 0),
  (51, .invokestatic 157, 54, 0, 0),
  (54, .ifCond .eq 61, 57, 0, 0),
  (57, .iconst 0, 58, 1, 0),
  (58, .goto 62, 61, 0, 0),
  (61, .iconst 0, 62, 0, 1),
  (62, .freturn, 63, 0, 1)]
def gme_227 : gMe := ((yX12_isRace, cX12_isRace, 5, (some .boolean)), (12, false), (12, 4, 0, 0), gco_227_0)
def gco_228_0 : List gIn := [(0, .iconst 0, 1, 1, 0),
  (1, .istore 2, 2, 0, 0),
  (2, .iconst 0, 3, 0, 0),
  (3, .istore 3, 4, 0, 0),
  (4, .iload 3, 5, 0, 4),
  (5, .iload 1, 6, 0, 0),
  (6, .if_icmp .ge 38, 9, 0, 0),
  (9, .iload 2, 10, 0, 0),
  (10, .ifCond .eq 30, 13, 0, 0),
  (13, .aload 0, 14, 0, 0),
  (14, .aload 0, 15, 0, 0),
  (15, .invokeinterface 12 28, 18, 0, 0),
  (18, .iload 3, 19, 0, 0),
  (19, .iaload, 20, 0, 0),
  (20, .invokevirtual 159, 23, 0, 0),
  (23, .ifCond .eq 30, 26, 0, 0),
  (26, .iconst 0, 27, 1, 0),
  (27, .goto 31, 30, 0, 0),
  (30, .iconst 0, 31, 0, 4),
  (31, .istore 2, 32, 0, 4),
  (32, .iinc 3 0, 35, 1, 0),
  (35, .goto 4, 38, 0, 0),
  (38, .iload 2, 39, 0, 0),
  (39, .freturn, 40, 0, 0)]
def gme_228 : gMe := ((yX12_haveSpots, cX12_haveSpots, 4, (some .boolean)), (12, false), (12, 1, 0, 0), gco_228_0)
def gco_229_0 : List gIn := [(0, .aload 0, 1, 0, 0),
  (1, .iconst 0, 2, 3, 0),
  (2, .iconst 0, 3, 1, 0),
  (3, .invokevirtual 223, 6, 0, 0),
  (6, .iconst 0, 7, 0, 0),
  (7, .istore 6, 9, 0, 0),
  (9, .iload 6, 11, 0, 7),
  (11, .iload 1, 12, 0, 0),
  (12, .if_icmp .ge 82, 15, 0, 0),
  (15, .aload 0, 16, 0, 0),
  (16, .invokeinterface 12 61, 19, 0, 0),
  (19, .iconst 0, 20, 4, 0),
  (20, .iload 5, 22, 0, 0),
  (22, .imul, 23, 0, 0),
  (23, .iload 6, 25, 0, 0),
  (25, .iadd, 26, 0, 0),
  (26, .aload 0, 27, 0, 0),
  (27, .invokeinterface 12 24, 30, 0, 0),
  (30, .iload 6, 32, 0, 0),
  (32, .iaload, 33, 0, 0),
  (33, .ineg, 34, 0, 0),
  (34, .iastore, 35, 0, 0),
  (35, .iload 5, 37, 0, 0),
  (37, .iload 6, 39, 0, 0),
  (39, .ishr, 40, 0, 0),
  (40, .iconst 0, 41, 1, 0),
  (41, .iand, 42, 0, 0),
  (42, .iconst 0, 43, 1, 0),
  (43, .if_icmp .ne 76, 46, 0, 0),
  (46, .aload 0, 47, 0, 0),
  (47, .iload 6, 49, 0, 0),
  (49, .aload 0, 50, 0, 0),
  (50, .invokeinterface 12 28, 53, 0, 0),
  (53, .iload 6, 55, 0, 0),
  (55, .iaload, 56, 0, 0),
  (56, .iload 2, 57, 0, 0),
  (57, .invokevirtual 191, 60, 0, 0),
  (60, .aload 0, 61, 0, 0),
  (61, .invokeinterface 12 61, 64, 0, 0),
  (64, .iconst 0, 65, 4, 0),
  (65, .iload 5, 67, 0, 0),
  (67, .imul, 68, 0, 0),
  (68, .iload 6, 70, 0, 0),
  (70, .iadd, 71, 0, 0),
  (71, .dup2, 72, 0, 0),
  (72, .iaload, 73, 0, 0),
  (73, .iload 3, 74, 0, 0),
  (74, .isub, 75, 0, 0),
  (75, .iastore, 76, 0, 0),
  (76, .iinc 6 0, 79, 1, 7),
  (79, .goto 9, 82, 0, 0),
  (82, .iconst 0, 83, 0, 0),
  (83, .istore 6, 85, 0, 0),
  (85, .iload 6, 87, 0, 7),
  (87, .iload 4, 89, 0, 0),
  (89, .if_icmp .ge 103, 92, 0, 0),
  (92, .aload 0, 93, 0, 0),
  (93, .invokevirtual 177, 96, 0, 0),
  (96, .pop, 97, 0, 0),
  (97, .iinc 6 0, 100, 1, 0)]
def gco_229_1 : List gIn := [(100, .goto 85, 103, 0, 0),
  (103, .iconst 0, 104, 0, 0),
  (104, .istore 6, 106, 0, 0),
  (106, .iload 6, 108, 0, 7),
  (108, .iload 1, 109, 0, 0),
  (109, .if_icmp .ge 140, 112, 0, 0),
  (112, .aload 0, 113, 0, 0),
  (113, .invokeinterface 12 61, 116, 0, 0),
  (116, .iconst 0, 117, 4, 0),
  (117, .iload 5, 119, 0, 0),
  (119, .imul, 120, 0, 0),
  (120, .iload 6, 122, 0, 0),
  (122, .iadd, 123, 0, 0),
  (123, .dup2, 124, 0, 0),
  (124, .iaload, 125, 0, 0),
  (125, .aload 0, 126, 0, 0),
  (126, .invokeinterface 12 24, 129, 0, 0),
  (129, .iload 6, 131, 0, 0),
  (131, .iaload, 132, 0, 0),
  (132, .iadd, 133, 0, 0),
  (133, .iastore, 134, 0, 0),
  (134, .iinc 6 0, 137, 1, 0),
  (137, .goto 106, 140, 0, 0),
  (140, .aload 0, 141, 0, 0),
  (141, .iconst 0, 142, 3, 0),
  (142, .iconst 0, 143, 0, 0),
  (143, .invokevirtual 223, 146, 0, 0),
  (146, .return_, 147, 0, 0)]
def gme_229 : gMe := ((yX12_race, cX12_race, 7, none), (12, false), (12, 5, 0, 0), gco_229_0 ++ (gco_229_1))
def gco_230_0 : List gIn := [(0, .aload 0, 1, 0, 0),
  (1, .iload 1, 2, 0, 0),
  (2, .iload 2, 3, 0, 0),
  (3, .iload 3, 4, 0, 0),
  (4, .iload 4, 6, 0, 0),
  (6, .invokevirtual 227, 9, 0, 0),
  (9, .ifCond .eq 42, 12, 0, 0),
  (12, .iload 5, 14, 0, 0),
  (14, .i2l, 15, 0, 0),
  (15, .lconst 0, 16, 0, 0),
  (16, .iconst 0, 17, 1, 0),
  (17, .iload 1, 18, 0, 0),
  (18, .ishl, 19, 0, 0),
  (19, .iconst 0, 20, 1, 0),
  (20, .isub, 21, 0, 0),
  (21, .i2l, 22, 0, 0),
  (22, .invokestatic 157, 25, 0, 0),
  (25, .ifCond .eq 42, 28, 0, 0),
  (28, .iload 6, 30, 0, 0),
  (30, .i2l, 31, 0, 0),
  (31, .lconst 0, 32, 0, 0),
  (32, .iload 1, 33, 0, 0),
  (33, .iconst 0, 34, 1, 0),
  (34, .isub, 35, 0, 0),
  (35, .i2l, 36, 0, 0),
  (36, .invokestatic 157, 39, 0, 0),
  (39, .ifCond .ne 46, 42, 0, 0),
  (42, .iconst 0, 45, (-100000), 1),
  (45, .ireturn, 46, 0, 0),
  (46, .aload 0, 47, 0, 0),
  (47, .iload 1, 48, 0, 0),
  (48, .invokevirtual 228, 51, 0, 0),
  (51, .ifCond .ne 58, 54, 0, 0),
  (54, .iconst 0, 57, (-100002), 0),
  (57, .ireturn, 58, 0, 0),
  (58, .aload 0, 59, 0, 0),
  (59, .iload 1, 60, 0, 0),
  (60, .iload 2, 61, 0, 0),
  (61, .iload 3, 62, 0, 0),
  (62, .iload 4, 64, 0, 0),
  (64, .iload 5, 66, 0, 0),
  (66, .invokevirtual 229, 69, 0, 0),
  (69, .aload 0, 70, 0, 0),
  (70, .invokeinterface 12 61, 73, 0, 0),
  (73, .iconst 0, 74, 4, 0),
  (74, .iload 5, 76, 0, 0),
  (76, .imul, 77, 0, 0),
  (77, .iload 6, 79, 0, 0),
  (79, .iadd, 80, 0, 0),
  (80, .iaload, 81, 0, 0),
  (81, .ireturn, 82, 0, 0)]
def gme_230 : gMe := ((yX12_gain, cX12_gain, 7, (some .int)), (12, false), (12, 6, 0, 0), gco_230_0)
def gco_231_0 : List gIn := [(0, .iconst 0, 1, 0, 0),
  (1, .istore 5, 3, 0, 0),
  (3, .iload 5, 5, 0, 6),
  (5, .iconst 0, 6, 1, 0),
  (6, .iload 1, 7, 0, 0),
  (7, .ishl, 8, 0, 0),
  (8, .if_icmp .ge 28, 11, 0, 0),
  (11, .aload 0, 12, 0, 0),
  (12, .iload 1, 13, 0, 0),
  (13, .iload 2, 14, 0, 0),
  (14, .iload 3, 15, 0, 0),
  (15, .iload 4, 17, 0, 0),
  (17, .iload 5, 19, 0, 0),
  (19, .invokevirtual 229, 22, 0, 0),
  (22, .iinc 5 0, 25, 1, 0),
  (25, .goto 3, 28, 0, 0),
  (28, .return_, 29, 0, 0)]
def gme_231 : gMe := ((yX12_raceAll, cX12_raceAll, 6, none), (12, false), (12, 4, 0, 0), gco_231_0)
def gco_232_0 : List gIn := [(0, .iconst 0, 1, 1, 0),
  (1, .istore 3, 2, 0, 0),
  (2, .iconst 0, 3, 0, 0),
  (3, .istore 4, 5, 0, 0),
  (5, .iload 4, 7, 0, 5),
  (7, .iload 1, 8, 0, 0),
  (8, .if_icmp .ge 57, 11, 0, 0),
  (11, .iload 3, 12, 0, 0),
  (12, .ifCond .eq 49, 15, 0, 0),
  (15, .aload 0, 16, 0, 0),
  (16, .invokeinterface 12 61, 19, 0, 0),
  (19, .iconst 0, 20, 4, 0),
  (20, .iload 2, 21, 0, 0),
  (21, .iconst 0, 22, 1, 0),
  (22, .iload 4, 24, 0, 0),
  (24, .ishl, 25, 0, 0),
  (25, .ixor, 26, 0, 0),
  (26, .imul, 27, 0, 0),
  (27, .iload 4, 29, 0, 0),
  (29, .iadd, 30, 0, 0),
  (30, .iaload, 31, 0, 0),
  (31, .aload 0, 32, 0, 0),
  (32, .invokeinterface 12 61, 35, 0, 0),
  (35, .iconst 0, 36, 4, 0),
  (36, .iload 2, 37, 0, 0),
  (37, .imul, 38, 0, 0),
  (38, .iload 4, 40, 0, 0),
  (40, .iadd, 41, 0, 0),
  (41, .iaload, 42, 0, 0),
  (42, .if_icmp .gt 49, 45, 0, 0),
  (45, .iconst 0, 46, 1, 0),
  (46, .goto 50, 49, 0, 0),
  (49, .iconst 0, 50, 0, 5),
  (50, .istore 3, 51, 0, 5),
  (51, .iinc 4 0, 54, 1, 0),
  (54, .goto 5, 57, 0, 0),
  (57, .iload 3, 58, 0, 0),
  (58, .freturn, 59, 0, 0)]
def gme_232 : gMe := ((yX12_isSteady, cX12_isSteady, 5, (some .boolean)), (12, false), (12, 2, 0, 0), gco_232_0)
def gco_233_0 : List gIn := [(0, .iconst 0, 1, 0, 0),
  (1, .istore 3, 2, 0, 0),
  (2, .iconst 0, 3, 0, 0),
  (3, .istore 4, 5, 0, 0),
  (5, .iload 4, 7, 0, 5),
  (7, .iload 1, 8, 0, 0),
  (8, .if_icmp .ge 31, 11, 0, 0),
  (11, .iload 3, 12, 0, 0),
  (12, .aload 0, 13, 0, 0),
  (13, .invokeinterface 12 61, 16, 0, 0),
  (16, .iconst 0, 17, 4, 0),
  (17, .iload 2, 18, 0, 0),
  (18, .imul, 19, 0, 0),
  (19, .iload 4, 21, 0, 0),
  (21, .iadd, 22, 0, 0),
  (22, .iaload, 23, 0, 0),
  (23, .iadd, 24, 0, 0),
  (24, .istore 3, 25, 0, 0),
  (25, .iinc 4 0, 28, 1, 0),
  (28, .goto 5, 31, 0, 0),
  (31, .iload 3, 32, 0, 0),
  (32, .ireturn, 33, 0, 0)]
def gme_233 : gMe := ((yX12_sumOf, cX12_sumOf, 5, (some .int)), (12, false), (12, 2, 0, 0), gco_233_0)
def gco_234_0 : List gIn := [(0, .aload 0, 1, 0, 0),
  (1, .iload 1, 2, 0, 0),
  (2, .iload 2, 3, 0, 0),
  (3, .iload 3, 4, 0, 0),
  (4, .iload 4, 6, 0, 0),
  (6, .invokevirtual 227, 9, 0, 0),
  (9, .ifCond .eq 25, 12, 0, 0),
  (12, .iload 5, 14, 0, 0),
  (14, .i2l, 15, 0, 0),
  (15, .lconst 0, 16, 0, 0),
  (16, .lconst 0, 19, 3, 0),
  (19, .invokestatic 157, 22, 0, 0),
  (22, .ifCond .ne 27, 25, 0, 0),
  (25, .iconst 0, 26, (-1), 1),
  (26, .ireturn, 27, 0, 0),
  (27, .aload 0, 28, 0, 0),
  (28, .iload 1, 29, 0, 0),
  (29, .invokevirtual 228, 32, 0, 0),
  (32, .ifCond .ne 38, 35, 0, 0),
  (35, .iconst 0, 37, (-2), 0),
  (37, .ireturn, 38, 0, 0),
  (38, .aload 0, 39, 0, 0),
  (39, .iload 1, 40, 0, 0),
  (40, .iload 2, 41, 0, 0),
  (41, .iload 3, 42, 0, 0),
  (42, .iload 4, 44, 0, 0),
  (44, .invokevirtual 231, 47, 0, 0),
  (47, .iconst 0, 48, 0, 0),
  (48, .istore 6, 50, 0, 0),
  (50, .iconst 0, 52, (-4), 0),
  (52, .istore 7, 54, 0, 0),
  (54, .iconst 0, 56, (-4), 0),
  (56, .istore 8, 58, 0, 0),
  (58, .iconst 0, 59, 0, 0),
  (59, .istore 9, 61, 0, 0),
  (61, .iconst 0, 62, 0, 0),
  (62, .istore 10, 64, 0, 0),
  (64, .iload 10, 66, 0, 11),
  (66, .iconst 0, 67, 1, 0),
  (67, .iload 1, 68, 0, 0),
  (68, .ishl, 69, 0, 0),
  (69, .if_icmp .ge 162, 72, 0, 0),
  (72, .aload 0, 73, 0, 0),
  (73, .iload 1, 74, 0, 0),
  (74, .iload 10, 76, 0, 0),
  (76, .invokevirtual 232, 79, 0, 0),
  (79, .ifCond .eq 130, 82, 0, 0),
  (82, .iload 6, 84, 0, 0),
  (84, .ifCond .ne 92, 87, 0, 0),
  (87, .iload 10, 89, 0, 0),
  (89, .goto 94, 92, 0, 0),
  (92, .iload 7, 94, 0, 0),
  (94, .istore 7, 96, 0, 11),
  (96, .iload 6, 98, 0, 0),
  (98, .ifCond .eq 118, 101, 0, 0),
  (101, .aload 0, 102, 0, 0),
  (102, .iload 1, 103, 0, 0),
  (103, .iload 10, 105, 0, 0),
  (105, .invokevirtual 233, 108, 0, 0),
  (108, .aload 0, 109, 0, 0)]
def gco_234_1 : List gIn := [(109, .iload 1, 110, 0, 0),
  (110, .iload 8, 112, 0, 0),
  (112, .invokevirtual 233, 115, 0, 0),
  (115, .if_icmp .le 123, 118, 0, 0),
  (118, .iload 10, 120, 0, 11),
  (120, .goto 125, 123, 0, 0),
  (123, .iload 8, 125, 0, 0),
  (125, .istore 8, 127, 0, 11),
  (127, .iinc 6 0, 130, 1, 0),
  (130, .aload 0, 131, 0, 11),
  (131, .iload 1, 132, 0, 0),
  (132, .iload 10, 134, 0, 0),
  (134, .invokevirtual 233, 137, 0, 0),
  (137, .aload 0, 138, 0, 0),
  (138, .iload 1, 139, 0, 0),
  (139, .iload 9, 141, 0, 0),
  (141, .invokevirtual 233, 144, 0, 0),
  (144, .if_icmp .le 152, 147, 0, 0),
  (147, .iload 10, 149, 0, 0),
  (149, .goto 154, 152, 0, 0),
  (152, .iload 9, 154, 0, 0),
  (154, .istore 9, 156, 0, 11),
  (156, .iinc 10 0, 159, 1, 0),
  (159, .goto 64, 162, 0, 0),
  (162, .iload 5, 164, 0, 0),
  (164, .ifCond .ne 172, 167, 0, 0),
  (167, .iload 6, 169, 0, 0),
  (169, .goto 196, 172, 0, 0),
  (172, .iload 5, 174, 0, 0),
  (174, .iconst 0, 175, 1, 0),
  (175, .if_icmp .ne 183, 178, 0, 0),
  (178, .iload 7, 180, 0, 0),
  (180, .goto 196, 183, 0, 0),
  (183, .iload 5, 185, 0, 0),
  (185, .iconst 0, 186, 2, 0),
  (186, .if_icmp .ne 194, 189, 0, 0),
  (189, .iload 8, 191, 0, 0),
  (191, .goto 196, 194, 0, 0),
  (194, .iload 9, 196, 0, 0),
  (196, .ireturn, 197, 0, 1)]
def gme_234 : gMe := ((yX12_steady, cX12_steady, 11, (some .int)), (12, false), (12, 5, 0, 0), gco_234_0 ++ (gco_234_1))
def gco_235_0 : List gIn := [(0, .aload 0, 1, 0, 0),
  (1, .iload 1, 2, 0, 0),
  (2, .iload 2, 3, 0, 0),
  (3, .iload 3, 4, 0, 0),
  (4, .iload 4, 6, 0, 0),
  (6, .invokevirtual 227, 9, 0, 0),
  (9, .ifCond .eq 26, 12, 0, 0),
  (12, .iload 5, 14, 0, 0),
  (14, .i2l, 15, 0, 0),
  (15, .lconst 0, 16, 0, 0),
  (16, .iload 1, 17, 0, 0),
  (17, .iconst 0, 18, 1, 0),
  (18, .isub, 19, 0, 0),
  (19, .i2l, 20, 0, 0),
  (20, .invokestatic 157, 23, 0, 0),
  (23, .ifCond .ne 28, 26, 0, 0),
  (26, .iconst 0, 27, (-1), 1),
  (27, .ireturn, 28, 0, 0),
  (28, .aload 0, 29, 0, 0),
  (29, .iload 1, 30, 0, 0),
  (30, .invokevirtual 228, 33, 0, 0),
  (33, .ifCond .ne 39, 36, 0, 0),
  (36, .iconst 0, 38, (-2), 0),
  (38, .ireturn, 39, 0, 0),
  (39, .aload 0, 40, 0, 0),
  (40, .iload 1, 41, 0, 0),
  (41, .iload 2, 42, 0, 0),
  (42, .iload 3, 43, 0, 0),
  (43, .iload 4, 45, 0, 0),
  (45, .invokevirtual 231, 48, 0, 0),
  (48, .iconst 0, 49, 1, 0),
  (49, .istore 6, 51, 0, 0),
  (51, .iconst 0, 52, 1, 0),
  (52, .istore 7, 54, 0, 0),
  (54, .iconst 0, 55, 0, 0),
  (55, .istore 8, 57, 0, 0),
  (57, .iconst 0, 58, 0, 0),
  (58, .istore 9, 60, 0, 0),
  (60, .iload 9, 62, 0, 10),
  (62, .iconst 0, 63, 1, 0),
  (63, .iload 1, 64, 0, 0),
  (64, .ishl, 65, 0, 0),
  (65, .if_icmp .ge 167, 68, 0, 0),
  (68, .iload 9, 70, 0, 0),
  (70, .iload 5, 72, 0, 0),
  (72, .ishr, 73, 0, 0),
  (73, .iconst 0, 74, 1, 0),
  (74, .iand, 75, 0, 0),
  (75, .ifCond .ne 161, 78, 0, 0),
  (78, .aload 0, 79, 0, 0),
  (79, .invokeinterface 12 61, 82, 0, 0),
  (82, .iconst 0, 83, 4, 0),
  (83, .iload 9, 85, 0, 0),
  (85, .iconst 0, 86, 1, 0),
  (86, .iload 5, 88, 0, 0),
  (88, .ishl, 89, 0, 0),
  (89, .ior, 90, 0, 0),
  (90, .imul, 91, 0, 0),
  (91, .iload 5, 93, 0, 0),
  (93, .iadd, 94, 0, 0)]
def gco_235_1 : List gIn := [(94, .iaload, 95, 0, 0),
  (95, .aload 0, 96, 0, 0),
  (96, .invokeinterface 12 61, 99, 0, 0),
  (99, .iconst 0, 100, 4, 0),
  (100, .iload 9, 102, 0, 0),
  (102, .imul, 103, 0, 0),
  (103, .iload 5, 105, 0, 0),
  (105, .iadd, 106, 0, 0),
  (106, .iaload, 107, 0, 0),
  (107, .isub, 108, 0, 0),
  (108, .istore 10, 110, 0, 0),
  (110, .iload 6, 112, 0, 0),
  (112, .ifCond .eq 124, 115, 0, 0),
  (115, .iload 10, 117, 0, 0),
  (117, .ifCond .le 124, 120, 0, 0),
  (120, .iconst 0, 121, 1, 0),
  (121, .goto 125, 124, 0, 0),
  (124, .iconst 0, 125, 0, 11),
  (125, .istore 6, 127, 0, 11),
  (127, .iload 7, 129, 0, 0),
  (129, .ifCond .eq 141, 132, 0, 0),
  (132, .iload 10, 134, 0, 0),
  (134, .ifCond .lt 141, 137, 0, 0),
  (137, .iconst 0, 138, 1, 0),
  (138, .goto 142, 141, 0, 0),
  (141, .iconst 0, 142, 0, 11),
  (142, .istore 7, 144, 0, 11),
  (144, .iload 8, 146, 0, 0),
  (146, .ifCond .ne 154, 149, 0, 0),
  (149, .iload 10, 151, 0, 0),
  (151, .ifCond .le 158, 154, 0, 0),
  (154, .iconst 0, 155, 1, 10),
  (155, .goto 159, 158, 0, 0),
  (158, .iconst 0, 159, 0, 0),
  (159, .istore 8, 161, 0, 10),
  (161, .iinc 9 0, 164, 1, 10),
  (164, .goto 60, 167, 0, 0),
  (167, .iload 6, 169, 0, 0),
  (169, .ifCond .eq 176, 172, 0, 0),
  (172, .iconst 0, 173, 2, 0),
  (173, .goto 191, 176, 0, 0),
  (176, .iload 7, 178, 0, 0),
  (178, .ifCond .eq 190, 181, 0, 0),
  (181, .iload 8, 183, 0, 0),
  (183, .ifCond .eq 190, 186, 0, 0),
  (186, .iconst 0, 187, 1, 0),
  (187, .goto 191, 190, 0, 0),
  (190, .iconst 0, 191, 0, 1),
  (191, .ireturn, 192, 0, 1)]
def gme_235 : gMe := ((yX12_must, cX12_must, 11, (some .int)), (12, false), (12, 5, 0, 0), gco_235_0 ++ (gco_235_1))
def gco_236_0 : List gIn := [(0, .iload 1, 1, 0, 0),
  (1, .i2l, 2, 0, 0),
  (2, .lconst 0, 3, 0, 0),
  (3, .lconst 0, 6, 3, 0),
  (6, .invokestatic 157, 9, 0, 0),
  (9, .ifCond .eq 30, 12, 0, 0),
  (12, .iload 2, 13, 0, 0),
  (13, .i2l, 14, 0, 0),
  (14, .lconst 0, 15, 0, 0),
  (15, .lconst 0, 18, 2, 0),
  (18, .invokestatic 157, 21, 0, 0),
  (21, .ifCond .eq 30, 24, 0, 0),
  (24, .iload 3, 25, 0, 0),
  (25, .iconst 0, 27, 72, 0),
  (27, .if_icmp .le 32, 30, 0, 0),
  (30, .iconst 0, 31, (-1), 1),
  (31, .ireturn, 32, 0, 0),
  (32, .iload 3, 33, 0, 0),
  (33, .ifCond .ge 39, 36, 0, 0),
  (36, .iconst 0, 38, (-14), 0),
  (38, .ireturn, 39, 0, 0),
  (39, .aload 0, 40, 0, 0),
  (40, .invokeinterface 12 62, 43, 0, 0),
  (43, .iload 1, 44, 0, 0),
  (44, .iload 2, 45, 0, 0),
  (45, .iastore, 46, 0, 0),
  (46, .aload 0, 47, 0, 0),
  (47, .invokeinterface 12 63, 50, 0, 0),
  (50, .iload 1, 51, 0, 0),
  (51, .iload 3, 52, 0, 0),
  (52, .iastore, 53, 0, 0),
  (53, .iconst 0, 54, 0, 0),
  (54, .istore 4, 56, 0, 0),
  (56, .iload 4, 58, 0, 5),
  (58, .iconst 0, 60, 72, 0),
  (60, .if_icmp .ge 82, 63, 0, 0),
  (63, .aload 0, 64, 0, 0),
  (64, .invokeinterface 12 64, 67, 0, 0),
  (67, .iconst 0, 69, 72, 0),
  (69, .iload 1, 70, 0, 0),
  (70, .imul, 71, 0, 0),
  (71, .iload 4, 73, 0, 0),
  (73, .iadd, 74, 0, 0),
  (74, .iconst 0, 75, 0, 0),
  (75, .iastore, 76, 0, 0),
  (76, .iinc 4 0, 79, 1, 0),
  (79, .goto 56, 82, 0, 0),
  (82, .iconst 0, 83, 1, 0),
  (83, .ireturn, 84, 0, 0)]
def gme_236 : gMe := ((yX12_sheet, cX12_sheet, 5, (some .int)), (12, false), (12, 3, 0, 0), gco_236_0)
def gco_237_0 : List gIn := [(0, .iload 1, 1, 0, 0),
  (1, .i2l, 2, 0, 0),
  (2, .lconst 0, 3, 0, 0),
  (3, .lconst 0, 6, 3, 0),
  (6, .invokestatic 157, 9, 0, 0),
  (9, .ifCond .ne 14, 12, 0, 0),
  (12, .iconst 0, 13, (-1), 0),
  (13, .ireturn, 14, 0, 0),
  (14, .aload 0, 15, 0, 0),
  (15, .invokeinterface 12 62, 18, 0, 0),
  (18, .iload 1, 19, 0, 0),
  (19, .iaload, 20, 0, 0),
  (20, .iconst 0, 22, (-4), 0),
  (22, .if_icmp .ne 28, 25, 0, 0),
  (25, .iconst 0, 27, (-11), 0),
  (27, .ireturn, 28, 0, 0),
  (28, .iload 2, 29, 0, 0),
  (29, .i2l, 30, 0, 0),
  (30, .lconst 0, 31, 0, 0),
  (31, .aload 0, 32, 0, 0),
  (32, .invokeinterface 12 63, 35, 0, 0),
  (35, .iload 1, 36, 0, 0),
  (36, .iaload, 37, 0, 0),
  (37, .iconst 0, 38, 1, 0),
  (38, .isub, 39, 0, 0),
  (39, .i2l, 40, 0, 0),
  (40, .invokestatic 157, 43, 0, 0),
  (43, .ifCond .ne 49, 46, 0, 0),
  (46, .iconst 0, 48, (-12), 0),
  (48, .ireturn, 49, 0, 0),
  (49, .aload 0, 50, 0, 0),
  (50, .invokeinterface 12 64, 53, 0, 0),
  (53, .iconst 0, 55, 72, 0),
  (55, .iload 1, 56, 0, 0),
  (56, .imul, 57, 0, 0),
  (57, .iload 2, 58, 0, 0),
  (58, .iadd, 59, 0, 0),
  (59, .aload 0, 60, 0, 0),
  (60, .invokeinterface 12 62, 63, 0, 0),
  (63, .iload 1, 64, 0, 0),
  (64, .iaload, 65, 0, 0),
  (65, .ifCond .ne 78, 68, 0, 0),
  (68, .iload 3, 69, 0, 0),
  (69, .iconst 0, 71, 24, 0),
  (71, .ishl, 72, 0, 0),
  (72, .iconst 0, 74, 24, 0),
  (74, .ishr, 75, 0, 0),
  (75, .goto 99, 78, 0, 0),
  (78, .aload 0, 79, 0, 0),
  (79, .invokeinterface 12 62, 82, 0, 0),
  (82, .iload 1, 83, 0, 0),
  (83, .iaload, 84, 0, 0),
  (84, .iconst 0, 85, 1, 0),
  (85, .if_icmp .ne 98, 88, 0, 0),
  (88, .iload 3, 89, 0, 0),
  (89, .iconst 0, 91, 16, 0),
  (91, .ishl, 92, 0, 0),
  (92, .iconst 0, 94, 16, 0),
  (94, .ishr, 95, 0, 0),
  (95, .goto 99, 98, 0, 0)]
def gco_237_1 : List gIn := [(98, .iload 3, 99, 0, 0),
  (99, .iastore, 100, 0, 1),
  (100, .iconst 0, 101, 1, 0),
  (101, .ireturn, 102, 0, 0)]
def gme_237 : gMe := ((yX12_write, cX12_write, 4, (some .int)), (12, false), (12, 3, 0, 0), gco_237_0 ++ (gco_237_1))
def gco_238_0 : List gIn := [(0, .iload 1, 1, 0, 0),
  (1, .i2l, 2, 0, 0),
  (2, .lconst 0, 3, 0, 0),
  (3, .lconst 0, 6, 3, 0),
  (6, .invokestatic 157, 9, 0, 0),
  (9, .ifCond .eq 24, 12, 0, 0),
  (12, .iload 2, 13, 0, 0),
  (13, .i2l, 14, 0, 0),
  (14, .lconst 0, 15, 0, 0),
  (15, .lconst 0, 18, 2, 0),
  (18, .invokestatic 157, 21, 0, 0),
  (21, .ifCond .ne 26, 24, 0, 0),
  (24, .iconst 0, 25, (-1), 1),
  (25, .ireturn, 26, 0, 0),
  (26, .aload 0, 27, 0, 0),
  (27, .invokeinterface 12 62, 30, 0, 0),
  (30, .iload 1, 31, 0, 0),
  (31, .iaload, 32, 0, 0),
  (32, .iload 2, 33, 0, 0),
  (33, .if_icmp .eq 55, 36, 0, 0),
  (36, .aload 0, 37, 0, 0),
  (37, .invokeinterface 12 62, 40, 0, 0),
  (40, .iload 1, 41, 0, 0),
  (41, .iaload, 42, 0, 0),
  (42, .iconst 0, 44, (-4), 0),
  (44, .if_icmp .ne 52, 47, 0, 0),
  (47, .iconst 0, 49, (-11), 0),
  (49, .goto 54, 52, 0, 0),
  (52, .iconst 0, 54, (-13), 0),
  (54, .ireturn, 55, 0, 1),
  (55, .iconst 0, 56, 0, 0),
  (56, .istore 4, 58, 0, 0),
  (58, .iload 4, 60, 0, 5),
  (60, .aload 0, 61, 0, 0),
  (61, .invokevirtual 158, 64, 0, 0),
  (64, .if_icmp .ge 129, 67, 0, 0),
  (67, .iload 3, 68, 0, 0),
  (68, .i2l, 69, 0, 0),
  (69, .iload 4, 71, 0, 0),
  (71, .i2l, 72, 0, 0),
  (72, .ladd, 73, 0, 0),
  (73, .lconst 0, 74, 0, 0),
  (74, .aload 0, 75, 0, 0),
  (75, .invokeinterface 12 63, 78, 0, 0),
  (78, .iload 1, 79, 0, 0),
  (79, .iaload, 80, 0, 0),
  (80, .iconst 0, 81, 1, 0),
  (81, .isub, 82, 0, 0),
  (82, .i2l, 83, 0, 0),
  (83, .invokestatic 157, 86, 0, 0),
  (86, .ifCond .ne 92, 89, 0, 0),
  (89, .iconst 0, 91, (-12), 0),
  (91, .ireturn, 92, 0, 0),
  (92, .aload 0, 93, 0, 0),
  (93, .invokeinterface 12 64, 96, 0, 0),
  (96, .iconst 0, 98, 72, 0),
  (98, .iload 1, 99, 0, 0),
  (99, .imul, 100, 0, 0),
  (100, .iload 3, 101, 0, 0),
  (101, .iadd, 102, 0, 0)]
def gco_238_1 : List gIn := [(102, .iload 4, 104, 0, 0),
  (104, .iadd, 105, 0, 0),
  (105, .iaload, 106, 0, 0),
  (106, .i2l, 107, 0, 0),
  (107, .lconst 0, 108, 0, 0),
  (108, .lconst 0, 111, 999, 0),
  (111, .invokestatic 157, 114, 0, 0),
  (114, .ifCond .ne 123, 117, 0, 0),
  (117, .iconst 0, 119, (-100), 0),
  (119, .iload 4, 121, 0, 0),
  (121, .isub, 122, 0, 0),
  (122, .ireturn, 123, 0, 0),
  (123, .iinc 4 0, 126, 1, 0),
  (126, .goto 58, 129, 0, 0),
  (129, .iconst 0, 130, 0, 0),
  (130, .istore 4, 132, 0, 0),
  (132, .iconst 0, 133, 0, 0),
  (133, .istore 5, 135, 0, 0),
  (135, .iload 5, 137, 0, 6),
  (137, .aload 0, 138, 0, 0),
  (138, .invokevirtual 158, 141, 0, 0),
  (141, .if_icmp .ge 189, 144, 0, 0),
  (144, .aload 0, 145, 0, 0),
  (145, .iload 5, 147, 0, 0),
  (147, .aload 0, 148, 0, 0),
  (148, .invokeinterface 12 64, 151, 0, 0),
  (151, .iconst 0, 153, 72, 0),
  (153, .iload 1, 154, 0, 0),
  (154, .imul, 155, 0, 0),
  (155, .iload 3, 156, 0, 0),
  (156, .iadd, 157, 0, 0),
  (157, .iload 5, 159, 0, 0),
  (159, .iadd, 160, 0, 0),
  (160, .iaload, 161, 0, 0),
  (161, .invokevirtual 165, 164, 0, 0),
  (164, .iload 4, 166, 0, 0),
  (166, .aload 0, 167, 0, 0),
  (167, .invokeinterface 12 64, 170, 0, 0),
  (170, .iconst 0, 172, 72, 0),
  (172, .iload 1, 173, 0, 0),
  (173, .imul, 174, 0, 0),
  (174, .iload 3, 175, 0, 0),
  (175, .iadd, 176, 0, 0),
  (176, .iload 5, 178, 0, 0),
  (178, .iadd, 179, 0, 0),
  (179, .iaload, 180, 0, 0),
  (180, .iadd, 181, 0, 0),
  (181, .istore 4, 183, 0, 0),
  (183, .iinc 5 0, 186, 1, 0),
  (186, .goto 135, 189, 0, 0),
  (189, .iload 4, 191, 0, 0),
  (191, .ireturn, 192, 0, 0)]
def gme_238 : gMe := ((yX12_scan, cX12_scan, 6, (some .int)), (12, false), (12, 3, 0, 0), gco_238_0 ++ (gco_238_1))
def gco_239_0 : List gIn := [(0, .iconst 0, 1, 0, 0),
  (1, .istore 2, 2, 0, 0),
  (2, .iconst 0, 3, 0, 0),
  (3, .istore 3, 4, 0, 0),
  (4, .iconst 0, 5, 0, 0),
  (5, .istore 4, 7, 0, 0),
  (7, .iconst 0, 8, 0, 0),
  (8, .istore 5, 10, 0, 0),
  (10, .iconst 0, 11, 0, 0),
  (11, .istore 6, 13, 0, 0),
  (13, .iload 6, 15, 0, 7),
  (15, .aload 0, 16, 0, 0),
  (16, .invokevirtual 158, 19, 0, 0),
  (19, .if_icmp .ge 47, 22, 0, 0),
  (22, .iload 2, 23, 0, 0),
  (23, .aload 0, 24, 0, 0),
  (24, .iload 6, 26, 0, 0),
  (26, .invokevirtual 166, 29, 0, 0),
  (29, .iadd, 30, 0, 0),
  (30, .istore 2, 31, 0, 0),
  (31, .iload 3, 32, 0, 0),
  (32, .aload 0, 33, 0, 0),
  (33, .invokeinterface 12 5, 36, 0, 0),
  (36, .iload 6, 38, 0, 0),
  (38, .iaload, 39, 0, 0),
  (39, .iadd, 40, 0, 0),
  (40, .istore 3, 41, 0, 0),
  (41, .iinc 6 0, 44, 1, 0),
  (44, .goto 13, 47, 0, 0),
  (47, .iconst 0, 48, 0, 0),
  (48, .istore 6, 50, 0, 0),
  (50, .iload 6, 52, 0, 7),
  (52, .iconst 0, 54, 6, 0),
  (54, .if_icmp .ge 87, 57, 0, 0),
  (57, .iload 4, 59, 0, 0),
  (59, .aload 0, 60, 0, 0),
  (60, .invokeinterface 12 24, 63, 0, 0),
  (63, .iload 6, 65, 0, 0),
  (65, .iaload, 66, 0, 0),
  (66, .iadd, 67, 0, 0),
  (67, .istore 4, 69, 0, 0),
  (69, .iload 5, 71, 0, 0),
  (71, .aload 0, 72, 0, 0),
  (72, .invokeinterface 12 25, 75, 0, 0),
  (75, .iload 6, 77, 0, 0),
  (77, .iaload, 78, 0, 0),
  (78, .iadd, 79, 0, 0),
  (79, .istore 5, 81, 0, 0),
  (81, .iinc 6 0, 84, 1, 0),
  (84, .goto 50, 87, 0, 0),
  (87, .iload 1, 88, 0, 0),
  (88, .lookupswitch 238 #[(0, 160), (1, 165), (2, 167), (3, 169), (4, 174), (5, 179), (6, 184), (7, 189), (8, 194), (9, 197), (10, 200), (11, 205), (12, 210), (13, 215)], 160, 0, 0),
  (160, .aload 0, 161, 0, 0),
  (161, .invokevirtual 158, 164, 0, 0),
  (164, .ireturn, 165, 0, 0),
  (165, .iload 2, 166, 0, 0),
  (166, .ireturn, 167, 0, 0),
  (167, .iload 3, 168, 0, 0),
  (168, .ireturn, 169, 0, 0),
  (169, .aload 0, 170, 0, 0)]
def gco_239_1 : List gIn := [(170, .invokeinterface 12 8, 173, 0, 0),
  (173, .ireturn, 174, 0, 0),
  (174, .aload 0, 175, 0, 0),
  (175, .invokeinterface 12 10, 178, 0, 0),
  (178, .ireturn, 179, 0, 0),
  (179, .aload 0, 180, 0, 0),
  (180, .invokeinterface 12 15, 183, 0, 0),
  (183, .ireturn, 184, 0, 0),
  (184, .aload 0, 185, 0, 0),
  (185, .invokeinterface 12 48, 188, 0, 0),
  (188, .ireturn, 189, 0, 0),
  (189, .aload 0, 190, 0, 0),
  (190, .invokeinterface 12 2, 193, 0, 0),
  (193, .ireturn, 194, 0, 0),
  (194, .iload 4, 196, 0, 0),
  (196, .ireturn, 197, 0, 0),
  (197, .iload 5, 199, 0, 0),
  (199, .ireturn, 200, 0, 0),
  (200, .aload 0, 201, 0, 0),
  (201, .invokevirtual 199, 204, 0, 0),
  (204, .ireturn, 205, 0, 0),
  (205, .aload 0, 206, 0, 0),
  (206, .invokeinterface 12 60, 209, 0, 0),
  (209, .ireturn, 210, 0, 0),
  (210, .aload 0, 211, 0, 0),
  (211, .invokeinterface 12 37, 214, 0, 0),
  (214, .ireturn, 215, 0, 0),
  (215, .aload 0, 216, 0, 0),
  (216, .invokeinterface 12 62, 219, 0, 0),
  (219, .iconst 0, 220, 0, 0),
  (220, .iaload, 221, 0, 0),
  (221, .iconst 0, 223, (-4), 0),
  (223, .if_icmp .ne 231, 226, 0, 0),
  (226, .iconst 0, 228, (-4), 0),
  (228, .goto 237, 231, 0, 0),
  (231, .aload 0, 232, 0, 0),
  (232, .invokeinterface 12 63, 235, 0, 0),
  (235, .iconst 0, 236, 0, 0),
  (236, .iaload, 237, 0, 0),
  (237, .ireturn, 238, 0, 1),
  (238, .iconst 0, 239, (-1), 0),
  (239, .ireturn, 240, 0, 0)]
def gme_239 : gMe := ((yX12_count, cX12_count, 7, (some .int)), (12, false), (12, 1, 0, 0), gco_239_0 ++ (gco_239_1))
def gco_240_0 : List gIn := [(0, .iconst 0, 1, 0, 0),
  (1, .istore 2, 2, 0, 0),
  (2, .aload 0, 3, 0, 0),
  (3, .arraylength, 4, 0, 0),
  (4, .istore 3, 5, 0, 0),
  (5, .iload 2, 6, 0, 4),
  (6, .iload 3, 7, 0, 0),
  (7, .if_icmp .ge 20, 10, 0, 0),
  (10, .aload 0, 11, 0, 0),
  (11, .iload 2, 12, 0, 0),
  (12, .iload 1, 13, 0, 0),
  (13, .iastore, 14, 0, 0),
  (14, .iinc 2 0, 17, 1, 0),
  (17, .goto 5, 20, 0, 0),
  (20, .return_, 21, 0, 0)]
def gme_240 : gMe := ((yJ7_fill_53178, cJ7_fill_53178, 4, none), (21, false), (99, 2, 0, 0), gco_240_0)
def gtab : List gMe := [gme_0, gme_1, gme_2, gme_3, gme_4, gme_5, gme_6, gme_7, gme_8, gme_9, gme_10, gme_11, gme_12, gme_13, gme_14, gme_15, gme_16, gme_17, gme_18, gme_19, gme_20, gme_21, gme_22, gme_23, gme_24, gme_25, gme_26, gme_27, gme_28, gme_29, gme_30, gme_31, gme_32, gme_33, gme_34, gme_35, gme_36, gme_37, gme_38, gme_39, gme_40, gme_41, gme_42, gme_43, gme_44, gme_45, gme_46, gme_47, gme_48, gme_49, gme_50, gme_51, gme_52, gme_53, gme_54, gme_55, gme_56, gme_57, gme_58, gme_59, gme_60, gme_61, gme_62, gme_63, gme_64, gme_65, gme_66, gme_67, gme_68, gme_69, gme_70, gme_71, gme_72, gme_73, gme_74, gme_75, gme_76, gme_77, gme_78, gme_79, gme_80, gme_81, gme_82, gme_83, gme_84, gme_85, gme_86, gme_87, gme_88, gme_89, gme_90, gme_91, gme_92, gme_93, gme_94, gme_95, gme_96, gme_97, gme_98, gme_99, gme_100, gme_101, gme_102, gme_103, gme_104, gme_105, gme_106, gme_107, gme_108, gme_109, gme_110, gme_111, gme_112, gme_113, gme_114, gme_115, gme_116, gme_117, gme_118, gme_119, gme_120, gme_121, gme_122, gme_123, gme_124, gme_125, gme_126, gme_127, gme_128, gme_129, gme_130, gme_131, gme_132, gme_133, gme_134, gme_135, gme_136, gme_137, gme_138, gme_139, gme_140, gme_141, gme_142, gme_143, gme_144, gme_145, gme_146, gme_147, gme_148, gme_149, gme_150, gme_151, gme_152, gme_153, gme_154, gme_155, gme_156, gme_157, gme_158, gme_159, gme_160, gme_161, gme_162, gme_163, gme_164, gme_165, gme_166, gme_167, gme_168, gme_169, gme_170, gme_171, gme_172, gme_173, gme_174, gme_175, gme_176, gme_177, gme_178, gme_179, gme_180, gme_181, gme_182, gme_183, gme_184, gme_185, gme_186, gme_187, gme_188, gme_189, gme_190, gme_191, gme_192, gme_193, gme_194, gme_195, gme_196, gme_197, gme_198, gme_199, gme_200, gme_201, gme_202, gme_203, gme_204, gme_205, gme_206, gme_207, gme_208, gme_209, gme_210, gme_211, gme_212, gme_213, gme_214, gme_215, gme_216, gme_217, gme_218, gme_219, gme_220, gme_221, gme_222, gme_223, gme_224, gme_225, gme_226, gme_227, gme_228, gme_229, gme_230, gme_231, gme_232, gme_233, gme_234, gme_235, gme_236, gme_237, gme_238, gme_239, gme_240]
def gFL : List (Nat × Nat × Nat × Nat × Nat) := [(0, 9, 0, 0, 279), (0, 15, 0, 1, 282), (0, 18, 0, 2, 284), (0, 21, 0, 3, 286), (1, 38, 5, 2, 119), (1, 15, 1, 1, 429), (1, 64, 5, 5, 127), (1, 34, 1, 2, 430), (1, 19, 1, 3, 431), (1, 22, 1, 4, 432), (1, 25, 1, 5, 433), (1, 74, 5, 8, 137), (1, 28, 1, 6, 434), (1, 75, 5, 7, 132), (1, 31, 1, 7, 435), (1, 9, 1, 0, 427), (1, 92, 3, 0, 164), (1, 96, 3, 2, 171), (2, 9, 2, 0, 185), (2, 33, 2, 1, 188), (2, 15, 2, 2, 191), (2, 18, 2, 3, 194), (2, 21, 2, 4, 197), (2, 24, 2, 5, 200), (3, 12, 3, 0, 160), (3, 18, 3, 1, 165), (3, 22, 3, 2, 169), (3, 45, 5, 8, 136), (3, 48, 5, 2, 121), (4, 25, 4, 0, 365), (4, 9, 4, 1, 368), (4, 15, 4, 2, 370), (4, 18, 4, 3, 372), (4, 21, 4, 4, 374), (4, 52, 9, 0, 330), (4, 56, 3, 1, 168), (4, 83, 9, 2, 335), (4, 87, 10, 8, 251), (4, 102, 10, 0, 225), (4, 103, 10, 1, 230), (5, 9, 5, 3, 123), (5, 15, 5, 4, 124), (5, 18, 5, 5, 125), (5, 21, 5, 6, 128), (5, 24, 5, 7, 130), (5, 27, 5, 8, 135), (5, 30, 5, 0, 117), (5, 34, 5, 1, 118), (5, 37, 5, 2, 120), (6, 32, 6, 4, 468), (6, 12, 6, 0, 464), (6, 49, 9, 0, 329), (6, 55, 3, 0, 162), (6, 25, 6, 2, 466), (6, 42, 6, 7, 471), (6, 68, 9, 2, 334), (6, 21, 6, 1, 465), (6, 29, 6, 3, 467), (6, 39, 6, 6, 470), (6, 86, 10, 0, 223), (6, 91, 10, 4, 241), (6, 95, 10, 1, 228), (6, 98, 10, 2, 233), (6, 101, 10, 3, 237), (6, 36, 6, 5, 469), (6, 113, 5, 8, 139), (6, 116, 5, 7, 133), (7, 15, 7, 2, 501), (7, 9, 7, 0, 497), (7, 19, 7, 1, 499), (8, 22, 8, 0, 387), (8, 9, 8, 1, 389), (8, 18, 8, 2, 390), (8, 27, 8, 3, 392), (8, 39, 8, 6, 397), (8, 26, 4, 0, 366), (8, 56, 8, 8, 399), (8, 74, 8, 7, 398), (8, 33, 8, 5, 396), (9, 12, 9, 0, 327), (9, 21, 9, 1, 331), (9, 28, 9, 2, 333), (9, 35, 9, 3, 337), (9, 49, 9, 4, 339), (9, 66, 10, 0, 224), (9, 69, 10, 4, 242), (9, 73, 1, 0, 428), (9, 83, 3, 0, 163), (9, 94, 10, 2, 234), (9, 97, 10, 3, 238), (9, 113, 5, 7, 134), (9, 124, 0, 0, 280), (9, 127, 10, 1, 229), (9, 130, 2, 4, 198), (9, 133, 2, 3, 195), (9, 134, 2, 2, 192), (9, 141, 3, 1, 167), (9, 144, 2, 1, 189), (9, 149, 2, 5, 201), (9, 152, 2, 0, 187), (10, 25, 10, 5, 244), (10, 28, 10, 6, 246), (10, 31, 10, 7, 248), (10, 34, 10, 8, 250), (10, 37, 10, 0, 222), (10, 9, 10, 1, 227), (10, 15, 10, 2, 232), (10, 18, 10, 3, 236), (10, 21, 10, 4, 240), (11, 20, 11, 4, 514), (11, 54, 11, 9, 519), (11, 10, 11, 0, 510), (11, 77, 9, 0, 328), (11, 81, 3, 0, 161), (11, 87, 5, 5, 126), (11, 92, 5, 6, 129), (11, 95, 5, 7, 131), (11, 104, 3, 1, 166), (11, 107, 5, 8, 138), (11, 117, 3, 2, 170), (11, 120, 9, 4, 340), (11, 41, 11, 7, 517), (11, 128, 11, 3, 513), (11, 134, 9, 1, 332), (11, 138, 2, 0, 186), (11, 147, 2, 1, 190), (11, 150, 2, 2, 193), (11, 153, 2, 3, 196), (11, 156, 2, 4, 199), (11, 159, 2, 5, 202), (11, 168, 9, 3, 338), (11, 172, 9, 2, 336), (11, 176, 0, 0, 281), (11, 181, 0, 1, 283), (11, 184, 0, 2, 285), (11, 34, 11, 6, 516), (11, 218, 10, 3, 239), (11, 221, 10, 4, 243), (11, 225, 10, 1, 231), (11, 226, 10, 2, 235), (11, 229, 10, 5, 245), (11, 230, 10, 6, 247), (11, 234, 10, 7, 249), (11, 235, 10, 8, 252), (11, 27, 11, 5, 515), (11, 257, 8, 0, 388), (11, 261, 8, 3, 393), (11, 264, 8, 4, 395), (11, 267, 8, 2, 391), (11, 274, 4, 0, 367), (11, 275, 4, 1, 369), (11, 278, 4, 2, 371), (11, 281, 4, 3, 373), (11, 284, 4, 4, 375), (11, 48, 11, 8, 518), (11, 335, 11, 2, 512), (11, 16, 11, 1, 511), (11, 348, 7, 0, 498), (11, 351, 7, 1, 500), (11, 355, 5, 2, 122), (11, 369, 10, 0, 226), (11, 379, 7, 2, 502), (12, 7, 12, 0, 1193), (12, 13, 12, 1, 1194), (12, 165, 12, 8, 1201), (12, 168, 12, 15, 1208), (12, 171, 12, 2, 1195), (12, 16, 12, 3, 1196), (12, 20, 12, 4, 1197), (12, 23, 12, 5, 1198), (12, 26, 12, 6, 1199), (12, 29, 12, 7, 1200), (12, 32, 12, 9, 1202), (12, 71, 12, 24, 1217), (12, 74, 12, 25, 1218), (12, 77, 12, 26, 1219), (12, 80, 12, 27, 1220), (12, 86, 12, 29, 1222), (12, 50, 12, 17, 1210), (12, 53, 12, 18, 1211), (12, 56, 12, 19, 1212), (12, 62, 12, 21, 1214), (12, 59, 12, 20, 1213), (12, 65, 12, 22, 1215), (12, 68, 12, 23, 1216), (12, 47, 12, 16, 1209), (12, 89, 12, 30, 1223), (12, 92, 12, 31, 1224), (12, 95, 12, 32, 1225), (12, 104, 12, 35, 1228), (12, 98, 12, 33, 1226), (12, 101, 12, 34, 1227), (12, 176, 12, 10, 1203), (12, 35, 12, 11, 1204), (12, 38, 12, 12, 1205), (12, 41, 12, 13, 1206), (12, 44, 12, 14, 1207), (12, 245, 12, 48, 1241), (12, 119, 12, 49, 1242), (12, 128, 12, 52, 1245), (12, 125, 12, 51, 1244), (12, 122, 12, 50, 1243), (12, 286, 12, 37, 1230), (12, 107, 12, 36, 1229), (12, 289, 12, 39, 1232), (12, 292, 12, 42, 1235), (12, 110, 12, 45, 1238), (12, 113, 12, 46, 1239), (12, 301, 12, 41, 1234), (12, 304, 12, 44, 1237), (12, 307, 12, 43, 1236), (12, 324, 12, 53, 1246), (12, 131, 12, 54, 1247), (12, 134, 12, 55, 1248), (12, 137, 12, 56, 1249), (12, 116, 12, 47, 1240), (12, 295, 12, 40, 1233), (12, 339, 12, 38, 1231), (12, 347, 12, 59, 1252), (12, 140, 12, 57, 1250), (12, 351, 12, 58, 1251), (12, 363, 12, 60, 1253), (12, 83, 12, 28, 1221), (12, 143, 12, 61, 1254), (12, 146, 12, 62, 1255), (12, 149, 12, 63, 1256), (12, 152, 12, 64, 1257)]
def gPI : List (Nat × Nat × Nat × Nat × Nat) := [(1, 34, 1, 2, 430), (2, 33, 2, 1, 188), (4, 25, 4, 0, 365), (5, 30, 5, 0, 117), (5, 34, 5, 1, 118), (5, 37, 5, 2, 120), (6, 32, 6, 4, 468), (6, 36, 6, 5, 469), (6, 39, 6, 6, 470), (6, 42, 6, 7, 471), (7, 9, 7, 0, 497), (7, 19, 7, 1, 499), (8, 22, 8, 0, 387), (8, 26, 4, 0, 366), (8, 27, 8, 3, 392), (8, 30, 8, 4, 394), (8, 33, 8, 5, 396), (8, 74, 8, 7, 398), (8, 56, 8, 8, 399), (8, 39, 8, 6, 397), (9, 49, 9, 4, 339), (10, 37, 10, 0, 222), (11, 128, 11, 3, 513), (11, 257, 8, 0, 388), (11, 335, 11, 2, 512), (12, 7, 12, 0, 1193), (12, 13, 12, 1, 1194), (12, 171, 12, 2, 1195), (12, 176, 12, 10, 1203), (12, 168, 12, 15, 1208), (12, 165, 12, 8, 1201), (12, 286, 12, 37, 1230), (12, 289, 12, 39, 1232), (12, 295, 12, 40, 1233), (12, 301, 12, 41, 1234), (12, 292, 12, 42, 1235), (12, 304, 12, 44, 1237), (12, 307, 12, 43, 1236), (12, 324, 12, 53, 1246), (12, 339, 12, 38, 1231), (12, 245, 12, 48, 1241), (12, 351, 12, 58, 1251), (12, 347, 12, 59, 1252), (12, 363, 12, 60, 1253)]
def gPR : List (Nat × Nat × Nat × Nat × Nat) := [(0, 9, 0, 0, 279), (0, 15, 0, 1, 282), (0, 18, 0, 2, 284), (0, 21, 0, 3, 286), (1, 9, 1, 0, 427), (1, 15, 1, 1, 429), (1, 19, 1, 3, 431), (1, 22, 1, 4, 432), (1, 25, 1, 5, 433), (1, 28, 1, 6, 434), (1, 31, 1, 7, 435), (2, 9, 2, 0, 185), (2, 15, 2, 2, 191), (2, 18, 2, 3, 194), (2, 21, 2, 4, 197), (2, 24, 2, 5, 200), (3, 12, 3, 0, 160), (3, 18, 3, 1, 165), (3, 22, 3, 2, 169), (4, 9, 4, 1, 368), (4, 15, 4, 2, 370), (4, 18, 4, 3, 372), (4, 21, 4, 4, 374), (5, 9, 5, 3, 123), (5, 15, 5, 4, 124), (5, 18, 5, 5, 125), (5, 21, 5, 6, 128), (5, 24, 5, 7, 130), (5, 27, 5, 8, 135), (6, 12, 6, 0, 464), (6, 21, 6, 1, 465), (6, 25, 6, 2, 466), (6, 29, 6, 3, 467), (7, 15, 7, 2, 501), (8, 9, 8, 1, 389), (8, 18, 8, 2, 390), (9, 12, 9, 0, 327), (9, 21, 9, 1, 331), (9, 28, 9, 2, 333), (9, 35, 9, 3, 337), (10, 9, 10, 1, 227), (10, 15, 10, 2, 232), (10, 18, 10, 3, 236), (10, 21, 10, 4, 240), (10, 25, 10, 5, 244), (10, 28, 10, 6, 246), (10, 31, 10, 7, 248), (10, 34, 10, 8, 250), (11, 10, 11, 0, 510), (11, 16, 11, 1, 511), (11, 20, 11, 4, 514), (11, 27, 11, 5, 515), (11, 34, 11, 6, 516), (11, 41, 11, 7, 517), (11, 48, 11, 8, 518), (11, 54, 11, 9, 519), (12, 16, 12, 3, 1196), (12, 20, 12, 4, 1197), (12, 23, 12, 5, 1198), (12, 26, 12, 6, 1199), (12, 29, 12, 7, 1200), (12, 32, 12, 9, 1202), (12, 35, 12, 11, 1204), (12, 38, 12, 12, 1205), (12, 41, 12, 13, 1206), (12, 44, 12, 14, 1207), (12, 47, 12, 16, 1209), (12, 50, 12, 17, 1210), (12, 53, 12, 18, 1211), (12, 56, 12, 19, 1212), (12, 59, 12, 20, 1213), (12, 62, 12, 21, 1214), (12, 65, 12, 22, 1215), (12, 68, 12, 23, 1216), (12, 71, 12, 24, 1217), (12, 74, 12, 25, 1218), (12, 77, 12, 26, 1219), (12, 80, 12, 27, 1220), (12, 83, 12, 28, 1221), (12, 86, 12, 29, 1222), (12, 89, 12, 30, 1223), (12, 92, 12, 31, 1224), (12, 95, 12, 32, 1225), (12, 98, 12, 33, 1226), (12, 101, 12, 34, 1227), (12, 104, 12, 35, 1228), (12, 107, 12, 36, 1229), (12, 110, 12, 45, 1238), (12, 113, 12, 46, 1239), (12, 116, 12, 47, 1240), (12, 119, 12, 49, 1242), (12, 122, 12, 50, 1243), (12, 125, 12, 51, 1244), (12, 128, 12, 52, 1245), (12, 131, 12, 54, 1247), (12, 134, 12, 55, 1248), (12, 137, 12, 56, 1249), (12, 140, 12, 57, 1250), (12, 143, 12, 61, 1254), (12, 146, 12, 62, 1255), (12, 149, 12, 63, 1256), (12, 152, 12, 64, 1257)]
def gML : List (Nat × Nat × Nat × Nat × Nat × Nat × Nat × Nat) := [(0, 24, 240, 0, 326, 309, 78, 0), (0, 42, 3, 1, 829, 830, 831, 77), (0, 46, 7, 0, 1180, 1181, 77, 0), (1, 41, 46, 1, 626, 600, 601, 74), (1, 45, 10, 1, 627, 629, 2, 81), (1, 49, 48, 1, 631, 632, 633, 74), (1, 53, 11, 0, 635, 636, 81, 0), (1, 57, 12, 1, 641, 643, 3, 81), (1, 61, 47, 1, 638, 577, 578, 74), (1, 76, 15, 1, 651, 653, 4, 81), (1, 80, 240, 0, 649, 309, 78, 0), (1, 86, 24, 1, 650, 611, 612, 73), (2, 27, 240, 0, 316, 309, 78, 0), (3, 11, 42, 3, 113, 114, 0, 74), (3, 25, 43, 1, 304, 305, 306, 74), (3, 29, 240, 0, 311, 309, 78, 0), (3, 35, 44, 1, 1104, 1027, 1028, 74), (3, 52, 49, 1, 775, 776, 777, 74), (4, 35, 32, 1, 724, 725, 726, 80), (4, 39, 91, 1, 757, 615, 616, 72), (4, 45, 33, 1, 758, 759, 760, 80), (4, 48, 36, 1, 762, 763, 764, 80), (4, 61, 96, 1, 766, 692, 693, 72), (4, 65, 34, 1, 767, 769, 7, 80), (4, 69, 26, 1, 771, 772, 773, 73), (4, 72, 98, 1, 783, 784, 785, 72), (4, 75, 99, 1, 728, 729, 730, 72), (4, 92, 37, 1, 720, 721, 722, 80), (4, 99, 38, 1, 716, 717, 718, 80), (4, 106, 39, 1, 712, 713, 714, 80), (5, 40, 240, 0, 308, 309, 78, 0), (5, 58, 46, 1, 599, 600, 601, 74), (5, 65, 54, 1, 1168, 1170, 24, 74), (6, 11, 42, 3, 461, 114, 0, 74), (6, 20, 8, 3, 463, 424, 0, 81), (6, 45, 58, 1, 1062, 1023, 1024, 82), (6, 58, 44, 1, 1026, 1027, 1028, 74), (6, 62, 240, 0, 1031, 309, 78, 0), (6, 72, 59, 1, 1032, 1034, 19, 82), (6, 76, 9, 1, 1045, 623, 624, 81), (6, 79, 13, 1, 1046, 1047, 1048, 81), (6, 82, 61, 0, 1042, 1043, 82, 0), (6, 103, 60, 1, 1036, 1038, 20, 82), (6, 107, 50, 1, 1040, 596, 597, 74), (6, 110, 51, 1, 1041, 607, 608, 74), (6, 119, 62, 1, 1071, 1051, 1052, 82), (6, 122, 64, 1, 1067, 1069, 21, 82), (6, 126, 63, 1, 1080, 1082, 22, 82), (7, 22, 240, 0, 1139, 309, 78, 0), (8, 17, 27, 3, 361, 362, 0, 80), (8, 36, 81, 1, 859, 861, 9, 79), (8, 42, 76, 1, 943, 945, 14, 79), (8, 46, 77, 1, 951, 953, 16, 79), (8, 50, 80, 1, 932, 934, 12, 79), (8, 53, 78, 1, 947, 949, 15, 79), (8, 59, 30, 1, 955, 956, 957, 80), (8, 63, 79, 0, 959, 960, 79, 0), (8, 67, 31, 1, 962, 963, 964, 80), (8, 70, 29, 1, 966, 967, 968, 80), (8, 77, 86, 0, 863, 864, 79, 0), (8, 81, 82, 1, 866, 868, 10, 79), (8, 84, 87, 0, 936, 937, 79, 0), (8, 87, 83, 1, 939, 941, 13, 79), (8, 90, 85, 0, 870, 871, 79, 0), (8, 94, 84, 1, 880, 882, 11, 79), (9, 11, 20, 3, 107, 108, 0, 73), (9, 20, 16, 3, 181, 182, 0, 75), (9, 27, 100, 3, 218, 219, 0, 76), (9, 34, 0, 3, 275, 276, 0, 77), (9, 39, 89, 1, 296, 297, 298, 72), (9, 43, 21, 1, 300, 301, 302, 73), (9, 44, 17, 1, 312, 313, 314, 75), (9, 47, 101, 1, 317, 318, 319, 76), (9, 48, 1, 1, 322, 323, 324, 77), (9, 53, 22, 1, 1100, 1101, 1102, 73), (9, 57, 18, 1, 1106, 1107, 1108, 75), (9, 60, 102, 1, 1111, 1112, 1113, 76), (9, 63, 2, 1, 1116, 1117, 1118, 77), (9, 79, 93, 1, 591, 593, 1, 72), (9, 87, 9, 1, 622, 623, 624, 81), (9, 91, 14, 1, 645, 646, 647, 81), (9, 100, 50, 1, 595, 596, 597, 74), (9, 106, 51, 1, 606, 607, 608, 74), (9, 109, 24, 1, 610, 611, 612, 73), (9, 116, 91, 1, 614, 615, 616, 72), (9, 120, 104, 1, 618, 619, 620, 76), (9, 137, 95, 1, 683, 685, 6, 72), (9, 145, 94, 1, 695, 680, 681, 72), (9, 155, 49, 1, 787, 776, 777, 74), (9, 163, 97, 1, 732, 733, 734, 72), (9, 167, 25, 1, 736, 737, 738, 73), (10, 41, 240, 0, 321, 309, 78, 0), (11, 9, 88, 2, 101, 102, 0, 72), (11, 26, 73, 3, 355, 356, 0, 79), (11, 33, 27, 3, 420, 362, 0, 80), (11, 40, 8, 3, 423, 424, 0, 81), (11, 47, 55, 3, 456, 457, 0, 82), (11, 58, 240, 0, 491, 309, 78, 0), (11, 64, 69, 3, 493, 494, 0, 83), (11, 65, 89, 1, 545, 297, 298, 72), (11, 69, 150, 1, 550, 552, 0, 71), (11, 73, 145, 0, 558, 559, 71, 0), (11, 98, 23, 1, 561, 562, 563, 73), (11, 101, 146, 0, 569, 570, 71, 0), (11, 110, 47, 1, 576, 577, 578, 74), (11, 114, 147, 0, 580, 581, 71, 0), (11, 124, 92, 1, 587, 588, 589, 72), (11, 131, 151, 1, 663, 665, 5, 71), (11, 143, 19, 1, 671, 672, 673, 75), (11, 162, 94, 1, 679, 680, 681, 72), (11, 165, 96, 1, 691, 692, 693, 72), (11, 187, 105, 1, 700, 701, 702, 76), (11, 192, 106, 1, 704, 705, 706, 76), (11, 195, 40, 1, 708, 709, 710, 80), (11, 205, 107, 1, 745, 746, 747, 76), (11, 208, 35, 1, 753, 754, 755, 80), (11, 212, 103, 1, 789, 790, 791, 76), (11, 215, 152, 1, 801, 803, 8, 71), (11, 231, 39, 1, 813, 713, 714, 80), (11, 238, 37, 1, 818, 721, 722, 80), (11, 241, 38, 1, 819, 717, 718, 80), (11, 244, 91, 1, 824, 615, 616, 72), (11, 248, 4, 1, 825, 826, 827, 77), (11, 251, 3, 1, 838, 830, 831, 77), (11, 254, 74, 1, 843, 844, 845, 79), (11, 258, 75, 1, 855, 856, 857, 79), (11, 270, 28, 1, 970, 971, 972, 80), (11, 289, 41, 1, 992, 993, 994, 80), (11, 293, 33, 1, 1000, 759, 760, 80), (11, 296, 36, 1, 1001, 763, 764, 80), (11, 300, 153, 1, 1010, 1012, 17, 71), (11, 304, 154, 1, 1014, 1016, 18, 71), (11, 307, 56, 1, 1018, 1019, 1020, 82), (11, 311, 58, 1, 1022, 1023, 1024, 82), (11, 315, 62, 1, 1050, 1051, 1052, 82), (11, 318, 57, 1, 1058, 1059, 1060, 82), (11, 322, 65, 1, 1063, 1064, 1065, 82), (11, 325, 66, 1, 1072, 1073, 1074, 82), (11, 328, 67, 1, 1076, 1077, 1078, 82), (11, 332, 68, 1, 1088, 1089, 1090, 82), (11, 338, 90, 1, 1096, 1097, 1098, 72), (11, 341, 148, 0, 1129, 1130, 71, 0), (11, 344, 149, 0, 1132, 1133, 71, 0), (11, 347, 70, 1, 1135, 1136, 1137, 83), (11, 352, 71, 1, 1144, 1145, 1146, 83), (11, 356, 72, 1, 1152, 1153, 1154, 83), (11, 359, 155, 1, 1156, 1158, 23, 71), (11, 363, 52, 1, 1164, 1165, 1166, 74), (11, 366, 53, 1, 1172, 1173, 1174, 74), (11, 370, 5, 1, 1176, 1177, 1178, 77), (11, 373, 6, 1, 1183, 1184, 1185, 77), (11, 376, 45, 1, 554, 555, 556, 74), (12, 155, 158, 1, 1405, 1407, 26, 84), (12, 159, 157, 0, 1394, 1395, 84, 0), (12, 179, 159, 1, 1401, 1403, 25, 84), (12, 187, 165, 1, 1411, 1413, 27, 84), (12, 191, 160, 0, 1419, 1420, 84, 0), (12, 194, 166, 1, 1429, 1431, 28, 84), (12, 202, 169, 1, 1433, 1435, 29, 84), (12, 205, 171, 1, 1449, 1451, 32, 84), (12, 208, 163, 1, 1453, 1455, 33, 84), (12, 211, 173, 1, 1469, 1471, 37, 84), (12, 215, 174, 1, 1465, 1467, 36, 84), (12, 218, 175, 1, 1461, 1463, 35, 84), (12, 222, 172, 1, 1445, 1447, 31, 84), (12, 225, 176, 1, 1457, 1459, 34, 84), (12, 228, 177, 1, 1441, 1443, 30, 84), (12, 231, 161, 1, 1481, 1483, 38, 84), (12, 236, 182, 1, 1494, 1496, 39, 84), (12, 239, 184, 1, 1502, 1504, 40, 84), (12, 242, 198, 1, 1510, 1512, 41, 84), (12, 248, 188, 1, 1539, 1541, 47, 84), (12, 251, 187, 1, 1543, 1545, 48, 84), (12, 254, 216, 1, 1522, 1524, 44, 84), (12, 257, 189, 1, 1535, 1537, 46, 84), (12, 263, 190, 1, 1531, 1533, 45, 84), (12, 266, 191, 1, 1547, 1549, 49, 84), (12, 270, 162, 1, 1559, 1561, 50, 84), (12, 273, 196, 1, 1518, 1520, 43, 84), (12, 276, 197, 1, 1514, 1516, 42, 84), (12, 283, 202, 1, 1581, 1583, 51, 84), (12, 298, 207, 1, 1605, 1607, 53, 84), (12, 314, 209, 1, 1611, 1613, 54, 84), (12, 317, 208, 1, 1615, 1617, 55, 84), (12, 327, 210, 1, 1601, 1603, 52, 84), (12, 330, 211, 1, 1625, 1627, 57, 84), (12, 333, 212, 1, 1629, 1631, 58, 84), (12, 336, 213, 1, 1621, 1623, 56, 84), (12, 344, 199, 1, 1647, 1649, 59, 84), (12, 354, 220, 1, 1667, 1669, 62, 84), (12, 357, 221, 1, 1663, 1665, 61, 84), (12, 360, 222, 1, 1671, 1673, 63, 84), (12, 366, 223, 1, 1659, 1661, 60, 84), (12, 374, 227, 1, 1687, 1689, 64, 84), (12, 378, 228, 1, 1693, 1695, 65, 84), (12, 381, 229, 1, 1697, 1699, 66, 84), (12, 387, 231, 1, 1706, 1708, 67, 84), (12, 391, 232, 1, 1710, 1712, 68, 84), (12, 395, 233, 1, 1714, 1716, 69, 84)]
def gCK : List (Nat × Nat × Nat × Nat × Nat × Nat) := [(3, 9, 5, 111, 112, 74), (6, 9, 5, 460, 112, 74), (6, 18, 1, 462, 422, 81), (8, 15, 4, 359, 360, 80), (9, 9, 3, 105, 106, 73), (9, 18, 2, 179, 180, 75), (9, 25, 10, 216, 217, 76), (9, 32, 0, 273, 274, 77), (11, 7, 9, 99, 100, 72), (11, 24, 8, 353, 354, 79), (11, 31, 4, 419, 360, 80), (11, 38, 1, 421, 422, 81), (11, 45, 6, 454, 455, 82), (11, 52, 7, 489, 492, 83)]
def gAL : List (Nat × Nat × Nat × Nat) := [(11, 7, 12, 99), (11, 52, 10, 489)]
def gCO : List (Nat × Nat × Int32 × Nat) := [(11, 287, (-100000), 990), (11, 288, (-100002), 991), (12, 342, (-100000), 1645), (12, 343, (-100002), 1646)]
def gLO : List (Nat × Nat × Int32 × Nat) := [(1, 72, 40, 640), (12, 163, 7, 1422), (12, 174, 6, 1393), (12, 183, 9, 1409), (12, 185, 999, 1410), (12, 198, 10, 1427), (12, 200, 18, 1428), (12, 234, 199, 1489), (12, 261, 60, 1530), (12, 279, 49, 1575), (12, 281, 2, 1576), (12, 310, 97, 1609), (12, 312, 122, 1610), (12, 320, 48, 1619), (12, 322, 57, 1620), (12, 370, 4, 1691), (12, 372, 24, 1692), (12, 385, 3, 1705)]
def gSO : List (Nat × Nat × Nat) := [(8, 107, 0), (8, 109, 1), (8, 111, 2), (8, 113, 3), (8, 115, 4), (8, 117, 5), (8, 119, 6)]
def gOI : List (Nat × Nat × Nat) := [(0, 3, 278), (1, 3, 426), (2, 3, 184), (3, 3, 110), (4, 3, 364), (5, 3, 116), (6, 3, 459), (7, 3, 496), (8, 3, 358), (9, 3, 104), (10, 3, 221), (11, 1, 96), (12, 1, 1192)]
def gAC : List (Nat × Nat × Nat) := [(0, 30, 1120), (2, 37, 1110), (3, 39, 1105), (4, 29, 974), (5, 46, 1030), (10, 47, 1115)]
def gMA : List (Nat × Nat × Nat × Nat) := [(0, 36, 3, 833), (1, 67, 4, 639), (3, 56, 4, 782), (4, 78, 4, 740), (4, 96, 3, 741), (5, 52, 5, 779), (5, 61, 4, 603), (9, 158, 4, 788), (11, 199, 3, 744)]
def gSX : List (Nat × Nat × Nat × Nat × Nat × Nat × Nat) := [(8, 98, 1, 884, 885, 886, 86), (8, 103, 2, 894, 895, 896, 86)]
def gdf : Nat → List (Option (Option Nat)) := fun ci => match ci with
  | 0 => [some none, some none, some none, some none]
  | 1 => [some none, some none, none, some none, some none, some none, some none, some none]
  | 2 => [some none, none, some none, some none, some none, some none]
  | 3 => [some none, some none, some none]
  | 4 => [none, some none, some none, some none, some none]
  | 5 => [none, none, none, some none, some none, some none, some none, some none, some none]
  | 6 => [some none, some none, some none, some none, none, none, none, none]
  | 7 => [none, none, some none]
  | 8 => [none, some none, some none, none, none, none, none, none, none]
  | 9 => [some none, some none, some none, some none, none]
  | 10 => [none, some none, some none, some none, some none, some none, some none, some none, some none]
  | 11 => [some none, some none, none, none, some none, some none, some none, some none, some none, some none]
  | _ => [none, none, none, some none, some none, some none, some none, some none, none, some none, none, some none, some none, some none, some none, none, some none, some none, some none, some none, some none, some none, some none, some none, some none, some none, some none, some none, some none, some none, some none, some none, some none, some none, some none, some none, some none, none, none, none, none, none, none, none, none, some none, some none, some none, none, some none, some none, some none, some none, none, some none, some none, some none, some none, none, none, none, some none, some none, some none, some none]
def gnth {α : Type} : List α → Nat → Option α
  | [], _ => none
  | a :: _, 0 => some a
  | _ :: l, n + 1 => gnth l n
def glook : List gIn → gC
  | [], _ => none
  | a :: l, pc => cond (Nat.beq a.1 pc) (some a.2) (glook l pc)
def gmi (q : Nat) : Option (Nat × Nat × Nat × Nat) := match gnth gtab q with
  | some x => some x.2.2.1
  | none => none
def gcd (q : Nat) : Option (Nat × gC) := match gnth gtab q with
  | some x => some (x.1.2.2.1, glook x.2.2.2)
  | none => none
end
section
/-! ===== the resolved code is the bytes' own: a check by program, and what it gives ===== -/
def gix (i : Nat) (w : Cond) : Bool := match gnth lw_tbl i with
  | some w' => decide (w' = w) && goodWord w
  | none => false
theorem gnth_mem {α : Type} : ∀ {l : List α} {i : Nat} {a : α}, gnth l i = some a → a ∈ l
  | [], _, _, h => by cases h
  | x :: l, 0, a, h => by cases h; exact List.mem_cons_self
  | x :: l, n + 1, a, h => List.mem_cons_of_mem _ (gnth_mem (l := l) (i := n) h)
theorem gix_mem {i : Nat} {w : Cond} (h : gix i w = true) : w ∈ gT := by
  unfold gix at h
  split at h
  · rename_i w' hw
    rw [Bool.and_eq_true, decide_eq_true_eq] at h
    exact gT_mem (h.1 ▸ gnth_mem hw) h.2
  · cases h
theorem glook_mem : ∀ {l : List gIn} {pc : Nat} {e : Instr × Nat × Int32 × Nat}, glook l pc = some e → (pc, e) ∈ l
  | [], _, _, h => by cases h
  | a :: l, pc, e, h => by
    unfold glook at h
    cases hb : Nat.beq a.1 pc with
    | true =>
      rw [hb] at h
      have h1 : a.2 = e := Option.some.inj h
      have h2 : a.1 = pc := Nat.eq_of_beq_eq_true hb
      rw [← h1, ← h2]
      exact List.mem_cons_self
    | false =>
      rw [hb] at h
      exact List.mem_cons_of_mem _ (glook_mem (l := l) h)
def g4 (l : List (Nat × Nat × Nat × Nat × Nat)) (o i c k : Nat) : Bool := l.any fun q => Nat.beq q.1 o && (Nat.beq q.2.1 i && (Nat.beq q.2.2.1 c && Nat.beq q.2.2.2.1 k))
theorem g4_mem {l : List (Nat × Nat × Nat × Nat × Nat)} {o i c k : Nat} (h : g4 l o i c k = true) : ∃ p, (o, i, c, k, p) ∈ l := by
  obtain ⟨⟨a1, a2, a3, a4, a5⟩, hm, hq⟩ := List.any_eq_true.mp h
  simp only [Bool.and_eq_true] at hq
  obtain ⟨e1, e2, e3, e4⟩ := hq
  cases Nat.eq_of_beq_eq_true e1; cases Nat.eq_of_beq_eq_true e2; cases Nat.eq_of_beq_eq_true e3; cases Nat.eq_of_beq_eq_true e4
  exact ⟨a5, hm⟩
def gmlk (o i q k : Nat) : Bool := gML.any fun e => Nat.beq e.1 o && (Nat.beq e.2.1 i && (Nat.beq e.2.2.1 q && Nat.beq e.2.2.2.1 k))
theorem gmlk_mem {o i q k : Nat} (h : gmlk o i q k = true) : ∃ p, (o, i, q, k, p) ∈ gML := by
  obtain ⟨⟨a1, a2, a3, a4, a5⟩, hm, hq⟩ := List.any_eq_true.mp h
  simp only [Bool.and_eq_true] at hq
  obtain ⟨e1, e2, e3, e4⟩ := hq
  cases Nat.eq_of_beq_eq_true e1; cases Nat.eq_of_beq_eq_true e2; cases Nat.eq_of_beq_eq_true e3; cases Nat.eq_of_beq_eq_true e4
  exact ⟨a5, hm⟩
/-- is it an instruction without operands that stands for itself -/
def gplain (i : Instr) : Bool := match i with
  | .iadd | .isub | .imul | .iand | .ior | .ixor | .idiv | .irem | .ineg | .ishl | .ishr | .i2l | .l2i | .i2b | .i2s | .ladd | .lmul | .ldiv | .lshr | .lushr | .lcmp | .dup | .dup2 | .pop => true
  | .iaload | .baload | .laload | .aaload | .iastore | .bastore | .lastore | .aastore | .arraylength => true
  | _ => false
def gmt (o : Nat) (ini : Bool) (rt : Option FieldType) (mx pc len : Nat) (cins ins : Instr) (v : Int32) : Bool :=
  match ins with
  | .iconst _ => match cins with
      | .iconst i => Nat.beq len 1 && decide (Int32.ofInt i = v)
      | .bipush i => Nat.beq len 2 && decide ((Int8.ofInt i).toInt32 = v)
      | .sipush i => Nat.beq len 3 && decide ((Int16.ofInt i).toInt32 = v)
      | .ldc i => Nat.beq len 2 && gCO.any fun q => Nat.beq q.1 o && (Nat.beq q.2.1 i && decide (q.2.2.1 = v))
      | .ldc_w i => Nat.beq len 3 && gCO.any fun q => Nat.beq q.1 o && (Nat.beq q.2.1 i && decide (q.2.2.1 = v))
      | _ => false
  | .lconst _ => match cins with
      | .lconst i => Nat.beq len 1 && decide (Int64.ofNat (i : Nat) = v.toInt64)
      | .ldc2_w i => Nat.beq len 3 && gLO.any fun q => Nat.beq q.1 o && (Nat.beq q.2.1 i && decide (q.2.2.1 = v))
      | _ => false
  | .ldc j => match cins with
      | .ldc i => Nat.beq len 2 && gSO.any fun q => Nat.beq q.1 o && (Nat.beq q.2.1 i && Nat.beq q.2.2 j)
      | _ => false
  | .iload i => match cins with
      | .iload k => Nat.beq len 2 && Nat.beq k i
      | .iload_n k => Nat.beq len 1 && Nat.beq k.val i
      | _ => false
  | .lload i => match cins with
      | .lload k => Nat.beq len 2 && Nat.beq k i
      | .lload_n k => Nat.beq len 1 && Nat.beq k.val i
      | _ => false
  | .aload i => match cins with
      | .aload k => Nat.beq len 2 && Nat.beq k i
      | .aload_n k => Nat.beq len 1 && Nat.beq k.val i
      | _ => false
  | .istore i => match cins with
      | .istore k => Nat.beq len 2 && (Nat.beq k i && Nat.ble (i + 1) mx)
      | .istore_n k => Nat.beq len 1 && (Nat.beq k.val i && Nat.ble (i + 1) mx)
      | _ => false
  | .lstore i => match cins with
      | .lstore k => Nat.beq len 2 && (Nat.beq k i && Nat.ble (i + 2) mx)
      | .lstore_n k => Nat.beq len 1 && (Nat.beq k.val i && Nat.ble (i + 2) mx)
      | _ => false
  | .astore i => match cins with
      | .astore k => Nat.beq len 2 && (Nat.beq k i && Nat.ble (i + 1) mx)
      | .astore_n k => Nat.beq len 1 && (Nat.beq k.val i && Nat.ble (i + 1) mx)
      | _ => false
  | .iinc i _ => match cins with
      | .iinc k n => Nat.beq len 3 && (Nat.beq k i && (Nat.ble (i + 1) mx && decide (Int32.ofInt n = v)))
      | _ => false
  | .ifCond c t => match cins with
      | .ifCond c' off => Nat.beq len 3 && (decide (c' = c) && decide ((pc : Int) + off = ((t.toNat : Nat) : Int)))
      | _ => false
  | .if_icmp c t => match cins with
      | .if_icmp c' off => Nat.beq len 3 && (decide (c' = c) && decide ((pc : Int) + off = ((t.toNat : Nat) : Int)))
      | _ => false
  | .ifnonnull t => match cins with
      | .ifnonnull off => Nat.beq len 3 && decide ((pc : Int) + off = ((t.toNat : Nat) : Int))
      | _ => false
  | .goto t => match cins with
      | .goto off => Nat.beq len 3 && decide ((pc : Int) + off = ((t.toNat : Nat) : Int))
      | _ => false
  | .lookupswitch d ps => match cins with
      | .lookupswitch d' ps' => (ps'.toList.zip (ps'.toList.drop 1)).all (fun (a, next) => a.1 < next.1) && (decide ((pc : Int) + d' = ((d.toNat : Nat) : Int)) && (decide (ps.toList.map (fun a => a.1) = ps'.toList.map (fun a => a.1)) && (decide (ps.toList.map (fun a => ((a.2.toNat : Nat) : Int)) = ps'.toList.map (fun a => (pc : Int) + a.2)) && ps.toList.all (fun a => decide ((Int32.ofInt a.1).toInt = a.1)))))
      | .tableswitch d' lo hi offs => decide ((pc : Int) + d' = ((d.toNat : Nat) : Int)) && (decide (hi = lo + (offs.size : Int) - 1) && (decide (ps.toList.map (fun a => a.1) = (List.range offs.size).map (fun i : Nat => lo + (i : Int))) && (decide (ps.toList.map (fun a => ((a.2.toNat : Nat) : Int)) = offs.toList.map (fun a => (pc : Int) + a)) && ps.toList.all (fun a => decide ((Int32.ofInt a.1).toInt = a.1)))))
      | _ => false
  | .invokeinterface ci k => match cins with
      | .getfield i => Nat.beq len 3 && g4 gFL o i ci k
      | _ => false
  | .multianewarray ci k => match cins with
      | .putfield i => Nat.beq len 3 && (g4 gPI o i ci k || (ini && g4 gPR o i ci k))
      | _ => false
  | .new ci => match cins with
      | .new i => Nat.beq len 3 && gCK.any fun q => Nat.beq q.1 o && (Nat.beq q.2.1 i && Nat.beq q.2.2.1 ci)
      | _ => false
  | .newarray t => match cins with
      | .newarray t' => Nat.beq len 2 && decide (t' = t)
      | _ => false
  | .anewarray kd => match cins with
      | .anewarray i => Nat.beq len 3 && gAL.any fun q => Nat.beq q.1 o && (Nat.beq q.2.1 i && Nat.beq q.2.2.1 kd)
      | _ => false
  | .invokestatic q => match cins with
      | .invokestatic i => Nat.beq len 3 && gmlk o i q 0
      | _ => false
  | .invokevirtual q => match cins with
      | .invokevirtual i => Nat.beq len 3 && gmlk o i q 1
      | _ => false
  | .invokespecial q => match cins with
      | .invokespecial i => Nat.beq len 3 && ((Nat.beq q 999 && gOI.any fun e => Nat.beq e.1 o && Nat.beq e.2.1 i) || (Nat.ble q 900 && (gmlk o i q 2 || gmlk o i q 3)))
      | _ => false
  | .invokedynamic t => match cins with
      | .invokestatic i => Nat.beq len 3 && ((Nat.beq t 0 && gAC.any fun e => Nat.beq e.1 o && Nat.beq e.2.1 i) || ((Nat.beq t 3 || (Nat.beq t 4 || Nat.beq t 5)) && gMA.any fun e => Nat.beq e.1 o && (Nat.beq e.2.1 i && Nat.beq e.2.2.1 t)))
      | .invokevirtual i => Nat.beq len 3 && ((Nat.beq t 1 || Nat.beq t 2) && gSX.any fun e => Nat.beq e.1 o && (Nat.beq e.2.1 i && Nat.beq e.2.2.1 t))
      | _ => false
  | .ireturn => decide (cins = .ireturn) && (Nat.beq len 1 && decide (rt = some .int))
  | .freturn => decide (cins = .ireturn) && (Nat.beq len 1 && decide (rt = some .boolean))
  | .lreturn => decide (cins = .lreturn) && (Nat.beq len 1 && decide (rt = some .long))
  | .areturn => decide (cins = .areturn) && (Nat.beq len 1 && decide (rt = some (.object "java/lang/String")))
  | .return_ => decide (cins = .return_) && (Nat.beq len 1 && decide (rt = none))
  | ins => gplain ins && (decide (cins = ins) && Nat.beq len 1)
def gck (o : Nat) (ini : Bool) (rt : Option FieldType) (mx : Nat) (cc : ByteArray) (x : gIn) : Bool := match decode cc x.1 with
  | .ok (cins, len) => Nat.beq x.2.2.1 (x.1 + len) && gmt o ini rt mx x.1 len cins x.2.1 x.2.2.2.1
  | .error _ => false
theorem gck_of {o : Nat} {ini : Bool} {rt : Option FieldType} {mx : Nat} {cc : ByteArray} {pc nx kp : Nat} {ins : Instr} {v : Int32} (h : gck o ini rt mx cc (pc, ins, nx, v, kp) = true) : ∃ cins len, decode cc pc = .ok (cins, len) ∧ nx = pc + len ∧ gmt o ini rt mx pc len cins ins v = true := by
  unfold gck at h
  split at h
  · rename_i cins len hd
    rw [Bool.and_eq_true] at h
    exact ⟨cins, len, hd, Nat.eq_of_beq_eq_true h.1, h.2⟩
  · cases h
/-- a method of the table: what is known of it -/
def gmeP (x : gMe) : Prop := Cond.code x.1.1 x.1.2.1 x.1.2.2.1 x.1.2.2.2 ∈ gT ∧ plainName x.1.1.cls = true ∧ (x.1.1.cls ≠ "java/lang/invoke/MethodHandle" ∧ x.1.1.cls ≠ "java/lang/invoke/VarHandle" ∧ (parseMethodDescriptor x.1.1.desc).map (fun d => d.parameters.length) = some x.2.2.1.2.1) ∧ gnm x.2.1.1 = x.1.1.cls ∧ x.1.2.2.1 ≤ 20 ∧ (x.2.1.2 = true → x.1.1.name = "<init>") ∧ (x.2.1.2 = true → x.1.2.2.2 = none) ∧ ∀ i ∈ x.2.2.2, gck x.2.1.1 x.2.1.2 x.1.2.2.2 x.1.2.2.1 x.1.2.1 i = true
def gmeB (x : gMe) : Bool := plainName x.1.1.cls && (decide (x.1.1.cls ≠ "java/lang/invoke/MethodHandle") && (decide (x.1.1.cls ≠ "java/lang/invoke/VarHandle") && (decide ((parseMethodDescriptor x.1.1.desc).map (fun d => d.parameters.length) = some x.2.2.1.2.1) && (decide (gnm x.2.1.1 = x.1.1.cls) && (Nat.ble x.1.2.2.1 20 && ((!x.2.1.2 || decide (x.1.1.name = "<init>")) && (!x.2.1.2 || decide (x.1.2.2.2 = none))))))))
theorem gmeP_of {x : gMe} (hc : Cond.code x.1.1 x.1.2.1 x.1.2.2.1 x.1.2.2.2 ∈ gT) (h : gmeB x = true) (hi : ∀ i ∈ x.2.2.2, gck x.2.1.1 x.2.1.2 x.1.2.2.2 x.1.2.2.1 x.1.2.1 i = true) : gmeP x := by
  unfold gmeB at h
  simp only [Bool.and_eq_true, decide_eq_true_eq, Bool.or_eq_true, Bool.not_eq_true'] at h
  obtain ⟨h1, h2, h3, h4, h5, h6, h7, h8⟩ := h
  refine ⟨hc, h1, ⟨h2, h3, h4⟩, h5, Nat.le_of_ble_eq_true h6, fun z => ?_, fun z => ?_, hi⟩
  · rcases h7 with h7 | h7
    · rw [z] at h7; cases h7
    · exact h7
  · rcases h8 with h8 | h8
    · rw [z] at h8; cases h8
    · exact h8
theorem gall {l : List gIn} {f : gIn → Bool} (h : l.all f = true) : ∀ i ∈ l, f i = true := List.all_eq_true.mp h
theorem gapp {a b : List gIn} {f : gIn → Bool} (ha : ∀ i ∈ a, f i = true) (hb : ∀ i ∈ b, f i = true) : ∀ i ∈ a ++ b, f i = true := List.forall_mem_append.mpr ⟨ha, hb⟩
end
section
/-! ===== the code is the bytes' own (by program) ===== -/
set_option maxRecDepth 100000 in
theorem gch_0_0 : gco_0_0.all (gck 0 true none 1 cX0_init) = true := by decide +kernel
set_option maxRecDepth 100000 in
theorem gok_0 : gmeP gme_0 := gmeP_of (gix_mem (i := 277) (by decide +kernel)) (by decide +kernel) (gall gch_0_0)
set_option maxRecDepth 100000 in
theorem gch_1_0 : gco_1_0.all (gck 0 false none 1 cX0_clear) = true := by decide +kernel
set_option maxRecDepth 100000 in
theorem gok_1 : gmeP gme_1 := gmeP_of (gix_mem (i := 325) (by decide +kernel)) (by decide +kernel) (gall gch_1_0)
set_option maxRecDepth 100000 in
theorem gch_2_0 : gco_2_0.all (gck 0 false none 2 cX0_copyFrom) = true := by decide +kernel
set_option maxRecDepth 100000 in
theorem gok_2 : gmeP gme_2 := gmeP_of (gix_mem (i := 1119) (by decide +kernel)) (by decide +kernel) (gall gch_2_0)
set_option maxRecDepth 100000 in
theorem gch_3_0 : gco_3_0.all (gck 0 false (some .int) 2 cX0_priceIn) = true := by decide +kernel
set_option maxRecDepth 100000 in
theorem gok_3 : gmeP gme_3 := gmeP_of (gix_mem (i := 832) (by decide +kernel)) (by decide +kernel) (gall gch_3_0)
set_option maxRecDepth 100000 in
theorem gch_4_0 : gco_4_0.all (gck 0 false (some .int) 5 cX0_sellAt) = true := by decide +kernel
set_option maxRecDepth 100000 in
theorem gok_4 : gmeP gme_4 := gmeP_of (gix_mem (i := 828) (by decide +kernel)) (by decide +kernel) (gall gch_4_0)
set_option maxRecDepth 100000 in
theorem gch_5_0 : gco_5_0.all (gck 0 false (some .int) 1 cX0_allInTanks) = true := by decide +kernel
set_option maxRecDepth 100000 in
theorem gok_5 : gmeP gme_5 := gmeP_of (gix_mem (i := 1179) (by decide +kernel)) (by decide +kernel) (gall gch_5_0)
set_option maxRecDepth 100000 in
theorem gch_6_0 : gco_6_0.all (gck 0 false (some .int) 1 cX0_allSold) = true := by decide +kernel
set_option maxRecDepth 100000 in
theorem gok_6 : gmeP gme_6 := gmeP_of (gix_mem (i := 1186) (by decide +kernel)) (by decide +kernel) (gall gch_6_0)
set_option maxRecDepth 100000 in
theorem gch_7_0 : gco_7_0.all (gck 0 false (some .int) 3 cX0_sumOverPersons) = true := by decide +kernel
set_option maxRecDepth 100000 in
theorem gok_7 : gmeP gme_7 := gmeP_of (gix_mem (i := 1182) (by decide +kernel)) (by decide +kernel) (gall gch_7_0)
set_option maxRecDepth 100000 in
theorem gch_8_0 : gco_8_0.all (gck 1 true none 1 cX1_init) = true := by decide +kernel
set_option maxRecDepth 100000 in
theorem gok_8 : gmeP gme_8 := gmeP_of (gix_mem (i := 425) (by decide +kernel)) (by decide +kernel) (gall gch_8_0)
set_option maxRecDepth 100000 in
theorem gch_9_0 : gco_9_0.all (gck 1 false none 3 cX1_measure) = true := by decide +kernel
set_option maxRecDepth 100000 in
theorem gok_9 : gmeP gme_9 := gmeP_of (gix_mem (i := 625) (by decide +kernel)) (by decide +kernel) (gall gch_9_0)
set_option maxRecDepth 100000 in
theorem gch_10_0 : gco_10_0.all (gck 1 false none 10 cX1_measureCell) = true := by decide +kernel
set_option maxRecDepth 100000 in
theorem gch_10_1 : gco_10_1.all (gck 1 false none 10 cX1_measureCell) = true := by decide +kernel
set_option maxRecDepth 100000 in
theorem gok_10 : gmeP gme_10 := gmeP_of (gix_mem (i := 630) (by decide +kernel)) (by decide +kernel) (gapp (gall gch_10_0) (gall gch_10_1))
set_option maxRecDepth 100000 in
theorem gch_11_0 : gco_11_0.all (gck 1 false (some .long) 5 cX1_wantOf) = true := by decide +kernel
set_option maxRecDepth 100000 in
theorem gok_11 : gmeP gme_11 := gmeP_of (gix_mem (i := 637) (by decide +kernel)) (by decide +kernel) (gall gch_11_0)
set_option maxRecDepth 100000 in
theorem gch_12_0 : gco_12_0.all (gck 1 false none 8 cX1_add) = true := by decide +kernel
set_option maxRecDepth 100000 in
theorem gch_12_1 : gco_12_1.all (gck 1 false none 8 cX1_add) = true := by decide +kernel
set_option maxRecDepth 100000 in
theorem gok_12 : gmeP gme_12 := gmeP_of (gix_mem (i := 644) (by decide +kernel)) (by decide +kernel) (gapp (gall gch_12_0) (gall gch_12_1))
set_option maxRecDepth 100000 in
theorem gch_13_0 : gco_13_0.all (gck 1 false none 3 cX1_movePool) = true := by decide +kernel
set_option maxRecDepth 100000 in
theorem gok_13 : gmeP gme_13 := gmeP_of (gix_mem (i := 1049) (by decide +kernel)) (by decide +kernel) (gall gch_13_0)
set_option maxRecDepth 100000 in
theorem gch_14_0 : gco_14_0.all (gck 1 false none 4 cX1_moveGround) = true := by decide +kernel
set_option maxRecDepth 100000 in
theorem gch_14_1 : gco_14_1.all (gck 1 false none 4 cX1_moveGround) = true := by decide +kernel
set_option maxRecDepth 100000 in
theorem gok_14 : gmeP gme_14 := gmeP_of (gix_mem (i := 648) (by decide +kernel)) (by decide +kernel) (gapp (gall gch_14_0) (gall gch_14_1))
set_option maxRecDepth 100000 in
theorem gch_15_0 : gco_15_0.all (gck 1 false none 3 cX1_moveWater) = true := by decide +kernel
set_option maxRecDepth 100000 in
theorem gok_15 : gmeP gme_15 := gmeP_of (gix_mem (i := 654) (by decide +kernel)) (by decide +kernel) (gall gch_15_0)
set_option maxRecDepth 100000 in
theorem gch_16_0 : gco_16_0.all (gck 2 true none 1 cX2_init) = true := by decide +kernel
set_option maxRecDepth 100000 in
theorem gok_16 : gmeP gme_16 := gmeP_of (gix_mem (i := 183) (by decide +kernel)) (by decide +kernel) (gall gch_16_0)
set_option maxRecDepth 100000 in
theorem gch_17_0 : gco_17_0.all (gck 2 false none 1 cX2_clear) = true := by decide +kernel
set_option maxRecDepth 100000 in
theorem gok_17 : gmeP gme_17 := gmeP_of (gix_mem (i := 315) (by decide +kernel)) (by decide +kernel) (gall gch_17_0)
set_option maxRecDepth 100000 in
theorem gch_18_0 : gco_18_0.all (gck 2 false none 2 cX2_copyFrom) = true := by decide +kernel
set_option maxRecDepth 100000 in
theorem gok_18 : gmeP gme_18 := gmeP_of (gix_mem (i := 1109) (by decide +kernel)) (by decide +kernel) (gall gch_18_0)
set_option maxRecDepth 100000 in
theorem gch_19_0 : gco_19_0.all (gck 2 false (some .int) 5 cX2_add) = true := by decide +kernel
set_option maxRecDepth 100000 in
theorem gok_19 : gmeP gme_19 := gmeP_of (gix_mem (i := 674) (by decide +kernel)) (by decide +kernel) (gall gch_19_0)
set_option maxRecDepth 100000 in
theorem gch_20_0 : gco_20_0.all (gck 3 true none 1 cX3_init) = true := by decide +kernel
set_option maxRecDepth 100000 in
theorem gok_20 : gmeP gme_20 := gmeP_of (gix_mem (i := 109) (by decide +kernel)) (by decide +kernel) (gall gch_20_0)
set_option maxRecDepth 100000 in
theorem gch_21_0 : gco_21_0.all (gck 3 false none 3 cX3_becomeNew) = true := by decide +kernel
set_option maxRecDepth 100000 in
theorem gok_21 : gmeP gme_21 := gmeP_of (gix_mem (i := 303) (by decide +kernel)) (by decide +kernel) (gall gch_21_0)
set_option maxRecDepth 100000 in
theorem gch_22_0 : gco_22_0.all (gck 3 false none 2 cX3_copyFrom) = true := by decide +kernel
set_option maxRecDepth 100000 in
theorem gok_22 : gmeP gme_22 := gmeP_of (gix_mem (i := 1103) (by decide +kernel)) (by decide +kernel) (gall gch_22_0)
set_option maxRecDepth 100000 in
theorem gch_23_0 : gco_23_0.all (gck 3 false none 4 cX3_tellOil) = true := by decide +kernel
set_option maxRecDepth 100000 in
theorem gok_23 : gmeP gme_23 := gmeP_of (gix_mem (i := 564) (by decide +kernel)) (by decide +kernel) (gall gch_23_0)
set_option maxRecDepth 100000 in
theorem gch_24_0 : gco_24_0.all (gck 3 false none 8 cX3_take) = true := by decide +kernel
set_option maxRecDepth 100000 in
theorem gch_24_1 : gco_24_1.all (gck 3 false none 8 cX3_take) = true := by decide +kernel
set_option maxRecDepth 100000 in
theorem gok_24 : gmeP gme_24 := gmeP_of (gix_mem (i := 613) (by decide +kernel)) (by decide +kernel) (gapp (gall gch_24_0) (gall gch_24_1))
set_option maxRecDepth 100000 in
theorem gch_25_0 : gco_25_0.all (gck 3 false (some .int) 4 cX3_cellsOf) = true := by decide +kernel
set_option maxRecDepth 100000 in
theorem gok_25 : gmeP gme_25 := gmeP_of (gix_mem (i := 739) (by decide +kernel)) (by decide +kernel) (gall gch_25_0)
set_option maxRecDepth 100000 in
theorem gch_26_0 : gco_26_0.all (gck 3 false (some .int) 4 cX3_strangerFrom) = true := by decide +kernel
set_option maxRecDepth 100000 in
theorem gok_26 : gmeP gme_26 := gmeP_of (gix_mem (i := 774) (by decide +kernel)) (by decide +kernel) (gall gch_26_0)
set_option maxRecDepth 100000 in
theorem gch_27_0 : gco_27_0.all (gck 4 true none 1 cX4_init) = true := by decide +kernel
set_option maxRecDepth 100000 in
theorem gok_27 : gmeP gme_27 := gmeP_of (gix_mem (i := 363) (by decide +kernel)) (by decide +kernel) (gall gch_27_0)
set_option maxRecDepth 100000 in
theorem gch_28_0 : gco_28_0.all (gck 4 false none 3 cX4_copyFrom) = true := by decide +kernel
set_option maxRecDepth 100000 in
theorem gok_28 : gmeP gme_28 := gmeP_of (gix_mem (i := 973) (by decide +kernel)) (by decide +kernel) (gall gch_28_0)
set_option maxRecDepth 100000 in
theorem gch_29_0 : gco_29_0.all (gck 4 false none 4 cX4_add) = true := by decide +kernel
set_option maxRecDepth 100000 in
theorem gok_29 : gmeP gme_29 := gmeP_of (gix_mem (i := 969) (by decide +kernel)) (by decide +kernel) (gall gch_29_0)
set_option maxRecDepth 100000 in
theorem gch_30_0 : gco_30_0.all (gck 4 false (some .boolean) 4 cX4_tells) = true := by decide +kernel
set_option maxRecDepth 100000 in
theorem gok_30 : gmeP gme_30 := gmeP_of (gix_mem (i := 958) (by decide +kernel)) (by decide +kernel) (gall gch_30_0)
set_option maxRecDepth 100000 in
theorem gch_31_0 : gco_31_0.all (gck 4 false (some .boolean) 4 cX4_tellsExcept) = true := by decide +kernel
set_option maxRecDepth 100000 in
theorem gok_31 : gmeP gme_31 := gmeP_of (gix_mem (i := 965) (by decide +kernel)) (by decide +kernel) (gall gch_31_0)
set_option maxRecDepth 100000 in
theorem gch_32_0 : gco_32_0.all (gck 4 false (some .int) 5 cX4_lineIn) = true := by decide +kernel
set_option maxRecDepth 100000 in
theorem gok_32 : gmeP gme_32 := gmeP_of (gix_mem (i := 727) (by decide +kernel)) (by decide +kernel) (gall gch_32_0)
set_option maxRecDepth 100000 in
theorem gch_33_0 : gco_33_0.all (gck 4 false (some .int) 4 cX4_numberIn) = true := by decide +kernel
set_option maxRecDepth 100000 in
theorem gok_33 : gmeP gme_33 := gmeP_of (gix_mem (i := 761) (by decide +kernel)) (by decide +kernel) (gall gch_33_0)
set_option maxRecDepth 100000 in
theorem gch_34_0 : gco_34_0.all (gck 4 false (some .boolean) 4 cX4_excepts) = true := by decide +kernel
set_option maxRecDepth 100000 in
theorem gok_34 : gmeP gme_34 := gmeP_of (gix_mem (i := 770) (by decide +kernel)) (by decide +kernel) (gall gch_34_0)
set_option maxRecDepth 100000 in
theorem gch_35_0 : gco_35_0.all (gck 4 false (some .int) 5 cX4_whyNot) = true := by decide +kernel
set_option maxRecDepth 100000 in
theorem gok_35 : gmeP gme_35 := gmeP_of (gix_mem (i := 756) (by decide +kernel)) (by decide +kernel) (gall gch_35_0)
set_option maxRecDepth 100000 in
theorem gch_36_0 : gco_36_0.all (gck 4 false (some .int) 7 cX4_whyNotUnder) = true := by decide +kernel
set_option maxRecDepth 100000 in
theorem gok_36 : gmeP gme_36 := gmeP_of (gix_mem (i := 765) (by decide +kernel)) (by decide +kernel) (gall gch_36_0)
set_option maxRecDepth 100000 in
theorem gch_37_0 : gco_37_0.all (gck 4 false (some .int) 7 cX4_letOf) = true := by decide +kernel
set_option maxRecDepth 100000 in
theorem gok_37 : gmeP gme_37 := gmeP_of (gix_mem (i := 723) (by decide +kernel)) (by decide +kernel) (gall gch_37_0)
set_option maxRecDepth 100000 in
theorem gch_38_0 : gco_38_0.all (gck 4 false (some .int) 6 cX4_hotIn) = true := by decide +kernel
set_option maxRecDepth 100000 in
theorem gok_38 : gmeP gme_38 := gmeP_of (gix_mem (i := 719) (by decide +kernel)) (by decide +kernel) (gall gch_38_0)
set_option maxRecDepth 100000 in
theorem gch_39_0 : gco_39_0.all (gck 4 false (some .int) 5 cX4_hotOfWell) = true := by decide +kernel
set_option maxRecDepth 100000 in
theorem gok_39 : gmeP gme_39 := gmeP_of (gix_mem (i := 715) (by decide +kernel)) (by decide +kernel) (gall gch_39_0)
set_option maxRecDepth 100000 in
theorem gch_40_0 : gco_40_0.all (gck 4 false (some .int) 5 cX4_hotOfPerson) = true := by decide +kernel
set_option maxRecDepth 100000 in
theorem gok_40 : gmeP gme_40 := gmeP_of (gix_mem (i := 711) (by decide +kernel)) (by decide +kernel) (gall gch_40_0)
set_option maxRecDepth 100000 in
theorem gch_41_0 : gco_41_0.all (gck 4 false (some .int) 4 cX4_hotOfAll) = true := by decide +kernel
set_option maxRecDepth 100000 in
theorem gok_41 : gmeP gme_41 := gmeP_of (gix_mem (i := 995) (by decide +kernel)) (by decide +kernel) (gall gch_41_0)
set_option maxRecDepth 100000 in
theorem gch_42_0 : gco_42_0.all (gck 5 true none 1 cX5_init) = true := by decide +kernel
set_option maxRecDepth 100000 in
theorem gok_42 : gmeP gme_42 := gmeP_of (gix_mem (i := 115) (by decide +kernel)) (by decide +kernel) (gall gch_42_0)
set_option maxRecDepth 100000 in
theorem gch_43_0 : gco_43_0.all (gck 5 false none 5 cX5_becomeNew) = true := by decide +kernel
set_option maxRecDepth 100000 in
theorem gok_43 : gmeP gme_43 := gmeP_of (gix_mem (i := 307) (by decide +kernel)) (by decide +kernel) (gall gch_43_0)
set_option maxRecDepth 100000 in
theorem gch_44_0 : gco_44_0.all (gck 5 false none 2 cX5_copyFrom) = true := by decide +kernel
set_option maxRecDepth 100000 in
theorem gch_44_1 : gco_44_1.all (gck 5 false none 2 cX5_copyFrom) = true := by decide +kernel
set_option maxRecDepth 100000 in
theorem gok_44 : gmeP gme_44 := gmeP_of (gix_mem (i := 1029) (by decide +kernel)) (by decide +kernel) (gapp (gall gch_44_0) (gall gch_44_1))
set_option maxRecDepth 100000 in
theorem gch_45_0 : gco_45_0.all (gck 5 false (some .boolean) 2 cX5_has) = true := by decide +kernel
set_option maxRecDepth 100000 in
theorem gok_45 : gmeP gme_45 := gmeP_of (gix_mem (i := 557) (by decide +kernel)) (by decide +kernel) (gall gch_45_0)
set_option maxRecDepth 100000 in
theorem gch_46_0 : gco_46_0.all (gck 5 false (some .int) 2 cX5_liquid) = true := by decide +kernel
set_option maxRecDepth 100000 in
theorem gok_46 : gmeP gme_46 := gmeP_of (gix_mem (i := 602) (by decide +kernel)) (by decide +kernel) (gall gch_46_0)
set_option maxRecDepth 100000 in
theorem gch_47_0 : gco_47_0.all (gck 5 false (some .int) 2 cX5_push) = true := by decide +kernel
set_option maxRecDepth 100000 in
theorem gok_47 : gmeP gme_47 := gmeP_of (gix_mem (i := 579) (by decide +kernel)) (by decide +kernel) (gall gch_47_0)
set_option maxRecDepth 100000 in
theorem gch_48_0 : gco_48_0.all (gck 5 false (some .int) 3 cX5_beside) = true := by decide +kernel
set_option maxRecDepth 100000 in
theorem gok_48 : gmeP gme_48 := gmeP_of (gix_mem (i := 634) (by decide +kernel)) (by decide +kernel) (gall gch_48_0)
set_option maxRecDepth 100000 in
theorem gch_49_0 : gco_49_0.all (gck 5 false (some .int) 3 cX5_howFar) = true := by decide +kernel
set_option maxRecDepth 100000 in
theorem gok_49 : gmeP gme_49 := gmeP_of (gix_mem (i := 778) (by decide +kernel)) (by decide +kernel) (gall gch_49_0)
set_option maxRecDepth 100000 in
theorem gch_50_0 : gco_50_0.all (gck 5 false (some .int) 3 cX5_barrelsUnder) = true := by decide +kernel
set_option maxRecDepth 100000 in
theorem gok_50 : gmeP gme_50 := gmeP_of (gix_mem (i := 598) (by decide +kernel)) (by decide +kernel) (gall gch_50_0)
set_option maxRecDepth 100000 in
theorem gch_51_0 : gco_51_0.all (gck 5 false (some .int) 4 cX5_oilAmong) = true := by decide +kernel
set_option maxRecDepth 100000 in
theorem gok_51 : gmeP gme_51 := gmeP_of (gix_mem (i := 609) (by decide +kernel)) (by decide +kernel) (gall gch_51_0)
set_option maxRecDepth 100000 in
theorem gch_52_0 : gco_52_0.all (gck 5 false (some .int) 1 cX5_allOil) = true := by decide +kernel
set_option maxRecDepth 100000 in
theorem gok_52 : gmeP gme_52 := gmeP_of (gix_mem (i := 1167) (by decide +kernel)) (by decide +kernel) (gall gch_52_0)
set_option maxRecDepth 100000 in
theorem gch_53_0 : gco_53_0.all (gck 5 false (some .int) 1 cX5_allWater) = true := by decide +kernel
set_option maxRecDepth 100000 in
theorem gok_53 : gmeP gme_53 := gmeP_of (gix_mem (i := 1175) (by decide +kernel)) (by decide +kernel) (gall gch_53_0)
set_option maxRecDepth 100000 in
theorem gch_54_0 : gco_54_0.all (gck 5 false (some .int) 4 cX5_sumOverCells) = true := by decide +kernel
set_option maxRecDepth 100000 in
theorem gok_54 : gmeP gme_54 := gmeP_of (gix_mem (i := 1171) (by decide +kernel)) (by decide +kernel) (gall gch_54_0)
set_option maxRecDepth 100000 in
theorem gch_55_0 : gco_55_0.all (gck 6 true none 1 cX6_init) = true := by decide +kernel
set_option maxRecDepth 100000 in
theorem gok_55 : gmeP gme_55 := gmeP_of (gix_mem (i := 458) (by decide +kernel)) (by decide +kernel) (gall gch_55_0)
set_option maxRecDepth 100000 in
theorem gch_56_0 : gco_56_0.all (gck 6 false none 5 cX6_prepare) = true := by decide +kernel
set_option maxRecDepth 100000 in
theorem gok_56 : gmeP gme_56 := gmeP_of (gix_mem (i := 1021) (by decide +kernel)) (by decide +kernel) (gall gch_56_0)
set_option maxRecDepth 100000 in
theorem gch_57_0 : gco_57_0.all (gck 6 false none 4 cX6_runAll) = true := by decide +kernel
set_option maxRecDepth 100000 in
theorem gok_57 : gmeP gme_57 := gmeP_of (gix_mem (i := 1061) (by decide +kernel)) (by decide +kernel) (gall gch_57_0)
end
section
/-! ===== the code is the bytes' own (by program) ===== -/
set_option maxRecDepth 100000 in
theorem gch_58_0 : gco_58_0.all (gck 6 false none 5 cX6_run) = true := by decide +kernel
set_option maxRecDepth 100000 in
theorem gch_58_1 : gco_58_1.all (gck 6 false none 5 cX6_run) = true := by decide +kernel
set_option maxRecDepth 100000 in
theorem gok_58 : gmeP gme_58 := gmeP_of (gix_mem (i := 1025) (by decide +kernel)) (by decide +kernel) (gapp (gall gch_58_0) (gall gch_58_1))
set_option maxRecDepth 100000 in
theorem gch_59_0 : gco_59_0.all (gck 6 false none 5 cX6_drawAll) = true := by decide +kernel
set_option maxRecDepth 100000 in
theorem gok_59 : gmeP gme_59 := gmeP_of (gix_mem (i := 1035) (by decide +kernel)) (by decide +kernel) (gall gch_59_0)
set_option maxRecDepth 100000 in
theorem gch_60_0 : gco_60_0.all (gck 6 false (some .int) 5 cX6_drawFrom) = true := by decide +kernel
set_option maxRecDepth 100000 in
theorem gok_60 : gmeP gme_60 := gmeP_of (gix_mem (i := 1039) (by decide +kernel)) (by decide +kernel) (gall gch_60_0)
set_option maxRecDepth 100000 in
theorem gch_61_0 : gco_61_0.all (gck 6 false (some .boolean) 2 cX6_drills) = true := by decide +kernel
set_option maxRecDepth 100000 in
theorem gok_61 : gmeP gme_61 := gmeP_of (gix_mem (i := 1044) (by decide +kernel)) (by decide +kernel) (gall gch_61_0)
set_option maxRecDepth 100000 in
theorem gch_62_0 : gco_62_0.all (gck 6 false (some .int) 3 cX6_gainOf) = true := by decide +kernel
set_option maxRecDepth 100000 in
theorem gok_62 : gmeP gme_62 := gmeP_of (gix_mem (i := 1053) (by decide +kernel)) (by decide +kernel) (gall gch_62_0)
set_option maxRecDepth 100000 in
theorem gch_63_0 : gco_63_0.all (gck 6 false (some .int) 4 cX6_sumOf) = true := by decide +kernel
set_option maxRecDepth 100000 in
theorem gok_63 : gmeP gme_63 := gmeP_of (gix_mem (i := 1083) (by decide +kernel)) (by decide +kernel) (gall gch_63_0)
set_option maxRecDepth 100000 in
theorem gch_64_0 : gco_64_0.all (gck 6 false (some .boolean) 3 cX6_isSteady) = true := by decide +kernel
set_option maxRecDepth 100000 in
theorem gok_64 : gmeP gme_64 := gmeP_of (gix_mem (i := 1070) (by decide +kernel)) (by decide +kernel) (gall gch_64_0)
set_option maxRecDepth 100000 in
theorem gch_65_0 : gco_65_0.all (gck 6 false (some .int) 3 cX6_steadySets) = true := by decide +kernel
set_option maxRecDepth 100000 in
theorem gok_65 : gmeP gme_65 := gmeP_of (gix_mem (i := 1066) (by decide +kernel)) (by decide +kernel) (gall gch_65_0)
set_option maxRecDepth 100000 in
theorem gch_66_0 : gco_66_0.all (gck 6 false (some .int) 2 cX6_leastSteady) = true := by decide +kernel
set_option maxRecDepth 100000 in
theorem gok_66 : gmeP gme_66 := gmeP_of (gix_mem (i := 1075) (by decide +kernel)) (by decide +kernel) (gall gch_66_0)
set_option maxRecDepth 100000 in
theorem gch_67_0 : gco_67_0.all (gck 6 false (some .int) 4 cX6_richest) = true := by decide +kernel
set_option maxRecDepth 100000 in
theorem gok_67 : gmeP gme_67 := gmeP_of (gix_mem (i := 1079) (by decide +kernel)) (by decide +kernel) (gall gch_67_0)
set_option maxRecDepth 100000 in
theorem gch_68_0 : gco_68_0.all (gck 6 false (some .int) 6 cX6_urgeOf) = true := by decide +kernel
set_option maxRecDepth 100000 in
theorem gch_68_1 : gco_68_1.all (gck 6 false (some .int) 6 cX6_urgeOf) = true := by decide +kernel
set_option maxRecDepth 100000 in
theorem gok_68 : gmeP gme_68 := gmeP_of (gix_mem (i := 1091) (by decide +kernel)) (by decide +kernel) (gapp (gall gch_68_0) (gall gch_68_1))
set_option maxRecDepth 100000 in
theorem gch_69_0 : gco_69_0.all (gck 7 true none 1 cX7_init) = true := by decide +kernel
set_option maxRecDepth 100000 in
theorem gok_69 : gmeP gme_69 := gmeP_of (gix_mem (i := 495) (by decide +kernel)) (by decide +kernel) (gall gch_69_0)
set_option maxRecDepth 100000 in
theorem gch_70_0 : gco_70_0.all (gck 7 false none 3 cX7_becomeNew) = true := by decide +kernel
set_option maxRecDepth 100000 in
theorem gok_70 : gmeP gme_70 := gmeP_of (gix_mem (i := 1138) (by decide +kernel)) (by decide +kernel) (gall gch_70_0)
set_option maxRecDepth 100000 in
theorem gch_71_0 : gco_71_0.all (gck 7 false none 3 cX7_put) = true := by decide +kernel
set_option maxRecDepth 100000 in
theorem gok_71 : gmeP gme_71 := gmeP_of (gix_mem (i := 1147) (by decide +kernel)) (by decide +kernel) (gall gch_71_0)
set_option maxRecDepth 100000 in
theorem gch_72_0 : gco_72_0.all (gck 7 false (some .int) 6 cX7_sumOf) = true := by decide +kernel
set_option maxRecDepth 100000 in
theorem gok_72 : gmeP gme_72 := gmeP_of (gix_mem (i := 1155) (by decide +kernel)) (by decide +kernel) (gall gch_72_0)
set_option maxRecDepth 100000 in
theorem gch_73_0 : gco_73_0.all (gck 8 true none 1 cX8_init) = true := by decide +kernel
set_option maxRecDepth 100000 in
theorem gok_73 : gmeP gme_73 := gmeP_of (gix_mem (i := 357) (by decide +kernel)) (by decide +kernel) (gall gch_73_0)
set_option maxRecDepth 100000 in
theorem gch_74_0 : gco_74_0.all (gck 8 false (some .int) 4 cX8_add) = true := by decide +kernel
set_option maxRecDepth 100000 in
theorem gok_74 : gmeP gme_74 := gmeP_of (gix_mem (i := 846) (by decide +kernel)) (by decide +kernel) (gall gch_74_0)
set_option maxRecDepth 100000 in
theorem gch_75_0 : gco_75_0.all (gck 8 false none 3 cX8_read) = true := by decide +kernel
set_option maxRecDepth 100000 in
theorem gok_75 : gmeP gme_75 := gmeP_of (gix_mem (i := 858) (by decide +kernel)) (by decide +kernel) (gall gch_75_0)
set_option maxRecDepth 100000 in
theorem gch_76_0 : gco_76_0.all (gck 8 false (some .int) 2 cX8_readFrom) = true := by decide +kernel
set_option maxRecDepth 100000 in
theorem gok_76 : gmeP gme_76 := gmeP_of (gix_mem (i := 946) (by decide +kernel)) (by decide +kernel) (gall gch_76_0)
set_option maxRecDepth 100000 in
theorem gch_77_0 : gco_77_0.all (gck 8 false none 4 cX8_readRule) = true := by decide +kernel
set_option maxRecDepth 100000 in
theorem gch_77_1 : gco_77_1.all (gck 8 false none 4 cX8_readRule) = true := by decide +kernel
set_option maxRecDepth 100000 in
theorem gok_77 : gmeP gme_77 := gmeP_of (gix_mem (i := 954) (by decide +kernel)) (by decide +kernel) (gapp (gall gch_77_0) (gall gch_77_1))
set_option maxRecDepth 100000 in
theorem gch_78_0 : gco_78_0.all (gck 8 false none 2 cX8_checkNumber) = true := by decide +kernel
set_option maxRecDepth 100000 in
theorem gok_78 : gmeP gme_78 := gmeP_of (gix_mem (i := 950) (by decide +kernel)) (by decide +kernel) (gall gch_78_0)
set_option maxRecDepth 100000 in
theorem gch_79_0 : gco_79_0.all (gck 8 false (some .int) 1 cX8_mostOf) = true := by decide +kernel
set_option maxRecDepth 100000 in
theorem gok_79 : gmeP gme_79 := gmeP_of (gix_mem (i := 961) (by decide +kernel)) (by decide +kernel) (gall gch_79_0)
set_option maxRecDepth 100000 in
theorem gch_80_0 : gco_80_0.all (gck 8 false none 2 cX8_fail) = true := by decide +kernel
set_option maxRecDepth 100000 in
theorem gok_80 : gmeP gme_80 := gmeP_of (gix_mem (i := 935) (by decide +kernel)) (by decide +kernel) (gall gch_80_0)
set_option maxRecDepth 100000 in
theorem gch_81_0 : gco_81_0.all (gck 8 false none 1 cX8_nextToken) = true := by decide +kernel
set_option maxRecDepth 100000 in
theorem gch_81_1 : gco_81_1.all (gck 8 false none 1 cX8_nextToken) = true := by decide +kernel
set_option maxRecDepth 100000 in
theorem gok_81 : gmeP gme_81 := gmeP_of (gix_mem (i := 862) (by decide +kernel)) (by decide +kernel) (gapp (gall gch_81_0) (gall gch_81_1))
set_option maxRecDepth 100000 in
theorem gch_82_0 : gco_82_0.all (gck 8 false none 2 cX8_readName) = true := by decide +kernel
set_option maxRecDepth 100000 in
theorem gok_82 : gmeP gme_82 := gmeP_of (gix_mem (i := 869) (by decide +kernel)) (by decide +kernel) (gall gch_82_0)
set_option maxRecDepth 100000 in
theorem gch_83_0 : gco_83_0.all (gck 8 false none 1 cX8_readFigures) = true := by decide +kernel
set_option maxRecDepth 100000 in
theorem gok_83 : gmeP gme_83 := gmeP_of (gix_mem (i := 942) (by decide +kernel)) (by decide +kernel) (gall gch_83_0)
set_option maxRecDepth 100000 in
theorem gch_84_0 : gco_84_0.all (gck 8 false (some .boolean) 3 cX8_isSpelt) = true := by decide +kernel
set_option maxRecDepth 100000 in
theorem gok_84 : gmeP gme_84 := gmeP_of (gix_mem (i := 883) (by decide +kernel)) (by decide +kernel) (gall gch_84_0)
set_option maxRecDepth 100000 in
theorem gch_85_0 : gco_85_0.all (gck 8 false (some (.object "java/lang/String")) 1 cX8_nameOf) = true := by decide +kernel
set_option maxRecDepth 100000 in
theorem gok_85 : gmeP gme_85 := gmeP_of (gix_mem (i := 872) (by decide +kernel)) (by decide +kernel) (gall gch_85_0)
set_option maxRecDepth 100000 in
theorem gch_86_0 : gco_86_0.all (gck 8 false (some .boolean) 1 cX8_isLetter) = true := by decide +kernel
set_option maxRecDepth 100000 in
theorem gok_86 : gmeP gme_86 := gmeP_of (gix_mem (i := 865) (by decide +kernel)) (by decide +kernel) (gall gch_86_0)
set_option maxRecDepth 100000 in
theorem gch_87_0 : gco_87_0.all (gck 8 false (some .boolean) 1 cX8_isFigure) = true := by decide +kernel
set_option maxRecDepth 100000 in
theorem gok_87 : gmeP gme_87 := gmeP_of (gix_mem (i := 938) (by decide +kernel)) (by decide +kernel) (gall gch_87_0)
set_option maxRecDepth 100000 in
theorem gch_88_0 : gco_88_0.all (gck 9 true none 1 cX9_init) = true := by decide +kernel
set_option maxRecDepth 100000 in
theorem gok_88 : gmeP gme_88 := gmeP_of (gix_mem (i := 103) (by decide +kernel)) (by decide +kernel) (gall gch_88_0)
set_option maxRecDepth 100000 in
theorem gch_89_0 : gco_89_0.all (gck 9 false none 3 cX9_becomeNew) = true := by decide +kernel
set_option maxRecDepth 100000 in
theorem gok_89 : gmeP gme_89 := gmeP_of (gix_mem (i := 299) (by decide +kernel)) (by decide +kernel) (gall gch_89_0)
set_option maxRecDepth 100000 in
theorem gch_90_0 : gco_90_0.all (gck 9 false none 2 cX9_copyFrom) = true := by decide +kernel
set_option maxRecDepth 100000 in
theorem gok_90 : gmeP gme_90 := gmeP_of (gix_mem (i := 1099) (by decide +kernel)) (by decide +kernel) (gall gch_90_0)
set_option maxRecDepth 100000 in
theorem gch_91_0 : gco_91_0.all (gck 9 false (some .int) 1 cX9_shift) = true := by decide +kernel
set_option maxRecDepth 100000 in
theorem gok_91 : gmeP gme_91 := gmeP_of (gix_mem (i := 617) (by decide +kernel)) (by decide +kernel) (gall gch_91_0)
set_option maxRecDepth 100000 in
theorem gch_92_0 : gco_92_0.all (gck 9 false (some .int) 4 cX9_letHourGo) = true := by decide +kernel
set_option maxRecDepth 100000 in
theorem gok_92 : gmeP gme_92 := gmeP_of (gix_mem (i := 590) (by decide +kernel)) (by decide +kernel) (gall gch_92_0)
set_option maxRecDepth 100000 in
theorem gch_93_0 : gco_93_0.all (gck 9 false (some .int) 6 cX9_drawBy) = true := by decide +kernel
set_option maxRecDepth 100000 in
theorem gch_93_1 : gco_93_1.all (gck 9 false (some .int) 6 cX9_drawBy) = true := by decide +kernel
set_option maxRecDepth 100000 in
theorem gok_93 : gmeP gme_93 := gmeP_of (gix_mem (i := 594) (by decide +kernel)) (by decide +kernel) (gapp (gall gch_93_0) (gall gch_93_1))
set_option maxRecDepth 100000 in
theorem gch_94_0 : gco_94_0.all (gck 9 false (some .boolean) 2 cX9_hasEnded) = true := by decide +kernel
set_option maxRecDepth 100000 in
theorem gok_94 : gmeP gme_94 := gmeP_of (gix_mem (i := 682) (by decide +kernel)) (by decide +kernel) (gall gch_94_0)
set_option maxRecDepth 100000 in
theorem gch_95_0 : gco_95_0.all (gck 9 false (some .boolean) 4 cX9_hasWellOn) = true := by decide +kernel
set_option maxRecDepth 100000 in
theorem gok_95 : gmeP gme_95 := gmeP_of (gix_mem (i := 686) (by decide +kernel)) (by decide +kernel) (gall gch_95_0)
set_option maxRecDepth 100000 in
theorem gch_96_0 : gco_96_0.all (gck 9 false (some .int) 4 cX9_holderOf) = true := by decide +kernel
set_option maxRecDepth 100000 in
theorem gok_96 : gmeP gme_96 := gmeP_of (gix_mem (i := 694) (by decide +kernel)) (by decide +kernel) (gall gch_96_0)
set_option maxRecDepth 100000 in
theorem gch_97_0 : gco_97_0.all (gck 9 false (some .int) 4 cX9_wellsOn) = true := by decide +kernel
set_option maxRecDepth 100000 in
theorem gok_97 : gmeP gme_97 := gmeP_of (gix_mem (i := 735) (by decide +kernel)) (by decide +kernel) (gall gch_97_0)
set_option maxRecDepth 100000 in
theorem gch_98_0 : gco_98_0.all (gck 9 false (some .int) 4 cX9_nearestWellFrom) = true := by decide +kernel
set_option maxRecDepth 100000 in
theorem gok_98 : gmeP gme_98 := gmeP_of (gix_mem (i := 786) (by decide +kernel)) (by decide +kernel) (gall gch_98_0)
set_option maxRecDepth 100000 in
theorem gch_99_0 : gco_99_0.all (gck 9 false (some .int) 5 cX9_shareByAcres) = true := by decide +kernel
set_option maxRecDepth 100000 in
theorem gok_99 : gmeP gme_99 := gmeP_of (gix_mem (i := 731) (by decide +kernel)) (by decide +kernel) (gall gch_99_0)
set_option maxRecDepth 100000 in
theorem gch_100_0 : gco_100_0.all (gck 10 true none 1 cX10_init) = true := by decide +kernel
set_option maxRecDepth 100000 in
theorem gok_100 : gmeP gme_100 := gmeP_of (gix_mem (i := 220) (by decide +kernel)) (by decide +kernel) (gall gch_100_0)
set_option maxRecDepth 100000 in
theorem gch_101_0 : gco_101_0.all (gck 10 false none 1 cX10_clear) = true := by decide +kernel
set_option maxRecDepth 100000 in
theorem gok_101 : gmeP gme_101 := gmeP_of (gix_mem (i := 320) (by decide +kernel)) (by decide +kernel) (gall gch_101_0)
set_option maxRecDepth 100000 in
theorem gch_102_0 : gco_102_0.all (gck 10 false none 3 cX10_copyFrom) = true := by decide +kernel
set_option maxRecDepth 100000 in
theorem gch_102_1 : gco_102_1.all (gck 10 false none 3 cX10_copyFrom) = true := by decide +kernel
set_option maxRecDepth 100000 in
theorem gok_102 : gmeP gme_102 := gmeP_of (gix_mem (i := 1114) (by decide +kernel)) (by decide +kernel) (gapp (gall gch_102_0) (gall gch_102_1))
set_option maxRecDepth 100000 in
theorem gch_103_0 : gco_103_0.all (gck 10 false (some .int) 4 cX10_add) = true := by decide +kernel
set_option maxRecDepth 100000 in
theorem gok_103 : gmeP gme_103 := gmeP_of (gix_mem (i := 792) (by decide +kernel)) (by decide +kernel) (gall gch_103_0)
set_option maxRecDepth 100000 in
theorem gch_104_0 : gco_104_0.all (gck 10 false none 6 cX10_noteDraw) = true := by decide +kernel
set_option maxRecDepth 100000 in
theorem gok_104 : gmeP gme_104 := gmeP_of (gix_mem (i := 621) (by decide +kernel)) (by decide +kernel) (gall gch_104_0)
set_option maxRecDepth 100000 in
theorem gch_105_0 : gco_105_0.all (gck 10 false (some .int) 4 cX10_sizeOf) = true := by decide +kernel
set_option maxRecDepth 100000 in
theorem gok_105 : gmeP gme_105 := gmeP_of (gix_mem (i := 703) (by decide +kernel)) (by decide +kernel) (gall gch_105_0)
set_option maxRecDepth 100000 in
theorem gch_106_0 : gco_106_0.all (gck 10 false (some .int) 4 cX10_oilOf) = true := by decide +kernel
set_option maxRecDepth 100000 in
theorem gok_106 : gmeP gme_106 := gmeP_of (gix_mem (i := 707) (by decide +kernel)) (by decide +kernel) (gall gch_106_0)
set_option maxRecDepth 100000 in
theorem gch_107_0 : gco_107_0.all (gck 10 false (some .int) 5 cX10_oilOfLot) = true := by decide +kernel
set_option maxRecDepth 100000 in
theorem gok_107 : gmeP gme_107 := gmeP_of (gix_mem (i := 748) (by decide +kernel)) (by decide +kernel) (gall gch_107_0)
set_option maxRecDepth 100000 in
theorem gch_108_0 : gco_108_0.all (gck 11 true none 2 cX11_init) = true := by decide +kernel
set_option maxRecDepth 100000 in
theorem gok_108 : gmeP gme_108 := gmeP_of (gix_mem (i := 95) (by decide +kernel)) (by decide +kernel) (gall gch_108_0)
set_option maxRecDepth 100000 in
theorem gch_109_0 : gco_109_0.all (gck 11 false (some .int) 3 cX11_field) = true := by decide +kernel
set_option maxRecDepth 100000 in
theorem gok_109 : gmeP gme_109 := gmeP_of (gix_mem (i := 544) (by decide +kernel)) (by decide +kernel) (gall gch_109_0)
set_option maxRecDepth 100000 in
theorem gch_110_0 : gco_110_0.all (gck 11 false (some .int) 7 cX11_cell) = true := by decide +kernel
set_option maxRecDepth 100000 in
theorem gok_110 : gmeP gme_110 := gmeP_of (gix_mem (i := 549) (by decide +kernel)) (by decide +kernel) (gall gch_110_0)
set_option maxRecDepth 100000 in
theorem gch_111_0 : gco_111_0.all (gck 11 false (some .int) 4 cX11_lay) = true := by decide +kernel
set_option maxRecDepth 100000 in
theorem gok_111 : gmeP gme_111 := gmeP_of (gix_mem (i := 568) (by decide +kernel)) (by decide +kernel) (gall gch_111_0)
set_option maxRecDepth 100000 in
theorem gch_112_0 : gco_112_0.all (gck 11 false (some .int) 4 cX11_cellOf) = true := by decide +kernel
set_option maxRecDepth 100000 in
theorem gch_112_1 : gco_112_1.all (gck 11 false (some .int) 4 cX11_cellOf) = true := by decide +kernel
set_option maxRecDepth 100000 in
theorem gok_112 : gmeP gme_112 := gmeP_of (gix_mem (i := 575) (by decide +kernel)) (by decide +kernel) (gapp (gall gch_112_0) (gall gch_112_1))
end
section
/-! ===== the code is the bytes' own (by program) ===== -/
set_option maxRecDepth 100000 in
theorem gch_113_0 : gco_113_0.all (gck 11 false (some .int) 1 cX11_hour) = true := by decide +kernel
set_option maxRecDepth 100000 in
theorem gok_113 : gmeP gme_113 := gmeP_of (gix_mem (i := 586) (by decide +kernel)) (by decide +kernel) (gall gch_113_0)
set_option maxRecDepth 100000 in
theorem gch_114_0 : gco_114_0.all (gck 11 false (some .int) 1 cX11_person) = true := by decide +kernel
set_option maxRecDepth 100000 in
theorem gok_114 : gmeP gme_114 := gmeP_of (gix_mem (i := 658) (by decide +kernel)) (by decide +kernel) (gall gch_114_0)
set_option maxRecDepth 100000 in
theorem gch_115_0 : gco_115_0.all (gck 11 false (some .int) 4 cX11_owner) = true := by decide +kernel
set_option maxRecDepth 100000 in
theorem gok_115 : gmeP gme_115 := gmeP_of (gix_mem (i := 662) (by decide +kernel)) (by decide +kernel) (gall gch_115_0)
set_option maxRecDepth 100000 in
theorem gch_116_0 : gco_116_0.all (gck 11 false (some .int) 5 cX11_lease) = true := by decide +kernel
set_option maxRecDepth 100000 in
theorem gok_116 : gmeP gme_116 := gmeP_of (gix_mem (i := 670) (by decide +kernel)) (by decide +kernel) (gall gch_116_0)
set_option maxRecDepth 100000 in
theorem gch_117_0 : gco_117_0.all (gck 11 false (some .int) 4 cX11_leaseOf) = true := by decide +kernel
set_option maxRecDepth 100000 in
theorem gok_117 : gmeP gme_117 := gmeP_of (gix_mem (i := 678) (by decide +kernel)) (by decide +kernel) (gall gch_117_0)
set_option maxRecDepth 100000 in
theorem gch_118_0 : gco_118_0.all (gck 11 false (some .int) 2 cX11_holds) = true := by decide +kernel
set_option maxRecDepth 100000 in
theorem gok_118 : gmeP gme_118 := gmeP_of (gix_mem (i := 690) (by decide +kernel)) (by decide +kernel) (gall gch_118_0)
set_option maxRecDepth 100000 in
theorem gch_119_0 : gco_119_0.all (gck 11 false (some .int) 5 cX11_told) = true := by decide +kernel
set_option maxRecDepth 100000 in
theorem gch_119_1 : gco_119_1.all (gck 11 false (some .int) 5 cX11_told) = true := by decide +kernel
set_option maxRecDepth 100000 in
theorem gok_119 : gmeP gme_119 := gmeP_of (gix_mem (i := 699) (by decide +kernel)) (by decide +kernel) (gapp (gall gch_119_0) (gall gch_119_1))
set_option maxRecDepth 100000 in
theorem gch_120_0 : gco_120_0.all (gck 11 false (some .int) 4 cX11_drill) = true := by decide +kernel
set_option maxRecDepth 100000 in
theorem gok_120 : gmeP gme_120 := gmeP_of (gix_mem (i := 752) (by decide +kernel)) (by decide +kernel) (gall gch_120_0)
set_option maxRecDepth 100000 in
theorem gch_121_0 : gco_121_0.all (gck 11 false (some .int) 3 cX11_why) = true := by decide +kernel
set_option maxRecDepth 100000 in
theorem gok_121 : gmeP gme_121 := gmeP_of (gix_mem (i := 796) (by decide +kernel)) (by decide +kernel) (gall gch_121_0)
set_option maxRecDepth 100000 in
theorem gch_122_0 : gco_122_0.all (gck 11 false (some .int) 4 cX11_will) = true := by decide +kernel
set_option maxRecDepth 100000 in
theorem gok_122 : gmeP gme_122 := gmeP_of (gix_mem (i := 800) (by decide +kernel)) (by decide +kernel) (gall gch_122_0)
set_option maxRecDepth 100000 in
theorem gch_123_0 : gco_123_0.all (gck 11 false (some .int) 4 cX11_open) = true := by decide +kernel
set_option maxRecDepth 100000 in
theorem gok_123 : gmeP gme_123 := gmeP_of (gix_mem (i := 808) (by decide +kernel)) (by decide +kernel) (gall gch_123_0)
set_option maxRecDepth 100000 in
theorem gch_124_0 : gco_124_0.all (gck 11 false (some .int) 4 cX11_wellOf) = true := by decide +kernel
set_option maxRecDepth 100000 in
theorem gch_124_1 : gco_124_1.all (gck 11 false (some .int) 4 cX11_wellOf) = true := by decide +kernel
set_option maxRecDepth 100000 in
theorem gok_124 : gmeP gme_124 := gmeP_of (gix_mem (i := 812) (by decide +kernel)) (by decide +kernel) (gapp (gall gch_124_0) (gall gch_124_1))
set_option maxRecDepth 100000 in
theorem gch_125_0 : gco_125_0.all (gck 11 false (some .int) 4 cX11_drew) = true := by decide +kernel
set_option maxRecDepth 100000 in
theorem gok_125 : gmeP gme_125 := gmeP_of (gix_mem (i := 817) (by decide +kernel)) (by decide +kernel) (gall gch_125_0)
set_option maxRecDepth 100000 in
theorem gch_126_0 : gco_126_0.all (gck 11 false (some .int) 3 cX11_sell) = true := by decide +kernel
set_option maxRecDepth 100000 in
theorem gok_126 : gmeP gme_126 := gmeP_of (gix_mem (i := 823) (by decide +kernel)) (by decide +kernel) (gall gch_126_0)
set_option maxRecDepth 100000 in
theorem gch_127_0 : gco_127_0.all (gck 11 false (some .int) 2 cX11_price) = true := by decide +kernel
set_option maxRecDepth 100000 in
theorem gok_127 : gmeP gme_127 := gmeP_of (gix_mem (i := 837) (by decide +kernel)) (by decide +kernel) (gall gch_127_0)
set_option maxRecDepth 100000 in
theorem gch_128_0 : gco_128_0.all (gck 11 false (some .int) 3 cX11_feed) = true := by decide +kernel
set_option maxRecDepth 100000 in
theorem gok_128 : gmeP gme_128 := gmeP_of (gix_mem (i := 842) (by decide +kernel)) (by decide +kernel) (gall gch_128_0)
set_option maxRecDepth 100000 in
theorem gch_129_0 : gco_129_0.all (gck 11 false (some .int) 3 cX11_end) = true := by decide +kernel
set_option maxRecDepth 100000 in
theorem gok_129 : gmeP gme_129 := gmeP_of (gix_mem (i := 850) (by decide +kernel)) (by decide +kernel) (gall gch_129_0)
set_option maxRecDepth 100000 in
theorem gch_130_0 : gco_130_0.all (gck 11 false (some .int) 1 cX11_orders) = true := by decide +kernel
set_option maxRecDepth 100000 in
theorem gok_130 : gmeP gme_130 := gmeP_of (gix_mem (i := 854) (by decide +kernel)) (by decide +kernel) (gall gch_130_0)
set_option maxRecDepth 100000 in
theorem gch_131_0 : gco_131_0.all (gck 11 false (some .int) 1 cX11_fault) = true := by decide +kernel
set_option maxRecDepth 100000 in
theorem gok_131 : gmeP gme_131 := gmeP_of (gix_mem (i := 981) (by decide +kernel)) (by decide +kernel) (gall gch_131_0)
set_option maxRecDepth 100000 in
theorem gch_132_0 : gco_132_0.all (gck 11 false (some .int) 3 cX11_line) = true := by decide +kernel
set_option maxRecDepth 100000 in
theorem gok_132 : gmeP gme_132 := gmeP_of (gix_mem (i := 985) (by decide +kernel)) (by decide +kernel) (gall gch_132_0)
set_option maxRecDepth 100000 in
theorem gch_133_0 : gco_133_0.all (gck 11 false (some .int) 3 cX11_voids) = true := by decide +kernel
set_option maxRecDepth 100000 in
theorem gok_133 : gmeP gme_133 := gmeP_of (gix_mem (i := 989) (by decide +kernel)) (by decide +kernel) (gall gch_133_0)
set_option maxRecDepth 100000 in
theorem gch_134_0 : gco_134_0.all (gck 11 false (some .int) 8 cX11_lets) = true := by decide +kernel
set_option maxRecDepth 100000 in
theorem gch_134_1 : gco_134_1.all (gck 11 false (some .int) 8 cX11_lets) = true := by decide +kernel
set_option maxRecDepth 100000 in
theorem gok_134 : gmeP gme_134 := gmeP_of (gix_mem (i := 999) (by decide +kernel)) (by decide +kernel) (gapp (gall gch_134_0) (gall gch_134_1))
set_option maxRecDepth 100000 in
theorem gch_135_0 : gco_135_0.all (gck 11 false (some .int) 4 cX11_spot) = true := by decide +kernel
set_option maxRecDepth 100000 in
theorem gok_135 : gmeP gme_135 := gmeP_of (gix_mem (i := 1005) (by decide +kernel)) (by decide +kernel) (gall gch_135_0)
set_option maxRecDepth 100000 in
theorem gch_136_0 : gco_136_0.all (gck 11 false (some .int) 7 cX11_gain) = true := by decide +kernel
set_option maxRecDepth 100000 in
theorem gok_136 : gmeP gme_136 := gmeP_of (gix_mem (i := 1009) (by decide +kernel)) (by decide +kernel) (gall gch_136_0)
set_option maxRecDepth 100000 in
theorem gch_137_0 : gco_137_0.all (gck 11 false (some .int) 6 cX11_steady) = true := by decide +kernel
set_option maxRecDepth 100000 in
theorem gok_137 : gmeP gme_137 := gmeP_of (gix_mem (i := 1057) (by decide +kernel)) (by decide +kernel) (gall gch_137_0)
set_option maxRecDepth 100000 in
theorem gch_138_0 : gco_138_0.all (gck 11 false (some .int) 6 cX11_must) = true := by decide +kernel
set_option maxRecDepth 100000 in
theorem gok_138 : gmeP gme_138 := gmeP_of (gix_mem (i := 1087) (by decide +kernel)) (by decide +kernel) (gall gch_138_0)
set_option maxRecDepth 100000 in
theorem gch_139_0 : gco_139_0.all (gck 11 false (some .int) 2 cX11_keep) = true := by decide +kernel
set_option maxRecDepth 100000 in
theorem gok_139 : gmeP gme_139 := gmeP_of (gix_mem (i := 1095) (by decide +kernel)) (by decide +kernel) (gall gch_139_0)
set_option maxRecDepth 100000 in
theorem gch_140_0 : gco_140_0.all (gck 11 false (some .int) 3 cX11_stand) = true := by decide +kernel
set_option maxRecDepth 100000 in
theorem gok_140 : gmeP gme_140 := gmeP_of (gix_mem (i := 1124) (by decide +kernel)) (by decide +kernel) (gall gch_140_0)
set_option maxRecDepth 100000 in
theorem gch_141_0 : gco_141_0.all (gck 11 false (some .int) 4 cX11_sheet) = true := by decide +kernel
set_option maxRecDepth 100000 in
theorem gok_141 : gmeP gme_141 := gmeP_of (gix_mem (i := 1128) (by decide +kernel)) (by decide +kernel) (gall gch_141_0)
set_option maxRecDepth 100000 in
theorem gch_142_0 : gco_142_0.all (gck 11 false (some .int) 5 cX11_write) = true := by decide +kernel
set_option maxRecDepth 100000 in
theorem gok_142 : gmeP gme_142 := gmeP_of (gix_mem (i := 1143) (by decide +kernel)) (by decide +kernel) (gall gch_142_0)
set_option maxRecDepth 100000 in
theorem gch_143_0 : gco_143_0.all (gck 11 false (some .int) 6 cX11_scan) = true := by decide +kernel
set_option maxRecDepth 100000 in
theorem gok_143 : gmeP gme_143 := gmeP_of (gix_mem (i := 1151) (by decide +kernel)) (by decide +kernel) (gall gch_143_0)
set_option maxRecDepth 100000 in
theorem gch_144_0 : gco_144_0.all (gck 11 false (some .int) 2 cX11_count) = true := by decide +kernel
set_option maxRecDepth 100000 in
theorem gch_144_1 : gco_144_1.all (gck 11 false (some .int) 2 cX11_count) = true := by decide +kernel
set_option maxRecDepth 100000 in
theorem gok_144 : gmeP gme_144 := gmeP_of (gix_mem (i := 1163) (by decide +kernel)) (by decide +kernel) (gapp (gall gch_144_0) (gall gch_144_1))
set_option maxRecDepth 100000 in
theorem gch_145_0 : gco_145_0.all (gck 11 false (some .boolean) 2 cX11_within) = true := by decide +kernel
set_option maxRecDepth 100000 in
theorem gok_145 : gmeP gme_145 := gmeP_of (gix_mem (i := 560) (by decide +kernel)) (by decide +kernel) (gall gch_145_0)
set_option maxRecDepth 100000 in
theorem gch_146_0 : gco_146_0.all (gck 11 false (some .boolean) 1 cX11_isLot) = true := by decide +kernel
set_option maxRecDepth 100000 in
theorem gok_146 : gmeP gme_146 := gmeP_of (gix_mem (i := 571) (by decide +kernel)) (by decide +kernel) (gall gch_146_0)
set_option maxRecDepth 100000 in
theorem gch_147_0 : gco_147_0.all (gck 11 false (some .boolean) 1 cX11_isByLot) = true := by decide +kernel
set_option maxRecDepth 100000 in
theorem gok_147 : gmeP gme_147 := gmeP_of (gix_mem (i := 582) (by decide +kernel)) (by decide +kernel) (gall gch_147_0)
set_option maxRecDepth 100000 in
theorem gch_148_0 : gco_148_0.all (gck 11 false (some .boolean) 1 cX11_isSheet) = true := by decide +kernel
set_option maxRecDepth 100000 in
theorem gok_148 : gmeP gme_148 := gmeP_of (gix_mem (i := 1131) (by decide +kernel)) (by decide +kernel) (gall gch_148_0)
set_option maxRecDepth 100000 in
theorem gch_149_0 : gco_149_0.all (gck 11 false (some .boolean) 1 cX11_isLane) = true := by decide +kernel
set_option maxRecDepth 100000 in
theorem gok_149 : gmeP gme_149 := gmeP_of (gix_mem (i := 1134) (by decide +kernel)) (by decide +kernel) (gall gch_149_0)
set_option maxRecDepth 100000 in
theorem gch_150_0 : gco_150_0.all (gck 11 false (some .boolean) 2 cX11_hasCell) = true := by decide +kernel
set_option maxRecDepth 100000 in
theorem gok_150 : gmeP gme_150 := gmeP_of (gix_mem (i := 553) (by decide +kernel)) (by decide +kernel) (gall gch_150_0)
set_option maxRecDepth 100000 in
theorem gch_151_0 : gco_151_0.all (gck 11 false (some .boolean) 2 cX11_isPerson) = true := by decide +kernel
set_option maxRecDepth 100000 in
theorem gok_151 : gmeP gme_151 := gmeP_of (gix_mem (i := 666) (by decide +kernel)) (by decide +kernel) (gall gch_151_0)
set_option maxRecDepth 100000 in
theorem gch_152_0 : gco_152_0.all (gck 11 false (some .boolean) 2 cX11_isWell) = true := by decide +kernel
set_option maxRecDepth 100000 in
theorem gok_152 : gmeP gme_152 := gmeP_of (gix_mem (i := 804) (by decide +kernel)) (by decide +kernel) (gall gch_152_0)
set_option maxRecDepth 100000 in
theorem gch_153_0 : gco_153_0.all (gck 11 false (some .boolean) 5 cX11_isRace) = true := by decide +kernel
set_option maxRecDepth 100000 in
theorem gok_153 : gmeP gme_153 := gmeP_of (gix_mem (i := 1013) (by decide +kernel)) (by decide +kernel) (gall gch_153_0)
set_option maxRecDepth 100000 in
theorem gch_154_0 : gco_154_0.all (gck 11 false (some .boolean) 3 cX11_haveSpots) = true := by decide +kernel
set_option maxRecDepth 100000 in
theorem gok_154 : gmeP gme_154 := gmeP_of (gix_mem (i := 1017) (by decide +kernel)) (by decide +kernel) (gall gch_154_0)
set_option maxRecDepth 100000 in
theorem gch_155_0 : gco_155_0.all (gck 11 false none 5 cX11_tellOilFrom) = true := by decide +kernel
set_option maxRecDepth 100000 in
theorem gok_155 : gmeP gme_155 := gmeP_of (gix_mem (i := 1159) (by decide +kernel)) (by decide +kernel) (gall gch_155_0)
end
section
/-! ===== the code is the bytes' own (by program) ===== -/
set_option maxRecDepth 100000 in
theorem gch_156_0 : gco_156_0.all (gck 12 true none 1 cX12_init) = true := by decide +kernel
set_option maxRecDepth 100000 in
theorem gch_156_1 : gco_156_1.all (gck 12 true none 1 cX12_init) = true := by decide +kernel
set_option maxRecDepth 100000 in
theorem gch_156_2 : gco_156_2.all (gck 12 true none 1 cX12_init) = true := by decide +kernel
set_option maxRecDepth 100000 in
theorem gch_156_3 : gco_156_3.all (gck 12 true none 1 cX12_init) = true := by decide +kernel
set_option maxRecDepth 100000 in
theorem gch_156_4 : gco_156_4.all (gck 12 true none 1 cX12_init) = true := by decide +kernel
set_option maxRecDepth 100000 in
theorem gch_156_5 : gco_156_5.all (gck 12 true none 1 cX12_init) = true := by decide +kernel
set_option maxRecDepth 100000 in
theorem gch_156_6 : gco_156_6.all (gck 12 true none 1 cX12_init) = true := by decide +kernel
set_option maxRecDepth 100000 in
theorem gch_156_7 : gco_156_7.all (gck 12 true none 1 cX12_init) = true := by decide +kernel
set_option maxRecDepth 100000 in
theorem gch_156_8 : gco_156_8.all (gck 12 true none 1 cX12_init) = true := by decide +kernel
set_option maxRecDepth 100000 in
theorem gch_156_9 : gco_156_9.all (gck 12 true none 1 cX12_init) = true := by decide +kernel
set_option maxRecDepth 100000 in
theorem gch_156_10 : gco_156_10.all (gck 12 true none 1 cX12_init) = true := by decide +kernel
set_option maxRecDepth 100000 in
theorem gch_156_11 : gco_156_11.all (gck 12 true none 1 cX12_init) = true := by decide +kernel
set_option maxRecDepth 100000 in
theorem gch_156_12 : gco_156_12.all (gck 12 true none 1 cX12_init) = true := by decide +kernel
set_option maxRecDepth 100000 in
theorem gok_156 : gmeP gme_156 := gmeP_of (gT_mem (gnth_mem (i := 1191) rfl) rfl) (by decide +kernel) (gapp (gall gch_156_0) (gapp (gall gch_156_1) (gapp (gall gch_156_2) (gapp (gall gch_156_3) (gapp (gall gch_156_4) (gapp (gall gch_156_5) (gapp (gall gch_156_6) (gapp (gall gch_156_7) (gapp (gall gch_156_8) (gapp (gall gch_156_9) (gapp (gall gch_156_10) (gapp (gall gch_156_11) (gall gch_156_12)))))))))))))
set_option maxRecDepth 100000 in
theorem gch_157_0 : gco_157_0.all (gck 12 false (some .boolean) 6 cX12_in) = true := by decide +kernel
set_option maxRecDepth 100000 in
theorem gok_157 : gmeP gme_157 := gmeP_of (gix_mem (i := 1396) (by decide +kernel)) (by decide +kernel) (gall gch_157_0)
set_option maxRecDepth 100000 in
theorem gch_158_0 : gco_158_0.all (gck 12 false (some .int) 1 cX12_cells) = true := by decide +kernel
set_option maxRecDepth 100000 in
theorem gok_158 : gmeP gme_158 := gmeP_of (gix_mem (i := 1408) (by decide +kernel)) (by decide +kernel) (gall gch_158_0)
set_option maxRecDepth 100000 in
theorem gch_159_0 : gco_159_0.all (gck 12 false (some .boolean) 2 cX12_isCell) = true := by decide +kernel
set_option maxRecDepth 100000 in
theorem gok_159 : gmeP gme_159 := gmeP_of (gix_mem (i := 1404) (by decide +kernel)) (by decide +kernel) (gall gch_159_0)
set_option maxRecDepth 100000 in
theorem gch_160_0 : gco_160_0.all (gck 12 false (some .boolean) 1 cX12_isLot) = true := by decide +kernel
set_option maxRecDepth 100000 in
theorem gok_160 : gmeP gme_160 := gmeP_of (gix_mem (i := 1421) (by decide +kernel)) (by decide +kernel) (gall gch_160_0)
set_option maxRecDepth 100000 in
theorem gch_161_0 : gco_161_0.all (gck 12 false (some .boolean) 2 cX12_isPerson) = true := by decide +kernel
set_option maxRecDepth 100000 in
theorem gok_161 : gmeP gme_161 := gmeP_of (gix_mem (i := 1484) (by decide +kernel)) (by decide +kernel) (gall gch_161_0)
set_option maxRecDepth 100000 in
theorem gch_162_0 : gco_162_0.all (gck 12 false (some .boolean) 2 cX12_isWell) = true := by decide +kernel
set_option maxRecDepth 100000 in
theorem gok_162 : gmeP gme_162 := gmeP_of (gix_mem (i := 1562) (by decide +kernel)) (by decide +kernel) (gall gch_162_0)
set_option maxRecDepth 100000 in
theorem gch_163_0 : gco_163_0.all (gck 12 false (some .int) 1 cX12_shift) = true := by decide +kernel
set_option maxRecDepth 100000 in
theorem gok_163 : gmeP gme_163 := gmeP_of (gix_mem (i := 1456) (by decide +kernel)) (by decide +kernel) (gall gch_163_0)
set_option maxRecDepth 100000 in
theorem gch_164_0 : gco_164_0.all (gck 12 false (some .int) 4 cX12_field) = true := by decide +kernel
set_option maxRecDepth 100000 in
theorem gch_164_1 : gco_164_1.all (gck 12 false (some .int) 4 cX12_field) = true := by decide +kernel
set_option maxRecDepth 100000 in
theorem gok_164 : gmeP gme_164 := gmeP_of (gix_mem (i := 1392) (by decide +kernel)) (by decide +kernel) (gapp (gall gch_164_0) (gall gch_164_1))
set_option maxRecDepth 100000 in
theorem gch_165_0 : gco_165_0.all (gck 12 false none 4 cX12_putOil) = true := by decide +kernel
set_option maxRecDepth 100000 in
theorem gok_165 : gmeP gme_165 := gmeP_of (gix_mem (i := 1414) (by decide +kernel)) (by decide +kernel) (gall gch_165_0)
set_option maxRecDepth 100000 in
theorem gch_166_0 : gco_166_0.all (gck 12 false (some .int) 4 cX12_oilOf) = true := by decide +kernel
set_option maxRecDepth 100000 in
theorem gok_166 : gmeP gme_166 := gmeP_of (gix_mem (i := 1432) (by decide +kernel)) (by decide +kernel) (gall gch_166_0)
set_option maxRecDepth 100000 in
theorem gch_167_0 : gco_167_0.all (gck 12 false (some .int) 6 cX12_cell) = true := by decide +kernel
set_option maxRecDepth 100000 in
theorem gok_167 : gmeP gme_167 := gmeP_of (gix_mem (i := 1400) (by decide +kernel)) (by decide +kernel) (gall gch_167_0)
set_option maxRecDepth 100000 in
theorem gch_168_0 : gco_168_0.all (gck 12 false (some .int) 4 cX12_lay) = true := by decide +kernel
set_option maxRecDepth 100000 in
theorem gok_168 : gmeP gme_168 := gmeP_of (gix_mem (i := 1418) (by decide +kernel)) (by decide +kernel) (gall gch_168_0)
set_option maxRecDepth 100000 in
theorem gch_169_0 : gco_169_0.all (gck 12 false (some .int) 2 cX12_pushOf) = true := by decide +kernel
set_option maxRecDepth 100000 in
theorem gok_169 : gmeP gme_169 := gmeP_of (gix_mem (i := 1436) (by decide +kernel)) (by decide +kernel) (gall gch_169_0)
set_option maxRecDepth 100000 in
theorem gch_170_0 : gco_170_0.all (gck 12 false (some .int) 3 cX12_cellOf) = true := by decide +kernel
set_option maxRecDepth 100000 in
theorem gok_170 : gmeP gme_170 := gmeP_of (gix_mem (i := 1426) (by decide +kernel)) (by decide +kernel) (gall gch_170_0)
set_option maxRecDepth 100000 in
theorem gch_171_0 : gco_171_0.all (gck 12 false none 6 cX12_take) = true := by decide +kernel
set_option maxRecDepth 100000 in
theorem gch_171_1 : gco_171_1.all (gck 12 false none 6 cX12_take) = true := by decide +kernel
set_option maxRecDepth 100000 in
theorem gok_171 : gmeP gme_171 := gmeP_of (gix_mem (i := 1452) (by decide +kernel)) (by decide +kernel) (gapp (gall gch_171_0) (gall gch_171_1))
set_option maxRecDepth 100000 in
theorem gch_172_0 : gco_172_0.all (gck 12 false (some .int) 8 cX12_draws) = true := by decide +kernel
set_option maxRecDepth 100000 in
theorem gch_172_1 : gco_172_1.all (gck 12 false (some .int) 8 cX12_draws) = true := by decide +kernel
set_option maxRecDepth 100000 in
theorem gch_172_2 : gco_172_2.all (gck 12 false (some .int) 8 cX12_draws) = true := by decide +kernel
set_option maxRecDepth 100000 in
theorem gok_172 : gmeP gme_172 := gmeP_of (gix_mem (i := 1448) (by decide +kernel)) (by decide +kernel) (gapp (gall gch_172_0) (gapp (gall gch_172_1) (gall gch_172_2)))
set_option maxRecDepth 100000 in
theorem gch_173_0 : gco_173_0.all (gck 12 false (some .int) 5 cX12_beside) = true := by decide +kernel
set_option maxRecDepth 100000 in
theorem gch_173_1 : gco_173_1.all (gck 12 false (some .int) 5 cX12_beside) = true := by decide +kernel
set_option maxRecDepth 100000 in
theorem gok_173 : gmeP gme_173 := gmeP_of (gix_mem (i := 1472) (by decide +kernel)) (by decide +kernel) (gapp (gall gch_173_0) (gall gch_173_1))
set_option maxRecDepth 100000 in
theorem gch_174_0 : gco_174_0.all (gck 12 false (some .int) 5 cX12_wantOf) = true := by decide +kernel
set_option maxRecDepth 100000 in
theorem gok_174 : gmeP gme_174 := gmeP_of (gix_mem (i := 1468) (by decide +kernel)) (by decide +kernel) (gall gch_174_0)
set_option maxRecDepth 100000 in
theorem gch_175_0 : gco_175_0.all (gck 12 false none 9 cX12_flowOf) = true := by decide +kernel
set_option maxRecDepth 100000 in
theorem gch_175_1 : gco_175_1.all (gck 12 false none 9 cX12_flowOf) = true := by decide +kernel
set_option maxRecDepth 100000 in
theorem gch_175_2 : gco_175_2.all (gck 12 false none 9 cX12_flowOf) = true := by decide +kernel
set_option maxRecDepth 100000 in
theorem gok_175 : gmeP gme_175 := gmeP_of (gix_mem (i := 1464) (by decide +kernel)) (by decide +kernel) (gapp (gall gch_175_0) (gapp (gall gch_175_1) (gall gch_175_2)))
set_option maxRecDepth 100000 in
theorem gch_176_0 : gco_176_0.all (gck 12 false none 3 cX12_flows) = true := by decide +kernel
set_option maxRecDepth 100000 in
theorem gch_176_1 : gco_176_1.all (gck 12 false none 3 cX12_flows) = true := by decide +kernel
set_option maxRecDepth 100000 in
theorem gok_176 : gmeP gme_176 := gmeP_of (gix_mem (i := 1460) (by decide +kernel)) (by decide +kernel) (gapp (gall gch_176_0) (gall gch_176_1))
set_option maxRecDepth 100000 in
theorem gch_177_0 : gco_177_0.all (gck 12 false (some .int) 2 cX12_step) = true := by decide +kernel
set_option maxRecDepth 100000 in
theorem gok_177 : gmeP gme_177 := gmeP_of (gix_mem (i := 1444) (by decide +kernel)) (by decide +kernel) (gall gch_177_0)
set_option maxRecDepth 100000 in
theorem gch_178_0 : gco_178_0.all (gck 12 false (some .int) 1 cX12_hour) = true := by decide +kernel
set_option maxRecDepth 100000 in
theorem gok_178 : gmeP gme_178 := gmeP_of (gix_mem (i := 1440) (by decide +kernel)) (by decide +kernel) (gall gch_178_0)
set_option maxRecDepth 100000 in
theorem gch_179_0 : gco_179_0.all (gck 12 false (some .int) 1 cX12_person) = true := by decide +kernel
set_option maxRecDepth 100000 in
theorem gok_179 : gmeP gme_179 := gmeP_of (gix_mem (i := 1476) (by decide +kernel)) (by decide +kernel) (gall gch_179_0)
set_option maxRecDepth 100000 in
theorem gch_180_0 : gco_180_0.all (gck 12 false (some .int) 4 cX12_owner) = true := by decide +kernel
set_option maxRecDepth 100000 in
theorem gok_180 : gmeP gme_180 := gmeP_of (gix_mem (i := 1480) (by decide +kernel)) (by decide +kernel) (gall gch_180_0)
end
section
/-! ===== the code is the bytes' own (by program) ===== -/
set_option maxRecDepth 100000 in
theorem gch_181_0 : gco_181_0.all (gck 12 false (some .int) 5 cX12_lease) = true := by decide +kernel
set_option maxRecDepth 100000 in
theorem gch_181_1 : gco_181_1.all (gck 12 false (some .int) 5 cX12_lease) = true := by decide +kernel
set_option maxRecDepth 100000 in
theorem gok_181 : gmeP gme_181 := gmeP_of (gix_mem (i := 1488) (by decide +kernel)) (by decide +kernel) (gapp (gall gch_181_0) (gall gch_181_1))
set_option maxRecDepth 100000 in
theorem gch_182_0 : gco_182_0.all (gck 12 false (some .boolean) 4 cX12_hasEnded) = true := by decide +kernel
set_option maxRecDepth 100000 in
theorem gok_182 : gmeP gme_182 := gmeP_of (gix_mem (i := 1497) (by decide +kernel)) (by decide +kernel) (gall gch_182_0)
set_option maxRecDepth 100000 in
theorem gch_183_0 : gco_183_0.all (gck 12 false (some .int) 3 cX12_leaseOf) = true := by decide +kernel
set_option maxRecDepth 100000 in
theorem gok_183 : gmeP gme_183 := gmeP_of (gix_mem (i := 1493) (by decide +kernel)) (by decide +kernel) (gall gch_183_0)
set_option maxRecDepth 100000 in
theorem gch_184_0 : gco_184_0.all (gck 12 false (some .int) 4 cX12_holderOf) = true := by decide +kernel
set_option maxRecDepth 100000 in
theorem gok_184 : gmeP gme_184 := gmeP_of (gix_mem (i := 1505) (by decide +kernel)) (by decide +kernel) (gall gch_184_0)
set_option maxRecDepth 100000 in
theorem gch_185_0 : gco_185_0.all (gck 12 false (some .int) 2 cX12_holds) = true := by decide +kernel
set_option maxRecDepth 100000 in
theorem gok_185 : gmeP gme_185 := gmeP_of (gix_mem (i := 1501) (by decide +kernel)) (by decide +kernel) (gall gch_185_0)
set_option maxRecDepth 100000 in
theorem gch_186_0 : gco_186_0.all (gck 12 false (some .int) 8 cX12_told) = true := by decide +kernel
set_option maxRecDepth 100000 in
theorem gch_186_1 : gco_186_1.all (gck 12 false (some .int) 8 cX12_told) = true := by decide +kernel
set_option maxRecDepth 100000 in
theorem gok_186 : gmeP gme_186 := gmeP_of (gix_mem (i := 1509) (by decide +kernel)) (by decide +kernel) (gapp (gall gch_186_0) (gall gch_186_1))
set_option maxRecDepth 100000 in
theorem gch_187_0 : gco_187_0.all (gck 12 false (some .int) 5 cX12_howFar) = true := by decide +kernel
set_option maxRecDepth 100000 in
theorem gok_187 : gmeP gme_187 := gmeP_of (gix_mem (i := 1546) (by decide +kernel)) (by decide +kernel) (gall gch_187_0)
set_option maxRecDepth 100000 in
theorem gch_188_0 : gco_188_0.all (gck 12 false (some .boolean) 4 cX12_isExcepted) = true := by decide +kernel
set_option maxRecDepth 100000 in
theorem gok_188 : gmeP gme_188 := gmeP_of (gix_mem (i := 1542) (by decide +kernel)) (by decide +kernel) (gall gch_188_0)
set_option maxRecDepth 100000 in
theorem gch_189_0 : gco_189_0.all (gck 12 false (some .int) 6 cX12_whyNot) = true := by decide +kernel
set_option maxRecDepth 100000 in
theorem gch_189_1 : gco_189_1.all (gck 12 false (some .int) 6 cX12_whyNot) = true := by decide +kernel
set_option maxRecDepth 100000 in
theorem gok_189 : gmeP gme_189 := gmeP_of (gix_mem (i := 1538) (by decide +kernel)) (by decide +kernel) (gapp (gall gch_189_0) (gall gch_189_1))
set_option maxRecDepth 100000 in
theorem gch_190_0 : gco_190_0.all (gck 12 false (some .int) 5 cX12_whyNow) = true := by decide +kernel
set_option maxRecDepth 100000 in
theorem gok_190 : gmeP gme_190 := gmeP_of (gix_mem (i := 1534) (by decide +kernel)) (by decide +kernel) (gall gch_190_0)
set_option maxRecDepth 100000 in
theorem gch_191_0 : gco_191_0.all (gck 12 false none 6 cX12_addWell) = true := by decide +kernel
set_option maxRecDepth 100000 in
theorem gch_191_1 : gco_191_1.all (gck 12 false none 6 cX12_addWell) = true := by decide +kernel
set_option maxRecDepth 100000 in
theorem gok_191 : gmeP gme_191 := gmeP_of (gix_mem (i := 1550) (by decide +kernel)) (by decide +kernel) (gapp (gall gch_191_0) (gall gch_191_1))
set_option maxRecDepth 100000 in
theorem gch_192_0 : gco_192_0.all (gck 12 false (some .int) 4 cX12_drill) = true := by decide +kernel
set_option maxRecDepth 100000 in
theorem gok_192 : gmeP gme_192 := gmeP_of (gix_mem (i := 1529) (by decide +kernel)) (by decide +kernel) (gall gch_192_0)
set_option maxRecDepth 100000 in
theorem gch_193_0 : gco_193_0.all (gck 12 false (some .int) 3 cX12_why) = true := by decide +kernel
set_option maxRecDepth 100000 in
theorem gok_193 : gmeP gme_193 := gmeP_of (gix_mem (i := 1554) (by decide +kernel)) (by decide +kernel) (gall gch_193_0)
set_option maxRecDepth 100000 in
theorem gch_194_0 : gco_194_0.all (gck 12 false (some .int) 4 cX12_will) = true := by decide +kernel
set_option maxRecDepth 100000 in
theorem gok_194 : gmeP gme_194 := gmeP_of (gix_mem (i := 1558) (by decide +kernel)) (by decide +kernel) (gall gch_194_0)
set_option maxRecDepth 100000 in
theorem gch_195_0 : gco_195_0.all (gck 12 false (some .int) 4 cX12_open) = true := by decide +kernel
set_option maxRecDepth 100000 in
theorem gok_195 : gmeP gme_195 := gmeP_of (gix_mem (i := 1566) (by decide +kernel)) (by decide +kernel) (gall gch_195_0)
set_option maxRecDepth 100000 in
theorem gch_196_0 : gco_196_0.all (gck 12 false (some .int) 10 cX12_letOf) = true := by decide +kernel
set_option maxRecDepth 100000 in
theorem gch_196_1 : gco_196_1.all (gck 12 false (some .int) 10 cX12_letOf) = true := by decide +kernel
set_option maxRecDepth 100000 in
theorem gok_196 : gmeP gme_196 := gmeP_of (gix_mem (i := 1521) (by decide +kernel)) (by decide +kernel) (gapp (gall gch_196_0) (gall gch_196_1))
set_option maxRecDepth 100000 in
theorem gch_197_0 : gco_197_0.all (gck 12 false (some .int) 5 cX12_hotIn) = true := by decide +kernel
set_option maxRecDepth 100000 in
theorem gok_197 : gmeP gme_197 := gmeP_of (gix_mem (i := 1517) (by decide +kernel)) (by decide +kernel) (gall gch_197_0)
set_option maxRecDepth 100000 in
theorem gch_198_0 : gco_198_0.all (gck 12 false (some .int) 4 cX12_hotOf) = true := by decide +kernel
set_option maxRecDepth 100000 in
theorem gok_198 : gmeP gme_198 := gmeP_of (gix_mem (i := 1513) (by decide +kernel)) (by decide +kernel) (gall gch_198_0)
set_option maxRecDepth 100000 in
theorem gch_199_0 : gco_199_0.all (gck 12 false (some .int) 3 cX12_hotAll) = true := by decide +kernel
set_option maxRecDepth 100000 in
theorem gok_199 : gmeP gme_199 := gmeP_of (gix_mem (i := 1650) (by decide +kernel)) (by decide +kernel) (gall gch_199_0)
set_option maxRecDepth 100000 in
theorem gch_200_0 : gco_200_0.all (gck 12 false (some .int) 3 cX12_wellOf) = true := by decide +kernel
set_option maxRecDepth 100000 in
theorem gch_200_1 : gco_200_1.all (gck 12 false (some .int) 3 cX12_wellOf) = true := by decide +kernel
set_option maxRecDepth 100000 in
theorem gok_200 : gmeP gme_200 := gmeP_of (gix_mem (i := 1570) (by decide +kernel)) (by decide +kernel) (gapp (gall gch_200_0) (gall gch_200_1))
set_option maxRecDepth 100000 in
theorem gch_201_0 : gco_201_0.all (gck 12 false (some .int) 4 cX12_drew) = true := by decide +kernel
set_option maxRecDepth 100000 in
theorem gok_201 : gmeP gme_201 := gmeP_of (gix_mem (i := 1574) (by decide +kernel)) (by decide +kernel) (gall gch_201_0)
set_option maxRecDepth 100000 in
theorem gch_202_0 : gco_202_0.all (gck 12 false (some .int) 3 cX12_priceOf) = true := by decide +kernel
set_option maxRecDepth 100000 in
theorem gok_202 : gmeP gme_202 := gmeP_of (gix_mem (i := 1584) (by decide +kernel)) (by decide +kernel) (gall gch_202_0)
set_option maxRecDepth 100000 in
theorem gch_203_0 : gco_203_0.all (gck 12 false (some .int) 4 cX12_sell) = true := by decide +kernel
set_option maxRecDepth 100000 in
theorem gch_203_1 : gco_203_1.all (gck 12 false (some .int) 4 cX12_sell) = true := by decide +kernel
set_option maxRecDepth 100000 in
theorem gok_203 : gmeP gme_203 := gmeP_of (gix_mem (i := 1580) (by decide +kernel)) (by decide +kernel) (gapp (gall gch_203_0) (gall gch_203_1))
set_option maxRecDepth 100000 in
theorem gch_204_0 : gco_204_0.all (gck 12 false (some .int) 2 cX12_price) = true := by decide +kernel
set_option maxRecDepth 100000 in
theorem gok_204 : gmeP gme_204 := gmeP_of (gix_mem (i := 1588) (by decide +kernel)) (by decide +kernel) (gall gch_204_0)
set_option maxRecDepth 100000 in
theorem gch_205_0 : gco_205_0.all (gck 12 false (some .int) 4 cX12_feed) = true := by decide +kernel
set_option maxRecDepth 100000 in
theorem gok_205 : gmeP gme_205 := gmeP_of (gix_mem (i := 1592) (by decide +kernel)) (by decide +kernel) (gall gch_205_0)
set_option maxRecDepth 100000 in
theorem gch_206_0 : gco_206_0.all (gck 12 false (some .int) 3 cX12_end) = true := by decide +kernel
set_option maxRecDepth 100000 in
theorem gok_206 : gmeP gme_206 := gmeP_of (gix_mem (i := 1596) (by decide +kernel)) (by decide +kernel) (gall gch_206_0)
set_option maxRecDepth 100000 in
theorem gch_207_0 : gco_207_0.all (gck 12 false (some .int) 2 cX12_byteAt) = true := by decide +kernel
set_option maxRecDepth 100000 in
theorem gok_207 : gmeP gme_207 := gmeP_of (gix_mem (i := 1608) (by decide +kernel)) (by decide +kernel) (gall gch_207_0)
set_option maxRecDepth 100000 in
theorem gch_208_0 : gco_208_0.all (gck 12 false none 2 cX12_fails) = true := by decide +kernel
set_option maxRecDepth 100000 in
theorem gok_208 : gmeP gme_208 := gmeP_of (gix_mem (i := 1618) (by decide +kernel)) (by decide +kernel) (gall gch_208_0)
set_option maxRecDepth 100000 in
theorem gch_209_0 : gco_209_0.all (gck 12 false (some .int) 6 cX12_nameAt) = true := by decide +kernel
set_option maxRecDepth 100000 in
theorem gch_209_1 : gco_209_1.all (gck 12 false (some .int) 6 cX12_nameAt) = true := by decide +kernel
set_option maxRecDepth 100000 in
theorem gok_209 : gmeP gme_209 := gmeP_of (gix_mem (i := 1614) (by decide +kernel)) (by decide +kernel) (gapp (gall gch_209_0) (gall gch_209_1))
set_option maxRecDepth 100000 in
theorem gch_210_0 : gco_210_0.all (gck 12 false none 2 cX12_next) = true := by decide +kernel
set_option maxRecDepth 100000 in
theorem gch_210_1 : gco_210_1.all (gck 12 false none 2 cX12_next) = true := by decide +kernel
set_option maxRecDepth 100000 in
theorem gch_210_2 : gco_210_2.all (gck 12 false none 2 cX12_next) = true := by decide +kernel
set_option maxRecDepth 100000 in
theorem gok_210 : gmeP gme_210 := gmeP_of (gix_mem (i := 1604) (by decide +kernel)) (by decide +kernel) (gapp (gall gch_210_0) (gapp (gall gch_210_1) (gall gch_210_2)))
set_option maxRecDepth 100000 in
theorem gch_211_0 : gco_211_0.all (gck 12 false (some .int) 2 cX12_number) = true := by decide +kernel
set_option maxRecDepth 100000 in
theorem gok_211 : gmeP gme_211 := gmeP_of (gix_mem (i := 1628) (by decide +kernel)) (by decide +kernel) (gall gch_211_0)
set_option maxRecDepth 100000 in
theorem gch_212_0 : gco_212_0.all (gck 12 false none 5 cX12_once) = true := by decide +kernel
set_option maxRecDepth 100000 in
theorem gok_212 : gmeP gme_212 := gmeP_of (gix_mem (i := 1632) (by decide +kernel)) (by decide +kernel) (gall gch_212_0)
set_option maxRecDepth 100000 in
theorem gch_213_0 : gco_213_0.all (gck 12 false none 4 cX12_oneLine) = true := by decide +kernel
set_option maxRecDepth 100000 in
theorem gch_213_1 : gco_213_1.all (gck 12 false none 4 cX12_oneLine) = true := by decide +kernel
set_option maxRecDepth 100000 in
theorem gch_213_2 : gco_213_2.all (gck 12 false none 4 cX12_oneLine) = true := by decide +kernel
set_option maxRecDepth 100000 in
theorem gok_213 : gmeP gme_213 := gmeP_of (gix_mem (i := 1624) (by decide +kernel)) (by decide +kernel) (gapp (gall gch_213_0) (gapp (gall gch_213_1) (gall gch_213_2)))
set_option maxRecDepth 100000 in
theorem gch_214_0 : gco_214_0.all (gck 12 false (some .int) 2 cX12_orders) = true := by decide +kernel
set_option maxRecDepth 100000 in
theorem gch_214_1 : gco_214_1.all (gck 12 false (some .int) 2 cX12_orders) = true := by decide +kernel
set_option maxRecDepth 100000 in
theorem gok_214 : gmeP gme_214 := gmeP_of (gix_mem (i := 1600) (by decide +kernel)) (by decide +kernel) (gapp (gall gch_214_0) (gall gch_214_1))
set_option maxRecDepth 100000 in
theorem gch_215_0 : gco_215_0.all (gck 12 false (some .int) 1 cX12_fault) = true := by decide +kernel
set_option maxRecDepth 100000 in
theorem gok_215 : gmeP gme_215 := gmeP_of (gix_mem (i := 1636) (by decide +kernel)) (by decide +kernel) (gall gch_215_0)
set_option maxRecDepth 100000 in
theorem gch_216_0 : gco_216_0.all (gck 12 false (some .int) 5 cX12_lineAt) = true := by decide +kernel
set_option maxRecDepth 100000 in
theorem gok_216 : gmeP gme_216 := gmeP_of (gix_mem (i := 1525) (by decide +kernel)) (by decide +kernel) (gall gch_216_0)
set_option maxRecDepth 100000 in
theorem gch_217_0 : gco_217_0.all (gck 12 false (some .int) 3 cX12_line) = true := by decide +kernel
set_option maxRecDepth 100000 in
theorem gok_217 : gmeP gme_217 := gmeP_of (gix_mem (i := 1640) (by decide +kernel)) (by decide +kernel) (gall gch_217_0)
set_option maxRecDepth 100000 in
theorem gch_218_0 : gco_218_0.all (gck 12 false (some .int) 3 cX12_voids) = true := by decide +kernel
set_option maxRecDepth 100000 in
theorem gok_218 : gmeP gme_218 := gmeP_of (gix_mem (i := 1644) (by decide +kernel)) (by decide +kernel) (gall gch_218_0)
set_option maxRecDepth 100000 in
theorem gch_219_0 : gco_219_0.all (gck 12 false (some .int) 7 cX12_lets) = true := by decide +kernel
set_option maxRecDepth 100000 in
theorem gch_219_1 : gco_219_1.all (gck 12 false (some .int) 7 cX12_lets) = true := by decide +kernel
set_option maxRecDepth 100000 in
theorem gok_219 : gmeP gme_219 := gmeP_of (gix_mem (i := 1654) (by decide +kernel)) (by decide +kernel) (gapp (gall gch_219_0) (gall gch_219_1))
end
section
/-! ===== the code is the bytes' own (by program) ===== -/
set_option maxRecDepth 100000 in
theorem gch_220_0 : gco_220_0.all (gck 12 false (some .int) 3 cX12_turn) = true := by decide +kernel
set_option maxRecDepth 100000 in
theorem gok_220 : gmeP gme_220 := gmeP_of (gix_mem (i := 1670) (by decide +kernel)) (by decide +kernel) (gall gch_220_0)
set_option maxRecDepth 100000 in
theorem gch_221_0 : gco_221_0.all (gck 12 false none 2 cX12_turnLand) = true := by decide +kernel
set_option maxRecDepth 100000 in
theorem gch_221_1 : gco_221_1.all (gck 12 false none 2 cX12_turnLand) = true := by decide +kernel
set_option maxRecDepth 100000 in
theorem gch_221_2 : gco_221_2.all (gck 12 false none 2 cX12_turnLand) = true := by decide +kernel
set_option maxRecDepth 100000 in
theorem gok_221 : gmeP gme_221 := gmeP_of (gix_mem (i := 1666) (by decide +kernel)) (by decide +kernel) (gapp (gall gch_221_0) (gapp (gall gch_221_1) (gall gch_221_2)))
set_option maxRecDepth 100000 in
theorem gch_222_0 : gco_222_0.all (gck 12 false none 2 cX12_turnPapers) = true := by decide +kernel
set_option maxRecDepth 100000 in
theorem gch_222_1 : gco_222_1.all (gck 12 false none 2 cX12_turnPapers) = true := by decide +kernel
set_option maxRecDepth 100000 in
theorem gch_222_2 : gco_222_2.all (gck 12 false none 2 cX12_turnPapers) = true := by decide +kernel
set_option maxRecDepth 100000 in
theorem gok_222 : gmeP gme_222 := gmeP_of (gix_mem (i := 1674) (by decide +kernel)) (by decide +kernel) (gapp (gall gch_222_0) (gapp (gall gch_222_1) (gall gch_222_2)))
set_option maxRecDepth 100000 in
theorem gch_223_0 : gco_223_0.all (gck 12 false none 3 cX12_turnPage) = true := by decide +kernel
set_option maxRecDepth 100000 in
theorem gok_223 : gmeP gme_223 := gmeP_of (gix_mem (i := 1662) (by decide +kernel)) (by decide +kernel) (gall gch_223_0)
set_option maxRecDepth 100000 in
theorem gch_224_0 : gco_224_0.all (gck 12 false (some .int) 1 cX12_keep) = true := by decide +kernel
set_option maxRecDepth 100000 in
theorem gok_224 : gmeP gme_224 := gmeP_of (gix_mem (i := 1658) (by decide +kernel)) (by decide +kernel) (gall gch_224_0)
set_option maxRecDepth 100000 in
theorem gch_225_0 : gco_225_0.all (gck 12 false (some .int) 2 cX12_stand) = true := by decide +kernel
set_option maxRecDepth 100000 in
theorem gok_225 : gmeP gme_225 := gmeP_of (gix_mem (i := 1678) (by decide +kernel)) (by decide +kernel) (gall gch_225_0)
set_option maxRecDepth 100000 in
theorem gch_226_0 : gco_226_0.all (gck 12 false (some .int) 4 cX12_spot) = true := by decide +kernel
set_option maxRecDepth 100000 in
theorem gok_226 : gmeP gme_226 := gmeP_of (gix_mem (i := 1682) (by decide +kernel)) (by decide +kernel) (gall gch_226_0)
set_option maxRecDepth 100000 in
theorem gch_227_0 : gco_227_0.all (gck 12 false (some .boolean) 5 cX12_isRace) = true := by decide +kernel
set_option maxRecDepth 100000 in
theorem gok_227 : gmeP gme_227 := gmeP_of (gix_mem (i := 1690) (by decide +kernel)) (by decide +kernel) (gall gch_227_0)
set_option maxRecDepth 100000 in
theorem gch_228_0 : gco_228_0.all (gck 12 false (some .boolean) 4 cX12_haveSpots) = true := by decide +kernel
set_option maxRecDepth 100000 in
theorem gok_228 : gmeP gme_228 := gmeP_of (gix_mem (i := 1696) (by decide +kernel)) (by decide +kernel) (gall gch_228_0)
set_option maxRecDepth 100000 in
theorem gch_229_0 : gco_229_0.all (gck 12 false none 7 cX12_race) = true := by decide +kernel
set_option maxRecDepth 100000 in
theorem gch_229_1 : gco_229_1.all (gck 12 false none 7 cX12_race) = true := by decide +kernel
set_option maxRecDepth 100000 in
theorem gok_229 : gmeP gme_229 := gmeP_of (gix_mem (i := 1700) (by decide +kernel)) (by decide +kernel) (gapp (gall gch_229_0) (gall gch_229_1))
set_option maxRecDepth 100000 in
theorem gch_230_0 : gco_230_0.all (gck 12 false (some .int) 7 cX12_gain) = true := by decide +kernel
set_option maxRecDepth 100000 in
theorem gok_230 : gmeP gme_230 := gmeP_of (gix_mem (i := 1686) (by decide +kernel)) (by decide +kernel) (gall gch_230_0)
set_option maxRecDepth 100000 in
theorem gch_231_0 : gco_231_0.all (gck 12 false none 6 cX12_raceAll) = true := by decide +kernel
set_option maxRecDepth 100000 in
theorem gok_231 : gmeP gme_231 := gmeP_of (gix_mem (i := 1709) (by decide +kernel)) (by decide +kernel) (gall gch_231_0)
set_option maxRecDepth 100000 in
theorem gch_232_0 : gco_232_0.all (gck 12 false (some .boolean) 5 cX12_isSteady) = true := by decide +kernel
set_option maxRecDepth 100000 in
theorem gok_232 : gmeP gme_232 := gmeP_of (gix_mem (i := 1713) (by decide +kernel)) (by decide +kernel) (gall gch_232_0)
set_option maxRecDepth 100000 in
theorem gch_233_0 : gco_233_0.all (gck 12 false (some .int) 5 cX12_sumOf) = true := by decide +kernel
set_option maxRecDepth 100000 in
theorem gok_233 : gmeP gme_233 := gmeP_of (gix_mem (i := 1717) (by decide +kernel)) (by decide +kernel) (gall gch_233_0)
set_option maxRecDepth 100000 in
theorem gch_234_0 : gco_234_0.all (gck 12 false (some .int) 11 cX12_steady) = true := by decide +kernel
set_option maxRecDepth 100000 in
theorem gch_234_1 : gco_234_1.all (gck 12 false (some .int) 11 cX12_steady) = true := by decide +kernel
set_option maxRecDepth 100000 in
theorem gok_234 : gmeP gme_234 := gmeP_of (gix_mem (i := 1704) (by decide +kernel)) (by decide +kernel) (gapp (gall gch_234_0) (gall gch_234_1))
set_option maxRecDepth 100000 in
theorem gch_235_0 : gco_235_0.all (gck 12 false (some .int) 11 cX12_must) = true := by decide +kernel
set_option maxRecDepth 100000 in
theorem gch_235_1 : gco_235_1.all (gck 12 false (some .int) 11 cX12_must) = true := by decide +kernel
set_option maxRecDepth 100000 in
theorem gok_235 : gmeP gme_235 := gmeP_of (gix_mem (i := 1721) (by decide +kernel)) (by decide +kernel) (gapp (gall gch_235_0) (gall gch_235_1))
set_option maxRecDepth 100000 in
theorem gch_236_0 : gco_236_0.all (gck 12 false (some .int) 5 cX12_sheet) = true := by decide +kernel
set_option maxRecDepth 100000 in
theorem gok_236 : gmeP gme_236 := gmeP_of (gix_mem (i := 1725) (by decide +kernel)) (by decide +kernel) (gall gch_236_0)
set_option maxRecDepth 100000 in
theorem gch_237_0 : gco_237_0.all (gck 12 false (some .int) 4 cX12_write) = true := by decide +kernel
set_option maxRecDepth 100000 in
theorem gch_237_1 : gco_237_1.all (gck 12 false (some .int) 4 cX12_write) = true := by decide +kernel
set_option maxRecDepth 100000 in
theorem gok_237 : gmeP gme_237 := gmeP_of (gix_mem (i := 1729) (by decide +kernel)) (by decide +kernel) (gapp (gall gch_237_0) (gall gch_237_1))
set_option maxRecDepth 100000 in
theorem gch_238_0 : gco_238_0.all (gck 12 false (some .int) 6 cX12_scan) = true := by decide +kernel
set_option maxRecDepth 100000 in
theorem gch_238_1 : gco_238_1.all (gck 12 false (some .int) 6 cX12_scan) = true := by decide +kernel
set_option maxRecDepth 100000 in
theorem gok_238 : gmeP gme_238 := gmeP_of (gix_mem (i := 1733) (by decide +kernel)) (by decide +kernel) (gapp (gall gch_238_0) (gall gch_238_1))
set_option maxRecDepth 100000 in
theorem gch_239_0 : gco_239_0.all (gck 12 false (some .int) 7 cX12_count) = true := by decide +kernel
set_option maxRecDepth 100000 in
theorem gch_239_1 : gco_239_1.all (gck 12 false (some .int) 7 cX12_count) = true := by decide +kernel
set_option maxRecDepth 100000 in
theorem gok_239 : gmeP gme_239 := gmeP_of (gix_mem (i := 1737) (by decide +kernel)) (by decide +kernel) (gapp (gall gch_239_0) (gall gch_239_1))
set_option maxRecDepth 100000 in
theorem gch_240_0 : gco_240_0.all (gck 21 false none 4 cJ7_fill_53178) = true := by decide +kernel
set_option maxRecDepth 100000 in
theorem gok_240 : gmeP gme_240 := gmeP_of (gix_mem (i := 310) (by decide +kernel)) (by decide +kernel) (gall gch_240_0)
end
section
/-! ===== the tables hold (by program) ===== -/
set_option maxRecDepth 100000 in
theorem gtab_ok : ∀ x ∈ gtab, gmeP x := by
  refine List.forall_mem_cons.mpr ⟨gok_0, ?_⟩
  refine List.forall_mem_cons.mpr ⟨gok_1, ?_⟩
  refine List.forall_mem_cons.mpr ⟨gok_2, ?_⟩
  refine List.forall_mem_cons.mpr ⟨gok_3, ?_⟩
  refine List.forall_mem_cons.mpr ⟨gok_4, ?_⟩
  refine List.forall_mem_cons.mpr ⟨gok_5, ?_⟩
  refine List.forall_mem_cons.mpr ⟨gok_6, ?_⟩
  refine List.forall_mem_cons.mpr ⟨gok_7, ?_⟩
  refine List.forall_mem_cons.mpr ⟨gok_8, ?_⟩
  refine List.forall_mem_cons.mpr ⟨gok_9, ?_⟩
  refine List.forall_mem_cons.mpr ⟨gok_10, ?_⟩
  refine List.forall_mem_cons.mpr ⟨gok_11, ?_⟩
  refine List.forall_mem_cons.mpr ⟨gok_12, ?_⟩
  refine List.forall_mem_cons.mpr ⟨gok_13, ?_⟩
  refine List.forall_mem_cons.mpr ⟨gok_14, ?_⟩
  refine List.forall_mem_cons.mpr ⟨gok_15, ?_⟩
  refine List.forall_mem_cons.mpr ⟨gok_16, ?_⟩
  refine List.forall_mem_cons.mpr ⟨gok_17, ?_⟩
  refine List.forall_mem_cons.mpr ⟨gok_18, ?_⟩
  refine List.forall_mem_cons.mpr ⟨gok_19, ?_⟩
  refine List.forall_mem_cons.mpr ⟨gok_20, ?_⟩
  refine List.forall_mem_cons.mpr ⟨gok_21, ?_⟩
  refine List.forall_mem_cons.mpr ⟨gok_22, ?_⟩
  refine List.forall_mem_cons.mpr ⟨gok_23, ?_⟩
  refine List.forall_mem_cons.mpr ⟨gok_24, ?_⟩
  refine List.forall_mem_cons.mpr ⟨gok_25, ?_⟩
  refine List.forall_mem_cons.mpr ⟨gok_26, ?_⟩
  refine List.forall_mem_cons.mpr ⟨gok_27, ?_⟩
  refine List.forall_mem_cons.mpr ⟨gok_28, ?_⟩
  refine List.forall_mem_cons.mpr ⟨gok_29, ?_⟩
  refine List.forall_mem_cons.mpr ⟨gok_30, ?_⟩
  refine List.forall_mem_cons.mpr ⟨gok_31, ?_⟩
  refine List.forall_mem_cons.mpr ⟨gok_32, ?_⟩
  refine List.forall_mem_cons.mpr ⟨gok_33, ?_⟩
  refine List.forall_mem_cons.mpr ⟨gok_34, ?_⟩
  refine List.forall_mem_cons.mpr ⟨gok_35, ?_⟩
  refine List.forall_mem_cons.mpr ⟨gok_36, ?_⟩
  refine List.forall_mem_cons.mpr ⟨gok_37, ?_⟩
  refine List.forall_mem_cons.mpr ⟨gok_38, ?_⟩
  refine List.forall_mem_cons.mpr ⟨gok_39, ?_⟩
  refine List.forall_mem_cons.mpr ⟨gok_40, ?_⟩
  refine List.forall_mem_cons.mpr ⟨gok_41, ?_⟩
  refine List.forall_mem_cons.mpr ⟨gok_42, ?_⟩
  refine List.forall_mem_cons.mpr ⟨gok_43, ?_⟩
  refine List.forall_mem_cons.mpr ⟨gok_44, ?_⟩
  refine List.forall_mem_cons.mpr ⟨gok_45, ?_⟩
  refine List.forall_mem_cons.mpr ⟨gok_46, ?_⟩
  refine List.forall_mem_cons.mpr ⟨gok_47, ?_⟩
  refine List.forall_mem_cons.mpr ⟨gok_48, ?_⟩
  refine List.forall_mem_cons.mpr ⟨gok_49, ?_⟩
  refine List.forall_mem_cons.mpr ⟨gok_50, ?_⟩
  refine List.forall_mem_cons.mpr ⟨gok_51, ?_⟩
  refine List.forall_mem_cons.mpr ⟨gok_52, ?_⟩
  refine List.forall_mem_cons.mpr ⟨gok_53, ?_⟩
  refine List.forall_mem_cons.mpr ⟨gok_54, ?_⟩
  refine List.forall_mem_cons.mpr ⟨gok_55, ?_⟩
  refine List.forall_mem_cons.mpr ⟨gok_56, ?_⟩
  refine List.forall_mem_cons.mpr ⟨gok_57, ?_⟩
  refine List.forall_mem_cons.mpr ⟨gok_58, ?_⟩
  refine List.forall_mem_cons.mpr ⟨gok_59, ?_⟩
  refine List.forall_mem_cons.mpr ⟨gok_60, ?_⟩
  refine List.forall_mem_cons.mpr ⟨gok_61, ?_⟩
  refine List.forall_mem_cons.mpr ⟨gok_62, ?_⟩
  refine List.forall_mem_cons.mpr ⟨gok_63, ?_⟩
  refine List.forall_mem_cons.mpr ⟨gok_64, ?_⟩
  refine List.forall_mem_cons.mpr ⟨gok_65, ?_⟩
  refine List.forall_mem_cons.mpr ⟨gok_66, ?_⟩
  refine List.forall_mem_cons.mpr ⟨gok_67, ?_⟩
  refine List.forall_mem_cons.mpr ⟨gok_68, ?_⟩
  refine List.forall_mem_cons.mpr ⟨gok_69, ?_⟩
  refine List.forall_mem_cons.mpr ⟨gok_70, ?_⟩
  refine List.forall_mem_cons.mpr ⟨gok_71, ?_⟩
  refine List.forall_mem_cons.mpr ⟨gok_72, ?_⟩
  refine List.forall_mem_cons.mpr ⟨gok_73, ?_⟩
  refine List.forall_mem_cons.mpr ⟨gok_74, ?_⟩
  refine List.forall_mem_cons.mpr ⟨gok_75, ?_⟩
  refine List.forall_mem_cons.mpr ⟨gok_76, ?_⟩
  refine List.forall_mem_cons.mpr ⟨gok_77, ?_⟩
  refine List.forall_mem_cons.mpr ⟨gok_78, ?_⟩
  refine List.forall_mem_cons.mpr ⟨gok_79, ?_⟩
  refine List.forall_mem_cons.mpr ⟨gok_80, ?_⟩
  refine List.forall_mem_cons.mpr ⟨gok_81, ?_⟩
  refine List.forall_mem_cons.mpr ⟨gok_82, ?_⟩
  refine List.forall_mem_cons.mpr ⟨gok_83, ?_⟩
  refine List.forall_mem_cons.mpr ⟨gok_84, ?_⟩
  refine List.forall_mem_cons.mpr ⟨gok_85, ?_⟩
  refine List.forall_mem_cons.mpr ⟨gok_86, ?_⟩
  refine List.forall_mem_cons.mpr ⟨gok_87, ?_⟩
  refine List.forall_mem_cons.mpr ⟨gok_88, ?_⟩
  refine List.forall_mem_cons.mpr ⟨gok_89, ?_⟩
  refine List.forall_mem_cons.mpr ⟨gok_90, ?_⟩
  refine List.forall_mem_cons.mpr ⟨gok_91, ?_⟩
  refine List.forall_mem_cons.mpr ⟨gok_92, ?_⟩
  refine List.forall_mem_cons.mpr ⟨gok_93, ?_⟩
  refine List.forall_mem_cons.mpr ⟨gok_94, ?_⟩
  refine List.forall_mem_cons.mpr ⟨gok_95, ?_⟩
  refine List.forall_mem_cons.mpr ⟨gok_96, ?_⟩
  refine List.forall_mem_cons.mpr ⟨gok_97, ?_⟩
  refine List.forall_mem_cons.mpr ⟨gok_98, ?_⟩
  refine List.forall_mem_cons.mpr ⟨gok_99, ?_⟩
  refine List.forall_mem_cons.mpr ⟨gok_100, ?_⟩
  refine List.forall_mem_cons.mpr ⟨gok_101, ?_⟩
  refine List.forall_mem_cons.mpr ⟨gok_102, ?_⟩
  refine List.forall_mem_cons.mpr ⟨gok_103, ?_⟩
  refine List.forall_mem_cons.mpr ⟨gok_104, ?_⟩
  refine List.forall_mem_cons.mpr ⟨gok_105, ?_⟩
  refine List.forall_mem_cons.mpr ⟨gok_106, ?_⟩
  refine List.forall_mem_cons.mpr ⟨gok_107, ?_⟩
  refine List.forall_mem_cons.mpr ⟨gok_108, ?_⟩
  refine List.forall_mem_cons.mpr ⟨gok_109, ?_⟩
  refine List.forall_mem_cons.mpr ⟨gok_110, ?_⟩
  refine List.forall_mem_cons.mpr ⟨gok_111, ?_⟩
  refine List.forall_mem_cons.mpr ⟨gok_112, ?_⟩
  refine List.forall_mem_cons.mpr ⟨gok_113, ?_⟩
  refine List.forall_mem_cons.mpr ⟨gok_114, ?_⟩
  refine List.forall_mem_cons.mpr ⟨gok_115, ?_⟩
  refine List.forall_mem_cons.mpr ⟨gok_116, ?_⟩
  refine List.forall_mem_cons.mpr ⟨gok_117, ?_⟩
  refine List.forall_mem_cons.mpr ⟨gok_118, ?_⟩
  refine List.forall_mem_cons.mpr ⟨gok_119, ?_⟩
  refine List.forall_mem_cons.mpr ⟨gok_120, ?_⟩
  refine List.forall_mem_cons.mpr ⟨gok_121, ?_⟩
  refine List.forall_mem_cons.mpr ⟨gok_122, ?_⟩
  refine List.forall_mem_cons.mpr ⟨gok_123, ?_⟩
  refine List.forall_mem_cons.mpr ⟨gok_124, ?_⟩
  refine List.forall_mem_cons.mpr ⟨gok_125, ?_⟩
  refine List.forall_mem_cons.mpr ⟨gok_126, ?_⟩
  refine List.forall_mem_cons.mpr ⟨gok_127, ?_⟩
  refine List.forall_mem_cons.mpr ⟨gok_128, ?_⟩
  refine List.forall_mem_cons.mpr ⟨gok_129, ?_⟩
  refine List.forall_mem_cons.mpr ⟨gok_130, ?_⟩
  refine List.forall_mem_cons.mpr ⟨gok_131, ?_⟩
  refine List.forall_mem_cons.mpr ⟨gok_132, ?_⟩
  refine List.forall_mem_cons.mpr ⟨gok_133, ?_⟩
  refine List.forall_mem_cons.mpr ⟨gok_134, ?_⟩
  refine List.forall_mem_cons.mpr ⟨gok_135, ?_⟩
  refine List.forall_mem_cons.mpr ⟨gok_136, ?_⟩
  refine List.forall_mem_cons.mpr ⟨gok_137, ?_⟩
  refine List.forall_mem_cons.mpr ⟨gok_138, ?_⟩
  refine List.forall_mem_cons.mpr ⟨gok_139, ?_⟩
  refine List.forall_mem_cons.mpr ⟨gok_140, ?_⟩
  refine List.forall_mem_cons.mpr ⟨gok_141, ?_⟩
  refine List.forall_mem_cons.mpr ⟨gok_142, ?_⟩
  refine List.forall_mem_cons.mpr ⟨gok_143, ?_⟩
  refine List.forall_mem_cons.mpr ⟨gok_144, ?_⟩
  refine List.forall_mem_cons.mpr ⟨gok_145, ?_⟩
  refine List.forall_mem_cons.mpr ⟨gok_146, ?_⟩
  refine List.forall_mem_cons.mpr ⟨gok_147, ?_⟩
  refine List.forall_mem_cons.mpr ⟨gok_148, ?_⟩
  refine List.forall_mem_cons.mpr ⟨gok_149, ?_⟩
  refine List.forall_mem_cons.mpr ⟨gok_150, ?_⟩
  refine List.forall_mem_cons.mpr ⟨gok_151, ?_⟩
  refine List.forall_mem_cons.mpr ⟨gok_152, ?_⟩
  refine List.forall_mem_cons.mpr ⟨gok_153, ?_⟩
  refine List.forall_mem_cons.mpr ⟨gok_154, ?_⟩
  refine List.forall_mem_cons.mpr ⟨gok_155, ?_⟩
  refine List.forall_mem_cons.mpr ⟨gok_156, ?_⟩
  refine List.forall_mem_cons.mpr ⟨gok_157, ?_⟩
  refine List.forall_mem_cons.mpr ⟨gok_158, ?_⟩
  refine List.forall_mem_cons.mpr ⟨gok_159, ?_⟩
  refine List.forall_mem_cons.mpr ⟨gok_160, ?_⟩
  refine List.forall_mem_cons.mpr ⟨gok_161, ?_⟩
  refine List.forall_mem_cons.mpr ⟨gok_162, ?_⟩
  refine List.forall_mem_cons.mpr ⟨gok_163, ?_⟩
  refine List.forall_mem_cons.mpr ⟨gok_164, ?_⟩
  refine List.forall_mem_cons.mpr ⟨gok_165, ?_⟩
  refine List.forall_mem_cons.mpr ⟨gok_166, ?_⟩
  refine List.forall_mem_cons.mpr ⟨gok_167, ?_⟩
  refine List.forall_mem_cons.mpr ⟨gok_168, ?_⟩
  refine List.forall_mem_cons.mpr ⟨gok_169, ?_⟩
  refine List.forall_mem_cons.mpr ⟨gok_170, ?_⟩
  refine List.forall_mem_cons.mpr ⟨gok_171, ?_⟩
  refine List.forall_mem_cons.mpr ⟨gok_172, ?_⟩
  refine List.forall_mem_cons.mpr ⟨gok_173, ?_⟩
  refine List.forall_mem_cons.mpr ⟨gok_174, ?_⟩
  refine List.forall_mem_cons.mpr ⟨gok_175, ?_⟩
  refine List.forall_mem_cons.mpr ⟨gok_176, ?_⟩
  refine List.forall_mem_cons.mpr ⟨gok_177, ?_⟩
  refine List.forall_mem_cons.mpr ⟨gok_178, ?_⟩
  refine List.forall_mem_cons.mpr ⟨gok_179, ?_⟩
  refine List.forall_mem_cons.mpr ⟨gok_180, ?_⟩
  refine List.forall_mem_cons.mpr ⟨gok_181, ?_⟩
  refine List.forall_mem_cons.mpr ⟨gok_182, ?_⟩
  refine List.forall_mem_cons.mpr ⟨gok_183, ?_⟩
  refine List.forall_mem_cons.mpr ⟨gok_184, ?_⟩
  refine List.forall_mem_cons.mpr ⟨gok_185, ?_⟩
  refine List.forall_mem_cons.mpr ⟨gok_186, ?_⟩
  refine List.forall_mem_cons.mpr ⟨gok_187, ?_⟩
  refine List.forall_mem_cons.mpr ⟨gok_188, ?_⟩
  refine List.forall_mem_cons.mpr ⟨gok_189, ?_⟩
  refine List.forall_mem_cons.mpr ⟨gok_190, ?_⟩
  refine List.forall_mem_cons.mpr ⟨gok_191, ?_⟩
  refine List.forall_mem_cons.mpr ⟨gok_192, ?_⟩
  refine List.forall_mem_cons.mpr ⟨gok_193, ?_⟩
  refine List.forall_mem_cons.mpr ⟨gok_194, ?_⟩
  refine List.forall_mem_cons.mpr ⟨gok_195, ?_⟩
  refine List.forall_mem_cons.mpr ⟨gok_196, ?_⟩
  refine List.forall_mem_cons.mpr ⟨gok_197, ?_⟩
  refine List.forall_mem_cons.mpr ⟨gok_198, ?_⟩
  refine List.forall_mem_cons.mpr ⟨gok_199, ?_⟩
  refine List.forall_mem_cons.mpr ⟨gok_200, ?_⟩
  refine List.forall_mem_cons.mpr ⟨gok_201, ?_⟩
  refine List.forall_mem_cons.mpr ⟨gok_202, ?_⟩
  refine List.forall_mem_cons.mpr ⟨gok_203, ?_⟩
  refine List.forall_mem_cons.mpr ⟨gok_204, ?_⟩
  refine List.forall_mem_cons.mpr ⟨gok_205, ?_⟩
  refine List.forall_mem_cons.mpr ⟨gok_206, ?_⟩
  refine List.forall_mem_cons.mpr ⟨gok_207, ?_⟩
  refine List.forall_mem_cons.mpr ⟨gok_208, ?_⟩
  refine List.forall_mem_cons.mpr ⟨gok_209, ?_⟩
  refine List.forall_mem_cons.mpr ⟨gok_210, ?_⟩
  refine List.forall_mem_cons.mpr ⟨gok_211, ?_⟩
  refine List.forall_mem_cons.mpr ⟨gok_212, ?_⟩
  refine List.forall_mem_cons.mpr ⟨gok_213, ?_⟩
  refine List.forall_mem_cons.mpr ⟨gok_214, ?_⟩
  refine List.forall_mem_cons.mpr ⟨gok_215, ?_⟩
  refine List.forall_mem_cons.mpr ⟨gok_216, ?_⟩
  refine List.forall_mem_cons.mpr ⟨gok_217, ?_⟩
  refine List.forall_mem_cons.mpr ⟨gok_218, ?_⟩
  refine List.forall_mem_cons.mpr ⟨gok_219, ?_⟩
  refine List.forall_mem_cons.mpr ⟨gok_220, ?_⟩
  refine List.forall_mem_cons.mpr ⟨gok_221, ?_⟩
  refine List.forall_mem_cons.mpr ⟨gok_222, ?_⟩
  refine List.forall_mem_cons.mpr ⟨gok_223, ?_⟩
  refine List.forall_mem_cons.mpr ⟨gok_224, ?_⟩
  refine List.forall_mem_cons.mpr ⟨gok_225, ?_⟩
  refine List.forall_mem_cons.mpr ⟨gok_226, ?_⟩
  refine List.forall_mem_cons.mpr ⟨gok_227, ?_⟩
  refine List.forall_mem_cons.mpr ⟨gok_228, ?_⟩
  refine List.forall_mem_cons.mpr ⟨gok_229, ?_⟩
  refine List.forall_mem_cons.mpr ⟨gok_230, ?_⟩
  refine List.forall_mem_cons.mpr ⟨gok_231, ?_⟩
  refine List.forall_mem_cons.mpr ⟨gok_232, ?_⟩
  refine List.forall_mem_cons.mpr ⟨gok_233, ?_⟩
  refine List.forall_mem_cons.mpr ⟨gok_234, ?_⟩
  refine List.forall_mem_cons.mpr ⟨gok_235, ?_⟩
  refine List.forall_mem_cons.mpr ⟨gok_236, ?_⟩
  refine List.forall_mem_cons.mpr ⟨gok_237, ?_⟩
  refine List.forall_mem_cons.mpr ⟨gok_238, ?_⟩
  refine List.forall_mem_cons.mpr ⟨gok_239, ?_⟩
  refine List.forall_mem_cons.mpr ⟨gok_240, ?_⟩
  exact fun _ h => absurd h List.not_mem_nil
def gfb (q : Nat × Nat × Nat × Nat × Nat) : Bool := match gnth gcl q.2.2.1 with
  | some r => gix q.2.2.2.2 (.fieldLink (gnm q.1) q.2.1 (r.2.1 q.2.2.2.1).1 (r.2.1 q.2.2.2.1).2.1 (r.2.1 q.2.2.2.1).2.2.1)
  | none => false
def gfbI (q : Nat × Nat × Nat × Nat × Nat) : Bool := gfb q && (match gnth gcl q.2.2.1 with
  | some r => !(r.2.1 q.2.2.2.1).2.2.2 && decide (parseFieldDescriptor (r.2.1 q.2.2.2.1).2.2.1 = some (cond (gZf q.2.2.1 q.2.2.2.1) .boolean .int)) && decide ((gdf q.2.2.1)[q.2.2.2.1]? = some none)
  | none => false)
def gfbR (q : Nat × Nat × Nat × Nat × Nat) : Bool := gfb q && (match gnth gcl q.2.2.1 with
  | some r => (r.2.1 q.2.2.2.1).2.2.2 && (decide ((r.2.1 q.2.2.2.1).1 = gnm q.1) && (match parseFieldDescriptor (r.2.1 q.2.2.2.1).2.2.1 with
      | some (.object _) => true
      | some (.array _) => true
      | _ => false) && decide ((gdf q.2.2.1)[q.2.2.2.1]? = some (some none)))
  | none => false)
theorem gFL_all : gFL.all gfb = true := by decide +kernel
theorem gPI_all : gPI.all gfbI = true := by decide +kernel
theorem gPR_all : gPR.all gfbR = true := by decide +kernel
/-- a call's words; kind 3 (a nest mate's constructor): its link is in the state's environment -/
def gmlB (e : Nat × Nat × Nat × Nat × Nat × Nat × Nat × Nat) : Bool := match gnth gtab e.2.2.1 with
  | some x => (match e.2.2.2.1 with
      | 0 => gix e.2.2.2.2.1 (.methodLink (gnm e.1) e.2.1 x.1.1) && (gix e.2.2.2.2.2.1 (.static x.1.1) && gix e.2.2.2.2.2.2.1 (.initialized x.1.1.cls))
      | 1 => gix e.2.2.2.2.1 (.methodLink (gnm e.1) e.2.1 x.1.1) && (gix e.2.2.2.2.2.1 (.instanceMethod x.1.1) && (gix e.2.2.2.2.2.2.1 (.selects x.1.1.cls x.1.1 x.1.1) && (gix e.2.2.2.2.2.2.2 (.initialized x.1.1.cls) && decide ((gnth gcl x.2.2.1.1).map (fun r => r.1) = some x.1.1.cls))))
      | 2 => gix e.2.2.2.2.1 (.methodLink (gnm e.1) e.2.1 x.1.1) && (gix e.2.2.2.2.2.1 (.instanceMethod x.1.1) && (gix e.2.2.2.2.2.2.2 (.initialized x.1.1.cls) && x.2.1.2))
      | 3 => gix e.2.2.2.2.2.1 (.instanceMethod x.1.1) && (gix e.2.2.2.2.2.2.2 (.initialized x.1.1.cls) && x.2.1.2)
      | _ => false)
  | none => false
set_option maxRecDepth 100000 in
theorem gML_all : gML.all gmlB = true := by decide +kernel
def gckB (q : Nat × Nat × Nat × Nat × Nat × Nat) : Bool := match gnth gcl q.2.2.1 with
  | some r => gix q.2.2.2.1 (.classLink (gnm q.1) q.2.1 r.1) && (gix q.2.2.2.2.1 (.instantiable r.1 r.2.2) && (gix q.2.2.2.2.2 (.initialized r.1) && (Nat.beq (gdf q.2.2.1).length r.2.2 && (List.range r.2.2).all (fun k => match parseFieldDescriptor (r.2.1 k).2.2.1, (gdf q.2.2.1).getD k none with
      | some .int, none => true
      | some .boolean, none => true
      | some (.object _), some none => true
      | some (.array _), some none => true
      | _, _ => false))))
  | none => false
theorem gCK_all : gCK.all gckB = true := by decide +kernel
def galB (q : Nat × Nat × Nat × Nat) : Bool := match gnth gcl (q.2.2.1 - 3) with
  | some r => gix q.2.2.2 (.classLink (gnm q.1) q.2.1 r.1) && (Nat.beq q.2.2.1 10 || Nat.beq q.2.2.1 12)
  | none => false
theorem gAL_all : gAL.all galB = true := by decide +kernel
theorem gCO_all : gCO.all (fun q => gix q.2.2.2 (.constant (gnm q.1) q.2.1 q.2.2.1)) = true := by decide +kernel
theorem gLO_all : gLO.all (fun q => gix q.2.2.2 (.constantLong (gnm q.1) q.2.1 q.2.2.1.toInt64)) = true := by decide +kernel
theorem gMA_all : gMA.all (fun q => match q.2.2.1 with
  | 3 => gix q.2.2.2 (.methodLink (gnm q.1) q.2.1 Lib.Math.max.name)
  | 4 => gix q.2.2.2 (.methodLink (gnm q.1) q.2.1 Lib.Math.min.name)
  | 5 => gix q.2.2.2 (.methodLink (gnm q.1) q.2.1 Lib.Math.abs.name)
  | _ => false) = true := by decide +kernel
theorem gSX_all : gSX.all (fun e => match e.2.2.1 with
  | 1 => gix e.2.2.2.1 (.methodLink (gnm e.1) e.2.1 yJ0_length_8abf5) && (gix e.2.2.2.2.1 (.instanceMethod yJ0_length_8abf5) && (gix e.2.2.2.2.2.1 (.selects "java/lang/String" yJ0_length_8abf5 yJ0_length_8abf5) && gix e.2.2.2.2.2.2 (.initialized "java/lang/String")))
  | 2 => gix e.2.2.2.1 (.methodLink (gnm e.1) e.2.1 yJ0_charAt_5068e) && (gix e.2.2.2.2.1 (.instanceMethod yJ0_charAt_5068e) && (gix e.2.2.2.2.2.1 (.selects "java/lang/String" yJ0_charAt_5068e yJ0_charAt_5068e) && gix e.2.2.2.2.2.2 (.initialized "java/lang/String")))
  | _ => false) = true := by decide +kernel
theorem gOI_all : gOI.all (fun q => gix q.2.2 (.methodLink (gnm q.1) q.2.1 objectInit)) = true := by decide +kernel
theorem gAC_all : gAC.all (fun q => gix q.2.2 (.methodLink (gnm q.1) q.2.1 arraycopyName)) = true := by decide +kernel
theorem gW_oi : Cond.instanceMethod objectInit ∈ gT := gix_mem (i := 97) (by decide +kernel)
theorem gW_oc : Cond.code objectInit ⟨#[0xb1]⟩ 1 none ∈ gT := gix_mem (i := 98) (by decide +kernel)
theorem gW_an : Cond.native arraycopyName ∈ gT := gix_mem (i := 976) (by decide +kernel)
theorem gW_as : Cond.static arraycopyName ∈ gT := gix_mem (i := 975) (by decide +kernel)
theorem gW_ai : Cond.initialized "java/lang/System" ∈ gT := gix_mem (i := 90) (by decide +kernel)
theorem gW_ci : Cond.arrayClass .int ∈ gT := gix_mem (i := 159) (by decide +kernel)
theorem gW_cz : Cond.arrayClass .boolean ∈ gT := gix_mem (i := 272) (by decide +kernel)
theorem gW_cj : Cond.arrayClass .long ∈ gT := gix_mem (i := 453) (by decide +kernel)
theorem gW_m3 : Cond.static Lib.Math.max.name ∈ gT ∧ Cond.code Lib.Math.max.name Lib.Math.max.code 2 (some .int) ∈ gT := ⟨gix_mem (i := 742) (by decide +kernel), gix_mem (i := 743) (by decide +kernel)⟩
theorem gW_m4 : Cond.static Lib.Math.min.name ∈ gT ∧ Cond.code Lib.Math.min.name Lib.Math.min.code 2 (some .int) ∈ gT := ⟨gix_mem (i := 604) (by decide +kernel), gix_mem (i := 605) (by decide +kernel)⟩
theorem gW_m5 : Cond.static Lib.Math.abs.name ∈ gT ∧ Cond.code Lib.Math.abs.name Lib.Math.abs.code 1 (some .int) ∈ gT := ⟨gix_mem (i := 780) (by decide +kernel), gix_mem (i := 781) (by decide +kernel)⟩
theorem gW_mi : Cond.initialized "java/lang/Math" ∈ gT := gix_mem (i := 85) (by decide +kernel)
end
section
/-! ===== the abstract machine: resolved instructions over worlds by ids ===== -/
/-- a cell by its shape: a row of ints (kind 0), booleans (1), longs (2) with a length; a row of references (kind, what it holds); an object (class, per field: a number, null, a cell) -/
abbrev gE : Type := (Nat × Nat) ⊕ ((Nat × List (Option Nat)) ⊕ (Nat × List (Option (Option Nat))))
/-- the numbers: ints and longs, by cell and place -/
abbrev gM : Type := (Nat → Nat → Int32) × (Nat → Nat → Int64)
abbrev gH : Type := (Nat → Option gE) × Nat
abbrev gS : Type := gH × gM
abbrev gL : Type := List (Option Value)
abbrev gPost : Type := Option Value → gS → Prop
def gup (N : Nat → Nat → Int32) (a i : Nat) (x : Int32) : Nat → Nat → Int32 := fun p q => if p = a then (if q = i then x else N a q) else N p q
def gupL (N : Nat → Nat → Int64) (a i : Nat) (x : Int64) : Nat → Nat → Int64 := fun p q => if p = a then (if q = i then x else N a q) else N p q
def grow {α : Type} (N : Nat → Nat → α) (a : Nat) (f : Nat → α) : Nat → Nat → α := fun p => if p = a then f else N p
def gsh (S : Nat → Option gE) (a : Nat) (e : gE) : Nat → Option gE := fun p => if p = a then some e else S p
def gib (i : Int32) (n : Nat) : Bool := decide (0 ≤ i) && decide (i.toNatClampNeg < n)
theorem gib_in {i : Int32} {n : Nat} (h : gib i n = true) : vp_in i n := by
  unfold gib at h
  rw [Bool.and_eq_true, decide_eq_true_eq, decide_eq_true_eq] at h
  rintro (q | q)
  · exact Int32.not_lt.mpr h.1 q
  · omega
/-- locals: set (a long's first half that is overwritten is gone), read, cut -/
def gset : gL → Nat → Value → gL
  | [], _, _ => []
  | _ :: l, 0, v => some v :: l
  | a :: l, 1, v => (match a with
      | some (.long _) => none
      | some (.double _) => none
      | a => a) :: gset l 0 v
  | a :: l, n + 2, v => a :: gset l (n + 1) v
def gnon : gL → Nat → gL
  | [], _ => []
  | _ :: l, 0 => none :: l
  | a :: l, n + 1 => a :: gnon l n
def gset2 (l : gL) (i : Nat) (v : Value) : gL := gnon (gset l i v) (i + 1)
def gget : gL → Nat → Option Value
  | [], _ => none
  | a :: _, 0 => a
  | _ :: l, n + 1 => gget l n
def gcut : gL → Nat → gL
  | [], _ => []
  | _ :: l, 0 => none :: gcut l 0
  | a :: l, n + 1 => a :: gcut l n
def gkeep (l : gL) : Nat → gL
  | 0 => l
  | n + 1 => gcut l (n + 1)
def gpop : Nat → List Value → List Value → Option (List Value × List Value)
  | 0, acc, st => some (acc, st)
  | _ + 1, _, [] => none
  | n + 1, acc, v :: st => gpop n (v :: acc) st
/-- locals at a method's entry -/
def gent : Nat → List Value → gL
  | n, [] => List.replicate n none
  | 0, _ => []
  | 1, v :: _ => [some v]
  | n + 2, v :: as => match v with
      | .long x => some (.long x) :: none :: gent n as
      | .double _ => []
      | v => some v :: gent (n + 1) as
def gfv (m : gM) (id k : Nat) : Option (Option Nat) → Value
  | none => .int (m.1 id k)
  | some none => .null
  | some (some t) => .ref t
def gcmp (c : Jvm.ClassFile.Cond) (x y : Int32) (A B : Prop) : Prop := match c with
  | .eq => if x = y then A else B
  | .ne => if x = y then B else A
  | .lt => if x < y then A else B
  | .ge => if x < y then B else A
  | .gt => if y < x then A else B
  | .le => if y < x then B else A
def gsw (x : Int32) (A : Nat → Prop) : List (Int × Int) → Nat → Prop
  | [], d => A d
  | (v, t) :: l, d => if x = Int32.ofInt v then A t.toNat else gsw x A l d
/-- String constants: their bytes -/
def gstrs : List (List Int32) := [[110, 101, 97, 114], [97, 112, 97, 114, 116], [101, 97, 99, 104], [97, 99, 114, 101], [115, 104, 117, 116], [101, 120, 99, 101, 112, 116], [102, 114, 111, 109]]
def gslen (j : Nat) : Nat := (gstrs.getD j []).length
def gsch (j i : Nat) : Int32 := (gstrs.getD j []).getD i 0
def gcpy (N : Nat → Nat → Int32) (a b sp dp n : Nat) : Nat → Nat → Int32 := grow N b (va_cpy (N a) (N b) sp dp n)
def gmax (x y : Int32) : Int32 := if x < y then y else x
def gmin (x y : Int32) : Int32 := if y < x then y else x
def gabs (x : Int32) : Int32 := if 0 ≤ x then x else 0 - x
/-- a call: its cost is there, the rest of the stack is short -/
def gw : List Value → Nat
  | [] => 0
  | v :: st => v.category + gw st
def gcan (c1 c2 : Nat) (bd : Nat × Nat) (st : List Value) : Bool := Nat.ble c1 bd.1 && (Nat.ble c2 bd.2 && Nat.ble (gw st) 8)
/-- one instruction; k goes on at (pc, locals, stack, state, budget) -/
def gstep (C : Nat → List Value → gS → Option Value × gS → Prop) (mi : Nat → Option (Nat × Nat × Nat × Nat)) (df : Nat → List (Option (Option Nat))) (ins : Instr) (nx : Nat) (v : Int32) (ls : gL) (st : List Value) (s : gS) (bd : Nat × Nat) (post : gPost) (k : Nat → gL → List Value → gS → Nat × Nat → Prop) : Prop :=
  match ins with
  | .iconst _ => k nx ls (.int v :: st) s bd
  | .lconst _ => k nx ls (.long v.toInt64 :: st) s bd
  | .ldc j => k nx ls (.retAddr j :: st) s bd
  | .iload i => match gget ls i with
      | some (.int x) => k nx ls (.int x :: st) s bd
      | _ => False
  | .lload i => match gget ls i with
      | some (.long x) => k nx ls (.long x :: st) s bd
      | _ => False
  | .aload i => match gget ls i with
      | some (.ref x) => k nx ls (.ref x :: st) s bd
      | some (.retAddr x) => k nx ls (.retAddr x :: st) s bd
      | _ => False
  | .istore i => match st with
      | .int x :: st => k nx (gset ls i (.int x)) st s bd
      | _ => False
  | .lstore i => match st with
      | .long x :: st => k nx (gset2 ls i (.long x)) st s bd
      | _ => False
  | .astore i => match st with
      | .ref x :: st => k nx (gset ls i (.ref x)) st s bd
      | _ => False
  | .iinc i _ => match gget ls i with
      | some (.int x) => k nx (gset ls i (.int (x + v))) st s bd
      | _ => False
  | .iadd => match st with
      | .int y :: .int x :: st => k nx ls (.int (x + y) :: st) s bd
      | _ => False
  | .isub => match st with
      | .int y :: .int x :: st => k nx ls (.int (x - y) :: st) s bd
      | _ => False
  | .imul => match st with
      | .int y :: .int x :: st => k nx ls (.int (x * y) :: st) s bd
      | _ => False
  | .iand => match st with
      | .int y :: .int x :: st => k nx ls (.int (x &&& y) :: st) s bd
      | _ => False
  | .ior => match st with
      | .int y :: .int x :: st => k nx ls (.int (x ||| y) :: st) s bd
      | _ => False
  | .ixor => match st with
      | .int y :: .int x :: st => k nx ls (.int (x ^^^ y) :: st) s bd
      | _ => False
  | .idiv => match st with
      | .int y :: .int x :: st => if y = 0 then False else k nx ls (.int (x / y) :: st) s bd
      | _ => False
  | .irem => match st with
      | .int y :: .int x :: st => if y = 0 then False else k nx ls (.int (x - x / y * y) :: st) s bd
      | _ => False
  | .ineg => match st with
      | .int x :: st => k nx ls (.int (-x) :: st) s bd
      | _ => False
  | .ishl => match st with
      | .int y :: .int x :: st => k nx ls (.int (x <<< (y &&& 31)) :: st) s bd
      | _ => False
  | .ishr => match st with
      | .int y :: .int x :: st => k nx ls (.int (x >>> (y &&& 31)) :: st) s bd
      | _ => False
  | .i2l => match st with
      | .int x :: st => k nx ls (.long x.toInt64 :: st) s bd
      | _ => False
  | .l2i => match st with
      | .long x :: st => k nx ls (.int x.toInt32 :: st) s bd
      | _ => False
  | .i2b => match st with
      | .int x :: st => k nx ls (.int x.toInt8.toInt32 :: st) s bd
      | _ => False
  | .i2s => match st with
      | .int x :: st => k nx ls (.int x.toInt16.toInt32 :: st) s bd
      | _ => False
  | .ladd => match st with
      | .long y :: .long x :: st => k nx ls (.long (x + y) :: st) s bd
      | _ => False
  | .lmul => match st with
      | .long y :: .long x :: st => k nx ls (.long (x * y) :: st) s bd
      | _ => False
  | .ldiv => match st with
      | .long y :: .long x :: st => if y = 0 then False else k nx ls (.long (x / y) :: st) s bd
      | _ => False
  | .lshr => match st with
      | .int y :: .long x :: st => k nx ls (.long (x >>> (y.toInt64 &&& 63)) :: st) s bd
      | _ => False
  | .lushr => match st with
      | .int y :: .long x :: st => k nx ls (.long (x.toUInt64 >>> (y.toInt64.toUInt64 &&& Int64.toUInt64 63)).toInt64 :: st) s bd
      | _ => False
  | .lcmp => match st with
      | .long y :: .long x :: st => k nx ls (.int (lg_cmp x y) :: st) s bd
      | _ => False
  | .dup => match st with
      | .int x :: st => k nx ls (.int x :: .int x :: st) s bd
      | .ref x :: st => k nx ls (.ref x :: .ref x :: st) s bd
      | _ => False
  | .dup2 => match st with
      | .int x :: .ref y :: st => k nx ls (.int x :: .ref y :: .int x :: .ref y :: st) s bd
      | _ => False
  | .pop => match st with
      | .int _ :: st => k nx ls st s bd
      | _ => False
  | .ifCond c t => match st with
      | .int x :: st => gcmp c x 0 (k t.toNat ls st s bd) (k nx ls st s bd)
      | _ => False
  | .if_icmp c t => match st with
      | .int y :: .int x :: st => gcmp c x y (k t.toNat ls st s bd) (k nx ls st s bd)
      | _ => False
  | .ifnonnull t => match st with
      | .ref _ :: st => k t.toNat ls st s bd
      | .null :: st => k nx ls st s bd
      | _ => False
  | .goto t => k t.toNat ls st s bd
  | .lookupswitch d ps => match st with
      | .int x :: st => gsw x (fun t => k t ls st s bd) ps.toList d.toNat
      | _ => False
  | .invokeinterface ci f => match st with
      | .ref a :: st => match s.1.1 a with
          | some (.inr (.inr (c, fs))) => cond (Nat.beq c ci) (match fs[f]? with
              | some e => k nx ls (gfv s.2 a f e :: st) s bd
              | none => False) False
          | _ => False
      | _ => False
  | .multianewarray ci f => match st with
      | .int x :: .ref a :: st => match s.1.1 a with
          | some (.inr (.inr (c, fs))) => cond (Nat.beq c ci) (match fs[f]?, (df ci)[f]? with
              | some none, some none => cond (gZf ci f) (if x = 0 ∨ x = 1 then k nx ls st (s.1, gup s.2.1 a f x, s.2.2) bd else False) (k nx ls st (s.1, gup s.2.1 a f x, s.2.2) bd)
              | _, _ => False) False
          | _ => False
      | .ref t :: .ref a :: st => match s.1.1 a with
          | some (.inr (.inr (c, fs))) => cond (Nat.beq c ci) (match fs[f]?, (df ci)[f]? with
              | some (some _), some (some _) => k nx ls st ((gsh s.1.1 a (.inr (.inr (c, fs.set f (some (some t))))), s.1.2), s.2) bd
              | _, _ => False) False
          | _ => False
      | _ => False
  | .iaload => match st with
      | .int i :: .ref a :: st => match s.1.1 a with
          | some (.inl (0, n)) => cond (gib i n) (k nx ls (.int (s.2.1 a i.toNatClampNeg) :: st) s bd) False
          | _ => False
      | _ => False
  | .baload => match st with
      | .int i :: .ref a :: st => match s.1.1 a with
          | some (.inl (1, n)) => cond (gib i n) (k nx ls (.int (s.2.1 a i.toNatClampNeg) :: st) s bd) False
          | _ => False
      | _ => False
  | .laload => match st with
      | .int i :: .ref a :: st => match s.1.1 a with
          | some (.inl (2, n)) => cond (gib i n) (k nx ls (.long (s.2.2 a i.toNatClampNeg) :: st) s bd) False
          | _ => False
      | _ => False
  | .aaload => match st with
      | .int i :: .ref a :: st => match s.1.1 a with
          | some (.inr (.inl (kd, l))) => cond (Nat.beq kd 10 || Nat.beq kd 12) (cond (gib i l.length) (match l.getD i.toNatClampNeg none with
              | some t => k nx ls (.ref t :: st) s bd
              | none => k nx ls (.null :: st) s bd) False) False
          | _ => False
      | _ => False
  | .iastore => match st with
      | .int x :: .int i :: .ref a :: st => match s.1.1 a with
          | some (.inl (0, n)) => cond (gib i n) (k nx ls st (s.1, gup s.2.1 a i.toNatClampNeg x, s.2.2) bd) False
          | _ => False
      | _ => False
  | .bastore => match st with
      | .int x :: .int i :: .ref a :: st => match s.1.1 a with
          | some (.inl (1, n)) => cond (gib i n) (if x = 0 ∨ x = 1 then k nx ls st (s.1, gup s.2.1 a i.toNatClampNeg x, s.2.2) bd else False) False
          | _ => False
      | _ => False
  | .lastore => match st with
      | .long x :: .int i :: .ref a :: st => match s.1.1 a with
          | some (.inl (2, n)) => cond (gib i n) (k nx ls st (s.1, s.2.1, gupL s.2.2 a i.toNatClampNeg x) bd) False
          | _ => False
      | _ => False
  | .aastore => match st with
      | .ref t :: .int i :: .ref a :: st => match s.1.1 a with
          | some (.inr (.inl (kd, l))) => cond (gib i l.length) (match s.1.1 t with
              | some (.inr (.inr (c, _))) => cond (Nat.beq kd (c + 3) && (Nat.beq kd 10 || Nat.beq kd 12)) (k nx ls st ((gsh s.1.1 a (.inr (.inl (kd, l.set i.toNatClampNeg (some t)))), s.1.2), s.2) bd) False
              | _ => False) False
          | _ => False
      | _ => False
  | .arraylength => match st with
      | .ref a :: st => match s.1.1 a with
          | some (.inl (0, n)) => k nx ls (.int (Int32.ofNat n) :: st) s bd
          | _ => False
      | _ => False
  | .new ci => cond (Nat.ble 1 bd.1 && Nat.ble (df ci).length bd.2) (k nx ls (.ref s.1.2 :: st) ((gsh s.1.1 s.1.2 (.inr (.inr (ci, df ci))), s.1.2 + 1), grow s.2.1 s.1.2 (fun _ => 0), s.2.2) (bd.1 - 1, bd.2 - (df ci).length)) False
  | .newarray t => match st with
      | .int n :: st => match t with
          | .int => cond (decide (0 ≤ n) && Nat.ble 1 bd.1 && Nat.ble n.toNatClampNeg bd.2 && Nat.ble n.toNatClampNeg 8000) (k nx ls (.ref s.1.2 :: st) ((gsh s.1.1 s.1.2 (.inl (0, n.toNatClampNeg)), s.1.2 + 1), grow s.2.1 s.1.2 (fun _ => 0), s.2.2) (bd.1 - 1, bd.2 - n.toNatClampNeg)) False
          | .boolean => cond (decide (0 ≤ n) && Nat.ble 1 bd.1 && Nat.ble n.toNatClampNeg bd.2 && Nat.ble n.toNatClampNeg 8000) (k nx ls (.ref s.1.2 :: st) ((gsh s.1.1 s.1.2 (.inl (1, n.toNatClampNeg)), s.1.2 + 1), grow s.2.1 s.1.2 (fun _ => 0), s.2.2) (bd.1 - 1, bd.2 - n.toNatClampNeg)) False
          | .long => cond (decide (0 ≤ n) && Nat.ble 1 bd.1 && Nat.ble n.toNatClampNeg bd.2 && Nat.ble n.toNatClampNeg 8000) (k nx ls (.ref s.1.2 :: st) ((gsh s.1.1 s.1.2 (.inl (2, n.toNatClampNeg)), s.1.2 + 1), s.2.1, grow s.2.2 s.1.2 (fun _ => 0)) (bd.1 - 1, bd.2 - n.toNatClampNeg)) False
          | _ => False
      | _ => False
  | .anewarray kd => match st with
      | .int n :: st => cond (decide (0 ≤ n) && Nat.ble 1 bd.1 && Nat.ble n.toNatClampNeg bd.2 && Nat.ble n.toNatClampNeg 8000) (k nx ls (.ref s.1.2 :: st) ((gsh s.1.1 s.1.2 (.inr (.inl (kd, List.replicate n.toNatClampNeg none))), s.1.2 + 1), s.2) (bd.1 - 1, bd.2 - n.toNatClampNeg)) False
      | _ => False
  | .invokestatic q => match mi q with
      | some (_, n, c1, c2) => (match gpop n [] st with
          | some (as, st) => cond (gcan c1 c2 bd st) (∃ r, C q as s r ∧ k nx ls (r.1.toList ++ st) r.2 (bd.1 - c1, bd.2 - c2)) False
          | none => False)
      | none => False
  | .invokevirtual q => match mi q with
      | some (ci, n, c1, c2) => (match gpop n [] st with
          | some (as, .ref a :: st) => (match s.1.1 a with
              | some (.inr (.inr (c, _))) => cond (Nat.beq c ci) (cond (gcan c1 c2 bd st) (∃ r, C q (.ref a :: as) s r ∧ k nx ls (r.1.toList ++ st) r.2 (bd.1 - c1, bd.2 - c2)) False) False
              | _ => False)
          | _ => False)
      | none => False
  | .invokespecial q => match mi q with
      | some (_, n, c1, c2) => (match gpop n [] st with
          | some (as, .ref a :: st) => cond (gcan c1 c2 bd st) (∃ r, C q (.ref a :: as) s r ∧ k nx ls (r.1.toList ++ st) r.2 (bd.1 - c1, bd.2 - c2)) False
          | _ => False)
      | none => (match st with
          | .ref _ :: st => cond (gcan 0 0 bd st) (k nx ls st s bd) False
          | _ => False)
  | .invokedynamic q => match q with
      | 0 => (match st with
          | .int n :: .int dp :: .ref b :: .int sp :: .ref a :: st => (match s.1.1 a, s.1.1 b with
              | some (.inl (0, n0)), some (.inl (0, n1)) => cond (gcan 0 0 bd st && decide (0 ≤ sp) && decide (0 ≤ dp) && decide (0 ≤ n) && Nat.ble (sp.toNatClampNeg + n.toNatClampNeg) n0 && Nat.ble (dp.toNatClampNeg + n.toNatClampNeg) n1) (k nx ls st (s.1, gcpy s.2.1 a b sp.toNatClampNeg dp.toNatClampNeg n.toNatClampNeg, s.2.2) bd) False
              | _, _ => False)
          | _ => False)
      | 1 => (match st with
          | .retAddr j :: st => cond (gcan 0 0 bd st) (∃ r, C 900 [.retAddr j] s r ∧ k nx ls (r.1.toList ++ st) r.2 bd) False
          | _ => False)
      | 2 => (match st with
          | .int i :: .retAddr j :: st => cond (gcan 0 0 bd st) (∃ r, C 901 [.retAddr j, .int i] s r ∧ k nx ls (r.1.toList ++ st) r.2 bd) False
          | _ => False)
      | 3 => (match st with
          | .int y :: .int x :: st => cond (gcan 0 0 bd st) (k nx ls (.int (gmax x y) :: st) s bd) False
          | _ => False)
      | 4 => (match st with
          | .int y :: .int x :: st => cond (gcan 0 0 bd st) (k nx ls (.int (gmin x y) :: st) s bd) False
          | _ => False)
      | 5 => (match st with
          | .int x :: st => cond (gcan 0 0 bd st) (k nx ls (.int (gabs x) :: st) s bd) False
          | _ => False)
      | _ => False
  | .ireturn => match st with
      | [.int x] => post (some (.int x)) s
      | _ => False
  | .freturn => match st with
      | [.int x] => if x = 0 ∨ x = 1 then post (some (.int x)) s else False
      | _ => False
  | .lreturn => match st with
      | [.long x] => post (some (.long x)) s
      | _ => False
  | .areturn => match st with
      | [.retAddr x] => post (some (.retAddr x)) s
      | _ => False
  | .return_ => match st with
      | [] => post none s
      | _ => False
  | _ => False
def gexec (C : Nat → List Value → gS → Option Value × gS → Prop) (mi : Nat → Option (Nat × Nat × Nat × Nat)) (df : Nat → List (Option (Option Nat))) (code : gC) (post : gPost) : Nat → Nat → gL → List Value → gS → Nat × Nat → Prop
  | 0, _, _, _, _, _ => False
  | n + 1, pc, ls, st, s, bd => match code pc with
      | none => False
      | some (ins, nx, v, kp) => gstep C mi df ins nx v (gkeep ls kp) st s bd post (gexec C mi df code post n)
/-- method q of the table at depth d: from (arguments, state) to (answer, state) -/
def gR (mi : Nat → Option (Nat × Nat × Nat × Nat)) (df : Nat → List (Option (Option Nat))) (cd : Nat → Option (Nat × gC)) : Nat → Nat → List Value → gS → Option Value × gS → Prop
  | 0, _, _, _, _ => False
  | d + 1, q, as, s, r => match mi q, cd q with
      | some (_, _, c1, c2), some (mx, code) => (lg_sl as).length ≤ mx ∧ ∃ n, gexec (gR mi df cd d) mi df code (fun v t => (v, t) = r) n 0 (gent mx as) [] s (c1, c2)
      | _, _ => match q, as with
          | 900, [.retAddr j] => j < 7 ∧ 4 ≤ d + 1 ∧ r = (some (.int (Int32.ofNat (gslen j))), s)
          | 901, [.retAddr j, .int i] => j < 7 ∧ 4 ≤ d + 1 ∧ gib i (gslen j) = true ∧ r = (some (.int (gsch j i.toNatClampNeg)), s)
          | _, _ => False
end
section
/-! ===== worlds by ids, and the heap: what an instruction does to both ===== -/
def genc (b : Nat) (str : Nat → Nat) : Value → Value
  | .ref id => .ref (b + id)
  | .retAddr j => .ref (str j)
  | v => v
abbrev gtys (ax : Nat → ClassId) : List (ClassId × FieldType) := [(ax 0, .int), (ax 1, .boolean), (ax 2, .long), (ax 12, .object RX9), (ax 10, .object RX7)]
def gclP (r : vw_C) : Prop := (∀ w ∈ u_ws r.1 r.2.1 r.2.2, w ∈ gT) ∧ ∃ ty : Nat → FieldType, (∀ k, k < r.2.2 → parseFieldDescriptor (r.2.1 k).2.2.1 = some (ty k)) ∧ ∀ a, a < r.2.2 → ∀ b, b < r.2.2 → a ≠ b → (r.2.1 a).2.1 ≠ (r.2.1 b).2.1
theorem gcl_ok : ∀ r ∈ gcl, gclP r := by
  refine List.forall_mem_cons.mpr ⟨⟨gT_all gin0 (by decide +kernel), tyX0, tyX0_ok, nmX0⟩, ?_⟩
  refine List.forall_mem_cons.mpr ⟨⟨gT_all gin1 (by decide +kernel), tyX1, tyX1_ok, nmX1⟩, ?_⟩
  refine List.forall_mem_cons.mpr ⟨⟨gT_all gin2 (by decide +kernel), tyX2, tyX2_ok, nmX2⟩, ?_⟩
  refine List.forall_mem_cons.mpr ⟨⟨gT_all gin3 (by decide +kernel), tyX3, tyX3_ok, nmX3⟩, ?_⟩
  refine List.forall_mem_cons.mpr ⟨⟨gT_all gin4 (by decide +kernel), tyX4, tyX4_ok, nmX4⟩, ?_⟩
  refine List.forall_mem_cons.mpr ⟨⟨gT_all gin5 (by decide +kernel), tyX5, tyX5_ok, nmX5⟩, ?_⟩
  refine List.forall_mem_cons.mpr ⟨⟨gT_all gin6 (by decide +kernel), tyX6, tyX6_ok, nmX6⟩, ?_⟩
  refine List.forall_mem_cons.mpr ⟨⟨gT_all gin7 (by decide +kernel), tyX7, tyX7_ok, nmX7⟩, ?_⟩
  refine List.forall_mem_cons.mpr ⟨⟨gT_all gin8 (by decide +kernel), tyX8, tyX8_ok, nmX8⟩, ?_⟩
  refine List.forall_mem_cons.mpr ⟨⟨gT_all gin9 (by decide +kernel), tyX9, tyX9_ok, nmX9⟩, ?_⟩
  refine List.forall_mem_cons.mpr ⟨⟨gT_all gin10 (by decide +kernel), tyX10, tyX10_ok, nmX10⟩, ?_⟩
  refine List.forall_mem_cons.mpr ⟨⟨gT_all gin11 (by decide +kernel), tyX11, tyX11_ok, nmX11⟩, ?_⟩
  refine List.forall_mem_cons.mpr ⟨⟨gT_all gin12 (by decide +kernel), tyX12, tyX12_ok, nmX12⟩, ?_⟩
  exact fun _ h => absurd h List.not_mem_nil
def gav (m : gM) (id k j : Nat) : Value := if k = 2 then .long (m.2 id j) else .int (m.1 id j)
def gcell (D : va_G) (ax : Nat → ClassId) (str : Nat → Nat) (b : Nat) (m : gM) (id : Nat) (H : Heap) : gE → Prop
  | .inl (k, n) => H[b + id]? = some (arrV (ax k) n (gav m id k))
  | .inr (.inl (k, l)) => H[b + id]? = some (arrV (ax k) l.length (fun j => genc b str (gfv m id j (some (l.getD j none)))))
  | .inr (.inr (ci, fs)) => ∃ r, gcl[ci]? = some r ∧ fs.length = r.2.2 ∧ t_OB (b + id) (D.1 ci) r.2.2 (D.2 ci) H (fun k => genc b str (gfv m id k (fs.getD k none)))
def gRep (D : va_G) (ax : Nat → ClassId) (str : Nat → Nat) (b : Nat) (q : gS) (H : Heap) : Prop := H.size = b + q.1.2 ∧ ∀ id e, q.1.1 id = some e → gcell D ax str b q.2 id H e
theorem gav_congr {m m' : gM} {id : Nat} (h1 : m'.1 id = m.1 id) (h2 : m'.2 id = m.2 id) (k : Nat) : gav m' id k = gav m id k := by
  funext j
  simp only [gav, h1, h2]
theorem gfv_congr {m m' : gM} {id : Nat} (h1 : m'.1 id = m.1 id) (k : Nat) (e : Option (Option Nat)) : gfv m' id k e = gfv m id k e := by
  rcases e with _ | _ | t
  · simp only [gfv, h1]
  · rfl
  · rfl
theorem gcell.kept {D : va_G} {ax : Nat → ClassId} {str : Nat → Nat} {b : Nat} {m m' : gM} {id : Nat} {H H1 : Heap} {e : gE} (h : gcell D ax str b m id H e) (hq : H1[b + id]? = H[b + id]?) (h1 : m'.1 id = m.1 id) (h2 : m'.2 id = m.2 id) : gcell D ax str b m' id H1 e := by
  rcases e with ⟨k, n⟩ | ⟨k, lx⟩ | ⟨ci, fs⟩
  · show H1[b + id]? = _
    rw [hq, gav_congr h1 h2]
    exact h
  · show H1[b + id]? = _
    rw [hq]
    have h9 : (fun j => genc b str (gfv m' id j (some (lx.getD j none)))) = fun j => genc b str (gfv m id j (some (lx.getD j none))) := by
      funext j
      rw [gfv_congr h1]
    rw [h9]
    exact h
  · obtain ⟨r, g1, g2, g3⟩ := h
    exact ⟨r, g1, g2, (g3.kept hq).to (fun k _ => by rw [gfv_congr h1])⟩
theorem gcell.lt {D : va_G} {ax : Nat → ClassId} {str : Nat → Nat} {b : Nat} {m : gM} {id : Nat} {H : Heap} {e : gE} (h : gcell D ax str b m id H e) : b + id < H.size := by
  rcases e with ⟨k, n⟩ | ⟨k, lx⟩ | ⟨ci, fs⟩
  · exact (Array.getElem?_eq_some_iff.mp h).1
  · exact (Array.getElem?_eq_some_iff.mp h).1
  · obtain ⟨r, g1, g2, cell, g3, -⟩ := h
    exact (Array.getElem?_eq_some_iff.mp g3).1
theorem gRep.put {D : va_G} {ax : Nat → ClassId} {str : Nat → Nat} {b : Nat} {q q' : gS} {H H1 : Heap} (id : Nat) (h : gRep D ax str b q H) (hz : H1.size = H.size) (ho : ∀ x : Nat, x ≠ b + id → H1[x]? = H[x]?) (hn : q'.1.2 = q.1.2)
    (hnew : ∀ e, q'.1.1 id = some e → gcell D ax str b q'.2 id H1 e) (hold : ∀ j, j ≠ id → q'.1.1 j = q.1.1 j) (hm : ∀ j, j ≠ id → q'.2.1 j = q.2.1 j ∧ q'.2.2 j = q.2.2 j) : gRep D ax str b q' H1 := by
  refine ⟨by rw [hz, hn]; exact h.1, fun j e he => ?_⟩
  by_cases hj : j = id
  · subst hj
    exact hnew e he
  · rw [hold j hj] at he
    exact (h.2 j e he).kept (ho _ (by omega)) (hm j hj).1 (hm j hj).2
theorem gRep.born {D : va_G} {ax : Nat → ClassId} {str : Nat → Nat} {b : Nat} {q q' : gS} {H H1 : Heap} (e0 : gE) (h : gRep D ax str b q H) (hz : H1.size = H.size + 1) (ho : ∀ x : Nat, x < H.size → H1[x]? = H[x]?) (hn : q'.1.2 = q.1.2 + 1)
    (hs : q'.1.1 = gsh q.1.1 q.1.2 e0) (hnew : gcell D ax str b q'.2 q.1.2 H1 e0) (hm : ∀ j, j ≠ q.1.2 → q'.2.1 j = q.2.1 j ∧ q'.2.2 j = q.2.2 j) : gRep D ax str b q' H1 := by
  refine ⟨by rw [hz, hn, h.1]; omega, fun j e he => ?_⟩
  rw [hs] at he
  unfold gsh at he
  by_cases hj : j = q.1.2
  · rw [if_pos hj] at he
    cases he
    rw [hj]
    exact hnew
  · rw [if_neg hj] at he
    have := h.2 j e he
    exact this.kept (ho _ this.lt) (hm j hj).1 (hm j hj).2
section GR
variable {p : Program} {l : Launch} {e : Env} {R : Room} {s : State} {m : MethodId} {args : Array Value} {below : List Frame} {meth : Method} {c : Code} {H H0 : Heap} {locs : List Loc} {cells slots : Nat} {Q : State → Prop}
variable {cc : ByteArray} {pc : Nat} {ls : Array Slot} {rest : List Value} {D : va_G} {ax : Nat → ClassId} {str : Nat → Nat} {b : Nat} {A : Nat → Prop} {q : gS} {id : Nat} {Ts : List Cond} {own : String}
theorem g_get (hx : p.tables.exec = Jvm.exec) (hb : c.code = cc) (hts : ∀ w ∈ Ts, w.before args s = true) (hT : ∀ w ∈ gT, w ∈ Ts) (hown : s.vm.findClass own = some m.cls) (hK : va_K D gcl (gtys ax) s) (hR : gRep D ax str b q H) {ci index k : Nat} {fs : List (Option (Option Nat))} (hs : q.1.1 id = some (.inr (.inr (ci, fs)))) {C : String} {T : u_T} {N : Nat} (hc : gcl[ci]? = some (C, T, N)) {f : Option (Option Nat)} (hf : fs[k]? = some f)
    (hlink : (Cond.fieldLink own index (T k).1 (T k).2.1 (T k).2.2.1).before args s = true) (hdg : decode cc pc = .ok (.getfield index, 3))
    (kk : W p l e R s m args below meth c H locs cells slots Q (F0 m (pc + 3) ls (genc b str (gfv q.2 id k f) :: rest))) : W p l e R s m args below meth c H locs cells slots Q (F0 m pc ls (.ref (b + id) :: rest)) := by
  obtain ⟨r, h1, hl, cell, q1, q2, q3, q4⟩ := hR.2 id _ hs
  have hr : r = (C, T, N) := Option.some.inj (h1.symm.trans hc)
  subst hr
  have hl : fs.length = N := hl
  have hk : k < N := by rw [← hl]; exact (List.getElem?_eq_some_iff.mp hf).1
  obtain ⟨hin, -⟩ := gcl_ok _ (List.mem_of_getElem? hc)
  obtain ⟨hS, hfc, kC, hkC, hkind⟩ := hK.1 ci _ hc
  obtain ⟨cf, kf, fi, fd, hi, hsl⟩ := hS k hk
  refine W.getf hx hb hown hlink hi (u_facts hfc hkC (u_lays hts (fun w h => hT w (hin w h)) hk) hi).1 q1 (by rw [q3]; exact fun h => by cases h) (v := genc b str (gfv q.2 id k f)) ?_ rfl rfl hdg kk
  rw [hsl, q4 k hk]
  simp [List.getD_eq_getElem?_getD, hf]
theorem g_put0 (hx : p.tables.exec = Jvm.exec) (hb : c.code = cc) (hts : ∀ w ∈ Ts, w.before args s = true) (hT : ∀ w ∈ gT, w ∈ Ts) (hown : s.vm.findClass own = some m.cls) (hK : va_K D gcl (gtys ax) s) (hR : gRep D ax str b q H) (hSv : va_S A H0 H locs) (hAq : A (b + id)) {ci index k : Nat} {fs : List (Option (Option Nat))} (hs : q.1.1 id = some (.inr (.inr (ci, fs)))) {C : String} {T : u_T} {N : Nat} (hc : gcl[ci]? = some (C, T, N)) (hk : k < fs.length)
    (hlink : (Cond.fieldLink own index (T k).1 (T k).2.1 (T k).2.2.1).before args s = true) (hfin : (T k).2.2.2 = false ∨ ((T k).2.2.2 = true ∧ meth.name = "<init>" ∧ (T k).1 = own)) {ty : FieldType} {v : Value} (hd : parseFieldDescriptor (T k).2.2.1 = some ty) (hn : narrow ty v = v) (hfit : fits ty v = true) (hdg : decode cc pc = .ok (.putfield index, 3))
    (kk : ∀ (H1 : Heap) (locs1 : List Loc), H1.size = H.size → (∀ x : Nat, x ≠ b + id → H1[x]? = H[x]?) → t_OB (b + id) (D.1 ci) N (D.2 ci) H1 (updV (fun k => genc b str (gfv q.2 id k (fs.getD k none))) k v) → va_S A H0 H1 locs1 → W p l e R s m args below meth c H1 locs1 cells slots Q (F0 m (pc + 3) ls rest)) : W p l e R s m args below meth c H locs cells slots Q (F0 m pc ls (v :: .ref (b + id) :: rest)) := by
  obtain ⟨r, h1, hl, cell, q1, q2, q3, q4⟩ := hR.2 id _ hs
  have hr : r = (C, T, N) := Option.some.inj (h1.symm.trans hc)
  subst hr
  have hl : fs.length = N := hl
  have hk : k < N := by rw [← hl]; exact hk
  obtain ⟨hin, ty0, hty, hnm⟩ := gcl_ok _ (List.mem_of_getElem? hc)
  have hin' : ∀ w ∈ u_ws C T N, w ∈ Ts := fun w h => hT w (hin w h)
  have hap := va_apart (own := own) hts hin' ty0 hty hnm hK hc
  obtain ⟨hS, hfc, kC, hkC, hkind⟩ := hK.1 ci _ hc
  obtain ⟨cf, kf, fi, f, hi, hsl⟩ := hS k hk
  have hlay := hts _ (hin' _ (u_in_lay hk))
  unfold u_lay at hlay
  have hst := (u_facts hfc hkC (u_lays hts hin' hk) hi).1
  rcases hfin with hfin | ⟨hfin, hin2, hdecl⟩
  · rw [if_neg (by rw [hfin]; decide)] at hlay
    have h6 := u_store hfc hkC hkind hlay hi hd hn hfit
    refine W.putK hx hb (f := f) ⟨hown, hlink, ⟨_, _, _, hi⟩, hst⟩ (by rw [q2]; exact h6) q1 q3 (by rw [hsl]; exact k2_hasslot (q4 k hk)) rfl rfl hdg fun H' e1 e2 e3 => ?_
    rw [hsl] at e1 ⊢
    exact kk H' _ e2 e3 ⟨_, e1, q2, q3, t_set q4 hap hk v⟩ (hSv.put e2 e3 hAq)
  · rw [if_pos hfin] at hlay
    have hcf : m.cls = cf := by
      obtain ⟨_, _, c', _, _, _, -, -, hf', -, -, -, hown2, -⟩ := Cond.laysFinal_spec hlay
      have e1 : c' = cf := by have := hi.symm.trans hf'; simp at this; exact this.1.symm
      rw [hdecl] at hown2
      rw [← e1]; exact Option.some.inj (hown.symm.trans hown2)
    have h6 := u_fits hfc hkC hkind (Or.inr hlay) hi hd hn hfit
    refine W.putFinK hx hb hown hlink hi hst hcf hin2 (by rw [q2]; exact h6) q1 q3 (by rw [hsl]; exact k2_hasslot (q4 k hk)) rfl rfl hdg fun H' e1 e2 e3 => ?_
    rw [hsl] at e1 ⊢
    exact kk H' _ e2 e3 ⟨_, e1, q2, q3, t_set q4 hap hk v⟩ (hSv.put e2 e3 hAq)
theorem g_putI (hx : p.tables.exec = Jvm.exec) (hb : c.code = cc) (hts : ∀ w ∈ Ts, w.before args s = true) (hT : ∀ w ∈ gT, w ∈ Ts) (hown : s.vm.findClass own = some m.cls) (hK : va_K D gcl (gtys ax) s) (hR : gRep D ax str b q H) (hSv : va_S A H0 H locs) (hAq : A (b + id)) {ci index k : Nat} {fs : List (Option (Option Nat))} (hs : q.1.1 id = some (.inr (.inr (ci, fs)))) {C : String} {T : u_T} {N : Nat} (hc : gcl[ci]? = some (C, T, N)) (hf : fs[k]? = some none)
    (hlink : (Cond.fieldLink own index (T k).1 (T k).2.1 (T k).2.2.1).before args s = true) (hfin : (T k).2.2.2 = false) {ty : FieldType} {x : Int32} (hd : parseFieldDescriptor (T k).2.2.1 = some ty) (hn : narrow ty (.int x) = .int x) (hfit : fits ty (.int x) = true) (hdg : decode cc pc = .ok (.putfield index, 3))
    (kk : ∀ (H1 : Heap) (locs1 : List Loc), gRep D ax str b (q.1, gup q.2.1 id k x, q.2.2) H1 → va_S A H0 H1 locs1 → W p l e R s m args below meth c H1 locs1 cells slots Q (F0 m (pc + 3) ls rest)) : W p l e R s m args below meth c H locs cells slots Q (F0 m pc ls (.int x :: .ref (b + id) :: rest)) := by
  have hl : k < fs.length := (List.getElem?_eq_some_iff.mp hf).1
  refine g_put0 hx hb hts hT hown hK hR hSv hAq hs hc hl hlink (Or.inl hfin) hd hn hfit hdg fun H1 locs1 z o hO hS1 => ?_
  refine kk H1 locs1 (hR.put id z o rfl (fun e1 he => ?_) (fun _ _ => rfl) (fun j hj => ⟨by funext y; simp [gup, hj], rfl⟩)) hS1
  have he1 : e1 = .inr (.inr (ci, fs)) := Option.some.inj (he.symm.trans hs)
  subst he1
  obtain ⟨r, h1, hl1, -⟩ := hR.2 id _ hs
  have hr : r = (C, T, N) := Option.some.inj (h1.symm.trans hc)
  subst hr
  refine ⟨_, h1, hl1, hO.to (fun j hj => ?_)⟩
  unfold updV
  by_cases hjk : j = k
  · subst hjk
    rw [if_pos rfl]
    simp [List.getD_eq_getElem?_getD, hf, gfv, gup, genc]
  · rw [if_neg hjk]
    show genc b str (gfv q.2 id j (fs.getD j none)) = genc b str (gfv (gup q.2.1 id k x, q.2.2) id j (fs.getD j none))
    congr 1
    rcases fs.getD j none with _ | _ | t
    · simp [gfv, gup, hjk]
    · rfl
    · rfl
theorem g_putR (hx : p.tables.exec = Jvm.exec) (hb : c.code = cc) (hts : ∀ w ∈ Ts, w.before args s = true) (hT : ∀ w ∈ gT, w ∈ Ts) (hown : s.vm.findClass own = some m.cls) (hK : va_K D gcl (gtys ax) s) (hR : gRep D ax str b q H) (hSv : va_S A H0 H locs) (hAq : A (b + id)) {ci index k t : Nat} {fs : List (Option (Option Nat))} {f0 : Option Nat} (hs : q.1.1 id = some (.inr (.inr (ci, fs)))) {C : String} {T : u_T} {N : Nat} (hc : gcl[ci]? = some (C, T, N)) (hf : fs[k]? = some (some f0))
    (hlink : (Cond.fieldLink own index (T k).1 (T k).2.1 (T k).2.2.1).before args s = true) (hfin : (T k).2.2.2 = true) (hin2 : meth.name = "<init>") (hdecl : (T k).1 = own) {ty : FieldType} (hd : parseFieldDescriptor (T k).2.2.1 = some ty) (hn : narrow ty (.ref (b + t)) = .ref (b + t)) (hfit : fits ty (.ref (b + t)) = true) (hdg : decode cc pc = .ok (.putfield index, 3))
    (kk : ∀ (H1 : Heap) (locs1 : List Loc), gRep D ax str b ((gsh q.1.1 id (.inr (.inr (ci, fs.set k (some (some t))))), q.1.2), q.2) H1 → va_S A H0 H1 locs1 → W p l e R s m args below meth c H1 locs1 cells slots Q (F0 m (pc + 3) ls rest)) : W p l e R s m args below meth c H locs cells slots Q (F0 m pc ls (.ref (b + t) :: .ref (b + id) :: rest)) := by
  have hl : k < fs.length := (List.getElem?_eq_some_iff.mp hf).1
  refine g_put0 hx hb hts hT hown hK hR hSv hAq hs hc hl hlink (Or.inr ⟨hfin, hin2, hdecl⟩) hd hn hfit hdg fun H1 locs1 z o hO hS1 => ?_
  refine kk H1 locs1 (hR.put id z o rfl (fun e1 he => ?_) (fun j hj => by simp [gsh, hj]) (fun j hj => ⟨rfl, rfl⟩)) hS1
  have he1 : e1 = .inr (.inr (ci, fs.set k (some (some t)))) := by
    have : gsh q.1.1 id (.inr (.inr (ci, fs.set k (some (some t))))) id = some e1 := he
    simp [gsh] at this
    exact this.symm
  subst he1
  obtain ⟨r, h1, hl1, -⟩ := hR.2 id _ hs
  have hr : r = (C, T, N) := Option.some.inj (h1.symm.trans hc)
  subst hr
  refine ⟨_, h1, by rw [List.length_set]; exact hl1, hO.to (fun j hj => ?_)⟩
  unfold updV
  by_cases hjk : j = k
  · subst hjk
    rw [if_pos rfl]
    simp [List.getD_eq_getElem?_getD, hl, gfv, genc]
  · rw [if_neg hjk]
    simp [List.getD_eq_getElem?_getD, List.getElem?_set_ne (Ne.symm hjk)]
theorem g_iald (hx : p.tables.exec = Jvm.exec) (hb : c.code = cc) (hK : va_K D gcl (gtys ax) s) (hR : gRep D ax str b q H) {n : Nat} {i : Int32} (hs : q.1.1 id = some (.inl (0, n))) (hin : gib i n = true) (hdg : decode cc pc = .ok (.iaload, 1))
    (kk : W p l e R s m args below meth c H locs cells slots Q (F0 m (pc + 1) ls (.int (q.2.1 id i.toNatClampNeg) :: rest))) : W p l e R s m args below meth c H locs cells slots Q (F0 m pc ls (.int i :: .ref (b + id) :: rest)) := by
  have hin := gib_in hin
  have hlt : i.toNatClampNeg < n := Nat.not_le.mp fun z => hin (Or.inr z)
  exact W.iald (v := .int (q.2.1 id i.toNatClampNeg)) hx hb (hR.2 id _ hs) ((hK.2 0 _ rfl).1 n _) (fun z => by cases z) (by rw [arrV_size]; exact hin) (by rw [arrV_read _ _ hlt]; rfl) rfl rfl hdg kk
theorem g_zald (hx : p.tables.exec = Jvm.exec) (hb : c.code = cc) (hK : va_K D gcl (gtys ax) s) (hR : gRep D ax str b q H) {n : Nat} {i : Int32} (hs : q.1.1 id = some (.inl (1, n))) (hin : gib i n = true) (hdg : decode cc pc = .ok (.baload, 1))
    (kk : W p l e R s m args below meth c H locs cells slots Q (F0 m (pc + 1) ls (.int (q.2.1 id i.toNatClampNeg) :: rest))) : W p l e R s m args below meth c H locs cells slots Q (F0 m pc ls (.int i :: .ref (b + id) :: rest)) := by
  have hin := gib_in hin
  have hlt : i.toNatClampNeg < n := Nat.not_le.mp fun z => hin (Or.inr z)
  exact W.zald (v := .int (q.2.1 id i.toNatClampNeg)) hx hb (hR.2 id _ hs) ((hK.2 1 _ rfl).1 n _) (fun z => by cases z) (by rw [arrV_size]; exact hin) (by rw [arrV_read _ _ hlt]; rfl) rfl rfl hdg kk
theorem g_lald (hx : p.tables.exec = Jvm.exec) (hb : c.code = cc) (hK : va_K D gcl (gtys ax) s) (hR : gRep D ax str b q H) {n : Nat} {i : Int32} (hs : q.1.1 id = some (.inl (2, n))) (hin : gib i n = true) (hdg : decode cc pc = .ok (.laload, 1))
    (kk : W p l e R s m args below meth c H locs cells slots Q (F0 m (pc + 1) ls (.long (q.2.2 id i.toNatClampNeg) :: rest))) : W p l e R s m args below meth c H locs cells slots Q (F0 m pc ls (.int i :: .ref (b + id) :: rest)) := by
  have hin := gib_in hin
  have hlt : i.toNatClampNeg < n := Nat.not_le.mp fun z => hin (Or.inr z)
  exact W.lald (v := .long (q.2.2 id i.toNatClampNeg)) hx hb (hR.2 id _ hs) ((hK.2 2 _ rfl).1 n _) (fun z => by cases z) (by rw [arrV_size]; exact hin) (by rw [arrV_read _ _ hlt]; rfl) rfl rfl hdg kk
theorem g_kd {kd : Nat} (hK : va_K D gcl (gtys ax) s) (h : kd = 10 ∨ kd = 12) : ∃ (t0 ci : Nat) (r : vw_C), kd = ci + 3 ∧ gcl[ci]? = some r ∧ (gtys ax)[t0]? = some (ax kd, .object r.1) := by
  rcases h with rfl | rfl
  · exact ⟨4, 7, _, rfl, rfl, rfl⟩
  · exact ⟨3, 9, _, rfl, rfl, rfl⟩
theorem g_aald (hx : p.tables.exec = Jvm.exec) (hb : c.code = cc) (hK : va_K D gcl (gtys ax) s) (hR : gRep D ax str b q H) {kd : Nat} {lx : List (Option Nat)} {i : Int32} (hs : q.1.1 id = some (.inr (.inl (kd, lx)))) (hkd : kd = 10 ∨ kd = 12) (hin : gib i lx.length = true) (hdg : decode cc pc = .ok (.aaload, 1))
    (kk : W p l e R s m args below meth c H locs cells slots Q (F0 m (pc + 1) ls (genc b str (gfv q.2 id i.toNatClampNeg (some (lx.getD i.toNatClampNeg none))) :: rest))) : W p l e R s m args below meth c H locs cells slots Q (F0 m pc ls (.int i :: .ref (b + id) :: rest)) := by
  have hin := gib_in hin
  obtain ⟨t0, ci, r, -, -, ht⟩ := g_kd (ax := ax) hK hkd
  have hlt : i.toNatClampNeg < lx.length := Nat.not_le.mp fun z => hin (Or.inr z)
  exact W.aald (v := genc b str (gfv q.2 id i.toNatClampNeg (some (lx.getD i.toNatClampNeg none)))) (ty := .object r.1) hx hb (hR.2 id _ hs) ((hK.2 t0 _ ht).1 lx.length _) rfl (fun z => by cases z) (by rw [arrV_size]; exact hin) (by rw [arrV_read _ _ hlt]) rfl rfl hdg kk
theorem g_alen (hx : p.tables.exec = Jvm.exec) (hb : c.code = cc) (hK : va_K D gcl (gtys ax) s) (hR : gRep D ax str b q H) {n : Nat} (hs : q.1.1 id = some (.inl (0, n))) (hdg : decode cc pc = .ok (.arraylength, 1))
    (kk : W p l e R s m args below meth c H locs cells slots Q (F0 m (pc + 1) ls (.int (Int32.ofNat n) :: rest))) : W p l e R s m args below meth c H locs cells slots Q (F0 m pc ls (.ref (b + id) :: rest)) :=
  W.alen (n := Int32.ofNat n) hx hb (hR.2 id _ hs) ((hK.2 0 _ rfl).1 n _) (by rw [arrV_size]) rfl rfl hdg kk
theorem g_iast (hx : p.tables.exec = Jvm.exec) (hb : c.code = cc) (hK : va_K D gcl (gtys ax) s) (hR : gRep D ax str b q H) (hSv : va_S A H0 H locs) (hAq : A (b + id)) {n : Nat} {i x : Int32} (hs : q.1.1 id = some (.inl (0, n))) (hin : gib i n = true) (hdg : decode cc pc = .ok (.iastore, 1))
    (kk : ∀ (H1 : Heap) (locs1 : List Loc), gRep D ax str b (q.1, gup q.2.1 id i.toNatClampNeg x, q.2.2) H1 → va_S A H0 H1 locs1 → W p l e R s m args below meth c H1 locs1 cells slots Q (F0 m (pc + 1) ls rest)) : W p l e R s m args below meth c H locs cells slots Q (F0 m pc ls (.int x :: .int i :: .ref (b + id) :: rest)) := by
  have hin := gib_in hin
  refine W.iast hx hb (hR.2 id _ hs) ((hK.2 0 _ rfl).1 n _) (fun z => by cases z) (by rw [arrV_size]; exact hin) rfl rfl hdg fun H1 e1 z o => ?_
  refine kk H1 _ (hR.put id z o rfl (fun e9 he => ?_) (fun _ _ => rfl) (fun j hj => ⟨by funext y; simp [gup, hj], rfl⟩)) (hSv.put z o hAq)
  have he1 : e9 = .inl (0, n) := Option.some.inj (he.symm.trans hs)
  subst he1
  show H1[b + id]? = _
  rw [e1, arrV_store]
  congr 2
  funext j
  by_cases hj : j = i.toNatClampNeg
  · simp [updV, gav, gup, hj]
  · simp [updV, gav, gup, hj]
theorem g_zast (hx : p.tables.exec = Jvm.exec) (hb : c.code = cc) (hK : va_K D gcl (gtys ax) s) (hR : gRep D ax str b q H) (hSv : va_S A H0 H locs) (hAq : A (b + id)) {n : Nat} {i x : Int32} (hs : q.1.1 id = some (.inl (1, n))) (hin : gib i n = true) (h01 : x = 0 ∨ x = 1) (hdg : decode cc pc = .ok (.bastore, 1))
    (kk : ∀ (H1 : Heap) (locs1 : List Loc), gRep D ax str b (q.1, gup q.2.1 id i.toNatClampNeg x, q.2.2) H1 → va_S A H0 H1 locs1 → W p l e R s m args below meth c H1 locs1 cells slots Q (F0 m (pc + 1) ls rest)) : W p l e R s m args below meth c H locs cells slots Q (F0 m pc ls (.int x :: .int i :: .ref (b + id) :: rest)) := by
  have hin := gib_in hin
  have hnr : narrow .boolean (.int x) = .int x := by rcases h01 with rfl | rfl <;> rfl
  refine W.zast hx hb (hR.2 id _ hs) ((hK.2 1 _ rfl).1 n _) (fun z => by cases z) (by rw [arrV_size]; exact hin) rfl rfl hdg fun H1 e1 z o => ?_
  refine kk H1 _ (hR.put id z o rfl (fun e9 he => ?_) (fun _ _ => rfl) (fun j hj => ⟨by funext y; simp [gup, hj], rfl⟩)) (hSv.put z o hAq)
  have he1 : e9 = .inl (1, n) := Option.some.inj (he.symm.trans hs)
  subst he1
  show H1[b + id]? = _
  rw [e1, hnr, arrV_store]
  congr 2
  funext j
  by_cases hj : j = i.toNatClampNeg
  · simp [updV, gav, gup, hj]
  · simp [updV, gav, gup, hj]
theorem g_last (hx : p.tables.exec = Jvm.exec) (hb : c.code = cc) (hK : va_K D gcl (gtys ax) s) (hR : gRep D ax str b q H) (hSv : va_S A H0 H locs) (hAq : A (b + id)) {n : Nat} {i : Int32} {x : Int64} (hs : q.1.1 id = some (.inl (2, n))) (hin : gib i n = true) (hdg : decode cc pc = .ok (.lastore, 1))
    (kk : ∀ (H1 : Heap) (locs1 : List Loc), gRep D ax str b (q.1, q.2.1, gupL q.2.2 id i.toNatClampNeg x) H1 → va_S A H0 H1 locs1 → W p l e R s m args below meth c H1 locs1 cells slots Q (F0 m (pc + 1) ls rest)) : W p l e R s m args below meth c H locs cells slots Q (F0 m pc ls (.long x :: .int i :: .ref (b + id) :: rest)) := by
  have hin := gib_in hin
  refine W.last hx hb (hR.2 id _ hs) ((hK.2 2 _ rfl).1 n _) (fun z => by cases z) (by rw [arrV_size]; exact hin) rfl rfl hdg fun H1 e1 z o => ?_
  refine kk H1 _ (hR.put id z o rfl (fun e9 he => ?_) (fun _ _ => rfl) (fun j hj => ⟨rfl, by funext y; simp [gupL, hj]⟩)) (hSv.put z o hAq)
  have he1 : e9 = .inl (2, n) := Option.some.inj (he.symm.trans hs)
  subst he1
  show H1[b + id]? = _
  rw [e1, arrV_store]
  congr 2
  funext j
  by_cases hj : j = i.toNatClampNeg
  · simp [updV, gav, gupL, hj]
  · simp [updV, gav, gupL, hj]
theorem g_aast (hx : p.tables.exec = Jvm.exec) (hb : c.code = cc) (hK : va_K D gcl (gtys ax) s) (hR : gRep D ax str b q H) (hSv : va_S A H0 H locs) (hAq : A (b + id)) {kd ci t : Nat} {lx : List (Option Nat)} {fs : List (Option (Option Nat))} {i : Int32} (hs : q.1.1 id = some (.inr (.inl (kd, lx)))) (hkd : kd = ci + 3 ∧ (kd = 10 ∨ kd = 12)) (ht : q.1.1 t = some (.inr (.inr (ci, fs)))) (hin : gib i lx.length = true) (hdg : decode cc pc = .ok (.aastore, 1))
    (kk : ∀ (H1 : Heap) (locs1 : List Loc), gRep D ax str b ((gsh q.1.1 id (.inr (.inl (kd, lx.set i.toNatClampNeg (some t)))), q.1.2), q.2) H1 → va_S A H0 H1 locs1 → W p l e R s m args below meth c H1 locs1 cells slots Q (F0 m (pc + 1) ls rest)) : W p l e R s m args below meth c H locs cells slots Q (F0 m pc ls (.ref (b + t) :: .int i :: .ref (b + id) :: rest)) := by
  have hin := gib_in hin
  obtain ⟨t0, ci', r, h1, hc, hty⟩ := g_kd (ax := ax) hK hkd.2
  have hci : ci' = ci := by omega
  subst hci
  have hlt : i.toNatClampNeg < lx.length := Nat.not_le.mp fun z => hin (Or.inr z)
  have h0 : ¬ i < 0 := fun z => hin (Or.inl z)
  obtain ⟨r', hr', -, cellV, g1, g2, g3, -⟩ := hR.2 t _ ht
  have hcls := (hK.1 ci' r hc).2
  obtain ⟨kA, comp, k1, k2, k3, -⟩ := (hK.2 t0 _ hty).2
  have hcomp : comp = D.1 ci' := Option.some.inj (k3.symm.trans hcls.1)
  subst hcomp
  obtain ⟨kC, hkC, -⟩ := hcls.2
  refine W.aast hx hb (hR.2 id _ hs) (fun z h => by cases h) (fun h => by cases h) k1 k2 rfl hkC ⟨h0, by rw [arrV_size]; exact hlt⟩ g1 (fun z h => by rw [g3] at h; cases h) (by rw [g2]; exact hkC) (by rw [g2]; exact va_assign hcls) rfl rfl hdg fun H1 e1 z o => ?_
  refine kk H1 _ (hR.put id z o rfl (fun e9 he => ?_) (fun j hj => by simp [gsh, hj]) (fun j hj => ⟨rfl, rfl⟩)) (hSv.put z o hAq)
  have he1 : e9 = .inr (.inl (kd, lx.set i.toNatClampNeg (some t))) := by
    have : gsh q.1.1 id (.inr (.inl (kd, lx.set i.toNatClampNeg (some t)))) id = some e9 := he
    simp [gsh] at this
    exact this.symm
  subst he1
  show H1[b + id]? = _
  rw [e1, arrV_store, List.length_set]
  congr 2
  funext j
  by_cases hj : j = i.toNatClampNeg
  · simp [updV, hj, List.getD_eq_getElem?_getD, hlt, gfv, genc]
  · simp [updV, hj, List.getD_eq_getElem?_getD, List.getElem?_set_ne (Ne.symm hj)]
theorem g_new (hx : p.tables.exec = Jvm.exec) (hb : c.code = cc) (hts : ∀ w ∈ Ts, w.before args s = true) (hT : ∀ w ∈ gT, w ∈ Ts) (hown : s.vm.findClass own = some m.cls) (hK : va_K D gcl (gtys ax) s) (hR : gRep D ax str b q H) (hSv : va_S A H0 H locs) {ci index : Nat} {fs : List (Option (Option Nat))} {C : String} {T : u_T} {N : Nat} (hc : gcl[ci]? = some (C, T, N)) (hl : fs.length = N)
    (hdf : ∀ ty : Nat → FieldType, (∀ k, k < N → parseFieldDescriptor (T k).2.2.1 = some (ty k)) → ∀ k, k < N → defaultValue (ty k) = genc b str (gfv (fun _ _ => 0, fun _ _ => 0) 0 k (fs.getD k none)))
    (hcl : (Cond.classLink own index C).before args s = true) (hinst : (Cond.instantiable C N).before args s = true) (hini : (Cond.initialized C).before args s = true) (hcells : cells + 1 ≤ R.cells) (hslots : slots + N ≤ R.slots) (hdg : decode cc pc = .ok (.new index, 3))
    (kk : ∀ H1 : Heap, gRep D ax str b ((gsh q.1.1 q.1.2 (.inr (.inr (ci, fs))), q.1.2 + 1), grow q.2.1 q.1.2 (fun _ => 0), q.2.2) H1 → va_S A H0 H1 locs →
      W p l e R s m args below meth c H1 locs (cells + 1) (slots + N) Q (F0 m (pc + 3) ls (.ref (b + q.1.2) :: rest))) : W p l e R s m args below meth c H locs cells slots Q (F0 m pc ls rest) := by
  have hKn := hK.1 ci _ hc
  obtain ⟨hin, ty0, hty, hnm⟩ := gcl_ok _ (List.mem_of_getElem? hc)
  refine W.newcK hx hb hown hcl hinst hini rfl hdg hcells hslots hKn.2.1 hR.1 fun H1 kC hkC e1 z1 o1 => ?_
  refine kk H1 (hR.born (.inr (.inr (ci, fs))) (by rw [z1, hR.1]) (fun x hx => o1 x (by rw [← hR.1]; exact hx)) rfl rfl ?_ (fun j hj => ⟨by funext y; simp [grow, hj], rfl⟩)) ⟨by rw [z1, ← hR.1]; exact Nat.le_trans hSv.1 (by omega), fun x h1 h2 => (o1 x (by rw [← hR.1]; exact Nat.lt_of_lt_of_le h1 hSv.1)).trans (hSv.2.1 x h1 h2), hSv.2.2⟩
  refine ⟨_, hc, hl, (u_born ty0 hts (fun w h => hT w (hin w h)) hKn hkC e1 hty).to (fun k hk => ?_)⟩
  rw [hdf ty0 hty k hk]
  rcases fs.getD k none with _ | _ | t
  · simp [gfv, grow]
  · rfl
  · rfl
theorem g_newa (hx : p.tables.exec = Jvm.exec) (hb : c.code = cc) (hK : va_K D gcl (gtys ax) s) (hR : gRep D ax str b q H) (hSv : va_S A H0 H locs) {kd : Nat} {atype : ArrayType} (hkd : (kd = 0 ∧ atype = .int) ∨ (kd = 1 ∧ atype = .boolean) ∨ (kd = 2 ∧ atype = .long)) (harr : (Cond.arrayClass (newarray.typeOf atype)).before args s = true) {n : Int32} (hn : ¬ n < 0) (hbig : n.toNatClampNeg ≤ 8000) (hcells : cells + 1 ≤ R.cells) (hslots : slots + n.toNatClampNeg ≤ R.slots) (hdg : decode cc pc = .ok (.newarray atype, 2)) {q' : gS}
    (hq : q' = ((gsh q.1.1 q.1.2 (.inl (kd, n.toNatClampNeg)), q.1.2 + 1), if kd = 2 then (q.2.1, grow q.2.2 q.1.2 (fun _ => 0)) else (grow q.2.1 q.1.2 (fun _ => 0), q.2.2)))
    (kk : ∀ H1 : Heap, gRep D ax str b q' H1 → va_S A H0 H1 locs →
      W p l e R s m args below meth c H1 locs (cells + 1) (slots + n.toNatClampNeg) Q (F0 m (pc + 2) ls (.ref (b + q.1.2) :: rest))) : W p l e R s m args below meth c H locs cells slots Q (F0 m pc ls (.int n :: rest)) := by
  subst hq
  have hbytes : n.toNatClampNeg * componentBytes (newarray.typeOf atype) ≤ 536870912 := by
    rcases hkd with ⟨-, rfl⟩ | ⟨-, rfl⟩ | ⟨-, rfl⟩
    · show n.toNatClampNeg * 4 ≤ _
      omega
    · show n.toNatClampNeg * 1 ≤ _
      omega
    · show n.toNatClampNeg * 8 ≤ _
      omega
  refine va_newaK hx hb harr rfl hdg rfl hn rfl hbytes hcells hslots hR.1 fun H1 cA e1 z1 o1 hAr hNm => ?_
  have hcA : cA = ax kd := by
    rcases hkd with ⟨rfl, rfl⟩ | ⟨rfl, rfl⟩ | ⟨rfl, rfl⟩
    · exact Option.some.inj (hNm.symm.trans (hK.2 0 _ rfl).2)
    · exact Option.some.inj (hNm.symm.trans (hK.2 1 _ rfl).2)
    · exact Option.some.inj (hNm.symm.trans (hK.2 2 _ rfl).2)
  subst hcA
  refine kk H1 (hR.born (.inl (kd, n.toNatClampNeg)) (by rw [z1, hR.1]) (fun x hx => o1 x (by rw [← hR.1]; exact hx)) rfl rfl ?_ (fun j hj => ?_)) ⟨by rw [z1, ← hR.1]; exact Nat.le_trans hSv.1 (by omega), fun x h1 h2 => (o1 x (by rw [← hR.1]; exact Nat.lt_of_lt_of_le h1 hSv.1)).trans (hSv.2.1 x h1 h2), hSv.2.2⟩
  · show H1[b + q.1.2]? = _
    rw [e1]
    congr 2
    funext j
    rcases hkd with ⟨rfl, rfl⟩ | ⟨rfl, rfl⟩ | ⟨rfl, rfl⟩
    · simp [gav, grow, newarray.typeOf, defaultValue]
    · simp [gav, grow, newarray.typeOf, defaultValue]
    · simp [gav, grow, newarray.typeOf, defaultValue]
  · by_cases h2 : kd = 2
    · simp only [h2, if_true]
      exact ⟨trivial, by funext y; simp [grow, hj]⟩
    · simp only [h2, if_false]
      exact ⟨by funext y; simp [grow, hj], trivial⟩
theorem g_anew (hx : p.tables.exec = Jvm.exec) (hb : c.code = cc) (hown : s.vm.findClass own = some m.cls) (hK : va_K D gcl (gtys ax) s) (hR : gRep D ax str b q H) (hSv : va_S A H0 H locs) {kd index : Nat} {C : String} {t0 : Nat} (hty : (gtys ax)[t0]? = some (ax kd, .object C)) (hclink : (Cond.classLink own index C).before args s = true) (hover : va_AO C s) {n : Int32} (hn : ¬ n < 0) (hbig : n.toNatClampNeg ≤ 8000) (hcells : cells + 1 ≤ R.cells) (hslots : slots + n.toNatClampNeg ≤ R.slots) (hdg : decode cc pc = .ok (.anewarray index, 3))
    (kk : ∀ H1 : Heap, gRep D ax str b ((gsh q.1.1 q.1.2 (.inr (.inl (kd, List.replicate n.toNatClampNeg none))), q.1.2 + 1), q.2) H1 → va_S A H0 H1 locs →
      W p l e R s m args below meth c H1 locs (cells + 1) (slots + n.toNatClampNeg) Q (F0 m (pc + 3) ls (.ref (b + q.1.2) :: rest))) : W p l e R s m args below meth c H locs cells slots Q (F0 m pc ls (.int n :: rest)) := by
  refine W.anew hx hb hown hclink (va_AO.use hover) rfl hdg rfl hn (by omega) hcells hslots fun cA kA comp f1 f2 f3 f4 => ?_
  obtain ⟨kA', comp', -, -, -, k4⟩ := (hK.2 t0 _ hty).2
  have hcA : cA = ax kd := Option.some.inj (f1.symm.trans k4)
  subst hcA
  rw [hR.1]
  refine kk _ (hR.born (.inr (.inl (kd, List.replicate n.toNatClampNeg none))) (by rw [Array.size_push]) (fun x hx => by rw [Array.getElem?_push, if_neg (Nat.ne_of_lt hx)]) rfl rfl ?_ (fun j hj => ⟨rfl, rfl⟩)) ⟨by rw [Array.size_push]; exact Nat.le_trans hSv.1 (by omega), fun x h1 h2 => by rw [Array.getElem?_push, if_neg (Nat.ne_of_lt (Nat.lt_of_lt_of_le h1 hSv.1))]; exact hSv.2.1 x h1 h2, hSv.2.2⟩
  show (H.push _)[b + q.1.2]? = _
  rw [← hR.1, Array.getElem?_push_size, arrV_new, List.length_replicate]
  congr 2
  funext j
  have : (List.replicate n.toNatClampNeg (none : Option Nat)).getD j none = none := by
    rw [List.getD_eq_getElem?_getD, List.getElem?_replicate]
    split <;> rfl
  rw [this]
  rfl
theorem g_copy (hx : p.tables.exec = Jvm.exec) (hb : c.code = cc) (hml : c.maxLocals = ls.size) {index : Nat} (hown : s.vm.findClass own = some m.cls) (hlink : (Cond.methodLink own index arraycopyName).before args s = true) (hnat : (Cond.native arraycopyName).before args s = true) (hstat : (Cond.static arraycopyName).before args s = true) (hini : (Cond.initialized "java/lang/System").before args s = true)
    (hK : va_K D gcl (gtys ax) s) (hR : gRep D ax str b q H) (hSv : va_S A H0 H locs) (hAq : A (b + id)) {a0 n0 n1 : Nat} (ha0 : q.1.1 a0 = some (.inl (0, n0))) (ha1 : q.1.1 id = some (.inl (0, n1)))
    {sp dp n : Int32} (h1 : ¬ sp < 0) (h2 : ¬ dp < 0) (h3 : ¬ n < 0) (h4 : sp.toNatClampNeg + n.toNatClampNeg ≤ n0) (h5 : dp.toNatClampNeg + n.toNatClampNeg ≤ n1)
    (hframes : 1 ≤ R.frames) (hlocals : (rest.map fun v => v.category).sum + (nativeFrameWords "java/lang/System" "arraycopy" 5 + 11) ≤ R.locals) (hdg : decode cc pc = .ok (.invokestatic index, 3))
    (kk : ∀ (H1 : Heap) (locs1 : List Loc), gRep D ax str b (q.1, gcpy q.2.1 a0 id sp.toNatClampNeg dp.toNatClampNeg n.toNatClampNeg, q.2.2) H1 → va_S A H0 H1 locs1 → W p l e R s m args below meth c H1 locs1 cells slots Q (F0 m (pc + 3) ls rest)) : W p l e R s m args below meth c H locs cells slots Q (F0 m pc ls (.int n :: .int dp :: .ref (b + id) :: .int sp :: .ref (b + a0) :: rest)) := by
  have nn : ∀ z : Int32, ¬ z < 0 → z.toInt = (z.toNatClampNeg : Int) := by
    intro z hz
    have hz0 : (0 : Int) ≤ z.toInt := by
      have := Int32.not_lt.mp hz
      simpa using Int32.le_iff_toInt_le.mp this
    show z.toInt = ((z.toInt.toNat : Nat) : Int)
    omega
  intro T hT X
  have hc0 : H[b + a0]? = some (vp_cell (ax 0) (n0, .inl (q.2.1 a0))) := hR.2 a0 _ ha0
  have hc1 : H[b + id]? = some (vp_cell (ax 0) (n1, .inl (q.2.1 id))) := hR.2 id _ ha1
  obtain ⟨-, k0, hk0, cm0, hkk0⟩ := (hK.2 0 _ rfl).1 n0 (fun j => .int (q.2.1 a0 j))
  obtain ⟨-, k1, hk1, cm1, hkk1⟩ := (hK.2 0 _ rfl).1 n1 (fun j => .int (q.2.1 id j))
  obtain ⟨vm', X', step⟩ := X.arraycopy hx hown hlink hnat hstat hini (src := b + a0) (dst := b + id) (cs := vp_cell (ax 0) (n0, .inl (q.2.1 a0))) (cd := vp_cell (ax 0) (n1, .inl (q.2.1 id))) (srcPos := sp) (destPos := dp) (n := n) (by rw [hT]; exact hc0) (by rw [hT]; exact hc1)
    (fun _ h => by cases h) (fun _ h => by cases h) (fun h => by cases h) (fun h => by cases h) hk0 hk1 hkk0 hkk1 (by simp [refKind]) h1 h2 h3
    (by rw [nn sp h1, nn n h3]; show ¬ _ > ((arrV (ax 0) n0 (fun j => .int (q.2.1 a0 j))).slots.size : Int); rw [arrV_size]; omega)
    (by rw [nn dp h2, nn n h3]; show ¬ _ > ((arrV (ax 0) n1 (fun j => .int (q.2.1 id j))).slots.size : Int); rw [arrV_size]; omega)
    (fun vm₁ _ i hi => by
      have e : (vp_cell (ax 0) (n0, .inl (q.2.1 a0))).slots.getD (sp.toNatClampNeg + i) .null = .int (q.2.1 a0 (sp.toNatClampNeg + i)) := by
        show (arrV (ax 0) n0 (fun j => .int (q.2.1 a0 j))).slots.getD _ _ = _
        rw [Array.getD_eq_getD_getElem?, arrV_read _ _ (by omega)]
        rfl
      refine ⟨?_, ?_⟩
      · rw [e]
        rfl
      · rw [e]
        exact trivial)
    (g := F0 m pc ls (.int n :: .int dp :: .ref (b + id) :: .int sp :: .ref (b + a0) :: rest)) rfl (by rw [hml]) (rest := rest) rfl (by rw [hb]; exact hdg) hframes (by show 2 * 0 + _ + _ ≤ _; omega)
  have e1 : copied (vp_cell (ax 0) (n0, .inl (q.2.1 a0))) (vp_cell (ax 0) (n1, .inl (q.2.1 id))) sp dp n = vp_cell (ax 0) (n1, .inl (va_cpy (q.2.1 a0) (q.2.1 id) sp.toNatClampNeg dp.toNatClampNeg n.toNatClampNeg)) := va_copied (fun z => .int z) (ax 0) (ax 0) (q.2.1 a0) (q.2.1 id) h4
  rw [e1] at X' step
  have hl : b + id < H.size := (Array.getElem?_eq_some_iff.mp hc1).1
  have hheap : ((T.setVm vm').setCell (b + id) (vp_cell (ax 0) (n1, .inl (va_cpy (q.2.1 a0) (q.2.1 id) sp.toNatClampNeg dp.toNatClampNeg n.toNatClampNeg)))).heap = H.setIfInBounds (b + id) (vp_cell (ax 0) (n1, .inl (va_cpy (q.2.1 a0) (q.2.1 id) sp.toNatClampNeg dp.toNatClampNeg n.toNatClampNeg))) := by rw [← hT]; rfl
  have oq : ∀ x : Nat, x ≠ b + id → (H.setIfInBounds (b + id) (vp_cell (ax 0) (n1, .inl (va_cpy (q.2.1 a0) (q.2.1 id) sp.toNatClampNeg dp.toNatClampNeg n.toNatClampNeg))))[x]? = H[x]? := fun x hq => by simp [Array.getElem?_setIfInBounds, Ne.symm hq]
  have hRep1 : gRep D ax str b (q.1, gcpy q.2.1 a0 id sp.toNatClampNeg dp.toNatClampNeg n.toNatClampNeg, q.2.2) (H.setIfInBounds (b + id) (vp_cell (ax 0) (n1, .inl (va_cpy (q.2.1 a0) (q.2.1 id) sp.toNatClampNeg dp.toNatClampNeg n.toNatClampNeg)))) := by
    refine hR.put id (by simp) oq rfl (fun e9 he => ?_) (fun _ _ => rfl) (fun j hj => ⟨by funext y; simp [gcpy, grow, hj], rfl⟩)
    have he1 : e9 = .inl (0, n1) := Option.some.inj (he.symm.trans ha1)
    subst he1
    show (H.setIfInBounds (b + id) _)[b + id]? = _
    simp only [Array.getElem?_setIfInBounds, hl, if_true]
    rw [vp_cell_i]
    congr 2
    funext j
    simp [gav, gcpy, grow]
  obtain ⟨t, a1, b1⟩ := kk _ _ hRep1 ⟨by simp; exact hSv.1, fun x g1 g2 => by
      rw [oq x (fun e => g2 (by rw [e]; exact hAq))]
      exact hSv.2.1 x g1 g2, fun x hq => by
      rcases List.mem_append.mp hq with h | h
      · exact hSv.2.2 x h
      · obtain ⟨z, -, hz⟩ := List.mem_map.mp h
        rw [← hz]
        exact hAq⟩ _ hheap X'
  exact ⟨t, step t a1, b1⟩
end GR
end
section
/-! ===== soundness: locals, environment ===== -/
def gas (b : Nat) (str : Nat → Nat) : Nat → gL → List (Nat × Value)
  | _, [] => []
  | k, none :: l => gas b str (k + 1) l
  | k, some v :: l => (k, genc b str v) :: gas b str (k + 1) l
theorem gas_mem {b : Nat} {str : Nat → Nat} : ∀ {l : gL} {k : Nat} {x : Nat × Value}, x ∈ gas b str k l → ∃ j v, x = (k + j, genc b str v) ∧ gget l j = some v
  | [], k, x, h => by cases h
  | none :: l, k, x, h => by
    obtain ⟨j, v, h1, h2⟩ := gas_mem (l := l) (k := k + 1) h
    exact ⟨j + 1, v, by rw [h1, show k + 1 + j = k + (j + 1) by omega], h2⟩
  | some w :: l, k, x, h => by
    rcases List.mem_cons.mp h with h | h
    · exact ⟨0, w, h, rfl⟩
    · obtain ⟨j, v, h1, h2⟩ := gas_mem (l := l) (k := k + 1) h
      exact ⟨j + 1, v, by rw [h1, show k + 1 + j = k + (j + 1) by omega], h2⟩
theorem gas_in {b : Nat} {str : Nat → Nat} : ∀ {l : gL} {k j : Nat} {v : Value}, gget l j = some v → (k + j, genc b str v) ∈ gas b str k l
  | [], k, j, v, h => by cases h
  | none :: l, k, 0, v, h => by cases h
  | none :: l, k, j + 1, v, h => by
    have := gas_in (b := b) (str := str) (l := l) (k := k + 1) (j := j) (v := v) h
    rw [show k + (j + 1) = k + 1 + j by omega]
    exact this
  | some w :: l, k, 0, v, h => by
    cases h
    exact List.mem_cons_self
  | some w :: l, k, j + 1, v, h => by
    have := gas_in (b := b) (str := str) (l := l) (k := k + 1) (j := j) (v := v) h
    rw [show k + (j + 1) = k + 1 + j by omega]
    exact List.mem_cons_of_mem _ this
theorem genc_cat (b : Nat) (str : Nat → Nat) (v : Value) : (genc b str v).category = v.category := by cases v <;> rfl
theorem gget_gset : ∀ {l : gL} {i j : Nat} {v w : Value}, gget (gset l i v) j = some w → (j = i ∧ w = v) ∨ (j ≠ i ∧ gget l j = some w ∧ ¬ (j + 1 = i ∧ w.category = 2))
  | [], i, j, v, w, h => by simp [gset, gget] at h
  | a :: l, 0, 0, v, w, h => by
    left
    exact ⟨rfl, (Option.some.inj h).symm⟩
  | a :: l, 0, j + 1, v, w, h => Or.inr ⟨by omega, h, by omega⟩
  | a :: l, 1, 0, v, w, h => by
    right
    refine ⟨by omega, ?_, ?_⟩
    · rcases a with _ | a
      · cases h
      · cases a <;> first | exact h | cases h
    · rcases a with _ | a
      · cases h
      · cases a <;> first | (cases h; done) | (have h2 := Option.some.inj h; subst h2; simp [Value.category])
  | a :: l, 1, j + 1, v, w, h => by
    rcases gget_gset (l := l) (i := 0) (j := j) (v := v) (w := w) h with ⟨h1, h2⟩ | ⟨h1, h2, h3⟩
    · exact Or.inl ⟨by omega, h2⟩
    · exact Or.inr ⟨by omega, h2, by omega⟩
  | a :: l, n + 2, 0, v, w, h => Or.inr ⟨by omega, h, by omega⟩
  | a :: l, n + 2, j + 1, v, w, h => by
    rcases gget_gset (l := l) (i := n + 1) (j := j) (v := v) (w := w) h with ⟨h1, h2⟩ | ⟨h1, h2, h3⟩
    · exact Or.inl ⟨by omega, h2⟩
    · exact Or.inr ⟨by omega, h2, fun z => h3 ⟨by omega, z.2⟩⟩
theorem gget_gnon : ∀ {l : gL} {i j : Nat} {w : Value}, gget (gnon l i) j = some w → j ≠ i ∧ gget l j = some w
  | [], i, j, w, h => by simp [gnon, gget] at h
  | a :: l, 0, 0, w, h => by cases h
  | a :: l, 0, j + 1, w, h => ⟨by omega, h⟩
  | a :: l, n + 1, 0, w, h => ⟨by omega, h⟩
  | a :: l, n + 1, j + 1, w, h => by
    obtain ⟨h1, h2⟩ := gget_gnon (l := l) (i := n) (j := j) h
    exact ⟨by omega, h2⟩
theorem gget_gset2 {l : gL} {i j : Nat} {v w : Value} (h : gget (gset2 l i v) j = some w) : (j = i ∧ w = v) ∨ (j ≠ i ∧ j ≠ i + 1 ∧ gget l j = some w ∧ ¬ (j + 1 = i ∧ w.category = 2)) := by
  obtain ⟨h1, h2⟩ := gget_gnon h
  rcases gget_gset h2 with h3 | ⟨h3, h4, h5⟩
  · exact Or.inl h3
  · exact Or.inr ⟨h3, h1, h4, h5⟩
theorem gget_gcut : ∀ {l : gL} {n j : Nat} {w : Value}, gget (gcut l n) j = some w → gget l j = some w
  | [], n, j, w, h => by simp [gcut, gget] at h
  | a :: l, 0, 0, w, h => by cases h
  | a :: l, 0, j + 1, w, h => gget_gcut (l := l) (n := 0) (j := j) h
  | a :: l, n + 1, 0, w, h => h
  | a :: l, n + 1, j + 1, w, h => gget_gcut (l := l) (n := n) (j := j) h
theorem gkeep_sub {b : Nat} {str : Nat → Nat} {l : gL} {n : Nat} {als : Array Slot} {mx : Nat} (h : lv_has als mx (gas b str 0 l)) : lv_has als mx (gas b str 0 (gkeep l n)) := by
  refine ⟨h.1, h.2.1, fun x hx => ?_⟩
  obtain ⟨j, v, h1, h2⟩ := gas_mem hx
  have h3 : gget l j = some v := by
    cases n with
    | zero => exact h2
    | succ n => exact gget_gcut h2
  rw [h1]
  exact h.2.2 _ (gas_in h3)
theorem gloc {b : Nat} {str : Nat → Nat} {l : gL} {als : Array Slot} {mx i : Nat} {v : Value} (h : lv_has als mx (gas b str 0 l)) (hg : gget l i = some v) : als[i]? = some (.val (genc b str v)) := by
  have := h.2.2 _ (gas_in (k := 0) hg)
  rw [Nat.zero_add] at this
  exact this
theorem gloc_set {b : Nat} {str : Nat → Nat} {l : gL} {als : Array Slot} {mx i : Nat} {v : Value} (h : lv_has als mx ((i, genc b str v) :: (gas b str 0 l).filter (fun q => !(q.1 == i) && !(q.1 + 1 == i && q.2.category == 2)))) : lv_has als mx (gas b str 0 (gset l i v)) := by
  refine ⟨h.1, h.2.1, fun x hx => ?_⟩
  obtain ⟨j, w, h1, h2⟩ := gas_mem hx
  rw [Nat.zero_add] at h1
  rcases gget_gset h2 with ⟨rfl, rfl⟩ | ⟨g1, g2, g3⟩
  · rw [h1]
    exact h.2.2 _ List.mem_cons_self
  · refine h.2.2 _ (List.mem_cons_of_mem _ (List.mem_filter.mpr ⟨?_, ?_⟩))
    · rw [h1, ← Nat.zero_add j]
      exact gas_in g2
    · rw [h1]
      simp only [genc_cat]
      by_cases hc : w.category = 2
      · have : j + 1 ≠ i := fun z => g3 ⟨z, hc⟩
        simp [g1, this]
      · simp [g1, hc]
theorem gloc_set2 {b : Nat} {str : Nat → Nat} {l : gL} {als : Array Slot} {mx i : Nat} {v : Value} (h : lv_has als mx ((i, genc b str v) :: (gas b str 0 l).filter (fun q => !(q.1 == i) && (!(q.1 == i + 1) && !(q.1 + 1 == i && q.2.category == 2))))) : lv_has als mx (gas b str 0 (gset2 l i v)) := by
  refine ⟨h.1, h.2.1, fun x hx => ?_⟩
  obtain ⟨j, w, h1, h2⟩ := gas_mem hx
  rw [Nat.zero_add] at h1
  rcases gget_gset2 h2 with ⟨rfl, rfl⟩ | ⟨g1, g0, g2, g3⟩
  · rw [h1]
    exact h.2.2 _ List.mem_cons_self
  · refine h.2.2 _ (List.mem_cons_of_mem _ (List.mem_filter.mpr ⟨?_, ?_⟩))
    · rw [h1, ← Nat.zero_add j]
      exact gas_in g2
    · rw [h1]
      simp only [genc_cat]
      by_cases hc : w.category = 2
      · have : j + 1 ≠ i := fun z => g3 ⟨z, hc⟩
        simp [g1, g0, this]
      · simp [g1, g0, hc]
theorem gas_none (b : Nat) (str : Nat → Nat) : ∀ (n k : Nat), gas b str k (List.replicate n none) = []
  | 0, _ => rfl
  | n + 1, k => gas_none b str n (k + 1)
theorem gent_sub (b : Nat) (str : Nat → Nat) : ∀ (as : List Value) (n k : Nat), ∀ x ∈ gas b str k (gent n as), x ∈ lv_args k (as.map (genc b str))
  | [], n, k, x, h => by
    have : gent n [] = List.replicate n none := by unfold gent; rfl
    rw [this, gas_none] at h
    cases h
  | v :: as, 0, k, x, h => by cases h
  | v :: as, 1, k, x, h => by
    rcases List.mem_cons.mp h with h | h
    · rw [h]
      exact List.mem_cons_self
    · cases h
  | v :: as, n + 2, k, x, h => by
    cases v with
    | long y =>
      rcases List.mem_cons.mp h with h | h
      · rw [h]
        exact List.mem_cons_self
      · exact List.mem_cons_of_mem _ (gent_sub b str as n (k + 2) x h)
    | double y => cases h
    | _ =>
      rcases List.mem_cons.mp h with h | h
      · rw [h]
        exact List.mem_cons_self
      · exact List.mem_cons_of_mem _ (gent_sub b str as (n + 1) (k + 1) x h)
theorem gpop_spec : ∀ {n : Nat} {acc st as st' : List Value}, gpop n acc st = some (as, st') → ∃ bs, as = bs.reverse ++ acc ∧ st = bs ++ st' ∧ bs.length = n
  | 0, acc, st, as, st', h => by
    cases h
    exact ⟨[], rfl, rfl, rfl⟩
  | n + 1, acc, [], as, st', h => by cases h
  | n + 1, acc, v :: st, as, st', h => by
    obtain ⟨bs, h1, h2, h3⟩ := gpop_spec (n := n) (acc := v :: acc) (st := st) h
    exact ⟨v :: bs, by rw [h1]; simp, by rw [h2]; rfl, by simp [h3]⟩
theorem gw_map (b : Nat) (str : Nat → Nat) : ∀ st : List Value, ((st.map (genc b str)).map fun v => v.category).sum = gw st
  | [] => rfl
  | v :: st => by
    simp only [List.map_cons, List.sum_cons, genc_cat, gw]
    rw [gw_map b str st]
def gstx : List String := ["near", "apart", "each", "acre", "shut", "except", "from"]
/-- what of the tables (and of the String constants) a method takes along -/
def genv (D : va_G) (ax : Nat → ClassId) (str : Nat → Nat) (U : State) : Prop := va_K D gcl (gtys ax) U ∧ (∀ e ∈ gML, e.2.2.2.1 = 3 → ∀ x, gnth gtab e.2.2.1 = some x → va_Nw (.methodLinkNest (gnm e.1) e.2.1 x.1.1 RX11) U) ∧ (va_AO RX9 U ∧ va_AO RX7 U) ∧ ∀ q ∈ gSO, vk_R (gnm q.1) q.2.1 (gstx.getD q.2.2 "") (str q.2.2) U
def gstr (str : Nat → Nat) (b : Nat) (U : State) (H : Heap) : Prop := (∃ adV, vk_S 7 [4, 5, 4, 4, 4, 6, 4] gstrs str adV (fun x => b ≤ x) U H) ∧ va_Z "java/lang/String" "COMPACT_STRINGS" "Z" (.int 1) (fun x => b ≤ x) U H ∧ va_Zq "jdk/internal/util/Preconditions" "SIOOBE_FORMATTER" "Ljava/util/function/BiFunction;" (fun x => b ≤ x) U H
theorem genv.warm {D : va_G} {ax : Nat → ClassId} {str : Nat → Nat} {s U : State} (hW : s.WarmedH U.vm) (h : genv D ax str s) : genv D ax str U :=
  ⟨va_K.moved hW.alike h.1, fun e he hk x hx => va_Nw.warmM hW (h.2.1 e he hk x hx), ⟨va_AO.moved hW.alike h.2.2.1.1, va_AO.moved hW.alike h.2.2.1.2⟩, fun q hq => vk_R.warm hW (h.2.2.2 q hq)⟩
theorem genv.same {D : va_G} {ax : Nat → ClassId} {str : Nat → Nat} {s U : State} (hv : U.vm = s.vm) (h : genv D ax str s) : genv D ax str U :=
  ⟨va_K.moved (by rw [hv]; exact Vm.Alike.refl _) h.1, fun e he hk x hx => va_Nw.same rfl hv.symm (h.2.1 e he hk x hx), ⟨va_AO.moved (by rw [hv]; exact Vm.Alike.refl _) h.2.2.1.1, va_AO.moved (by rw [hv]; exact Vm.Alike.refl _) h.2.2.1.2⟩, fun q hq => vk_R.same hv (h.2.2.2 q hq)⟩
def gA (b : Nat) (sh : gH) : Nat → Prop := fun x => ∃ id, x = b + id ∧ (sh.2 ≤ id ∨ ∃ e, sh.1 id = some e)
theorem gA.at {b : Nat} {sh : gH} {id : Nat} {e : gE} (h : sh.1 id = some e) : gA b sh (b + id) := ⟨id, rfl, Or.inr ⟨e, h⟩⟩
theorem gA.new {b : Nat} {sh : gH} : gA b sh (b + sh.2) := ⟨sh.2, rfl, Or.inl (Nat.le_refl _)⟩
theorem gA.grow {b : Nat} {sh : gH} {e : gE} : ∀ x, gA b (gsh sh.1 sh.2 e, sh.2 + 1) x → gA b sh x := by
  rintro x ⟨id, rfl, h | ⟨e', h⟩⟩
  · exact ⟨id, rfl, Or.inl (by have : sh.2 + 1 ≤ id := h; omega)⟩
  · have h' : gsh sh.1 sh.2 e id = some e' := h
    unfold gsh at h'
    by_cases hi : id = sh.2
    · exact ⟨id, rfl, Or.inl (by omega)⟩
    · rw [if_neg hi] at h'
      exact ⟨id, rfl, Or.inr ⟨e', h'⟩⟩
theorem gA.set {b : Nat} {sh : gH} {id : Nat} {e0 e : gE} (h0 : sh.1 id = some e0) : ∀ x, gA b (gsh sh.1 id e, sh.2) x → gA b sh x := by
  rintro x ⟨j, rfl, h | ⟨e', h⟩⟩
  · exact ⟨j, rfl, Or.inl h⟩
  · have h' : gsh sh.1 id e j = some e' := h
    unfold gsh at h'
    by_cases hi : j = id
    · exact ⟨j, rfl, Or.inr ⟨e0, by rw [hi]; exact h0⟩⟩
    · rw [if_neg hi] at h'
      exact ⟨j, rfl, Or.inr ⟨e', h'⟩⟩
def gPc (D : va_G) (ax : Nat → ClassId) (str : Nat → Nat) (b : Nat) (as : List Value) (q : gS) : Array Value → State → Prop := fun a U => a = (as.map (genc b str)).toArray ∧ gRep D ax str b q U.heap ∧ genv D ax str U ∧ gstr str b U U.heap
def gQc (D : va_G) (ax : Nat → ClassId) (str : Nat → Nat) (b : Nat) (q : gS) (r : Option Value × gS) : Array Value → State → Outcome → State → Prop := fun _ st o t => o = .returned (r.1.map (genc b str)) ∧ gRep D ax str b r.2 t.heap ∧ (∀ x, gA b r.2.1 x → gA b q.1 x) ∧ va_F (gA b q.1) st t
def grm (d c1 c2 : Nat) : Room := { frames := d, cells := c1, slots := c2, locals := 40 * d }
theorem gPc.blind {D : va_G} {ax : Nat → ClassId} {str : Nat → Nat} {b : Nat} {as : List Value} {q : gS} : FrameBlind (gPc D ax str b as q) := by
  rintro a U g mk ⟨h1, h2, h3, ⟨adV, h4⟩, h5, h6⟩
  exact ⟨h1, h2, h3.same rfl, ⟨adV, vk_S.moved (Vm.Alike.refl U.vm) h4⟩, va_Z.moved (Vm.Alike.refl U.vm) h5, va_Zq.moved (Vm.Alike.refl U.vm) h6⟩
end
section
/-! ===== soundness: helpers ===== -/
theorem gb_eq_t {x y : Int32} {A B : Prop} (z : x = y) (h : if x = y then A else B) : A := by rw [if_pos z] at h; exact h
theorem gb_eq_f {x y : Int32} {A B : Prop} (z : ¬ x = y) (h : if x = y then A else B) : B := by rw [if_neg z] at h; exact h
theorem gb_ne_t {x y : Int32} {A B : Prop} (z : ¬ x = y) (h : if x = y then B else A) : A := by rw [if_neg z] at h; exact h
theorem gb_ne_f {x y : Int32} {A B : Prop} (z : x = y) (h : if x = y then B else A) : B := by rw [if_pos z] at h; exact h
theorem gb_lt_t {x y : Int32} {A B : Prop} (z : x < y) (h : if x < y then A else B) : A := by rw [if_pos z] at h; exact h
theorem gb_lt_f {x y : Int32} {A B : Prop} (z : ¬ x < y) (h : if x < y then A else B) : B := by rw [if_neg z] at h; exact h
theorem gb_ge_t {x y : Int32} {A B : Prop} (z : y ≤ x) (h : if x < y then B else A) : A := by rw [if_neg (Int32.not_lt.mpr z)] at h; exact h
theorem gb_ge_f {x y : Int32} {A B : Prop} (z : ¬ y ≤ x) (h : if x < y then B else A) : B := by rw [if_pos (Int32.not_le.mp z)] at h; exact h
theorem gb_gt_t {x y : Int32} {A B : Prop} (z : y < x) (h : if y < x then A else B) : A := by rw [if_pos z] at h; exact h
theorem gb_gt_f {x y : Int32} {A B : Prop} (z : ¬ y < x) (h : if y < x then A else B) : B := by rw [if_neg z] at h; exact h
theorem gb_le_t {x y : Int32} {A B : Prop} (z : x ≤ y) (h : if y < x then B else A) : A := by rw [if_neg (Int32.not_lt.mpr z)] at h; exact h
theorem gb_le_f {x y : Int32} {A B : Prop} (z : ¬ x ≤ y) (h : if y < x then B else A) : B := by rw [if_pos (Int32.not_le.mp z)] at h; exact h
theorem gnth_get {α : Type} : ∀ (l : List α) (i : Nat), gnth l i = l[i]?
  | [], i => by simp [gnth]
  | a :: l, 0 => by simp [gnth]
  | a :: l, i + 1 => by simp [gnth, gnth_get l i]
theorem gcan_w {c1 c2 : Nat} {bd : Nat × Nat} {st : List Value} (h : gcan c1 c2 bd st = true) : c1 ≤ bd.1 ∧ c2 ≤ bd.2 ∧ gw st ≤ 8 := by
  unfold gcan at h
  rw [Bool.and_eq_true, Bool.and_eq_true] at h
  exact ⟨Nat.le_of_ble_eq_true h.1, Nat.le_of_ble_eq_true h.2.1, Nat.le_of_ble_eq_true h.2.2⟩
theorem gfb_of {o i ci k p : Nat} (h : gfb (o, i, ci, k, p) = true) : ∃ (C : String) (T : u_T) (N : Nat), gcl[ci]? = some (C, T, N) ∧ Cond.fieldLink (gnm o) i (T k).1 (T k).2.1 (T k).2.2.1 ∈ gT := by
  unfold gfb at h
  dsimp only at h
  split at h
  · rename_i r hr
    rw [gnth_get] at hr
    exact ⟨r.1, r.2.1, r.2.2, hr, gix_mem h⟩
  · cases h
theorem gfbI_of {o i ci k p : Nat} (h : gfbI (o, i, ci, k, p) = true) : ∃ (C : String) (T : u_T) (N : Nat), gcl[ci]? = some (C, T, N) ∧ Cond.fieldLink (gnm o) i (T k).1 (T k).2.1 (T k).2.2.1 ∈ gT ∧ (T k).2.2.2 = false ∧ parseFieldDescriptor (T k).2.2.1 = some (cond (gZf ci k) .boolean .int) ∧ (gdf ci)[k]? = some none := by
  unfold gfbI at h
  rw [Bool.and_eq_true] at h
  obtain ⟨C, T, N, hc, hw⟩ := gfb_of h.1
  have h2 := h.2
  dsimp only at h2
  rw [gnth_get, hc] at h2
  simp only [Bool.and_eq_true, Bool.not_eq_true', decide_eq_true_eq] at h2
  exact ⟨C, T, N, hc, hw, h2.1.1, h2.1.2, h2.2⟩
theorem gfbR_of {o i ci k p : Nat} (h : gfbR (o, i, ci, k, p) = true) : ∃ (C : String) (T : u_T) (N : Nat) (ty : FieldType), gcl[ci]? = some (C, T, N) ∧ Cond.fieldLink (gnm o) i (T k).1 (T k).2.1 (T k).2.2.1 ∈ gT ∧ (T k).2.2.2 = true ∧ (T k).1 = gnm o ∧ parseFieldDescriptor (T k).2.2.1 = some ty ∧ (∀ x : Nat, narrow ty (.ref x) = .ref x ∧ fits ty (.ref x) = true) ∧ (gdf ci)[k]? = some (some none) := by
  unfold gfbR at h
  rw [Bool.and_eq_true] at h
  obtain ⟨C, T, N, hc, hw⟩ := gfb_of h.1
  have h2 := h.2
  dsimp only at h2
  rw [gnth_get, hc] at h2
  simp only [Bool.and_eq_true, decide_eq_true_eq] at h2
  obtain ⟨h3, ⟨h4, h5⟩, h6⟩ := h2
  cases hp : parseFieldDescriptor (T k).2.2.1 with
  | none => rw [hp] at h5; cases h5
  | some ty =>
    refine ⟨C, T, N, ty, hc, hw, h3, h4, hp, fun x => ?_, h6⟩
    rw [hp] at h5
    cases ty <;> first | exact ⟨rfl, rfl⟩ | cases h5
theorem gckB_of (b : Nat) (str : Nat → Nat) {a1 a2 a3 a4 a5 a6 : Nat} (h : gckB (a1, a2, a3, a4, a5, a6) = true) : ∃ (C : String) (T : u_T) (N : Nat), gcl[a3]? = some (C, T, N) ∧ Cond.classLink (gnm a1) a2 C ∈ gT ∧ Cond.instantiable C N ∈ gT ∧ Cond.initialized C ∈ gT ∧ (gdf a3).length = N ∧
    ∀ ty : Nat → FieldType, (∀ k, k < N → parseFieldDescriptor (T k).2.2.1 = some (ty k)) → ∀ k, k < N → defaultValue (ty k) = genc b str (gfv (fun _ _ => 0, fun _ _ => 0) 0 k ((gdf a3).getD k none)) := by
  unfold gckB at h
  dsimp only at h
  split at h
  · rename_i r hr
    rw [gnth_get] at hr
    simp only [Bool.and_eq_true] at h
    obtain ⟨h1, h2, h3, h4, h5⟩ := h
    refine ⟨r.1, r.2.1, r.2.2, hr, gix_mem h1, gix_mem h2, gix_mem h3, Nat.eq_of_beq_eq_true h4, fun ty hty k hk => ?_⟩
    have h6 := List.all_eq_true.mp h5 k (List.mem_range.mpr hk)
    rw [hty k hk] at h6
    revert h6
    generalize (gdf a3).getD k none = f
    generalize ty k = t
    intro h6
    rcases f with _ | _ | f
    · cases t <;> first | rfl | cases h6
    · cases t <;> first | rfl | cases h6
    · cases t <;> cases h6
  · cases h
theorem galB_of {ax : Nat → ClassId} {s : State} (hE : va_AO RX9 s ∧ va_AO RX7 s) {a1 a2 a3 a4 : Nat} (h : galB (a1, a2, a3, a4) = true) : ∃ (C : String) (t0 : Nat), (gtys ax)[t0]? = some (ax a3, .object C) ∧ Cond.classLink (gnm a1) a2 C ∈ gT ∧ va_AO C s := by
  unfold galB at h
  dsimp only at h
  split at h
  · rename_i r hr
    rw [gnth_get] at hr
    rw [Bool.and_eq_true, Bool.or_eq_true] at h
    rcases h.2 with h2 | h2
    · cases Nat.eq_of_beq_eq_true h2
      have : r = (RX7, TX7, 3) := (Option.some.inj hr).symm
      subst this
      exact ⟨RX7, 4, rfl, gix_mem h.1, hE.2⟩
    · cases Nat.eq_of_beq_eq_true h2
      have : r = (RX9, TX9, 5) := (Option.some.inj hr).symm
      subst this
      exact ⟨RX9, 3, rfl, gix_mem h.1, hE.1⟩
  · cases h
section GX
variable {p : Program} {l : Launch} {e : Env} {R : Room} {s : State} {m : MethodId} {args : Array Value} {below : List Frame} {meth : Method} {c : Code} {H : Heap} {locs : List Loc} {cells slots : Nat} {Q : State → Prop} {cc : ByteArray} {pc : Nat} {als : Array Slot} {rest : List Value}
theorem gsw_in {x : Int32} {A : Nat → Prop} : ∀ {ps : List (Int × Int)} {d : Nat}, gsw x A ps d → (∃ a ∈ ps, x = Int32.ofInt a.1 ∧ A a.2.toNat ∧ ∃ i : Nat, ps[i]? = some a) ∨ ((∀ a ∈ ps, x ≠ Int32.ofInt a.1) ∧ A d)
  | [], d, h => Or.inr ⟨fun a ha => (List.not_mem_nil ha).elim, h⟩
  | (v, t) :: ps, d, h => by
    unfold gsw at h
    by_cases hv : x = Int32.ofInt v
    · rw [if_pos hv] at h
      exact Or.inl ⟨(v, t), List.mem_cons_self, hv, h, 0, rfl⟩
    · rw [if_neg hv] at h
      rcases gsw_in (ps := ps) h with ⟨a, ha, h1, h2, i, hi⟩ | ⟨h1, h2⟩
      · exact Or.inl ⟨a, List.mem_cons_of_mem _ ha, h1, h2, i + 1, hi⟩
      · refine Or.inr ⟨fun a ha => ?_, h2⟩
        rcases List.mem_cons.mp ha with rfl | ha
        · exact hv
        · exact h1 a ha
theorem glsw {x : Int32} {A : Nat → Prop} {pc : Nat} {d' : Int} {d : Nat} (hd : (pc : Int) + d' = (d : Int)) : ∀ {ps ps' : List (Int × Int)}, ps.map (fun a => a.1) = ps'.map (fun a => a.1) → ps.map (fun a => ((a.2.toNat : Nat) : Int)) = ps'.map (fun a => (pc : Int) + a.2) → (∀ a ∈ ps, (Int32.ofInt a.1).toInt = a.1) → gsw x A ps d → ∃ t : Nat, A t ∧ (pc : Int) + Op.lookupswitch.offset ps' d' x.toInt = (t : Int)
  | [], [], _, _, _, h => ⟨d, h, hd⟩
  | [], _ :: _, h1, _, _, _ => by cases h1
  | _ :: _, [], h1, _, _, _ => by cases h1
  | (v, t) :: ps, (v', t') :: ps', h1, h2, h3, h => by
    simp only [List.map_cons, List.cons.injEq] at h1 h2
    obtain ⟨rfl, h1⟩ := h1
    unfold gsw at h
    rw [Op.lookupswitch.offset_cons]
    by_cases hv : x = Int32.ofInt v
    · rw [if_pos hv] at h
      have e1 : x.toInt = v := by rw [hv]; exact h3 (v, t) List.mem_cons_self
      rw [if_pos e1.symm]
      exact ⟨_, h, h2.1.symm⟩
    · rw [if_neg hv] at h
      have e1 : ¬ v = x.toInt := fun z => hv (Int32.toInt_inj.mp (by rw [h3 (v, t) List.mem_cons_self]; exact z.symm))
      rw [if_neg e1]
      exact glsw hd h1 h2.2 (fun a ha => h3 a (List.mem_cons_of_mem _ ha)) h
theorem gswitch (hx : p.tables.exec = Jvm.exec) (hb : c.code = cc) {o : Nat} {ini : Bool} {rt : Option FieldType} {mx len : Nat} {cins : Instr} {v x : Int32} {dd : Int} {ps : Array (Int × Int)} {A : Nat → Prop} (hd : decode cc pc = .ok (cins, len)) (hm : gmt o ini rt mx pc len cins (.lookupswitch dd ps) v = true) (h : gsw x A ps.toList dd.toNat)
    (kk : ∀ t, A t → W p l e R s m args below meth c H locs cells slots Q (F0 m t als rest)) : W p l e R s m args below meth c H locs cells slots Q (F0 m pc als (.int x :: rest)) := by
  unfold gmt at hm
  dsimp only at hm
  split at hm
  · rename_i d' ps'
    simp only [Bool.and_eq_true, decide_eq_true_eq, List.all_eq_true] at hm
    obtain ⟨h1, h2, h3, h4, h5⟩ := hm
    obtain ⟨t, ht, hto⟩ := glsw h2 h3 h4 h5 h
    exact lv_lookup hx hb hd (List.all_eq_true.mpr (fun a ha => by have := h1 a ha; simpa using this)) rfl hto (kk t ht)
  · rename_i d' lo hi offs
    simp only [Bool.and_eq_true, decide_eq_true_eq, List.all_eq_true] at hm
    obtain ⟨h2, h1, h3, h4, h5⟩ := hm
    rcases gsw_in h with ⟨a, ha, e1, hA, i, hi⟩ | ⟨hno, hA⟩
    · have g3 : (ps.toList.map (fun a => a.1))[i]? = some a.1 := by rw [List.getElem?_map, hi]; rfl
      have g4 : (ps.toList.map (fun a => ((a.2.toNat : Nat) : Int)))[i]? = some ((a.2.toNat : Nat) : Int) := by rw [List.getElem?_map, hi]; rfl
      rw [h3, List.getElem?_map] at g3
      rw [h4, List.getElem?_map] at g4
      have hi2 : i < offs.size := by
        have := (List.getElem?_eq_some_iff.mp (show (List.range offs.size)[i]? = some ((List.range offs.size)[i]?.getD 0) by
          cases hz : (List.range offs.size)[i]? with
          | none => rw [hz] at g3; cases g3
          | some y => rfl)).1
        rw [List.length_range] at this
        exact this
      rw [List.getElem?_range hi2] at g3
      have e2 : lo + (i : Int) = a.1 := Option.some.inj g3
      have e3 : x.toInt = a.1 := by rw [e1]; exact h5 a ha
      have hoff : offs.toList[i]? = some offs[i] := by rw [Array.getElem?_toList]; exact Array.getElem?_eq_getElem hi2
      rw [hoff] at g4
      have e4 : (pc : Int) + offs[i] = ((a.2.toNat : Nat) : Int) := Option.some.inj g4
      refine lv_tableIn hx hb hd (by omega) (by omega) (off := offs[i]) ?_ e4 (kk _ hA)
      rw [show (x.toInt - lo).toNat = i by omega]
      exact Array.getElem?_eq_getElem hi2
    · refine lv_tableOut hx hb hd ?_ h2 (kk _ hA)
      by_cases hlo : x.toInt < lo
      · exact Or.inl hlo
      · refine Or.inr ?_
        by_cases hhi : hi < x.toInt
        · exact hhi
        · exfalso
          have hj : (x.toInt - lo).toNat < offs.size := by omega
          have hz : (ps.toList.map (fun a => a.1))[(x.toInt - lo).toNat]? = some (lo + (((x.toInt - lo).toNat : Nat) : Int)) := by
            rw [h3, List.getElem?_map, List.getElem?_range hj]
            rfl
          rw [List.getElem?_map] at hz
          cases hq : ps.toList[(x.toInt - lo).toNat]? with
          | none => rw [hq] at hz; cases hz
          | some a =>
            rw [hq] at hz
            have e5 : a.1 = lo + (((x.toInt - lo).toNat : Nat) : Int) := Option.some.inj hz
            have ha := List.mem_of_getElem? hq
            refine hno a ha (Int32.toInt_inj.mp ?_)
            rw [h5 a ha, e5]
            omega
  · cases hm
end GX
end
section
/-! ===== soundness: one instruction ===== -/
def gCx (p : Program) (R : Room) (s : State) (m : MethodId) (args : Array Value) (meth : Method) (c : Code) (cc : ByteArray) (o : Nat) (ini : Bool) (rt : Option FieldType) (mx mc ms : Nat) (D : va_G) (ax : Nat → ClassId) (str : Nat → Nat) (b : Nat) (q0 : gS) : Prop :=
  p.tables.exec = Jvm.exec ∧ c.code = cc ∧ c.maxLocals = mx ∧ (∀ w ∈ gT, w.before args s = true) ∧ s.vm.findClass (gnm o) = some m.cls ∧ genv D ax str s ∧ gstr str b s s.heap ∧ (ini = true → meth.name = "<init>") ∧ meth.sig.returnType = rt ∧ meth.locks = false ∧ (R.cells = mc ∧ R.slots = ms ∧ 1 ≤ R.frames ∧ 40 ≤ R.locals) ∧ s.heap.size = b + q0.1.2
def gWp (p : Program) (l : Launch) (e : Env) (R : Room) (s : State) (m : MethodId) (args : Array Value) (below : List Frame) (meth : Method) (c : Code) (mx mc ms : Nat) (D : va_G) (ax : Nat → ClassId) (str : Nat → Nat) (b : Nat) (q0 : gS) (Q : State → Prop) (pc : Nat) (ls : gL) (st : List Value) (q : gS) (bd : Nat × Nat) : Prop :=
  ∀ (H : Heap) (locs : List Loc) (cells slots : Nat) (als : Array Slot), lv_has als mx (gas b str 0 ls) → gRep D ax str b q H → va_S (gA b q0.1) s.heap H locs → (∀ x, gA b q.1 x → gA b q0.1 x) → cells + bd.1 ≤ mc → slots + bd.2 ≤ ms → W p l e R s m args below meth c H locs cells slots Q (F0 m pc als (st.map (genc b str)))
/-- a call of a method of the table, by its contract -/
def gMet (l : Launch) (D : va_G) (ax : Nat → ClassId) (str : Nat → Nat) (b d n : Nat) (as : List Value) (q : gS) (r : Option Value × gS) : Prop :=
  ∀ x, gnth gtab n = some x → Met l x.1.1 (.code x.1.1 x.1.2.1 x.1.2.2.1 x.1.2.2.2 :: gT) (grm d x.2.2.1.2.2.1 x.2.2.1.2.2.2) (gPc D ax str b as q) (gQc D ax str b q r) x.2.2.1.2.2.1 x.2.2.1.2.2.2 (gA b q.1)
theorem g_run {p : Program} {l : Launch} {e : Env} {R : Room} {s : State} {m : MethodId} {args : Array Value} {below : List Frame} {meth : Method} {c : Code} {H H0 : Heap} {locs : List Loc} {cells slots mc ms : Nat} {Q : State → Prop} {pc : Nat} {als : Array Slot} {st0 rest : List Value} {D : va_G} {ax : Nat → ClassId} {str : Nat → Nat} {b : Nat} {A : Nat → Prop} {q : gS} {r : Option Value × gS} {a : Array Value}
    (hr : va_Run p l e R s m args below meth c H locs cells slots mc ms (F0 m pc als st0) rest (gQc D ax str b q r a) (gA b q.1)) (hS : va_S A H0 H locs) (hA : ∀ x, gA b q.1 x → A x)
    (kk : ∀ (H1 : Heap) (locs1 : List Loc), gRep D ax str b r.2 H1 → va_S A H0 H1 locs1 → (∀ x, gA b r.2.1 x → A x) → W p l e R s m args below meth c H1 locs1 (cells + mc) (slots + ms) Q (F0 m (pc + 3) als ((r.1.map (genc b str)).toList ++ rest))) : W p l e R s m args below meth c H locs cells slots Q (F0 m pc als st0) := by
  intro T hT X
  obtain ⟨v, st₀, t, T', L, h0, X', hL, e1, e2, ⟨ho, hR, hsb, hz, hk⟩, st⟩ := hr T hT X
  have hv : v = r.1.map (genc b str) := Outcome.returned.inj ho
  subst hv
  rw [h0] at hz hk
  obtain ⟨t2, a1, b1⟩ := kk T'.heap (locs ++ L) (by rw [e1]; exact hR)
    ⟨Nat.le_trans hS.1 (by rw [e1]; exact hz), fun x h1 h2 => by rw [e1, hk x (Nat.lt_of_lt_of_le h1 hS.1) (fun z => h2 (hA x z))]; exact hS.2.1 x h1 h2, fun x hx => by
      rcases List.mem_append.mp hx with h | h
      · exact hS.2.2 x h
      · exact hA _ (hL x h)⟩ (fun x h => hA x (hsb x h)) T' rfl X'
  exact ⟨t2, st t2 a1, b1⟩
theorem gst_map (b : Nat) (str : Nat → Nat) (v : Option Value) (st : List Value) : (v.toList ++ st).map (genc b str) = (v.map (genc b str)).toList ++ st.map (genc b str) := by
  cases v <;> rfl
theorem gA_b {b : Nat} {sh : gH} {x : Nat} (h : gA b sh x) : b ≤ x := by
  obtain ⟨id, rfl, -⟩ := h
  omega
theorem gnew {b : Nat} {q0 : gS} {H0 : Heap} (hsz : H0.size = b + q0.1.2) : ∀ x, H0.size ≤ x → gA b q0.1 x := fun x h => ⟨x - b, by omega, Or.inl (by omega)⟩
theorem gstr_now {str : Nat → Nat} {b : Nat} {s U : State} {q0 : gS} {H : Heap} {locs : List Loc} (hW : s.WarmedH U.vm) (hZ : gstr str b s s.heap) (hS : va_S (gA b q0.1) s.heap H locs) : gstr str b U H := by
  obtain ⟨⟨adV, h⟩, h5, h6⟩ := hZ
  have hk : ∀ a : Nat, a < s.heap.size → ¬ b ≤ a → H[a]? = s.heap[a]? := fun a h1 h2 => hS.2.1 a h1 (fun z => h2 (gA_b z))
  exact ⟨⟨adV, vk_S.moved hW.alike (h.kept hk)⟩, va_Z.moved hW.alike (h5.kept hk), va_Zq.moved hW.alike (h6.kept hk)⟩
theorem gcond {b : Bool} {P : Prop} (h : cond b P False) : b = true ∧ P := by
  cases b with
  | true => exact ⟨rfl, h⟩
  | false => exact (h : False).elim
/-! ===== soundness: arrays that are made, calls ===== -/
theorem gGood {ws : List Cond} (h : ∀ w ∈ ws, w ∈ gT) : GoodIn gT ws := fun w hw => ⟨h w hw, good_of_word (List.mem_filter.mp (h w hw)).2⟩
theorem gmi_of {n a9 nn c1 c2 : Nat} (h : gmi n = some (a9, nn, c1, c2)) : ∃ x, gnth gtab n = some x ∧ x.2.2.1 = (a9, nn, c1, c2) := by
  unfold gmi at h
  split at h
  · rename_i x hx
    exact ⟨x, hx, Option.some.inj h⟩
  · cases h
theorem gpop0 {n : Nat} {st as st' : List Value} {b : Nat} {str : Nat → Nat} (h : gpop n [] st = some (as, st')) : st.map (genc b str) = (as.map (genc b str)).reverse ++ st'.map (genc b str) ∧ (as.map (genc b str)).length = n := by
  obtain ⟨bs, h1, h2, h3⟩ := gpop_spec h
  rw [List.append_nil] at h1
  subst h1
  subst h2
  rw [List.map_append, ← List.map_reverse, List.reverse_reverse, List.length_map, List.length_reverse]
  exact ⟨rfl, h3⟩
/-- a call of a String's method, by its contract -/
def gStrMet (l : Launch) (D : va_G) (ax : Nat → ClassId) (str : Nat → Nat) (b d n : Nat) (as : List Value) (q : gS) (r : Option Value × gS) : Prop := match n with
  | 900 => Met l yJ0_length_8abf5 (.code yJ0_length_8abf5 cJ0_length_8abf5 1 (some .int) :: gT) (grm d 0 0) (gPc D ax str b as q) (gQc D ax str b q r) 0 0 (gA b q.1)
  | _ => Met l yJ0_charAt_5068e (.code yJ0_charAt_5068e cJ0_charAt_5068e 2 (some .char) :: gT) (grm d 0 0) (gPc D ax str b as q) (gQc D ax str b q r) 0 0 (gA b q.1)
section GCALL
variable {p : Program} {l : Launch} {e : Env} {R : Room} {s : State} {m : MethodId} {args : Array Value} {below : List Frame} {meth : Method} {c : Code} {H : Heap} {locs : List Loc} {cells slots : Nat} {Q : State → Prop} {cc : ByteArray} {pc : Nat} {als : Array Slot} {rest : List Value}
variable {o mx mc ms d : Nat} {D : va_G} {ax : Nat → ClassId} {str : Nat → Nat} {b : Nat} {q0 q : gS} {r : Option Value × gS} {bd : Nat × Nat} {st st9 as : List Value} {n i a9 nn c1 c2 a : Nat}
theorem gnewar (hx : p.tables.exec = Jvm.exec) (hb : c.code = cc) (hK : va_K D gcl (gtys ax) s) (hR : gRep D ax str b q H) (hS : va_S (gA b q0.1) s.heap H locs) {kd : Nat} {atype : ArrayType} (hkd : (kd = 0 ∧ atype = .int) ∨ (kd = 1 ∧ atype = .boolean) ∨ (kd = 2 ∧ atype = .long)) (harr : (Cond.arrayClass (newarray.typeOf atype)).before args s = true) (hRc : R.cells = mc) (hRs : R.slots = ms) (hc : cells + bd.1 ≤ mc) (hs : slots + bd.2 ≤ ms) {x : Int32} (hd : decode cc pc = .ok (.newarray atype, 2)) {q' : gS}
    (hq : q' = ((gsh q.1.1 q.1.2 (.inl (kd, x.toNatClampNeg)), q.1.2 + 1), if kd = 2 then (q.2.1, grow q.2.2 q.1.2 (fun _ => 0)) else (grow q.2.1 q.1.2 (fun _ => 0), q.2.2))) {P : Prop} (h : cond (decide (0 ≤ x) && Nat.ble 1 bd.1 && Nat.ble x.toNatClampNeg bd.2 && Nat.ble x.toNatClampNeg 8000) P False)
    (kk : P → 1 ≤ bd.1 → x.toNatClampNeg ≤ bd.2 → ∀ H9 : Heap, gRep D ax str b q' H9 → va_S (gA b q0.1) s.heap H9 locs → W p l e R s m args below meth c H9 locs (cells + 1) (slots + x.toNatClampNeg) Q (F0 m (pc + 2) als (.ref (b + q.1.2) :: rest))) : W p l e R s m args below meth c H locs cells slots Q (F0 m pc als (.int x :: rest)) := by
  cases hbd : (decide (0 ≤ x) && Nat.ble 1 bd.1 && Nat.ble x.toNatClampNeg bd.2 && Nat.ble x.toNatClampNeg 8000) with
  | false =>
    rw [hbd] at h
    exact (h : False).elim
  | true =>
    rw [hbd] at h
    simp only [Bool.and_eq_true, decide_eq_true_eq] at hbd
    obtain ⟨⟨⟨h0, hb1⟩, hb2⟩, hb3⟩ := hbd
    have hb1 := Nat.le_of_ble_eq_true hb1
    have hb2 := Nat.le_of_ble_eq_true hb2
    have hb3 := Nat.le_of_ble_eq_true hb3
    exact g_newa hx hb hK hR hS hkd harr (Int32.not_lt.mpr h0) hb3 (by omega) (by omega) hd hq (kk h hb1 hb2)
theorem gcallS {ps : Nat × Nat × Nat × Nat} (hx : p.tables.exec = Jvm.exec) (hb : c.code = cc) (hml : c.maxLocals = mx) (hts : ∀ w ∈ gT, w.before args s = true) (hown : s.vm.findClass (gnm o) = some m.cls) (hE : genv D ax str s) (hZ : gstr str b s s.heap) (hRf : d + 1 ≤ R.frames ∧ 40 * d + 40 ≤ R.locals) (hRc : R.cells = mc) (hRs : R.slots = ms) (hM : gMet l D ax str b d n as q r) (hd : decode cc pc = .ok (.invokestatic i, 3)) (hq : (o, i, n, 0, ps) ∈ gML)
    (hmi : gmi n = some (a9, nn, c1, c2)) (hpop : gpop nn [] st = some (as, st9)) (hcan : gcan c1 c2 bd st9 = true) (hls : als.size = mx) (hR : gRep D ax str b q H) (hS : va_S (gA b q0.1) s.heap H locs) (hA : ∀ x, gA b q.1 x → gA b q0.1 x) (hc : cells + bd.1 ≤ mc) (hs : slots + bd.2 ≤ ms)
    (kk : ∀ (H9 : Heap) (locs9 : List Loc), gRep D ax str b r.2 H9 → va_S (gA b q0.1) s.heap H9 locs9 → (∀ x, gA b r.2.1 x → gA b q0.1 x) → W p l e R s m args below meth c H9 locs9 (cells + c1) (slots + c2) Q (F0 m (pc + 3) als ((r.1.map (genc b str)).toList ++ st9.map (genc b str)))) : W p l e R s m args below meth c H locs cells slots Q (F0 m pc als (st.map (genc b str))) := by
  obtain ⟨x, hnx, hx9⟩ := gmi_of hmi
  have hP := gtab_ok x (gnth_mem hnx)
  have hw := List.all_eq_true.mp gML_all _ hq
  unfold gmlB at hw
  dsimp only at hw
  rw [hnx] at hw
  simp only [Bool.and_eq_true] at hw
  obtain ⟨w1, w2, w3⟩ := hw
  obtain ⟨g1, g2, g3⟩ := gcan_w hcan
  obtain ⟨hst, hln⟩ := gpop0 (b := b) (str := str) hpop
  have hM := hM x hnx
  obtain ⟨⟨y, by', mxx, rtt⟩, ⟨oo, inn⟩, mm, code⟩ := x
  dsimp only at hx9
  subst hx9
  obtain ⟨p1, p2, p3, p4, p5, -⟩ := hP
  refine g_run (va_runS (As := as.map (genc b str)) (rest := st9.map (genc b str)) ⟨hx, hb, hml, hown, hts⟩ hM (va_cwS nn hts (gGood (fun w hw => ?_)) rfl rfl rfl p3 ⟨hRf.1, ?_⟩) ⟨gPc.blind, fun U hU hW => ⟨rfl, by rw [hU]; exact hR, hE.warm hW, by rw [hU]; exact gstr_now hW hZ hS⟩⟩ rfl hln hls hst (lv_room (by rw [gw_map]; exact g3)) hd ⟨by show cells + c1 ≤ R.cells; omega, by show slots + c2 ≤ R.slots; omega⟩) hS hA kk
  · unfold va_wsS at hw
    rcases List.mem_append.mp hw with hw | hw
    · simp only [List.mem_cons, List.not_mem_nil, or_false] at hw
      rcases hw with rfl | rfl | rfl
      · exact gix_mem w1
      · exact gix_mem w2
      · exact gix_mem w3
    · rcases List.mem_cons.mp hw with rfl | hw
      · exact p1
      · exact hw
  · show 8 + (mxx + 11) + 40 * d ≤ _
    have : mxx ≤ 20 := p5
    omega
theorem gcallV {ps : Nat × Nat × Nat × Nat} {ci : Nat} {fs : List (Option (Option Nat))} (hx : p.tables.exec = Jvm.exec) (hb : c.code = cc) (hml : c.maxLocals = mx) (hts : ∀ w ∈ gT, w.before args s = true) (hown : s.vm.findClass (gnm o) = some m.cls) (hE : genv D ax str s) (hZ : gstr str b s s.heap) (hRf : d + 1 ≤ R.frames ∧ 40 * d + 40 ≤ R.locals) (hRc : R.cells = mc) (hRs : R.slots = ms) (hM : gMet l D ax str b d n (.ref a :: as) q r) (hd : decode cc pc = .ok (.invokevirtual i, 3)) (hq : (o, i, n, 1, ps) ∈ gML)
    (hmi : gmi n = some (ci, nn, c1, c2)) (hpop : gpop nn [] st = some (as, .ref a :: st9)) (hsa : q.1.1 a = some (.inr (.inr (ci, fs)))) (hcan : gcan c1 c2 bd st9 = true) (hls : als.size = mx) (hR : gRep D ax str b q H) (hS : va_S (gA b q0.1) s.heap H locs) (hA : ∀ x, gA b q.1 x → gA b q0.1 x) (hc : cells + bd.1 ≤ mc) (hs : slots + bd.2 ≤ ms)
    (kk : ∀ (H9 : Heap) (locs9 : List Loc), gRep D ax str b r.2 H9 → va_S (gA b q0.1) s.heap H9 locs9 → (∀ x, gA b r.2.1 x → gA b q0.1 x) → W p l e R s m args below meth c H9 locs9 (cells + c1) (slots + c2) Q (F0 m (pc + 3) als ((r.1.map (genc b str)).toList ++ st9.map (genc b str)))) : W p l e R s m args below meth c H locs cells slots Q (F0 m pc als (st.map (genc b str))) := by
  obtain ⟨x, hnx, hx9⟩ := gmi_of hmi
  have hP := gtab_ok x (gnth_mem hnx)
  have hw := List.all_eq_true.mp gML_all _ hq
  unfold gmlB at hw
  dsimp only at hw
  rw [hnx] at hw
  simp only [Bool.and_eq_true, decide_eq_true_eq] at hw
  obtain ⟨w1, w2, w3, w4, w5⟩ := hw
  obtain ⟨g1, g2, g3⟩ := gcan_w hcan
  obtain ⟨hst, hln⟩ := gpop0 (b := b) (str := str) hpop
  have hM := hM x hnx
  obtain ⟨⟨y, by', mxx, rtt⟩, ⟨oo, inn⟩, mm, code⟩ := x
  dsimp only at hx9
  subst hx9
  obtain ⟨p1, p2, p3, p4, p5, -⟩ := hP
  have hrec : ∃ cellB : Cell, H[b + a]? = some cellB ∧ cellB.vm.isStatics = false ∧ s.vm.findClass y.cls = some cellB.cls := by
    obtain ⟨rr, z1, -, cell, z2, z3, z4, -⟩ := hR.2 a _ hsa
    rw [gnth_get, z1] at w5
    have e5 : rr.1 = y.cls := Option.some.inj w5
    exact ⟨cell, z2, by rw [z4]; rfl, by rw [z3, ← e5]; exact (hE.1.1 ci rr z1).2.1⟩
  refine g_run (va_runV (C := y.cls) (b := b + a) (As := as.map (genc b str)) (rest := st9.map (genc b str)) ⟨hx, hb, hml, hown, hts⟩ hM (cwV nn hts (gGood (fun w hw => ?_)) rfl rfl rfl ⟨rfl, p3⟩ ⟨hRf.1, ?_⟩) ⟨gPc.blind, hrec, fun U hU hW => ⟨rfl, by rw [hU]; exact hR, hE.warm hW, by rw [hU]; exact gstr_now hW hZ hS⟩⟩ rfl hln hls hst (lv_room (by rw [gw_map]; exact g3)) hd ⟨by show cells + c1 ≤ R.cells; omega, by show slots + c2 ≤ R.slots; omega⟩) hS hA kk
  · unfold wsV at hw
    rcases List.mem_append.mp hw with hw | hw
    · simp only [List.mem_cons, List.not_mem_nil, or_false] at hw
      rcases hw with rfl | rfl | rfl | rfl
      · exact gix_mem w1
      · exact gix_mem w2
      · exact gix_mem w3
      · exact gix_mem w4
    · rcases List.mem_cons.mp hw with rfl | hw
      · exact p1
      · exact hw
  · show 8 + (mxx + 11) + 40 * d ≤ _
    have : mxx ≤ 20 := p5
    omega
theorem gcallI (hx : p.tables.exec = Jvm.exec) (hb : c.code = cc) (hml : c.maxLocals = mx) (hts : ∀ w ∈ gT, w.before args s = true) (hown : s.vm.findClass (gnm o) = some m.cls) (hE : genv D ax str s) (hZ : gstr str b s s.heap) (hRf : d + 1 ≤ R.frames ∧ 40 * d + 40 ≤ R.locals) (hRc : R.cells = mc) (hRs : R.slots = ms) (hM : gMet l D ax str b d n (.ref a :: as) q r) (hd : decode cc pc = .ok (.invokespecial i, 3)) (hq : gmlk o i n 2 = true ∨ gmlk o i n 3 = true)
    (hmi : gmi n = some (a9, nn, c1, c2)) (hpop : gpop nn [] st = some (as, .ref a :: st9)) (hcan : gcan c1 c2 bd st9 = true) (hls : als.size = mx) (hR : gRep D ax str b q H) (hS : va_S (gA b q0.1) s.heap H locs) (hA : ∀ x, gA b q.1 x → gA b q0.1 x) (hc : cells + bd.1 ≤ mc) (hs : slots + bd.2 ≤ ms)
    (kk : ∀ (H9 : Heap) (locs9 : List Loc), gRep D ax str b r.2 H9 → va_S (gA b q0.1) s.heap H9 locs9 → (∀ x, gA b r.2.1 x → gA b q0.1 x) → W p l e R s m args below meth c H9 locs9 (cells + c1) (slots + c2) Q (F0 m (pc + 3) als ((r.1.map (genc b str)).toList ++ st9.map (genc b str)))) : W p l e R s m args below meth c H locs cells slots Q (F0 m pc als (st.map (genc b str))) := by
  obtain ⟨x, hnx, hx9⟩ := gmi_of hmi
  have hP := gtab_ok x (gnth_mem hnx)
  obtain ⟨g1, g2, g3⟩ := gcan_w hcan
  obtain ⟨hst, hln⟩ := gpop0 (b := b) (str := str) hpop
  have hM := hM x hnx
  have hpre : PreS s H (gPc D ax str b (.ref a :: as) q) (.ref (b + a) :: as.map (genc b str)) := ⟨gPc.blind, fun U hU hW => ⟨rfl, by rw [hU]; exact hR, hE.warm hW, by rw [hU]; exact gstr_now hW hZ hS⟩⟩
  rcases hq with hq | hq
  · obtain ⟨ps, hq⟩ := gmlk_mem hq
    have hw := List.all_eq_true.mp gML_all _ hq
    unfold gmlB at hw
    dsimp only at hw
    rw [hnx] at hw
    simp only [Bool.and_eq_true] at hw
    obtain ⟨w1, w2, w4, w5⟩ := hw
    obtain ⟨⟨y, by', mxx, rtt⟩, ⟨oo, inn⟩, mm, code⟩ := x
    dsimp only at hx9 w5
    subst hx9
    obtain ⟨p1, p2, p3, p4, p5, p6, p7, -⟩ := hP
    have e7 : rtt = none := p7 w5
    subst e7
    refine g_run (va_runI (b := b + a) (As := as.map (genc b str)) (rest := st9.map (genc b str)) ⟨hx, hb, hml, hown, hts⟩ hM (cwI nn hts (gGood (fun w hw => ?_)) rfl rfl rfl (hts _ (gix_mem w4)) (hts _ (gix_mem w1)) (hts _ (gix_mem w2)) (p6 w5) p3 ⟨hRf.1, ?_⟩) hpre rfl hln hls hst (lv_room (by rw [gw_map]; exact g3)) hd ⟨by show cells + c1 ≤ R.cells; omega, by show slots + c2 ≤ R.slots; omega⟩) hS hA kk
    · rcases List.mem_cons.mp hw with rfl | hw
      · exact p1
      · exact hw
    · show 8 + (mxx + 11) + 40 * d ≤ _
      have : mxx ≤ 20 := p5
      omega
  · obtain ⟨ps, hq⟩ := gmlk_mem hq
    have hw := List.all_eq_true.mp gML_all _ hq
    have hN := hE.2.1 _ hq rfl x hnx
    unfold gmlB at hw
    dsimp only at hw
    rw [hnx] at hw
    simp only [Bool.and_eq_true] at hw
    obtain ⟨w2, w4, w5⟩ := hw
    obtain ⟨⟨y, by', mxx, rtt⟩, ⟨oo, inn⟩, mm, code⟩ := x
    dsimp only at hx9 w5 hN
    subst hx9
    obtain ⟨p1, p2, p3, p4, p5, p6, p7, -⟩ := hP
    have e7 : rtt = none := p7 w5
    subst e7
    refine g_run (va_runIN (host := RX11) (b := b + a) (As := as.map (genc b str)) (rest := st9.map (genc b str)) ⟨hx, hb, hml, hown, hts⟩ hM ⟨va_cnB nn hts (gGood (fun w hw => ?_)) rfl rfl rfl hN (hts _ (gix_mem w4)) p3 ⟨hRf.1, ?_⟩, p6 w5, hts _ (gix_mem w2)⟩ hpre rfl hln hls hst (lv_room (by rw [gw_map]; exact g3)) hd ⟨by show cells + c1 ≤ R.cells; omega, by show slots + c2 ≤ R.slots; omega⟩) hS hA kk
    · rcases List.mem_cons.mp hw with rfl | hw
      · exact p1
      · exact hw
    · show 8 + (mxx + 11) + 40 * d ≤ _
      have : mxx ≤ 20 := p5
      omega
end GCALL
end
section
/-! ===== soundness: calls of a String constant's methods; what gstep is at the builtins ===== -/
theorem gcallT {p : Program} {l : Launch} {e : Env} {R : Room} {s : State} {m : MethodId} {args : Array Value} {below : List Frame} {meth : Method} {c : Code} {H : Heap} {locs : List Loc} {cells slots : Nat} {Q : State → Prop} {cc : ByteArray} {pc : Nat} {als : Array Slot} {o mx mc ms d : Nat} {D : va_G} {ax : Nat → ClassId} {str : Nat → Nat} {b : Nat} {q0 q : gS} {r : Option Value × gS} {bd : Nat × Nat} {st9 as : List Value} {i nn j : Nat} {y : MethodName} {cy : ByteArray} {mxx : Nat} {rtt : Option FieldType}
    (hx : p.tables.exec = Jvm.exec) (hb : c.code = cc) (hml : c.maxLocals = mx) (hts : ∀ w ∈ gT, w.before args s = true) (hown : s.vm.findClass (gnm o) = some m.cls) (hE : genv D ax str s) (hZ : gstr str b s s.heap) (hRf : d + 1 ≤ R.frames ∧ 40 * d + 40 ≤ R.locals) (hRc : R.cells = mc) (hRs : R.slots = ms)
    (hM : Met l y (.code y cy mxx rtt :: gT) (grm d 0 0) (gPc D ax str b (.retAddr j :: as) q) (gQc D ax str b q r) 0 0 (gA b q.1)) (hj : j < 7) (hd : decode cc pc = .ok (.invokevirtual i, 3))
    (w1 : Cond.methodLink (gnm o) i y ∈ gT) (w2 : Cond.instanceMethod y ∈ gT) (w3 : Cond.selects "java/lang/String" y y ∈ gT) (w4 : Cond.initialized "java/lang/String" ∈ gT) (p1 : Cond.code y cy mxx rtt ∈ gT) (hcls : y.cls = "java/lang/String") (p3 : y.cls ≠ "java/lang/invoke/MethodHandle" ∧ y.cls ≠ "java/lang/invoke/VarHandle" ∧ (parseMethodDescriptor y.desc).map (fun d => d.parameters.length) = some nn) (p5 : mxx ≤ 20)
    (hln : as.length = nn) (hcan : gcan 0 0 bd st9 = true) (hls : als.size = mx) (hR : gRep D ax str b q H) (hS : va_S (gA b q0.1) s.heap H locs) (hA : ∀ x, gA b q.1 x → gA b q0.1 x) (hc : cells + bd.1 ≤ mc) (hs : slots + bd.2 ≤ ms)
    (kk : ∀ (H9 : Heap) (locs9 : List Loc), gRep D ax str b r.2 H9 → va_S (gA b q0.1) s.heap H9 locs9 → (∀ x, gA b r.2.1 x → gA b q0.1 x) → W p l e R s m args below meth c H9 locs9 (cells + 0) (slots + 0) Q (F0 m (pc + 3) als ((r.1.map (genc b str)).toList ++ st9.map (genc b str)))) : W p l e R s m args below meth c H locs cells slots Q (F0 m pc als ((as.map (genc b str)).reverse ++ .ref (str j) :: st9.map (genc b str))) := by
  obtain ⟨g1, g2, g3⟩ := gcan_w hcan
  have hrec : ∃ cellB : Cell, H[str j]? = some cellB ∧ cellB.vm.isStatics = false ∧ s.vm.findClass y.cls = some cellB.cls := by
    obtain ⟨⟨adV, hV⟩, -, -⟩ := hZ
    obtain ⟨cell, h1, h2, h3, h4⟩ := (hV.1 j hj).1
    have hlt : str j < s.heap.size := (Array.getElem?_eq_some_iff.mp h1).1
    exact ⟨cell, by rw [hS.2.1 _ hlt (fun z => h4 (gA_b z))]; exact h1, h2, by rw [hcls]; exact h3⟩
  refine g_run (va_runV (C := y.cls) (b := str j) (As := as.map (genc b str)) (rest := st9.map (genc b str)) ⟨hx, hb, hml, hown, hts⟩ hM (cwV nn hts (gGood (fun w hw => ?_)) rfl rfl rfl ⟨rfl, p3⟩ ⟨hRf.1, ?_⟩) ⟨gPc.blind, hrec, fun U hU hW => ⟨rfl, by rw [hU]; exact hR, hE.warm hW, by rw [hU]; exact gstr_now hW hZ hS⟩⟩ rfl (by rw [List.length_map]; exact hln) hls rfl (lv_room (by rw [gw_map]; exact g3)) hd ⟨by show cells + 0 ≤ R.cells; omega, by show slots + 0 ≤ R.slots; omega⟩) hS hA kk
  · unfold wsV at hw
    rcases List.mem_append.mp hw with hw | hw
    · simp only [List.mem_cons, List.not_mem_nil, or_false] at hw
      rw [hcls] at hw
      rcases hw with rfl | rfl | rfl | rfl
      · exact w1
      · exact w2
      · exact w3
      · exact w4
    · rcases List.mem_cons.mp hw with rfl | hw
      · exact p1
      · exact hw
  · show 8 + (mxx + 11) + 40 * d ≤ _
    omega
section GDYN
variable {C : Nat → List Value → gS → Option Value × gS → Prop} {mi : Nat → Option (Nat × Nat × Nat × Nat)} {df : Nat → List (Option (Option Nat))} {nx : Nat} {v : Int32} {ls : gL} {st : List Value} {s : gS} {bd : Nat × Nat} {post : gPost} {k : Nat → gL → List Value → gS → Nat × Nat → Prop}
theorem gdyn0 (h : gstep C mi df (.invokedynamic 0) nx v ls st s bd post k) : ∃ n dp b sp a st9 n0 n1, st = .int n :: .int dp :: .ref b :: .int sp :: .ref a :: st9 ∧ s.1.1 a = some (.inl (0, n0)) ∧ s.1.1 b = some (.inl (0, n1)) ∧ gcan 0 0 bd st9 = true ∧ 0 ≤ sp ∧ 0 ≤ dp ∧ 0 ≤ n ∧ sp.toNatClampNeg + n.toNatClampNeg ≤ n0 ∧ dp.toNatClampNeg + n.toNatClampNeg ≤ n1 ∧ k nx ls st9 (s.1, gcpy s.2.1 a b sp.toNatClampNeg dp.toNatClampNeg n.toNatClampNeg, s.2.2) bd := by
  unfold gstep at h
  simp only at h
  split at h
  · rename_i n dp b sp a st9
    split at h
    · rename_i n0 n1 ha hb
      obtain ⟨hcd, h⟩ := gcond h
      simp only [Bool.and_eq_true, decide_eq_true_eq] at hcd
      obtain ⟨⟨⟨⟨⟨hcan, h1⟩, h2⟩, h3⟩, h4⟩, h5⟩ := hcd
      exact ⟨n, dp, b, sp, a, st9, n0, n1, rfl, ha, hb, hcan, h1, h2, h3, Nat.le_of_ble_eq_true h4, Nat.le_of_ble_eq_true h5, h⟩
    · exact h.elim
  · exact h.elim
theorem gdyn1 (h : gstep C mi df (.invokedynamic 1) nx v ls st s bd post k) : ∃ j st9 r, st = .retAddr j :: st9 ∧ gcan 0 0 bd st9 = true ∧ C 900 [.retAddr j] s r ∧ k nx ls (r.1.toList ++ st9) r.2 bd := by
  unfold gstep at h
  simp only at h
  split at h
  · obtain ⟨hcan, r, h1, h2⟩ := gcond h
    exact ⟨_, _, r, rfl, hcan, h1, h2⟩
  · exact h.elim
theorem gdyn2 (h : gstep C mi df (.invokedynamic 2) nx v ls st s bd post k) : ∃ i j st9 r, st = .int i :: .retAddr j :: st9 ∧ gcan 0 0 bd st9 = true ∧ C 901 [.retAddr j, .int i] s r ∧ k nx ls (r.1.toList ++ st9) r.2 bd := by
  unfold gstep at h
  simp only at h
  split at h
  · obtain ⟨hcan, r, h1, h2⟩ := gcond h
    exact ⟨_, _, _, r, rfl, hcan, h1, h2⟩
  · exact h.elim
theorem gdyn3 (h : gstep C mi df (.invokedynamic 3) nx v ls st s bd post k) : ∃ y x st9, st = .int y :: .int x :: st9 ∧ gcan 0 0 bd st9 = true ∧ k nx ls (.int (gmax x y) :: st9) s bd := by
  unfold gstep at h
  simp only at h
  split at h
  · obtain ⟨hcan, h⟩ := gcond h
    exact ⟨_, _, _, rfl, hcan, h⟩
  · exact h.elim
theorem gdyn4 (h : gstep C mi df (.invokedynamic 4) nx v ls st s bd post k) : ∃ y x st9, st = .int y :: .int x :: st9 ∧ gcan 0 0 bd st9 = true ∧ k nx ls (.int (gmin x y) :: st9) s bd := by
  unfold gstep at h
  simp only at h
  split at h
  · obtain ⟨hcan, h⟩ := gcond h
    exact ⟨_, _, _, rfl, hcan, h⟩
  · exact h.elim
theorem gdyn5 (h : gstep C mi df (.invokedynamic 5) nx v ls st s bd post k) : ∃ x st9, st = .int x :: st9 ∧ gcan 0 0 bd st9 = true ∧ k nx ls (.int (gabs x) :: st9) s bd := by
  unfold gstep at h
  simp only at h
  split at h
  · obtain ⟨hcan, h⟩ := gcond h
    exact ⟨_, _, rfl, hcan, h⟩
  · exact h.elim
end GDYN
end
section
/-! ===== words of the String methods (by program) ===== -/
theorem gs_309 : Cond.static yJ7_fill_53178 ∈ gT := gix_mem (i := 309) (by decide +kernel)
theorem gs_310 : Cond.code yJ7_fill_53178 cJ7_fill_53178 4 none ∈ gT := gix_mem (i := 310) (by decide +kernel)
theorem gs_604 : Cond.static yJ9_min_7cf53 ∈ gT := gix_mem (i := 604) (by decide +kernel)
theorem gs_605 : Cond.code yJ9_min_7cf53 cJ9_min_7cf53 2 (some .int) ∈ gT := gix_mem (i := 605) (by decide +kernel)
theorem gs_742 : Cond.static yJ9_max_7cf53 ∈ gT := gix_mem (i := 742) (by decide +kernel)
theorem gs_743 : Cond.code yJ9_max_7cf53 cJ9_max_7cf53 2 (some .int) ∈ gT := gix_mem (i := 743) (by decide +kernel)
theorem gs_780 : Cond.static yJ9_abs_0f7a4 ∈ gT := gix_mem (i := 780) (by decide +kernel)
theorem gs_781 : Cond.code yJ9_abs_0f7a4 cJ9_abs_0f7a4 1 (some .int) ∈ gT := gix_mem (i := 781) (by decide +kernel)
theorem gs_885 : Cond.instanceMethod yJ0_length_8abf5 ∈ gT := gix_mem (i := 885) (by decide +kernel)
theorem gs_886 : Cond.selects "java/lang/String" yJ0_length_8abf5 yJ0_length_8abf5 ∈ gT := gix_mem (i := 886) (by decide +kernel)
theorem gs_887 : Cond.code yJ0_length_8abf5 cJ0_length_8abf5 1 (some .int) ∈ gT := gix_mem (i := 887) (by decide +kernel)
theorem gs_888 : Cond.methodLink "java/lang/String" 335 yJ0_coder_7d493 ∈ gT := gix_mem (i := 888) (by decide +kernel)
theorem gs_889 : Cond.instanceMethod yJ0_coder_7d493 ∈ gT := gix_mem (i := 889) (by decide +kernel)
theorem gs_890 : Cond.selects "java/lang/String" yJ0_coder_7d493 yJ0_coder_7d493 ∈ gT := gix_mem (i := 890) (by decide +kernel)
theorem gs_891 : Cond.code yJ0_coder_7d493 cJ0_coder_7d493 1 (some .byte) ∈ gT := gix_mem (i := 891) (by decide +kernel)
theorem gs_895 : Cond.instanceMethod yJ0_charAt_5068e ∈ gT := gix_mem (i := 895) (by decide +kernel)
theorem gs_896 : Cond.selects "java/lang/String" yJ0_charAt_5068e yJ0_charAt_5068e ∈ gT := gix_mem (i := 896) (by decide +kernel)
theorem gs_897 : Cond.code yJ0_charAt_5068e cJ0_charAt_5068e 2 (some .char) ∈ gT := gix_mem (i := 897) (by decide +kernel)
theorem gs_898 : Cond.methodLink "java/lang/String" 492 yJ0_isLatin1_aae02 ∈ gT := gix_mem (i := 898) (by decide +kernel)
theorem gs_899 : Cond.instanceMethod yJ0_isLatin1_aae02 ∈ gT := gix_mem (i := 899) (by decide +kernel)
theorem gs_900 : Cond.selects "java/lang/String" yJ0_isLatin1_aae02 yJ0_isLatin1_aae02 ∈ gT := gix_mem (i := 900) (by decide +kernel)
theorem gs_901 : Cond.code yJ0_isLatin1_aae02 cJ0_isLatin1_aae02 1 (some .boolean) ∈ gT := gix_mem (i := 901) (by decide +kernel)
theorem gs_902 : Cond.methodLink "java/lang/String" 495 yJ1_charAt_3b067 ∈ gT := gix_mem (i := 902) (by decide +kernel)
theorem gs_903 : Cond.static yJ1_charAt_3b067 ∈ gT := gix_mem (i := 903) (by decide +kernel)
theorem gs_904 : Cond.code yJ1_charAt_3b067 cJ1_charAt_3b067 2 (some .char) ∈ gT := gix_mem (i := 904) (by decide +kernel)
theorem gs_905 : Cond.methodLink "java/lang/StringLatin1" 9 yJ0_checkIndex_df160 ∈ gT := gix_mem (i := 905) (by decide +kernel)
theorem gs_906 : Cond.static yJ0_checkIndex_df160 ∈ gT := gix_mem (i := 906) (by decide +kernel)
theorem gs_907 : Cond.code yJ0_checkIndex_df160 cJ0_checkIndex_df160 2 none ∈ gT := gix_mem (i := 907) (by decide +kernel)
theorem gs_910 : Cond.methodLink "java/lang/String" 1059 yJ3_checkIndex_8e157 ∈ gT := gix_mem (i := 910) (by decide +kernel)
theorem gs_911 : Cond.static yJ3_checkIndex_8e157 ∈ gT := gix_mem (i := 911) (by decide +kernel)
theorem gs_912 : Cond.code yJ3_checkIndex_8e157 cJ3_checkIndex_8e157 3 (some .int) ∈ gT := gix_mem (i := 912) (by decide +kernel)
theorem gs_913 : Cond.methodLink "java/lang/String" 498 yJ2_charAt_3b067 ∈ gT := gix_mem (i := 913) (by decide +kernel)
theorem gs_914 : Cond.static yJ2_charAt_3b067 ∈ gT := gix_mem (i := 914) (by decide +kernel)
theorem gs_915 : Cond.code yJ2_charAt_3b067 cJ2_charAt_3b067 2 (some .char) ∈ gT := gix_mem (i := 915) (by decide +kernel)
theorem gs_916 : Cond.methodLink "java/lang/StringUTF16" 67 yJ2_checkIndex_2214a ∈ gT := gix_mem (i := 916) (by decide +kernel)
theorem gs_917 : Cond.static yJ2_checkIndex_2214a ∈ gT := gix_mem (i := 917) (by decide +kernel)
theorem gs_918 : Cond.code yJ2_checkIndex_2214a cJ2_checkIndex_2214a 2 none ∈ gT := gix_mem (i := 918) (by decide +kernel)
theorem gs_919 : Cond.methodLink "java/lang/StringUTF16" 48 yJ2_length_9d52b ∈ gT := gix_mem (i := 919) (by decide +kernel)
theorem gs_920 : Cond.static yJ2_length_9d52b ∈ gT := gix_mem (i := 920) (by decide +kernel)
theorem gs_921 : Cond.code yJ2_length_9d52b cJ2_length_9d52b 1 (some .int) ∈ gT := gix_mem (i := 921) (by decide +kernel)
theorem gs_922 : Cond.methodLink "java/lang/StringUTF16" 414 yJ0_checkIndex_df160 ∈ gT := gix_mem (i := 922) (by decide +kernel)
theorem gs_923 : Cond.methodLink "java/lang/StringUTF16" 71 yJ2_getChar_3b067 ∈ gT := gix_mem (i := 923) (by decide +kernel)
theorem gs_924 : Cond.static yJ2_getChar_3b067 ∈ gT := gix_mem (i := 924) (by decide +kernel)
theorem gs_925 : Cond.code yJ2_getChar_3b067 cJ2_getChar_3b067 2 (some .char) ∈ gT := gix_mem (i := 925) (by decide +kernel)
theorem gs_892 : Cond.fieldLink "java/lang/String" 38 "java/lang/String" "COMPACT_STRINGS" "Z" ∈ gT := gix_mem (i := 892) (by decide +kernel)
theorem gs_908 : Cond.fieldLink "java/lang/String" 1053 "jdk/internal/util/Preconditions" "SIOOBE_FORMATTER" "Ljava/util/function/BiFunction;" ∈ gT := gix_mem (i := 908) (by decide +kernel)
theorem gs_926 : Cond.fieldLink "java/lang/StringUTF16" 44 "java/lang/StringUTF16" "$assertionsDisabled" "Z" ∈ gT := gix_mem (i := 926) (by decide +kernel)
theorem gs_928 : Cond.fieldLink "java/lang/StringUTF16" 59 "java/lang/StringUTF16" "HI_BYTE_SHIFT" "I" ∈ gT := gix_mem (i := 928) (by decide +kernel)
theorem gs_930 : Cond.fieldLink "java/lang/StringUTF16" 63 "java/lang/StringUTF16" "LO_BYTE_SHIFT" "I" ∈ gT := gix_mem (i := 930) (by decide +kernel)
theorem gs_1739 : Cond.fieldLink "java/lang/String" 9 "java/lang/String" "value" "[B" ∈ gT := gix_mem (i := 1739) (by decide +kernel)
theorem gs_1740 : Cond.fieldLink "java/lang/String" 15 "java/lang/String" "coder" "B" ∈ gT := gix_mem (i := 1740) (by decide +kernel)
theorem gs_86 : Cond.initialized "java/lang/String" ∈ gT := gix_mem (i := 86) (by decide +kernel)
theorem gs_87 : Cond.initialized "java/lang/StringLatin1" ∈ gT := gix_mem (i := 87) (by decide +kernel)
theorem gs_88 : Cond.initialized "jdk/internal/util/Preconditions" ∈ gT := gix_mem (i := 88) (by decide +kernel)
theorem gs_89 : Cond.initialized "java/lang/StringUTF16" ∈ gT := gix_mem (i := 89) (by decide +kernel)
end
section
/-! ===== soundness: one instruction ===== -/
set_option maxHeartbeats 8000000 in
set_option maxRecDepth 100000 in
theorem gone {p : Program} {l : Launch} {e : Env} {R : Room} {s : State} {m : MethodId} {args : Array Value} {below : List Frame} {meth : Method} {c : Code} {cc : ByteArray} {o : Nat} {ini : Bool} {rt : Option FieldType} {mx mc ms : Nat} {D : va_G} {ax : Nat → ClassId} {str : Nat → Nat} {b : Nat} {q0 : gS} {r : Option Value × gS} {d : Nat}
    (cx : gCx p R s m args meth c cc o ini rt mx mc ms D ax str b q0) (hRf : d + 1 ≤ R.frames ∧ 40 * d + 40 ≤ R.locals) {C : Nat → List Value → gS → Option Value × gS → Prop} (hC : ∀ n as q r, C n as q r → gMet l D ax str b d n as q r)
    (hX : ∀ n as q r, C n as q r → n = 900 ∨ n = 901 → (∀ j as', as = .retAddr j :: as' → j < 7) ∧ gStrMet l D ax str b d n as q r)
    {k : Nat → gL → List Value → gS → Nat × Nat → Prop} (hk : ∀ pc ls st q bd, k pc ls st q bd → gWp p l e R s m args below meth c mx mc ms D ax str b q0 (MQ below (gQc D ax str b q0 r) args s mc ms (gA b q0.1)) pc ls st q bd)
    {post : gPost} (hp : ∀ v t, post v t → (v, t) = r) {pc nx kp : Nat} {ins : Instr} {v : Int32} {ls : gL} {st : List Value} {q : gS} {bd : Nat × Nat} (hck : gck o ini rt mx cc (pc, ins, nx, v, kp) = true)
    (h : gstep C gmi gdf ins nx v ls st q bd post k) : gWp p l e R s m args below meth c mx mc ms D ax str b q0 (MQ below (gQc D ax str b q0 r) args s mc ms (gA b q0.1)) pc ls st q bd := by
  obtain ⟨hx, hb, hml, hts, hown, hE, hZ, hin, hr, hlk, ⟨hRc, hRs, hfr, hlo⟩, hsz⟩ := cx
  obtain ⟨cins, len, hd, rfl, hm⟩ := gck_of hck
  intro H locs cells slots als hl hR hS hA hc hs
  have hK := hE.1
  have go := fun pc ls st q bd h => hk pc ls st q bd h H locs cells slots
  cases ins with
  | iadd =>
    have hm : (gplain .iadd && (decide (cins = .iadd) && Nat.beq len 1)) = true := hm
    rw [Bool.and_eq_true, Bool.and_eq_true, decide_eq_true_eq] at hm
    obtain ⟨-, rfl, h1⟩ := hm
    cases Nat.eq_of_beq_eq_true h1
    unfold gstep at h
    dsimp only at h
    split at h
    · exact lv_iadd hx hb hd (go _ _ _ _ _ h als hl hR hS hA hc hs)
    · exact h.elim
  | isub =>
    have hm : (gplain .isub && (decide (cins = .isub) && Nat.beq len 1)) = true := hm
    rw [Bool.and_eq_true, Bool.and_eq_true, decide_eq_true_eq] at hm
    obtain ⟨-, rfl, h1⟩ := hm
    cases Nat.eq_of_beq_eq_true h1
    unfold gstep at h
    dsimp only at h
    split at h
    · exact lv_isub hx hb hd (go _ _ _ _ _ h als hl hR hS hA hc hs)
    · exact h.elim
  | imul =>
    have hm : (gplain .imul && (decide (cins = .imul) && Nat.beq len 1)) = true := hm
    rw [Bool.and_eq_true, Bool.and_eq_true, decide_eq_true_eq] at hm
    obtain ⟨-, rfl, h1⟩ := hm
    cases Nat.eq_of_beq_eq_true h1
    unfold gstep at h
    dsimp only at h
    split at h
    · exact lv_imul hx hb hd (go _ _ _ _ _ h als hl hR hS hA hc hs)
    · exact h.elim
  | iand =>
    have hm : (gplain .iand && (decide (cins = .iand) && Nat.beq len 1)) = true := hm
    rw [Bool.and_eq_true, Bool.and_eq_true, decide_eq_true_eq] at hm
    obtain ⟨-, rfl, h1⟩ := hm
    cases Nat.eq_of_beq_eq_true h1
    unfold gstep at h
    dsimp only at h
    split at h
    · exact lv_iand hx hb hd (go _ _ _ _ _ h als hl hR hS hA hc hs)
    · exact h.elim
  | ior =>
    have hm : (gplain .ior && (decide (cins = .ior) && Nat.beq len 1)) = true := hm
    rw [Bool.and_eq_true, Bool.and_eq_true, decide_eq_true_eq] at hm
    obtain ⟨-, rfl, h1⟩ := hm
    cases Nat.eq_of_beq_eq_true h1
    unfold gstep at h
    dsimp only at h
    split at h
    · exact lv_ior hx hb hd (go _ _ _ _ _ h als hl hR hS hA hc hs)
    · exact h.elim
  | ixor =>
    have hm : (gplain .ixor && (decide (cins = .ixor) && Nat.beq len 1)) = true := hm
    rw [Bool.and_eq_true, Bool.and_eq_true, decide_eq_true_eq] at hm
    obtain ⟨-, rfl, h1⟩ := hm
    cases Nat.eq_of_beq_eq_true h1
    unfold gstep at h
    dsimp only at h
    split at h
    · exact lv_ixor hx hb hd (go _ _ _ _ _ h als hl hR hS hA hc hs)
    · exact h.elim
  | ishl =>
    have hm : (gplain .ishl && (decide (cins = .ishl) && Nat.beq len 1)) = true := hm
    rw [Bool.and_eq_true, Bool.and_eq_true, decide_eq_true_eq] at hm
    obtain ⟨-, rfl, h1⟩ := hm
    cases Nat.eq_of_beq_eq_true h1
    unfold gstep at h
    dsimp only at h
    split at h
    · exact lv_ishl hx hb hd (go _ _ _ _ _ h als hl hR hS hA hc hs)
    · exact h.elim
  | ishr =>
    have hm : (gplain .ishr && (decide (cins = .ishr) && Nat.beq len 1)) = true := hm
    rw [Bool.and_eq_true, Bool.and_eq_true, decide_eq_true_eq] at hm
    obtain ⟨-, rfl, h1⟩ := hm
    cases Nat.eq_of_beq_eq_true h1
    unfold gstep at h
    dsimp only at h
    split at h
    · exact lv_ishr hx hb hd (go _ _ _ _ _ h als hl hR hS hA hc hs)
    · exact h.elim
  | ineg =>
    have hm : (gplain .ineg && (decide (cins = .ineg) && Nat.beq len 1)) = true := hm
    rw [Bool.and_eq_true, Bool.and_eq_true, decide_eq_true_eq] at hm
    obtain ⟨-, rfl, h1⟩ := hm
    cases Nat.eq_of_beq_eq_true h1
    unfold gstep at h
    dsimp only at h
    split at h
    · exact lv_ineg hx hb hd (go _ _ _ _ _ h als hl hR hS hA hc hs)
    · exact h.elim
  | idiv =>
    have hm : (gplain .idiv && (decide (cins = .idiv) && Nat.beq len 1)) = true := hm
    rw [Bool.and_eq_true, Bool.and_eq_true, decide_eq_true_eq] at hm
    obtain ⟨-, rfl, h1⟩ := hm
    cases Nat.eq_of_beq_eq_true h1
    unfold gstep at h
    dsimp only at h
    split at h
    · split at h
      · exact h.elim
      · rename_i hne
        exact lv_idiv hx hb hd hne (go _ _ _ _ _ h als hl hR hS hA hc hs)
    · exact h.elim
  | irem =>
    have hm : (gplain .irem && (decide (cins = .irem) && Nat.beq len 1)) = true := hm
    rw [Bool.and_eq_true, Bool.and_eq_true, decide_eq_true_eq] at hm
    obtain ⟨-, rfl, h1⟩ := hm
    cases Nat.eq_of_beq_eq_true h1
    unfold gstep at h
    dsimp only at h
    split at h
    · split at h
      · exact h.elim
      · rename_i hne
        exact lv_irem hx hb hd hne (go _ _ _ _ _ h als hl hR hS hA hc hs)
    · exact h.elim
  | ladd =>
    have hm : (gplain .ladd && (decide (cins = .ladd) && Nat.beq len 1)) = true := hm
    rw [Bool.and_eq_true, Bool.and_eq_true, decide_eq_true_eq] at hm
    obtain ⟨-, rfl, h1⟩ := hm
    cases Nat.eq_of_beq_eq_true h1
    unfold gstep at h
    dsimp only at h
    split at h
    · exact lv_ladd hx hb hd (go _ _ _ _ _ h als hl hR hS hA hc hs)
    · exact h.elim
  | lmul =>
    have hm : (gplain .lmul && (decide (cins = .lmul) && Nat.beq len 1)) = true := hm
    rw [Bool.and_eq_true, Bool.and_eq_true, decide_eq_true_eq] at hm
    obtain ⟨-, rfl, h1⟩ := hm
    cases Nat.eq_of_beq_eq_true h1
    unfold gstep at h
    dsimp only at h
    split at h
    · exact lv_lmul hx hb hd (go _ _ _ _ _ h als hl hR hS hA hc hs)
    · exact h.elim
  | ldiv =>
    have hm : (gplain .ldiv && (decide (cins = .ldiv) && Nat.beq len 1)) = true := hm
    rw [Bool.and_eq_true, Bool.and_eq_true, decide_eq_true_eq] at hm
    obtain ⟨-, rfl, h1⟩ := hm
    cases Nat.eq_of_beq_eq_true h1
    unfold gstep at h
    dsimp only at h
    split at h
    · split at h
      · exact h.elim
      · rename_i hne
        exact lv_ldiv hx hb hd hne (go _ _ _ _ _ h als hl hR hS hA hc hs)
    · exact h.elim
  | i2l =>
    have hm : (gplain .i2l && (decide (cins = .i2l) && Nat.beq len 1)) = true := hm
    rw [Bool.and_eq_true, Bool.and_eq_true, decide_eq_true_eq] at hm
    obtain ⟨-, rfl, h1⟩ := hm
    cases Nat.eq_of_beq_eq_true h1
    unfold gstep at h
    dsimp only at h
    split at h
    · exact lv_i2l hx hb hd rfl (go _ _ _ _ _ h als hl hR hS hA hc hs)
    · exact h.elim
  | l2i =>
    have hm : (gplain .l2i && (decide (cins = .l2i) && Nat.beq len 1)) = true := hm
    rw [Bool.and_eq_true, Bool.and_eq_true, decide_eq_true_eq] at hm
    obtain ⟨-, rfl, h1⟩ := hm
    cases Nat.eq_of_beq_eq_true h1
    unfold gstep at h
    dsimp only at h
    split at h
    · exact lv_l2i hx hb hd rfl (go _ _ _ _ _ h als hl hR hS hA hc hs)
    · exact h.elim
  | i2b =>
    have hm : (gplain .i2b && (decide (cins = .i2b) && Nat.beq len 1)) = true := hm
    rw [Bool.and_eq_true, Bool.and_eq_true, decide_eq_true_eq] at hm
    obtain ⟨-, rfl, h1⟩ := hm
    cases Nat.eq_of_beq_eq_true h1
    unfold gstep at h
    dsimp only at h
    split at h
    · exact lv_i2b hx hb hd rfl (go _ _ _ _ _ h als hl hR hS hA hc hs)
    · exact h.elim
  | i2s =>
    have hm : (gplain .i2s && (decide (cins = .i2s) && Nat.beq len 1)) = true := hm
    rw [Bool.and_eq_true, Bool.and_eq_true, decide_eq_true_eq] at hm
    obtain ⟨-, rfl, h1⟩ := hm
    cases Nat.eq_of_beq_eq_true h1
    unfold gstep at h
    dsimp only at h
    split at h
    · exact lv_i2s hx hb hd rfl (go _ _ _ _ _ h als hl hR hS hA hc hs)
    · exact h.elim
  | lshr =>
    have hm : (gplain .lshr && (decide (cins = .lshr) && Nat.beq len 1)) = true := hm
    rw [Bool.and_eq_true, Bool.and_eq_true, decide_eq_true_eq] at hm
    obtain ⟨-, rfl, h1⟩ := hm
    cases Nat.eq_of_beq_eq_true h1
    unfold gstep at h
    dsimp only at h
    split at h
    · exact lv_lshr hx hb hd rfl (go _ _ _ _ _ h als hl hR hS hA hc hs)
    · exact h.elim
  | lushr =>
    have hm : (gplain .lushr && (decide (cins = .lushr) && Nat.beq len 1)) = true := hm
    rw [Bool.and_eq_true, Bool.and_eq_true, decide_eq_true_eq] at hm
    obtain ⟨-, rfl, h1⟩ := hm
    cases Nat.eq_of_beq_eq_true h1
    unfold gstep at h
    dsimp only at h
    split at h
    · exact lv_lushr hx hb hd rfl (go _ _ _ _ _ h als hl hR hS hA hc hs)
    · exact h.elim
  | lcmp =>
    have hm : (gplain .lcmp && (decide (cins = .lcmp) && Nat.beq len 1)) = true := hm
    rw [Bool.and_eq_true, Bool.and_eq_true, decide_eq_true_eq] at hm
    obtain ⟨-, rfl, h1⟩ := hm
    cases Nat.eq_of_beq_eq_true h1
    unfold gstep at h
    dsimp only at h
    split at h
    · exact W.lcmp hx hb hd (go _ _ _ _ _ h als hl hR hS hA hc hs)
    · exact h.elim
  | dup =>
    have hm : (gplain .dup && (decide (cins = .dup) && Nat.beq len 1)) = true := hm
    rw [Bool.and_eq_true, Bool.and_eq_true, decide_eq_true_eq] at hm
    obtain ⟨-, rfl, h1⟩ := hm
    cases Nat.eq_of_beq_eq_true h1
    unfold gstep at h
    dsimp only at h
    split at h
    · exact lv_dup hx hb hd rfl (go _ _ _ _ _ h als hl hR hS hA hc hs)
    · exact lv_dup hx hb hd rfl (go _ _ _ _ _ h als hl hR hS hA hc hs)
    · exact h.elim
  | dup2 =>
    have hm : (gplain .dup2 && (decide (cins = .dup2) && Nat.beq len 1)) = true := hm
    rw [Bool.and_eq_true, Bool.and_eq_true, decide_eq_true_eq] at hm
    obtain ⟨-, rfl, h1⟩ := hm
    cases Nat.eq_of_beq_eq_true h1
    unfold gstep at h
    dsimp only at h
    split at h
    · exact lv_dup2_11 hx hb hd rfl rfl (go _ _ _ _ _ h als hl hR hS hA hc hs)
    · exact h.elim
  | pop =>
    have hm : (gplain .pop && (decide (cins = .pop) && Nat.beq len 1)) = true := hm
    rw [Bool.and_eq_true, Bool.and_eq_true, decide_eq_true_eq] at hm
    obtain ⟨-, rfl, h1⟩ := hm
    cases Nat.eq_of_beq_eq_true h1
    unfold gstep at h
    dsimp only at h
    split at h
    · exact lv_pop hx hb hd rfl (go _ _ _ _ _ h als hl hR hS hA hc hs)
    · exact h.elim
  | iconst i0 =>
    have h : k (pc + len) ls (.int v :: st) q bd := h
    unfold gmt at hm
    dsimp only at hm
    split at hm
    · rw [Bool.and_eq_true, decide_eq_true_eq] at hm
      cases Nat.eq_of_beq_eq_true hm.1
      exact lv_iconst hx hb hd hm.2 (go _ _ _ _ _ h als hl hR hS hA hc hs)
    · rw [Bool.and_eq_true, decide_eq_true_eq] at hm
      cases Nat.eq_of_beq_eq_true hm.1
      exact lv_bipush hx hb hd hm.2 (go _ _ _ _ _ h als hl hR hS hA hc hs)
    · rw [Bool.and_eq_true, decide_eq_true_eq] at hm
      cases Nat.eq_of_beq_eq_true hm.1
      exact lv_sipush hx hb hd hm.2 (go _ _ _ _ _ h als hl hR hS hA hc hs)
    · rw [Bool.and_eq_true] at hm
      cases Nat.eq_of_beq_eq_true hm.1
      obtain ⟨⟨a1, a2, a3, a4⟩, hq, hq2⟩ := List.any_eq_true.mp hm.2
      simp only [Bool.and_eq_true, decide_eq_true_eq] at hq2
      obtain ⟨z1, z2, rfl⟩ := hq2
      cases Nat.eq_of_beq_eq_true z1; cases Nat.eq_of_beq_eq_true z2
      exact lv_ldc hx hb hown (hts _ (gix_mem (List.all_eq_true.mp gCO_all _ hq))) hd (go _ _ _ _ _ h als hl hR hS hA hc hs)
    · rw [Bool.and_eq_true] at hm
      cases Nat.eq_of_beq_eq_true hm.1
      obtain ⟨⟨a1, a2, a3, a4⟩, hq, hq2⟩ := List.any_eq_true.mp hm.2
      simp only [Bool.and_eq_true, decide_eq_true_eq] at hq2
      obtain ⟨z1, z2, rfl⟩ := hq2
      cases Nat.eq_of_beq_eq_true z1; cases Nat.eq_of_beq_eq_true z2
      exact lv_ldcw hx hb hown (hts _ (gix_mem (List.all_eq_true.mp gCO_all _ hq))) hd (go _ _ _ _ _ h als hl hR hS hA hc hs)
    · cases hm
  | lconst i0 =>
    have h : k (pc + len) ls (.long v.toInt64 :: st) q bd := h
    unfold gmt at hm
    dsimp only at hm
    split at hm
    · rw [Bool.and_eq_true, decide_eq_true_eq] at hm
      cases Nat.eq_of_beq_eq_true hm.1
      exact lv_lconst hx hb hd hm.2 (go _ _ _ _ _ h als hl hR hS hA hc hs)
    · rw [Bool.and_eq_true] at hm
      cases Nat.eq_of_beq_eq_true hm.1
      obtain ⟨⟨a1, a2, a3, a4⟩, hq, hq2⟩ := List.any_eq_true.mp hm.2
      simp only [Bool.and_eq_true, decide_eq_true_eq] at hq2
      obtain ⟨z1, z2, rfl⟩ := hq2
      cases Nat.eq_of_beq_eq_true z1; cases Nat.eq_of_beq_eq_true z2
      exact lv_ldc2 hx hb hown (hts _ (gix_mem (List.all_eq_true.mp gLO_all _ hq))) hd (go _ _ _ _ _ h als hl hR hS hA hc hs)
    · cases hm
  | ldc j =>
    have h : k (pc + len) ls (.retAddr j :: st) q bd := h
    unfold gmt at hm
    dsimp only at hm
    split at hm
    · rw [Bool.and_eq_true] at hm
      cases Nat.eq_of_beq_eq_true hm.1
      obtain ⟨⟨a1, a2, a3⟩, hq, hq2⟩ := List.any_eq_true.mp hm.2
      simp only [Bool.and_eq_true] at hq2
      obtain ⟨z1, z2, z3⟩ := hq2
      cases Nat.eq_of_beq_eq_true z1; cases Nat.eq_of_beq_eq_true z2; cases Nat.eq_of_beq_eq_true z3
      exact va_ldcS hx hb hown (hE.2.2.2 _ hq) hd (go _ _ _ _ _ h als hl hR hS hA hc hs)
    · cases hm
  | iload i =>
    unfold gmt at hm
    dsimp only at hm
    unfold gstep at h
    dsimp only at h
    split at h
    · rename_i x hg
      have hg := gloc hl hg
      split at hm
      · rw [Bool.and_eq_true] at hm
        cases Nat.eq_of_beq_eq_true hm.1; cases Nat.eq_of_beq_eq_true hm.2
        exact lv_iload hx hb hd hg (go _ _ _ _ _ h als hl hR hS hA hc hs)
      · rw [Bool.and_eq_true] at hm
        cases Nat.eq_of_beq_eq_true hm.1
        exact lv_iload_n hx hb hd (Nat.eq_of_beq_eq_true hm.2) hg (go _ _ _ _ _ h als hl hR hS hA hc hs)
      · cases hm
    · exact h.elim
  | lload i =>
    unfold gmt at hm
    dsimp only at hm
    unfold gstep at h
    dsimp only at h
    split at h
    · rename_i x hg
      have hg := gloc hl hg
      split at hm
      · rw [Bool.and_eq_true] at hm
        cases Nat.eq_of_beq_eq_true hm.1; cases Nat.eq_of_beq_eq_true hm.2
        exact lv_lload hx hb hd hg (go _ _ _ _ _ h als hl hR hS hA hc hs)
      · rw [Bool.and_eq_true] at hm
        cases Nat.eq_of_beq_eq_true hm.1
        exact lv_lload_n hx hb hd (Nat.eq_of_beq_eq_true hm.2) hg (go _ _ _ _ _ h als hl hR hS hA hc hs)
      · cases hm
    · exact h.elim
  | aload i =>
    unfold gmt at hm
    dsimp only at hm
    unfold gstep at h
    dsimp only at h
    split at h
    · rename_i x hg
      have hg := gloc hl hg
      split at hm
      · rw [Bool.and_eq_true] at hm
        cases Nat.eq_of_beq_eq_true hm.1; cases Nat.eq_of_beq_eq_true hm.2
        exact lv_aload hx hb hd hg (go _ _ _ _ _ h als hl hR hS hA hc hs)
      · rw [Bool.and_eq_true] at hm
        cases Nat.eq_of_beq_eq_true hm.1
        exact lv_aload_n hx hb hd (Nat.eq_of_beq_eq_true hm.2) hg (go _ _ _ _ _ h als hl hR hS hA hc hs)
      · cases hm
    · rename_i x hg
      have hg := gloc hl hg
      split at hm
      · rw [Bool.and_eq_true] at hm
        cases Nat.eq_of_beq_eq_true hm.1; cases Nat.eq_of_beq_eq_true hm.2
        exact lv_aload hx hb hd hg (go _ _ _ _ _ h als hl hR hS hA hc hs)
      · rw [Bool.and_eq_true] at hm
        cases Nat.eq_of_beq_eq_true hm.1
        exact lv_aload_n hx hb hd (Nat.eq_of_beq_eq_true hm.2) hg (go _ _ _ _ _ h als hl hR hS hA hc hs)
      · cases hm
    · exact h.elim
  | istore i =>
    unfold gmt at hm
    dsimp only at hm
    unfold gstep at h
    dsimp only at h
    split at h
    · split at hm
      · rw [Bool.and_eq_true, Bool.and_eq_true] at hm
        obtain ⟨z1, z2, z3⟩ := hm
        cases Nat.eq_of_beq_eq_true z1
        have z3 := Nat.le_of_ble_eq_true z3
        cases Nat.eq_of_beq_eq_true z2
        exact lv_istore hx hb hd hl (by omega) rfl (fun als1 hl1 => go _ _ _ _ _ h als1 (gloc_set hl1) hR hS hA hc hs)
      · rw [Bool.and_eq_true, Bool.and_eq_true] at hm
        obtain ⟨z1, z2, z3⟩ := hm
        cases Nat.eq_of_beq_eq_true z1
        have z3 := Nat.le_of_ble_eq_true z3
        exact lv_istore_n hx hb hd (Nat.eq_of_beq_eq_true z2) hl (by omega) rfl (fun als1 hl1 => go _ _ _ _ _ h als1 (gloc_set hl1) hR hS hA hc hs)
      · cases hm
    · exact h.elim
  | lstore i =>
    unfold gmt at hm
    dsimp only at hm
    unfold gstep at h
    dsimp only at h
    split at h
    · split at hm
      · rw [Bool.and_eq_true, Bool.and_eq_true] at hm
        obtain ⟨z1, z2, z3⟩ := hm
        cases Nat.eq_of_beq_eq_true z1
        have z3 := Nat.le_of_ble_eq_true z3
        cases Nat.eq_of_beq_eq_true z2
        exact lv_lstore hx hb hd hl (by omega) rfl (fun als1 hl1 => go _ _ _ _ _ h als1 (gloc_set2 hl1) hR hS hA hc hs)
      · rw [Bool.and_eq_true, Bool.and_eq_true] at hm
        obtain ⟨z1, z2, z3⟩ := hm
        cases Nat.eq_of_beq_eq_true z1
        have z3 := Nat.le_of_ble_eq_true z3
        exact lv_lstore_n hx hb hd (Nat.eq_of_beq_eq_true z2) hl (by omega) rfl (fun als1 hl1 => go _ _ _ _ _ h als1 (gloc_set2 hl1) hR hS hA hc hs)
      · cases hm
    · exact h.elim
  | astore i =>
    unfold gmt at hm
    dsimp only at hm
    unfold gstep at h
    dsimp only at h
    split at h
    · split at hm
      · rw [Bool.and_eq_true, Bool.and_eq_true] at hm
        obtain ⟨z1, z2, z3⟩ := hm
        cases Nat.eq_of_beq_eq_true z1
        have z3 := Nat.le_of_ble_eq_true z3
        cases Nat.eq_of_beq_eq_true z2
        exact lv_astore hx hb hd hl (by omega) rfl (fun als1 hl1 => go _ _ _ _ _ h als1 (gloc_set hl1) hR hS hA hc hs)
      · rw [Bool.and_eq_true, Bool.and_eq_true] at hm
        obtain ⟨z1, z2, z3⟩ := hm
        cases Nat.eq_of_beq_eq_true z1
        have z3 := Nat.le_of_ble_eq_true z3
        exact lv_astore_n hx hb hd (Nat.eq_of_beq_eq_true z2) hl (by omega) rfl (fun als1 hl1 => go _ _ _ _ _ h als1 (gloc_set hl1) hR hS hA hc hs)
      · cases hm
    · exact h.elim
  | iinc i n0 =>
    unfold gmt at hm
    dsimp only at hm
    unfold gstep at h
    dsimp only at h
    split at h
    · rename_i x hg
      split at hm
      · rw [Bool.and_eq_true, Bool.and_eq_true, Bool.and_eq_true, decide_eq_true_eq] at hm
        obtain ⟨z1, z2, z3, z4⟩ := hm
        cases Nat.eq_of_beq_eq_true z1; cases Nat.eq_of_beq_eq_true z2
        have z3 := Nat.le_of_ble_eq_true z3
        obtain ⟨k9, hk9⟩ := List.getElem?_of_mem (gas_in (b := b) (str := str) (k := 0) hg)
        rw [Nat.zero_add] at hk9
        exact lv_iinc hx hb hd hl hk9 (by rw [z4]) (by omega) rfl (fun als1 hl1 => go _ _ _ _ _ h als1 (gloc_set (v := .int (x + v)) hl1) hR hS hA hc hs)
      · cases hm
    · exact h.elim
  | ifCond c1 t =>
    unfold gmt at hm
    dsimp only at hm
    unfold gstep at h
    dsimp only at h
    split at h
    · split at hm
      · rw [Bool.and_eq_true, Bool.and_eq_true, decide_eq_true_eq, decide_eq_true_eq] at hm
        obtain ⟨z1, rfl, ht⟩ := hm
        cases Nat.eq_of_beq_eq_true z1
        rename_i c0 off
        cases c0 with
        | eq =>
          unfold gcmp at h
          dsimp only at h
          exact lv_if_eq hx hb hd ht (fun z => go _ _ _ _ _ (gb_eq_t z h) als hl hR hS hA hc hs) (fun z => go _ _ _ _ _ (gb_eq_f z h) als hl hR hS hA hc hs)
        | ne =>
          unfold gcmp at h
          dsimp only at h
          exact lv_if_ne hx hb hd ht (fun z => go _ _ _ _ _ (gb_ne_t z h) als hl hR hS hA hc hs) (fun z => go _ _ _ _ _ (gb_ne_f z h) als hl hR hS hA hc hs)
        | lt =>
          unfold gcmp at h
          dsimp only at h
          exact lv_if_lt hx hb hd ht (fun z => go _ _ _ _ _ (gb_lt_t z h) als hl hR hS hA hc hs) (fun z => go _ _ _ _ _ (gb_lt_f z h) als hl hR hS hA hc hs)
        | ge =>
          unfold gcmp at h
          dsimp only at h
          exact lv_if_ge hx hb hd ht (fun z => go _ _ _ _ _ (gb_ge_t z h) als hl hR hS hA hc hs) (fun z => go _ _ _ _ _ (gb_ge_f z h) als hl hR hS hA hc hs)
        | gt =>
          unfold gcmp at h
          dsimp only at h
          exact lv_if_gt hx hb hd ht (fun z => go _ _ _ _ _ (gb_gt_t z h) als hl hR hS hA hc hs) (fun z => go _ _ _ _ _ (gb_gt_f z h) als hl hR hS hA hc hs)
        | le =>
          unfold gcmp at h
          dsimp only at h
          exact lv_if_le hx hb hd ht (fun z => go _ _ _ _ _ (gb_le_t z h) als hl hR hS hA hc hs) (fun z => go _ _ _ _ _ (gb_le_f z h) als hl hR hS hA hc hs)
      · cases hm
    · exact h.elim
  | if_icmp c1 t =>
    unfold gmt at hm
    dsimp only at hm
    unfold gstep at h
    dsimp only at h
    split at h
    · split at hm
      · rw [Bool.and_eq_true, Bool.and_eq_true, decide_eq_true_eq, decide_eq_true_eq] at hm
        obtain ⟨z1, rfl, ht⟩ := hm
        cases Nat.eq_of_beq_eq_true z1
        rename_i c0 off
        cases c0 with
        | eq =>
          unfold gcmp at h
          dsimp only at h
          exact lv_icmp_eq hx hb hd ht (fun z => go _ _ _ _ _ (gb_eq_t z h) als hl hR hS hA hc hs) (fun z => go _ _ _ _ _ (gb_eq_f z h) als hl hR hS hA hc hs)
        | ne =>
          unfold gcmp at h
          dsimp only at h
          exact lv_icmp_ne hx hb hd ht (fun z => go _ _ _ _ _ (gb_ne_t z h) als hl hR hS hA hc hs) (fun z => go _ _ _ _ _ (gb_ne_f z h) als hl hR hS hA hc hs)
        | lt =>
          unfold gcmp at h
          dsimp only at h
          exact lv_icmp_lt hx hb hd ht (fun z => go _ _ _ _ _ (gb_lt_t z h) als hl hR hS hA hc hs) (fun z => go _ _ _ _ _ (gb_lt_f z h) als hl hR hS hA hc hs)
        | ge =>
          unfold gcmp at h
          dsimp only at h
          exact lv_icmp_ge hx hb hd ht (fun z => go _ _ _ _ _ (gb_ge_t z h) als hl hR hS hA hc hs) (fun z => go _ _ _ _ _ (gb_ge_f z h) als hl hR hS hA hc hs)
        | gt =>
          unfold gcmp at h
          dsimp only at h
          exact lv_icmp_gt hx hb hd ht (fun z => go _ _ _ _ _ (gb_gt_t z h) als hl hR hS hA hc hs) (fun z => go _ _ _ _ _ (gb_gt_f z h) als hl hR hS hA hc hs)
        | le =>
          unfold gcmp at h
          dsimp only at h
          exact lv_icmp_le hx hb hd ht (fun z => go _ _ _ _ _ (gb_le_t z h) als hl hR hS hA hc hs) (fun z => go _ _ _ _ _ (gb_le_f z h) als hl hR hS hA hc hs)
      · cases hm
    · exact h.elim
  | ifnonnull t =>
    unfold gmt at hm
    dsimp only at hm
    unfold gstep at h
    dsimp only at h
    split at hm
    · rw [Bool.and_eq_true, decide_eq_true_eq] at hm
      cases Nat.eq_of_beq_eq_true hm.1
      split at h
      · exact lv_ifnonnull hx hb hd hm.2 (go _ _ _ _ _ h als hl hR hS hA hc hs)
      · exact lv_ifnonnullN hx hb hd (go _ _ _ _ _ h als hl hR hS hA hc hs)
      · exact h.elim
    · cases hm
  | goto t =>
    unfold gmt at hm
    dsimp only at hm
    have h : k t.toNat ls st q bd := h
    split at hm
    · rw [Bool.and_eq_true, decide_eq_true_eq] at hm
      cases Nat.eq_of_beq_eq_true hm.1
      exact lv_goto hx hb hd hm.2 (go _ _ _ _ _ h als hl hR hS hA hc hs)
    · cases hm
  | lookupswitch dd ps =>
    unfold gstep at h
    dsimp only at h
    split at h
    · rename_i x st
      exact gswitch hx hb hd hm h (fun t ht => go _ _ _ _ _ ht als hl hR hS hA hc hs)
    · exact h.elim
  | invokeinterface ci f =>
    unfold gmt at hm
    dsimp only at hm
    unfold gstep at h
    dsimp only at h
    split at hm
    · rw [Bool.and_eq_true] at hm
      cases Nat.eq_of_beq_eq_true hm.1
      obtain ⟨pos, hq⟩ := g4_mem hm.2
      obtain ⟨C, T, N, hcl, hw⟩ := gfb_of (List.all_eq_true.mp gFL_all _ hq)
      split at h
      · split at h
        · rename_i c0 fs hsq
          cases hcc : Nat.beq c0 ci with
          | true =>
            rw [hcc] at h
            cases Nat.eq_of_beq_eq_true hcc
            have h := h
            dsimp only [cond] at h
            split at h
            · rename_i f9 hf9
              exact g_get hx hb hts (fun w hw => hw) hown hK hR hsq hcl hf9 (hts _ hw) hd (go _ _ _ _ _ h als hl hR hS hA hc hs)
            · exact h.elim
          | false =>
            rw [hcc] at h
            exact (h : False).elim
        · exact h.elim
      · exact h.elim
    · cases hm
  | multianewarray ci f =>
    unfold gmt at hm
    dsimp only at hm
    unfold gstep at h
    dsimp only at h
    split at hm
    · rw [Bool.and_eq_true, Bool.or_eq_true] at hm
      cases Nat.eq_of_beq_eq_true hm.1
      have hm := hm.2
      split at h
      · split at h
        · rename_i c0 fs hsq
          cases hcc : Nat.beq c0 ci with
          | true =>
            rw [hcc] at h
            cases Nat.eq_of_beq_eq_true hcc
            dsimp only [cond] at h
            split at h
            · rename_i hf9 hg9
              rcases hm with hm | hm
              · obtain ⟨pos, hq⟩ := g4_mem hm
                obtain ⟨C9, T9, N9, hcl, hw, hfi, hpd, hdf⟩ := gfbI_of (List.all_eq_true.mp gPI_all _ hq)
                cases hz : gZf _ f with
                | true =>
                  rw [hz] at h hpd
                  dsimp only [cond] at h
                  split at h
                  · rename_i h01
                    exact g_putI hx hb hts (fun w hw => hw) hown hK hR hS (hA _ (gA.at hsq)) hsq hcl hf9 (hts _ hw) hfi hpd (by rcases h01 with rfl | rfl <;> rfl) (by rcases h01 with rfl | rfl <;> rfl) hd (fun H9 locs9 hR9 hS9 => hk _ _ _ _ _ h H9 locs9 cells slots als hl hR9 hS9 hA hc hs)
                  · exact h.elim
                | false =>
                  rw [hz] at h hpd
                  exact g_putI hx hb hts (fun w hw => hw) hown hK hR hS (hA _ (gA.at hsq)) hsq hcl hf9 (hts _ hw) hfi hpd rfl rfl hd (fun H9 locs9 hR9 hS9 => hk _ _ _ _ _ h H9 locs9 cells slots als hl hR9 hS9 hA hc hs)
              · rw [Bool.and_eq_true] at hm
                obtain ⟨pos, hq⟩ := g4_mem hm.2
                obtain ⟨C9, T9, N9, ty9, hcl, hw, hfi, hdc, hpd, hnf, hdf⟩ := gfbR_of (List.all_eq_true.mp gPR_all _ hq)
                rw [hg9] at hdf
                cases hdf
            · exact h.elim
          | false =>
            rw [hcc] at h
            exact (h : False).elim
        · exact h.elim
      · split at h
        · rename_i c0 fs hsq
          cases hcc : Nat.beq c0 ci with
          | true =>
            rw [hcc] at h
            cases Nat.eq_of_beq_eq_true hcc
            dsimp only [cond] at h
            split at h
            · rename_i hf9 hg9
              rcases hm with hm | hm
              · obtain ⟨pos, hq⟩ := g4_mem hm
                obtain ⟨C9, T9, N9, hcl, hw, hfi, hpd, hdf⟩ := gfbI_of (List.all_eq_true.mp gPI_all _ hq)
                rw [hg9] at hdf
                cases hdf
              · rw [Bool.and_eq_true] at hm
                obtain ⟨pos, hq⟩ := g4_mem hm.2
                obtain ⟨C9, T9, N9, ty9, hcl, hw, hfi, hdc, hpd, hnf, hdf⟩ := gfbR_of (List.all_eq_true.mp gPR_all _ hq)
                exact g_putR hx hb hts (fun w hw => hw) hown hK hR hS (hA _ (gA.at hsq)) hsq hcl hf9 (hts _ hw) hfi (hin hm.1) hdc hpd (hnf _).1 (hnf _).2 hd (fun H9 locs9 hR9 hS9 => hk _ _ _ _ _ h H9 locs9 cells slots als hl hR9 hS9 (fun x hx => hA x (gA.set hsq x hx)) hc hs)
            · exact h.elim
          | false =>
            rw [hcc] at h
            exact (h : False).elim
        · exact h.elim
      · exact h.elim
    · cases hm
  | iaload =>
    have hm : (gplain .iaload && (decide (cins = .iaload) && Nat.beq len 1)) = true := hm
    rw [Bool.and_eq_true, Bool.and_eq_true, decide_eq_true_eq] at hm
    obtain ⟨-, rfl, h1⟩ := hm
    cases Nat.eq_of_beq_eq_true h1
    unfold gstep at h
    dsimp only at h
    split at h
    · split at h
      · rename_i n9 hsq
        cases hg : gib _ n9 with
        | true =>
          rw [hg] at h
          exact g_iald hx hb hK hR hsq hg hd (go _ _ _ _ _ h als hl hR hS hA hc hs)
        | false =>
          rw [hg] at h
          exact (h : False).elim
      · exact h.elim
    · exact h.elim
  | baload =>
    have hm : (gplain .baload && (decide (cins = .baload) && Nat.beq len 1)) = true := hm
    rw [Bool.and_eq_true, Bool.and_eq_true, decide_eq_true_eq] at hm
    obtain ⟨-, rfl, h1⟩ := hm
    cases Nat.eq_of_beq_eq_true h1
    unfold gstep at h
    dsimp only at h
    split at h
    · split at h
      · rename_i n9 hsq
        cases hg : gib _ n9 with
        | true =>
          rw [hg] at h
          exact g_zald hx hb hK hR hsq hg hd (go _ _ _ _ _ h als hl hR hS hA hc hs)
        | false =>
          rw [hg] at h
          exact (h : False).elim
      · exact h.elim
    · exact h.elim
  | laload =>
    have hm : (gplain .laload && (decide (cins = .laload) && Nat.beq len 1)) = true := hm
    rw [Bool.and_eq_true, Bool.and_eq_true, decide_eq_true_eq] at hm
    obtain ⟨-, rfl, h1⟩ := hm
    cases Nat.eq_of_beq_eq_true h1
    unfold gstep at h
    dsimp only at h
    split at h
    · split at h
      · rename_i n9 hsq
        cases hg : gib _ n9 with
        | true =>
          rw [hg] at h
          exact g_lald hx hb hK hR hsq hg hd (go _ _ _ _ _ h als hl hR hS hA hc hs)
        | false =>
          rw [hg] at h
          exact (h : False).elim
      · exact h.elim
    · exact h.elim
  | aaload =>
    have hm : (gplain .aaload && (decide (cins = .aaload) && Nat.beq len 1)) = true := hm
    rw [Bool.and_eq_true, Bool.and_eq_true, decide_eq_true_eq] at hm
    obtain ⟨-, rfl, h1⟩ := hm
    cases Nat.eq_of_beq_eq_true h1
    unfold gstep at h
    dsimp only at h
    split at h
    · split at h
      · rename_i kd lx hsq
        cases hkd : (Nat.beq kd 10 || Nat.beq kd 12) with
        | true =>
          rw [hkd] at h
          have hkd : kd = 10 ∨ kd = 12 := by
            rw [Bool.or_eq_true] at hkd
            exact hkd.imp Nat.eq_of_beq_eq_true Nat.eq_of_beq_eq_true
          dsimp only [cond] at h
          obtain ⟨hg, h⟩ := gcond h
          · skip
            refine g_aald hx hb hK hR hsq hkd hg hd ?_
            split at h
            · rename_i t9 ht9
              rw [ht9]
              exact go _ _ _ _ _ h als hl hR hS hA hc hs
            · rename_i ht9
              rw [ht9]
              exact go _ _ _ _ _ h als hl hR hS hA hc hs
        | false =>
          rw [hkd] at h
          exact (h : False).elim
      · exact h.elim
    · exact h.elim
  | iastore =>
    have hm : (gplain .iastore && (decide (cins = .iastore) && Nat.beq len 1)) = true := hm
    rw [Bool.and_eq_true, Bool.and_eq_true, decide_eq_true_eq] at hm
    obtain ⟨-, rfl, h1⟩ := hm
    cases Nat.eq_of_beq_eq_true h1
    unfold gstep at h
    dsimp only at h
    split at h
    · split at h
      · rename_i n9 hsq
        cases hg : gib _ n9 with
        | true =>
          rw [hg] at h
          exact g_iast hx hb hK hR hS (hA _ (gA.at hsq)) hsq hg hd (fun H9 locs9 hR9 hS9 => hk _ _ _ _ _ h H9 locs9 cells slots als hl hR9 hS9 hA hc hs)
        | false =>
          rw [hg] at h
          exact (h : False).elim
      · exact h.elim
    · exact h.elim
  | bastore =>
    have hm : (gplain .bastore && (decide (cins = .bastore) && Nat.beq len 1)) = true := hm
    rw [Bool.and_eq_true, Bool.and_eq_true, decide_eq_true_eq] at hm
    obtain ⟨-, rfl, h1⟩ := hm
    cases Nat.eq_of_beq_eq_true h1
    unfold gstep at h
    dsimp only at h
    split at h
    · split at h
      · rename_i n9 hsq
        cases hg : gib _ n9 with
        | true =>
          rw [hg] at h
          dsimp only [cond] at h
          split at h
          · rename_i h01
            exact g_zast hx hb hK hR hS (hA _ (gA.at hsq)) hsq hg h01 hd (fun H9 locs9 hR9 hS9 => hk _ _ _ _ _ h H9 locs9 cells slots als hl hR9 hS9 hA hc hs)
          · exact h.elim
        | false =>
          rw [hg] at h
          exact (h : False).elim
      · exact h.elim
    · exact h.elim
  | lastore =>
    have hm : (gplain .lastore && (decide (cins = .lastore) && Nat.beq len 1)) = true := hm
    rw [Bool.and_eq_true, Bool.and_eq_true, decide_eq_true_eq] at hm
    obtain ⟨-, rfl, h1⟩ := hm
    cases Nat.eq_of_beq_eq_true h1
    unfold gstep at h
    dsimp only at h
    split at h
    · split at h
      · rename_i n9 hsq
        cases hg : gib _ n9 with
        | true =>
          rw [hg] at h
          exact g_last hx hb hK hR hS (hA _ (gA.at hsq)) hsq hg hd (fun H9 locs9 hR9 hS9 => hk _ _ _ _ _ h H9 locs9 cells slots als hl hR9 hS9 hA hc hs)
        | false =>
          rw [hg] at h
          exact (h : False).elim
      · exact h.elim
    · exact h.elim
  | aastore =>
    have hm : (gplain .aastore && (decide (cins = .aastore) && Nat.beq len 1)) = true := hm
    rw [Bool.and_eq_true, Bool.and_eq_true, decide_eq_true_eq] at hm
    obtain ⟨-, rfl, h1⟩ := hm
    cases Nat.eq_of_beq_eq_true h1
    unfold gstep at h
    dsimp only at h
    split at h
    · split at h
      · rename_i kd lx hsq
        cases hg : gib _ lx.length with
        | true =>
          rw [hg] at h
          dsimp only [cond] at h
          split at h
          · rename_i c9 fs9 hst
            obtain ⟨hkd, h⟩ := gcond h
            · skip
              rw [Bool.and_eq_true, Bool.or_eq_true] at hkd
              exact g_aast hx hb hK hR hS (hA _ (gA.at hsq)) hsq ⟨Nat.eq_of_beq_eq_true hkd.1, hkd.2.imp Nat.eq_of_beq_eq_true Nat.eq_of_beq_eq_true⟩ hst hg hd (fun H9 locs9 hR9 hS9 => hk _ _ _ _ _ h H9 locs9 cells slots als hl hR9 hS9 (fun x hx => hA x (gA.set hsq x hx)) hc hs)
          · exact h.elim
        | false =>
          rw [hg] at h
          exact (h : False).elim
      · exact h.elim
    · exact h.elim
  | arraylength =>
    have hm : (gplain .arraylength && (decide (cins = .arraylength) && Nat.beq len 1)) = true := hm
    rw [Bool.and_eq_true, Bool.and_eq_true, decide_eq_true_eq] at hm
    obtain ⟨-, rfl, h1⟩ := hm
    cases Nat.eq_of_beq_eq_true h1
    unfold gstep at h
    dsimp only at h
    split at h
    · split at h
      · rename_i n9 hsq
        exact g_alen hx hb hK hR hsq hd (go _ _ _ _ _ h als hl hR hS hA hc hs)
      · exact h.elim
    · exact h.elim
  | new ci =>
    unfold gmt at hm
    dsimp only at hm
    unfold gstep at h
    dsimp only at h
    split at hm
    · rw [Bool.and_eq_true] at hm
      cases Nat.eq_of_beq_eq_true hm.1
      obtain ⟨⟨a1, a2, a3, a4, a5, a6⟩, hq, hq2⟩ := List.any_eq_true.mp hm.2
      simp only [Bool.and_eq_true] at hq2
      obtain ⟨z1, z2, z3⟩ := hq2
      cases Nat.eq_of_beq_eq_true z1; cases Nat.eq_of_beq_eq_true z2; cases Nat.eq_of_beq_eq_true z3
      obtain ⟨C9, T9, N9, hcl, w1, w2, w3, hlen, hdf⟩ := gckB_of b str (List.all_eq_true.mp gCK_all _ hq)
      obtain ⟨hbd, h⟩ := gcond h
      · skip
        rw [Bool.and_eq_true] at hbd
        have hb1 := Nat.le_of_ble_eq_true hbd.1
        have hb2 := Nat.le_of_ble_eq_true hbd.2
        rw [hlen] at hb2
        refine g_new hx hb hts (fun w hw => hw) hown hK hR hS hcl hlen hdf (hts _ w1) (hts _ w2) (hts _ w3) (by omega) (by omega) hd (fun H9 hR9 hS9 => ?_)
        exact hk _ _ _ _ _ h H9 locs (cells + 1) (slots + N9) als hl hR9 hS9 (fun x hx => hA x (gA.grow x hx)) (by show cells + 1 + (bd.1 - 1) ≤ mc; omega) (by show slots + N9 + (bd.2 - (gdf ci).length) ≤ ms; rw [hlen]; omega)
    · cases hm
  | newarray t =>
    unfold gmt at hm
    dsimp only at hm
    unfold gstep at h
    dsimp only at h
    split at hm
    · rw [Bool.and_eq_true, decide_eq_true_eq] at hm
      cases Nat.eq_of_beq_eq_true hm.1
      cases hm.2
      split at h
      · rename_i n9 st9
        cases t with
        | int => exact gnewar hx hb hK hR hS (kd := 0) (atype := .int) (Or.inl ⟨rfl, rfl⟩) (hts _ gW_ci) hRc hRs hc hs hd rfl h (fun h9 g1 g2 H9 hR9 hS9 => hk _ _ _ _ _ h9 H9 locs (cells + 1) (slots + n9.toNatClampNeg) als hl hR9 hS9 (fun x hx => hA x (gA.grow x hx)) (by show cells + 1 + (bd.1 - 1) ≤ mc; omega) (by show slots + n9.toNatClampNeg + (bd.2 - n9.toNatClampNeg) ≤ ms; omega))
        | boolean => exact gnewar hx hb hK hR hS (kd := 1) (atype := .boolean) (Or.inr (Or.inl ⟨rfl, rfl⟩)) (hts _ gW_cz) hRc hRs hc hs hd rfl h (fun h9 g1 g2 H9 hR9 hS9 => hk _ _ _ _ _ h9 H9 locs (cells + 1) (slots + n9.toNatClampNeg) als hl hR9 hS9 (fun x hx => hA x (gA.grow x hx)) (by show cells + 1 + (bd.1 - 1) ≤ mc; omega) (by show slots + n9.toNatClampNeg + (bd.2 - n9.toNatClampNeg) ≤ ms; omega))
        | long => exact gnewar hx hb hK hR hS (kd := 2) (atype := .long) (Or.inr (Or.inr ⟨rfl, rfl⟩)) (hts _ gW_cj) hRc hRs hc hs hd rfl h (fun h9 g1 g2 H9 hR9 hS9 => hk _ _ _ _ _ h9 H9 locs (cells + 1) (slots + n9.toNatClampNeg) als hl hR9 hS9 (fun x hx => hA x (gA.grow x hx)) (by show cells + 1 + (bd.1 - 1) ≤ mc; omega) (by show slots + n9.toNatClampNeg + (bd.2 - n9.toNatClampNeg) ≤ ms; omega))
        | _ => exact (h : False).elim
      · exact h.elim
    · cases hm
  | anewarray kd =>
    unfold gmt at hm
    dsimp only at hm
    unfold gstep at h
    dsimp only at h
    split at hm
    · rw [Bool.and_eq_true] at hm
      cases Nat.eq_of_beq_eq_true hm.1
      obtain ⟨⟨a1, a2, a3, a4⟩, hq, hq2⟩ := List.any_eq_true.mp hm.2
      simp only [Bool.and_eq_true] at hq2
      obtain ⟨z1, z2, z3⟩ := hq2
      cases Nat.eq_of_beq_eq_true z1; cases Nat.eq_of_beq_eq_true z2; cases Nat.eq_of_beq_eq_true z3
      obtain ⟨C9, t0, hty, w1, hao⟩ := galB_of (ax := ax) (s := s) hE.2.2.1 (List.all_eq_true.mp gAL_all _ hq)
      split at h
      · rename_i n9 st9
        obtain ⟨hbd, h⟩ := gcond h
        · skip
          simp only [Bool.and_eq_true, decide_eq_true_eq] at hbd
          obtain ⟨⟨⟨h0, hb1⟩, hb2⟩, hb3⟩ := hbd
          have hb1 := Nat.le_of_ble_eq_true hb1
          have hb2 := Nat.le_of_ble_eq_true hb2
          have hb3 := Nat.le_of_ble_eq_true hb3
          refine g_anew hx hb hown hK hR hS hty (hts _ w1) hao (Int32.not_lt.mpr h0) hb3 (by omega) (by omega) hd (fun H9 hR9 hS9 => ?_)
          exact hk _ _ _ _ _ h H9 locs (cells + 1) (slots + n9.toNatClampNeg) als hl hR9 hS9 (fun x hx => hA x (gA.grow x hx)) (by show cells + 1 + (bd.1 - 1) ≤ mc; omega) (by show slots + n9.toNatClampNeg + (bd.2 - n9.toNatClampNeg) ≤ ms; omega)
      · exact h.elim
    · cases hm
  | invokestatic n =>
    unfold gmt at hm
    dsimp only at hm
    unfold gstep at h
    dsimp only at h
    split at hm
    · rw [Bool.and_eq_true] at hm
      cases Nat.eq_of_beq_eq_true hm.1
      obtain ⟨ps, hq⟩ := gmlk_mem hm.2
      split at h
      · rename_i a9 nn c1 c2 hmi
        split at h
        · rename_i as9 st9 hpop
          obtain ⟨hcan, h⟩ := gcond h
          · skip
            obtain ⟨r9, hCr, h⟩ := h
            exact gcallS hx hb hml hts hown hE hZ hRf hRc hRs (hC _ _ _ _ hCr) hd hq hmi hpop hcan hl.1 hR hS hA hc hs (fun H9 locs9 hR9 hS9 hA9 => by have h8 := hk _ _ _ _ _ h H9 locs9 (cells + c1) (slots + c2) als hl hR9 hS9 hA9 (by have := gcan_w hcan; show cells + c1 + (bd.1 - c1) ≤ mc; omega) (by have := gcan_w hcan; show slots + c2 + (bd.2 - c2) ≤ ms; omega); rw [gst_map] at h8; exact h8)
        · exact h.elim
      · exact h.elim
    · cases hm
  | invokevirtual n =>
    unfold gmt at hm
    dsimp only at hm
    unfold gstep at h
    dsimp only at h
    split at hm
    · rw [Bool.and_eq_true] at hm
      cases Nat.eq_of_beq_eq_true hm.1
      obtain ⟨ps, hq⟩ := gmlk_mem hm.2
      split at h
      · rename_i ci nn c1 c2 hmi
        split at h
        · rename_i as9 a9 st9 hpop
          split at h
          · rename_i c0 fs9 hsa
            cases hcc : Nat.beq c0 ci with
            | true =>
              rw [hcc] at h
              cases Nat.eq_of_beq_eq_true hcc
              dsimp only [cond] at h
              obtain ⟨hcan, h⟩ := gcond h
              · skip
                obtain ⟨r9, hCr, h⟩ := h
                exact gcallV hx hb hml hts hown hE hZ hRf hRc hRs (hC _ _ _ _ hCr) hd hq hmi hpop hsa hcan hl.1 hR hS hA hc hs (fun H9 locs9 hR9 hS9 hA9 => by have h8 := hk _ _ _ _ _ h H9 locs9 (cells + c1) (slots + c2) als hl hR9 hS9 hA9 (by have := gcan_w hcan; show cells + c1 + (bd.1 - c1) ≤ mc; omega) (by have := gcan_w hcan; show slots + c2 + (bd.2 - c2) ≤ ms; omega); rw [gst_map] at h8; exact h8)
            | false =>
              rw [hcc] at h
              exact (h : False).elim
          · exact h.elim
        · exact h.elim
      · exact h.elim
    · cases hm
  | invokespecial n =>
    unfold gmt at hm
    dsimp only at hm
    unfold gstep at h
    dsimp only at h
    split at hm
    · rw [Bool.and_eq_true] at hm
      cases Nat.eq_of_beq_eq_true hm.1
      have hm := hm.2
      rw [Bool.or_eq_true] at hm
      rcases hm with hm | hm
      · rw [Bool.and_eq_true] at hm
        cases Nat.eq_of_beq_eq_true hm.1
        obtain ⟨⟨a1, a2, a3⟩, hq, hq2⟩ := List.any_eq_true.mp hm.2
        simp only [Bool.and_eq_true] at hq2
        cases Nat.eq_of_beq_eq_true hq2.1; cases Nat.eq_of_beq_eq_true hq2.2
        have h9 : gmi 999 = none := by decide +kernel
        rw [h9] at h
        dsimp only at h
        split at h
        · rename_i a9 st9
          obtain ⟨hcan, h⟩ := gcond h
          · skip
            have hw9 := gcan_w hcan
            refine W.objInit hx hb hown (hts _ (gix_mem (List.all_eq_true.mp gOI_all _ hq))) (hts _ gW_oi) (hts _ gW_oc) rfl (by rw [hml]; exact hl.1) rfl hd hfr (by show 2 * 0 + _ + 12 ≤ _; rw [gw_map]; omega) ?_
            exact go _ _ _ _ _ h als hl hR hS hA hc hs
        · exact h.elim
      · rw [Bool.and_eq_true, Bool.or_eq_true] at hm
        split at h
        · rename_i a9 nn c1 c2 hmi
          split at h
          · rename_i as9 b9 st9 hpop
            obtain ⟨hcan, h⟩ := gcond h
            · skip
              obtain ⟨r9, hCr, h⟩ := h
              exact gcallI hx hb hml hts hown hE hZ hRf hRc hRs (hC _ _ _ _ hCr) hd hm.2 hmi hpop hcan hl.1 hR hS hA hc hs (fun H9 locs9 hR9 hS9 hA9 => by have h8 := hk _ _ _ _ _ h H9 locs9 (cells + c1) (slots + c2) als hl hR9 hS9 hA9 (by have := gcan_w hcan; show cells + c1 + (bd.1 - c1) ≤ mc; omega) (by have := gcan_w hcan; show slots + c2 + (bd.2 - c2) ≤ ms; omega); rw [gst_map] at h8; exact h8)
          · exact h.elim
        · rename_i hmi
          exfalso
          rcases hm.2 with hm2 | hm2
          · obtain ⟨ps9, hq9⟩ := gmlk_mem hm2
            have hw9 := List.all_eq_true.mp gML_all _ hq9
            unfold gmlB at hw9
            unfold gmi at hmi
            dsimp only at hw9
            split at hmi
            · cases hmi
            · rename_i hz9
              rw [hz9] at hw9
              cases hw9
          · obtain ⟨ps9, hq9⟩ := gmlk_mem hm2
            have hw9 := List.all_eq_true.mp gML_all _ hq9
            unfold gmlB at hw9
            unfold gmi at hmi
            dsimp only at hw9
            split at hmi
            · cases hmi
            · rename_i hz9
              rw [hz9] at hw9
              cases hw9
    · cases hm
  | invokedynamic t =>
    unfold gmt at hm
    dsimp only at hm
    split at hm
    · rename_i ix
      rw [Bool.and_eq_true, Bool.or_eq_true] at hm
      cases Nat.eq_of_beq_eq_true hm.1
      rcases hm.2 with hm | hm
      · rw [Bool.and_eq_true] at hm
        cases Nat.eq_of_beq_eq_true hm.1
        obtain ⟨⟨a1, a2, a3⟩, hq, hq2⟩ := List.any_eq_true.mp hm.2
        simp only [Bool.and_eq_true] at hq2
        cases Nat.eq_of_beq_eq_true hq2.1; cases Nat.eq_of_beq_eq_true hq2.2
        obtain ⟨n9, dp, b9, sp, a9, st9, n0, n1, rfl, ha0, ha1, hcan, h1, h2, h3, h4, h5, h⟩ := gdyn0 h
        have hw9 := gcan_w hcan
        exact g_copy hx hb (by rw [hml]; exact hl.1.symm) hown (hts _ (gix_mem (List.all_eq_true.mp gAC_all _ hq))) (hts _ gW_an) (hts _ gW_as) (hts _ gW_ai) hK hR hS (hA _ (gA.at ha1)) ha0 ha1 (Int32.not_lt.mpr h1) (Int32.not_lt.mpr h2) (Int32.not_lt.mpr h3) h4 h5 hfr (by rw [gw_map]; show gw st9 + (7 + 11) ≤ _; omega) hd (fun H9 locs9 hR9 hS9 => hk _ _ _ _ _ h H9 locs9 cells slots als hl hR9 hS9 hA hc hs)
      · rw [Bool.and_eq_true] at hm
        obtain ⟨⟨a1, a2, a3, a4⟩, hq, hq2⟩ := List.any_eq_true.mp hm.2
        simp only [Bool.and_eq_true] at hq2
        cases Nat.eq_of_beq_eq_true hq2.1; cases Nat.eq_of_beq_eq_true hq2.2.1; cases Nat.eq_of_beq_eq_true hq2.2.2
        have hw := List.all_eq_true.mp gMA_all _ hq
        have hm1 := hm.1
        rw [Bool.or_eq_true, Bool.or_eq_true] at hm1
        rcases hm1 with z | z | z
        · cases Nat.eq_of_beq_eq_true z
          obtain ⟨y9, x9, st9, rfl, hcan, h⟩ := gdyn3 h
          have hw9 := gcan_w hcan
          exact va_mmax hx hb (by rw [hml]; exact hl.1.symm) hown (hts _ (gix_mem hw)) (hts _ gW_m3.1) (hts _ gW_mi) (hts _ gW_m3.2) hfr (by rw [gw_map]; omega) (by omega) (by omega) hd (go _ _ _ _ _ h als hl hR hS hA hc hs)
        · cases Nat.eq_of_beq_eq_true z
          obtain ⟨y9, x9, st9, rfl, hcan, h⟩ := gdyn4 h
          have hw9 := gcan_w hcan
          exact va_mmin hx hb (by rw [hml]; exact hl.1.symm) hown (hts _ (gix_mem hw)) (hts _ gW_m4.1) (hts _ gW_mi) (hts _ gW_m4.2) hfr (by rw [gw_map]; omega) (by omega) (by omega) hd (go _ _ _ _ _ h als hl hR hS hA hc hs)
        · cases Nat.eq_of_beq_eq_true z
          obtain ⟨x9, st9, rfl, hcan, h⟩ := gdyn5 h
          have hw9 := gcan_w hcan
          exact va_mabs hx hb (by rw [hml]; exact hl.1.symm) hown (hts _ (gix_mem hw)) (hts _ gW_m5.1) (hts _ gW_mi) (hts _ gW_m5.2) hfr (by rw [gw_map]; omega) (by omega) (by omega) hd (go _ _ _ _ _ h als hl hR hS hA hc hs)
    · rename_i ix
      rw [Bool.and_eq_true, Bool.and_eq_true] at hm
      cases Nat.eq_of_beq_eq_true hm.1
      obtain ⟨⟨a1, a2, a3, a4⟩, hq, hq2⟩ := List.any_eq_true.mp hm.2.2
      simp only [Bool.and_eq_true] at hq2
      cases Nat.eq_of_beq_eq_true hq2.1; cases Nat.eq_of_beq_eq_true hq2.2.1; cases Nat.eq_of_beq_eq_true hq2.2.2
      have hw := List.all_eq_true.mp gSX_all _ hq
      have hm1 := hm.2.1
      rw [Bool.or_eq_true] at hm1
      rcases hm1 with z | z
      · cases Nat.eq_of_beq_eq_true z
        obtain ⟨j, st9, r9, rfl, hcan, hC9, h⟩ := gdyn1 h
        obtain ⟨hj, hM⟩ := hX _ _ _ _ hC9 (Or.inl rfl)
        simp only [Bool.and_eq_true] at hw
        exact gcallT (as := []) (nn := 0) hx hb hml hts hown hE hZ hRf hRc hRs hM (hj _ _ rfl) hd (gix_mem hw.1) (gix_mem hw.2.1) (gix_mem hw.2.2.1) (gix_mem hw.2.2.2) gs_887 rfl ⟨by decide +kernel, by decide +kernel, by decide +kernel⟩ (by decide) rfl hcan hl.1 hR hS hA hc hs (fun H9 locs9 hR9 hS9 hA9 => by
          have := hk _ _ _ _ _ h H9 locs9 cells slots als hl hR9 hS9 hA9 hc hs
          rw [gst_map] at this
          exact this)
      · cases Nat.eq_of_beq_eq_true z
        obtain ⟨i9, j, st9, r9, rfl, hcan, hC9, h⟩ := gdyn2 h
        obtain ⟨hj, hM⟩ := hX _ _ _ _ hC9 (Or.inr rfl)
        simp only [Bool.and_eq_true] at hw
        exact gcallT (as := [.int i9]) (nn := 1) hx hb hml hts hown hE hZ hRf hRc hRs hM (hj _ _ rfl) hd (gix_mem hw.1) (gix_mem hw.2.1) (gix_mem hw.2.2.1) (gix_mem hw.2.2.2) gs_897 rfl ⟨by decide +kernel, by decide +kernel, by decide +kernel⟩ (by decide) rfl hcan hl.1 hR hS hA hc hs (fun H9 locs9 hR9 hS9 hA9 => by
          have := hk _ _ _ _ _ h H9 locs9 cells slots als hl hR9 hS9 hA9 hc hs
          rw [gst_map] at this
          exact this)
    · cases hm
  | ireturn =>
    have hm : (decide (cins = .ireturn) && (Nat.beq len 1 && decide (rt = some .int))) = true := hm
    rw [Bool.and_eq_true, Bool.and_eq_true, decide_eq_true_eq, decide_eq_true_eq] at hm
    obtain ⟨rfl, h1, rfl⟩ := hm
    cases Nat.eq_of_beq_eq_true h1
    unfold gstep at h
    dsimp only at h
    split at h
    · refine W.widen (k := mc) (n := ms) (by omega) (by omega) ?_
      exact W.iret hx hb hr (fun t ht hW => ⟨by rw [← hp _ _ h]; rfl, by rw [ht, ← hp _ _ h]; exact hR, by rw [← hp _ _ h]; exact hA, hS.F ht⟩) hS.2.2 hd hlk
    · exact h.elim
  | freturn =>
    have hm : (decide (cins = .ireturn) && (Nat.beq len 1 && decide (rt = some .boolean))) = true := hm
    rw [Bool.and_eq_true, Bool.and_eq_true, decide_eq_true_eq, decide_eq_true_eq] at hm
    obtain ⟨rfl, h1, rfl⟩ := hm
    cases Nat.eq_of_beq_eq_true h1
    unfold gstep at h
    dsimp only at h
    split at h
    · split at h
      · rename_i h01
        refine W.widen (k := mc) (n := ms) (by omega) (by omega) ?_
        exact W.zret hx hb hr (by rcases h01 with rfl | rfl <;> rfl) (fun t ht hW => ⟨by rw [← hp _ _ h]; rfl, by rw [ht, ← hp _ _ h]; exact hR, by rw [← hp _ _ h]; exact hA, hS.F ht⟩) hS.2.2 hd hlk
      · exact h.elim
    · exact h.elim
  | lreturn =>
    have hm : (decide (cins = .lreturn) && (Nat.beq len 1 && decide (rt = some .long))) = true := hm
    rw [Bool.and_eq_true, Bool.and_eq_true, decide_eq_true_eq, decide_eq_true_eq] at hm
    obtain ⟨rfl, h1, rfl⟩ := hm
    cases Nat.eq_of_beq_eq_true h1
    unfold gstep at h
    dsimp only at h
    split at h
    · refine W.widen (k := mc) (n := ms) (by omega) (by omega) ?_
      exact W.lret hx hb hr (fun t ht hW => ⟨by rw [← hp _ _ h]; rfl, by rw [ht, ← hp _ _ h]; exact hR, by rw [← hp _ _ h]; exact hA, hS.F ht⟩) hS.2.2 hd hlk
    · exact h.elim
  | areturn =>
    have hm : (decide (cins = .areturn) && (Nat.beq len 1 && decide (rt = some (.object "java/lang/String")))) = true := hm
    rw [Bool.and_eq_true, Bool.and_eq_true, decide_eq_true_eq, decide_eq_true_eq] at hm
    obtain ⟨rfl, h1, rfl⟩ := hm
    cases Nat.eq_of_beq_eq_true h1
    unfold gstep at h
    dsimp only at h
    split at h
    · refine W.widen (k := mc) (n := ms) (by omega) (by omega) ?_
      exact W.aret hx hb hr (Or.inl ⟨_, rfl⟩) (Or.inr ⟨_, rfl⟩) (fun t ht hW => ⟨by rw [← hp _ _ h]; rfl, by rw [ht, ← hp _ _ h]; exact hR, by rw [← hp _ _ h]; exact hA, hS.F ht⟩) hS.2.2 hd hlk
    · exact h.elim
  | return_ =>
    have hm : (decide (cins = .return_) && (Nat.beq len 1 && decide (rt = none))) = true := hm
    rw [Bool.and_eq_true, Bool.and_eq_true, decide_eq_true_eq, decide_eq_true_eq] at hm
    obtain ⟨rfl, h1, rfl⟩ := hm
    cases Nat.eq_of_beq_eq_true h1
    unfold gstep at h
    dsimp only at h
    split at h
    · refine W.widen (k := mc) (n := ms) (by omega) (by omega) ?_
      exact W.vret hx hb hr (fun t ht hW => ⟨by rw [← hp _ _ h]; rfl, by rw [ht, ← hp _ _ h]; exact hR, by rw [← hp _ _ h]; exact hA, hS.F ht⟩) hS.2.2 hd hlk
    · exact h.elim
  | _ => exact (h : False).elim
end
section
/-! ===== contracts out of walks; the String constants' methods ===== -/
theorem gOfW {l : Launch} {y : MethodName} {cc : ByteArray} {mx : Nat} {rt : Option FieldType} {d mc ms : Nat} {Pc : Array Value → State → Prop} {Qc : Array Value → State → Outcome → State → Prop} {free : Addr → Prop} (hy : plainName y.cls = true)
    (body : ∀ (p : Program) (e : Env) (s : State) (m : MethodId) (args : Array Value) (below : List Frame) (meth : Method) (c : Code), p.tables.exec = Jvm.exec → c.code = cc → c.maxLocals = mx → meth.sig.returnType = rt → (∀ w ∈ gT, w.before args s = true) → s.vm.findClass y.cls = some m.cls → meth.name = y.name → meth.locks = false → Pc args s → W p l e (grm d mc ms) s m args below meth c s.heap [] 0 0 (MQ below Qc args s mc ms free) (entryFrame m args mx)) : Met l y (.code y cc mx rt :: gT) (grm d mc ms) Pc Qc mc ms free := by
  refine Met.ofW (cc := cc) (maxL := mx) (ret := rt) hy rfl ?_
  intro p e s m args below meth c s₁ B hml hv
  have hts := atoms_spec (ws := .code y cc mx rt :: gT) B.pre
  exact body p e s m args below meth c B.exec B.bytes hml B.returns (fun w hw => hts w (List.mem_cons_of_mem _ hw)) (findClass_of_methodNamed B.named) (name_of_methodNamed B.named B.method).1 B.notSynchronized hv
/-- a start of a String's method: arguments as they are, and what X says -/
def gPz (D : va_G) (ax : Nat → ClassId) (str : Nat → Nat) (b : Nat) (q : gS) (vs : List Value) (X : State → Prop) : Array Value → State → Prop := fun a U => a = vs.toArray ∧ gRep D ax str b q U.heap ∧ genv D ax str U ∧ gstr str b U U.heap ∧ X U
theorem gstr.blind {str : Nat → Nat} {b : Nat} {U : State} {g : JFrame} {mk : MethodId} {a : Array Value} (h : gstr str b U U.heap) : gstr str b (U.calling g mk a) (U.calling g mk a).heap := by
  obtain ⟨⟨adV, h4⟩, h5, h6⟩ := h
  exact ⟨⟨adV, vk_S.moved (Vm.Alike.refl U.vm) h4⟩, va_Z.moved (Vm.Alike.refl U.vm) h5, va_Zq.moved (Vm.Alike.refl U.vm) h6⟩
theorem gPz.blind {D : va_G} {ax : Nat → ClassId} {str : Nat → Nat} {b : Nat} {q : gS} {vs : List Value} : FrameBlind (gPz D ax str b q vs (fun _ => True)) := by
  rintro a U g mk ⟨h1, h2, h3, h4, -⟩
  exact ⟨h1, h2, h3.same rfl, gstr.blind h4, trivial⟩
theorem gPz.blindT {D : va_G} {ax : Nat → ClassId} {str : Nat → Nat} {b : Nat} {q : gS} {vs : List Value} {t n : Nat} {f : Nat → Value} : FrameBlind (gPz D ax str b q vs (fun U => va_T .byte t n f (fun x => b ≤ x) U U.heap)) := by
  rintro a U g mk ⟨h1, h2, h3, h4, h5⟩
  exact ⟨h1, h2, h3.same rfl, gstr.blind h4, va_T.moved (Vm.Alike.refl U.vm) h5⟩
section GST
variable {l : Launch} {D : va_G} {ax : Nat → ClassId} {str : Nat → Nat} {b : Nat} {q : gS}
theorem gin_lt {i : Int32} {n : Nat} (h : gib i n = true) (hn : n < 2147483648) : ¬ i < 0 ∧ i < Int32.ofNat n := by
  unfold gib at h
  rw [Bool.and_eq_true, decide_eq_true_eq, decide_eq_true_eq] at h
  refine ⟨Int32.not_lt.mpr h.1, ?_⟩
  rw [Int32.lt_iff_toInt_lt, Int32.toInt_ofNat_of_lt (by omega)]
  have h1 := Int32.le_iff_toInt_le.mp h.1
  have h2 : (i.toNatClampNeg : Int) = i.toInt := by
    unfold Int32.toNatClampNeg
    have : (0 : Int) ≤ i.toInt := by simpa using h1
    omega
  omega
theorem gs_cI3 (d : Nat) {i n : Int32} {fv : Value} (hf : fv.category = 1) (hi : ¬ i < 0) (hn : i < n) : Met l yJ3_checkIndex_8e157 (.code yJ3_checkIndex_8e157 cJ3_checkIndex_8e157 3 (some .int) :: gT) (grm d 0 0) (gPz D ax str b q [.int i, .int n, fv] (fun _ => True)) (gQc D ax str b q (some (.int i), q)) 0 0 (gA b q.1) := by
  refine gOfW (by decide +kernel) ?_
  rintro p e s m args below meth c hx hb hml hr hts hown hnm hlk ⟨rfl, hR, hE, hZ, -⟩
  have hS : va_S (gA b q.1) s.heap s.heap [] := va_S.rf
  have hl := lv_entry ([.int i, .int n, fv]) (n := 3) (by simp only [lg_sl, List.flatMap_cons, List.flatMap_nil, hf]; exact Nat.le_of_ble_eq_true rfl)
  rw [lg_entry_eq]
  generalize (lg_sl ([.int i, .int n, fv]) ++ List.replicate (3 - (lg_sl ([.int i, .int n, fv])).length) Slot.unset).toArray = ls at hl ⊢
  have hl : lv_has ls 3 [(0, .int i), (1, .int n), (2, fv)] := hl
  have d0 : decode cJ3_checkIndex_8e157 0 = .ok (.iload_n 0, 1) := by decide +kernel
  have d1 : decode cJ3_checkIndex_8e157 1 = .ok (.ifCond .lt 8, 3) := by decide +kernel
  have d4 : decode cJ3_checkIndex_8e157 4 = .ok (.iload_n 0, 1) := by decide +kernel
  have d5 : decode cJ3_checkIndex_8e157 5 = .ok (.iload_n 1, 1) := by decide +kernel
  have d6 : decode cJ3_checkIndex_8e157 6 = .ok (.if_icmp .lt 10, 3) := by decide +kernel
  have d16 : decode cJ3_checkIndex_8e157 16 = .ok (.iload_n 0, 1) := by decide +kernel
  have d17 : decode cJ3_checkIndex_8e157 17 = .ok (.ireturn, 1) := by decide +kernel
  refine lv_iload_n hx hb d0 rfl (lv_at hl 0 rfl) ?_
  refine lv_if_lt hx hb d1 (tgt := 9) rfl (fun z => absurd z hi) (fun z => ?_)
  refine lv_iload_n hx hb d4 rfl (lv_at hl 0 rfl) ?_
  refine lv_iload_n hx hb d5 rfl (lv_at hl 1 rfl) ?_
  refine lv_icmp_lt hx hb d6 (tgt := 16) rfl (fun z => ?_) (fun z => absurd hn z)
  refine lv_iload_n hx hb d16 rfl (lv_at hl 0 rfl) ?_
  exact W.iret (v := i) hx hb hr (fun t ht hW => ⟨rfl, by rw [ht]; exact hR, fun x h => h, hS.F ht⟩) hS.2.2 d17
theorem gs_cI0 (d : Nat) {i n : Int32} (hi : ¬ i < 0) (hn : i < n) : Met l yJ0_checkIndex_df160 (.code yJ0_checkIndex_df160 cJ0_checkIndex_df160 2 none :: gT) (grm (d + 1) 0 0) (gPz D ax str b q [.int i, .int n] (fun _ => True)) (gQc D ax str b q (none, q)) 0 0 (gA b q.1) := by
  refine gOfW (by decide +kernel) ?_
  rintro p e s m args below meth c hx hb hml hr hts hown hnm hlk ⟨rfl, hR, hE, hZ, -⟩
  have hS : va_S (gA b q.1) s.heap s.heap [] := va_S.rf
  have hl := lv_entry ([.int i, .int n]) (n := 2) (Nat.le_of_ble_eq_true rfl)
  rw [lg_entry_eq]
  generalize (lg_sl ([.int i, .int n]) ++ List.replicate (2 - (lg_sl ([.int i, .int n])).length) Slot.unset).toArray = ls at hl ⊢
  have hl : lv_has ls 2 [(0, .int i), (1, .int n)] := hl
  have d0 : decode cJ0_checkIndex_df160 0 = .ok (.iload_n 0, 1) := by decide +kernel
  have d1 : decode cJ0_checkIndex_df160 1 = .ok (.iload_n 1, 1) := by decide +kernel
  have d2 : decode cJ0_checkIndex_df160 2 = .ok (.getstatic 1053, 3) := by decide +kernel
  have d5 : decode cJ0_checkIndex_df160 5 = .ok (.invokestatic 1059, 3) := by decide +kernel
  have d8 : decode cJ0_checkIndex_df160 8 = .ok (.pop, 1) := by decide +kernel
  have d9 : decode cJ0_checkIndex_df160 9 = .ok (.return_, 1) := by decide +kernel
  refine lv_iload_n hx hb d0 rfl (lv_at hl 0 rfl) ?_
  refine lv_iload_n hx hb d1 rfl (lv_at hl 1 rfl) ?_
  have hSb : va_S (fun x => b ≤ x) s.heap s.heap [] := va_S.rf
  have key : ∀ fv : Value, fv.category = 1 → W p l e (grm (d + 1) 0 0) s m (List.toArray [.int i, .int n]) below meth c s.heap [] 0 0 (MQ below (gQc D ax str b q (none, q)) (List.toArray [.int i, .int n]) s 0 0 (gA b q.1)) (F0 m 5 ls [fv, .int n, .int i]) := by
    intro fv hf
    refine g_run (va_runS (As := [.int i, .int n, fv]) (rest := []) ⟨hx, hb, hml, hown, hts⟩ (gs_cI3 d hf hi hn) (va_cwS 3 hts (gGood (fun w hw => ?_)) rfl rfl rfl ⟨by decide +kernel, by decide +kernel, by decide +kernel⟩ ⟨Nat.le_refl _, ?_⟩) ⟨gPz.blind, fun U hU hW => ⟨rfl, by rw [hU]; exact hR, hE.warm hW, by rw [hU]; exact gstr_now (q0 := q) hW hZ hS, trivial⟩⟩ rfl rfl hl.1 rfl (lv_room (by decide)) d5 ⟨Nat.le_refl _, Nat.le_refl _⟩) hS (fun x h => h) (fun H9 locs9 hR9 hS9 hA9 => ?_)
    · unfold va_wsS at hw
      rcases List.mem_append.mp hw with hw | hw
      · simp only [List.mem_cons, List.not_mem_nil, or_false] at hw
        rcases hw with rfl | rfl | rfl
        · exact gs_910
        · exact gs_911
        · exact gs_88
      · rcases List.mem_cons.mp hw with rfl | hw
        · exact gs_912
        · exact hw
    · show 8 + (3 + 11) + 40 * d ≤ 40 * (d + 1)
      omega
    · refine lv_pop hx hb d8 rfl ?_
      exact W.vret hx hb hr (fun t ht hW => ⟨rfl, by rw [ht]; exact hR9, fun x h => h, hS9.F ht⟩) hS9.2.2 d9
  rcases hZ.2.2 with h | ⟨t, h⟩
  · exact va_gets hx hb h hSb hown (hts _ gs_908) (fun x h => h) d2 (key _ rfl)
  · exact va_gets hx hb h hSb hown (hts _ gs_908) (fun x h => h) d2 (key _ rfl)
end GST
section GST2
variable {l : Launch} {D : va_G} {ax : Nat → ClassId} {str : Nat → Nat} {b : Nat} {q : gS}
theorem gs_byte : ∀ j, j < 7 → ∀ k, k < gslen j → (gsch j k) &&& 255 = gsch j k := by decide +kernel
theorem gs_cA1 (d : Nat) {t n : Nat} {f : Nat → Int32} {i : Int32} (hn : n < 2147483648) (hi : gib i n = true) : Met l yJ1_charAt_3b067 (.code yJ1_charAt_3b067 cJ1_charAt_3b067 2 (some .char) :: gT) (grm (d + 2) 0 0) (gPz D ax str b q [.ref t, .int i] (fun U => va_T .byte t n (fun j => .int (f j)) (fun x => b ≤ x) U U.heap)) (gQc D ax str b q (some (.int (f i.toNatClampNeg &&& 255)), q)) 0 0 (gA b q.1) := by
  refine gOfW (by decide +kernel) ?_
  rintro p e s m args below meth c hx hb hml hr hts hown hnm hlk ⟨rfl, hR, hE, hZ, hT⟩
  have hS : va_S (gA b q.1) s.heap s.heap [] := va_S.rf
  have hl := lv_entry ([.ref t, .int i]) (n := 2) (Nat.le_of_ble_eq_true rfl)
  rw [lg_entry_eq]
  generalize (lg_sl ([.ref t, .int i]) ++ List.replicate (2 - (lg_sl ([.ref t, .int i])).length) Slot.unset).toArray = ls at hl ⊢
  have hl : lv_has ls 2 [(0, .ref t), (1, .int i)] := hl
  have d0 : decode cJ1_charAt_3b067 0 = .ok (.iload_n 1, 1) := by decide +kernel
  have d1 : decode cJ1_charAt_3b067 1 = .ok (.aload_n 0, 1) := by decide +kernel
  have d2 : decode cJ1_charAt_3b067 2 = .ok (.arraylength, 1) := by decide +kernel
  have d3 : decode cJ1_charAt_3b067 3 = .ok (.invokestatic 9, 3) := by decide +kernel
  have d6 : decode cJ1_charAt_3b067 6 = .ok (.aload_n 0, 1) := by decide +kernel
  have d7 : decode cJ1_charAt_3b067 7 = .ok (.iload_n 1, 1) := by decide +kernel
  have d8 : decode cJ1_charAt_3b067 8 = .ok (.baload, 1) := by decide +kernel
  have d9 : decode cJ1_charAt_3b067 9 = .ok (.sipush 255, 3) := by decide +kernel
  have d12 : decode cJ1_charAt_3b067 12 = .ok (.iand, 1) := by decide +kernel
  have d13 : decode cJ1_charAt_3b067 13 = .ok (.i2c, 1) := by decide +kernel
  have d14 : decode cJ1_charAt_3b067 14 = .ok (.ireturn, 1) := by decide +kernel
  obtain ⟨i1, i2⟩ := gin_lt hi hn
  have hSb : va_S (fun x => b ≤ x) s.heap s.heap [] := va_S.rf
  refine lv_iload_n hx hb d0 rfl (lv_at hl 1 rfl) ?_
  refine lv_aload_n hx hb d1 rfl (lv_at hl 0 rfl) ?_
  refine va_tlen hx hb hT hSb rfl d2 ?_
  refine g_run (va_runS (As := [.int i, .int (Int32.ofNat n)]) (rest := []) ⟨hx, hb, hml, hown, hts⟩ (gs_cI0 d i1 i2) (va_cwS 2 hts (gGood (fun w hw => ?_)) rfl rfl rfl ⟨by decide +kernel, by decide +kernel, by decide +kernel⟩ ⟨Nat.le_refl _, ?_⟩) ⟨gPz.blind, fun U hU hW => ⟨rfl, by rw [hU]; exact hR, hE.warm hW, by rw [hU]; exact gstr_now (q0 := q) hW hZ hS, trivial⟩⟩ rfl rfl hl.1 rfl (lv_room (by decide)) d3 ⟨Nat.le_refl _, Nat.le_refl _⟩) hS (fun x h => h) (fun H9 locs9 hR9 hS9 hA9 => ?_)
  · unfold va_wsS at hw
    rcases List.mem_append.mp hw with hw | hw
    · simp only [List.mem_cons, List.not_mem_nil, or_false] at hw
      rcases hw with rfl | rfl | rfl
      · exact gs_905
      · exact gs_906
      · exact gs_86
    · rcases List.mem_cons.mp hw with rfl | hw
      · exact gs_907
      · exact hw
  · show 8 + (2 + 11) + 40 * (d + 1) ≤ 40 * (d + 2)
    omega
  · have hSb9 : va_S (fun x => b ≤ x) s.heap H9 locs9 := ⟨hS9.1, fun x h1 h2 => hS9.2.1 x h1 (fun z => h2 (gA_b z)), fun x hx => gA_b (hS9.2.2 x hx)⟩
    refine lv_aload_n hx hb d6 rfl (lv_at hl 0 rfl) ?_
    refine lv_iload_n hx hb d7 rfl (lv_at hl 1 rfl) ?_
    refine va_tb hx hb hT hSb9 (gib_in hi) (v := .int (f i.toNatClampNeg)) rfl d8 ?_
    refine lv_sipush hx hb d9 (v := 255) (by decide) ?_
    refine lv_iand hx hb d12 ?_
    refine lv_i2c hx hb d13 (sc_c2 _) ?_
    exact W.zret hx hb hr (sc_nar _) (fun t ht hW => ⟨rfl, by rw [ht]; exact hR9, fun x h => h, hS9.F ht⟩) hS9.2.2 d14
theorem gs_lat (d : Nat) {j : Nat} (hj : j < 7) : Met l yJ0_isLatin1_aae02 (.code yJ0_isLatin1_aae02 cJ0_isLatin1_aae02 1 (some .boolean) :: gT) (grm d 0 0) (gPc D ax str b [.retAddr j] q) (gQc D ax str b q (some (.int 1), q)) 0 0 (gA b q.1) := by
  refine gOfW (by decide +kernel) ?_
  rintro p e s m args below meth c hx hb hml hr hts hown hnm hlk ⟨rfl, hR, hE, hZ⟩
  have hS : va_S (gA b q.1) s.heap s.heap [] := va_S.rf
  have hSb : va_S (fun x => b ≤ x) s.heap s.heap [] := va_S.rf
  have hl := lv_entry ([Value.ref (str j)]) (n := 1) (Nat.le_of_ble_eq_true rfl)
  show W p l e (grm d 0 0) s m (List.toArray [Value.ref (str j)]) below meth c s.heap [] 0 0 (MQ below (gQc D ax str b q (some (.int 1), q)) (List.toArray [Value.ref (str j)]) s 0 0 (gA b q.1)) (entryFrame m (List.toArray [Value.ref (str j)]) 1)
  rw [lg_entry_eq]
  generalize (lg_sl ([Value.ref (str j)]) ++ List.replicate (1 - (lg_sl ([Value.ref (str j)])).length) Slot.unset).toArray = ls at hl ⊢
  have hl : lv_has ls 1 [(0, .ref (str j))] := hl
  have d0 : decode cJ0_isLatin1_aae02 0 = .ok (.getstatic 38, 3) := by decide +kernel
  have d3 : decode cJ0_isLatin1_aae02 3 = .ok (.ifCond .eq 14, 3) := by decide +kernel
  have d6 : decode cJ0_isLatin1_aae02 6 = .ok (.aload_n 0, 1) := by decide +kernel
  have d7 : decode cJ0_isLatin1_aae02 7 = .ok (.getfield 15, 3) := by decide +kernel
  have d10 : decode cJ0_isLatin1_aae02 10 = .ok (.ifCond .ne 7, 3) := by decide +kernel
  have d13 : decode cJ0_isLatin1_aae02 13 = .ok (.iconst 1, 1) := by decide +kernel
  have d14 : decode cJ0_isLatin1_aae02 14 = .ok (.goto 4, 3) := by decide +kernel
  have d18 : decode cJ0_isLatin1_aae02 18 = .ok (.ireturn, 1) := by decide +kernel
  obtain ⟨⟨adV, hV⟩, hZ1, -⟩ := hZ
  refine va_gets hx hb hZ1 hSb hown (hts _ gs_892) (fun x h => h) d0 ?_
  refine lv_if_eq hx hb d3 (tgt := 17) rfl (fun z => absurd z (by decide)) (fun z => ?_)
  refine lv_aload_n hx hb d6 rfl (lv_at hl 0 rfl) ?_
  refine vk_getf hx hb (hV.1 j hj).2.1 hSb hown (hts _ gs_1740) (fun x h => h) d7 ?_
  refine lv_if_ne hx hb d10 (tgt := 17) rfl (fun z => absurd rfl z) (fun z => ?_)
  refine lv_iconst hx hb d13 (v := 1) rfl ?_
  refine lv_goto hx hb d14 (tgt := 18) rfl ?_
  exact W.zret hx hb hr rfl (fun t ht hW => ⟨rfl, by rw [ht]; exact hR, fun x h => h, hS.F ht⟩) hS.2.2 d18
theorem gs_cod (d : Nat) {j : Nat} (hj : j < 7) : Met l yJ0_coder_7d493 (.code yJ0_coder_7d493 cJ0_coder_7d493 1 (some .byte) :: gT) (grm d 0 0) (gPc D ax str b [.retAddr j] q) (gQc D ax str b q (some (.int 0), q)) 0 0 (gA b q.1) := by
  refine gOfW (by decide +kernel) ?_
  rintro p e s m args below meth c hx hb hml hr hts hown hnm hlk ⟨rfl, hR, hE, hZ⟩
  have hS : va_S (gA b q.1) s.heap s.heap [] := va_S.rf
  have hSb : va_S (fun x => b ≤ x) s.heap s.heap [] := va_S.rf
  have hl := lv_entry ([Value.ref (str j)]) (n := 1) (Nat.le_of_ble_eq_true rfl)
  show W p l e (grm d 0 0) s m (List.toArray [Value.ref (str j)]) below meth c s.heap [] 0 0 (MQ below (gQc D ax str b q (some (.int 0), q)) (List.toArray [Value.ref (str j)]) s 0 0 (gA b q.1)) (entryFrame m (List.toArray [Value.ref (str j)]) 1)
  rw [lg_entry_eq]
  generalize (lg_sl ([Value.ref (str j)]) ++ List.replicate (1 - (lg_sl ([Value.ref (str j)])).length) Slot.unset).toArray = ls at hl ⊢
  have hl : lv_has ls 1 [(0, .ref (str j))] := hl
  have d0 : decode cJ0_coder_7d493 0 = .ok (.getstatic 38, 3) := by decide +kernel
  have d3 : decode cJ0_coder_7d493 3 = .ok (.ifCond .eq 10, 3) := by decide +kernel
  have d6 : decode cJ0_coder_7d493 6 = .ok (.aload_n 0, 1) := by decide +kernel
  have d7 : decode cJ0_coder_7d493 7 = .ok (.getfield 15, 3) := by decide +kernel
  have d10 : decode cJ0_coder_7d493 10 = .ok (.goto 4, 3) := by decide +kernel
  have d14 : decode cJ0_coder_7d493 14 = .ok (.ireturn, 1) := by decide +kernel
  obtain ⟨⟨adV, hV⟩, hZ1, -⟩ := hZ
  refine va_gets hx hb hZ1 hSb hown (hts _ gs_892) (fun x h => h) d0 ?_
  refine lv_if_eq hx hb d3 (tgt := 13) rfl (fun z => absurd z (by decide)) (fun z => ?_)
  refine lv_aload_n hx hb d6 rfl (lv_at hl 0 rfl) ?_
  refine vk_getf hx hb (hV.1 j hj).2.1 hSb hown (hts _ gs_1740) (fun x h => h) d7 ?_
  refine lv_goto hx hb d10 (tgt := 14) rfl ?_
  exact W.zret hx hb hr rfl (fun t ht hW => ⟨rfl, by rw [ht]; exact hR, fun x h => h, hS.F ht⟩) hS.2.2 d14
end GST2
end
section
/-! ===== String.length, String.charAt ===== -/
theorem gcallU {p : Program} {l : Launch} {e : Env} {R : Room} {s : State} {m : MethodId} {args : Array Value} {below : List Frame} {meth : Method} {c : Code} {H : Heap} {locs : List Loc} {cells slots : Nat} {Q : State → Prop} {cc : ByteArray} {pc : Nat} {als : Array Slot} {own : String} {mx mc ms d : Nat} {D : va_G} {ax : Nat → ClassId} {str : Nat → Nat} {b : Nat} {q0 q : gS} {r : Option Value × gS} {bd : Nat × Nat} {st9 as : List Value} {i nn j : Nat} {y : MethodName} {cy : ByteArray} {mxx : Nat} {rtt : Option FieldType}
    (hx : p.tables.exec = Jvm.exec) (hb : c.code = cc) (hml : c.maxLocals = mx) (hts : ∀ w ∈ gT, w.before args s = true) (hown : s.vm.findClass own = some m.cls) (hE : genv D ax str s) (hZ : gstr str b s s.heap) (hRf : d + 1 ≤ R.frames ∧ 40 * d + 40 ≤ R.locals) (hRc : R.cells = mc) (hRs : R.slots = ms)
    (hM : Met l y (.code y cy mxx rtt :: gT) (grm d 0 0) (gPc D ax str b (.retAddr j :: as) q) (gQc D ax str b q r) 0 0 (gA b q.1)) (hj : j < 7) (hd : decode cc pc = .ok (.invokevirtual i, 3))
    (w1 : Cond.methodLink own i y ∈ gT) (w2 : Cond.instanceMethod y ∈ gT) (w3 : Cond.selects "java/lang/String" y y ∈ gT) (w4 : Cond.initialized "java/lang/String" ∈ gT) (p1 : Cond.code y cy mxx rtt ∈ gT) (hcls : y.cls = "java/lang/String") (p3 : y.cls ≠ "java/lang/invoke/MethodHandle" ∧ y.cls ≠ "java/lang/invoke/VarHandle" ∧ (parseMethodDescriptor y.desc).map (fun d => d.parameters.length) = some nn) (p5 : mxx ≤ 20)
    (hln : as.length = nn) (hcan : gcan 0 0 bd st9 = true) (hls : als.size = mx) (hR : gRep D ax str b q H) (hS : va_S (gA b q0.1) s.heap H locs) (hA : ∀ x, gA b q.1 x → gA b q0.1 x) (hc : cells + bd.1 ≤ mc) (hs : slots + bd.2 ≤ ms)
    (kk : ∀ (H9 : Heap) (locs9 : List Loc), gRep D ax str b r.2 H9 → va_S (gA b q0.1) s.heap H9 locs9 → (∀ x, gA b r.2.1 x → gA b q0.1 x) → W p l e R s m args below meth c H9 locs9 (cells + 0) (slots + 0) Q (F0 m (pc + 3) als ((r.1.map (genc b str)).toList ++ st9.map (genc b str)))) : W p l e R s m args below meth c H locs cells slots Q (F0 m pc als ((as.map (genc b str)).reverse ++ .ref (str j) :: st9.map (genc b str))) := by
  obtain ⟨g1, g2, g3⟩ := gcan_w hcan
  have hrec : ∃ cellB : Cell, H[str j]? = some cellB ∧ cellB.vm.isStatics = false ∧ s.vm.findClass y.cls = some cellB.cls := by
    obtain ⟨⟨adV, hV⟩, -, -⟩ := hZ
    obtain ⟨cell, h1, h2, h3, h4⟩ := (hV.1 j hj).1
    have hlt : str j < s.heap.size := (Array.getElem?_eq_some_iff.mp h1).1
    exact ⟨cell, by rw [hS.2.1 _ hlt (fun z => h4 (gA_b z))]; exact h1, h2, by rw [hcls]; exact h3⟩
  refine g_run (va_runV (C := y.cls) (b := str j) (As := as.map (genc b str)) (rest := st9.map (genc b str)) ⟨hx, hb, hml, hown, hts⟩ hM (cwV nn hts (gGood (fun w hw => ?_)) rfl rfl rfl ⟨rfl, p3⟩ ⟨hRf.1, ?_⟩) ⟨gPc.blind, hrec, fun U hU hW => ⟨rfl, by rw [hU]; exact hR, hE.warm hW, by rw [hU]; exact gstr_now hW hZ hS⟩⟩ rfl (by rw [List.length_map]; exact hln) hls rfl (lv_room (by rw [gw_map]; exact g3)) hd ⟨by show cells + 0 ≤ R.cells; omega, by show slots + 0 ≤ R.slots; omega⟩) hS hA kk
  · unfold wsV at hw
    rcases List.mem_append.mp hw with hw | hw
    · simp only [List.mem_cons, List.not_mem_nil, or_false] at hw
      rw [hcls] at hw
      rcases hw with rfl | rfl | rfl | rfl
      · exact w1
      · exact w2
      · exact w3
      · exact w4
    · rcases List.mem_cons.mp hw with rfl | hw
      · exact p1
      · exact hw
  · show 8 + (mxx + 11) + 40 * d ≤ _
    omega
section GST3
variable {l : Launch} {D : va_G} {ax : Nat → ClassId} {str : Nat → Nat} {b : Nat} {q : gS}
theorem gs_l7 : ∀ j, j < 7 → [4, 5, 4, 4, 4, 6, 4].getD j 0 = gslen j := by decide +kernel
theorem gs_b7 (j i : Nat) : (gstrs.getD j []).getD i 0 = gsch j i := rfl
theorem gs_shr (x : Int32) : x >>> ((0 : Int32) &&& 31) = x := by
  have h : ((0 : Int32) &&& 31) = 0 := by decide
  rw [h]
  apply Int32.toBitVec_inj.mp
  simp
theorem gs_len (d : Nat) {j : Nat} (hj : j < 7) : Met l yJ0_length_8abf5 (.code yJ0_length_8abf5 cJ0_length_8abf5 1 (some .int) :: gT) (grm (d + 1) 0 0) (gPc D ax str b [.retAddr j] q) (gQc D ax str b q (some (.int (Int32.ofNat (gslen j))), q)) 0 0 (gA b q.1) := by
  refine gOfW (by decide +kernel) ?_
  rintro p e s m args below meth c hx hb hml hr hts hown hnm hlk ⟨rfl, hR, hE, hZ⟩
  have hS : va_S (gA b q.1) s.heap s.heap [] := va_S.rf
  have hSb : va_S (fun x => b ≤ x) s.heap s.heap [] := va_S.rf
  have hl := lv_entry ([Value.ref (str j)]) (n := 1) (Nat.le_of_ble_eq_true rfl)
  show W p l e (grm (d + 1) 0 0) s m (List.toArray [Value.ref (str j)]) below meth c s.heap [] 0 0 (MQ below (gQc D ax str b q (some (.int (Int32.ofNat (gslen j))), q)) (List.toArray [Value.ref (str j)]) s 0 0 (gA b q.1)) (entryFrame m (List.toArray [Value.ref (str j)]) 1)
  rw [lg_entry_eq]
  generalize (lg_sl ([Value.ref (str j)]) ++ List.replicate (1 - (lg_sl ([Value.ref (str j)])).length) Slot.unset).toArray = ls at hl ⊢
  have hl : lv_has ls 1 [(0, .ref (str j))] := hl
  have d0 : decode cJ0_length_8abf5 0 = .ok (.aload_n 0, 1) := by decide +kernel
  have d1 : decode cJ0_length_8abf5 1 = .ok (.getfield 9, 3) := by decide +kernel
  have d4 : decode cJ0_length_8abf5 4 = .ok (.arraylength, 1) := by decide +kernel
  have d5 : decode cJ0_length_8abf5 5 = .ok (.aload_n 0, 1) := by decide +kernel
  have d6 : decode cJ0_length_8abf5 6 = .ok (.invokevirtual 335, 3) := by decide +kernel
  have d9 : decode cJ0_length_8abf5 9 = .ok (.ishr, 1) := by decide +kernel
  have d10 : decode cJ0_length_8abf5 10 = .ok (.ireturn, 1) := by decide +kernel
  have hZ0 := hZ
  obtain ⟨⟨adV, hV⟩, hZ1, -⟩ := hZ
  refine lv_aload_n hx hb d0 rfl (lv_at hl 0 rfl) ?_
  refine vk_getf hx hb (hV.1 j hj).2.2.1 hSb hown (hts _ gs_1739) (fun x h => h) d1 ?_
  refine va_tlen hx hb (hV.1 j hj).2.2.2 hSb (v := Int32.ofNat (gslen j)) (by rw [gs_l7 j hj]) d4 ?_
  refine lv_aload_n hx hb d5 rfl (lv_at hl 0 rfl) ?_
  refine gcallU (as := []) (nn := 0) (st9 := [.int (Int32.ofNat (gslen j))]) (bd := (0, 0)) (q0 := q) hx hb hml hts hown hE hZ0 (d := d) ⟨Nat.le_refl _, by show 40 * d + 40 ≤ 40 * (d + 1); omega⟩ rfl rfl (gs_cod d hj) hj d6 gs_888 gs_889 gs_890 gs_86 gs_891 rfl ⟨by decide +kernel, by decide +kernel, by decide +kernel⟩ (by decide) rfl rfl hl.1 hR hS (fun x h => h) (Nat.le_refl _) (Nat.le_refl _) (fun H9 locs9 hR9 hS9 hA9 => ?_)
  refine lv_ishr hx hb d9 ?_
  rw [gs_shr]
  exact W.iret hx hb hr (fun t ht hW => ⟨rfl, by rw [ht]; exact hR9, fun x h => h, hS9.F ht⟩) hS9.2.2 d10
theorem gs_chr (d : Nat) {j : Nat} (hj : j < 7) {i : Int32} (hi : gib i (gslen j) = true) : Met l yJ0_charAt_5068e (.code yJ0_charAt_5068e cJ0_charAt_5068e 2 (some .char) :: gT) (grm (d + 3) 0 0) (gPc D ax str b [.retAddr j, .int i] q) (gQc D ax str b q (some (.int (gsch j i.toNatClampNeg)), q)) 0 0 (gA b q.1) := by
  refine gOfW (by decide +kernel) ?_
  rintro p e s m args below meth c hx hb hml hr hts hown hnm hlk ⟨rfl, hR, hE, hZ⟩
  have hS : va_S (gA b q.1) s.heap s.heap [] := va_S.rf
  have hSb : va_S (fun x => b ≤ x) s.heap s.heap [] := va_S.rf
  have hl := lv_entry ([Value.ref (str j), .int i]) (n := 2) (Nat.le_of_ble_eq_true rfl)
  show W p l e (grm (d + 3) 0 0) s m (List.toArray [Value.ref (str j), .int i]) below meth c s.heap [] 0 0 (MQ below (gQc D ax str b q (some (.int (gsch j i.toNatClampNeg)), q)) (List.toArray [Value.ref (str j), .int i]) s 0 0 (gA b q.1)) (entryFrame m (List.toArray [Value.ref (str j), .int i]) 2)
  rw [lg_entry_eq]
  generalize (lg_sl ([Value.ref (str j), .int i]) ++ List.replicate (2 - (lg_sl ([Value.ref (str j), .int i])).length) Slot.unset).toArray = ls at hl ⊢
  have hl : lv_has ls 2 [(0, .ref (str j)), (1, .int i)] := hl
  have d0 : decode cJ0_charAt_5068e 0 = .ok (.aload_n 0, 1) := by decide +kernel
  have d1 : decode cJ0_charAt_5068e 1 = .ok (.invokevirtual 492, 3) := by decide +kernel
  have d4 : decode cJ0_charAt_5068e 4 = .ok (.ifCond .eq 12, 3) := by decide +kernel
  have d7 : decode cJ0_charAt_5068e 7 = .ok (.aload_n 0, 1) := by decide +kernel
  have d8 : decode cJ0_charAt_5068e 8 = .ok (.getfield 9, 3) := by decide +kernel
  have d11 : decode cJ0_charAt_5068e 11 = .ok (.iload_n 1, 1) := by decide +kernel
  have d12 : decode cJ0_charAt_5068e 12 = .ok (.invokestatic 495, 3) := by decide +kernel
  have d15 : decode cJ0_charAt_5068e 15 = .ok (.ireturn, 1) := by decide +kernel
  have hZ0 := hZ
  obtain ⟨⟨adV, hV⟩, hZ1, -⟩ := hZ
  have hlt : gslen j < 2147483648 := by have : ∀ j, j < 7 → gslen j < 2147483648 := by decide +kernel
                                        exact this j hj
  have hsz : i.toNatClampNeg < gslen j := by
    unfold gib at hi
    rw [Bool.and_eq_true, decide_eq_true_eq, decide_eq_true_eq] at hi
    exact hi.2
  refine lv_aload_n hx hb d0 rfl (lv_at hl 0 rfl) ?_
  refine gcallU (as := []) (nn := 0) (st9 := []) (bd := (0, 0)) (q0 := q) hx hb hml hts hown hE hZ0 (d := d + 2) ⟨Nat.le_refl _, by show 40 * (d + 2) + 40 ≤ 40 * (d + 3); omega⟩ rfl rfl (gs_lat (d + 2) hj) hj d1 gs_898 gs_899 gs_900 gs_86 gs_901 rfl ⟨by decide +kernel, by decide +kernel, by decide +kernel⟩ (by decide) rfl rfl hl.1 hR hS (fun x h => h) (Nat.le_refl _) (Nat.le_refl _) (fun H9 locs9 hR9 hS9 hA9 => ?_)
  have hSb9 : va_S (fun x => b ≤ x) s.heap H9 locs9 := ⟨hS9.1, fun x h1 h2 => hS9.2.1 x h1 (fun z => h2 (gA_b z)), fun x hx => gA_b (hS9.2.2 x hx)⟩
  refine lv_if_eq hx hb d4 (tgt := 16) rfl (fun z => absurd z (by decide)) (fun z => ?_)
  refine lv_aload_n hx hb d7 rfl (lv_at hl 0 rfl) ?_
  refine vk_getf hx hb (hV.1 j hj).2.2.1 hSb9 hown (hts _ gs_1739) (fun x h => h) d8 ?_
  refine lv_iload_n hx hb d11 rfl (lv_at hl 1 rfl) ?_
  refine g_run (va_runS (As := [.ref (adV j), .int i]) (rest := []) ⟨hx, hb, hml, hown, hts⟩ (gs_cA1 d (f := fun k => gsch j k) hlt hi) (va_cwS 2 hts (gGood (fun w hw => ?_)) rfl rfl rfl ⟨by decide +kernel, by decide +kernel, by decide +kernel⟩ ⟨Nat.le_refl _, ?_⟩) ⟨gPz.blindT, fun U hU hW => ⟨rfl, by rw [hU]; exact hR9, hE.warm hW, by rw [hU]; exact gstr_now (q0 := q) hW hZ0 hS9, by show va_T .byte (adV j) (gslen j) _ _ U U.heap; rw [hU, ← gs_l7 j hj]; exact va_T.moved hW.alike ((hV.1 j hj).2.2.2.kept hSb9.2.1)⟩⟩ rfl rfl hl.1 rfl (lv_room (by decide)) d12 ⟨Nat.le_refl _, Nat.le_refl _⟩) hS9 (fun x h => h) (fun H8 locs8 hR8 hS8 hA8 => ?_)
  · unfold va_wsS at hw
    rcases List.mem_append.mp hw with hw | hw
    · simp only [List.mem_cons, List.not_mem_nil, or_false] at hw
      rcases hw with rfl | rfl | rfl
      · exact gs_902
      · exact gs_903
      · exact gs_87
    · rcases List.mem_cons.mp hw with rfl | hw
      · exact gs_904
      · exact hw
  · show 8 + (2 + 11) + 40 * (d + 2) ≤ 40 * (d + 3)
    omega
  · have e1 : gsch j i.toNatClampNeg &&& 255 = gsch j i.toNatClampNeg := gs_byte j hj _ hsz
    show W p l e (grm (d + 3) 0 0) s m _ below meth c H8 locs8 _ _ _ (F0 m 15 ls [.int (gsch j i.toNatClampNeg &&& 255)])
    rw [e1]
    exact W.zret hx hb hr (by rw [← e1]; exact sc_nar _) (fun t ht hW => ⟨rfl, by rw [ht]; exact hR8, fun x h => h, hS8.F ht⟩) hS8.2.2 d15
end GST3
end
section
/-! ===== soundness: a run of the abstract machine is a walk; a method of the table is its contract ===== -/
theorem gwalk {p : Program} {l : Launch} {e : Env} {R : Room} {s : State} {m : MethodId} {args : Array Value} {below : List Frame} {meth : Method} {c : Code} {cc : ByteArray} {o : Nat} {ini : Bool} {rt : Option FieldType} {mx mc ms : Nat} {D : va_G} {ax : Nat → ClassId} {str : Nat → Nat} {b : Nat} {q0 : gS} {r : Option Value × gS} {d : Nat}
    (cx : gCx p R s m args meth c cc o ini rt mx mc ms D ax str b q0) (hRf : d + 1 ≤ R.frames ∧ 40 * d + 40 ≤ R.locals) {C : Nat → List Value → gS → Option Value × gS → Prop} (hC : ∀ n as q r, C n as q r → gMet l D ax str b d n as q r)
    (hX : ∀ n as q r, C n as q r → n = 900 ∨ n = 901 → (∀ j as', as = .retAddr j :: as' → j < 7) ∧ gStrMet l D ax str b d n as q r)
    {post : gPost} (hp : ∀ v t, post v t → (v, t) = r) {code : gC} (hcode : ∀ pc e, code pc = some e → gck o ini rt mx cc (pc, e) = true) :
    ∀ (n pc : Nat) (ls : gL) (st : List Value) (q : gS) (bd : Nat × Nat), gexec C gmi gdf code post n pc ls st q bd → gWp p l e R s m args below meth c mx mc ms D ax str b q0 (MQ below (gQc D ax str b q0 r) args s mc ms (gA b q0.1)) pc ls st q bd := by
  intro n
  induction n with
  | zero => intro pc ls st q bd h; exact (h : False).elim
  | succ n ih =>
    intro pc ls st q bd h
    unfold gexec at h
    split at h
    · exact h.elim
    · rename_i ins nx v kp hcd
      have h9 := gone (below := below) cx hRf hC hX (k := gexec C gmi gdf code post n) ih hp (hcode _ _ hcd) h
      intro H locs cells slots als hl
      exact h9 H locs cells slots als (gkeep_sub hl)
theorem glg_len (b : Nat) (str : Nat → Nat) : ∀ as : List Value, (lg_sl (as.map (genc b str))).length = (lg_sl as).length
  | [] => rfl
  | a :: as => by
    have iha := glg_len b str as
    unfold lg_sl at iha ⊢
    rw [List.map_cons, List.flatMap_cons, List.flatMap_cons, List.length_append, List.length_append, iha, genc_cat]
    by_cases hc : a.category = 2 <;> simp [hc]
theorem gsound (l : Launch) (D : va_G) (ax : Nat → ClassId) (str : Nat → Nat) (b : Nat) : ∀ (d n : Nat) (as : List Value) (q : gS) (r : Option Value × gS), gR gmi gdf gcd d n as q r → gMet l D ax str b d n as q r ∧ (n = 900 ∨ n = 901 → (∀ j as', as = .retAddr j :: as' → j < 7) ∧ gStrMet l D ax str b d n as q r) := by
  intro d
  induction d with
  | zero => intro n as q r h; exact (h : False).elim
  | succ d ih =>
    intro n as q r h
    have hlen : gtab.length = 241 := by decide +kernel
    by_cases hn : n = 900 ∨ n = 901
    · have h0 : gnth gtab n = none := by
        have : ∀ {α : Type} (l : List α) (k : Nat), l.length ≤ k → gnth l k = none := by
          intro α l
          induction l with
          | nil => intro k _; rfl
          | cons a l ihl =>
            intro k hk
            cases k with
            | zero => simp at hk
            | succ k => exact ihl k (by simpa using hk)
        exact this gtab n (by rw [hlen]; omega)
      have h1 : gmi n = none := by unfold gmi; rw [h0]
      refine ⟨fun x hx => (by rw [h0] at hx; cases hx), fun _ => ?_⟩
      unfold gR at h
      rw [h1] at h
      dsimp only at h
      rcases hn with rfl | rfl
      · split at h
        · rename_i j
          obtain ⟨hj, hd, rfl⟩ := h
          refine ⟨fun j' as' e => by cases e; exact hj, ?_⟩
          exact gs_len d hj
        · exfalso; omega
        · exact h.elim
      · split at h
        · exfalso; omega
        · rename_i j i
          obtain ⟨hj, hd, hi, rfl⟩ := h
          refine ⟨fun j' as' e => by cases e; exact hj, ?_⟩
          obtain ⟨d', rfl⟩ : ∃ d', d = d' + 3 := ⟨d - 3, by omega⟩
          exact gs_chr (d' + 1) hj hi
        · exact h.elim
    · refine ⟨fun x hx => ?_, fun z => absurd z hn⟩
      have hP := gtab_ok x (gnth_mem hx)
      unfold gR at h
      have h1 : gmi n = some x.2.2.1 := by unfold gmi; rw [hx]
      have h2 : gcd n = some (x.1.2.2.1, glook x.2.2.2) := by unfold gcd; rw [hx]
      rw [h1, h2] at h
      obtain ⟨⟨y, cy, mx, rt⟩, ⟨o, ini⟩, ⟨ci, nn, c1, c2⟩, code⟩ := x
      dsimp only at h ⊢
      obtain ⟨p1, p2, p3, p4, p5, p6, p7, p8⟩ := hP
      obtain ⟨hsl, k, hk⟩ := h
      refine gOfW p2 ?_
      rintro p e s m args below meth c hx hb hml hr hts hown hnm hlk ⟨rfl, hR, hE, hZ⟩
      have hlen2 := glg_len b str as
      have hl := lv_entry (as.map (genc b str)) (n := mx) (by rw [hlen2]; exact hsl)
      rw [lg_entry_eq]
      refine gwalk (o := o) (ini := ini) (rt := rt) (mc := c1) (ms := c2) (q0 := q) (r := r) (d := d) ⟨hx, hb, hml, hts, by rw [p4]; exact hown, hE, hZ, fun z => by rw [hnm]; exact p6 z, hr, hlk, ⟨rfl, rfl, by show 1 ≤ d + 1; omega, by show 40 ≤ 40 * (d + 1); omega⟩, hR.1⟩ ⟨Nat.le_refl _, by show 40 * d + 40 ≤ 40 * (d + 1); omega⟩ (fun n as q r h => (ih n as q r h).1) (fun n as q r h => (ih n as q r h).2) (fun v t z => z) (fun pc e he => p8 _ (glook_mem he)) k 0 (gent mx as) [] q (c1, c2) hk s.heap [] 0 0 _ ?_ hR va_S.rf (fun x h => h) (by show 0 + c1 ≤ c1; omega) (by show 0 + c2 ≤ c2; omega)
      refine ⟨hl.1, hl.2.1, fun x hx => hl.2.2 x ?_⟩
      exact gent_sub b str as mx 0 x hx
end
section
/-! ===== pure functions: their words, and the rules by which a run follows them ===== -/
def glet {α β : Type} (a : α) (f : α → β) : β := f a
def gfix {F : Type} (body : F → F) (bot : F) : Nat → F
  | 0 => bot
  | n + 1 => body (gfix body bot n)
theorem gfix_ind {F : Type} {P : F → Prop} {body : F → F} {bot : F} (h0 : P bot) (hb : ∀ f, P f → P (body f)) : ∀ n, P (gfix body bot n)
  | 0 => h0
  | n + 1 => hb _ (gfix_ind h0 hb n)
/-- reads and writes: an array's place, a field -/
def grd (m : gM) (a : Nat) (i : Int32) : Int32 := m.1 a i.toNatClampNeg
def gfd (m : gM) (a k : Nat) : Int32 := m.1 a k
def gst (m : gM) (a : Nat) (i x : Int32) : gM := (gup m.1 a i.toNatClampNeg x, m.2)
def gsf (m : gM) (a k : Nat) (x : Int32) : gM := (gup m.1 a k x, m.2)
def grdL (m : gM) (a : Nat) (i : Int32) : Int64 := m.2 a i.toNatClampNeg
def gstL (m : gM) (a : Nat) (i : Int32) (x : Int64) : gM := (m.1, gupL m.2 a i.toNatClampNeg x)
def gcp (m : gM) (a b sp dp n : Nat) : gM := (gcpy m.1 a b sp dp n, m.2)
def gok {R : Type} (c : Bool) (o : Option R) : Option R := cond c o none
def gnz {R : Type} (y : Int32) (o : Option R) : Option R := if y = 0 then none else o
def gnzL {R : Type} (y : Int64) (o : Option R) : Option R := if y = 0 then none else o
def gzo {R : Type} (x : Int32) (o : Option R) : Option R := if x = 0 ∨ x = 1 then o else none
def gswo {R : Type} (x : Int32) : List (Int32 × Option R) → Option R → Option R
  | [], d => d
  | (v, o) :: l, d => if x = v then o else gswo x l d
/-- what comes back: an int, nothing, a long, a String constant -/
def gri : Int32 × gM → Option Value × gM := fun x => (some (.int x.1), x.2)
def grv : gM → Option Value × gM := fun x => (none, x)
def grl : Int64 × gM → Option Value × gM := fun x => (some (.long x.1), x.2)
def grs : Nat × gM → Option Value × gM := fun x => (some (.retAddr x.1), x.2)
def gEx {R : Type} (d : Nat) (code : gC) (sh : gH) (rs : R → Option Value × gM) (pc : Nat) (ls : gL) (st : List Value) (m : gM) (o : Option R) : Prop := ∀ x, o = some x → ∃ n, gexec (gR gmi gdf gcd d) gmi gdf code (fun v t => (v, t) = ((rs x).1, (sh, (rs x).2))) n pc ls st (sh, m) (0, 0)
theorem gR_of {R : Type} {d q ci n mx : Nat} {code : gC} {sh : gH} {rs : R → Option Value × gM} {as : List Value} {m : gM} {o : Option R} (hmi : gmi q = some (ci, n, 0, 0)) (hcd : gcd q = some (mx, code)) (hlen : (lg_sl as).length ≤ mx) (h : gEx d code sh rs 0 (gent mx as) [] m o) : ∀ x, o = some x → gR gmi gdf gcd (d + 1) q as (sh, m) ((rs x).1, (sh, (rs x).2)) := by
  intro x hx
  unfold gR
  rw [hmi, hcd]
  exact ⟨hlen, h x hx⟩
def gswP {R : Type} (P : Nat → Option R → Prop) : List (Int × Int) → List (Int32 × Option R) → Prop
  | [], [] => True
  | (v, t) :: ps, (w, o) :: l => Int32.ofInt v = w ∧ P t.toNat o ∧ gswP P ps l
  | _, _ => False
theorem gnth_none {α : Type} : ∀ (l : List α) (k : Nat), l.length ≤ k → gnth l k = none
  | [], _, _ => rfl
  | _ :: l, 0, h => by simp at h
  | _ :: l, k + 1, h => gnth_none l k (by simpa using h)
theorem gmi900 : gmi 900 = none ∧ gmi 901 = none := by
  have hlen : gtab.length = 241 := by decide +kernel
  constructor
  · unfold gmi; rw [gnth_none gtab 900 (by rw [hlen]; omega)]
  · unfold gmi; rw [gnth_none gtab 901 (by rw [hlen]; omega)]
theorem gR900 {d j : Nat} {s : gS} (hj : j < 7) (h4 : 4 ≤ d) : gR gmi gdf gcd d 900 [.retAddr j] s (some (.int (Int32.ofNat (gslen j))), s) := by
  cases d with
  | zero => omega
  | succ d =>
    unfold gR
    rw [gmi900.1]
    exact ⟨hj, h4, rfl⟩
theorem gR901 {d j : Nat} {i : Int32} {s : gS} (hj : j < 7) (h4 : 4 ≤ d) (hi : gib i (gslen j) = true) : gR gmi gdf gcd d 901 [.retAddr j, .int i] s (some (.int (gsch j i.toNatClampNeg)), s) := by
  cases d with
  | zero => omega
  | succ d =>
    unfold gR
    rw [gmi900.2]
    exact ⟨hj, h4, hi, rfl⟩
section GEX
variable {R : Type} {d : Nat} {code : gC} {sh : gH} {rs : R → Option Value × gM} {pc : Nat} {ls : gL} {st : List Value} {m : gM} {o o1 o2 : Option R} {nx kp : Nat} {v : Int32}
theorem gEx.none : gEx d code sh rs pc ls st m (none : Option R) := fun x hx => by cases hx
theorem gEx.gl {α : Type} {a : α} {f : α → Option R} (k : gEx d code sh rs pc ls st m (f a)) : gEx d code sh rs pc ls st m (glet a f) := k
theorem gEx.one {ins : Instr} {nx' : Nat} {ls' : gL} {st' : List Value} {m' : gM} (hc : code pc = some (ins, nx, v, kp)) (hk : gkeep ls kp = ls)
    (h : ∀ (post : gPost) (k : Nat → gL → List Value → gS → Nat × Nat → Prop), k nx' ls' st' (sh, m') (0, 0) → gstep (gR gmi gdf gcd d) gmi gdf ins nx v ls st (sh, m) (0, 0) post k) (k : gEx d code sh rs nx' ls' st' m' o) : gEx d code sh rs pc ls st m o := by
  intro x hx
  obtain ⟨n, hn⟩ := k x hx
  refine ⟨n + 1, ?_⟩
  unfold gexec
  rw [hc]
  dsimp only
  rw [hk]
  exact h _ _ hn
theorem gcut_idem : ∀ (l : gL) (n : Nat), gcut (gcut l n) n = gcut l n
  | [], _ => rfl
  | _ :: l, 0 => congrArg (List.cons Option.none) (gcut_idem l 0)
  | a :: l, n + 1 => congrArg (List.cons a) (gcut_idem l n)
theorem gkeep_idem (l : gL) : ∀ n, gkeep (gkeep l n) n = gkeep l n
  | 0 => rfl
  | n + 1 => gcut_idem l (n + 1)
theorem gEx.lab {ins : Instr} {ls' : gL} (hc : code pc = some (ins, nx, v, kp)) (hk : gkeep ls kp = ls') (k : gEx d code sh rs pc ls' st m o) : gEx d code sh rs pc ls st m o := by
  intro x hx
  obtain ⟨n, hn⟩ := k x hx
  refine ⟨n, ?_⟩
  cases n with
  | zero => exact (hn : False).elim
  | succ n =>
    unfold gexec at hn ⊢
    rw [hc] at hn ⊢
    dsimp only at hn ⊢
    rw [← hk, gkeep_idem] at hn
    exact hn
theorem gEx.two {ins : Instr} {nx1 nx2 : Nat} {ls1 ls2 : gL} {st1 st2 : List Value} (p : Prop) [Decidable p] (hc : code pc = some (ins, nx, v, kp)) (hk : gkeep ls kp = ls)
    (h1 : p → ∀ (post : gPost) (k : Nat → gL → List Value → gS → Nat × Nat → Prop), k nx1 ls1 st1 (sh, m) (0, 0) → gstep (gR gmi gdf gcd d) gmi gdf ins nx v ls st (sh, m) (0, 0) post k)
    (h2 : ¬ p → ∀ (post : gPost) (k : Nat → gL → List Value → gS → Nat × Nat → Prop), k nx2 ls2 st2 (sh, m) (0, 0) → gstep (gR gmi gdf gcd d) gmi gdf ins nx v ls st (sh, m) (0, 0) post k)
    (k1 : gEx d code sh rs nx1 ls1 st1 m o1) (k2 : gEx d code sh rs nx2 ls2 st2 m o2) : gEx d code sh rs pc ls st m (if p then o1 else o2) := by
  by_cases hp : p
  · rw [if_pos hp]
    exact gEx.one hc hk (h1 hp) k1
  · rw [if_neg hp]
    exact gEx.one hc hk (h2 hp) k2
theorem gEx.ret {ins : Instr} {x0 : R} (hc : code pc = some (ins, nx, v, kp)) (hk : gkeep ls kp = ls)
    (h : ∀ (post : gPost) (k : Nat → gL → List Value → gS → Nat × Nat → Prop), post (rs x0).1 (sh, (rs x0).2) → gstep (gR gmi gdf gcd d) gmi gdf ins nx v ls st (sh, m) (0, 0) post k) : gEx d code sh rs pc ls st m (some x0) := by
  intro x hx
  cases hx
  refine ⟨1, ?_⟩
  unfold gexec
  rw [hc]
  dsimp only
  rw [hk]
  exact h _ _ rfl
theorem gEx.iconst {i : Int} (hc : code pc = some (.iconst i, nx, v, kp)) (hk : gkeep ls kp = ls) (k : gEx d code sh rs nx ls (.int v :: st) m o) : gEx d code sh rs pc ls (st) m o :=
  gEx.one hc hk (fun post k h => h) k
theorem gEx.lconst {i : _} (hc : code pc = some (.lconst i, nx, v, kp)) (hk : gkeep ls kp = ls) (k : gEx d code sh rs nx ls (.long v.toInt64 :: st) m o) : gEx d code sh rs pc ls (st) m o :=
  gEx.one hc hk (fun post k h => h) k
theorem gEx.ldc {j : Nat} (hc : code pc = some (.ldc j, nx, v, kp)) (hk : gkeep ls kp = ls) (k : gEx d code sh rs nx ls (.retAddr j :: st) m o) : gEx d code sh rs pc ls (st) m o :=
  gEx.one hc hk (fun post k h => h) k
theorem gEx.iload {i : Nat} {x : Int32} (hc : code pc = some (.iload i, nx, v, kp)) (hk : gkeep ls kp = ls) (hg : gget ls i = some (.int x)) (k : gEx d code sh rs nx ls (.int x :: st) m o) : gEx d code sh rs pc ls (st) m o :=
  gEx.one hc hk (fun post k h => by show (match gget ls i with | some (.int x) => k nx ls (.int x :: st) (sh, m) (0, 0) | _ => False); rw [hg]; exact h) k
theorem gEx.lload {i : Nat} {x : Int64} (hc : code pc = some (.lload i, nx, v, kp)) (hk : gkeep ls kp = ls) (hg : gget ls i = some (.long x)) (k : gEx d code sh rs nx ls (.long x :: st) m o) : gEx d code sh rs pc ls (st) m o :=
  gEx.one hc hk (fun post k h => by show (match gget ls i with | some (.long x) => k nx ls (.long x :: st) (sh, m) (0, 0) | _ => False); rw [hg]; exact h) k
theorem gEx.aload {i x : Nat} (hc : code pc = some (.aload i, nx, v, kp)) (hk : gkeep ls kp = ls) (hg : gget ls i = some (.ref x)) (k : gEx d code sh rs nx ls (.ref x :: st) m o) : gEx d code sh rs pc ls (st) m o :=
  gEx.one hc hk (fun post k h => by show (match gget ls i with | some (.ref x) => k nx ls (.ref x :: st) (sh, m) (0, 0) | some (.retAddr x) => k nx ls (.retAddr x :: st) (sh, m) (0, 0) | _ => False); rw [hg]; exact h) k
theorem gEx.aloadS {i x : Nat} (hc : code pc = some (.aload i, nx, v, kp)) (hk : gkeep ls kp = ls) (hg : gget ls i = some (.retAddr x)) (k : gEx d code sh rs nx ls (.retAddr x :: st) m o) : gEx d code sh rs pc ls (st) m o :=
  gEx.one hc hk (fun post k h => by show (match gget ls i with | some (.ref x) => k nx ls (.ref x :: st) (sh, m) (0, 0) | some (.retAddr x) => k nx ls (.retAddr x :: st) (sh, m) (0, 0) | _ => False); rw [hg]; exact h) k
theorem gEx.istore {i : Nat} {e : Int32} {ls' : gL} (hc : code pc = some (.istore i, nx, v, kp)) (hk : gkeep ls kp = ls) (hs : gset ls i (.int e) = ls') (k : gEx d code sh rs nx ls' st m o) : gEx d code sh rs pc ls (.int e :: st) m o :=
  gEx.one hc hk (fun post k h => by show k nx (gset ls i (.int e)) st (sh, m) (0, 0); rw [hs]; exact h) k
theorem gEx.istoreL {i : Nat} {e : Int32} {ls' : Int32 → gL} {f : Int32 → Option R} (hc : code pc = some (.istore i, nx, v, kp)) (hk : gkeep ls kp = ls) (hs : ∀ e, gset ls i (.int e) = ls' e) (k : ∀ e, gEx d code sh rs nx (ls' e) st m (f e)) : gEx d code sh rs pc ls (.int e :: st) m (glet e f) :=
  gEx.istore hc hk (hs e) (k e)
theorem gEx.lstore {i : Nat} {e : Int64} {ls' : gL} (hc : code pc = some (.lstore i, nx, v, kp)) (hk : gkeep ls kp = ls) (hs : gset2 ls i (.long e) = ls') (k : gEx d code sh rs nx ls' st m o) : gEx d code sh rs pc ls (.long e :: st) m o :=
  gEx.one hc hk (fun post k h => by show k nx (gset2 ls i (.long e)) st (sh, m) (0, 0); rw [hs]; exact h) k
theorem gEx.lstoreL {i : Nat} {e : Int64} {ls' : Int64 → gL} {f : Int64 → Option R} (hc : code pc = some (.lstore i, nx, v, kp)) (hk : gkeep ls kp = ls) (hs : ∀ e, gset2 ls i (.long e) = ls' e) (k : ∀ e, gEx d code sh rs nx (ls' e) st m (f e)) : gEx d code sh rs pc ls (.long e :: st) m (glet e f) :=
  gEx.lstore hc hk (hs e) (k e)
theorem gEx.astore {i e : Nat} {ls' : gL} (hc : code pc = some (.astore i, nx, v, kp)) (hk : gkeep ls kp = ls) (hs : gset ls i (.ref e) = ls') (k : gEx d code sh rs nx ls' st m o) : gEx d code sh rs pc ls (.ref e :: st) m o :=
  gEx.one hc hk (fun post k h => by show k nx (gset ls i (.ref e)) st (sh, m) (0, 0); rw [hs]; exact h) k
theorem gEx.iinc {i : Nat} {j : Int} {x : Int32} {ls' : gL} (hc : code pc = some (.iinc i j, nx, v, kp)) (hk : gkeep ls kp = ls) (hg : gget ls i = some (.int x)) (hs : gset ls i (.int (x + v)) = ls') (k : gEx d code sh rs nx ls' st m o) : gEx d code sh rs pc ls st m o :=
  gEx.one hc hk (fun post k h => by show (match gget ls i with | some (.int x) => k nx (gset ls i (.int (x + v))) st (sh, m) (0, 0) | _ => False); rw [hg]; show k nx (gset ls i (.int (x + v))) st (sh, m) (0, 0); rw [hs]; exact h) k
theorem gEx.iadd {x y : Int32} (hc : code pc = some (.iadd, nx, v, kp)) (hk : gkeep ls kp = ls) (k : gEx d code sh rs nx ls (.int (x + y) :: st) m o) : gEx d code sh rs pc ls (.int y :: .int x :: st) m o :=
  gEx.one hc hk (fun post k h => h) k
theorem gEx.isub {x y : Int32} (hc : code pc = some (.isub, nx, v, kp)) (hk : gkeep ls kp = ls) (k : gEx d code sh rs nx ls (.int (x - y) :: st) m o) : gEx d code sh rs pc ls (.int y :: .int x :: st) m o :=
  gEx.one hc hk (fun post k h => h) k
theorem gEx.imul {x y : Int32} (hc : code pc = some (.imul, nx, v, kp)) (hk : gkeep ls kp = ls) (k : gEx d code sh rs nx ls (.int (x * y) :: st) m o) : gEx d code sh rs pc ls (.int y :: .int x :: st) m o :=
  gEx.one hc hk (fun post k h => h) k
theorem gEx.iand {x y : Int32} (hc : code pc = some (.iand, nx, v, kp)) (hk : gkeep ls kp = ls) (k : gEx d code sh rs nx ls (.int (x &&& y) :: st) m o) : gEx d code sh rs pc ls (.int y :: .int x :: st) m o :=
  gEx.one hc hk (fun post k h => h) k
theorem gEx.ior {x y : Int32} (hc : code pc = some (.ior, nx, v, kp)) (hk : gkeep ls kp = ls) (k : gEx d code sh rs nx ls (.int (x ||| y) :: st) m o) : gEx d code sh rs pc ls (.int y :: .int x :: st) m o :=
  gEx.one hc hk (fun post k h => h) k
theorem gEx.ixor {x y : Int32} (hc : code pc = some (.ixor, nx, v, kp)) (hk : gkeep ls kp = ls) (k : gEx d code sh rs nx ls (.int (x ^^^ y) :: st) m o) : gEx d code sh rs pc ls (.int y :: .int x :: st) m o :=
  gEx.one hc hk (fun post k h => h) k
theorem gEx.ladd {x y : Int64} (hc : code pc = some (.ladd, nx, v, kp)) (hk : gkeep ls kp = ls) (k : gEx d code sh rs nx ls (.long (x + y) :: st) m o) : gEx d code sh rs pc ls (.long y :: .long x :: st) m o :=
  gEx.one hc hk (fun post k h => h) k
theorem gEx.lmul {x y : Int64} (hc : code pc = some (.lmul, nx, v, kp)) (hk : gkeep ls kp = ls) (k : gEx d code sh rs nx ls (.long (x * y) :: st) m o) : gEx d code sh rs pc ls (.long y :: .long x :: st) m o :=
  gEx.one hc hk (fun post k h => h) k
theorem gEx.ineg {x : Int32} (hc : code pc = some (.ineg, nx, v, kp)) (hk : gkeep ls kp = ls) (k : gEx d code sh rs nx ls (.int (-x) :: st) m o) : gEx d code sh rs pc ls (.int x :: st) m o :=
  gEx.one hc hk (fun post k h => h) k
theorem gEx.ishl {x y : Int32} (hc : code pc = some (.ishl, nx, v, kp)) (hk : gkeep ls kp = ls) (k : gEx d code sh rs nx ls (.int (x <<< (y &&& 31)) :: st) m o) : gEx d code sh rs pc ls (.int y :: .int x :: st) m o :=
  gEx.one hc hk (fun post k h => h) k
theorem gEx.ishr {x y : Int32} (hc : code pc = some (.ishr, nx, v, kp)) (hk : gkeep ls kp = ls) (k : gEx d code sh rs nx ls (.int (x >>> (y &&& 31)) :: st) m o) : gEx d code sh rs pc ls (.int y :: .int x :: st) m o :=
  gEx.one hc hk (fun post k h => h) k
theorem gEx.i2l {x : Int32} (hc : code pc = some (.i2l, nx, v, kp)) (hk : gkeep ls kp = ls) (k : gEx d code sh rs nx ls (.long x.toInt64 :: st) m o) : gEx d code sh rs pc ls (.int x :: st) m o :=
  gEx.one hc hk (fun post k h => h) k
theorem gEx.l2i {x : Int64} (hc : code pc = some (.l2i, nx, v, kp)) (hk : gkeep ls kp = ls) (k : gEx d code sh rs nx ls (.int x.toInt32 :: st) m o) : gEx d code sh rs pc ls (.long x :: st) m o :=
  gEx.one hc hk (fun post k h => h) k
theorem gEx.i2b {x : Int32} (hc : code pc = some (.i2b, nx, v, kp)) (hk : gkeep ls kp = ls) (k : gEx d code sh rs nx ls (.int x.toInt8.toInt32 :: st) m o) : gEx d code sh rs pc ls (.int x :: st) m o :=
  gEx.one hc hk (fun post k h => h) k
theorem gEx.i2s {x : Int32} (hc : code pc = some (.i2s, nx, v, kp)) (hk : gkeep ls kp = ls) (k : gEx d code sh rs nx ls (.int x.toInt16.toInt32 :: st) m o) : gEx d code sh rs pc ls (.int x :: st) m o :=
  gEx.one hc hk (fun post k h => h) k
theorem gEx.lshr {x : Int64} {y : Int32} (hc : code pc = some (.lshr, nx, v, kp)) (hk : gkeep ls kp = ls) (k : gEx d code sh rs nx ls (.long (x >>> (y.toInt64 &&& 63)) :: st) m o) : gEx d code sh rs pc ls (.int y :: .long x :: st) m o :=
  gEx.one hc hk (fun post k h => h) k
theorem gEx.lushr {x : Int64} {y : Int32} (hc : code pc = some (.lushr, nx, v, kp)) (hk : gkeep ls kp = ls) (k : gEx d code sh rs nx ls (.long (x.toUInt64 >>> (y.toInt64.toUInt64 &&& Int64.toUInt64 63)).toInt64 :: st) m o) : gEx d code sh rs pc ls (.int y :: .long x :: st) m o :=
  gEx.one hc hk (fun post k h => h) k
theorem gEx.lcmp {x y : Int64} (hc : code pc = some (.lcmp, nx, v, kp)) (hk : gkeep ls kp = ls) (k : gEx d code sh rs nx ls (.int (lg_cmp x y) :: st) m o) : gEx d code sh rs pc ls (.long y :: .long x :: st) m o :=
  gEx.one hc hk (fun post k h => h) k
theorem gEx.dupI {x : Int32} (hc : code pc = some (.dup, nx, v, kp)) (hk : gkeep ls kp = ls) (k : gEx d code sh rs nx ls (.int x :: .int x :: st) m o) : gEx d code sh rs pc ls (.int x :: st) m o :=
  gEx.one hc hk (fun post k h => h) k
theorem gEx.dupR {x : Nat} (hc : code pc = some (.dup, nx, v, kp)) (hk : gkeep ls kp = ls) (k : gEx d code sh rs nx ls (.ref x :: .ref x :: st) m o) : gEx d code sh rs pc ls (.ref x :: st) m o :=
  gEx.one hc hk (fun post k h => h) k
theorem gEx.dup2 {x : Int32} {y : Nat} (hc : code pc = some (.dup2, nx, v, kp)) (hk : gkeep ls kp = ls) (k : gEx d code sh rs nx ls (.int x :: .ref y :: .int x :: .ref y :: st) m o) : gEx d code sh rs pc ls (.int x :: .ref y :: st) m o :=
  gEx.one hc hk (fun post k h => h) k
theorem gEx.pop {x : Int32} (hc : code pc = some (.pop, nx, v, kp)) (hk : gkeep ls kp = ls) (k : gEx d code sh rs nx ls (st) m o) : gEx d code sh rs pc ls (.int x :: st) m o :=
  gEx.one hc hk (fun post k h => h) k
theorem gEx.idiv {x y : Int32} (hc : code pc = some (.idiv, nx, v, kp)) (hk : gkeep ls kp = ls) (k : gEx d code sh rs nx ls (.int (x / y) :: st) m o) : gEx d code sh rs pc ls (.int y :: .int x :: st) m (gnz y o) := by
  unfold gnz
  by_cases hy : y = 0
  · rw [if_pos hy]; exact gEx.none
  · rw [if_neg hy]
    exact gEx.one hc hk (fun post k h => by show (if y = 0 then False else k nx ls (.int (x / y) :: st) (sh, m) (0, 0)); rw [if_neg hy]; exact h) k
theorem gEx.irem {x y : Int32} (hc : code pc = some (.irem, nx, v, kp)) (hk : gkeep ls kp = ls) (k : gEx d code sh rs nx ls (.int (x - x / y * y) :: st) m o) : gEx d code sh rs pc ls (.int y :: .int x :: st) m (gnz y o) := by
  unfold gnz
  by_cases hy : y = 0
  · rw [if_pos hy]; exact gEx.none
  · rw [if_neg hy]
    exact gEx.one hc hk (fun post k h => by show (if y = 0 then False else k nx ls (.int (x - x / y * y) :: st) (sh, m) (0, 0)); rw [if_neg hy]; exact h) k
theorem gEx.ldiv {x y : Int64} (hc : code pc = some (.ldiv, nx, v, kp)) (hk : gkeep ls kp = ls) (k : gEx d code sh rs nx ls (.long (x / y) :: st) m o) : gEx d code sh rs pc ls (.long y :: .long x :: st) m (gnzL y o) := by
  unfold gnzL
  by_cases hy : y = 0
  · rw [if_pos hy]; exact gEx.none
  · rw [if_neg hy]
    exact gEx.one hc hk (fun post k h => by show (if y = 0 then False else k nx ls (.long (x / y) :: st) (sh, m) (0, 0)); rw [if_neg hy]; exact h) k
theorem gEx.icmp_eq {x y : Int32} {t : Int} (hc : code pc = some (.if_icmp .eq t, nx, v, kp)) (hk : gkeep ls kp = ls) (k1 : gEx d code sh rs t.toNat ls st m o1) (k2 : gEx d code sh rs nx ls st m o2) : gEx d code sh rs pc ls (.int y :: .int x :: st) m (if x = y then o1 else o2) :=
  gEx.two (x = y) hc hk (fun hp post k h => by show gcmp .eq x y (k t.toNat ls st (sh, m) (0, 0)) (k nx ls st (sh, m) (0, 0)); unfold gcmp; dsimp only; rw [if_pos hp]; exact h) (fun hp post k h => by show gcmp .eq x y (k t.toNat ls st (sh, m) (0, 0)) (k nx ls st (sh, m) (0, 0)); unfold gcmp; dsimp only; rw [if_neg hp]; exact h) k1 k2
theorem gEx.if_eq {x : Int32} {t : Int} (hc : code pc = some (.ifCond .eq t, nx, v, kp)) (hk : gkeep ls kp = ls) (k1 : gEx d code sh rs t.toNat ls st m o1) (k2 : gEx d code sh rs nx ls st m o2) : gEx d code sh rs pc ls (.int x :: st) m (if x = 0 then o1 else o2) :=
  gEx.two (x = 0) hc hk (fun hp post k h => by show gcmp .eq x 0 (k t.toNat ls st (sh, m) (0, 0)) (k nx ls st (sh, m) (0, 0)); unfold gcmp; dsimp only; rw [if_pos hp]; exact h) (fun hp post k h => by show gcmp .eq x 0 (k t.toNat ls st (sh, m) (0, 0)) (k nx ls st (sh, m) (0, 0)); unfold gcmp; dsimp only; rw [if_neg hp]; exact h) k1 k2
theorem gEx.icmp_ne {x y : Int32} {t : Int} (hc : code pc = some (.if_icmp .ne t, nx, v, kp)) (hk : gkeep ls kp = ls) (k1 : gEx d code sh rs nx ls st m o1) (k2 : gEx d code sh rs t.toNat ls st m o2) : gEx d code sh rs pc ls (.int y :: .int x :: st) m (if x = y then o1 else o2) :=
  gEx.two (x = y) hc hk (fun hp post k h => by show gcmp .ne x y (k t.toNat ls st (sh, m) (0, 0)) (k nx ls st (sh, m) (0, 0)); unfold gcmp; dsimp only; rw [if_pos hp]; exact h) (fun hp post k h => by show gcmp .ne x y (k t.toNat ls st (sh, m) (0, 0)) (k nx ls st (sh, m) (0, 0)); unfold gcmp; dsimp only; rw [if_neg hp]; exact h) k1 k2
theorem gEx.if_ne {x : Int32} {t : Int} (hc : code pc = some (.ifCond .ne t, nx, v, kp)) (hk : gkeep ls kp = ls) (k1 : gEx d code sh rs nx ls st m o1) (k2 : gEx d code sh rs t.toNat ls st m o2) : gEx d code sh rs pc ls (.int x :: st) m (if x = 0 then o1 else o2) :=
  gEx.two (x = 0) hc hk (fun hp post k h => by show gcmp .ne x 0 (k t.toNat ls st (sh, m) (0, 0)) (k nx ls st (sh, m) (0, 0)); unfold gcmp; dsimp only; rw [if_pos hp]; exact h) (fun hp post k h => by show gcmp .ne x 0 (k t.toNat ls st (sh, m) (0, 0)) (k nx ls st (sh, m) (0, 0)); unfold gcmp; dsimp only; rw [if_neg hp]; exact h) k1 k2
theorem gEx.icmp_lt {x y : Int32} {t : Int} (hc : code pc = some (.if_icmp .lt t, nx, v, kp)) (hk : gkeep ls kp = ls) (k1 : gEx d code sh rs t.toNat ls st m o1) (k2 : gEx d code sh rs nx ls st m o2) : gEx d code sh rs pc ls (.int y :: .int x :: st) m (if x < y then o1 else o2) :=
  gEx.two (x < y) hc hk (fun hp post k h => by show gcmp .lt x y (k t.toNat ls st (sh, m) (0, 0)) (k nx ls st (sh, m) (0, 0)); unfold gcmp; dsimp only; rw [if_pos hp]; exact h) (fun hp post k h => by show gcmp .lt x y (k t.toNat ls st (sh, m) (0, 0)) (k nx ls st (sh, m) (0, 0)); unfold gcmp; dsimp only; rw [if_neg hp]; exact h) k1 k2
theorem gEx.if_lt {x : Int32} {t : Int} (hc : code pc = some (.ifCond .lt t, nx, v, kp)) (hk : gkeep ls kp = ls) (k1 : gEx d code sh rs t.toNat ls st m o1) (k2 : gEx d code sh rs nx ls st m o2) : gEx d code sh rs pc ls (.int x :: st) m (if x < 0 then o1 else o2) :=
  gEx.two (x < 0) hc hk (fun hp post k h => by show gcmp .lt x 0 (k t.toNat ls st (sh, m) (0, 0)) (k nx ls st (sh, m) (0, 0)); unfold gcmp; dsimp only; rw [if_pos hp]; exact h) (fun hp post k h => by show gcmp .lt x 0 (k t.toNat ls st (sh, m) (0, 0)) (k nx ls st (sh, m) (0, 0)); unfold gcmp; dsimp only; rw [if_neg hp]; exact h) k1 k2
theorem gEx.icmp_ge {x y : Int32} {t : Int} (hc : code pc = some (.if_icmp .ge t, nx, v, kp)) (hk : gkeep ls kp = ls) (k1 : gEx d code sh rs nx ls st m o1) (k2 : gEx d code sh rs t.toNat ls st m o2) : gEx d code sh rs pc ls (.int y :: .int x :: st) m (if x < y then o1 else o2) :=
  gEx.two (x < y) hc hk (fun hp post k h => by show gcmp .ge x y (k t.toNat ls st (sh, m) (0, 0)) (k nx ls st (sh, m) (0, 0)); unfold gcmp; dsimp only; rw [if_pos hp]; exact h) (fun hp post k h => by show gcmp .ge x y (k t.toNat ls st (sh, m) (0, 0)) (k nx ls st (sh, m) (0, 0)); unfold gcmp; dsimp only; rw [if_neg hp]; exact h) k1 k2
theorem gEx.if_ge {x : Int32} {t : Int} (hc : code pc = some (.ifCond .ge t, nx, v, kp)) (hk : gkeep ls kp = ls) (k1 : gEx d code sh rs nx ls st m o1) (k2 : gEx d code sh rs t.toNat ls st m o2) : gEx d code sh rs pc ls (.int x :: st) m (if x < 0 then o1 else o2) :=
  gEx.two (x < 0) hc hk (fun hp post k h => by show gcmp .ge x 0 (k t.toNat ls st (sh, m) (0, 0)) (k nx ls st (sh, m) (0, 0)); unfold gcmp; dsimp only; rw [if_pos hp]; exact h) (fun hp post k h => by show gcmp .ge x 0 (k t.toNat ls st (sh, m) (0, 0)) (k nx ls st (sh, m) (0, 0)); unfold gcmp; dsimp only; rw [if_neg hp]; exact h) k1 k2
theorem gEx.icmp_gt {x y : Int32} {t : Int} (hc : code pc = some (.if_icmp .gt t, nx, v, kp)) (hk : gkeep ls kp = ls) (k1 : gEx d code sh rs t.toNat ls st m o1) (k2 : gEx d code sh rs nx ls st m o2) : gEx d code sh rs pc ls (.int y :: .int x :: st) m (if y < x then o1 else o2) :=
  gEx.two (y < x) hc hk (fun hp post k h => by show gcmp .gt x y (k t.toNat ls st (sh, m) (0, 0)) (k nx ls st (sh, m) (0, 0)); unfold gcmp; dsimp only; rw [if_pos hp]; exact h) (fun hp post k h => by show gcmp .gt x y (k t.toNat ls st (sh, m) (0, 0)) (k nx ls st (sh, m) (0, 0)); unfold gcmp; dsimp only; rw [if_neg hp]; exact h) k1 k2
theorem gEx.if_gt {x : Int32} {t : Int} (hc : code pc = some (.ifCond .gt t, nx, v, kp)) (hk : gkeep ls kp = ls) (k1 : gEx d code sh rs t.toNat ls st m o1) (k2 : gEx d code sh rs nx ls st m o2) : gEx d code sh rs pc ls (.int x :: st) m (if 0 < x then o1 else o2) :=
  gEx.two (0 < x) hc hk (fun hp post k h => by show gcmp .gt x 0 (k t.toNat ls st (sh, m) (0, 0)) (k nx ls st (sh, m) (0, 0)); unfold gcmp; dsimp only; rw [if_pos hp]; exact h) (fun hp post k h => by show gcmp .gt x 0 (k t.toNat ls st (sh, m) (0, 0)) (k nx ls st (sh, m) (0, 0)); unfold gcmp; dsimp only; rw [if_neg hp]; exact h) k1 k2
theorem gEx.icmp_le {x y : Int32} {t : Int} (hc : code pc = some (.if_icmp .le t, nx, v, kp)) (hk : gkeep ls kp = ls) (k1 : gEx d code sh rs nx ls st m o1) (k2 : gEx d code sh rs t.toNat ls st m o2) : gEx d code sh rs pc ls (.int y :: .int x :: st) m (if y < x then o1 else o2) :=
  gEx.two (y < x) hc hk (fun hp post k h => by show gcmp .le x y (k t.toNat ls st (sh, m) (0, 0)) (k nx ls st (sh, m) (0, 0)); unfold gcmp; dsimp only; rw [if_pos hp]; exact h) (fun hp post k h => by show gcmp .le x y (k t.toNat ls st (sh, m) (0, 0)) (k nx ls st (sh, m) (0, 0)); unfold gcmp; dsimp only; rw [if_neg hp]; exact h) k1 k2
theorem gEx.if_le {x : Int32} {t : Int} (hc : code pc = some (.ifCond .le t, nx, v, kp)) (hk : gkeep ls kp = ls) (k1 : gEx d code sh rs nx ls st m o1) (k2 : gEx d code sh rs t.toNat ls st m o2) : gEx d code sh rs pc ls (.int x :: st) m (if 0 < x then o1 else o2) :=
  gEx.two (0 < x) hc hk (fun hp post k h => by show gcmp .le x 0 (k t.toNat ls st (sh, m) (0, 0)) (k nx ls st (sh, m) (0, 0)); unfold gcmp; dsimp only; rw [if_pos hp]; exact h) (fun hp post k h => by show gcmp .le x 0 (k t.toNat ls st (sh, m) (0, 0)) (k nx ls st (sh, m) (0, 0)); unfold gcmp; dsimp only; rw [if_neg hp]; exact h) k1 k2
theorem gEx.goto {t : Int} (hc : code pc = some (.goto t, nx, v, kp)) (hk : gkeep ls kp = ls) (k : gEx d code sh rs t.toNat ls st m o) : gEx d code sh rs pc ls st m o :=
  gEx.one hc hk (fun post k h => h) k
theorem gEx.getI {ci f a : Nat} {fs : List (Option (Option Nat))} (hc : code pc = some (.invokeinterface ci f, nx, v, kp)) (hk : gkeep ls kp = ls) (hs : sh.1 a = some (.inr (.inr (ci, fs)))) (hf : fs[f]? = some Option.none) (k : gEx d code sh rs nx ls (.int (gfd m a f) :: st) m o) : gEx d code sh rs pc ls (.ref a :: st) m o :=
  gEx.one hc hk (fun post k h => by
    show (match sh.1 a with
          | some (.inr (.inr (c, fs))) => cond (Nat.beq c ci) (match fs[f]? with
              | some e => k nx ls (gfv m a f e :: st) (sh, m) (0, 0)
              | Option.none => False) False
          | _ => False)
    rw [hs]
    show cond (Nat.beq ci ci) (match fs[f]? with
              | some e => k nx ls (gfv m a f e :: st) (sh, m) (0, 0)
              | Option.none => False) False
    rw [Nat.beq_refl, hf]
    exact h) k
theorem gEx.getR {ci f a t : Nat} {fs : List (Option (Option Nat))} (hc : code pc = some (.invokeinterface ci f, nx, v, kp)) (hk : gkeep ls kp = ls) (hs : sh.1 a = some (.inr (.inr (ci, fs)))) (hf : fs[f]? = some (some (some t))) (k : gEx d code sh rs nx ls (.ref t :: st) m o) : gEx d code sh rs pc ls (.ref a :: st) m o :=
  gEx.one hc hk (fun post k h => by
    show (match sh.1 a with
          | some (.inr (.inr (c, fs))) => cond (Nat.beq c ci) (match fs[f]? with
              | some e => k nx ls (gfv m a f e :: st) (sh, m) (0, 0)
              | Option.none => False) False
          | _ => False)
    rw [hs]
    show cond (Nat.beq ci ci) (match fs[f]? with
              | some e => k nx ls (gfv m a f e :: st) (sh, m) (0, 0)
              | Option.none => False) False
    rw [Nat.beq_refl, hf]
    exact h) k
theorem gEx.putI {ci f a : Nat} {x : Int32} {g : gM → Option R} {fs : List (Option (Option Nat))} (hc : code pc = some (.multianewarray ci f, nx, v, kp)) (hk : gkeep ls kp = ls) (hs : sh.1 a = some (.inr (.inr (ci, fs)))) (hf : fs[f]? = some Option.none) (hd : (gdf ci)[f]? = some Option.none) (hz : gZf ci f = false) (k : ∀ m, gEx d code sh rs nx ls st m (g m)) : gEx d code sh rs pc ls (.int x :: .ref a :: st) m (glet (gsf m a f x) g) :=
  gEx.one hc hk (fun post k h => by
    show (match sh.1 a with
          | some (.inr (.inr (c, fs))) => cond (Nat.beq c ci) (match fs[f]?, (gdf ci)[f]? with
              | some Option.none, some Option.none => cond (gZf ci f) (if x = 0 ∨ x = 1 then k nx ls st (sh, gup m.1 a f x, m.2) (0, 0) else False) (k nx ls st (sh, gup m.1 a f x, m.2) (0, 0))
              | _, _ => False) False
          | _ => False)
    rw [hs]
    show cond (Nat.beq ci ci) (match fs[f]?, (gdf ci)[f]? with
              | some Option.none, some Option.none => cond (gZf ci f) (if x = 0 ∨ x = 1 then k nx ls st (sh, gup m.1 a f x, m.2) (0, 0) else False) (k nx ls st (sh, gup m.1 a f x, m.2) (0, 0))
              | _, _ => False) False
    rw [Nat.beq_refl, hf, hd]
    show cond (gZf ci f) (if x = 0 ∨ x = 1 then k nx ls st (sh, gup m.1 a f x, m.2) (0, 0) else False) (k nx ls st (sh, gup m.1 a f x, m.2) (0, 0))
    rw [hz]
    exact h) (k _)
theorem gEx.putZ {ci f a : Nat} {x : Int32} {g : gM → Option R} {fs : List (Option (Option Nat))} (hc : code pc = some (.multianewarray ci f, nx, v, kp)) (hk : gkeep ls kp = ls) (hs : sh.1 a = some (.inr (.inr (ci, fs)))) (hf : fs[f]? = some Option.none) (hd : (gdf ci)[f]? = some Option.none) (k : ∀ m, gEx d code sh rs nx ls st m (g m)) : gEx d code sh rs pc ls (.int x :: .ref a :: st) m (gzo x (glet (gsf m a f x) g)) := by
  unfold gzo
  by_cases hx : x = 0 ∨ x = 1
  · rw [if_pos hx]
    exact gEx.one hc hk (fun post k h => by
      show (match sh.1 a with
          | some (.inr (.inr (c, fs))) => cond (Nat.beq c ci) (match fs[f]?, (gdf ci)[f]? with
              | some Option.none, some Option.none => cond (gZf ci f) (if x = 0 ∨ x = 1 then k nx ls st (sh, gup m.1 a f x, m.2) (0, 0) else False) (k nx ls st (sh, gup m.1 a f x, m.2) (0, 0))
              | _, _ => False) False
          | _ => False)
      rw [hs]
      show cond (Nat.beq ci ci) (match fs[f]?, (gdf ci)[f]? with
              | some Option.none, some Option.none => cond (gZf ci f) (if x = 0 ∨ x = 1 then k nx ls st (sh, gup m.1 a f x, m.2) (0, 0) else False) (k nx ls st (sh, gup m.1 a f x, m.2) (0, 0))
              | _, _ => False) False
      rw [Nat.beq_refl, hf, hd, if_pos hx]
      cases gZf ci f <;> exact h) (k _)
  · rw [if_neg hx]
    exact gEx.none
theorem gEx.iald {a n : Nat} {i : Int32} (hc : code pc = some (.iaload, nx, v, kp)) (hk : gkeep ls kp = ls) (hs : sh.1 a = some (.inl (0, n))) (k : gEx d code sh rs nx ls (.int (grd m a i) :: st) m o) : gEx d code sh rs pc ls (.int i :: .ref a :: st) m (gok (gib i n) o) := by
  unfold gok
  cases hi : gib i n with
  | false => exact gEx.none
  | true =>
    exact gEx.one hc hk (fun post k h => by
      show (match sh.1 a with
          | some (.inl (0, n)) => cond (gib i n) (k nx ls (.int (grd m a i) :: st) (sh, m) (0, 0)) False
          | _ => False)
      rw [hs]
      show cond (gib i n) (k nx ls (.int (grd m a i) :: st) (sh, m) (0, 0)) False
      rw [hi]
      exact h) k
theorem gEx.bald {a n : Nat} {i : Int32} (hc : code pc = some (.baload, nx, v, kp)) (hk : gkeep ls kp = ls) (hs : sh.1 a = some (.inl (1, n))) (k : gEx d code sh rs nx ls (.int (grd m a i) :: st) m o) : gEx d code sh rs pc ls (.int i :: .ref a :: st) m (gok (gib i n) o) := by
  unfold gok
  cases hi : gib i n with
  | false => exact gEx.none
  | true =>
    exact gEx.one hc hk (fun post k h => by
      show (match sh.1 a with
          | some (.inl (1, n)) => cond (gib i n) (k nx ls (.int (grd m a i) :: st) (sh, m) (0, 0)) False
          | _ => False)
      rw [hs]
      show cond (gib i n) (k nx ls (.int (grd m a i) :: st) (sh, m) (0, 0)) False
      rw [hi]
      exact h) k
theorem gEx.lald {a n : Nat} {i : Int32} (hc : code pc = some (.laload, nx, v, kp)) (hk : gkeep ls kp = ls) (hs : sh.1 a = some (.inl (2, n))) (k : gEx d code sh rs nx ls (.long (grdL m a i) :: st) m o) : gEx d code sh rs pc ls (.int i :: .ref a :: st) m (gok (gib i n) o) := by
  unfold gok
  cases hi : gib i n with
  | false => exact gEx.none
  | true =>
    exact gEx.one hc hk (fun post k h => by
      show (match sh.1 a with
          | some (.inl (2, n)) => cond (gib i n) (k nx ls (.long (grdL m a i) :: st) (sh, m) (0, 0)) False
          | _ => False)
      rw [hs]
      show cond (gib i n) (k nx ls (.long (grdL m a i) :: st) (sh, m) (0, 0)) False
      rw [hi]
      exact h) k
theorem gEx.iast {a n : Nat} {i : Int32} {x : Int32} {g : gM → Option R} (hc : code pc = some (.iastore, nx, v, kp)) (hk : gkeep ls kp = ls) (hs : sh.1 a = some (.inl (0, n))) (k : ∀ m, gEx d code sh rs nx ls st m (g m)) : gEx d code sh rs pc ls (.int x :: .int i :: .ref a :: st) m (gok (gib i n) (glet (gst m a i x) g)) := by
  unfold gok
  cases hi : gib i n with
  | false => exact gEx.none
  | true =>
    exact gEx.one hc hk (fun post k h => by
      show (match sh.1 a with
          | some (.inl (0, n)) => cond (gib i n) (k nx ls st (sh, gst m a i x) (0, 0)) False
          | _ => False)
      rw [hs]
      show cond (gib i n) (k nx ls st (sh, gst m a i x) (0, 0)) False
      rw [hi]
      exact h) (k _)
theorem gEx.last {a n : Nat} {i : Int32} {x : Int64} {g : gM → Option R} (hc : code pc = some (.lastore, nx, v, kp)) (hk : gkeep ls kp = ls) (hs : sh.1 a = some (.inl (2, n))) (k : ∀ m, gEx d code sh rs nx ls st m (g m)) : gEx d code sh rs pc ls (.long x :: .int i :: .ref a :: st) m (gok (gib i n) (glet (gstL m a i x) g)) := by
  unfold gok
  cases hi : gib i n with
  | false => exact gEx.none
  | true =>
    exact gEx.one hc hk (fun post k h => by
      show (match sh.1 a with
          | some (.inl (2, n)) => cond (gib i n) (k nx ls st (sh, gstL m a i x) (0, 0)) False
          | _ => False)
      rw [hs]
      show cond (gib i n) (k nx ls st (sh, gstL m a i x) (0, 0)) False
      rw [hi]
      exact h) (k _)
theorem gEx.bast {a n : Nat} {i x : Int32} {g : gM → Option R} (hc : code pc = some (.bastore, nx, v, kp)) (hk : gkeep ls kp = ls) (hs : sh.1 a = some (.inl (1, n))) (k : ∀ m, gEx d code sh rs nx ls st m (g m)) : gEx d code sh rs pc ls (.int x :: .int i :: .ref a :: st) m (gok (gib i n) (gzo x (glet (gst m a i x) g))) := by
  unfold gok gzo
  cases hi : gib i n with
  | false => exact gEx.none
  | true =>
    by_cases hx : x = 0 ∨ x = 1
    · show gEx d code sh rs pc ls (.int x :: .int i :: .ref a :: st) m (if x = 0 ∨ x = 1 then (glet (gst m a i x) g) else Option.none)
      rw [if_pos hx]
      exact gEx.one hc hk (fun post k h => by
        show (match sh.1 a with
          | some (.inl (1, n)) => cond (gib i n) (if x = 0 ∨ x = 1 then k nx ls st (sh, gst m a i x) (0, 0) else False) False
          | _ => False)
        rw [hs]
        show cond (gib i n) (if x = 0 ∨ x = 1 then k nx ls st (sh, gst m a i x) (0, 0) else False) False
        rw [hi, if_pos hx]
        exact h) (k _)
    · show gEx d code sh rs pc ls (.int x :: .int i :: .ref a :: st) m (if x = 0 ∨ x = 1 then (glet (gst m a i x) g) else Option.none)
      rw [if_neg hx]
      exact gEx.none
theorem gEx.alen {a n : Nat} (hc : code pc = some (.arraylength, nx, v, kp)) (hk : gkeep ls kp = ls) (hs : sh.1 a = some (.inl (0, n))) (k : gEx d code sh rs nx ls (.int (Int32.ofNat n) :: st) m o) : gEx d code sh rs pc ls (.ref a :: st) m o :=
  gEx.one hc hk (fun post k h => by
    show (match sh.1 a with
          | some (.inl (0, n)) => k nx ls (.int (Int32.ofNat n) :: st) (sh, m) (0, 0)
          | _ => False)
    rw [hs]
    exact h) k
theorem gEx.sw {dft : Int} {ps : Array (Int × Int)} {x : Int32} (hc : code pc = some (.lookupswitch dft ps, nx, v, kp)) (hk : gkeep ls kp = ls) (l : List (Int32 × Option R)) (dd : Option R)
    (h : gswP (fun t o => gEx d code sh rs t ls st m o) ps.toList l) (hd : gEx d code sh rs dft.toNat ls st m dd) : gEx d code sh rs pc ls (.int x :: st) m (gswo x l dd) := by
  have key : ∀ (ps : List (Int × Int)) (l : List (Int32 × Option R)), gswP (fun t o => gEx d code sh rs t ls st m o) ps l → ∀ y, gswo x l dd = some y → ∃ n, gsw x (fun t => gexec (gR gmi gdf gcd d) gmi gdf code (fun v t => (v, t) = ((rs y).1, (sh, (rs y).2))) n t ls st (sh, m) (0, 0)) ps dft.toNat := by
    intro ps
    induction ps with
    | nil =>
      intro l hl y hy
      cases l with
      | nil => exact hd y hy
      | cons _ _ => exact (hl : False).elim
    | cons p ps ih =>
      intro l hl y hy
      cases l with
      | nil => exact (hl : False).elim
      | cons q l =>
        obtain ⟨vv, tt⟩ := p
        obtain ⟨ww, oo⟩ := q
        obtain ⟨h1, h2, h3⟩ : Int32.ofInt vv = ww ∧ gEx d code sh rs tt.toNat ls st m oo ∧ gswP (fun t o => gEx d code sh rs t ls st m o) ps l := hl
        subst h1
        unfold gswo at hy
        by_cases hx : x = Int32.ofInt vv
        · rw [if_pos hx] at hy
          obtain ⟨n, hn⟩ := h2 y hy
          exact ⟨n, by unfold gsw; rw [if_pos hx]; exact hn⟩
        · rw [if_neg hx] at hy
          obtain ⟨n, hn⟩ := ih l h3 y hy
          exact ⟨n, by unfold gsw; rw [if_neg hx]; exact hn⟩
  intro y hy
  obtain ⟨n, hn⟩ := key ps.toList l h y hy
  refine ⟨n + 1, ?_⟩
  unfold gexec
  rw [hc]
  dsimp only
  rw [hk]
  exact hn
theorem gEx.callVi {q ci n a : Nat} {fs : List (Option (Option Nat))} {st' as : List Value} {f : Option (Int32 × gM)} {g : Int32 × gM → Option R} (hc : code pc = some (.invokevirtual q, nx, v, kp)) (hk : gkeep ls kp = ls) (hmi : gmi q = some (ci, n, 0, 0)) (hp : gpop n [] st = some (as, .ref a :: st')) (hs : sh.1 a = some (.inr (.inr (ci, fs)))) (hw : gcan 0 0 (0, 0) st' = true) (hf : ∀ x, f = some x → gR gmi gdf gcd d q (.ref a :: as) (sh, m) ((gri x).1, (sh, (gri x).2))) (k : ∀ x, gEx d code sh rs nx ls (.int x.1 :: st') x.2 (g x)) : gEx d code sh rs pc ls st m (f.bind g) := by
  intro y hy
  cases hf9 : f with
  | none => rw [hf9] at hy; cases hy
  | some x =>
    rw [hf9] at hy
    obtain ⟨n9, hn⟩ := k x y hy
    refine ⟨n9 + 1, ?_⟩
    unfold gexec
    rw [hc]
    dsimp only
    rw [hk]
    unfold gstep
    dsimp only
    rw [hmi]
    dsimp only
    rw [hp]
    dsimp only
    rw [hs]
    dsimp only
    rw [Nat.beq_refl]
    dsimp only [cond]
    rw [hw]
    exact ⟨_, hf x hf9, hn⟩
theorem gEx.callVv {q ci n a : Nat} {fs : List (Option (Option Nat))} {st' as : List Value} {f : Option (gM)} {g : gM → Option R} (hc : code pc = some (.invokevirtual q, nx, v, kp)) (hk : gkeep ls kp = ls) (hmi : gmi q = some (ci, n, 0, 0)) (hp : gpop n [] st = some (as, .ref a :: st')) (hs : sh.1 a = some (.inr (.inr (ci, fs)))) (hw : gcan 0 0 (0, 0) st' = true) (hf : ∀ x, f = some x → gR gmi gdf gcd d q (.ref a :: as) (sh, m) ((grv x).1, (sh, (grv x).2))) (k : ∀ x, gEx d code sh rs nx ls (st') x (g x)) : gEx d code sh rs pc ls st m (f.bind g) := by
  intro y hy
  cases hf9 : f with
  | none => rw [hf9] at hy; cases hy
  | some x =>
    rw [hf9] at hy
    obtain ⟨n9, hn⟩ := k x y hy
    refine ⟨n9 + 1, ?_⟩
    unfold gexec
    rw [hc]
    dsimp only
    rw [hk]
    unfold gstep
    dsimp only
    rw [hmi]
    dsimp only
    rw [hp]
    dsimp only
    rw [hs]
    dsimp only
    rw [Nat.beq_refl]
    dsimp only [cond]
    rw [hw]
    exact ⟨_, hf x hf9, hn⟩
theorem gEx.callVl {q ci n a : Nat} {fs : List (Option (Option Nat))} {st' as : List Value} {f : Option (Int64 × gM)} {g : Int64 × gM → Option R} (hc : code pc = some (.invokevirtual q, nx, v, kp)) (hk : gkeep ls kp = ls) (hmi : gmi q = some (ci, n, 0, 0)) (hp : gpop n [] st = some (as, .ref a :: st')) (hs : sh.1 a = some (.inr (.inr (ci, fs)))) (hw : gcan 0 0 (0, 0) st' = true) (hf : ∀ x, f = some x → gR gmi gdf gcd d q (.ref a :: as) (sh, m) ((grl x).1, (sh, (grl x).2))) (k : ∀ x, gEx d code sh rs nx ls (.long x.1 :: st') x.2 (g x)) : gEx d code sh rs pc ls st m (f.bind g) := by
  intro y hy
  cases hf9 : f with
  | none => rw [hf9] at hy; cases hy
  | some x =>
    rw [hf9] at hy
    obtain ⟨n9, hn⟩ := k x y hy
    refine ⟨n9 + 1, ?_⟩
    unfold gexec
    rw [hc]
    dsimp only
    rw [hk]
    unfold gstep
    dsimp only
    rw [hmi]
    dsimp only
    rw [hp]
    dsimp only
    rw [hs]
    dsimp only
    rw [Nat.beq_refl]
    dsimp only [cond]
    rw [hw]
    exact ⟨_, hf x hf9, hn⟩
theorem gEx.callVs {q ci n a : Nat} {fs : List (Option (Option Nat))} {st' as : List Value} {f : Option (Nat × gM)} {g : Nat × gM → Option R} (hc : code pc = some (.invokevirtual q, nx, v, kp)) (hk : gkeep ls kp = ls) (hmi : gmi q = some (ci, n, 0, 0)) (hp : gpop n [] st = some (as, .ref a :: st')) (hs : sh.1 a = some (.inr (.inr (ci, fs)))) (hw : gcan 0 0 (0, 0) st' = true) (hf : ∀ x, f = some x → gR gmi gdf gcd d q (.ref a :: as) (sh, m) ((grs x).1, (sh, (grs x).2))) (k : ∀ x, gEx d code sh rs nx ls (.retAddr x.1 :: st') x.2 (g x)) : gEx d code sh rs pc ls st m (f.bind g) := by
  intro y hy
  cases hf9 : f with
  | none => rw [hf9] at hy; cases hy
  | some x =>
    rw [hf9] at hy
    obtain ⟨n9, hn⟩ := k x y hy
    refine ⟨n9 + 1, ?_⟩
    unfold gexec
    rw [hc]
    dsimp only
    rw [hk]
    unfold gstep
    dsimp only
    rw [hmi]
    dsimp only
    rw [hp]
    dsimp only
    rw [hs]
    dsimp only
    rw [Nat.beq_refl]
    dsimp only [cond]
    rw [hw]
    exact ⟨_, hf x hf9, hn⟩
theorem gEx.callSi {q ci n : Nat} {st' as : List Value} {f : Option (Int32 × gM)} {g : Int32 × gM → Option R} (hc : code pc = some (.invokestatic q, nx, v, kp)) (hk : gkeep ls kp = ls) (hmi : gmi q = some (ci, n, 0, 0)) (hp : gpop n [] st = some (as, st')) (hw : gcan 0 0 (0, 0) st' = true) (hf : ∀ x, f = some x → gR gmi gdf gcd d q (as) (sh, m) ((gri x).1, (sh, (gri x).2))) (k : ∀ x, gEx d code sh rs nx ls (.int x.1 :: st') x.2 (g x)) : gEx d code sh rs pc ls st m (f.bind g) := by
  intro y hy
  cases hf9 : f with
  | none => rw [hf9] at hy; cases hy
  | some x =>
    rw [hf9] at hy
    obtain ⟨n9, hn⟩ := k x y hy
    refine ⟨n9 + 1, ?_⟩
    unfold gexec
    rw [hc]
    dsimp only
    rw [hk]
    unfold gstep
    dsimp only
    rw [hmi]
    dsimp only
    rw [hp]
    dsimp only
    rw [hw]
    exact ⟨_, hf x hf9, hn⟩
theorem gEx.callSv {q ci n : Nat} {st' as : List Value} {f : Option (gM)} {g : gM → Option R} (hc : code pc = some (.invokestatic q, nx, v, kp)) (hk : gkeep ls kp = ls) (hmi : gmi q = some (ci, n, 0, 0)) (hp : gpop n [] st = some (as, st')) (hw : gcan 0 0 (0, 0) st' = true) (hf : ∀ x, f = some x → gR gmi gdf gcd d q (as) (sh, m) ((grv x).1, (sh, (grv x).2))) (k : ∀ x, gEx d code sh rs nx ls (st') x (g x)) : gEx d code sh rs pc ls st m (f.bind g) := by
  intro y hy
  cases hf9 : f with
  | none => rw [hf9] at hy; cases hy
  | some x =>
    rw [hf9] at hy
    obtain ⟨n9, hn⟩ := k x y hy
    refine ⟨n9 + 1, ?_⟩
    unfold gexec
    rw [hc]
    dsimp only
    rw [hk]
    unfold gstep
    dsimp only
    rw [hmi]
    dsimp only
    rw [hp]
    dsimp only
    rw [hw]
    exact ⟨_, hf x hf9, hn⟩
theorem gEx.callSl {q ci n : Nat} {st' as : List Value} {f : Option (Int64 × gM)} {g : Int64 × gM → Option R} (hc : code pc = some (.invokestatic q, nx, v, kp)) (hk : gkeep ls kp = ls) (hmi : gmi q = some (ci, n, 0, 0)) (hp : gpop n [] st = some (as, st')) (hw : gcan 0 0 (0, 0) st' = true) (hf : ∀ x, f = some x → gR gmi gdf gcd d q (as) (sh, m) ((grl x).1, (sh, (grl x).2))) (k : ∀ x, gEx d code sh rs nx ls (.long x.1 :: st') x.2 (g x)) : gEx d code sh rs pc ls st m (f.bind g) := by
  intro y hy
  cases hf9 : f with
  | none => rw [hf9] at hy; cases hy
  | some x =>
    rw [hf9] at hy
    obtain ⟨n9, hn⟩ := k x y hy
    refine ⟨n9 + 1, ?_⟩
    unfold gexec
    rw [hc]
    dsimp only
    rw [hk]
    unfold gstep
    dsimp only
    rw [hmi]
    dsimp only
    rw [hp]
    dsimp only
    rw [hw]
    exact ⟨_, hf x hf9, hn⟩
theorem gEx.callSs {q ci n : Nat} {st' as : List Value} {f : Option (Nat × gM)} {g : Nat × gM → Option R} (hc : code pc = some (.invokestatic q, nx, v, kp)) (hk : gkeep ls kp = ls) (hmi : gmi q = some (ci, n, 0, 0)) (hp : gpop n [] st = some (as, st')) (hw : gcan 0 0 (0, 0) st' = true) (hf : ∀ x, f = some x → gR gmi gdf gcd d q (as) (sh, m) ((grs x).1, (sh, (grs x).2))) (k : ∀ x, gEx d code sh rs nx ls (.retAddr x.1 :: st') x.2 (g x)) : gEx d code sh rs pc ls st m (f.bind g) := by
  intro y hy
  cases hf9 : f with
  | none => rw [hf9] at hy; cases hy
  | some x =>
    rw [hf9] at hy
    obtain ⟨n9, hn⟩ := k x y hy
    refine ⟨n9 + 1, ?_⟩
    unfold gexec
    rw [hc]
    dsimp only
    rw [hk]
    unfold gstep
    dsimp only
    rw [hmi]
    dsimp only
    rw [hp]
    dsimp only
    rw [hw]
    exact ⟨_, hf x hf9, hn⟩
theorem gEx.mmax {x y : Int32} (hc : code pc = some (.invokedynamic 3, nx, v, kp)) (hk : gkeep ls kp = ls) (hw : gcan 0 0 (0, 0) st = true) (k : gEx d code sh rs nx ls (.int (gmax x y) :: st) m o) : gEx d code sh rs pc ls (.int y :: .int x :: st) m o :=
  gEx.one hc hk (fun post k h => by show cond (gcan 0 0 (0, 0) st) (k nx ls (.int (gmax x y) :: st) (sh, m) (0, 0)) False; rw [hw]; exact h) k
theorem gEx.mmin {x y : Int32} (hc : code pc = some (.invokedynamic 4, nx, v, kp)) (hk : gkeep ls kp = ls) (hw : gcan 0 0 (0, 0) st = true) (k : gEx d code sh rs nx ls (.int (gmin x y) :: st) m o) : gEx d code sh rs pc ls (.int y :: .int x :: st) m o :=
  gEx.one hc hk (fun post k h => by show cond (gcan 0 0 (0, 0) st) (k nx ls (.int (gmin x y) :: st) (sh, m) (0, 0)) False; rw [hw]; exact h) k
theorem gEx.mabs {x : Int32} (hc : code pc = some (.invokedynamic 5, nx, v, kp)) (hk : gkeep ls kp = ls) (hw : gcan 0 0 (0, 0) st = true) (k : gEx d code sh rs nx ls (.int (gabs x) :: st) m o) : gEx d code sh rs pc ls (.int x :: st) m o :=
  gEx.one hc hk (fun post k h => by show cond (gcan 0 0 (0, 0) st) (k nx ls (.int (gabs x) :: st) (sh, m) (0, 0)) False; rw [hw]; exact h) k
theorem gEx.acopy {a b n0 n1 : Nat} {n dp sp : Int32} {g : gM → Option R} (hc : code pc = some (.invokedynamic 0, nx, v, kp)) (hk : gkeep ls kp = ls) (hs0 : sh.1 a = some (.inl (0, n0))) (hs1 : sh.1 b = some (.inl (0, n1))) (hw : (gcan 0 0 (0, 0) st && decide (0 ≤ sp) && decide (0 ≤ dp) && decide (0 ≤ n) && Nat.ble (sp.toNatClampNeg + n.toNatClampNeg) n0 && Nat.ble (dp.toNatClampNeg + n.toNatClampNeg) n1) = true) (k : ∀ m, gEx d code sh rs nx ls st m (g m)) : gEx d code sh rs pc ls (.int n :: .int dp :: .ref b :: .int sp :: .ref a :: st) m (glet (gcp m a b sp.toNatClampNeg dp.toNatClampNeg n.toNatClampNeg) g) :=
  gEx.one hc hk (fun post k h => by
    show (match sh.1 a, sh.1 b with
              | some (.inl (0, n0)), some (.inl (0, n1)) => cond (gcan 0 0 (0, 0) st && decide (0 ≤ sp) && decide (0 ≤ dp) && decide (0 ≤ n) && Nat.ble (sp.toNatClampNeg + n.toNatClampNeg) n0 && Nat.ble (dp.toNatClampNeg + n.toNatClampNeg) n1) (k nx ls st (sh, gcp m a b sp.toNatClampNeg dp.toNatClampNeg n.toNatClampNeg) (0, 0)) False
              | _, _ => False)
    rw [hs0, hs1]
    show cond (gcan 0 0 (0, 0) st && decide (0 ≤ sp) && decide (0 ≤ dp) && decide (0 ≤ n) && Nat.ble (sp.toNatClampNeg + n.toNatClampNeg) n0 && Nat.ble (dp.toNatClampNeg + n.toNatClampNeg) n1) (k nx ls st (sh, gcp m a b sp.toNatClampNeg dp.toNatClampNeg n.toNatClampNeg) (0, 0)) False
    rw [hw]
    exact h) (k _)
theorem gEx.slen {j : Nat} (hj : j < 7) (h4 : 4 ≤ d) (hc : code pc = some (.invokedynamic 1, nx, v, kp)) (hk : gkeep ls kp = ls) (hw : gcan 0 0 (0, 0) st = true) (k : gEx d code sh rs nx ls (.int (Int32.ofNat (gslen j)) :: st) m o) : gEx d code sh rs pc ls (.retAddr j :: st) m o :=
  gEx.one hc hk (fun post k h => by
    show cond (gcan 0 0 (0, 0) st) (∃ r, gR gmi gdf gcd d 900 [.retAddr j] (sh, m) r ∧ k nx ls (r.1.toList ++ st) r.2 (0, 0)) False
    rw [hw]
    exact ⟨(some (.int (Int32.ofNat (gslen j))), (sh, m)), gR900 hj h4, h⟩) k
theorem gEx.schr {j : Nat} {i : Int32} (hj : j < 7) (h4 : 4 ≤ d) (hc : code pc = some (.invokedynamic 2, nx, v, kp)) (hk : gkeep ls kp = ls) (hw : gcan 0 0 (0, 0) st = true) (k : gEx d code sh rs nx ls (.int (gsch j i.toNatClampNeg) :: st) m o) : gEx d code sh rs pc ls (.int i :: .retAddr j :: st) m (gok (gib i (gslen j)) o) := by
  unfold gok
  cases hi : gib i (gslen j) with
  | false => exact gEx.none
  | true =>
    exact gEx.one hc hk (fun post k h => by
      show cond (gcan 0 0 (0, 0) st) (∃ r, gR gmi gdf gcd d 901 [.retAddr j, .int i] (sh, m) r ∧ k nx ls (r.1.toList ++ st) r.2 (0, 0)) False
      rw [hw]
      exact ⟨(some (.int (gsch j i.toNatClampNeg)), (sh, m)), gR901 hj h4 hi, h⟩) k
theorem gEx.reti {d : Nat} {sh : gH} {x : Int32} (hc : code pc = some (.ireturn, nx, v, kp)) (hk : gkeep ls kp = ls) : gEx d code sh gri pc ls [.int x] m (some (x, m)) :=
  gEx.ret hc hk (fun post k h => h)
theorem gEx.retz {d : Nat} {sh : gH} {x : Int32} (hc : code pc = some (.freturn, nx, v, kp)) (hk : gkeep ls kp = ls) : gEx d code sh gri pc ls [.int x] m (gzo x (some (x, m))) := by
  unfold gzo
  by_cases hx : x = 0 ∨ x = 1
  · rw [if_pos hx]
    exact gEx.ret hc hk (fun post k h => by show (if x = 0 ∨ x = 1 then post (some (.int x)) (sh, m) else False); rw [if_pos hx]; exact h)
  · rw [if_neg hx]; exact gEx.none
theorem gEx.retz0 {d : Nat} {sh : gH} {x : Int32} (hx : x = 0 ∨ x = 1) (hc : code pc = some (.freturn, nx, v, kp)) (hk : gkeep ls kp = ls) : gEx d code sh gri pc ls [.int x] m (some (x, m)) :=
  gEx.ret hc hk (fun post k h => by show (if x = 0 ∨ x = 1 then post (some (.int x)) (sh, m) else False); rw [if_pos hx]; exact h)
theorem gEx.retl {d : Nat} {sh : gH} {x : Int64} (hc : code pc = some (.lreturn, nx, v, kp)) (hk : gkeep ls kp = ls) : gEx d code sh grl pc ls [.long x] m (some (x, m)) :=
  gEx.ret hc hk (fun post k h => h)
theorem gEx.rets {d : Nat} {sh : gH} {x : Nat} (hc : code pc = some (.areturn, nx, v, kp)) (hk : gkeep ls kp = ls) : gEx d code sh grs pc ls [.retAddr x] m (some (x, m)) :=
  gEx.ret hc hk (fun post k h => h)
theorem gEx.retv {d : Nat} {sh : gH} (hc : code pc = some (.return_, nx, v, kp)) (hk : gkeep ls kp = ls) : gEx d code sh grv pc ls [] m (some m) :=
  gEx.ret hc hk (fun post k h => h)
end GEX
end
