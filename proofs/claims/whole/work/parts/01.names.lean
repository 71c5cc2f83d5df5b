-- ===== PART A: goes FIRST, ahead of the names: the tables' words, and 'selects' of the private methods out of them =====
/-- a private method of a class that the tables say can be made, by its rows of tables_1 -/
def lw_okq (q : MethodName × Nat) : Prop := (q.1.cls ≠ "java/lang/invoke/MethodHandle" ∧ q.1.cls ≠ "java/lang/invoke/VarHandle") ∧ Cond.instantiable q.1.cls q.2 ∈ tables_1 ∧ Cond.privateMethod q.1 ∈ tables_1 ∧ Cond.instanceMethod q.1 ∈ tables_1
theorem lw_p0 : lw_okq (⟨"OilTown", "hasCell", "(I)Z"⟩, 10) := ⟨⟨by decide +kernel, by decide +kernel⟩, List.mem_of_getElem? (i := 22) (by decide +kernel), List.mem_of_getElem? (i := 481) (by decide +kernel), List.mem_of_getElem? (i := 482) (by decide +kernel)⟩
theorem lw_p1 : lw_okq (⟨"OilTown$Town", "drawBy", "(I[I)I"⟩, 5) := ⟨⟨by decide +kernel, by decide +kernel⟩, List.mem_of_getElem? (i := 30) (by decide +kernel), List.mem_of_getElem? (i := 522) (by decide +kernel), List.mem_of_getElem? (i := 523) (by decide +kernel)⟩
theorem lw_p2 : lw_okq (⟨"OilTown$Currents", "measureCell", "(LOilTown$Pool;I)V"⟩, 8) := ⟨⟨by decide +kernel, by decide +kernel⟩, List.mem_of_getElem? (i := 352) (by decide +kernel), List.mem_of_getElem? (i := 558) (by decide +kernel), List.mem_of_getElem? (i := 559) (by decide +kernel)⟩
theorem lw_p3 : lw_okq (⟨"OilTown$Currents", "add", "(LOilTown$Pool;IIJ)V"⟩, 8) := ⟨⟨by decide +kernel, by decide +kernel⟩, List.mem_of_getElem? (i := 352) (by decide +kernel), List.mem_of_getElem? (i := 572) (by decide +kernel), List.mem_of_getElem? (i := 573) (by decide +kernel)⟩
theorem lw_p4 : lw_okq (⟨"OilTown$Currents", "moveWater", "(LOilTown$Pool;)V"⟩, 8) := ⟨⟨by decide +kernel, by decide +kernel⟩, List.mem_of_getElem? (i := 352) (by decide +kernel), List.mem_of_getElem? (i := 582) (by decide +kernel), List.mem_of_getElem? (i := 583) (by decide +kernel)⟩
theorem lw_p5 : lw_okq (⟨"OilTown", "isPerson", "(I)Z"⟩, 10) := ⟨⟨by decide +kernel, by decide +kernel⟩, List.mem_of_getElem? (i := 22) (by decide +kernel), List.mem_of_getElem? (i := 594) (by decide +kernel), List.mem_of_getElem? (i := 595) (by decide +kernel)⟩
theorem lw_p6 : lw_okq (⟨"OilTown$Town", "hasWellOn", "(II)Z"⟩, 5) := ⟨⟨by decide +kernel, by decide +kernel⟩, List.mem_of_getElem? (i := 30) (by decide +kernel), List.mem_of_getElem? (i := 614) (by decide +kernel), List.mem_of_getElem? (i := 615) (by decide +kernel)⟩
theorem lw_p7 : lw_okq (⟨"OilTown$Orders", "excepts", "(II)Z"⟩, 5) := ⟨⟨by decide +kernel, by decide +kernel⟩, List.mem_of_getElem? (i := 290) (by decide +kernel), List.mem_of_getElem? (i := 698) (by decide +kernel), List.mem_of_getElem? (i := 699) (by decide +kernel)⟩
theorem lw_p8 : lw_okq (⟨"OilTown", "isWell", "(I)Z"⟩, 10) := ⟨⟨by decide +kernel, by decide +kernel⟩, List.mem_of_getElem? (i := 22) (by decide +kernel), List.mem_of_getElem? (i := 732) (by decide +kernel), List.mem_of_getElem? (i := 733) (by decide +kernel)⟩
theorem lw_p9 : lw_okq (⟨"OilTown$Tape", "nextToken", "()V"⟩, 9) := ⟨⟨by decide +kernel, by decide +kernel⟩, List.mem_of_getElem? (i := 284) (by decide +kernel), List.mem_of_getElem? (i := 790) (by decide +kernel), List.mem_of_getElem? (i := 791) (by decide +kernel)⟩
theorem lw_p10 : lw_okq (⟨"OilTown$Tape", "readName", "()V"⟩, 9) := ⟨⟨by decide +kernel, by decide +kernel⟩, List.mem_of_getElem? (i := 284) (by decide +kernel), List.mem_of_getElem? (i := 797) (by decide +kernel), List.mem_of_getElem? (i := 798) (by decide +kernel)⟩
theorem lw_p11 : lw_okq (⟨"OilTown$Tape", "isSpelt", "(Ljava/lang/String;)Z"⟩, 9) := ⟨⟨by decide +kernel, by decide +kernel⟩, List.mem_of_getElem? (i := 284) (by decide +kernel), List.mem_of_getElem? (i := 811) (by decide +kernel), List.mem_of_getElem? (i := 812) (by decide +kernel)⟩
theorem lw_p12 : lw_okq (⟨"OilTown$Tape", "fail", "(I)V"⟩, 9) := ⟨⟨by decide +kernel, by decide +kernel⟩, List.mem_of_getElem? (i := 284) (by decide +kernel), List.mem_of_getElem? (i := 863) (by decide +kernel), List.mem_of_getElem? (i := 864) (by decide +kernel)⟩
theorem lw_p13 : lw_okq (⟨"OilTown$Tape", "readFigures", "()V"⟩, 9) := ⟨⟨by decide +kernel, by decide +kernel⟩, List.mem_of_getElem? (i := 284) (by decide +kernel), List.mem_of_getElem? (i := 870) (by decide +kernel), List.mem_of_getElem? (i := 871) (by decide +kernel)⟩
theorem lw_p14 : lw_okq (⟨"OilTown$Tape", "readFrom", "()I"⟩, 9) := ⟨⟨by decide +kernel, by decide +kernel⟩, List.mem_of_getElem? (i := 284) (by decide +kernel), List.mem_of_getElem? (i := 874) (by decide +kernel), List.mem_of_getElem? (i := 875) (by decide +kernel)⟩
theorem lw_p15 : lw_okq (⟨"OilTown$Tape", "checkNumber", "(I)V"⟩, 9) := ⟨⟨by decide +kernel, by decide +kernel⟩, List.mem_of_getElem? (i := 284) (by decide +kernel), List.mem_of_getElem? (i := 878) (by decide +kernel), List.mem_of_getElem? (i := 879) (by decide +kernel)⟩
def lw_privs_1 : List (MethodName × Nat) := [(⟨"OilTown", "hasCell", "(I)Z"⟩, 10), (⟨"OilTown$Town", "drawBy", "(I[I)I"⟩, 5), (⟨"OilTown$Currents", "measureCell", "(LOilTown$Pool;I)V"⟩, 8), (⟨"OilTown$Currents", "add", "(LOilTown$Pool;IIJ)V"⟩, 8), (⟨"OilTown$Currents", "moveWater", "(LOilTown$Pool;)V"⟩, 8), (⟨"OilTown", "isPerson", "(I)Z"⟩, 10), (⟨"OilTown$Town", "hasWellOn", "(II)Z"⟩, 5), (⟨"OilTown$Orders", "excepts", "(II)Z"⟩, 5), (⟨"OilTown", "isWell", "(I)Z"⟩, 10), (⟨"OilTown$Tape", "nextToken", "()V"⟩, 9), (⟨"OilTown$Tape", "readName", "()V"⟩, 9), (⟨"OilTown$Tape", "isSpelt", "(Ljava/lang/String;)Z"⟩, 9), (⟨"OilTown$Tape", "fail", "(I)V"⟩, 9), (⟨"OilTown$Tape", "readFigures", "()V"⟩, 9), (⟨"OilTown$Tape", "readFrom", "()I"⟩, 9), (⟨"OilTown$Tape", "checkNumber", "(I)V"⟩, 9)]
theorem lw_r1 : ∀ q ∈ lw_privs_1, lw_okq q := List.forall_mem_cons.mpr ⟨lw_p0, List.forall_mem_cons.mpr ⟨lw_p1, List.forall_mem_cons.mpr ⟨lw_p2, List.forall_mem_cons.mpr ⟨lw_p3, List.forall_mem_cons.mpr ⟨lw_p4, List.forall_mem_cons.mpr ⟨lw_p5, List.forall_mem_cons.mpr ⟨lw_p6, List.forall_mem_cons.mpr ⟨lw_p7, List.forall_mem_cons.mpr ⟨lw_p8, List.forall_mem_cons.mpr ⟨lw_p9, List.forall_mem_cons.mpr ⟨lw_p10, List.forall_mem_cons.mpr ⟨lw_p11, List.forall_mem_cons.mpr ⟨lw_p12, List.forall_mem_cons.mpr ⟨lw_p13, List.forall_mem_cons.mpr ⟨lw_p14, List.forall_mem_cons.mpr ⟨lw_p15, fun _ h => absurd h List.not_mem_nil⟩⟩⟩⟩⟩⟩⟩⟩⟩⟩⟩⟩⟩⟩⟩⟩
theorem lw_p16 : lw_okq (⟨"OilTown$Tape", "readRule", "(I)V"⟩, 9) := ⟨⟨by decide +kernel, by decide +kernel⟩, List.mem_of_getElem? (i := 284) (by decide +kernel), List.mem_of_getElem? (i := 882) (by decide +kernel), List.mem_of_getElem? (i := 883) (by decide +kernel)⟩
theorem lw_p17 : lw_okq (⟨"OilTown", "isRace", "(IIII)Z"⟩, 10) := ⟨⟨by decide +kernel, by decide +kernel⟩, List.mem_of_getElem? (i := 22) (by decide +kernel), List.mem_of_getElem? (i := 941) (by decide +kernel), List.mem_of_getElem? (i := 942) (by decide +kernel)⟩
theorem lw_p18 : lw_okq (⟨"OilTown", "haveSpots", "(I)Z"⟩, 10) := ⟨⟨by decide +kernel, by decide +kernel⟩, List.mem_of_getElem? (i := 22) (by decide +kernel), List.mem_of_getElem? (i := 945) (by decide +kernel), List.mem_of_getElem? (i := 946) (by decide +kernel)⟩
theorem lw_p19 : lw_okq (⟨"OilTown$Race", "drawAll", "(LOilTown$Wells;[II)V"⟩, 8) := ⟨⟨by decide +kernel, by decide +kernel⟩, List.mem_of_getElem? (i := 385) (by decide +kernel), List.mem_of_getElem? (i := 963) (by decide +kernel), List.mem_of_getElem? (i := 964) (by decide +kernel)⟩
theorem lw_p20 : lw_okq (⟨"OilTown$Race", "drawFrom", "(II)I"⟩, 8) := ⟨⟨by decide +kernel, by decide +kernel⟩, List.mem_of_getElem? (i := 385) (by decide +kernel), List.mem_of_getElem? (i := 967) (by decide +kernel), List.mem_of_getElem? (i := 968) (by decide +kernel)⟩
theorem lw_p21 : lw_okq (⟨"OilTown$Race", "isSteady", "(I)Z"⟩, 8) := ⟨⟨by decide +kernel, by decide +kernel⟩, List.mem_of_getElem? (i := 385) (by decide +kernel), List.mem_of_getElem? (i := 998) (by decide +kernel), List.mem_of_getElem? (i := 999) (by decide +kernel)⟩
theorem lw_p22 : lw_okq (⟨"OilTown$Race", "sumOf", "(I)I"⟩, 8) := ⟨⟨by decide +kernel, by decide +kernel⟩, List.mem_of_getElem? (i := 385) (by decide +kernel), List.mem_of_getElem? (i := 1011) (by decide +kernel), List.mem_of_getElem? (i := 1012) (by decide +kernel)⟩
theorem lw_p23 : lw_okq (⟨"OilTown", "tellOilFrom", "(LOilTown$Sheet;I)V"⟩, 10) := ⟨⟨by decide +kernel, by decide +kernel⟩, List.mem_of_getElem? (i := 22) (by decide +kernel), List.mem_of_getElem? (i := 1087) (by decide +kernel), List.mem_of_getElem? (i := 1088) (by decide +kernel)⟩
theorem lw_p24 : lw_okq (⟨"OilTown$Pool", "sumOverCells", "([I)I"⟩, 9) := ⟨⟨by decide +kernel, by decide +kernel⟩, List.mem_of_getElem? (i := 42) (by decide +kernel), List.mem_of_getElem? (i := 1099) (by decide +kernel), List.mem_of_getElem? (i := 1100) (by decide +kernel)⟩
theorem lw_p25 : lw_okq (⟨"OilTownModel", "isCell", "(I)Z"⟩, 65) := ⟨⟨by decide +kernel, by decide +kernel⟩, List.mem_of_getElem? (i := 1118) (by decide +kernel), List.mem_of_getElem? (i := 1332) (by decide +kernel), List.mem_of_getElem? (i := 1333) (by decide +kernel)⟩
theorem lw_p26 : lw_okq (⟨"OilTownModel", "cells", "()I"⟩, 65) := ⟨⟨by decide +kernel, by decide +kernel⟩, List.mem_of_getElem? (i := 1118) (by decide +kernel), List.mem_of_getElem? (i := 1336) (by decide +kernel), List.mem_of_getElem? (i := 1337) (by decide +kernel)⟩
theorem lw_p27 : lw_okq (⟨"OilTownModel", "putOil", "(II)V"⟩, 65) := ⟨⟨by decide +kernel, by decide +kernel⟩, List.mem_of_getElem? (i := 1118) (by decide +kernel), List.mem_of_getElem? (i := 1342) (by decide +kernel), List.mem_of_getElem? (i := 1343) (by decide +kernel)⟩
theorem lw_p28 : lw_okq (⟨"OilTownModel", "oilOf", "(I)I"⟩, 65) := ⟨⟨by decide +kernel, by decide +kernel⟩, List.mem_of_getElem? (i := 1118) (by decide +kernel), List.mem_of_getElem? (i := 1360) (by decide +kernel), List.mem_of_getElem? (i := 1361) (by decide +kernel)⟩
theorem lw_p29 : lw_okq (⟨"OilTownModel", "pushOf", "(I)I"⟩, 65) := ⟨⟨by decide +kernel, by decide +kernel⟩, List.mem_of_getElem? (i := 1118) (by decide +kernel), List.mem_of_getElem? (i := 1364) (by decide +kernel), List.mem_of_getElem? (i := 1365) (by decide +kernel)⟩
theorem lw_p30 : lw_okq (⟨"OilTownModel", "step", "()I"⟩, 65) := ⟨⟨by decide +kernel, by decide +kernel⟩, List.mem_of_getElem? (i := 1118) (by decide +kernel), List.mem_of_getElem? (i := 1372) (by decide +kernel), List.mem_of_getElem? (i := 1373) (by decide +kernel)⟩
theorem lw_p31 : lw_okq (⟨"OilTownModel", "draws", "()I"⟩, 65) := ⟨⟨by decide +kernel, by decide +kernel⟩, List.mem_of_getElem? (i := 1118) (by decide +kernel), List.mem_of_getElem? (i := 1376) (by decide +kernel), List.mem_of_getElem? (i := 1377) (by decide +kernel)⟩
def lw_privs_2 : List (MethodName × Nat) := [(⟨"OilTown$Tape", "readRule", "(I)V"⟩, 9), (⟨"OilTown", "isRace", "(IIII)Z"⟩, 10), (⟨"OilTown", "haveSpots", "(I)Z"⟩, 10), (⟨"OilTown$Race", "drawAll", "(LOilTown$Wells;[II)V"⟩, 8), (⟨"OilTown$Race", "drawFrom", "(II)I"⟩, 8), (⟨"OilTown$Race", "isSteady", "(I)Z"⟩, 8), (⟨"OilTown$Race", "sumOf", "(I)I"⟩, 8), (⟨"OilTown", "tellOilFrom", "(LOilTown$Sheet;I)V"⟩, 10), (⟨"OilTown$Pool", "sumOverCells", "([I)I"⟩, 9), (⟨"OilTownModel", "isCell", "(I)Z"⟩, 65), (⟨"OilTownModel", "cells", "()I"⟩, 65), (⟨"OilTownModel", "putOil", "(II)V"⟩, 65), (⟨"OilTownModel", "oilOf", "(I)I"⟩, 65), (⟨"OilTownModel", "pushOf", "(I)I"⟩, 65), (⟨"OilTownModel", "step", "()I"⟩, 65), (⟨"OilTownModel", "draws", "()I"⟩, 65)]
theorem lw_r2 : ∀ q ∈ lw_privs_2, lw_okq q := List.forall_mem_cons.mpr ⟨lw_p16, List.forall_mem_cons.mpr ⟨lw_p17, List.forall_mem_cons.mpr ⟨lw_p18, List.forall_mem_cons.mpr ⟨lw_p19, List.forall_mem_cons.mpr ⟨lw_p20, List.forall_mem_cons.mpr ⟨lw_p21, List.forall_mem_cons.mpr ⟨lw_p22, List.forall_mem_cons.mpr ⟨lw_p23, List.forall_mem_cons.mpr ⟨lw_p24, List.forall_mem_cons.mpr ⟨lw_p25, List.forall_mem_cons.mpr ⟨lw_p26, List.forall_mem_cons.mpr ⟨lw_p27, List.forall_mem_cons.mpr ⟨lw_p28, List.forall_mem_cons.mpr ⟨lw_p29, List.forall_mem_cons.mpr ⟨lw_p30, List.forall_mem_cons.mpr ⟨lw_p31, fun _ h => absurd h List.not_mem_nil⟩⟩⟩⟩⟩⟩⟩⟩⟩⟩⟩⟩⟩⟩⟩⟩
theorem lw_p32 : lw_okq (⟨"OilTownModel", "take", "(II)V"⟩, 65) := ⟨⟨by decide +kernel, by decide +kernel⟩, List.mem_of_getElem? (i := 1118) (by decide +kernel), List.mem_of_getElem? (i := 1380) (by decide +kernel), List.mem_of_getElem? (i := 1381) (by decide +kernel)⟩
theorem lw_p33 : lw_okq (⟨"OilTownModel", "shift", "()I"⟩, 65) := ⟨⟨by decide +kernel, by decide +kernel⟩, List.mem_of_getElem? (i := 1118) (by decide +kernel), List.mem_of_getElem? (i := 1384) (by decide +kernel), List.mem_of_getElem? (i := 1385) (by decide +kernel)⟩
theorem lw_p34 : lw_okq (⟨"OilTownModel", "flows", "()V"⟩, 65) := ⟨⟨by decide +kernel, by decide +kernel⟩, List.mem_of_getElem? (i := 1118) (by decide +kernel), List.mem_of_getElem? (i := 1388) (by decide +kernel), List.mem_of_getElem? (i := 1389) (by decide +kernel)⟩
theorem lw_p35 : lw_okq (⟨"OilTownModel", "flowOf", "(I)V"⟩, 65) := ⟨⟨by decide +kernel, by decide +kernel⟩, List.mem_of_getElem? (i := 1118) (by decide +kernel), List.mem_of_getElem? (i := 1392) (by decide +kernel), List.mem_of_getElem? (i := 1393) (by decide +kernel)⟩
theorem lw_p36 : lw_okq (⟨"OilTownModel", "wantOf", "(II)I"⟩, 65) := ⟨⟨by decide +kernel, by decide +kernel⟩, List.mem_of_getElem? (i := 1118) (by decide +kernel), List.mem_of_getElem? (i := 1396) (by decide +kernel), List.mem_of_getElem? (i := 1397) (by decide +kernel)⟩
theorem lw_p37 : lw_okq (⟨"OilTownModel", "beside", "(II)I"⟩, 65) := ⟨⟨by decide +kernel, by decide +kernel⟩, List.mem_of_getElem? (i := 1118) (by decide +kernel), List.mem_of_getElem? (i := 1400) (by decide +kernel), List.mem_of_getElem? (i := 1401) (by decide +kernel)⟩
theorem lw_p38 : lw_okq (⟨"OilTownModel", "isPerson", "(I)Z"⟩, 65) := ⟨⟨by decide +kernel, by decide +kernel⟩, List.mem_of_getElem? (i := 1118) (by decide +kernel), List.mem_of_getElem? (i := 1412) (by decide +kernel), List.mem_of_getElem? (i := 1413) (by decide +kernel)⟩
theorem lw_p39 : lw_okq (⟨"OilTownModel", "hasEnded", "(I)Z"⟩, 65) := ⟨⟨by decide +kernel, by decide +kernel⟩, List.mem_of_getElem? (i := 1118) (by decide +kernel), List.mem_of_getElem? (i := 1425) (by decide +kernel), List.mem_of_getElem? (i := 1426) (by decide +kernel)⟩
theorem lw_p40 : lw_okq (⟨"OilTownModel", "holderOf", "(I)I"⟩, 65) := ⟨⟨by decide +kernel, by decide +kernel⟩, List.mem_of_getElem? (i := 1118) (by decide +kernel), List.mem_of_getElem? (i := 1433) (by decide +kernel), List.mem_of_getElem? (i := 1434) (by decide +kernel)⟩
theorem lw_p41 : lw_okq (⟨"OilTownModel", "hotOf", "(I)I"⟩, 65) := ⟨⟨by decide +kernel, by decide +kernel⟩, List.mem_of_getElem? (i := 1118) (by decide +kernel), List.mem_of_getElem? (i := 1441) (by decide +kernel), List.mem_of_getElem? (i := 1442) (by decide +kernel)⟩
theorem lw_p42 : lw_okq (⟨"OilTownModel", "hotIn", "(II)I"⟩, 65) := ⟨⟨by decide +kernel, by decide +kernel⟩, List.mem_of_getElem? (i := 1118) (by decide +kernel), List.mem_of_getElem? (i := 1445) (by decide +kernel), List.mem_of_getElem? (i := 1446) (by decide +kernel)⟩
theorem lw_p43 : lw_okq (⟨"OilTownModel", "letOf", "(II)I"⟩, 65) := ⟨⟨by decide +kernel, by decide +kernel⟩, List.mem_of_getElem? (i := 1118) (by decide +kernel), List.mem_of_getElem? (i := 1449) (by decide +kernel), List.mem_of_getElem? (i := 1450) (by decide +kernel)⟩
theorem lw_p44 : lw_okq (⟨"OilTownModel", "lineAt", "(II)I"⟩, 65) := ⟨⟨by decide +kernel, by decide +kernel⟩, List.mem_of_getElem? (i := 1118) (by decide +kernel), List.mem_of_getElem? (i := 1453) (by decide +kernel), List.mem_of_getElem? (i := 1454) (by decide +kernel)⟩
theorem lw_p45 : lw_okq (⟨"OilTownModel", "whyNow", "(II)I"⟩, 65) := ⟨⟨by decide +kernel, by decide +kernel⟩, List.mem_of_getElem? (i := 1118) (by decide +kernel), List.mem_of_getElem? (i := 1462) (by decide +kernel), List.mem_of_getElem? (i := 1463) (by decide +kernel)⟩
theorem lw_p46 : lw_okq (⟨"OilTownModel", "whyNot", "(IIII)I"⟩, 65) := ⟨⟨by decide +kernel, by decide +kernel⟩, List.mem_of_getElem? (i := 1118) (by decide +kernel), List.mem_of_getElem? (i := 1466) (by decide +kernel), List.mem_of_getElem? (i := 1467) (by decide +kernel)⟩
theorem lw_p47 : lw_okq (⟨"OilTownModel", "isExcepted", "(I)Z"⟩, 65) := ⟨⟨by decide +kernel, by decide +kernel⟩, List.mem_of_getElem? (i := 1118) (by decide +kernel), List.mem_of_getElem? (i := 1470) (by decide +kernel), List.mem_of_getElem? (i := 1471) (by decide +kernel)⟩
def lw_privs_3 : List (MethodName × Nat) := [(⟨"OilTownModel", "take", "(II)V"⟩, 65), (⟨"OilTownModel", "shift", "()I"⟩, 65), (⟨"OilTownModel", "flows", "()V"⟩, 65), (⟨"OilTownModel", "flowOf", "(I)V"⟩, 65), (⟨"OilTownModel", "wantOf", "(II)I"⟩, 65), (⟨"OilTownModel", "beside", "(II)I"⟩, 65), (⟨"OilTownModel", "isPerson", "(I)Z"⟩, 65), (⟨"OilTownModel", "hasEnded", "(I)Z"⟩, 65), (⟨"OilTownModel", "holderOf", "(I)I"⟩, 65), (⟨"OilTownModel", "hotOf", "(I)I"⟩, 65), (⟨"OilTownModel", "hotIn", "(II)I"⟩, 65), (⟨"OilTownModel", "letOf", "(II)I"⟩, 65), (⟨"OilTownModel", "lineAt", "(II)I"⟩, 65), (⟨"OilTownModel", "whyNow", "(II)I"⟩, 65), (⟨"OilTownModel", "whyNot", "(IIII)I"⟩, 65), (⟨"OilTownModel", "isExcepted", "(I)Z"⟩, 65)]
theorem lw_r3 : ∀ q ∈ lw_privs_3, lw_okq q := List.forall_mem_cons.mpr ⟨lw_p32, List.forall_mem_cons.mpr ⟨lw_p33, List.forall_mem_cons.mpr ⟨lw_p34, List.forall_mem_cons.mpr ⟨lw_p35, List.forall_mem_cons.mpr ⟨lw_p36, List.forall_mem_cons.mpr ⟨lw_p37, List.forall_mem_cons.mpr ⟨lw_p38, List.forall_mem_cons.mpr ⟨lw_p39, List.forall_mem_cons.mpr ⟨lw_p40, List.forall_mem_cons.mpr ⟨lw_p41, List.forall_mem_cons.mpr ⟨lw_p42, List.forall_mem_cons.mpr ⟨lw_p43, List.forall_mem_cons.mpr ⟨lw_p44, List.forall_mem_cons.mpr ⟨lw_p45, List.forall_mem_cons.mpr ⟨lw_p46, List.forall_mem_cons.mpr ⟨lw_p47, fun _ h => absurd h List.not_mem_nil⟩⟩⟩⟩⟩⟩⟩⟩⟩⟩⟩⟩⟩⟩⟩⟩
theorem lw_p48 : lw_okq (⟨"OilTownModel", "howFar", "(II)I"⟩, 65) := ⟨⟨by decide +kernel, by decide +kernel⟩, List.mem_of_getElem? (i := 1118) (by decide +kernel), List.mem_of_getElem? (i := 1474) (by decide +kernel), List.mem_of_getElem? (i := 1475) (by decide +kernel)⟩
theorem lw_p49 : lw_okq (⟨"OilTownModel", "addWell", "(III)V"⟩, 65) := ⟨⟨by decide +kernel, by decide +kernel⟩, List.mem_of_getElem? (i := 1118) (by decide +kernel), List.mem_of_getElem? (i := 1478) (by decide +kernel), List.mem_of_getElem? (i := 1479) (by decide +kernel)⟩
theorem lw_p50 : lw_okq (⟨"OilTownModel", "isWell", "(I)Z"⟩, 65) := ⟨⟨by decide +kernel, by decide +kernel⟩, List.mem_of_getElem? (i := 1118) (by decide +kernel), List.mem_of_getElem? (i := 1490) (by decide +kernel), List.mem_of_getElem? (i := 1491) (by decide +kernel)⟩
theorem lw_p51 : lw_okq (⟨"OilTownModel", "priceOf", "(I)I"⟩, 65) := ⟨⟨by decide +kernel, by decide +kernel⟩, List.mem_of_getElem? (i := 1118) (by decide +kernel), List.mem_of_getElem? (i := 1512) (by decide +kernel), List.mem_of_getElem? (i := 1513) (by decide +kernel)⟩
theorem lw_p52 : lw_okq (⟨"OilTownModel", "next", "()V"⟩, 65) := ⟨⟨by decide +kernel, by decide +kernel⟩, List.mem_of_getElem? (i := 1118) (by decide +kernel), List.mem_of_getElem? (i := 1532) (by decide +kernel), List.mem_of_getElem? (i := 1533) (by decide +kernel)⟩
theorem lw_p53 : lw_okq (⟨"OilTownModel", "byteAt", "(I)I"⟩, 65) := ⟨⟨by decide +kernel, by decide +kernel⟩, List.mem_of_getElem? (i := 1118) (by decide +kernel), List.mem_of_getElem? (i := 1536) (by decide +kernel), List.mem_of_getElem? (i := 1537) (by decide +kernel)⟩
theorem lw_p54 : lw_okq (⟨"OilTownModel", "nameAt", "(II)I"⟩, 65) := ⟨⟨by decide +kernel, by decide +kernel⟩, List.mem_of_getElem? (i := 1118) (by decide +kernel), List.mem_of_getElem? (i := 1542) (by decide +kernel), List.mem_of_getElem? (i := 1543) (by decide +kernel)⟩
theorem lw_p55 : lw_okq (⟨"OilTownModel", "fails", "(I)V"⟩, 65) := ⟨⟨by decide +kernel, by decide +kernel⟩, List.mem_of_getElem? (i := 1118) (by decide +kernel), List.mem_of_getElem? (i := 1546) (by decide +kernel), List.mem_of_getElem? (i := 1547) (by decide +kernel)⟩
theorem lw_p56 : lw_okq (⟨"OilTownModel", "oneLine", "()V"⟩, 65) := ⟨⟨by decide +kernel, by decide +kernel⟩, List.mem_of_getElem? (i := 1118) (by decide +kernel), List.mem_of_getElem? (i := 1552) (by decide +kernel), List.mem_of_getElem? (i := 1553) (by decide +kernel)⟩
theorem lw_p57 : lw_okq (⟨"OilTownModel", "number", "(I)I"⟩, 65) := ⟨⟨by decide +kernel, by decide +kernel⟩, List.mem_of_getElem? (i := 1118) (by decide +kernel), List.mem_of_getElem? (i := 1556) (by decide +kernel), List.mem_of_getElem? (i := 1557) (by decide +kernel)⟩
theorem lw_p58 : lw_okq (⟨"OilTownModel", "once", "(III)V"⟩, 65) := ⟨⟨by decide +kernel, by decide +kernel⟩, List.mem_of_getElem? (i := 1118) (by decide +kernel), List.mem_of_getElem? (i := 1560) (by decide +kernel), List.mem_of_getElem? (i := 1561) (by decide +kernel)⟩
theorem lw_p59 : lw_okq (⟨"OilTownModel", "hotAll", "()I"⟩, 65) := ⟨⟨by decide +kernel, by decide +kernel⟩, List.mem_of_getElem? (i := 1118) (by decide +kernel), List.mem_of_getElem? (i := 1578) (by decide +kernel), List.mem_of_getElem? (i := 1579) (by decide +kernel)⟩
theorem lw_p60 : lw_okq (⟨"OilTownModel", "turnPage", "(IZ)V"⟩, 65) := ⟨⟨by decide +kernel, by decide +kernel⟩, List.mem_of_getElem? (i := 1118) (by decide +kernel), List.mem_of_getElem? (i := 1590) (by decide +kernel), List.mem_of_getElem? (i := 1591) (by decide +kernel)⟩
theorem lw_p61 : lw_okq (⟨"OilTownModel", "turnLand", "()V"⟩, 65) := ⟨⟨by decide +kernel, by decide +kernel⟩, List.mem_of_getElem? (i := 1118) (by decide +kernel), List.mem_of_getElem? (i := 1594) (by decide +kernel), List.mem_of_getElem? (i := 1595) (by decide +kernel)⟩
theorem lw_p62 : lw_okq (⟨"OilTownModel", "turn", "(I)I"⟩, 65) := ⟨⟨by decide +kernel, by decide +kernel⟩, List.mem_of_getElem? (i := 1118) (by decide +kernel), List.mem_of_getElem? (i := 1598) (by decide +kernel), List.mem_of_getElem? (i := 1599) (by decide +kernel)⟩
theorem lw_p63 : lw_okq (⟨"OilTownModel", "turnPapers", "()V"⟩, 65) := ⟨⟨by decide +kernel, by decide +kernel⟩, List.mem_of_getElem? (i := 1118) (by decide +kernel), List.mem_of_getElem? (i := 1602) (by decide +kernel), List.mem_of_getElem? (i := 1603) (by decide +kernel)⟩
def lw_privs_4 : List (MethodName × Nat) := [(⟨"OilTownModel", "howFar", "(II)I"⟩, 65), (⟨"OilTownModel", "addWell", "(III)V"⟩, 65), (⟨"OilTownModel", "isWell", "(I)Z"⟩, 65), (⟨"OilTownModel", "priceOf", "(I)I"⟩, 65), (⟨"OilTownModel", "next", "()V"⟩, 65), (⟨"OilTownModel", "byteAt", "(I)I"⟩, 65), (⟨"OilTownModel", "nameAt", "(II)I"⟩, 65), (⟨"OilTownModel", "fails", "(I)V"⟩, 65), (⟨"OilTownModel", "oneLine", "()V"⟩, 65), (⟨"OilTownModel", "number", "(I)I"⟩, 65), (⟨"OilTownModel", "once", "(III)V"⟩, 65), (⟨"OilTownModel", "hotAll", "()I"⟩, 65), (⟨"OilTownModel", "turnPage", "(IZ)V"⟩, 65), (⟨"OilTownModel", "turnLand", "()V"⟩, 65), (⟨"OilTownModel", "turn", "(I)I"⟩, 65), (⟨"OilTownModel", "turnPapers", "()V"⟩, 65)]
theorem lw_r4 : ∀ q ∈ lw_privs_4, lw_okq q := List.forall_mem_cons.mpr ⟨lw_p48, List.forall_mem_cons.mpr ⟨lw_p49, List.forall_mem_cons.mpr ⟨lw_p50, List.forall_mem_cons.mpr ⟨lw_p51, List.forall_mem_cons.mpr ⟨lw_p52, List.forall_mem_cons.mpr ⟨lw_p53, List.forall_mem_cons.mpr ⟨lw_p54, List.forall_mem_cons.mpr ⟨lw_p55, List.forall_mem_cons.mpr ⟨lw_p56, List.forall_mem_cons.mpr ⟨lw_p57, List.forall_mem_cons.mpr ⟨lw_p58, List.forall_mem_cons.mpr ⟨lw_p59, List.forall_mem_cons.mpr ⟨lw_p60, List.forall_mem_cons.mpr ⟨lw_p61, List.forall_mem_cons.mpr ⟨lw_p62, List.forall_mem_cons.mpr ⟨lw_p63, fun _ h => absurd h List.not_mem_nil⟩⟩⟩⟩⟩⟩⟩⟩⟩⟩⟩⟩⟩⟩⟩⟩
theorem lw_p64 : lw_okq (⟨"OilTownModel", "isRace", "(IIII)Z"⟩, 65) := ⟨⟨by decide +kernel, by decide +kernel⟩, List.mem_of_getElem? (i := 1118) (by decide +kernel), List.mem_of_getElem? (i := 1618) (by decide +kernel), List.mem_of_getElem? (i := 1619) (by decide +kernel)⟩
theorem lw_p65 : lw_okq (⟨"OilTownModel", "haveSpots", "(I)Z"⟩, 65) := ⟨⟨by decide +kernel, by decide +kernel⟩, List.mem_of_getElem? (i := 1118) (by decide +kernel), List.mem_of_getElem? (i := 1624) (by decide +kernel), List.mem_of_getElem? (i := 1625) (by decide +kernel)⟩
theorem lw_p66 : lw_okq (⟨"OilTownModel", "race", "(IIIII)V"⟩, 65) := ⟨⟨by decide +kernel, by decide +kernel⟩, List.mem_of_getElem? (i := 1118) (by decide +kernel), List.mem_of_getElem? (i := 1628) (by decide +kernel), List.mem_of_getElem? (i := 1629) (by decide +kernel)⟩
theorem lw_p67 : lw_okq (⟨"OilTownModel", "raceAll", "(IIII)V"⟩, 65) := ⟨⟨by decide +kernel, by decide +kernel⟩, List.mem_of_getElem? (i := 1118) (by decide +kernel), List.mem_of_getElem? (i := 1637) (by decide +kernel), List.mem_of_getElem? (i := 1638) (by decide +kernel)⟩
theorem lw_p68 : lw_okq (⟨"OilTownModel", "isSteady", "(II)Z"⟩, 65) := ⟨⟨by decide +kernel, by decide +kernel⟩, List.mem_of_getElem? (i := 1118) (by decide +kernel), List.mem_of_getElem? (i := 1641) (by decide +kernel), List.mem_of_getElem? (i := 1642) (by decide +kernel)⟩
theorem lw_p69 : lw_okq (⟨"OilTownModel", "sumOf", "(II)I"⟩, 65) := ⟨⟨by decide +kernel, by decide +kernel⟩, List.mem_of_getElem? (i := 1118) (by decide +kernel), List.mem_of_getElem? (i := 1645) (by decide +kernel), List.mem_of_getElem? (i := 1646) (by decide +kernel)⟩
def lw_privs_5 : List (MethodName × Nat) := [(⟨"OilTownModel", "isRace", "(IIII)Z"⟩, 65), (⟨"OilTownModel", "haveSpots", "(I)Z"⟩, 65), (⟨"OilTownModel", "race", "(IIIII)V"⟩, 65), (⟨"OilTownModel", "raceAll", "(IIII)V"⟩, 65), (⟨"OilTownModel", "isSteady", "(II)Z"⟩, 65), (⟨"OilTownModel", "sumOf", "(II)I"⟩, 65)]
theorem lw_r5 : ∀ q ∈ lw_privs_5, lw_okq q := List.forall_mem_cons.mpr ⟨lw_p64, List.forall_mem_cons.mpr ⟨lw_p65, List.forall_mem_cons.mpr ⟨lw_p66, List.forall_mem_cons.mpr ⟨lw_p67, List.forall_mem_cons.mpr ⟨lw_p68, List.forall_mem_cons.mpr ⟨lw_p69, fun _ h => absurd h List.not_mem_nil⟩⟩⟩⟩⟩⟩
def lw_privs : List (MethodName × Nat) := lw_privs_1 ++ (lw_privs_2 ++ (lw_privs_3 ++ (lw_privs_4 ++ (lw_privs_5))))
def lw_tbl : List Cond := k2_sels lw_privs ++ tables_1
theorem lw_privs_ok : ∀ q ∈ lw_privs, lw_okq q := by
  show ∀ q ∈ lw_privs_1 ++ (lw_privs_2 ++ (lw_privs_3 ++ (lw_privs_4 ++ (lw_privs_5)))), lw_okq q
  exact List.forall_mem_append.mpr ⟨lw_r1, List.forall_mem_append.mpr ⟨lw_r2, List.forall_mem_append.mpr ⟨lw_r3, List.forall_mem_append.mpr ⟨lw_r4, lw_r5⟩⟩⟩⟩
/-! ===== BEGIN words of one list among another's, by their places ===== -/
theorem goodIn_r {big : List Cond} (ws : List Cond) (ps : List Nat) (hp : ws = ps.filterMap (fun i => big[i]?)) (h : ws.all goodWord = true) : GoodIn big ws := by
  intro w hw
  have h1 := List.all_eq_true.mp h w hw
  rw [hp] at hw
  obtain ⟨i, -, hi⟩ := List.mem_filterMap.mp hw
  have hm : w ∈ big := by first | exact List.mem_of_getElem? hi | exact List.getElem?_mem hi
  exact ⟨hm, good_of_word h1⟩
theorem goodIn_app {big a b : List Cond} (ha : GoodIn big a) (hb : GoodIn big b) : GoodIn big (a ++ b) := fun w h => (List.mem_append.mp h).elim (ha w) (hb w)
theorem goodIn_ca {big a b : List Cond} {c : Cond} (ha : GoodIn big (c :: a)) (hb : GoodIn big b) : GoodIn big (c :: (a ++ b)) := fun w h => (List.mem_cons.mp h).elim (fun e => ha w (List.mem_cons.mpr (Or.inl e))) (fun h => (List.mem_append.mp h).elim (fun h => ha w (List.mem_cons.mpr (Or.inr h))) (hb w))
theorem goodIn_sub {big ws : List Cond} (hm : ∀ w ∈ ws, w ∈ big) (h : ws.all goodWord = true) : GoodIn big ws := fun w hw => ⟨hm w hw, good_of_word (List.all_eq_true.mp h w hw)⟩
/-! ===== END ===== -/

/-! ===== BEGIN printed: names, fields, word lists, decode rows ===== -/
def RX0 : String := "OilTown$Books"
def TX0 : u_T := fun k => match k with
  | 0 => ("OilTown$Books", "tank", "[I", true)
  | 1 => ("OilTown$Books", "sold", "[I", true)
  | 2 => ("OilTown$Books", "paid", "[I", true)
  | _ => ("OilTown$Books", "soldByShift", "[I", true)
def tyX0 : Nat → FieldType := fun k => match k with
  | 0 => .array .int
  | 1 => .array .int
  | 2 => .array .int
  | _ => .array .int
abbrev wsX00 : List Cond := u_ws RX0 TX0 4
theorem nmX0 : ∀ a, a < 4 → ∀ b, b < 4 → a ≠ b → (TX0 a).2.1 ≠ (TX0 b).2.1 := by decide +kernel
theorem tyX0_ok : ∀ k, k < 4 → parseFieldDescriptor (TX0 k).2.2.1 = some (tyX0 k) := by decide +kernel
abbrev cX0_init : ByteArray := prog_2_method_1_code
def yX0_init : MethodName := ⟨RX0, "<init>", "()V"⟩
abbrev cX0_clear : ByteArray := prog_2_method_2_code
def yX0_clear : MethodName := ⟨RX0, "clear", "()V"⟩
abbrev cX0_copyFrom : ByteArray := prog_2_method_3_code
def yX0_copyFrom : MethodName := ⟨RX0, "copyFrom", "(LOilTown$Books;)V"⟩
abbrev cX0_priceIn : ByteArray := prog_2_method_4_code
def yX0_priceIn : MethodName := ⟨RX0, "priceIn", "(I)I"⟩
abbrev cX0_sellAt : ByteArray := prog_2_method_5_code
def yX0_sellAt : MethodName := ⟨RX0, "sellAt", "(III)I"⟩
abbrev cX0_allInTanks : ByteArray := prog_2_method_6_code
def yX0_allInTanks : MethodName := ⟨RX0, "allInTanks", "()I"⟩
abbrev cX0_allSold : ByteArray := prog_2_method_7_code
def yX0_allSold : MethodName := ⟨RX0, "allSold", "()I"⟩
abbrev cX0_sumOverPersons : ByteArray := prog_2_method_8_code
def yX0_sumOverPersons : MethodName := ⟨RX0, "sumOverPersons", "([I)I"⟩
def RX1 : String := "OilTown$Currents"
def TX1 : u_T := fun k => match k with
  | 0 => ("OilTown$Currents", "taken", "[I", true)
  | 1 => ("OilTown$Currents", "wants", "[J", true)
  | 2 => ("OilTown$Currents", "size", "I", false)
  | 3 => ("OilTown$Currents", "from", "[I", true)
  | 4 => ("OilTown$Currents", "to", "[I", true)
  | 5 => ("OilTown$Currents", "oil", "[I", true)
  | 6 => ("OilTown$Currents", "water", "[I", true)
  | _ => ("OilTown$Currents", "arrives", "[I", true)
def tyX1 : Nat → FieldType := fun k => match k with
  | 0 => .array .int
  | 1 => .array .long
  | 2 => .int
  | 3 => .array .int
  | 4 => .array .int
  | 5 => .array .int
  | 6 => .array .int
  | _ => .array .int
abbrev wsX10 : List Cond := u_ws RX1 TX1 8
theorem nmX1 : ∀ a, a < 8 → ∀ b, b < 8 → a ≠ b → (TX1 a).2.1 ≠ (TX1 b).2.1 := by decide +kernel
theorem tyX1_ok : ∀ k, k < 8 → parseFieldDescriptor (TX1 k).2.2.1 = some (tyX1 k) := by decide +kernel
abbrev cX1_init : ByteArray := prog_3_method_1_code
def yX1_init : MethodName := ⟨RX1, "<init>", "()V"⟩
abbrev cX1_measure : ByteArray := prog_3_method_2_code
def yX1_measure : MethodName := ⟨RX1, "measure", "(LOilTown$Pool;)V"⟩
abbrev cX1_measureCell : ByteArray := prog_3_method_3_code
def yX1_measureCell : MethodName := ⟨RX1, "measureCell", "(LOilTown$Pool;I)V"⟩
abbrev cX1_wantOf : ByteArray := prog_3_method_4_code
def yX1_wantOf : MethodName := ⟨RX1, "wantOf", "(LOilTown$Pool;II)J"⟩
abbrev cX1_add : ByteArray := prog_3_method_5_code
def yX1_add : MethodName := ⟨RX1, "add", "(LOilTown$Pool;IIJ)V"⟩
abbrev cX1_movePool : ByteArray := prog_3_method_6_code
def yX1_movePool : MethodName := ⟨RX1, "movePool", "(LOilTown$Pool;)V"⟩
abbrev cX1_moveGround : ByteArray := prog_3_method_7_code
def yX1_moveGround : MethodName := ⟨RX1, "moveGround", "(LOilTown$Ground;)V"⟩
abbrev cX1_moveWater : ByteArray := prog_3_method_8_code
def yX1_moveWater : MethodName := ⟨RX1, "moveWater", "(LOilTown$Pool;)V"⟩
def RX2 : String := "OilTown$Deeds"
def TX2 : u_T := fun k => match k with
  | 0 => ("OilTown$Deeds", "ownerOf", "[I", true)
  | 1 => ("OilTown$Deeds", "size", "I", false)
  | 2 => ("OilTown$Deeds", "lot", "[I", true)
  | 3 => ("OilTown$Deeds", "person", "[I", true)
  | 4 => ("OilTown$Deeds", "until", "[I", true)
  | _ => ("OilTown$Deeds", "stamp", "[I", true)
def tyX2 : Nat → FieldType := fun k => match k with
  | 0 => .array .int
  | 1 => .int
  | 2 => .array .int
  | 3 => .array .int
  | 4 => .array .int
  | _ => .array .int
abbrev wsX20 : List Cond := u_ws RX2 TX2 6
theorem nmX2 : ∀ a, a < 6 → ∀ b, b < 6 → a ≠ b → (TX2 a).2.1 ≠ (TX2 b).2.1 := by decide +kernel
theorem tyX2_ok : ∀ k, k < 6 → parseFieldDescriptor (TX2 k).2.2.1 = some (tyX2 k) := by decide +kernel
abbrev cX2_init : ByteArray := prog_4_method_1_code
def yX2_init : MethodName := ⟨RX2, "<init>", "()V"⟩
abbrev cX2_clear : ByteArray := prog_4_method_2_code
def yX2_clear : MethodName := ⟨RX2, "clear", "()V"⟩
abbrev cX2_copyFrom : ByteArray := prog_4_method_3_code
def yX2_copyFrom : MethodName := ⟨RX2, "copyFrom", "(LOilTown$Deeds;)V"⟩
abbrev cX2_add : ByteArray := prog_4_method_4_code
def yX2_add : MethodName := ⟨RX2, "add", "(IIII)I"⟩
def RX3 : String := "OilTown$Ground"
def TX3 : u_T := fun k => match k with
  | 0 => ("OilTown$Ground", "pool", "LOilTown$Pool;", true)
  | 1 => ("OilTown$Ground", "lotOf", "[I", true)
  | _ => ("OilTown$Ground", "oilByLot", "[I", true)
def tyX3 : Nat → FieldType := fun k => match k with
  | 0 => .object "OilTown$Pool"
  | 1 => .array .int
  | _ => .array .int
abbrev wsX30 : List Cond := u_ws RX3 TX3 3
theorem nmX3 : ∀ a, a < 3 → ∀ b, b < 3 → a ≠ b → (TX3 a).2.1 ≠ (TX3 b).2.1 := by decide +kernel
theorem tyX3_ok : ∀ k, k < 3 → parseFieldDescriptor (TX3 k).2.2.1 = some (tyX3 k) := by decide +kernel
abbrev cX3_init : ByteArray := prog_5_method_1_code
def yX3_init : MethodName := ⟨RX3, "<init>", "()V"⟩
abbrev cX3_becomeNew : ByteArray := prog_5_method_2_code
def yX3_becomeNew : MethodName := ⟨RX3, "becomeNew", "(II)V"⟩
abbrev cX3_copyFrom : ByteArray := prog_5_method_3_code
def yX3_copyFrom : MethodName := ⟨RX3, "copyFrom", "(LOilTown$Ground;)V"⟩
abbrev cX3_tellOil : ByteArray := prog_5_method_4_code
def yX3_tellOil : MethodName := ⟨RX3, "tellOil", "(II)V"⟩
abbrev cX3_take : ByteArray := prog_5_method_5_code
def yX3_take : MethodName := ⟨RX3, "take", "(II[I)V"⟩
abbrev cX3_cellsOf : ByteArray := prog_5_method_6_code
def yX3_cellsOf : MethodName := ⟨RX3, "cellsOf", "(I)I"⟩
abbrev cX3_strangerFrom : ByteArray := prog_5_method_7_code
def yX3_strangerFrom : MethodName := ⟨RX3, "strangerFrom", "(I)I"⟩
def RX4 : String := "OilTown$Orders"
def TX4 : u_T := fun k => match k with
  | 0 => ("OilTown$Orders", "size", "I", false)
  | 1 => ("OilTown$Orders", "rule", "[I", true)
  | 2 => ("OilTown$Orders", "from", "[I", true)
  | 3 => ("OilTown$Orders", "number", "[I", true)
  | _ => ("OilTown$Orders", "isVoid", "[Z", true)
def tyX4 : Nat → FieldType := fun k => match k with
  | 0 => .int
  | 1 => .array .int
  | 2 => .array .int
  | 3 => .array .int
  | _ => .array .boolean
abbrev wsX40 : List Cond := u_ws RX4 TX4 5
theorem nmX4 : ∀ a, a < 5 → ∀ b, b < 5 → a ≠ b → (TX4 a).2.1 ≠ (TX4 b).2.1 := by decide +kernel
theorem tyX4_ok : ∀ k, k < 5 → parseFieldDescriptor (TX4 k).2.2.1 = some (tyX4 k) := by decide +kernel
abbrev cX4_init : ByteArray := prog_6_method_1_code
def yX4_init : MethodName := ⟨RX4, "<init>", "()V"⟩
abbrev cX4_copyFrom : ByteArray := prog_6_method_2_code
def yX4_copyFrom : MethodName := ⟨RX4, "copyFrom", "(LOilTown$Orders;)V"⟩
abbrev cX4_add : ByteArray := prog_6_method_3_code
def yX4_add : MethodName := ⟨RX4, "add", "(III)V"⟩
abbrev cX4_tells : ByteArray := prog_6_method_4_code
def yX4_tells : MethodName := ⟨RX4, "tells", "(II)Z"⟩
abbrev cX4_tellsExcept : ByteArray := prog_6_method_5_code
def yX4_tellsExcept : MethodName := ⟨RX4, "tellsExcept", "(II)Z"⟩
abbrev cX4_lineIn : ByteArray := prog_6_method_6_code
def yX4_lineIn : MethodName := ⟨RX4, "lineIn", "(II)I"⟩
abbrev cX4_numberIn : ByteArray := prog_6_method_7_code
def yX4_numberIn : MethodName := ⟨RX4, "numberIn", "(II)I"⟩
abbrev cX4_excepts : ByteArray := prog_6_method_8_code
def yX4_excepts : MethodName := ⟨RX4, "excepts", "(II)Z"⟩
abbrev cX4_whyNot : ByteArray := prog_6_method_9_code
def yX4_whyNot : MethodName := ⟨RX4, "whyNot", "(LOilTown$Town;II)I"⟩
abbrev cX4_whyNotUnder : ByteArray := prog_6_method_10_code
def yX4_whyNotUnder : MethodName := ⟨RX4, "whyNotUnder", "(LOilTown$Town;IIII)I"⟩
abbrev cX4_letOf : ByteArray := prog_6_method_11_code
def yX4_letOf : MethodName := ⟨RX4, "letOf", "(LOilTown$Town;II)I"⟩
abbrev cX4_hotIn : ByteArray := prog_6_method_12_code
def yX4_hotIn : MethodName := ⟨RX4, "hotIn", "(LOilTown$Town;II)I"⟩
abbrev cX4_hotOfWell : ByteArray := prog_6_method_13_code
def yX4_hotOfWell : MethodName := ⟨RX4, "hotOfWell", "(LOilTown$Town;I)I"⟩
abbrev cX4_hotOfPerson : ByteArray := prog_6_method_14_code
def yX4_hotOfPerson : MethodName := ⟨RX4, "hotOfPerson", "(LOilTown$Town;I)I"⟩
abbrev cX4_hotOfAll : ByteArray := prog_6_method_15_code
def yX4_hotOfAll : MethodName := ⟨RX4, "hotOfAll", "(LOilTown$Town;)I"⟩
def RX5 : String := "OilTown$Pool"
def TX5 : u_T := fun k => match k with
  | 0 => ("OilTown$Pool", "wide", "I", false)
  | 1 => ("OilTown$Pool", "high", "I", false)
  | 2 => ("OilTown$Pool", "size", "I", false)
  | 3 => ("OilTown$Pool", "column", "[I", true)
  | 4 => ("OilTown$Pool", "row", "[I", true)
  | 5 => ("OilTown$Pool", "sand", "[I", true)
  | 6 => ("OilTown$Pool", "gas", "[I", true)
  | 7 => ("OilTown$Pool", "water", "[I", true)
  | _ => ("OilTown$Pool", "oil", "[I", true)
def tyX5 : Nat → FieldType := fun k => match k with
  | 0 => .int
  | 1 => .int
  | 2 => .int
  | 3 => .array .int
  | 4 => .array .int
  | 5 => .array .int
  | 6 => .array .int
  | 7 => .array .int
  | _ => .array .int
abbrev wsX50 : List Cond := u_ws RX5 TX5 9
theorem nmX5 : ∀ a, a < 9 → ∀ b, b < 9 → a ≠ b → (TX5 a).2.1 ≠ (TX5 b).2.1 := by decide +kernel
theorem tyX5_ok : ∀ k, k < 9 → parseFieldDescriptor (TX5 k).2.2.1 = some (tyX5 k) := by decide +kernel
abbrev cX5_init : ByteArray := prog_7_method_1_code
def yX5_init : MethodName := ⟨RX5, "<init>", "()V"⟩
abbrev cX5_becomeNew : ByteArray := prog_7_method_2_code
def yX5_becomeNew : MethodName := ⟨RX5, "becomeNew", "(II)V"⟩
abbrev cX5_copyFrom : ByteArray := prog_7_method_3_code
def yX5_copyFrom : MethodName := ⟨RX5, "copyFrom", "(LOilTown$Pool;)V"⟩
abbrev cX5_has : ByteArray := prog_7_method_4_code
def yX5_has : MethodName := ⟨RX5, "has", "(I)Z"⟩
abbrev cX5_liquid : ByteArray := prog_7_method_5_code
def yX5_liquid : MethodName := ⟨RX5, "liquid", "(I)I"⟩
abbrev cX5_push : ByteArray := prog_7_method_6_code
def yX5_push : MethodName := ⟨RX5, "push", "(I)I"⟩
abbrev cX5_beside : ByteArray := prog_7_method_7_code
def yX5_beside : MethodName := ⟨RX5, "beside", "(II)I"⟩
abbrev cX5_howFar : ByteArray := prog_7_method_8_code
def yX5_howFar : MethodName := ⟨RX5, "howFar", "(II)I"⟩
abbrev cX5_barrelsUnder : ByteArray := prog_7_method_9_code
def yX5_barrelsUnder : MethodName := ⟨RX5, "barrelsUnder", "(II)I"⟩
abbrev cX5_oilAmong : ByteArray := prog_7_method_10_code
def yX5_oilAmong : MethodName := ⟨RX5, "oilAmong", "(II)I"⟩
abbrev cX5_allOil : ByteArray := prog_7_method_11_code
def yX5_allOil : MethodName := ⟨RX5, "allOil", "()I"⟩
abbrev cX5_allWater : ByteArray := prog_7_method_12_code
def yX5_allWater : MethodName := ⟨RX5, "allWater", "()I"⟩
abbrev cX5_sumOverCells : ByteArray := prog_7_method_13_code
def yX5_sumOverCells : MethodName := ⟨RX5, "sumOverCells", "([I)I"⟩
def RX6 : String := "OilTown$Race"
def TX6 : u_T := fun k => match k with
  | 0 => ("OilTown$Race", "pool", "LOilTown$Pool;", true)
  | 1 => ("OilTown$Race", "currents", "LOilTown$Currents;", true)
  | 2 => ("OilTown$Race", "came", "[I", true)
  | 3 => ("OilTown$Race", "gains", "[I", true)
  | 4 => ("OilTown$Race", "racers", "I", false)
  | 5 => ("OilTown$Race", "will", "I", false)
  | 6 => ("OilTown$Race", "cost", "I", false)
  | _ => ("OilTown$Race", "hours", "I", false)
def tyX6 : Nat → FieldType := fun k => match k with
  | 0 => .object "OilTown$Pool"
  | 1 => .object "OilTown$Currents"
  | 2 => .array .int
  | 3 => .array .int
  | 4 => .int
  | 5 => .int
  | 6 => .int
  | _ => .int
abbrev wsX60 : List Cond := u_ws RX6 TX6 8
theorem nmX6 : ∀ a, a < 8 → ∀ b, b < 8 → a ≠ b → (TX6 a).2.1 ≠ (TX6 b).2.1 := by decide +kernel
theorem tyX6_ok : ∀ k, k < 8 → parseFieldDescriptor (TX6 k).2.2.1 = some (tyX6 k) := by decide +kernel
abbrev cX6_init : ByteArray := prog_8_method_1_code
def yX6_init : MethodName := ⟨RX6, "<init>", "()V"⟩
abbrev cX6_prepare : ByteArray := prog_8_method_2_code
def yX6_prepare : MethodName := ⟨RX6, "prepare", "(IIII)V"⟩
abbrev cX6_runAll : ByteArray := prog_8_method_3_code
def yX6_runAll : MethodName := ⟨RX6, "runAll", "(LOilTown$Town;[I)V"⟩
abbrev cX6_run : ByteArray := prog_8_method_4_code
def yX6_run : MethodName := ⟨RX6, "run", "(LOilTown$Town;[II)V"⟩
abbrev cX6_drawAll : ByteArray := prog_8_method_5_code
def yX6_drawAll : MethodName := ⟨RX6, "drawAll", "(LOilTown$Wells;[II)V"⟩
abbrev cX6_drawFrom : ByteArray := prog_8_method_6_code
def yX6_drawFrom : MethodName := ⟨RX6, "drawFrom", "(II)I"⟩
abbrev cX6_drills : ByteArray := prog_8_method_7_code
def yX6_drills : MethodName := ⟨RX6, "drills", "(II)Z"⟩
abbrev cX6_gainOf : ByteArray := prog_8_method_8_code
def yX6_gainOf : MethodName := ⟨RX6, "gainOf", "(II)I"⟩
abbrev cX6_sumOf : ByteArray := prog_8_method_9_code
def yX6_sumOf : MethodName := ⟨RX6, "sumOf", "(I)I"⟩
abbrev cX6_isSteady : ByteArray := prog_8_method_10_code
def yX6_isSteady : MethodName := ⟨RX6, "isSteady", "(I)Z"⟩
abbrev cX6_steadySets : ByteArray := prog_8_method_11_code
def yX6_steadySets : MethodName := ⟨RX6, "steadySets", "()I"⟩
abbrev cX6_leastSteady : ByteArray := prog_8_method_12_code
def yX6_leastSteady : MethodName := ⟨RX6, "leastSteady", "()I"⟩
abbrev cX6_richest : ByteArray := prog_8_method_13_code
def yX6_richest : MethodName := ⟨RX6, "richest", "(Z)I"⟩
abbrev cX6_urgeOf : ByteArray := prog_8_method_14_code
def yX6_urgeOf : MethodName := ⟨RX6, "urgeOf", "(I)I"⟩
def RX7 : String := "OilTown$Sheet"
def TX7 : u_T := fun k => match k with
  | 0 => ("OilTown$Sheet", "lane", "I", false)
  | 1 => ("OilTown$Sheet", "size", "I", false)
  | _ => ("OilTown$Sheet", "rows", "[I", true)
def tyX7 : Nat → FieldType := fun k => match k with
  | 0 => .int
  | 1 => .int
  | _ => .array .int
abbrev wsX70 : List Cond := u_ws RX7 TX7 3
theorem nmX7 : ∀ a, a < 3 → ∀ b, b < 3 → a ≠ b → (TX7 a).2.1 ≠ (TX7 b).2.1 := by decide +kernel
theorem tyX7_ok : ∀ k, k < 3 → parseFieldDescriptor (TX7 k).2.2.1 = some (tyX7 k) := by decide +kernel
abbrev cX7_init : ByteArray := prog_9_method_1_code
def yX7_init : MethodName := ⟨RX7, "<init>", "()V"⟩
abbrev cX7_becomeNew : ByteArray := prog_9_method_2_code
def yX7_becomeNew : MethodName := ⟨RX7, "becomeNew", "(II)V"⟩
abbrev cX7_put : ByteArray := prog_9_method_3_code
def yX7_put : MethodName := ⟨RX7, "put", "(II)V"⟩
abbrev cX7_sumOf : ByteArray := prog_9_method_4_code
def yX7_sumOf : MethodName := ⟨RX7, "sumOf", "(II)I"⟩
def RX8 : String := "OilTown$Tape"
def TX8 : u_T := fun k => match k with
  | 0 => ("OilTown$Tape", "size", "I", false)
  | 1 => ("OilTown$Tape", "bytes", "[I", true)
  | 2 => ("OilTown$Tape", "draft", "LOilTown$Orders;", true)
  | 3 => ("OilTown$Tape", "fault", "I", false)
  | 4 => ("OilTown$Tape", "place", "I", false)
  | 5 => ("OilTown$Tape", "at", "I", false)
  | 6 => ("OilTown$Tape", "token", "I", false)
  | 7 => ("OilTown$Tape", "start", "I", false)
  | _ => ("OilTown$Tape", "value", "I", false)
def tyX8 : Nat → FieldType := fun k => match k with
  | 0 => .int
  | 1 => .array .int
  | 2 => .object "OilTown$Orders"
  | 3 => .int
  | 4 => .int
  | 5 => .int
  | 6 => .int
  | 7 => .int
  | _ => .int
abbrev wsX80 : List Cond := u_ws RX8 TX8 9
theorem nmX8 : ∀ a, a < 9 → ∀ b, b < 9 → a ≠ b → (TX8 a).2.1 ≠ (TX8 b).2.1 := by decide +kernel
theorem tyX8_ok : ∀ k, k < 9 → parseFieldDescriptor (TX8 k).2.2.1 = some (tyX8 k) := by decide +kernel
abbrev cX8_init : ByteArray := prog_10_method_1_code
def yX8_init : MethodName := ⟨RX8, "<init>", "()V"⟩
abbrev cX8_add : ByteArray := prog_10_method_2_code
def yX8_add : MethodName := ⟨RX8, "add", "(J)I"⟩
abbrev cX8_read : ByteArray := prog_10_method_3_code
def yX8_read : MethodName := ⟨RX8, "read", "()V"⟩
abbrev cX8_readFrom : ByteArray := prog_10_method_4_code
def yX8_readFrom : MethodName := ⟨RX8, "readFrom", "()I"⟩
abbrev cX8_readRule : ByteArray := prog_10_method_5_code
def yX8_readRule : MethodName := ⟨RX8, "readRule", "(I)V"⟩
abbrev cX8_checkNumber : ByteArray := prog_10_method_6_code
def yX8_checkNumber : MethodName := ⟨RX8, "checkNumber", "(I)V"⟩
abbrev cX8_mostOf : ByteArray := prog_10_method_7_code
def yX8_mostOf : MethodName := ⟨RX8, "mostOf", "(I)I"⟩
abbrev cX8_fail : ByteArray := prog_10_method_8_code
def yX8_fail : MethodName := ⟨RX8, "fail", "(I)V"⟩
abbrev cX8_nextToken : ByteArray := prog_10_method_9_code
def yX8_nextToken : MethodName := ⟨RX8, "nextToken", "()V"⟩
abbrev cX8_readName : ByteArray := prog_10_method_10_code
def yX8_readName : MethodName := ⟨RX8, "readName", "()V"⟩
abbrev cX8_readFigures : ByteArray := prog_10_method_11_code
def yX8_readFigures : MethodName := ⟨RX8, "readFigures", "()V"⟩
abbrev cX8_isSpelt : ByteArray := prog_10_method_12_code
def yX8_isSpelt : MethodName := ⟨RX8, "isSpelt", "(Ljava/lang/String;)Z"⟩
abbrev cX8_nameOf : ByteArray := prog_10_method_13_code
def yX8_nameOf : MethodName := ⟨RX8, "nameOf", "(I)Ljava/lang/String;"⟩
abbrev cX8_isLetter : ByteArray := prog_10_method_14_code
def yX8_isLetter : MethodName := ⟨RX8, "isLetter", "(I)Z"⟩
abbrev cX8_isFigure : ByteArray := prog_10_method_15_code
def yX8_isFigure : MethodName := ⟨RX8, "isFigure", "(I)Z"⟩
def RX9 : String := "OilTown$Town"
def TX9 : u_T := fun k => match k with
  | 0 => ("OilTown$Town", "ground", "LOilTown$Ground;", true)
  | 1 => ("OilTown$Town", "deeds", "LOilTown$Deeds;", true)
  | 2 => ("OilTown$Town", "wells", "LOilTown$Wells;", true)
  | 3 => ("OilTown$Town", "books", "LOilTown$Books;", true)
  | _ => ("OilTown$Town", "hour", "I", false)
def tyX9 : Nat → FieldType := fun k => match k with
  | 0 => .object "OilTown$Ground"
  | 1 => .object "OilTown$Deeds"
  | 2 => .object "OilTown$Wells"
  | 3 => .object "OilTown$Books"
  | _ => .int
abbrev wsX90 : List Cond := u_ws RX9 TX9 5
theorem nmX9 : ∀ a, a < 5 → ∀ b, b < 5 → a ≠ b → (TX9 a).2.1 ≠ (TX9 b).2.1 := by decide +kernel
theorem tyX9_ok : ∀ k, k < 5 → parseFieldDescriptor (TX9 k).2.2.1 = some (tyX9 k) := by decide +kernel
abbrev cX9_init : ByteArray := prog_11_method_1_code
def yX9_init : MethodName := ⟨RX9, "<init>", "()V"⟩
abbrev cX9_becomeNew : ByteArray := prog_11_method_2_code
def yX9_becomeNew : MethodName := ⟨RX9, "becomeNew", "(II)V"⟩
abbrev cX9_copyFrom : ByteArray := prog_11_method_3_code
def yX9_copyFrom : MethodName := ⟨RX9, "copyFrom", "(LOilTown$Town;)V"⟩
abbrev cX9_shift : ByteArray := prog_11_method_4_code
def yX9_shift : MethodName := ⟨RX9, "shift", "()I"⟩
abbrev cX9_letHourGo : ByteArray := prog_11_method_5_code
def yX9_letHourGo : MethodName := ⟨RX9, "letHourGo", "(LOilTown$Currents;)I"⟩
abbrev cX9_drawBy : ByteArray := prog_11_method_6_code
def yX9_drawBy : MethodName := ⟨RX9, "drawBy", "(I[I)I"⟩
abbrev cX9_hasEnded : ByteArray := prog_11_method_7_code
def yX9_hasEnded : MethodName := ⟨RX9, "hasEnded", "(I)Z"⟩
abbrev cX9_hasWellOn : ByteArray := prog_11_method_8_code
def yX9_hasWellOn : MethodName := ⟨RX9, "hasWellOn", "(II)Z"⟩
abbrev cX9_holderOf : ByteArray := prog_11_method_9_code
def yX9_holderOf : MethodName := ⟨RX9, "holderOf", "(I)I"⟩
abbrev cX9_wellsOn : ByteArray := prog_11_method_10_code
def yX9_wellsOn : MethodName := ⟨RX9, "wellsOn", "(I)I"⟩
abbrev cX9_nearestWellFrom : ByteArray := prog_11_method_11_code
def yX9_nearestWellFrom : MethodName := ⟨RX9, "nearestWellFrom", "(I)I"⟩
abbrev cX9_shareByAcres : ByteArray := prog_11_method_12_code
def yX9_shareByAcres : MethodName := ⟨RX9, "shareByAcres", "(II)I"⟩
def RX10 : String := "OilTown$Wells"
def TX10 : u_T := fun k => match k with
  | 0 => ("OilTown$Wells", "size", "I", false)
  | 1 => ("OilTown$Wells", "person", "[I", true)
  | 2 => ("OilTown$Wells", "cell", "[I", true)
  | 3 => ("OilTown$Wells", "will", "[I", true)
  | 4 => ("OilTown$Wells", "isOpen", "[Z", true)
  | 5 => ("OilTown$Wells", "oil", "[I", true)
  | 6 => ("OilTown$Wells", "water", "[I", true)
  | 7 => ("OilTown$Wells", "oilByLot", "[I", true)
  | _ => ("OilTown$Wells", "oilByShift", "[I", true)
def tyX10 : Nat → FieldType := fun k => match k with
  | 0 => .int
  | 1 => .array .int
  | 2 => .array .int
  | 3 => .array .int
  | 4 => .array .boolean
  | 5 => .array .int
  | 6 => .array .int
  | 7 => .array .int
  | _ => .array .int
abbrev wsX100 : List Cond := u_ws RX10 TX10 9
theorem nmX10 : ∀ a, a < 9 → ∀ b, b < 9 → a ≠ b → (TX10 a).2.1 ≠ (TX10 b).2.1 := by decide +kernel
theorem tyX10_ok : ∀ k, k < 9 → parseFieldDescriptor (TX10 k).2.2.1 = some (tyX10 k) := by decide +kernel
abbrev cX10_init : ByteArray := prog_12_method_1_code
def yX10_init : MethodName := ⟨RX10, "<init>", "()V"⟩
abbrev cX10_clear : ByteArray := prog_12_method_2_code
def yX10_clear : MethodName := ⟨RX10, "clear", "()V"⟩
abbrev cX10_copyFrom : ByteArray := prog_12_method_3_code
def yX10_copyFrom : MethodName := ⟨RX10, "copyFrom", "(LOilTown$Wells;)V"⟩
abbrev cX10_add : ByteArray := prog_12_method_4_code
def yX10_add : MethodName := ⟨RX10, "add", "(III)I"⟩
abbrev cX10_noteDraw : ByteArray := prog_12_method_5_code
def yX10_noteDraw : MethodName := ⟨RX10, "noteDraw", "(II[II)V"⟩
abbrev cX10_sizeOf : ByteArray := prog_12_method_6_code
def yX10_sizeOf : MethodName := ⟨RX10, "sizeOf", "(I)I"⟩
abbrev cX10_oilOf : ByteArray := prog_12_method_7_code
def yX10_oilOf : MethodName := ⟨RX10, "oilOf", "(I)I"⟩
abbrev cX10_oilOfLot : ByteArray := prog_12_method_8_code
def yX10_oilOfLot : MethodName := ⟨RX10, "oilOfLot", "(II)I"⟩
def RX11 : String := "OilTown"
def TX11 : u_T := fun k => match k with
  | 0 => ("OilTown", "now", "LOilTown$Town;", true)
  | 1 => ("OilTown", "kept", "[LOilTown$Town;", true)
  | 2 => ("OilTown", "keptSize", "I", false)
  | 3 => ("OilTown", "persons", "I", false)
  | 4 => ("OilTown", "spots", "[I", true)
  | 5 => ("OilTown", "tape", "LOilTown$Tape;", true)
  | 6 => ("OilTown", "law", "LOilTown$Orders;", true)
  | 7 => ("OilTown", "currents", "LOilTown$Currents;", true)
  | 8 => ("OilTown", "race", "LOilTown$Race;", true)
  | _ => ("OilTown", "sheets", "[LOilTown$Sheet;", true)
def tyX11 : Nat → FieldType := fun k => match k with
  | 0 => .object "OilTown$Town"
  | 1 => .array (.object "OilTown$Town")
  | 2 => .int
  | 3 => .int
  | 4 => .array .int
  | 5 => .object "OilTown$Tape"
  | 6 => .object "OilTown$Orders"
  | 7 => .object "OilTown$Currents"
  | 8 => .object "OilTown$Race"
  | _ => .array (.object "OilTown$Sheet")
abbrev wsX110 : List Cond := u_ws RX11 TX11 10
theorem nmX11 : ∀ a, a < 10 → ∀ b, b < 10 → a ≠ b → (TX11 a).2.1 ≠ (TX11 b).2.1 := by decide +kernel
theorem tyX11_ok : ∀ k, k < 10 → parseFieldDescriptor (TX11 k).2.2.1 = some (tyX11 k) := by decide +kernel
abbrev cX11_init : ByteArray := prog_1_method_1_code
def yX11_init : MethodName := ⟨RX11, "<init>", "()V"⟩
abbrev cX11_field : ByteArray := prog_1_method_2_code
def yX11_field : MethodName := ⟨RX11, "field", "(II)I"⟩
abbrev cX11_cell : ByteArray := prog_1_method_3_code
def yX11_cell : MethodName := ⟨RX11, "cell", "(IIIII)I"⟩
abbrev cX11_lay : ByteArray := prog_1_method_4_code
def yX11_lay : MethodName := ⟨RX11, "lay", "(II)I"⟩
abbrev cX11_cellOf : ByteArray := prog_1_method_5_code
def yX11_cellOf : MethodName := ⟨RX11, "cellOf", "(II)I"⟩
abbrev cX11_hour : ByteArray := prog_1_method_6_code
def yX11_hour : MethodName := ⟨RX11, "hour", "()I"⟩
abbrev cX11_person : ByteArray := prog_1_method_7_code
def yX11_person : MethodName := ⟨RX11, "person", "()I"⟩
abbrev cX11_owner : ByteArray := prog_1_method_8_code
def yX11_owner : MethodName := ⟨RX11, "owner", "(II)I"⟩
abbrev cX11_lease : ByteArray := prog_1_method_9_code
def yX11_lease : MethodName := ⟨RX11, "lease", "(IIII)I"⟩
abbrev cX11_leaseOf : ByteArray := prog_1_method_10_code
def yX11_leaseOf : MethodName := ⟨RX11, "leaseOf", "(II)I"⟩
abbrev cX11_holds : ByteArray := prog_1_method_11_code
def yX11_holds : MethodName := ⟨RX11, "holds", "(I)I"⟩
abbrev cX11_told : ByteArray := prog_1_method_12_code
def yX11_told : MethodName := ⟨RX11, "told", "(II)I"⟩
abbrev cX11_drill : ByteArray := prog_1_method_13_code
def yX11_drill : MethodName := ⟨RX11, "drill", "(III)I"⟩
abbrev cX11_why : ByteArray := prog_1_method_14_code
def yX11_why : MethodName := ⟨RX11, "why", "(II)I"⟩
abbrev cX11_will : ByteArray := prog_1_method_15_code
def yX11_will : MethodName := ⟨RX11, "will", "(II)I"⟩
abbrev cX11_open : ByteArray := prog_1_method_16_code
def yX11_open : MethodName := ⟨RX11, "open", "(IZ)I"⟩
abbrev cX11_wellOf : ByteArray := prog_1_method_17_code
def yX11_wellOf : MethodName := ⟨RX11, "wellOf", "(II)I"⟩
abbrev cX11_drew : ByteArray := prog_1_method_18_code
def yX11_drew : MethodName := ⟨RX11, "drew", "(III)I"⟩
abbrev cX11_sell : ByteArray := prog_1_method_19_code
def yX11_sell : MethodName := ⟨RX11, "sell", "(II)I"⟩
abbrev cX11_price : ByteArray := prog_1_method_20_code
def yX11_price : MethodName := ⟨RX11, "price", "(I)I"⟩
abbrev cX11_feed : ByteArray := prog_1_method_21_code
def yX11_feed : MethodName := ⟨RX11, "feed", "(J)I"⟩
abbrev cX11_end : ByteArray := prog_1_method_22_code
def yX11_end : MethodName := ⟨RX11, "end", "(I)I"⟩
abbrev cX11_orders : ByteArray := prog_1_method_23_code
def yX11_orders : MethodName := ⟨RX11, "orders", "()I"⟩
abbrev cX11_fault : ByteArray := prog_1_method_24_code
def yX11_fault : MethodName := ⟨RX11, "fault", "()I"⟩
abbrev cX11_line : ByteArray := prog_1_method_25_code
def yX11_line : MethodName := ⟨RX11, "line", "(II)I"⟩
abbrev cX11_voids : ByteArray := prog_1_method_26_code
def yX11_voids : MethodName := ⟨RX11, "voids", "(I)I"⟩
abbrev cX11_lets : ByteArray := prog_1_method_27_code
def yX11_lets : MethodName := ⟨RX11, "lets", "(III)I"⟩
abbrev cX11_spot : ByteArray := prog_1_method_28_code
def yX11_spot : MethodName := ⟨RX11, "spot", "(II)I"⟩
abbrev cX11_gain : ByteArray := prog_1_method_29_code
def yX11_gain : MethodName := ⟨RX11, "gain", "(IIIIII)I"⟩
abbrev cX11_steady : ByteArray := prog_1_method_30_code
def yX11_steady : MethodName := ⟨RX11, "steady", "(IIIII)I"⟩
abbrev cX11_must : ByteArray := prog_1_method_31_code
def yX11_must : MethodName := ⟨RX11, "must", "(IIIII)I"⟩
abbrev cX11_keep : ByteArray := prog_1_method_32_code
def yX11_keep : MethodName := ⟨RX11, "keep", "()I"⟩
abbrev cX11_stand : ByteArray := prog_1_method_33_code
def yX11_stand : MethodName := ⟨RX11, "stand", "(I)I"⟩
abbrev cX11_sheet : ByteArray := prog_1_method_34_code
def yX11_sheet : MethodName := ⟨RX11, "sheet", "(III)I"⟩
abbrev cX11_write : ByteArray := prog_1_method_35_code
def yX11_write : MethodName := ⟨RX11, "write", "(III)I"⟩
abbrev cX11_scan : ByteArray := prog_1_method_36_code
def yX11_scan : MethodName := ⟨RX11, "scan", "(III)I"⟩
abbrev cX11_count : ByteArray := prog_1_method_37_code
def yX11_count : MethodName := ⟨RX11, "count", "(I)I"⟩
abbrev cX11_within : ByteArray := prog_1_method_38_code
def yX11_within : MethodName := ⟨RX11, "within", "(II)Z"⟩
abbrev cX11_isLot : ByteArray := prog_1_method_39_code
def yX11_isLot : MethodName := ⟨RX11, "isLot", "(I)Z"⟩
abbrev cX11_isByLot : ByteArray := prog_1_method_40_code
def yX11_isByLot : MethodName := ⟨RX11, "isByLot", "(I)Z"⟩
abbrev cX11_isSheet : ByteArray := prog_1_method_41_code
def yX11_isSheet : MethodName := ⟨RX11, "isSheet", "(I)Z"⟩
abbrev cX11_isLane : ByteArray := prog_1_method_42_code
def yX11_isLane : MethodName := ⟨RX11, "isLane", "(I)Z"⟩
abbrev cX11_hasCell : ByteArray := prog_1_method_43_code
def yX11_hasCell : MethodName := ⟨RX11, "hasCell", "(I)Z"⟩
abbrev cX11_isPerson : ByteArray := prog_1_method_44_code
def yX11_isPerson : MethodName := ⟨RX11, "isPerson", "(I)Z"⟩
abbrev cX11_isWell : ByteArray := prog_1_method_45_code
def yX11_isWell : MethodName := ⟨RX11, "isWell", "(I)Z"⟩
abbrev cX11_isRace : ByteArray := prog_1_method_46_code
def yX11_isRace : MethodName := ⟨RX11, "isRace", "(IIII)Z"⟩
abbrev cX11_haveSpots : ByteArray := prog_1_method_47_code
def yX11_haveSpots : MethodName := ⟨RX11, "haveSpots", "(I)Z"⟩
abbrev cX11_tellOilFrom : ByteArray := prog_1_method_48_code
def yX11_tellOilFrom : MethodName := ⟨RX11, "tellOilFrom", "(LOilTown$Sheet;I)V"⟩
def RX12 : String := "OilTownModel"
def TX12 : u_T := fun k => match k with
  | 0 => ("OilTownModel", "wide", "I", false)
  | 1 => ("OilTownModel", "high", "I", false)
  | 2 => ("OilTownModel", "now", "I", false)
  | 3 => ("OilTownModel", "sand", "[I", true)
  | 4 => ("OilTownModel", "gas", "[I", true)
  | 5 => ("OilTownModel", "water", "[I", true)
  | 6 => ("OilTownModel", "lots", "[I", true)
  | 7 => ("OilTownModel", "oil", "[I", true)
  | 8 => ("OilTownModel", "persons", "I", false)
  | 9 => ("OilTownModel", "owners", "[I", true)
  | 10 => ("OilTownModel", "leases", "I", false)
  | 11 => ("OilTownModel", "leaseLot", "[I", true)
  | 12 => ("OilTownModel", "leasePerson", "[I", true)
  | 13 => ("OilTownModel", "leaseUntil", "[I", true)
  | 14 => ("OilTownModel", "leaseStamp", "[I", true)
  | 15 => ("OilTownModel", "wells", "I", false)
  | 16 => ("OilTownModel", "wellPerson", "[I", true)
  | 17 => ("OilTownModel", "wellCell", "[I", true)
  | 18 => ("OilTownModel", "wellWill", "[I", true)
  | 19 => ("OilTownModel", "wellOpen", "[I", true)
  | 20 => ("OilTownModel", "wellOil", "[I", true)
  | 21 => ("OilTownModel", "wellWater", "[I", true)
  | 22 => ("OilTownModel", "wellLots", "[I", true)
  | 23 => ("OilTownModel", "wellShifts", "[I", true)
  | 24 => ("OilTownModel", "tanks", "[I", true)
  | 25 => ("OilTownModel", "sold", "[I", true)
  | 26 => ("OilTownModel", "paid", "[I", true)
  | 27 => ("OilTownModel", "soldIn", "[I", true)
  | 28 => ("OilTownModel", "spots", "[I", true)
  | 29 => ("OilTownModel", "part", "[I", true)
  | 30 => ("OilTownModel", "pushes", "[I", true)
  | 31 => ("OilTownModel", "oils", "[I", true)
  | 32 => ("OilTownModel", "waters", "[I", true)
  | 33 => ("OilTownModel", "oilIn", "[I", true)
  | 34 => ("OilTownModel", "waterIn", "[I", true)
  | 35 => ("OilTownModel", "wants", "[I", true)
  | 36 => ("OilTownModel", "tape", "[I", true)
  | 37 => ("OilTownModel", "taped", "I", false)
  | 38 => ("OilTownModel", "fault", "I", false)
  | 39 => ("OilTownModel", "wrong", "I", false)
  | 40 => ("OilTownModel", "wrongAt", "I", false)
  | 41 => ("OilTownModel", "at", "I", false)
  | 42 => ("OilTownModel", "place", "I", false)
  | 43 => ("OilTownModel", "token", "I", false)
  | 44 => ("OilTownModel", "value", "I", false)
  | 45 => ("OilTownModel", "ends", "[I", true)
  | 46 => ("OilTownModel", "letters", "[I", true)
  | 47 => ("OilTownModel", "mosts", "[I", true)
  | 48 => ("OilTownModel", "lines", "I", false)
  | 49 => ("OilTownModel", "lineRule", "[I", true)
  | 50 => ("OilTownModel", "lineFrom", "[I", true)
  | 51 => ("OilTownModel", "lineNumber", "[I", true)
  | 52 => ("OilTownModel", "lineVoid", "[I", true)
  | 53 => ("OilTownModel", "newLines", "I", false)
  | 54 => ("OilTownModel", "newRule", "[I", true)
  | 55 => ("OilTownModel", "newFrom", "[I", true)
  | 56 => ("OilTownModel", "newNumber", "[I", true)
  | 57 => ("OilTownModel", "kept", "[I", true)
  | 58 => ("OilTownModel", "page", "I", false)
  | 59 => ("OilTownModel", "puts", "Z", false)
  | 60 => ("OilTownModel", "fields", "I", false)
  | 61 => ("OilTownModel", "gains", "[I", true)
  | 62 => ("OilTownModel", "lanes", "[I", true)
  | 63 => ("OilTownModel", "lengths", "[I", true)
  | _ => ("OilTownModel", "marks", "[I", true)
def tyX12 : Nat → FieldType := fun k => match k with
  | 0 => .int
  | 1 => .int
  | 2 => .int
  | 3 => .array .int
  | 4 => .array .int
  | 5 => .array .int
  | 6 => .array .int
  | 7 => .array .int
  | 8 => .int
  | 9 => .array .int
  | 10 => .int
  | 11 => .array .int
  | 12 => .array .int
  | 13 => .array .int
  | 14 => .array .int
  | 15 => .int
  | 16 => .array .int
  | 17 => .array .int
  | 18 => .array .int
  | 19 => .array .int
  | 20 => .array .int
  | 21 => .array .int
  | 22 => .array .int
  | 23 => .array .int
  | 24 => .array .int
  | 25 => .array .int
  | 26 => .array .int
  | 27 => .array .int
  | 28 => .array .int
  | 29 => .array .int
  | 30 => .array .int
  | 31 => .array .int
  | 32 => .array .int
  | 33 => .array .int
  | 34 => .array .int
  | 35 => .array .int
  | 36 => .array .int
  | 37 => .int
  | 38 => .int
  | 39 => .int
  | 40 => .int
  | 41 => .int
  | 42 => .int
  | 43 => .int
  | 44 => .int
  | 45 => .array .int
  | 46 => .array .int
  | 47 => .array .int
  | 48 => .int
  | 49 => .array .int
  | 50 => .array .int
  | 51 => .array .int
  | 52 => .array .int
  | 53 => .int
  | 54 => .array .int
  | 55 => .array .int
  | 56 => .array .int
  | 57 => .array .int
  | 58 => .int
  | 59 => .boolean
  | 60 => .int
  | 61 => .array .int
  | 62 => .array .int
  | 63 => .array .int
  | _ => .array .int
abbrev wsX120 : List Cond := u_ws RX12 TX12 65
theorem nmX12 : ∀ a, a < 65 → ∀ b, b < 65 → a ≠ b → (TX12 a).2.1 ≠ (TX12 b).2.1 := by decide +kernel
theorem tyX12_ok : ∀ k, k < 65 → parseFieldDescriptor (TX12 k).2.2.1 = some (tyX12 k) := by decide +kernel
abbrev cX12_init : ByteArray := prog_14_method_1_code
def yX12_init : MethodName := ⟨RX12, "<init>", "()V"⟩
abbrev cX12_in : ByteArray := prog_14_method_3_code
def yX12_in : MethodName := ⟨RX12, "in", "(JJJ)Z"⟩
abbrev cX12_cells : ByteArray := prog_14_method_4_code
def yX12_cells : MethodName := ⟨RX12, "cells", "()I"⟩
abbrev cX12_isCell : ByteArray := prog_14_method_5_code
def yX12_isCell : MethodName := ⟨RX12, "isCell", "(I)Z"⟩
abbrev cX12_isLot : ByteArray := prog_14_method_6_code
def yX12_isLot : MethodName := ⟨RX12, "isLot", "(I)Z"⟩
abbrev cX12_isPerson : ByteArray := prog_14_method_7_code
def yX12_isPerson : MethodName := ⟨RX12, "isPerson", "(I)Z"⟩
abbrev cX12_isWell : ByteArray := prog_14_method_8_code
def yX12_isWell : MethodName := ⟨RX12, "isWell", "(I)Z"⟩
abbrev cX12_shift : ByteArray := prog_14_method_9_code
def yX12_shift : MethodName := ⟨RX12, "shift", "()I"⟩
abbrev cX12_field : ByteArray := prog_14_method_10_code
def yX12_field : MethodName := ⟨RX12, "field", "(II)I"⟩
abbrev cX12_putOil : ByteArray := prog_14_method_11_code
def yX12_putOil : MethodName := ⟨RX12, "putOil", "(II)V"⟩
abbrev cX12_oilOf : ByteArray := prog_14_method_12_code
def yX12_oilOf : MethodName := ⟨RX12, "oilOf", "(I)I"⟩
abbrev cX12_cell : ByteArray := prog_14_method_13_code
def yX12_cell : MethodName := ⟨RX12, "cell", "(IIIII)I"⟩
abbrev cX12_lay : ByteArray := prog_14_method_14_code
def yX12_lay : MethodName := ⟨RX12, "lay", "(II)I"⟩
abbrev cX12_pushOf : ByteArray := prog_14_method_15_code
def yX12_pushOf : MethodName := ⟨RX12, "pushOf", "(I)I"⟩
abbrev cX12_cellOf : ByteArray := prog_14_method_16_code
def yX12_cellOf : MethodName := ⟨RX12, "cellOf", "(II)I"⟩
abbrev cX12_take : ByteArray := prog_14_method_17_code
def yX12_take : MethodName := ⟨RX12, "take", "(II)V"⟩
abbrev cX12_draws : ByteArray := prog_14_method_18_code
def yX12_draws : MethodName := ⟨RX12, "draws", "()I"⟩
abbrev cX12_beside : ByteArray := prog_14_method_19_code
def yX12_beside : MethodName := ⟨RX12, "beside", "(II)I"⟩
abbrev cX12_wantOf : ByteArray := prog_14_method_20_code
def yX12_wantOf : MethodName := ⟨RX12, "wantOf", "(II)I"⟩
abbrev cX12_flowOf : ByteArray := prog_14_method_21_code
def yX12_flowOf : MethodName := ⟨RX12, "flowOf", "(I)V"⟩
abbrev cX12_flows : ByteArray := prog_14_method_22_code
def yX12_flows : MethodName := ⟨RX12, "flows", "()V"⟩
abbrev cX12_step : ByteArray := prog_14_method_23_code
def yX12_step : MethodName := ⟨RX12, "step", "()I"⟩
abbrev cX12_hour : ByteArray := prog_14_method_24_code
def yX12_hour : MethodName := ⟨RX12, "hour", "()I"⟩
abbrev cX12_person : ByteArray := prog_14_method_25_code
def yX12_person : MethodName := ⟨RX12, "person", "()I"⟩
abbrev cX12_owner : ByteArray := prog_14_method_26_code
def yX12_owner : MethodName := ⟨RX12, "owner", "(II)I"⟩
abbrev cX12_lease : ByteArray := prog_14_method_27_code
def yX12_lease : MethodName := ⟨RX12, "lease", "(IIII)I"⟩
abbrev cX12_hasEnded : ByteArray := prog_14_method_28_code
def yX12_hasEnded : MethodName := ⟨RX12, "hasEnded", "(I)Z"⟩
abbrev cX12_leaseOf : ByteArray := prog_14_method_29_code
def yX12_leaseOf : MethodName := ⟨RX12, "leaseOf", "(II)I"⟩
abbrev cX12_holderOf : ByteArray := prog_14_method_30_code
def yX12_holderOf : MethodName := ⟨RX12, "holderOf", "(I)I"⟩
abbrev cX12_holds : ByteArray := prog_14_method_31_code
def yX12_holds : MethodName := ⟨RX12, "holds", "(I)I"⟩
abbrev cX12_told : ByteArray := prog_14_method_32_code
def yX12_told : MethodName := ⟨RX12, "told", "(II)I"⟩
abbrev cX12_howFar : ByteArray := prog_14_method_33_code
def yX12_howFar : MethodName := ⟨RX12, "howFar", "(II)I"⟩
abbrev cX12_isExcepted : ByteArray := prog_14_method_34_code
def yX12_isExcepted : MethodName := ⟨RX12, "isExcepted", "(I)Z"⟩
abbrev cX12_whyNot : ByteArray := prog_14_method_35_code
def yX12_whyNot : MethodName := ⟨RX12, "whyNot", "(IIII)I"⟩
abbrev cX12_whyNow : ByteArray := prog_14_method_36_code
def yX12_whyNow : MethodName := ⟨RX12, "whyNow", "(II)I"⟩
abbrev cX12_addWell : ByteArray := prog_14_method_37_code
def yX12_addWell : MethodName := ⟨RX12, "addWell", "(III)V"⟩
abbrev cX12_drill : ByteArray := prog_14_method_38_code
def yX12_drill : MethodName := ⟨RX12, "drill", "(III)I"⟩
abbrev cX12_why : ByteArray := prog_14_method_39_code
def yX12_why : MethodName := ⟨RX12, "why", "(II)I"⟩
abbrev cX12_will : ByteArray := prog_14_method_40_code
def yX12_will : MethodName := ⟨RX12, "will", "(II)I"⟩
abbrev cX12_open : ByteArray := prog_14_method_41_code
def yX12_open : MethodName := ⟨RX12, "open", "(IZ)I"⟩
abbrev cX12_letOf : ByteArray := prog_14_method_42_code
def yX12_letOf : MethodName := ⟨RX12, "letOf", "(II)I"⟩
abbrev cX12_hotIn : ByteArray := prog_14_method_43_code
def yX12_hotIn : MethodName := ⟨RX12, "hotIn", "(II)I"⟩
abbrev cX12_hotOf : ByteArray := prog_14_method_44_code
def yX12_hotOf : MethodName := ⟨RX12, "hotOf", "(I)I"⟩
abbrev cX12_hotAll : ByteArray := prog_14_method_45_code
def yX12_hotAll : MethodName := ⟨RX12, "hotAll", "()I"⟩
abbrev cX12_wellOf : ByteArray := prog_14_method_46_code
def yX12_wellOf : MethodName := ⟨RX12, "wellOf", "(II)I"⟩
abbrev cX12_drew : ByteArray := prog_14_method_47_code
def yX12_drew : MethodName := ⟨RX12, "drew", "(III)I"⟩
abbrev cX12_priceOf : ByteArray := prog_14_method_48_code
def yX12_priceOf : MethodName := ⟨RX12, "priceOf", "(I)I"⟩
abbrev cX12_sell : ByteArray := prog_14_method_49_code
def yX12_sell : MethodName := ⟨RX12, "sell", "(II)I"⟩
abbrev cX12_price : ByteArray := prog_14_method_50_code
def yX12_price : MethodName := ⟨RX12, "price", "(I)I"⟩
abbrev cX12_feed : ByteArray := prog_14_method_51_code
def yX12_feed : MethodName := ⟨RX12, "feed", "(J)I"⟩
abbrev cX12_end : ByteArray := prog_14_method_52_code
def yX12_end : MethodName := ⟨RX12, "end", "(I)I"⟩
abbrev cX12_byteAt : ByteArray := prog_14_method_53_code
def yX12_byteAt : MethodName := ⟨RX12, "byteAt", "(I)I"⟩
abbrev cX12_fails : ByteArray := prog_14_method_54_code
def yX12_fails : MethodName := ⟨RX12, "fails", "(I)V"⟩
abbrev cX12_nameAt : ByteArray := prog_14_method_55_code
def yX12_nameAt : MethodName := ⟨RX12, "nameAt", "(II)I"⟩
abbrev cX12_next : ByteArray := prog_14_method_56_code
def yX12_next : MethodName := ⟨RX12, "next", "()V"⟩
abbrev cX12_number : ByteArray := prog_14_method_57_code
def yX12_number : MethodName := ⟨RX12, "number", "(I)I"⟩
abbrev cX12_once : ByteArray := prog_14_method_58_code
def yX12_once : MethodName := ⟨RX12, "once", "(III)V"⟩
abbrev cX12_oneLine : ByteArray := prog_14_method_59_code
def yX12_oneLine : MethodName := ⟨RX12, "oneLine", "()V"⟩
abbrev cX12_orders : ByteArray := prog_14_method_60_code
def yX12_orders : MethodName := ⟨RX12, "orders", "()I"⟩
abbrev cX12_fault : ByteArray := prog_14_method_61_code
def yX12_fault : MethodName := ⟨RX12, "fault", "()I"⟩
abbrev cX12_lineAt : ByteArray := prog_14_method_62_code
def yX12_lineAt : MethodName := ⟨RX12, "lineAt", "(II)I"⟩
abbrev cX12_line : ByteArray := prog_14_method_63_code
def yX12_line : MethodName := ⟨RX12, "line", "(II)I"⟩
abbrev cX12_voids : ByteArray := prog_14_method_64_code
def yX12_voids : MethodName := ⟨RX12, "voids", "(I)I"⟩
abbrev cX12_lets : ByteArray := prog_14_method_65_code
def yX12_lets : MethodName := ⟨RX12, "lets", "(III)I"⟩
abbrev cX12_turn : ByteArray := prog_14_method_66_code
def yX12_turn : MethodName := ⟨RX12, "turn", "(I)I"⟩
abbrev cX12_turnLand : ByteArray := prog_14_method_67_code
def yX12_turnLand : MethodName := ⟨RX12, "turnLand", "()V"⟩
abbrev cX12_turnPapers : ByteArray := prog_14_method_68_code
def yX12_turnPapers : MethodName := ⟨RX12, "turnPapers", "()V"⟩
abbrev cX12_turnPage : ByteArray := prog_14_method_69_code
def yX12_turnPage : MethodName := ⟨RX12, "turnPage", "(IZ)V"⟩
abbrev cX12_keep : ByteArray := prog_14_method_70_code
def yX12_keep : MethodName := ⟨RX12, "keep", "()I"⟩
abbrev cX12_stand : ByteArray := prog_14_method_71_code
def yX12_stand : MethodName := ⟨RX12, "stand", "(I)I"⟩
abbrev cX12_spot : ByteArray := prog_14_method_72_code
def yX12_spot : MethodName := ⟨RX12, "spot", "(II)I"⟩
abbrev cX12_isRace : ByteArray := prog_14_method_73_code
def yX12_isRace : MethodName := ⟨RX12, "isRace", "(IIII)Z"⟩
abbrev cX12_haveSpots : ByteArray := prog_14_method_74_code
def yX12_haveSpots : MethodName := ⟨RX12, "haveSpots", "(I)Z"⟩
abbrev cX12_race : ByteArray := prog_14_method_75_code
def yX12_race : MethodName := ⟨RX12, "race", "(IIIII)V"⟩
abbrev cX12_gain : ByteArray := prog_14_method_76_code
def yX12_gain : MethodName := ⟨RX12, "gain", "(IIIIII)I"⟩
abbrev cX12_raceAll : ByteArray := prog_14_method_77_code
def yX12_raceAll : MethodName := ⟨RX12, "raceAll", "(IIII)V"⟩
abbrev cX12_isSteady : ByteArray := prog_14_method_78_code
def yX12_isSteady : MethodName := ⟨RX12, "isSteady", "(II)Z"⟩
abbrev cX12_sumOf : ByteArray := prog_14_method_79_code
def yX12_sumOf : MethodName := ⟨RX12, "sumOf", "(II)I"⟩
abbrev cX12_steady : ByteArray := prog_14_method_80_code
def yX12_steady : MethodName := ⟨RX12, "steady", "(IIIII)I"⟩
abbrev cX12_must : ByteArray := prog_14_method_81_code
def yX12_must : MethodName := ⟨RX12, "must", "(IIIII)I"⟩
abbrev cX12_sheet : ByteArray := prog_14_method_82_code
def yX12_sheet : MethodName := ⟨RX12, "sheet", "(III)I"⟩
abbrev cX12_write : ByteArray := prog_14_method_83_code
def yX12_write : MethodName := ⟨RX12, "write", "(III)I"⟩
abbrev cX12_scan : ByteArray := prog_14_method_84_code
def yX12_scan : MethodName := ⟨RX12, "scan", "(III)I"⟩
abbrev cX12_count : ByteArray := prog_14_method_85_code
def yX12_count : MethodName := ⟨RX12, "count", "(I)I"⟩
def RJ9 : String := "java/lang/Math"
def TJ9 : u_T := fun k => match k with
  | _ => ("", "", "", false)
def tyJ9 : Nat → FieldType := fun k => match k with
  | _ => .int
abbrev wsJ90 : List Cond := u_ws RJ9 TJ9 0
theorem nmJ9 : ∀ a, a < 0 → ∀ b, b < 0 → a ≠ b → (TJ9 a).2.1 ≠ (TJ9 b).2.1 := by decide +kernel
theorem tyJ9_ok : ∀ k, k < 0 → parseFieldDescriptor (TJ9 k).2.2.1 = some (tyJ9 k) := by decide +kernel
abbrev cJ9_abs_0f7a4 : ByteArray := prog_15_method_59_code
def yJ9_abs_0f7a4 : MethodName := ⟨RJ9, "abs", "(I)I"⟩
abbrev cJ9_max_7cf53 : ByteArray := prog_15_method_65_code
def yJ9_max_7cf53 : MethodName := ⟨RJ9, "max", "(II)I"⟩
abbrev cJ9_min_7cf53 : ByteArray := prog_15_method_69_code
def yJ9_min_7cf53 : MethodName := ⟨RJ9, "min", "(II)I"⟩
def RJ0 : String := "java/lang/String"
def TJ0 : u_T := fun k => match k with
  | _ => ("", "", "", false)
def tyJ0 : Nat → FieldType := fun k => match k with
  | _ => .int
abbrev wsJ00 : List Cond := u_ws RJ0 TJ0 0
theorem nmJ0 : ∀ a, a < 0 → ∀ b, b < 0 → a ≠ b → (TJ0 a).2.1 ≠ (TJ0 b).2.1 := by decide +kernel
theorem tyJ0_ok : ∀ k, k < 0 → parseFieldDescriptor (TJ0 k).2.2.1 = some (tyJ0 k) := by decide +kernel
abbrev cJ0_length_8abf5 : ByteArray := prog_16_method_54_code
def yJ0_length_8abf5 : MethodName := ⟨RJ0, "length", "()I"⟩
abbrev cJ0_charAt_5068e : ByteArray := prog_16_method_56_code
def yJ0_charAt_5068e : MethodName := ⟨RJ0, "charAt", "(I)C"⟩
abbrev cJ0_coder_7d493 : ByteArray := prog_16_method_152_code
def yJ0_coder_7d493 : MethodName := ⟨RJ0, "coder", "()B"⟩
abbrev cJ0_isLatin1_aae02 : ByteArray := prog_16_method_154_code
def yJ0_isLatin1_aae02 : MethodName := ⟨RJ0, "isLatin1", "()Z"⟩
abbrev cJ0_checkIndex_df160 : ByteArray := prog_16_method_155_code
def yJ0_checkIndex_df160 : MethodName := ⟨RJ0, "checkIndex", "(II)V"⟩
def RJ1 : String := "java/lang/StringLatin1"
def TJ1 : u_T := fun k => match k with
  | _ => ("", "", "", false)
def tyJ1 : Nat → FieldType := fun k => match k with
  | _ => .int
abbrev wsJ10 : List Cond := u_ws RJ1 TJ1 0
theorem nmJ1 : ∀ a, a < 0 → ∀ b, b < 0 → a ≠ b → (TJ1 a).2.1 ≠ (TJ1 b).2.1 := by decide +kernel
theorem tyJ1_ok : ∀ k, k < 0 → parseFieldDescriptor (TJ1 k).2.2.1 = some (tyJ1 k) := by decide +kernel
abbrev cJ1_charAt_3b067 : ByteArray := prog_17_method_2_code
def yJ1_charAt_3b067 : MethodName := ⟨RJ1, "charAt", "([BI)C"⟩
def RJ2 : String := "java/lang/StringUTF16"
def TJ2 : u_T := fun k => match k with
  | _ => ("", "", "", false)
def tyJ2 : Nat → FieldType := fun k => match k with
  | _ => .int
abbrev wsJ20 : List Cond := u_ws RJ2 TJ2 0
theorem nmJ2 : ∀ a, a < 0 → ∀ b, b < 0 → a ≠ b → (TJ2 a).2.1 ≠ (TJ2 b).2.1 := by decide +kernel
theorem tyJ2_ok : ∀ k, k < 0 → parseFieldDescriptor (TJ2 k).2.2.1 = some (tyJ2 k) := by decide +kernel
abbrev cJ2_getChar_3b067 : ByteArray := prog_18_method_5_code
def yJ2_getChar_3b067 : MethodName := ⟨RJ2, "getChar", "([BI)C"⟩
abbrev cJ2_length_9d52b : ByteArray := prog_18_method_6_code
def yJ2_length_9d52b : MethodName := ⟨RJ2, "length", "([B)I"⟩
abbrev cJ2_charAt_3b067 : ByteArray := prog_18_method_83_code
def yJ2_charAt_3b067 : MethodName := ⟨RJ2, "charAt", "([BI)C"⟩
abbrev cJ2_checkIndex_2214a : ByteArray := prog_18_method_91_code
def yJ2_checkIndex_2214a : MethodName := ⟨RJ2, "checkIndex", "(I[B)V"⟩
def RJ10 : String := "java/lang/System"
def TJ10 : u_T := fun k => match k with
  | _ => ("", "", "", false)
def tyJ10 : Nat → FieldType := fun k => match k with
  | _ => .int
abbrev wsJ100 : List Cond := u_ws RJ10 TJ10 0
theorem nmJ10 : ∀ a, a < 0 → ∀ b, b < 0 → a ≠ b → (TJ10 a).2.1 ≠ (TJ10 b).2.1 := by decide +kernel
theorem tyJ10_ok : ∀ k, k < 0 → parseFieldDescriptor (TJ10 k).2.2.1 = some (tyJ10 k) := by decide +kernel
def RJ7 : String := "java/util/Arrays"
def TJ7 : u_T := fun k => match k with
  | _ => ("", "", "", false)
def tyJ7 : Nat → FieldType := fun k => match k with
  | _ => .int
abbrev wsJ70 : List Cond := u_ws RJ7 TJ7 0
theorem nmJ7 : ∀ a, a < 0 → ∀ b, b < 0 → a ≠ b → (TJ7 a).2.1 ≠ (TJ7 b).2.1 := by decide +kernel
theorem tyJ7_ok : ∀ k, k < 0 → parseFieldDescriptor (TJ7 k).2.2.1 = some (tyJ7 k) := by decide +kernel
abbrev cJ7_fill_53178 : ByteArray := prog_20_method_103_code
def yJ7_fill_53178 : MethodName := ⟨RJ7, "fill", "([II)V"⟩
def RJ3 : String := "jdk/internal/util/Preconditions"
def TJ3 : u_T := fun k => match k with
  | _ => ("", "", "", false)
def tyJ3 : Nat → FieldType := fun k => match k with
  | _ => .int
abbrev wsJ30 : List Cond := u_ws RJ3 TJ3 0
theorem nmJ3 : ∀ a, a < 0 → ∀ b, b < 0 → a ≠ b → (TJ3 a).2.1 ≠ (TJ3 b).2.1 := by decide +kernel
theorem tyJ3_ok : ∀ k, k < 0 → parseFieldDescriptor (TJ3 k).2.2.1 = some (tyJ3 k) := by decide +kernel
abbrev cJ3_checkIndex_8e157 : ByteArray := prog_21_method_11_code
def yJ3_checkIndex_8e157 : MethodName := ⟨RJ3, "checkIndex", "(IILjava/util/function/BiFunction;)I"⟩
def RL : String := "OilTownLaw"
abbrev cL_law : ByteArray := code
def yL_law : MethodName := ⟨RL, "law", "([I)Z"⟩
theorem gin0 : ∀ w ∈ wsX00, w ∈ lw_tbl := by decide +kernel
theorem gin1 : ∀ w ∈ wsX10, w ∈ lw_tbl := by decide +kernel
theorem gin2 : ∀ w ∈ wsX20, w ∈ lw_tbl := by decide +kernel
theorem gin3 : ∀ w ∈ wsX30, w ∈ lw_tbl := by decide +kernel
theorem gin4 : ∀ w ∈ wsX40, w ∈ lw_tbl := by decide +kernel
theorem gin5 : ∀ w ∈ wsX50, w ∈ lw_tbl := by decide +kernel
theorem gin6 : ∀ w ∈ wsX60, w ∈ lw_tbl := by decide +kernel
theorem gin7 : ∀ w ∈ wsX70, w ∈ lw_tbl := by decide +kernel
theorem gin8 : ∀ w ∈ wsX80, w ∈ lw_tbl := by decide +kernel
theorem gin9 : ∀ w ∈ wsX90, w ∈ lw_tbl := by decide +kernel
theorem gin10 : ∀ w ∈ wsX100, w ∈ lw_tbl := by decide +kernel
theorem gin11 : ∀ w ∈ wsX110, w ∈ lw_tbl := by decide +kernel
theorem gin12 : ∀ w ∈ wsX120, w ∈ lw_tbl := by decide +kernel
