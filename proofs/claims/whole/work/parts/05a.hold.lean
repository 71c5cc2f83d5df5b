/-! ===== the code is the bytes' own (by program) ===== -/
set_option maxRecDepth 100000 in
theorem gch_0_0 : gco_0_0.all (gck 0 true none 1 cX0_init) = true := by decide +kernel
set_option maxRecDepth 100000 in
theorem gok_0 : gmeP gme_0 := gmeP_of (gix_mem (i := 277) (by decide +kernel)) (by decide +kernel) (gall gch_0_0)
set_option maxRecDepth 100000 in
theorem gch_1_0 : gco_1_0.all (gck 0 false none 1 cX0_clear) = true := by decide +kernel
set_option maxRecDepth 100000 in
theorem gok_1 : gmeP gme_1 := gmeP_of (gix_mem (i := 325) (by decide +kernel)) (by decide +kernel) (gall gch_1_0)
set_option maxRecDepth 100000 in
theorem gch_2_0 : gco_2_0.all (gck 0 false none 2 cX0_copyFrom) = true := by decide +kernel
set_option maxRecDepth 100000 in
theorem gok_2 : gmeP gme_2 := gmeP_of (gix_mem (i := 1119) (by decide +kernel)) (by decide +kernel) (gall gch_2_0)
set_option maxRecDepth 100000 in
theorem gch_3_0 : gco_3_0.all (gck 0 false (some .int) 2 cX0_priceIn) = true := by decide +kernel
set_option maxRecDepth 100000 in
theorem gok_3 : gmeP gme_3 := gmeP_of (gix_mem (i := 832) (by decide +kernel)) (by decide +kernel) (gall gch_3_0)
set_option maxRecDepth 100000 in
theorem gch_4_0 : gco_4_0.all (gck 0 false (some .int) 5 cX0_sellAt) = true := by decide +kernel
set_option maxRecDepth 100000 in
theorem gok_4 : gmeP gme_4 := gmeP_of (gix_mem (i := 828) (by decide +kernel)) (by decide +kernel) (gall gch_4_0)
set_option maxRecDepth 100000 in
theorem gch_5_0 : gco_5_0.all (gck 0 false (some .int) 1 cX0_allInTanks) = true := by decide +kernel
set_option maxRecDepth 100000 in
theorem gok_5 : gmeP gme_5 := gmeP_of (gix_mem (i := 1179) (by decide +kernel)) (by decide +kernel) (gall gch_5_0)
set_option maxRecDepth 100000 in
theorem gch_6_0 : gco_6_0.all (gck 0 false (some .int) 1 cX0_allSold) = true := by decide +kernel
set_option maxRecDepth 100000 in
theorem gok_6 : gmeP gme_6 := gmeP_of (gix_mem (i := 1186) (by decide +kernel)) (by decide +kernel) (gall gch_6_0)
set_option maxRecDepth 100000 in
theorem gch_7_0 : gco_7_0.all (gck 0 false (some .int) 3 cX0_sumOverPersons) = true := by decide +kernel
set_option maxRecDepth 100000 in
theorem gok_7 : gmeP gme_7 := gmeP_of (gix_mem (i := 1182) (by decide +kernel)) (by decide +kernel) (gall gch_7_0)
set_option maxRecDepth 100000 in
theorem gch_8_0 : gco_8_0.all (gck 1 true none 1 cX1_init) = true := by decide +kernel
set_option maxRecDepth 100000 in
theorem gok_8 : gmeP gme_8 := gmeP_of (gix_mem (i := 425) (by decide +kernel)) (by decide +kernel) (gall gch_8_0)
set_option maxRecDepth 100000 in
theorem gch_9_0 : gco_9_0.all (gck 1 false none 3 cX1_measure) = true := by decide +kernel
set_option maxRecDepth 100000 in
theorem gok_9 : gmeP gme_9 := gmeP_of (gix_mem (i := 625) (by decide +kernel)) (by decide +kernel) (gall gch_9_0)
set_option maxRecDepth 100000 in
theorem gch_10_0 : gco_10_0.all (gck 1 false none 10 cX1_measureCell) = true := by decide +kernel
set_option maxRecDepth 100000 in
theorem gch_10_1 : gco_10_1.all (gck 1 false none 10 cX1_measureCell) = true := by decide +kernel
set_option maxRecDepth 100000 in
theorem gok_10 : gmeP gme_10 := gmeP_of (gix_mem (i := 630) (by decide +kernel)) (by decide +kernel) (gapp (gall gch_10_0) (gall gch_10_1))
set_option maxRecDepth 100000 in
theorem gch_11_0 : gco_11_0.all (gck 1 false (some .long) 5 cX1_wantOf) = true := by decide +kernel
set_option maxRecDepth 100000 in
theorem gok_11 : gmeP gme_11 := gmeP_of (gix_mem (i := 637) (by decide +kernel)) (by decide +kernel) (gall gch_11_0)
set_option maxRecDepth 100000 in
theorem gch_12_0 : gco_12_0.all (gck 1 false none 8 cX1_add) = true := by decide +kernel
set_option maxRecDepth 100000 in
theorem gch_12_1 : gco_12_1.all (gck 1 false none 8 cX1_add) = true := by decide +kernel
set_option maxRecDepth 100000 in
theorem gok_12 : gmeP gme_12 := gmeP_of (gix_mem (i := 644) (by decide +kernel)) (by decide +kernel) (gapp (gall gch_12_0) (gall gch_12_1))
set_option maxRecDepth 100000 in
theorem gch_13_0 : gco_13_0.all (gck 1 false none 3 cX1_movePool) = true := by decide +kernel
set_option maxRecDepth 100000 in
theorem gok_13 : gmeP gme_13 := gmeP_of (gix_mem (i := 1049) (by decide +kernel)) (by decide +kernel) (gall gch_13_0)
set_option maxRecDepth 100000 in
theorem gch_14_0 : gco_14_0.all (gck 1 false none 4 cX1_moveGround) = true := by decide +kernel
set_option maxRecDepth 100000 in
theorem gch_14_1 : gco_14_1.all (gck 1 false none 4 cX1_moveGround) = true := by decide +kernel
set_option maxRecDepth 100000 in
theorem gok_14 : gmeP gme_14 := gmeP_of (gix_mem (i := 648) (by decide +kernel)) (by decide +kernel) (gapp (gall gch_14_0) (gall gch_14_1))
set_option maxRecDepth 100000 in
theorem gch_15_0 : gco_15_0.all (gck 1 false none 3 cX1_moveWater) = true := by decide +kernel
set_option maxRecDepth 100000 in
theorem gok_15 : gmeP gme_15 := gmeP_of (gix_mem (i := 654) (by decide +kernel)) (by decide +kernel) (gall gch_15_0)
set_option maxRecDepth 100000 in
theorem gch_16_0 : gco_16_0.all (gck 2 true none 1 cX2_init) = true := by decide +kernel
set_option maxRecDepth 100000 in
theorem gok_16 : gmeP gme_16 := gmeP_of (gix_mem (i := 183) (by decide +kernel)) (by decide +kernel) (gall gch_16_0)
set_option maxRecDepth 100000 in
theorem gch_17_0 : gco_17_0.all (gck 2 false none 1 cX2_clear) = true := by decide +kernel
set_option maxRecDepth 100000 in
theorem gok_17 : gmeP gme_17 := gmeP_of (gix_mem (i := 315) (by decide +kernel)) (by decide +kernel) (gall gch_17_0)
set_option maxRecDepth 100000 in
theorem gch_18_0 : gco_18_0.all (gck 2 false none 2 cX2_copyFrom) = true := by decide +kernel
set_option maxRecDepth 100000 in
theorem gok_18 : gmeP gme_18 := gmeP_of (gix_mem (i := 1109) (by decide +kernel)) (by decide +kernel) (gall gch_18_0)
set_option maxRecDepth 100000 in
theorem gch_19_0 : gco_19_0.all (gck 2 false (some .int) 5 cX2_add) = true := by decide +kernel
set_option maxRecDepth 100000 in
theorem gok_19 : gmeP gme_19 := gmeP_of (gix_mem (i := 674) (by decide +kernel)) (by decide +kernel) (gall gch_19_0)
set_option maxRecDepth 100000 in
theorem gch_20_0 : gco_20_0.all (gck 3 true none 1 cX3_init) = true := by decide +kernel
set_option maxRecDepth 100000 in
theorem gok_20 : gmeP gme_20 := gmeP_of (gix_mem (i := 109) (by decide +kernel)) (by decide +kernel) (gall gch_20_0)
set_option maxRecDepth 100000 in
theorem gch_21_0 : gco_21_0.all (gck 3 false none 3 cX3_becomeNew) = true := by decide +kernel
set_option maxRecDepth 100000 in
theorem gok_21 : gmeP gme_21 := gmeP_of (gix_mem (i := 303) (by decide +kernel)) (by decide +kernel) (gall gch_21_0)
set_option maxRecDepth 100000 in
theorem gch_22_0 : gco_22_0.all (gck 3 false none 2 cX3_copyFrom) = true := by decide +kernel
set_option maxRecDepth 100000 in
theorem gok_22 : gmeP gme_22 := gmeP_of (gix_mem (i := 1103) (by decide +kernel)) (by decide +kernel) (gall gch_22_0)
set_option maxRecDepth 100000 in
theorem gch_23_0 : gco_23_0.all (gck 3 false none 4 cX3_tellOil) = true := by decide +kernel
set_option maxRecDepth 100000 in
theorem gok_23 : gmeP gme_23 := gmeP_of (gix_mem (i := 564) (by decide +kernel)) (by decide +kernel) (gall gch_23_0)
set_option maxRecDepth 100000 in
theorem gch_24_0 : gco_24_0.all (gck 3 false none 8 cX3_take) = true := by decide +kernel
set_option maxRecDepth 100000 in
theorem gch_24_1 : gco_24_1.all (gck 3 false none 8 cX3_take) = true := by decide +kernel
set_option maxRecDepth 100000 in
theorem gok_24 : gmeP gme_24 := gmeP_of (gix_mem (i := 613) (by decide +kernel)) (by decide +kernel) (gapp (gall gch_24_0) (gall gch_24_1))
set_option maxRecDepth 100000 in
theorem gch_25_0 : gco_25_0.all (gck 3 false (some .int) 4 cX3_cellsOf) = true := by decide +kernel
set_option maxRecDepth 100000 in
theorem gok_25 : gmeP gme_25 := gmeP_of (gix_mem (i := 739) (by decide +kernel)) (by decide +kernel) (gall gch_25_0)
set_option maxRecDepth 100000 in
theorem gch_26_0 : gco_26_0.all (gck 3 false (some .int) 4 cX3_strangerFrom) = true := by decide +kernel
set_option maxRecDepth 100000 in
theorem gok_26 : gmeP gme_26 := gmeP_of (gix_mem (i := 774) (by decide +kernel)) (by decide +kernel) (gall gch_26_0)
set_option maxRecDepth 100000 in
theorem gch_27_0 : gco_27_0.all (gck 4 true none 1 cX4_init) = true := by decide +kernel
set_option maxRecDepth 100000 in
theorem gok_27 : gmeP gme_27 := gmeP_of (gix_mem (i := 363) (by decide +kernel)) (by decide +kernel) (gall gch_27_0)
set_option maxRecDepth 100000 in
theorem gch_28_0 : gco_28_0.all (gck 4 false none 3 cX4_copyFrom) = true := by decide +kernel
set_option maxRecDepth 100000 in
theorem gok_28 : gmeP gme_28 := gmeP_of (gix_mem (i := 973) (by decide +kernel)) (by decide +kernel) (gall gch_28_0)
set_option maxRecDepth 100000 in
theorem gch_29_0 : gco_29_0.all (gck 4 false none 4 cX4_add) = true := by decide +kernel
set_option maxRecDepth 100000 in
theorem gok_29 : gmeP gme_29 := gmeP_of (gix_mem (i := 969) (by decide +kernel)) (by decide +kernel) (gall gch_29_0)
set_option maxRecDepth 100000 in
theorem gch_30_0 : gco_30_0.all (gck 4 false (some .boolean) 4 cX4_tells) = true := by decide +kernel
set_option maxRecDepth 100000 in
theorem gok_30 : gmeP gme_30 := gmeP_of (gix_mem (i := 958) (by decide +kernel)) (by decide +kernel) (gall gch_30_0)
set_option maxRecDepth 100000 in
theorem gch_31_0 : gco_31_0.all (gck 4 false (some .boolean) 4 cX4_tellsExcept) = true := by decide +kernel
set_option maxRecDepth 100000 in
theorem gok_31 : gmeP gme_31 := gmeP_of (gix_mem (i := 965) (by decide +kernel)) (by decide +kernel) (gall gch_31_0)
set_option maxRecDepth 100000 in
theorem gch_32_0 : gco_32_0.all (gck 4 false (some .int) 5 cX4_lineIn) = true := by decide +kernel
set_option maxRecDepth 100000 in
theorem gok_32 : gmeP gme_32 := gmeP_of (gix_mem (i := 727) (by decide +kernel)) (by decide +kernel) (gall gch_32_0)
set_option maxRecDepth 100000 in
theorem gch_33_0 : gco_33_0.all (gck 4 false (some .int) 4 cX4_numberIn) = true := by decide +kernel
set_option maxRecDepth 100000 in
theorem gok_33 : gmeP gme_33 := gmeP_of (gix_mem (i := 761) (by decide +kernel)) (by decide +kernel) (gall gch_33_0)
set_option maxRecDepth 100000 in
theorem gch_34_0 : gco_34_0.all (gck 4 false (some .boolean) 4 cX4_excepts) = true := by decide +kernel
set_option maxRecDepth 100000 in
theorem gok_34 : gmeP gme_34 := gmeP_of (gix_mem (i := 770) (by decide +kernel)) (by decide +kernel) (gall gch_34_0)
set_option maxRecDepth 100000 in
theorem gch_35_0 : gco_35_0.all (gck 4 false (some .int) 5 cX4_whyNot) = true := by decide +kernel
set_option maxRecDepth 100000 in
theorem gok_35 : gmeP gme_35 := gmeP_of (gix_mem (i := 756) (by decide +kernel)) (by decide +kernel) (gall gch_35_0)
set_option maxRecDepth 100000 in
theorem gch_36_0 : gco_36_0.all (gck 4 false (some .int) 7 cX4_whyNotUnder) = true := by decide +kernel
set_option maxRecDepth 100000 in
theorem gok_36 : gmeP gme_36 := gmeP_of (gix_mem (i := 765) (by decide +kernel)) (by decide +kernel) (gall gch_36_0)
set_option maxRecDepth 100000 in
theorem gch_37_0 : gco_37_0.all (gck 4 false (some .int) 7 cX4_letOf) = true := by decide +kernel
set_option maxRecDepth 100000 in
theorem gok_37 : gmeP gme_37 := gmeP_of (gix_mem (i := 723) (by decide +kernel)) (by decide +kernel) (gall gch_37_0)
set_option maxRecDepth 100000 in
theorem gch_38_0 : gco_38_0.all (gck 4 false (some .int) 6 cX4_hotIn) = true := by decide +kernel
set_option maxRecDepth 100000 in
theorem gok_38 : gmeP gme_38 := gmeP_of (gix_mem (i := 719) (by decide +kernel)) (by decide +kernel) (gall gch_38_0)
set_option maxRecDepth 100000 in
theorem gch_39_0 : gco_39_0.all (gck 4 false (some .int) 5 cX4_hotOfWell) = true := by decide +kernel
set_option maxRecDepth 100000 in
theorem gok_39 : gmeP gme_39 := gmeP_of (gix_mem (i := 715) (by decide +kernel)) (by decide +kernel) (gall gch_39_0)
set_option maxRecDepth 100000 in
theorem gch_40_0 : gco_40_0.all (gck 4 false (some .int) 5 cX4_hotOfPerson) = true := by decide +kernel
set_option maxRecDepth 100000 in
theorem gok_40 : gmeP gme_40 := gmeP_of (gix_mem (i := 711) (by decide +kernel)) (by decide +kernel) (gall gch_40_0)
set_option maxRecDepth 100000 in
theorem gch_41_0 : gco_41_0.all (gck 4 false (some .int) 4 cX4_hotOfAll) = true := by decide +kernel
set_option maxRecDepth 100000 in
theorem gok_41 : gmeP gme_41 := gmeP_of (gix_mem (i := 995) (by decide +kernel)) (by decide +kernel) (gall gch_41_0)
set_option maxRecDepth 100000 in
theorem gch_42_0 : gco_42_0.all (gck 5 true none 1 cX5_init) = true := by decide +kernel
set_option maxRecDepth 100000 in
theorem gok_42 : gmeP gme_42 := gmeP_of (gix_mem (i := 115) (by decide +kernel)) (by decide +kernel) (gall gch_42_0)
set_option maxRecDepth 100000 in
theorem gch_43_0 : gco_43_0.all (gck 5 false none 5 cX5_becomeNew) = true := by decide +kernel
set_option maxRecDepth 100000 in
theorem gok_43 : gmeP gme_43 := gmeP_of (gix_mem (i := 307) (by decide +kernel)) (by decide +kernel) (gall gch_43_0)
set_option maxRecDepth 100000 in
theorem gch_44_0 : gco_44_0.all (gck 5 false none 2 cX5_copyFrom) = true := by decide +kernel
set_option maxRecDepth 100000 in
theorem gch_44_1 : gco_44_1.all (gck 5 false none 2 cX5_copyFrom) = true := by decide +kernel
set_option maxRecDepth 100000 in
theorem gok_44 : gmeP gme_44 := gmeP_of (gix_mem (i := 1029) (by decide +kernel)) (by decide +kernel) (gapp (gall gch_44_0) (gall gch_44_1))
set_option maxRecDepth 100000 in
theorem gch_45_0 : gco_45_0.all (gck 5 false (some .boolean) 2 cX5_has) = true := by decide +kernel
set_option maxRecDepth 100000 in
theorem gok_45 : gmeP gme_45 := gmeP_of (gix_mem (i := 557) (by decide +kernel)) (by decide +kernel) (gall gch_45_0)
set_option maxRecDepth 100000 in
theorem gch_46_0 : gco_46_0.all (gck 5 false (some .int) 2 cX5_liquid) = true := by decide +kernel
set_option maxRecDepth 100000 in
theorem gok_46 : gmeP gme_46 := gmeP_of (gix_mem (i := 602) (by decide +kernel)) (by decide +kernel) (gall gch_46_0)
set_option maxRecDepth 100000 in
theorem gch_47_0 : gco_47_0.all (gck 5 false (some .int) 2 cX5_push) = true := by decide +kernel
set_option maxRecDepth 100000 in
theorem gok_47 : gmeP gme_47 := gmeP_of (gix_mem (i := 579) (by decide +kernel)) (by decide +kernel) (gall gch_47_0)
set_option maxRecDepth 100000 in
theorem gch_48_0 : gco_48_0.all (gck 5 false (some .int) 3 cX5_beside) = true := by decide +kernel
set_option maxRecDepth 100000 in
theorem gok_48 : gmeP gme_48 := gmeP_of (gix_mem (i := 634) (by decide +kernel)) (by decide +kernel) (gall gch_48_0)
set_option maxRecDepth 100000 in
theorem gch_49_0 : gco_49_0.all (gck 5 false (some .int) 3 cX5_howFar) = true := by decide +kernel
set_option maxRecDepth 100000 in
theorem gok_49 : gmeP gme_49 := gmeP_of (gix_mem (i := 778) (by decide +kernel)) (by decide +kernel) (gall gch_49_0)
set_option maxRecDepth 100000 in
theorem gch_50_0 : gco_50_0.all (gck 5 false (some .int) 3 cX5_barrelsUnder) = true := by decide +kernel
set_option maxRecDepth 100000 in
theorem gok_50 : gmeP gme_50 := gmeP_of (gix_mem (i := 598) (by decide +kernel)) (by decide +kernel) (gall gch_50_0)
set_option maxRecDepth 100000 in
theorem gch_51_0 : gco_51_0.all (gck 5 false (some .int) 4 cX5_oilAmong) = true := by decide +kernel
set_option maxRecDepth 100000 in
theorem gok_51 : gmeP gme_51 := gmeP_of (gix_mem (i := 609) (by decide +kernel)) (by decide +kernel) (gall gch_51_0)
set_option maxRecDepth 100000 in
theorem gch_52_0 : gco_52_0.all (gck 5 false (some .int) 1 cX5_allOil) = true := by decide +kernel
set_option maxRecDepth 100000 in
theorem gok_52 : gmeP gme_52 := gmeP_of (gix_mem (i := 1167) (by decide +kernel)) (by decide +kernel) (gall gch_52_0)
set_option maxRecDepth 100000 in
theorem gch_53_0 : gco_53_0.all (gck 5 false (some .int) 1 cX5_allWater) = true := by decide +kernel
set_option maxRecDepth 100000 in
theorem gok_53 : gmeP gme_53 := gmeP_of (gix_mem (i := 1175) (by decide +kernel)) (by decide +kernel) (gall gch_53_0)
set_option maxRecDepth 100000 in
theorem gch_54_0 : gco_54_0.all (gck 5 false (some .int) 4 cX5_sumOverCells) = true := by decide +kernel
set_option maxRecDepth 100000 in
theorem gok_54 : gmeP gme_54 := gmeP_of (gix_mem (i := 1171) (by decide +kernel)) (by decide +kernel) (gall gch_54_0)
set_option maxRecDepth 100000 in
theorem gch_55_0 : gco_55_0.all (gck 6 true none 1 cX6_init) = true := by decide +kernel
set_option maxRecDepth 100000 in
theorem gok_55 : gmeP gme_55 := gmeP_of (gix_mem (i := 458) (by decide +kernel)) (by decide +kernel) (gall gch_55_0)
set_option maxRecDepth 100000 in
theorem gch_56_0 : gco_56_0.all (gck 6 false none 5 cX6_prepare) = true := by decide +kernel
set_option maxRecDepth 100000 in
theorem gok_56 : gmeP gme_56 := gmeP_of (gix_mem (i := 1021) (by decide +kernel)) (by decide +kernel) (gall gch_56_0)
set_option maxRecDepth 100000 in
theorem gch_57_0 : gco_57_0.all (gck 6 false none 4 cX6_runAll) = true := by decide +kernel
set_option maxRecDepth 100000 in
theorem gok_57 : gmeP gme_57 := gmeP_of (gix_mem (i := 1061) (by decide +kernel)) (by decide +kernel) (gall gch_57_0)
