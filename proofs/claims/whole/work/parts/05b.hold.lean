/-! ===== the code is the bytes' own (by program) ===== -/
set_option maxRecDepth 100000 in
theorem gch_58_0 : gco_58_0.all (gck 6 false none 5 cX6_run) = true := by decide +kernel
set_option maxRecDepth 100000 in
theorem gch_58_1 : gco_58_1.all (gck 6 false none 5 cX6_run) = true := by decide +kernel
set_option maxRecDepth 100000 in
theorem gok_58 : gmeP gme_58 := gmeP_of (gix_mem (i := 1025) (by decide +kernel)) (by decide +kernel) (gapp (gall gch_58_0) (gall gch_58_1))
set_option maxRecDepth 100000 in
theorem gch_59_0 : gco_59_0.all (gck 6 false none 5 cX6_drawAll) = true := by decide +kernel
set_option maxRecDepth 100000 in
theorem gok_59 : gmeP gme_59 := gmeP_of (gix_mem (i := 1035) (by decide +kernel)) (by decide +kernel) (gall gch_59_0)
set_option maxRecDepth 100000 in
theorem gch_60_0 : gco_60_0.all (gck 6 false (some .int) 5 cX6_drawFrom) = true := by decide +kernel
set_option maxRecDepth 100000 in
theorem gok_60 : gmeP gme_60 := gmeP_of (gix_mem (i := 1039) (by decide +kernel)) (by decide +kernel) (gall gch_60_0)
set_option maxRecDepth 100000 in
theorem gch_61_0 : gco_61_0.all (gck 6 false (some .boolean) 2 cX6_drills) = true := by decide +kernel
set_option maxRecDepth 100000 in
theorem gok_61 : gmeP gme_61 := gmeP_of (gix_mem (i := 1044) (by decide +kernel)) (by decide +kernel) (gall gch_61_0)
set_option maxRecDepth 100000 in
theorem gch_62_0 : gco_62_0.all (gck 6 false (some .int) 3 cX6_gainOf) = true := by decide +kernel
set_option maxRecDepth 100000 in
theorem gok_62 : gmeP gme_62 := gmeP_of (gix_mem (i := 1053) (by decide +kernel)) (by decide +kernel) (gall gch_62_0)
set_option maxRecDepth 100000 in
theorem gch_63_0 : gco_63_0.all (gck 6 false (some .int) 4 cX6_sumOf) = true := by decide +kernel
set_option maxRecDepth 100000 in
theorem gok_63 : gmeP gme_63 := gmeP_of (gix_mem (i := 1083) (by decide +kernel)) (by decide +kernel) (gall gch_63_0)
set_option maxRecDepth 100000 in
theorem gch_64_0 : gco_64_0.all (gck 6 false (some .boolean) 3 cX6_isSteady) = true := by decide +kernel
set_option maxRecDepth 100000 in
theorem gok_64 : gmeP gme_64 := gmeP_of (gix_mem (i := 1070) (by decide +kernel)) (by decide +kernel) (gall gch_64_0)
set_option maxRecDepth 100000 in
theorem gch_65_0 : gco_65_0.all (gck 6 false (some .int) 3 cX6_steadySets) = true := by decide +kernel
set_option maxRecDepth 100000 in
theorem gok_65 : gmeP gme_65 := gmeP_of (gix_mem (i := 1066) (by decide +kernel)) (by decide +kernel) (gall gch_65_0)
set_option maxRecDepth 100000 in
theorem gch_66_0 : gco_66_0.all (gck 6 false (some .int) 2 cX6_leastSteady) = true := by decide +kernel
set_option maxRecDepth 100000 in
theorem gok_66 : gmeP gme_66 := gmeP_of (gix_mem (i := 1075) (by decide +kernel)) (by decide +kernel) (gall gch_66_0)
set_option maxRecDepth 100000 in
theorem gch_67_0 : gco_67_0.all (gck 6 false (some .int) 4 cX6_richest) = true := by decide +kernel
set_option maxRecDepth 100000 in
theorem gok_67 : gmeP gme_67 := gmeP_of (gix_mem (i := 1079) (by decide +kernel)) (by decide +kernel) (gall gch_67_0)
set_option maxRecDepth 100000 in
theorem gch_68_0 : gco_68_0.all (gck 6 false (some .int) 6 cX6_urgeOf) = true := by decide +kernel
set_option maxRecDepth 100000 in
theorem gch_68_1 : gco_68_1.all (gck 6 false (some .int) 6 cX6_urgeOf) = true := by decide +kernel
set_option maxRecDepth 100000 in
theorem gok_68 : gmeP gme_68 := gmeP_of (gix_mem (i := 1091) (by decide +kernel)) (by decide +kernel) (gapp (gall gch_68_0) (gall gch_68_1))
set_option maxRecDepth 100000 in
theorem gch_69_0 : gco_69_0.all (gck 7 true none 1 cX7_init) = true := by decide +kernel
set_option maxRecDepth 100000 in
theorem gok_69 : gmeP gme_69 := gmeP_of (gix_mem (i := 495) (by decide +kernel)) (by decide +kernel) (gall gch_69_0)
set_option maxRecDepth 100000 in
theorem gch_70_0 : gco_70_0.all (gck 7 false none 3 cX7_becomeNew) = true := by decide +kernel
set_option maxRecDepth 100000 in
theorem gok_70 : gmeP gme_70 := gmeP_of (gix_mem (i := 1138) (by decide +kernel)) (by decide +kernel) (gall gch_70_0)
set_option maxRecDepth 100000 in
theorem gch_71_0 : gco_71_0.all (gck 7 false none 3 cX7_put) = true := by decide +kernel
set_option maxRecDepth 100000 in
theorem gok_71 : gmeP gme_71 := gmeP_of (gix_mem (i := 1147) (by decide +kernel)) (by decide +kernel) (gall gch_71_0)
set_option maxRecDepth 100000 in
theorem gch_72_0 : gco_72_0.all (gck 7 false (some .int) 6 cX7_sumOf) = true := by decide +kernel
set_option maxRecDepth 100000 in
theorem gok_72 : gmeP gme_72 := gmeP_of (gix_mem (i := 1155) (by decide +kernel)) (by decide +kernel) (gall gch_72_0)
set_option maxRecDepth 100000 in
theorem gch_73_0 : gco_73_0.all (gck 8 true none 1 cX8_init) = true := by decide +kernel
set_option maxRecDepth 100000 in
theorem gok_73 : gmeP gme_73 := gmeP_of (gix_mem (i := 357) (by decide +kernel)) (by decide +kernel) (gall gch_73_0)
set_option maxRecDepth 100000 in
theorem gch_74_0 : gco_74_0.all (gck 8 false (some .int) 4 cX8_add) = true := by decide +kernel
set_option maxRecDepth 100000 in
theorem gok_74 : gmeP gme_74 := gmeP_of (gix_mem (i := 846) (by decide +kernel)) (by decide +kernel) (gall gch_74_0)
set_option maxRecDepth 100000 in
theorem gch_75_0 : gco_75_0.all (gck 8 false none 3 cX8_read) = true := by decide +kernel
set_option maxRecDepth 100000 in
theorem gok_75 : gmeP gme_75 := gmeP_of (gix_mem (i := 858) (by decide +kernel)) (by decide +kernel) (gall gch_75_0)
set_option maxRecDepth 100000 in
theorem gch_76_0 : gco_76_0.all (gck 8 false (some .int) 2 cX8_readFrom) = true := by decide +kernel
set_option maxRecDepth 100000 in
theorem gok_76 : gmeP gme_76 := gmeP_of (gix_mem (i := 946) (by decide +kernel)) (by decide +kernel) (gall gch_76_0)
set_option maxRecDepth 100000 in
theorem gch_77_0 : gco_77_0.all (gck 8 false none 4 cX8_readRule) = true := by decide +kernel
set_option maxRecDepth 100000 in
theorem gch_77_1 : gco_77_1.all (gck 8 false none 4 cX8_readRule) = true := by decide +kernel
set_option maxRecDepth 100000 in
theorem gok_77 : gmeP gme_77 := gmeP_of (gix_mem (i := 954) (by decide +kernel)) (by decide +kernel) (gapp (gall gch_77_0) (gall gch_77_1))
set_option maxRecDepth 100000 in
theorem gch_78_0 : gco_78_0.all (gck 8 false none 2 cX8_checkNumber) = true := by decide +kernel
set_option maxRecDepth 100000 in
theorem gok_78 : gmeP gme_78 := gmeP_of (gix_mem (i := 950) (by decide +kernel)) (by decide +kernel) (gall gch_78_0)
set_option maxRecDepth 100000 in
theorem gch_79_0 : gco_79_0.all (gck 8 false (some .int) 1 cX8_mostOf) = true := by decide +kernel
set_option maxRecDepth 100000 in
theorem gok_79 : gmeP gme_79 := gmeP_of (gix_mem (i := 961) (by decide +kernel)) (by decide +kernel) (gall gch_79_0)
set_option maxRecDepth 100000 in
theorem gch_80_0 : gco_80_0.all (gck 8 false none 2 cX8_fail) = true := by decide +kernel
set_option maxRecDepth 100000 in
theorem gok_80 : gmeP gme_80 := gmeP_of (gix_mem (i := 935) (by decide +kernel)) (by decide +kernel) (gall gch_80_0)
set_option maxRecDepth 100000 in
theorem gch_81_0 : gco_81_0.all (gck 8 false none 1 cX8_nextToken) = true := by decide +kernel
set_option maxRecDepth 100000 in
theorem gch_81_1 : gco_81_1.all (gck 8 false none 1 cX8_nextToken) = true := by decide +kernel
set_option maxRecDepth 100000 in
theorem gok_81 : gmeP gme_81 := gmeP_of (gix_mem (i := 862) (by decide +kernel)) (by decide +kernel) (gapp (gall gch_81_0) (gall gch_81_1))
set_option maxRecDepth 100000 in
theorem gch_82_0 : gco_82_0.all (gck 8 false none 2 cX8_readName) = true := by decide +kernel
set_option maxRecDepth 100000 in
theorem gok_82 : gmeP gme_82 := gmeP_of (gix_mem (i := 869) (by decide +kernel)) (by decide +kernel) (gall gch_82_0)
set_option maxRecDepth 100000 in
theorem gch_83_0 : gco_83_0.all (gck 8 false none 1 cX8_readFigures) = true := by decide +kernel
set_option maxRecDepth 100000 in
theorem gok_83 : gmeP gme_83 := gmeP_of (gix_mem (i := 942) (by decide +kernel)) (by decide +kernel) (gall gch_83_0)
set_option maxRecDepth 100000 in
theorem gch_84_0 : gco_84_0.all (gck 8 false (some .boolean) 3 cX8_isSpelt) = true := by decide +kernel
set_option maxRecDepth 100000 in
theorem gok_84 : gmeP gme_84 := gmeP_of (gix_mem (i := 883) (by decide +kernel)) (by decide +kernel) (gall gch_84_0)
set_option maxRecDepth 100000 in
theorem gch_85_0 : gco_85_0.all (gck 8 false (some (.object "java/lang/String")) 1 cX8_nameOf) = true := by decide +kernel
set_option maxRecDepth 100000 in
theorem gok_85 : gmeP gme_85 := gmeP_of (gix_mem (i := 872) (by decide +kernel)) (by decide +kernel) (gall gch_85_0)
set_option maxRecDepth 100000 in
theorem gch_86_0 : gco_86_0.all (gck 8 false (some .boolean) 1 cX8_isLetter) = true := by decide +kernel
set_option maxRecDepth 100000 in
theorem gok_86 : gmeP gme_86 := gmeP_of (gix_mem (i := 865) (by decide +kernel)) (by decide +kernel) (gall gch_86_0)
set_option maxRecDepth 100000 in
theorem gch_87_0 : gco_87_0.all (gck 8 false (some .boolean) 1 cX8_isFigure) = true := by decide +kernel
set_option maxRecDepth 100000 in
theorem gok_87 : gmeP gme_87 := gmeP_of (gix_mem (i := 938) (by decide +kernel)) (by decide +kernel) (gall gch_87_0)
set_option maxRecDepth 100000 in
theorem gch_88_0 : gco_88_0.all (gck 9 true none 1 cX9_init) = true := by decide +kernel
set_option maxRecDepth 100000 in
theorem gok_88 : gmeP gme_88 := gmeP_of (gix_mem (i := 103) (by decide +kernel)) (by decide +kernel) (gall gch_88_0)
set_option maxRecDepth 100000 in
theorem gch_89_0 : gco_89_0.all (gck 9 false none 3 cX9_becomeNew) = true := by decide +kernel
set_option maxRecDepth 100000 in
theorem gok_89 : gmeP gme_89 := gmeP_of (gix_mem (i := 299) (by decide +kernel)) (by decide +kernel) (gall gch_89_0)
set_option maxRecDepth 100000 in
theorem gch_90_0 : gco_90_0.all (gck 9 false none 2 cX9_copyFrom) = true := by decide +kernel
set_option maxRecDepth 100000 in
theorem gok_90 : gmeP gme_90 := gmeP_of (gix_mem (i := 1099) (by decide +kernel)) (by decide +kernel) (gall gch_90_0)
set_option maxRecDepth 100000 in
theorem gch_91_0 : gco_91_0.all (gck 9 false (some .int) 1 cX9_shift) = true := by decide +kernel
set_option maxRecDepth 100000 in
theorem gok_91 : gmeP gme_91 := gmeP_of (gix_mem (i := 617) (by decide +kernel)) (by decide +kernel) (gall gch_91_0)
set_option maxRecDepth 100000 in
theorem gch_92_0 : gco_92_0.all (gck 9 false (some .int) 4 cX9_letHourGo) = true := by decide +kernel
set_option maxRecDepth 100000 in
theorem gok_92 : gmeP gme_92 := gmeP_of (gix_mem (i := 590) (by decide +kernel)) (by decide +kernel) (gall gch_92_0)
set_option maxRecDepth 100000 in
theorem gch_93_0 : gco_93_0.all (gck 9 false (some .int) 6 cX9_drawBy) = true := by decide +kernel
set_option maxRecDepth 100000 in
theorem gch_93_1 : gco_93_1.all (gck 9 false (some .int) 6 cX9_drawBy) = true := by decide +kernel
set_option maxRecDepth 100000 in
theorem gok_93 : gmeP gme_93 := gmeP_of (gix_mem (i := 594) (by decide +kernel)) (by decide +kernel) (gapp (gall gch_93_0) (gall gch_93_1))
set_option maxRecDepth 100000 in
theorem gch_94_0 : gco_94_0.all (gck 9 false (some .boolean) 2 cX9_hasEnded) = true := by decide +kernel
set_option maxRecDepth 100000 in
theorem gok_94 : gmeP gme_94 := gmeP_of (gix_mem (i := 682) (by decide +kernel)) (by decide +kernel) (gall gch_94_0)
set_option maxRecDepth 100000 in
theorem gch_95_0 : gco_95_0.all (gck 9 false (some .boolean) 4 cX9_hasWellOn) = true := by decide +kernel
set_option maxRecDepth 100000 in
theorem gok_95 : gmeP gme_95 := gmeP_of (gix_mem (i := 686) (by decide +kernel)) (by decide +kernel) (gall gch_95_0)
set_option maxRecDepth 100000 in
theorem gch_96_0 : gco_96_0.all (gck 9 false (some .int) 4 cX9_holderOf) = true := by decide +kernel
set_option maxRecDepth 100000 in
theorem gok_96 : gmeP gme_96 := gmeP_of (gix_mem (i := 694) (by decide +kernel)) (by decide +kernel) (gall gch_96_0)
set_option maxRecDepth 100000 in
theorem gch_97_0 : gco_97_0.all (gck 9 false (some .int) 4 cX9_wellsOn) = true := by decide +kernel
set_option maxRecDepth 100000 in
theorem gok_97 : gmeP gme_97 := gmeP_of (gix_mem (i := 735) (by decide +kernel)) (by decide +kernel) (gall gch_97_0)
set_option maxRecDepth 100000 in
theorem gch_98_0 : gco_98_0.all (gck 9 false (some .int) 4 cX9_nearestWellFrom) = true := by decide +kernel
set_option maxRecDepth 100000 in
theorem gok_98 : gmeP gme_98 := gmeP_of (gix_mem (i := 786) (by decide +kernel)) (by decide +kernel) (gall gch_98_0)
set_option maxRecDepth 100000 in
theorem gch_99_0 : gco_99_0.all (gck 9 false (some .int) 5 cX9_shareByAcres) = true := by decide +kernel
set_option maxRecDepth 100000 in
theorem gok_99 : gmeP gme_99 := gmeP_of (gix_mem (i := 731) (by decide +kernel)) (by decide +kernel) (gall gch_99_0)
set_option maxRecDepth 100000 in
theorem gch_100_0 : gco_100_0.all (gck 10 true none 1 cX10_init) = true := by decide +kernel
set_option maxRecDepth 100000 in
theorem gok_100 : gmeP gme_100 := gmeP_of (gix_mem (i := 220) (by decide +kernel)) (by decide +kernel) (gall gch_100_0)
set_option maxRecDepth 100000 in
theorem gch_101_0 : gco_101_0.all (gck 10 false none 1 cX10_clear) = true := by decide +kernel
set_option maxRecDepth 100000 in
theorem gok_101 : gmeP gme_101 := gmeP_of (gix_mem (i := 320) (by decide +kernel)) (by decide +kernel) (gall gch_101_0)
set_option maxRecDepth 100000 in
theorem gch_102_0 : gco_102_0.all (gck 10 false none 3 cX10_copyFrom) = true := by decide +kernel
set_option maxRecDepth 100000 in
theorem gch_102_1 : gco_102_1.all (gck 10 false none 3 cX10_copyFrom) = true := by decide +kernel
set_option maxRecDepth 100000 in
theorem gok_102 : gmeP gme_102 := gmeP_of (gix_mem (i := 1114) (by decide +kernel)) (by decide +kernel) (gapp (gall gch_102_0) (gall gch_102_1))
set_option maxRecDepth 100000 in
theorem gch_103_0 : gco_103_0.all (gck 10 false (some .int) 4 cX10_add) = true := by decide +kernel
set_option maxRecDepth 100000 in
theorem gok_103 : gmeP gme_103 := gmeP_of (gix_mem (i := 792) (by decide +kernel)) (by decide +kernel) (gall gch_103_0)
set_option maxRecDepth 100000 in
theorem gch_104_0 : gco_104_0.all (gck 10 false none 6 cX10_noteDraw) = true := by decide +kernel
set_option maxRecDepth 100000 in
theorem gok_104 : gmeP gme_104 := gmeP_of (gix_mem (i := 621) (by decide +kernel)) (by decide +kernel) (gall gch_104_0)
set_option maxRecDepth 100000 in
theorem gch_105_0 : gco_105_0.all (gck 10 false (some .int) 4 cX10_sizeOf) = true := by decide +kernel
set_option maxRecDepth 100000 in
theorem gok_105 : gmeP gme_105 := gmeP_of (gix_mem (i := 703) (by decide +kernel)) (by decide +kernel) (gall gch_105_0)
set_option maxRecDepth 100000 in
theorem gch_106_0 : gco_106_0.all (gck 10 false (some .int) 4 cX10_oilOf) = true := by decide +kernel
set_option maxRecDepth 100000 in
theorem gok_106 : gmeP gme_106 := gmeP_of (gix_mem (i := 707) (by decide +kernel)) (by decide +kernel) (gall gch_106_0)
set_option maxRecDepth 100000 in
theorem gch_107_0 : gco_107_0.all (gck 10 false (some .int) 5 cX10_oilOfLot) = true := by decide +kernel
set_option maxRecDepth 100000 in
theorem gok_107 : gmeP gme_107 := gmeP_of (gix_mem (i := 748) (by decide +kernel)) (by decide +kernel) (gall gch_107_0)
set_option maxRecDepth 100000 in
theorem gch_108_0 : gco_108_0.all (gck 11 true none 2 cX11_init) = true := by decide +kernel
set_option maxRecDepth 100000 in
theorem gok_108 : gmeP gme_108 := gmeP_of (gix_mem (i := 95) (by decide +kernel)) (by decide +kernel) (gall gch_108_0)
set_option maxRecDepth 100000 in
theorem gch_109_0 : gco_109_0.all (gck 11 false (some .int) 3 cX11_field) = true := by decide +kernel
set_option maxRecDepth 100000 in
theorem gok_109 : gmeP gme_109 := gmeP_of (gix_mem (i := 544) (by decide +kernel)) (by decide +kernel) (gall gch_109_0)
set_option maxRecDepth 100000 in
theorem gch_110_0 : gco_110_0.all (gck 11 false (some .int) 7 cX11_cell) = true := by decide +kernel
set_option maxRecDepth 100000 in
theorem gok_110 : gmeP gme_110 := gmeP_of (gix_mem (i := 549) (by decide +kernel)) (by decide +kernel) (gall gch_110_0)
set_option maxRecDepth 100000 in
theorem gch_111_0 : gco_111_0.all (gck 11 false (some .int) 4 cX11_lay) = true := by decide +kernel
set_option maxRecDepth 100000 in
theorem gok_111 : gmeP gme_111 := gmeP_of (gix_mem (i := 568) (by decide +kernel)) (by decide +kernel) (gall gch_111_0)
set_option maxRecDepth 100000 in
theorem gch_112_0 : gco_112_0.all (gck 11 false (some .int) 4 cX11_cellOf) = true := by decide +kernel
set_option maxRecDepth 100000 in
theorem gch_112_1 : gco_112_1.all (gck 11 false (some .int) 4 cX11_cellOf) = true := by decide +kernel
set_option maxRecDepth 100000 in
theorem gok_112 : gmeP gme_112 := gmeP_of (gix_mem (i := 575) (by decide +kernel)) (by decide +kernel) (gapp (gall gch_112_0) (gall gch_112_1))
