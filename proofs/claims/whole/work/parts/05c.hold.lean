/-! ===== the code is the bytes' own (by program) ===== -/
set_option maxRecDepth 100000 in
theorem gch_113_0 : gco_113_0.all (gck 11 false (some .int) 1 cX11_hour) = true := by decide +kernel
set_option maxRecDepth 100000 in
theorem gok_113 : gmeP gme_113 := gmeP_of (gix_mem (i := 586) (by decide +kernel)) (by decide +kernel) (gall gch_113_0)
set_option maxRecDepth 100000 in
theorem gch_114_0 : gco_114_0.all (gck 11 false (some .int) 1 cX11_person) = true := by decide +kernel
set_option maxRecDepth 100000 in
theorem gok_114 : gmeP gme_114 := gmeP_of (gix_mem (i := 658) (by decide +kernel)) (by decide +kernel) (gall gch_114_0)
set_option maxRecDepth 100000 in
theorem gch_115_0 : gco_115_0.all (gck 11 false (some .int) 4 cX11_owner) = true := by decide +kernel
set_option maxRecDepth 100000 in
theorem gok_115 : gmeP gme_115 := gmeP_of (gix_mem (i := 662) (by decide +kernel)) (by decide +kernel) (gall gch_115_0)
set_option maxRecDepth 100000 in
theorem gch_116_0 : gco_116_0.all (gck 11 false (some .int) 5 cX11_lease) = true := by decide +kernel
set_option maxRecDepth 100000 in
theorem gok_116 : gmeP gme_116 := gmeP_of (gix_mem (i := 670) (by decide +kernel)) (by decide +kernel) (gall gch_116_0)
set_option maxRecDepth 100000 in
theorem gch_117_0 : gco_117_0.all (gck 11 false (some .int) 4 cX11_leaseOf) = true := by decide +kernel
set_option maxRecDepth 100000 in
theorem gok_117 : gmeP gme_117 := gmeP_of (gix_mem (i := 678) (by decide +kernel)) (by decide +kernel) (gall gch_117_0)
set_option maxRecDepth 100000 in
theorem gch_118_0 : gco_118_0.all (gck 11 false (some .int) 2 cX11_holds) = true := by decide +kernel
set_option maxRecDepth 100000 in
theorem gok_118 : gmeP gme_118 := gmeP_of (gix_mem (i := 690) (by decide +kernel)) (by decide +kernel) (gall gch_118_0)
set_option maxRecDepth 100000 in
theorem gch_119_0 : gco_119_0.all (gck 11 false (some .int) 5 cX11_told) = true := by decide +kernel
set_option maxRecDepth 100000 in
theorem gch_119_1 : gco_119_1.all (gck 11 false (some .int) 5 cX11_told) = true := by decide +kernel
set_option maxRecDepth 100000 in
theorem gok_119 : gmeP gme_119 := gmeP_of (gix_mem (i := 699) (by decide +kernel)) (by decide +kernel) (gapp (gall gch_119_0) (gall gch_119_1))
set_option maxRecDepth 100000 in
theorem gch_120_0 : gco_120_0.all (gck 11 false (some .int) 4 cX11_drill) = true := by decide +kernel
set_option maxRecDepth 100000 in
theorem gok_120 : gmeP gme_120 := gmeP_of (gix_mem (i := 752) (by decide +kernel)) (by decide +kernel) (gall gch_120_0)
set_option maxRecDepth 100000 in
theorem gch_121_0 : gco_121_0.all (gck 11 false (some .int) 3 cX11_why) = true := by decide +kernel
set_option maxRecDepth 100000 in
theorem gok_121 : gmeP gme_121 := gmeP_of (gix_mem (i := 796) (by decide +kernel)) (by decide +kernel) (gall gch_121_0)
set_option maxRecDepth 100000 in
theorem gch_122_0 : gco_122_0.all (gck 11 false (some .int) 4 cX11_will) = true := by decide +kernel
set_option maxRecDepth 100000 in
theorem gok_122 : gmeP gme_122 := gmeP_of (gix_mem (i := 800) (by decide +kernel)) (by decide +kernel) (gall gch_122_0)
set_option maxRecDepth 100000 in
theorem gch_123_0 : gco_123_0.all (gck 11 false (some .int) 4 cX11_open) = true := by decide +kernel
set_option maxRecDepth 100000 in
theorem gok_123 : gmeP gme_123 := gmeP_of (gix_mem (i := 808) (by decide +kernel)) (by decide +kernel) (gall gch_123_0)
set_option maxRecDepth 100000 in
theorem gch_124_0 : gco_124_0.all (gck 11 false (some .int) 4 cX11_wellOf) = true := by decide +kernel
set_option maxRecDepth 100000 in
theorem gch_124_1 : gco_124_1.all (gck 11 false (some .int) 4 cX11_wellOf) = true := by decide +kernel
set_option maxRecDepth 100000 in
theorem gok_124 : gmeP gme_124 := gmeP_of (gix_mem (i := 812) (by decide +kernel)) (by decide +kernel) (gapp (gall gch_124_0) (gall gch_124_1))
set_option maxRecDepth 100000 in
theorem gch_125_0 : gco_125_0.all (gck 11 false (some .int) 4 cX11_drew) = true := by decide +kernel
set_option maxRecDepth 100000 in
theorem gok_125 : gmeP gme_125 := gmeP_of (gix_mem (i := 817) (by decide +kernel)) (by decide +kernel) (gall gch_125_0)
set_option maxRecDepth 100000 in
theorem gch_126_0 : gco_126_0.all (gck 11 false (some .int) 3 cX11_sell) = true := by decide +kernel
set_option maxRecDepth 100000 in
theorem gok_126 : gmeP gme_126 := gmeP_of (gix_mem (i := 823) (by decide +kernel)) (by decide +kernel) (gall gch_126_0)
set_option maxRecDepth 100000 in
theorem gch_127_0 : gco_127_0.all (gck 11 false (some .int) 2 cX11_price) = true := by decide +kernel
set_option maxRecDepth 100000 in
theorem gok_127 : gmeP gme_127 := gmeP_of (gix_mem (i := 837) (by decide +kernel)) (by decide +kernel) (gall gch_127_0)
set_option maxRecDepth 100000 in
theorem gch_128_0 : gco_128_0.all (gck 11 false (some .int) 3 cX11_feed) = true := by decide +kernel
set_option maxRecDepth 100000 in
theorem gok_128 : gmeP gme_128 := gmeP_of (gix_mem (i := 842) (by decide +kernel)) (by decide +kernel) (gall gch_128_0)
set_option maxRecDepth 100000 in
theorem gch_129_0 : gco_129_0.all (gck 11 false (some .int) 3 cX11_end) = true := by decide +kernel
set_option maxRecDepth 100000 in
theorem gok_129 : gmeP gme_129 := gmeP_of (gix_mem (i := 850) (by decide +kernel)) (by decide +kernel) (gall gch_129_0)
set_option maxRecDepth 100000 in
theorem gch_130_0 : gco_130_0.all (gck 11 false (some .int) 1 cX11_orders) = true := by decide +kernel
set_option maxRecDepth 100000 in
theorem gok_130 : gmeP gme_130 := gmeP_of (gix_mem (i := 854) (by decide +kernel)) (by decide +kernel) (gall gch_130_0)
set_option maxRecDepth 100000 in
theorem gch_131_0 : gco_131_0.all (gck 11 false (some .int) 1 cX11_fault) = true := by decide +kernel
set_option maxRecDepth 100000 in
theorem gok_131 : gmeP gme_131 := gmeP_of (gix_mem (i := 981) (by decide +kernel)) (by decide +kernel) (gall gch_131_0)
set_option maxRecDepth 100000 in
theorem gch_132_0 : gco_132_0.all (gck 11 false (some .int) 3 cX11_line) = true := by decide +kernel
set_option maxRecDepth 100000 in
theorem gok_132 : gmeP gme_132 := gmeP_of (gix_mem (i := 985) (by decide +kernel)) (by decide +kernel) (gall gch_132_0)
set_option maxRecDepth 100000 in
theorem gch_133_0 : gco_133_0.all (gck 11 false (some .int) 3 cX11_voids) = true := by decide +kernel
set_option maxRecDepth 100000 in
theorem gok_133 : gmeP gme_133 := gmeP_of (gix_mem (i := 989) (by decide +kernel)) (by decide +kernel) (gall gch_133_0)
set_option maxRecDepth 100000 in
theorem gch_134_0 : gco_134_0.all (gck 11 false (some .int) 8 cX11_lets) = true := by decide +kernel
set_option maxRecDepth 100000 in
theorem gch_134_1 : gco_134_1.all (gck 11 false (some .int) 8 cX11_lets) = true := by decide +kernel
set_option maxRecDepth 100000 in
theorem gok_134 : gmeP gme_134 := gmeP_of (gix_mem (i := 999) (by decide +kernel)) (by decide +kernel) (gapp (gall gch_134_0) (gall gch_134_1))
set_option maxRecDepth 100000 in
theorem gch_135_0 : gco_135_0.all (gck 11 false (some .int) 4 cX11_spot) = true := by decide +kernel
set_option maxRecDepth 100000 in
theorem gok_135 : gmeP gme_135 := gmeP_of (gix_mem (i := 1005) (by decide +kernel)) (by decide +kernel) (gall gch_135_0)
set_option maxRecDepth 100000 in
theorem gch_136_0 : gco_136_0.all (gck 11 false (some .int) 7 cX11_gain) = true := by decide +kernel
set_option maxRecDepth 100000 in
theorem gok_136 : gmeP gme_136 := gmeP_of (gix_mem (i := 1009) (by decide +kernel)) (by decide +kernel) (gall gch_136_0)
set_option maxRecDepth 100000 in
theorem gch_137_0 : gco_137_0.all (gck 11 false (some .int) 6 cX11_steady) = true := by decide +kernel
set_option maxRecDepth 100000 in
theorem gok_137 : gmeP gme_137 := gmeP_of (gix_mem (i := 1057) (by decide +kernel)) (by decide +kernel) (gall gch_137_0)
set_option maxRecDepth 100000 in
theorem gch_138_0 : gco_138_0.all (gck 11 false (some .int) 6 cX11_must) = true := by decide +kernel
set_option maxRecDepth 100000 in
theorem gok_138 : gmeP gme_138 := gmeP_of (gix_mem (i := 1087) (by decide +kernel)) (by decide +kernel) (gall gch_138_0)
set_option maxRecDepth 100000 in
theorem gch_139_0 : gco_139_0.all (gck 11 false (some .int) 2 cX11_keep) = true := by decide +kernel
set_option maxRecDepth 100000 in
theorem gok_139 : gmeP gme_139 := gmeP_of (gix_mem (i := 1095) (by decide +kernel)) (by decide +kernel) (gall gch_139_0)
set_option maxRecDepth 100000 in
theorem gch_140_0 : gco_140_0.all (gck 11 false (some .int) 3 cX11_stand) = true := by decide +kernel
set_option maxRecDepth 100000 in
theorem gok_140 : gmeP gme_140 := gmeP_of (gix_mem (i := 1124) (by decide +kernel)) (by decide +kernel) (gall gch_140_0)
set_option maxRecDepth 100000 in
theorem gch_141_0 : gco_141_0.all (gck 11 false (some .int) 4 cX11_sheet) = true := by decide +kernel
set_option maxRecDepth 100000 in
theorem gok_141 : gmeP gme_141 := gmeP_of (gix_mem (i := 1128) (by decide +kernel)) (by decide +kernel) (gall gch_141_0)
set_option maxRecDepth 100000 in
theorem gch_142_0 : gco_142_0.all (gck 11 false (some .int) 5 cX11_write) = true := by decide +kernel
set_option maxRecDepth 100000 in
theorem gok_142 : gmeP gme_142 := gmeP_of (gix_mem (i := 1143) (by decide +kernel)) (by decide +kernel) (gall gch_142_0)
set_option maxRecDepth 100000 in
theorem gch_143_0 : gco_143_0.all (gck 11 false (some .int) 6 cX11_scan) = true := by decide +kernel
set_option maxRecDepth 100000 in
theorem gok_143 : gmeP gme_143 := gmeP_of (gix_mem (i := 1151) (by decide +kernel)) (by decide +kernel) (gall gch_143_0)
set_option maxRecDepth 100000 in
theorem gch_144_0 : gco_144_0.all (gck 11 false (some .int) 2 cX11_count) = true := by decide +kernel
set_option maxRecDepth 100000 in
theorem gch_144_1 : gco_144_1.all (gck 11 false (some .int) 2 cX11_count) = true := by decide +kernel
set_option maxRecDepth 100000 in
theorem gok_144 : gmeP gme_144 := gmeP_of (gix_mem (i := 1163) (by decide +kernel)) (by decide +kernel) (gapp (gall gch_144_0) (gall gch_144_1))
set_option maxRecDepth 100000 in
theorem gch_145_0 : gco_145_0.all (gck 11 false (some .boolean) 2 cX11_within) = true := by decide +kernel
set_option maxRecDepth 100000 in
theorem gok_145 : gmeP gme_145 := gmeP_of (gix_mem (i := 560) (by decide +kernel)) (by decide +kernel) (gall gch_145_0)
set_option maxRecDepth 100000 in
theorem gch_146_0 : gco_146_0.all (gck 11 false (some .boolean) 1 cX11_isLot) = true := by decide +kernel
set_option maxRecDepth 100000 in
theorem gok_146 : gmeP gme_146 := gmeP_of (gix_mem (i := 571) (by decide +kernel)) (by decide +kernel) (gall gch_146_0)
set_option maxRecDepth 100000 in
theorem gch_147_0 : gco_147_0.all (gck 11 false (some .boolean) 1 cX11_isByLot) = true := by decide +kernel
set_option maxRecDepth 100000 in
theorem gok_147 : gmeP gme_147 := gmeP_of (gix_mem (i := 582) (by decide +kernel)) (by decide +kernel) (gall gch_147_0)
set_option maxRecDepth 100000 in
theorem gch_148_0 : gco_148_0.all (gck 11 false (some .boolean) 1 cX11_isSheet) = true := by decide +kernel
set_option maxRecDepth 100000 in
theorem gok_148 : gmeP gme_148 := gmeP_of (gix_mem (i := 1131) (by decide +kernel)) (by decide +kernel) (gall gch_148_0)
set_option maxRecDepth 100000 in
theorem gch_149_0 : gco_149_0.all (gck 11 false (some .boolean) 1 cX11_isLane) = true := by decide +kernel
set_option maxRecDepth 100000 in
theorem gok_149 : gmeP gme_149 := gmeP_of (gix_mem (i := 1134) (by decide +kernel)) (by decide +kernel) (gall gch_149_0)
set_option maxRecDepth 100000 in
theorem gch_150_0 : gco_150_0.all (gck 11 false (some .boolean) 2 cX11_hasCell) = true := by decide +kernel
set_option maxRecDepth 100000 in
theorem gok_150 : gmeP gme_150 := gmeP_of (gix_mem (i := 553) (by decide +kernel)) (by decide +kernel) (gall gch_150_0)
set_option maxRecDepth 100000 in
theorem gch_151_0 : gco_151_0.all (gck 11 false (some .boolean) 2 cX11_isPerson) = true := by decide +kernel
set_option maxRecDepth 100000 in
theorem gok_151 : gmeP gme_151 := gmeP_of (gix_mem (i := 666) (by decide +kernel)) (by decide +kernel) (gall gch_151_0)
set_option maxRecDepth 100000 in
theorem gch_152_0 : gco_152_0.all (gck 11 false (some .boolean) 2 cX11_isWell) = true := by decide +kernel
set_option maxRecDepth 100000 in
theorem gok_152 : gmeP gme_152 := gmeP_of (gix_mem (i := 804) (by decide +kernel)) (by decide +kernel) (gall gch_152_0)
set_option maxRecDepth 100000 in
theorem gch_153_0 : gco_153_0.all (gck 11 false (some .boolean) 5 cX11_isRace) = true := by decide +kernel
set_option maxRecDepth 100000 in
theorem gok_153 : gmeP gme_153 := gmeP_of (gix_mem (i := 1013) (by decide +kernel)) (by decide +kernel) (gall gch_153_0)
set_option maxRecDepth 100000 in
theorem gch_154_0 : gco_154_0.all (gck 11 false (some .boolean) 3 cX11_haveSpots) = true := by decide +kernel
set_option maxRecDepth 100000 in
theorem gok_154 : gmeP gme_154 := gmeP_of (gix_mem (i := 1017) (by decide +kernel)) (by decide +kernel) (gall gch_154_0)
set_option maxRecDepth 100000 in
theorem gch_155_0 : gco_155_0.all (gck 11 false none 5 cX11_tellOilFrom) = true := by decide +kernel
set_option maxRecDepth 100000 in
theorem gok_155 : gmeP gme_155 := gmeP_of (gix_mem (i := 1159) (by decide +kernel)) (by decide +kernel) (gall gch_155_0)
