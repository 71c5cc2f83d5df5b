/-! ===== the code is the bytes' own (by program) ===== -/
set_option maxRecDepth 100000 in
theorem gch_156_0 : gco_156_0.all (gck 12 true none 1 cX12_init) = true := by decide +kernel
set_option maxRecDepth 100000 in
theorem gch_156_1 : gco_156_1.all (gck 12 true none 1 cX12_init) = true := by decide +kernel
set_option maxRecDepth 100000 in
theorem gch_156_2 : gco_156_2.all (gck 12 true none 1 cX12_init) = true := by decide +kernel
set_option maxRecDepth 100000 in
theorem gch_156_3 : gco_156_3.all (gck 12 true none 1 cX12_init) = true := by decide +kernel
set_option maxRecDepth 100000 in
theorem gch_156_4 : gco_156_4.all (gck 12 true none 1 cX12_init) = true := by decide +kernel
set_option maxRecDepth 100000 in
theorem gch_156_5 : gco_156_5.all (gck 12 true none 1 cX12_init) = true := by decide +kernel
set_option maxRecDepth 100000 in
theorem gch_156_6 : gco_156_6.all (gck 12 true none 1 cX12_init) = true := by decide +kernel
set_option maxRecDepth 100000 in
theorem gch_156_7 : gco_156_7.all (gck 12 true none 1 cX12_init) = true := by decide +kernel
set_option maxRecDepth 100000 in
theorem gch_156_8 : gco_156_8.all (gck 12 true none 1 cX12_init) = true := by decide +kernel
set_option maxRecDepth 100000 in
theorem gch_156_9 : gco_156_9.all (gck 12 true none 1 cX12_init) = true := by decide +kernel
set_option maxRecDepth 100000 in
theorem gch_156_10 : gco_156_10.all (gck 12 true none 1 cX12_init) = true := by decide +kernel
set_option maxRecDepth 100000 in
theorem gch_156_11 : gco_156_11.all (gck 12 true none 1 cX12_init) = true := by decide +kernel
set_option maxRecDepth 100000 in
theorem gch_156_12 : gco_156_12.all (gck 12 true none 1 cX12_init) = true := by decide +kernel
set_option maxRecDepth 100000 in
theorem gok_156 : gmeP gme_156 := gmeP_of (gT_mem (gnth_mem (i := 1191) rfl) rfl) (by decide +kernel) (gapp (gall gch_156_0) (gapp (gall gch_156_1) (gapp (gall gch_156_2) (gapp (gall gch_156_3) (gapp (gall gch_156_4) (gapp (gall gch_156_5) (gapp (gall gch_156_6) (gapp (gall gch_156_7) (gapp (gall gch_156_8) (gapp (gall gch_156_9) (gapp (gall gch_156_10) (gapp (gall gch_156_11) (gall gch_156_12)))))))))))))
set_option maxRecDepth 100000 in
theorem gch_157_0 : gco_157_0.all (gck 12 false (some .boolean) 6 cX12_in) = true := by decide +kernel
set_option maxRecDepth 100000 in
theorem gok_157 : gmeP gme_157 := gmeP_of (gix_mem (i := 1396) (by decide +kernel)) (by decide +kernel) (gall gch_157_0)
set_option maxRecDepth 100000 in
theorem gch_158_0 : gco_158_0.all (gck 12 false (some .int) 1 cX12_cells) = true := by decide +kernel
set_option maxRecDepth 100000 in
theorem gok_158 : gmeP gme_158 := gmeP_of (gix_mem (i := 1408) (by decide +kernel)) (by decide +kernel) (gall gch_158_0)
set_option maxRecDepth 100000 in
theorem gch_159_0 : gco_159_0.all (gck 12 false (some .boolean) 2 cX12_isCell) = true := by decide +kernel
set_option maxRecDepth 100000 in
theorem gok_159 : gmeP gme_159 := gmeP_of (gix_mem (i := 1404) (by decide +kernel)) (by decide +kernel) (gall gch_159_0)
set_option maxRecDepth 100000 in
theorem gch_160_0 : gco_160_0.all (gck 12 false (some .boolean) 1 cX12_isLot) = true := by decide +kernel
set_option maxRecDepth 100000 in
theorem gok_160 : gmeP gme_160 := gmeP_of (gix_mem (i := 1421) (by decide +kernel)) (by decide +kernel) (gall gch_160_0)
set_option maxRecDepth 100000 in
theorem gch_161_0 : gco_161_0.all (gck 12 false (some .boolean) 2 cX12_isPerson) = true := by decide +kernel
set_option maxRecDepth 100000 in
theorem gok_161 : gmeP gme_161 := gmeP_of (gix_mem (i := 1484) (by decide +kernel)) (by decide +kernel) (gall gch_161_0)
set_option maxRecDepth 100000 in
theorem gch_162_0 : gco_162_0.all (gck 12 false (some .boolean) 2 cX12_isWell) = true := by decide +kernel
set_option maxRecDepth 100000 in
theorem gok_162 : gmeP gme_162 := gmeP_of (gix_mem (i := 1562) (by decide +kernel)) (by decide +kernel) (gall gch_162_0)
set_option maxRecDepth 100000 in
theorem gch_163_0 : gco_163_0.all (gck 12 false (some .int) 1 cX12_shift) = true := by decide +kernel
set_option maxRecDepth 100000 in
theorem gok_163 : gmeP gme_163 := gmeP_of (gix_mem (i := 1456) (by decide +kernel)) (by decide +kernel) (gall gch_163_0)
set_option maxRecDepth 100000 in
theorem gch_164_0 : gco_164_0.all (gck 12 false (some .int) 4 cX12_field) = true := by decide +kernel
set_option maxRecDepth 100000 in
theorem gch_164_1 : gco_164_1.all (gck 12 false (some .int) 4 cX12_field) = true := by decide +kernel
set_option maxRecDepth 100000 in
theorem gok_164 : gmeP gme_164 := gmeP_of (gix_mem (i := 1392) (by decide +kernel)) (by decide +kernel) (gapp (gall gch_164_0) (gall gch_164_1))
set_option maxRecDepth 100000 in
theorem gch_165_0 : gco_165_0.all (gck 12 false none 4 cX12_putOil) = true := by decide +kernel
set_option maxRecDepth 100000 in
theorem gok_165 : gmeP gme_165 := gmeP_of (gix_mem (i := 1414) (by decide +kernel)) (by decide +kernel) (gall gch_165_0)
set_option maxRecDepth 100000 in
theorem gch_166_0 : gco_166_0.all (gck 12 false (some .int) 4 cX12_oilOf) = true := by decide +kernel
set_option maxRecDepth 100000 in
theorem gok_166 : gmeP gme_166 := gmeP_of (gix_mem (i := 1432) (by decide +kernel)) (by decide +kernel) (gall gch_166_0)
set_option maxRecDepth 100000 in
theorem gch_167_0 : gco_167_0.all (gck 12 false (some .int) 6 cX12_cell) = true := by decide +kernel
set_option maxRecDepth 100000 in
theorem gok_167 : gmeP gme_167 := gmeP_of (gix_mem (i := 1400) (by decide +kernel)) (by decide +kernel) (gall gch_167_0)
set_option maxRecDepth 100000 in
theorem gch_168_0 : gco_168_0.all (gck 12 false (some .int) 4 cX12_lay) = true := by decide +kernel
set_option maxRecDepth 100000 in
theorem gok_168 : gmeP gme_168 := gmeP_of (gix_mem (i := 1418) (by decide +kernel)) (by decide +kernel) (gall gch_168_0)
set_option maxRecDepth 100000 in
theorem gch_169_0 : gco_169_0.all (gck 12 false (some .int) 2 cX12_pushOf) = true := by decide +kernel
set_option maxRecDepth 100000 in
theorem gok_169 : gmeP gme_169 := gmeP_of (gix_mem (i := 1436) (by decide +kernel)) (by decide +kernel) (gall gch_169_0)
set_option maxRecDepth 100000 in
theorem gch_170_0 : gco_170_0.all (gck 12 false (some .int) 3 cX12_cellOf) = true := by decide +kernel
set_option maxRecDepth 100000 in
theorem gok_170 : gmeP gme_170 := gmeP_of (gix_mem (i := 1426) (by decide +kernel)) (by decide +kernel) (gall gch_170_0)
set_option maxRecDepth 100000 in
theorem gch_171_0 : gco_171_0.all (gck 12 false none 6 cX12_take) = true := by decide +kernel
set_option maxRecDepth 100000 in
theorem gch_171_1 : gco_171_1.all (gck 12 false none 6 cX12_take) = true := by decide +kernel
set_option maxRecDepth 100000 in
theorem gok_171 : gmeP gme_171 := gmeP_of (gix_mem (i := 1452) (by decide +kernel)) (by decide +kernel) (gapp (gall gch_171_0) (gall gch_171_1))
set_option maxRecDepth 100000 in
theorem gch_172_0 : gco_172_0.all (gck 12 false (some .int) 8 cX12_draws) = true := by decide +kernel
set_option maxRecDepth 100000 in
theorem gch_172_1 : gco_172_1.all (gck 12 false (some .int) 8 cX12_draws) = true := by decide +kernel
set_option maxRecDepth 100000 in
theorem gch_172_2 : gco_172_2.all (gck 12 false (some .int) 8 cX12_draws) = true := by decide +kernel
set_option maxRecDepth 100000 in
theorem gok_172 : gmeP gme_172 := gmeP_of (gix_mem (i := 1448) (by decide +kernel)) (by decide +kernel) (gapp (gall gch_172_0) (gapp (gall gch_172_1) (gall gch_172_2)))
set_option maxRecDepth 100000 in
theorem gch_173_0 : gco_173_0.all (gck 12 false (some .int) 5 cX12_beside) = true := by decide +kernel
set_option maxRecDepth 100000 in
theorem gch_173_1 : gco_173_1.all (gck 12 false (some .int) 5 cX12_beside) = true := by decide +kernel
set_option maxRecDepth 100000 in
theorem gok_173 : gmeP gme_173 := gmeP_of (gix_mem (i := 1472) (by decide +kernel)) (by decide +kernel) (gapp (gall gch_173_0) (gall gch_173_1))
set_option maxRecDepth 100000 in
theorem gch_174_0 : gco_174_0.all (gck 12 false (some .int) 5 cX12_wantOf) = true := by decide +kernel
set_option maxRecDepth 100000 in
theorem gok_174 : gmeP gme_174 := gmeP_of (gix_mem (i := 1468) (by decide +kernel)) (by decide +kernel) (gall gch_174_0)
set_option maxRecDepth 100000 in
theorem gch_175_0 : gco_175_0.all (gck 12 false none 9 cX12_flowOf) = true := by decide +kernel
set_option maxRecDepth 100000 in
theorem gch_175_1 : gco_175_1.all (gck 12 false none 9 cX12_flowOf) = true := by decide +kernel
set_option maxRecDepth 100000 in
theorem gch_175_2 : gco_175_2.all (gck 12 false none 9 cX12_flowOf) = true := by decide +kernel
set_option maxRecDepth 100000 in
theorem gok_175 : gmeP gme_175 := gmeP_of (gix_mem (i := 1464) (by decide +kernel)) (by decide +kernel) (gapp (gall gch_175_0) (gapp (gall gch_175_1) (gall gch_175_2)))
set_option maxRecDepth 100000 in
theorem gch_176_0 : gco_176_0.all (gck 12 false none 3 cX12_flows) = true := by decide +kernel
set_option maxRecDepth 100000 in
theorem gch_176_1 : gco_176_1.all (gck 12 false none 3 cX12_flows) = true := by decide +kernel
set_option maxRecDepth 100000 in
theorem gok_176 : gmeP gme_176 := gmeP_of (gix_mem (i := 1460) (by decide +kernel)) (by decide +kernel) (gapp (gall gch_176_0) (gall gch_176_1))
set_option maxRecDepth 100000 in
theorem gch_177_0 : gco_177_0.all (gck 12 false (some .int) 2 cX12_step) = true := by decide +kernel
set_option maxRecDepth 100000 in
theorem gok_177 : gmeP gme_177 := gmeP_of (gix_mem (i := 1444) (by decide +kernel)) (by decide +kernel) (gall gch_177_0)
set_option maxRecDepth 100000 in
theorem gch_178_0 : gco_178_0.all (gck 12 false (some .int) 1 cX12_hour) = true := by decide +kernel
set_option maxRecDepth 100000 in
theorem gok_178 : gmeP gme_178 := gmeP_of (gix_mem (i := 1440) (by decide +kernel)) (by decide +kernel) (gall gch_178_0)
set_option maxRecDepth 100000 in
theorem gch_179_0 : gco_179_0.all (gck 12 false (some .int) 1 cX12_person) = true := by decide +kernel
set_option maxRecDepth 100000 in
theorem gok_179 : gmeP gme_179 := gmeP_of (gix_mem (i := 1476) (by decide +kernel)) (by decide +kernel) (gall gch_179_0)
set_option maxRecDepth 100000 in
theorem gch_180_0 : gco_180_0.all (gck 12 false (some .int) 4 cX12_owner) = true := by decide +kernel
set_option maxRecDepth 100000 in
theorem gok_180 : gmeP gme_180 := gmeP_of (gix_mem (i := 1480) (by decide +kernel)) (by decide +kernel) (gall gch_180_0)
