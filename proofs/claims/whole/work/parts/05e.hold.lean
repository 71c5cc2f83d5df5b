/-! ===== the code is the bytes' own (by program) ===== -/
set_option maxRecDepth 100000 in
theorem gch_181_0 : gco_181_0.all (gck 12 false (some .int) 5 cX12_lease) = true := by decide +kernel
set_option maxRecDepth 100000 in
theorem gch_181_1 : gco_181_1.all (gck 12 false (some .int) 5 cX12_lease) = true := by decide +kernel
set_option maxRecDepth 100000 in
theorem gok_181 : gmeP gme_181 := gmeP_of (gix_mem (i := 1488) (by decide +kernel)) (by decide +kernel) (gapp (gall gch_181_0) (gall gch_181_1))
set_option maxRecDepth 100000 in
theorem gch_182_0 : gco_182_0.all (gck 12 false (some .boolean) 4 cX12_hasEnded) = true := by decide +kernel
set_option maxRecDepth 100000 in
theorem gok_182 : gmeP gme_182 := gmeP_of (gix_mem (i := 1497) (by decide +kernel)) (by decide +kernel) (gall gch_182_0)
set_option maxRecDepth 100000 in
theorem gch_183_0 : gco_183_0.all (gck 12 false (some .int) 3 cX12_leaseOf) = true := by decide +kernel
set_option maxRecDepth 100000 in
theorem gok_183 : gmeP gme_183 := gmeP_of (gix_mem (i := 1493) (by decide +kernel)) (by decide +kernel) (gall gch_183_0)
set_option maxRecDepth 100000 in
theorem gch_184_0 : gco_184_0.all (gck 12 false (some .int) 4 cX12_holderOf) = true := by decide +kernel
set_option maxRecDepth 100000 in
theorem gok_184 : gmeP gme_184 := gmeP_of (gix_mem (i := 1505) (by decide +kernel)) (by decide +kernel) (gall gch_184_0)
set_option maxRecDepth 100000 in
theorem gch_185_0 : gco_185_0.all (gck 12 false (some .int) 2 cX12_holds) = true := by decide +kernel
set_option maxRecDepth 100000 in
theorem gok_185 : gmeP gme_185 := gmeP_of (gix_mem (i := 1501) (by decide +kernel)) (by decide +kernel) (gall gch_185_0)
set_option maxRecDepth 100000 in
theorem gch_186_0 : gco_186_0.all (gck 12 false (some .int) 8 cX12_told) = true := by decide +kernel
set_option maxRecDepth 100000 in
theorem gch_186_1 : gco_186_1.all (gck 12 false (some .int) 8 cX12_told) = true := by decide +kernel
set_option maxRecDepth 100000 in
theorem gok_186 : gmeP gme_186 := gmeP_of (gix_mem (i := 1509) (by decide +kernel)) (by decide +kernel) (gapp (gall gch_186_0) (gall gch_186_1))
set_option maxRecDepth 100000 in
theorem gch_187_0 : gco_187_0.all (gck 12 false (some .int) 5 cX12_howFar) = true := by decide +kernel
set_option maxRecDepth 100000 in
theorem gok_187 : gmeP gme_187 := gmeP_of (gix_mem (i := 1546) (by decide +kernel)) (by decide +kernel) (gall gch_187_0)
set_option maxRecDepth 100000 in
theorem gch_188_0 : gco_188_0.all (gck 12 false (some .boolean) 4 cX12_isExcepted) = true := by decide +kernel
set_option maxRecDepth 100000 in
theorem gok_188 : gmeP gme_188 := gmeP_of (gix_mem (i := 1542) (by decide +kernel)) (by decide +kernel) (gall gch_188_0)
set_option maxRecDepth 100000 in
theorem gch_189_0 : gco_189_0.all (gck 12 false (some .int) 6 cX12_whyNot) = true := by decide +kernel
set_option maxRecDepth 100000 in
theorem gch_189_1 : gco_189_1.all (gck 12 false (some .int) 6 cX12_whyNot) = true := by decide +kernel
set_option maxRecDepth 100000 in
theorem gok_189 : gmeP gme_189 := gmeP_of (gix_mem (i := 1538) (by decide +kernel)) (by decide +kernel) (gapp (gall gch_189_0) (gall gch_189_1))
set_option maxRecDepth 100000 in
theorem gch_190_0 : gco_190_0.all (gck 12 false (some .int) 5 cX12_whyNow) = true := by decide +kernel
set_option maxRecDepth 100000 in
theorem gok_190 : gmeP gme_190 := gmeP_of (gix_mem (i := 1534) (by decide +kernel)) (by decide +kernel) (gall gch_190_0)
set_option maxRecDepth 100000 in
theorem gch_191_0 : gco_191_0.all (gck 12 false none 6 cX12_addWell) = true := by decide +kernel
set_option maxRecDepth 100000 in
theorem gch_191_1 : gco_191_1.all (gck 12 false none 6 cX12_addWell) = true := by decide +kernel
set_option maxRecDepth 100000 in
theorem gok_191 : gmeP gme_191 := gmeP_of (gix_mem (i := 1550) (by decide +kernel)) (by decide +kernel) (gapp (gall gch_191_0) (gall gch_191_1))
set_option maxRecDepth 100000 in
theorem gch_192_0 : gco_192_0.all (gck 12 false (some .int) 4 cX12_drill) = true := by decide +kernel
set_option maxRecDepth 100000 in
theorem gok_192 : gmeP gme_192 := gmeP_of (gix_mem (i := 1529) (by decide +kernel)) (by decide +kernel) (gall gch_192_0)
set_option maxRecDepth 100000 in
theorem gch_193_0 : gco_193_0.all (gck 12 false (some .int) 3 cX12_why) = true := by decide +kernel
set_option maxRecDepth 100000 in
theorem gok_193 : gmeP gme_193 := gmeP_of (gix_mem (i := 1554) (by decide +kernel)) (by decide +kernel) (gall gch_193_0)
set_option maxRecDepth 100000 in
theorem gch_194_0 : gco_194_0.all (gck 12 false (some .int) 4 cX12_will) = true := by decide +kernel
set_option maxRecDepth 100000 in
theorem gok_194 : gmeP gme_194 := gmeP_of (gix_mem (i := 1558) (by decide +kernel)) (by decide +kernel) (gall gch_194_0)
set_option maxRecDepth 100000 in
theorem gch_195_0 : gco_195_0.all (gck 12 false (some .int) 4 cX12_open) = true := by decide +kernel
set_option maxRecDepth 100000 in
theorem gok_195 : gmeP gme_195 := gmeP_of (gix_mem (i := 1566) (by decide +kernel)) (by decide +kernel) (gall gch_195_0)
set_option maxRecDepth 100000 in
theorem gch_196_0 : gco_196_0.all (gck 12 false (some .int) 10 cX12_letOf) = true := by decide +kernel
set_option maxRecDepth 100000 in
theorem gch_196_1 : gco_196_1.all (gck 12 false (some .int) 10 cX12_letOf) = true := by decide +kernel
set_option maxRecDepth 100000 in
theorem gok_196 : gmeP gme_196 := gmeP_of (gix_mem (i := 1521) (by decide +kernel)) (by decide +kernel) (gapp (gall gch_196_0) (gall gch_196_1))
set_option maxRecDepth 100000 in
theorem gch_197_0 : gco_197_0.all (gck 12 false (some .int) 5 cX12_hotIn) = true := by decide +kernel
set_option maxRecDepth 100000 in
theorem gok_197 : gmeP gme_197 := gmeP_of (gix_mem (i := 1517) (by decide +kernel)) (by decide +kernel) (gall gch_197_0)
set_option maxRecDepth 100000 in
theorem gch_198_0 : gco_198_0.all (gck 12 false (some .int) 4 cX12_hotOf) = true := by decide +kernel
set_option maxRecDepth 100000 in
theorem gok_198 : gmeP gme_198 := gmeP_of (gix_mem (i := 1513) (by decide +kernel)) (by decide +kernel) (gall gch_198_0)
set_option maxRecDepth 100000 in
theorem gch_199_0 : gco_199_0.all (gck 12 false (some .int) 3 cX12_hotAll) = true := by decide +kernel
set_option maxRecDepth 100000 in
theorem gok_199 : gmeP gme_199 := gmeP_of (gix_mem (i := 1650) (by decide +kernel)) (by decide +kernel) (gall gch_199_0)
set_option maxRecDepth 100000 in
theorem gch_200_0 : gco_200_0.all (gck 12 false (some .int) 3 cX12_wellOf) = true := by decide +kernel
set_option maxRecDepth 100000 in
theorem gch_200_1 : gco_200_1.all (gck 12 false (some .int) 3 cX12_wellOf) = true := by decide +kernel
set_option maxRecDepth 100000 in
theorem gok_200 : gmeP gme_200 := gmeP_of (gix_mem (i := 1570) (by decide +kernel)) (by decide +kernel) (gapp (gall gch_200_0) (gall gch_200_1))
set_option maxRecDepth 100000 in
theorem gch_201_0 : gco_201_0.all (gck 12 false (some .int) 4 cX12_drew) = true := by decide +kernel
set_option maxRecDepth 100000 in
theorem gok_201 : gmeP gme_201 := gmeP_of (gix_mem (i := 1574) (by decide +kernel)) (by decide +kernel) (gall gch_201_0)
set_option maxRecDepth 100000 in
theorem gch_202_0 : gco_202_0.all (gck 12 false (some .int) 3 cX12_priceOf) = true := by decide +kernel
set_option maxRecDepth 100000 in
theorem gok_202 : gmeP gme_202 := gmeP_of (gix_mem (i := 1584) (by decide +kernel)) (by decide +kernel) (gall gch_202_0)
set_option maxRecDepth 100000 in
theorem gch_203_0 : gco_203_0.all (gck 12 false (some .int) 4 cX12_sell) = true := by decide +kernel
set_option maxRecDepth 100000 in
theorem gch_203_1 : gco_203_1.all (gck 12 false (some .int) 4 cX12_sell) = true := by decide +kernel
set_option maxRecDepth 100000 in
theorem gok_203 : gmeP gme_203 := gmeP_of (gix_mem (i := 1580) (by decide +kernel)) (by decide +kernel) (gapp (gall gch_203_0) (gall gch_203_1))
set_option maxRecDepth 100000 in
theorem gch_204_0 : gco_204_0.all (gck 12 false (some .int) 2 cX12_price) = true := by decide +kernel
set_option maxRecDepth 100000 in
theorem gok_204 : gmeP gme_204 := gmeP_of (gix_mem (i := 1588) (by decide +kernel)) (by decide +kernel) (gall gch_204_0)
set_option maxRecDepth 100000 in
theorem gch_205_0 : gco_205_0.all (gck 12 false (some .int) 4 cX12_feed) = true := by decide +kernel
set_option maxRecDepth 100000 in
theorem gok_205 : gmeP gme_205 := gmeP_of (gix_mem (i := 1592) (by decide +kernel)) (by decide +kernel) (gall gch_205_0)
set_option maxRecDepth 100000 in
theorem gch_206_0 : gco_206_0.all (gck 12 false (some .int) 3 cX12_end) = true := by decide +kernel
set_option maxRecDepth 100000 in
theorem gok_206 : gmeP gme_206 := gmeP_of (gix_mem (i := 1596) (by decide +kernel)) (by decide +kernel) (gall gch_206_0)
set_option maxRecDepth 100000 in
theorem gch_207_0 : gco_207_0.all (gck 12 false (some .int) 2 cX12_byteAt) = true := by decide +kernel
set_option maxRecDepth 100000 in
theorem gok_207 : gmeP gme_207 := gmeP_of (gix_mem (i := 1608) (by decide +kernel)) (by decide +kernel) (gall gch_207_0)
set_option maxRecDepth 100000 in
theorem gch_208_0 : gco_208_0.all (gck 12 false none 2 cX12_fails) = true := by decide +kernel
set_option maxRecDepth 100000 in
theorem gok_208 : gmeP gme_208 := gmeP_of (gix_mem (i := 1618) (by decide +kernel)) (by decide +kernel) (gall gch_208_0)
set_option maxRecDepth 100000 in
theorem gch_209_0 : gco_209_0.all (gck 12 false (some .int) 6 cX12_nameAt) = true := by decide +kernel
set_option maxRecDepth 100000 in
theorem gch_209_1 : gco_209_1.all (gck 12 false (some .int) 6 cX12_nameAt) = true := by decide +kernel
set_option maxRecDepth 100000 in
theorem gok_209 : gmeP gme_209 := gmeP_of (gix_mem (i := 1614) (by decide +kernel)) (by decide +kernel) (gapp (gall gch_209_0) (gall gch_209_1))
set_option maxRecDepth 100000 in
theorem gch_210_0 : gco_210_0.all (gck 12 false none 2 cX12_next) = true := by decide +kernel
set_option maxRecDepth 100000 in
theorem gch_210_1 : gco_210_1.all (gck 12 false none 2 cX12_next) = true := by decide +kernel
set_option maxRecDepth 100000 in
theorem gch_210_2 : gco_210_2.all (gck 12 false none 2 cX12_next) = true := by decide +kernel
set_option maxRecDepth 100000 in
theorem gok_210 : gmeP gme_210 := gmeP_of (gix_mem (i := 1604) (by decide +kernel)) (by decide +kernel) (gapp (gall gch_210_0) (gapp (gall gch_210_1) (gall gch_210_2)))
set_option maxRecDepth 100000 in
theorem gch_211_0 : gco_211_0.all (gck 12 false (some .int) 2 cX12_number) = true := by decide +kernel
set_option maxRecDepth 100000 in
theorem gok_211 : gmeP gme_211 := gmeP_of (gix_mem (i := 1628) (by decide +kernel)) (by decide +kernel) (gall gch_211_0)
set_option maxRecDepth 100000 in
theorem gch_212_0 : gco_212_0.all (gck 12 false none 5 cX12_once) = true := by decide +kernel
set_option maxRecDepth 100000 in
theorem gok_212 : gmeP gme_212 := gmeP_of (gix_mem (i := 1632) (by decide +kernel)) (by decide +kernel) (gall gch_212_0)
set_option maxRecDepth 100000 in
theorem gch_213_0 : gco_213_0.all (gck 12 false none 4 cX12_oneLine) = true := by decide +kernel
set_option maxRecDepth 100000 in
theorem gch_213_1 : gco_213_1.all (gck 12 false none 4 cX12_oneLine) = true := by decide +kernel
set_option maxRecDepth 100000 in
theorem gch_213_2 : gco_213_2.all (gck 12 false none 4 cX12_oneLine) = true := by decide +kernel
set_option maxRecDepth 100000 in
theorem gok_213 : gmeP gme_213 := gmeP_of (gix_mem (i := 1624) (by decide +kernel)) (by decide +kernel) (gapp (gall gch_213_0) (gapp (gall gch_213_1) (gall gch_213_2)))
set_option maxRecDepth 100000 in
theorem gch_214_0 : gco_214_0.all (gck 12 false (some .int) 2 cX12_orders) = true := by decide +kernel
set_option maxRecDepth 100000 in
theorem gch_214_1 : gco_214_1.all (gck 12 false (some .int) 2 cX12_orders) = true := by decide +kernel
set_option maxRecDepth 100000 in
theorem gok_214 : gmeP gme_214 := gmeP_of (gix_mem (i := 1600) (by decide +kernel)) (by decide +kernel) (gapp (gall gch_214_0) (gall gch_214_1))
set_option maxRecDepth 100000 in
theorem gch_215_0 : gco_215_0.all (gck 12 false (some .int) 1 cX12_fault) = true := by decide +kernel
set_option maxRecDepth 100000 in
theorem gok_215 : gmeP gme_215 := gmeP_of (gix_mem (i := 1636) (by decide +kernel)) (by decide +kernel) (gall gch_215_0)
set_option maxRecDepth 100000 in
theorem gch_216_0 : gco_216_0.all (gck 12 false (some .int) 5 cX12_lineAt) = true := by decide +kernel
set_option maxRecDepth 100000 in
theorem gok_216 : gmeP gme_216 := gmeP_of (gix_mem (i := 1525) (by decide +kernel)) (by decide +kernel) (gall gch_216_0)
set_option maxRecDepth 100000 in
theorem gch_217_0 : gco_217_0.all (gck 12 false (some .int) 3 cX12_line) = true := by decide +kernel
set_option maxRecDepth 100000 in
theorem gok_217 : gmeP gme_217 := gmeP_of (gix_mem (i := 1640) (by decide +kernel)) (by decide +kernel) (gall gch_217_0)
set_option maxRecDepth 100000 in
theorem gch_218_0 : gco_218_0.all (gck 12 false (some .int) 3 cX12_voids) = true := by decide +kernel
set_option maxRecDepth 100000 in
theorem gok_218 : gmeP gme_218 := gmeP_of (gix_mem (i := 1644) (by decide +kernel)) (by decide +kernel) (gall gch_218_0)
set_option maxRecDepth 100000 in
theorem gch_219_0 : gco_219_0.all (gck 12 false (some .int) 7 cX12_lets) = true := by decide +kernel
set_option maxRecDepth 100000 in
theorem gch_219_1 : gco_219_1.all (gck 12 false (some .int) 7 cX12_lets) = true := by decide +kernel
set_option maxRecDepth 100000 in
theorem gok_219 : gmeP gme_219 := gmeP_of (gix_mem (i := 1654) (by decide +kernel)) (by decide +kernel) (gapp (gall gch_219_0) (gall gch_219_1))
