/-! ===== the code is the bytes' own (by program) ===== -/
set_option maxRecDepth 100000 in
theorem gch_220_0 : gco_220_0.all (gck 12 false (some .int) 3 cX12_turn) = true := by decide +kernel
set_option maxRecDepth 100000 in
theorem gok_220 : gmeP gme_220 := gmeP_of (gix_mem (i := 1670) (by decide +kernel)) (by decide +kernel) (gall gch_220_0)
set_option maxRecDepth 100000 in
theorem gch_221_0 : gco_221_0.all (gck 12 false none 2 cX12_turnLand) = true := by decide +kernel
set_option maxRecDepth 100000 in
theorem gch_221_1 : gco_221_1.all (gck 12 false none 2 cX12_turnLand) = true := by decide +kernel
set_option maxRecDepth 100000 in
theorem gch_221_2 : gco_221_2.all (gck 12 false none 2 cX12_turnLand) = true := by decide +kernel
set_option maxRecDepth 100000 in
theorem gok_221 : gmeP gme_221 := gmeP_of (gix_mem (i := 1666) (by decide +kernel)) (by decide +kernel) (gapp (gall gch_221_0) (gapp (gall gch_221_1) (gall gch_221_2)))
set_option maxRecDepth 100000 in
theorem gch_222_0 : gco_222_0.all (gck 12 false none 2 cX12_turnPapers) = true := by decide +kernel
set_option maxRecDepth 100000 in
theorem gch_222_1 : gco_222_1.all (gck 12 false none 2 cX12_turnPapers) = true := by decide +kernel
set_option maxRecDepth 100000 in
theorem gch_222_2 : gco_222_2.all (gck 12 false none 2 cX12_turnPapers) = true := by decide +kernel
set_option maxRecDepth 100000 in
theorem gok_222 : gmeP gme_222 := gmeP_of (gix_mem (i := 1674) (by decide +kernel)) (by decide +kernel) (gapp (gall gch_222_0) (gapp (gall gch_222_1) (gall gch_222_2)))
set_option maxRecDepth 100000 in
theorem gch_223_0 : gco_223_0.all (gck 12 false none 3 cX12_turnPage) = true := by decide +kernel
set_option maxRecDepth 100000 in
theorem gok_223 : gmeP gme_223 := gmeP_of (gix_mem (i := 1662) (by decide +kernel)) (by decide +kernel) (gall gch_223_0)
set_option maxRecDepth 100000 in
theorem gch_224_0 : gco_224_0.all (gck 12 false (some .int) 1 cX12_keep) = true := by decide +kernel
set_option maxRecDepth 100000 in
theorem gok_224 : gmeP gme_224 := gmeP_of (gix_mem (i := 1658) (by decide +kernel)) (by decide +kernel) (gall gch_224_0)
set_option maxRecDepth 100000 in
theorem gch_225_0 : gco_225_0.all (gck 12 false (some .int) 2 cX12_stand) = true := by decide +kernel
set_option maxRecDepth 100000 in
theorem gok_225 : gmeP gme_225 := gmeP_of (gix_mem (i := 1678) (by decide +kernel)) (by decide +kernel) (gall gch_225_0)
set_option maxRecDepth 100000 in
theorem gch_226_0 : gco_226_0.all (gck 12 false (some .int) 4 cX12_spot) = true := by decide +kernel
set_option maxRecDepth 100000 in
theorem gok_226 : gmeP gme_226 := gmeP_of (gix_mem (i := 1682) (by decide +kernel)) (by decide +kernel) (gall gch_226_0)
set_option maxRecDepth 100000 in
theorem gch_227_0 : gco_227_0.all (gck 12 false (some .boolean) 5 cX12_isRace) = true := by decide +kernel
set_option maxRecDepth 100000 in
theorem gok_227 : gmeP gme_227 := gmeP_of (gix_mem (i := 1690) (by decide +kernel)) (by decide +kernel) (gall gch_227_0)
set_option maxRecDepth 100000 in
theorem gch_228_0 : gco_228_0.all (gck 12 false (some .boolean) 4 cX12_haveSpots) = true := by decide +kernel
set_option maxRecDepth 100000 in
theorem gok_228 : gmeP gme_228 := gmeP_of (gix_mem (i := 1696) (by decide +kernel)) (by decide +kernel) (gall gch_228_0)
set_option maxRecDepth 100000 in
theorem gch_229_0 : gco_229_0.all (gck 12 false none 7 cX12_race) = true := by decide +kernel
set_option maxRecDepth 100000 in
theorem gch_229_1 : gco_229_1.all (gck 12 false none 7 cX12_race) = true := by decide +kernel
set_option maxRecDepth 100000 in
theorem gok_229 : gmeP gme_229 := gmeP_of (gix_mem (i := 1700) (by decide +kernel)) (by decide +kernel) (gapp (gall gch_229_0) (gall gch_229_1))
set_option maxRecDepth 100000 in
theorem gch_230_0 : gco_230_0.all (gck 12 false (some .int) 7 cX12_gain) = true := by decide +kernel
set_option maxRecDepth 100000 in
theorem gok_230 : gmeP gme_230 := gmeP_of (gix_mem (i := 1686) (by decide +kernel)) (by decide +kernel) (gall gch_230_0)
set_option maxRecDepth 100000 in
theorem gch_231_0 : gco_231_0.all (gck 12 false none 6 cX12_raceAll) = true := by decide +kernel
set_option maxRecDepth 100000 in
theorem gok_231 : gmeP gme_231 := gmeP_of (gix_mem (i := 1709) (by decide +kernel)) (by decide +kernel) (gall gch_231_0)
set_option maxRecDepth 100000 in
theorem gch_232_0 : gco_232_0.all (gck 12 false (some .boolean) 5 cX12_isSteady) = true := by decide +kernel
set_option maxRecDepth 100000 in
theorem gok_232 : gmeP gme_232 := gmeP_of (gix_mem (i := 1713) (by decide +kernel)) (by decide +kernel) (gall gch_232_0)
set_option maxRecDepth 100000 in
theorem gch_233_0 : gco_233_0.all (gck 12 false (some .int) 5 cX12_sumOf) = true := by decide +kernel
set_option maxRecDepth 100000 in
theorem gok_233 : gmeP gme_233 := gmeP_of (gix_mem (i := 1717) (by decide +kernel)) (by decide +kernel) (gall gch_233_0)
set_option maxRecDepth 100000 in
theorem gch_234_0 : gco_234_0.all (gck 12 false (some .int) 11 cX12_steady) = true := by decide +kernel
set_option maxRecDepth 100000 in
theorem gch_234_1 : gco_234_1.all (gck 12 false (some .int) 11 cX12_steady) = true := by decide +kernel
set_option maxRecDepth 100000 in
theorem gok_234 : gmeP gme_234 := gmeP_of (gix_mem (i := 1704) (by decide +kernel)) (by decide +kernel) (gapp (gall gch_234_0) (gall gch_234_1))
set_option maxRecDepth 100000 in
theorem gch_235_0 : gco_235_0.all (gck 12 false (some .int) 11 cX12_must) = true := by decide +kernel
set_option maxRecDepth 100000 in
theorem gch_235_1 : gco_235_1.all (gck 12 false (some .int) 11 cX12_must) = true := by decide +kernel
set_option maxRecDepth 100000 in
theorem gok_235 : gmeP gme_235 := gmeP_of (gix_mem (i := 1721) (by decide +kernel)) (by decide +kernel) (gapp (gall gch_235_0) (gall gch_235_1))
set_option maxRecDepth 100000 in
theorem gch_236_0 : gco_236_0.all (gck 12 false (some .int) 5 cX12_sheet) = true := by decide +kernel
set_option maxRecDepth 100000 in
theorem gok_236 : gmeP gme_236 := gmeP_of (gix_mem (i := 1725) (by decide +kernel)) (by decide +kernel) (gall gch_236_0)
set_option maxRecDepth 100000 in
theorem gch_237_0 : gco_237_0.all (gck 12 false (some .int) 4 cX12_write) = true := by decide +kernel
set_option maxRecDepth 100000 in
theorem gch_237_1 : gco_237_1.all (gck 12 false (some .int) 4 cX12_write) = true := by decide +kernel
set_option maxRecDepth 100000 in
theorem gok_237 : gmeP gme_237 := gmeP_of (gix_mem (i := 1729) (by decide +kernel)) (by decide +kernel) (gapp (gall gch_237_0) (gall gch_237_1))
set_option maxRecDepth 100000 in
theorem gch_238_0 : gco_238_0.all (gck 12 false (some .int) 6 cX12_scan) = true := by decide +kernel
set_option maxRecDepth 100000 in
theorem gch_238_1 : gco_238_1.all (gck 12 false (some .int) 6 cX12_scan) = true := by decide +kernel
set_option maxRecDepth 100000 in
theorem gok_238 : gmeP gme_238 := gmeP_of (gix_mem (i := 1733) (by decide +kernel)) (by decide +kernel) (gapp (gall gch_238_0) (gall gch_238_1))
set_option maxRecDepth 100000 in
theorem gch_239_0 : gco_239_0.all (gck 12 false (some .int) 7 cX12_count) = true := by decide +kernel
set_option maxRecDepth 100000 in
theorem gch_239_1 : gco_239_1.all (gck 12 false (some .int) 7 cX12_count) = true := by decide +kernel
set_option maxRecDepth 100000 in
theorem gok_239 : gmeP gme_239 := gmeP_of (gix_mem (i := 1737) (by decide +kernel)) (by decide +kernel) (gapp (gall gch_239_0) (gall gch_239_1))
set_option maxRecDepth 100000 in
theorem gch_240_0 : gco_240_0.all (gck 21 false none 4 cJ7_fill_53178) = true := by decide +kernel
set_option maxRecDepth 100000 in
theorem gok_240 : gmeP gme_240 := gmeP_of (gix_mem (i := 310) (by decide +kernel)) (by decide +kernel) (gall gch_240_0)
