/-! words of the tables, by program -/
abbrev mX10_in : MD := (yX10_in, cX10_in, 4, (some .boolean))
abbrev mX10_min : MD := (yX10_min, cX10_min, 3, (some .int))
abbrev mX10_has : MD := (yX10_has, cX10_has, 3, (some .boolean))
abbrev mX10_isHouse : MD := (yX10_isHouse, cX10_isHouse, 2, (some .boolean))
theorem fw_X10_7 : FW RX10 7 10 0 0 := ⟨RX10, TX10, 84, rfl, by decide, inWd10, Wd_of (List.mem_of_getElem? (i := 1006) (by decide +kernel)) rfl, rfl⟩
theorem mw_X10_267 : MW RX10 267 mX10_in 3 := ⟨Wd_of (List.mem_of_getElem? (i := 1264) (by decide +kernel)) rfl, Wd_of (List.mem_of_getElem? (i := 92) (by decide +kernel)) rfl, Wd_of (List.mem_of_getElem? (i := 1267) (by decide +kernel)) rfl, ⟨by decide, by decide, by decide +kernel⟩, by decide⟩
theorem mv_X10_in : MV mX10_in := ⟨Wd_of (List.mem_of_getElem? (i := 1266) (by decide +kernel)) rfl, Wd_of (List.mem_of_getElem? (i := 22) (by decide +kernel)) rfl⟩
abbrev mX10_isWeather : MD := (yX10_isWeather, cX10_isWeather, 2, (some .boolean))
abbrev mX10_house : MD := (yX10_house, cX10_house, 5, (some .int))
theorem fw_X10_22 : FW RX10 22 10 4 2 := ⟨RX10, TX10, 84, rfl, by decide, inWd10, Wd_of (List.mem_of_getElem? (i := 1010) (by decide +kernel)) rfl, rfl⟩
theorem fw_X10_13 : FW RX10 13 10 1 0 := ⟨RX10, TX10, 84, rfl, by decide, inWd10, Wd_of (List.mem_of_getElem? (i := 1007) (by decide +kernel)) rfl, rfl⟩
theorem fp_X10_13 : FP RX10 13 10 1 .int false := ⟨RX10, TX10, 84, tyX10, rfl, by decide, inWd10, Wd_of (List.mem_of_getElem? (i := 1007) (by decide +kernel)) rfl, tyX10_ok, nmX10, rfl, rfl, fun h => by cases h⟩
theorem fw_X10_26 : FW RX10 26 10 5 2 := ⟨RX10, TX10, 84, rfl, by decide, inWd10, Wd_of (List.mem_of_getElem? (i := 1011) (by decide +kernel)) rfl, rfl⟩
theorem fw_X10_29 : FW RX10 29 10 6 2 := ⟨RX10, TX10, 84, rfl, by decide, inWd10, Wd_of (List.mem_of_getElem? (i := 1012) (by decide +kernel)) rfl, rfl⟩
theorem fw_X10_32 : FW RX10 32 10 7 2 := ⟨RX10, TX10, 84, rfl, by decide, inWd10, Wd_of (List.mem_of_getElem? (i := 1013) (by decide +kernel)) rfl, rfl⟩
theorem fw_X10_35 : FW RX10 35 10 8 2 := ⟨RX10, TX10, 84, rfl, by decide, inWd10, Wd_of (List.mem_of_getElem? (i := 1014) (by decide +kernel)) rfl, rfl⟩
theorem fw_X10_38 : FW RX10 38 10 9 2 := ⟨RX10, TX10, 84, rfl, by decide, inWd10, Wd_of (List.mem_of_getElem? (i := 1015) (by decide +kernel)) rfl, rfl⟩
theorem fw_X10_41 : FW RX10 41 10 10 2 := ⟨RX10, TX10, 84, rfl, by decide, inWd10, Wd_of (List.mem_of_getElem? (i := 1016) (by decide +kernel)) rfl, rfl⟩
theorem fw_X10_44 : FW RX10 44 10 11 2 := ⟨RX10, TX10, 84, rfl, by decide, inWd10, Wd_of (List.mem_of_getElem? (i := 1017) (by decide +kernel)) rfl, rfl⟩
theorem fw_X10_47 : FW RX10 47 10 12 2 := ⟨RX10, TX10, 84, rfl, by decide, inWd10, Wd_of (List.mem_of_getElem? (i := 1018) (by decide +kernel)) rfl, rfl⟩
theorem fp_X10_7 : FP RX10 7 10 0 .int false := ⟨RX10, TX10, 84, tyX10, rfl, by decide, inWd10, Wd_of (List.mem_of_getElem? (i := 1006) (by decide +kernel)) rfl, tyX10_ok, nmX10, rfl, rfl, fun h => by cases h⟩
abbrev mX10_of : MD := (yX10_of, cX10_of, 3, (some .int))
theorem mw_X10_271 : MW RX10 271 mX10_isHouse 1 := ⟨Wd_of (List.mem_of_getElem? (i := 1272) (by decide +kernel)) rfl, Wd_of (List.mem_of_getElem? (i := 92) (by decide +kernel)) rfl, Wd_of (List.mem_of_getElem? (i := 1275) (by decide +kernel)) rfl, ⟨by decide, by decide, by decide +kernel⟩, by decide⟩
theorem mv_X10_isHouse : MV mX10_isHouse := ⟨Wd_of (List.mem_of_getElem? (i := 1274) (by decide +kernel)) rfl, Wd_of (List.mem_of_getElem? (i := 23) (by decide +kernel)) rfl⟩
theorem mw_X10_275 : MW RX10 275 mX10_has 2 := ⟨Wd_of (List.mem_of_getElem? (i := 1276) (by decide +kernel)) rfl, Wd_of (List.mem_of_getElem? (i := 92) (by decide +kernel)) rfl, Wd_of (List.mem_of_getElem? (i := 1279) (by decide +kernel)) rfl, ⟨by decide, by decide, by decide +kernel⟩, by decide⟩
theorem mv_X10_has : MV mX10_has := ⟨Wd_of (List.mem_of_getElem? (i := 1278) (by decide +kernel)) rfl, Wd_of (List.mem_of_getElem? (i := 24) (by decide +kernel)) rfl⟩
abbrev mX10_wood : MD := (yX10_wood, cX10_wood, 4, (some .int))
abbrev mX10_light : MD := (yX10_light, cX10_light, 4, (some .int))
abbrev mX10_way : MD := (yX10_way, cX10_way, 5, (some .int))
abbrev mX10_keeper : MD := (yX10_keeper, cX10_keeper, 6, (some .int))
theorem cc_X10_279 : Cond.constant RX10 279 (16777215) ∈ Wd := Wd_of (List.mem_of_getElem? (i := 1296) (by decide +kernel)) rfl
abbrev mX10_feed : MD := (yX10_feed, cX10_feed, 4, (some .int))
theorem fw_X10_56 : FW RX10 56 10 15 0 := ⟨RX10, TX10, 84, rfl, by decide, inWd10, Wd_of (List.mem_of_getElem? (i := 1021) (by decide +kernel)) rfl, rfl⟩
theorem fw_X10_65 : FW RX10 65 10 18 2 := ⟨RX10, TX10, 84, rfl, by decide, inWd10, Wd_of (List.mem_of_getElem? (i := 1024) (by decide +kernel)) rfl, rfl⟩
theorem fp_X10_56 : FP RX10 56 10 15 .int false := ⟨RX10, TX10, 84, tyX10, rfl, by decide, inWd10, Wd_of (List.mem_of_getElem? (i := 1021) (by decide +kernel)) rfl, tyX10_ok, nmX10, rfl, rfl, fun h => by cases h⟩
abbrev mX10_next : MD := (yX10_next, cX10_next, 1, (some .int))
theorem fw_X10_59 : FW RX10 59 10 16 0 := ⟨RX10, TX10, 84, rfl, by decide, inWd10, Wd_of (List.mem_of_getElem? (i := 1022) (by decide +kernel)) rfl, rfl⟩
abbrev mX10_takesSign : MD := (yX10_takesSign, cX10_takesSign, 2, (some .boolean))
theorem mw_X10_280 : MW RX10 280 mX10_next 0 := ⟨Wd_of (List.mem_of_getElem? (i := 1321) (by decide +kernel)) rfl, Wd_of (List.mem_of_getElem? (i := 92) (by decide +kernel)) rfl, Wd_of (List.mem_of_getElem? (i := 1324) (by decide +kernel)) rfl, ⟨by decide, by decide, by decide +kernel⟩, by decide⟩
theorem mv_X10_next : MV mX10_next := ⟨Wd_of (List.mem_of_getElem? (i := 1323) (by decide +kernel)) rfl, Wd_of (List.mem_of_getElem? (i := 29) (by decide +kernel)) rfl⟩
theorem fp_X10_59 : FP RX10 59 10 16 .int false := ⟨RX10, TX10, 84, tyX10, rfl, by decide, inWd10, Wd_of (List.mem_of_getElem? (i := 1022) (by decide +kernel)) rfl, tyX10_ok, nmX10, rfl, rfl, fun h => by cases h⟩
abbrev mX10_takesWord : MD := (yX10_takesWord, cX10_takesWord, 4, (some .boolean))
theorem fw_X10_101 : FW RX10 101 10 30 2 := ⟨RX10, TX10, 84, rfl, by decide, inWd10, Wd_of (List.mem_of_getElem? (i := 1036) (by decide +kernel)) rfl, rfl⟩
theorem mw_X10_284 : MW RX10 284 mX10_takesSign 1 := ⟨Wd_of (List.mem_of_getElem? (i := 1329) (by decide +kernel)) rfl, Wd_of (List.mem_of_getElem? (i := 92) (by decide +kernel)) rfl, Wd_of (List.mem_of_getElem? (i := 1332) (by decide +kernel)) rfl, ⟨by decide, by decide, by decide +kernel⟩, by decide⟩
theorem mv_X10_takesSign : MV mX10_takesSign := ⟨Wd_of (List.mem_of_getElem? (i := 1331) (by decide +kernel)) rfl, Wd_of (List.mem_of_getElem? (i := 31) (by decide +kernel)) rfl⟩
abbrev mX10_isDigit : MD := (yX10_isDigit, cX10_isDigit, 1, (some .boolean))
abbrev mX10_takesNumber : MD := (yX10_takesNumber, cX10_takesNumber, 2, (some .boolean))
theorem mw_X10_287 : MW RX10 287 mX10_isDigit 0 := ⟨Wd_of (List.mem_of_getElem? (i := 1341) (by decide +kernel)) rfl, Wd_of (List.mem_of_getElem? (i := 92) (by decide +kernel)) rfl, Wd_of (List.mem_of_getElem? (i := 1344) (by decide +kernel)) rfl, ⟨by decide, by decide, by decide +kernel⟩, by decide⟩
theorem mv_X10_isDigit : MV mX10_isDigit := ⟨Wd_of (List.mem_of_getElem? (i := 1343) (by decide +kernel)) rfl, Wd_of (List.mem_of_getElem? (i := 34) (by decide +kernel)) rfl⟩
theorem fp_X10_62 : FP RX10 62 10 17 .int false := ⟨RX10, TX10, 84, tyX10, rfl, by decide, inWd10, Wd_of (List.mem_of_getElem? (i := 1023) (by decide +kernel)) rfl, tyX10_ok, nmX10, rfl, rfl, fun h => by cases h⟩
theorem fw_X10_62 : FW RX10 62 10 17 0 := ⟨RX10, TX10, 84, rfl, by decide, inWd10, Wd_of (List.mem_of_getElem? (i := 1023) (by decide +kernel)) rfl, rfl⟩
abbrev mX10_put : MD := (yX10_put, cX10_put, 2, none)
theorem fw_X10_86 : FW RX10 86 10 25 2 := ⟨RX10, TX10, 84, rfl, by decide, inWd10, Wd_of (List.mem_of_getElem? (i := 1031) (by decide +kernel)) rfl, rfl⟩
theorem fw_X10_92 : FW RX10 92 10 27 0 := ⟨RX10, TX10, 84, rfl, by decide, inWd10, Wd_of (List.mem_of_getElem? (i := 1033) (by decide +kernel)) rfl, rfl⟩
theorem fp_X10_92 : FP RX10 92 10 27 .int false := ⟨RX10, TX10, 84, tyX10, rfl, by decide, inWd10, Wd_of (List.mem_of_getElem? (i := 1033) (by decide +kernel)) rfl, tyX10_ok, nmX10, rfl, rfl, fun h => by cases h⟩
abbrev mX10_whole : MD := (yX10_whole, cX10_whole, 1, none)
theorem fw_X10_95 : FW RX10 95 10 28 0 := ⟨RX10, TX10, 84, rfl, by decide, inWd10, Wd_of (List.mem_of_getElem? (i := 1034) (by decide +kernel)) rfl, rfl⟩
theorem fw_X10_89 : FW RX10 89 10 26 2 := ⟨RX10, TX10, 84, rfl, by decide, inWd10, Wd_of (List.mem_of_getElem? (i := 1032) (by decide +kernel)) rfl, rfl⟩
theorem mw_X10_291 : MW RX10 291 mX10_put 1 := ⟨Wd_of (List.mem_of_getElem? (i := 1357) (by decide +kernel)) rfl, Wd_of (List.mem_of_getElem? (i := 92) (by decide +kernel)) rfl, Wd_of (List.mem_of_getElem? (i := 1360) (by decide +kernel)) rfl, ⟨by decide, by decide, by decide +kernel⟩, by decide⟩
theorem mv_X10_put : MV mX10_put := ⟨Wd_of (List.mem_of_getElem? (i := 1359) (by decide +kernel)) rfl, Wd_of (List.mem_of_getElem? (i := 38) (by decide +kernel)) rfl⟩
theorem fp_X10_95 : FP RX10 95 10 28 .int false := ⟨RX10, TX10, 84, tyX10, rfl, by decide, inWd10, Wd_of (List.mem_of_getElem? (i := 1034) (by decide +kernel)) rfl, tyX10_ok, nmX10, rfl, rfl, fun h => by cases h⟩
theorem fw_X10_98 : FW RX10 98 10 29 0 := ⟨RX10, TX10, 84, rfl, by decide, inWd10, Wd_of (List.mem_of_getElem? (i := 1035) (by decide +kernel)) rfl, rfl⟩
theorem fp_X10_98 : FP RX10 98 10 29 .int false := ⟨RX10, TX10, 84, tyX10, rfl, by decide, inWd10, Wd_of (List.mem_of_getElem? (i := 1035) (by decide +kernel)) rfl, tyX10_ok, nmX10, rfl, rfl, fun h => by cases h⟩
abbrev mX10_settle : MD := (yX10_settle, cX10_settle, 2, none)
abbrev mX10_third : MD := (yX10_third, cX10_third, 1, (some .int))
abbrev mX10_place : MD := (yX10_place, cX10_place, 2, (some .int))
abbrev mX10_takesTest : MD := (yX10_takesTest, cX10_takesTest, 3, (some .boolean))
theorem mw_X10_295 : MW RX10 295 mX10_place 1 := ⟨Wd_of (List.mem_of_getElem? (i := 1353) (by decide +kernel)) rfl, Wd_of (List.mem_of_getElem? (i := 92) (by decide +kernel)) rfl, Wd_of (List.mem_of_getElem? (i := 1356) (by decide +kernel)) rfl, ⟨by decide, by decide, by decide +kernel⟩, by decide⟩
theorem mv_X10_place : MV mX10_place := ⟨Wd_of (List.mem_of_getElem? (i := 1355) (by decide +kernel)) rfl, Wd_of (List.mem_of_getElem? (i := 37) (by decide +kernel)) rfl⟩
theorem mw_X10_299 : MW RX10 299 mX10_takesNumber 0 := ⟨Wd_of (List.mem_of_getElem? (i := 1337) (by decide +kernel)) rfl, Wd_of (List.mem_of_getElem? (i := 92) (by decide +kernel)) rfl, Wd_of (List.mem_of_getElem? (i := 1340) (by decide +kernel)) rfl, ⟨by decide, by decide, by decide +kernel⟩, by decide⟩
theorem mv_X10_takesNumber : MV mX10_takesNumber := ⟨Wd_of (List.mem_of_getElem? (i := 1339) (by decide +kernel)) rfl, Wd_of (List.mem_of_getElem? (i := 33) (by decide +kernel)) rfl⟩
theorem mw_X10_302 : MW RX10 302 mX10_whole 0 := ⟨Wd_of (List.mem_of_getElem? (i := 1361) (by decide +kernel)) rfl, Wd_of (List.mem_of_getElem? (i := 92) (by decide +kernel)) rfl, Wd_of (List.mem_of_getElem? (i := 1364) (by decide +kernel)) rfl, ⟨by decide, by decide, by decide +kernel⟩, by decide⟩
theorem mv_X10_whole : MV mX10_whole := ⟨Wd_of (List.mem_of_getElem? (i := 1363) (by decide +kernel)) rfl, Wd_of (List.mem_of_getElem? (i := 39) (by decide +kernel)) rfl⟩
abbrev mX10_takesE : MD := (yX10_takesE, cX10_takesE, 4, (some .boolean))
theorem fw_X10_80 : FW RX10 80 10 23 2 := ⟨RX10, TX10, 84, rfl, by decide, inWd10, Wd_of (List.mem_of_getElem? (i := 1029) (by decide +kernel)) rfl, rfl⟩
theorem mw_X10_308 : MW RX10 308 mX10_settle 1 := ⟨Wd_of (List.mem_of_getElem? (i := 1365) (by decide +kernel)) rfl, Wd_of (List.mem_of_getElem? (i := 92) (by decide +kernel)) rfl, Wd_of (List.mem_of_getElem? (i := 1368) (by decide +kernel)) rfl, ⟨by decide, by decide, by decide +kernel⟩, by decide⟩
theorem mv_X10_settle : MV mX10_settle := ⟨Wd_of (List.mem_of_getElem? (i := 1367) (by decide +kernel)) rfl, Wd_of (List.mem_of_getElem? (i := 40) (by decide +kernel)) rfl⟩
theorem fw_X10_83 : FW RX10 83 10 24 2 := ⟨RX10, TX10, 84, rfl, by decide, inWd10, Wd_of (List.mem_of_getElem? (i := 1030) (by decide +kernel)) rfl, rfl⟩
theorem mw_X10_305 : MW RX10 305 mX10_takesTest 0 := ⟨Wd_of (List.mem_of_getElem? (i := 1349) (by decide +kernel)) rfl, Wd_of (List.mem_of_getElem? (i := 92) (by decide +kernel)) rfl, Wd_of (List.mem_of_getElem? (i := 1352) (by decide +kernel)) rfl, ⟨by decide, by decide, by decide +kernel⟩, by decide⟩
theorem mv_X10_takesTest : MV mX10_takesTest := ⟨Wd_of (List.mem_of_getElem? (i := 1351) (by decide +kernel)) rfl, Wd_of (List.mem_of_getElem? (i := 36) (by decide +kernel)) rfl⟩
abbrev mX10_takesFigure : MD := (yX10_takesFigure, cX10_takesFigure, 2, (some .boolean))
theorem fw_X10_74 : FW RX10 74 10 21 2 := ⟨RX10, TX10, 84, rfl, by decide, inWd10, Wd_of (List.mem_of_getElem? (i := 1027) (by decide +kernel)) rfl, rfl⟩
abbrev mX10_takesHead : MD := (yX10_takesHead, cX10_takesHead, 3, (some .boolean))
theorem mw_X10_311 : MW RX10 311 mX10_third 0 := ⟨Wd_of (List.mem_of_getElem? (i := 1317) (by decide +kernel)) rfl, Wd_of (List.mem_of_getElem? (i := 92) (by decide +kernel)) rfl, Wd_of (List.mem_of_getElem? (i := 1320) (by decide +kernel)) rfl, ⟨by decide, by decide, by decide +kernel⟩, by decide⟩
theorem mv_X10_third : MV mX10_third := ⟨Wd_of (List.mem_of_getElem? (i := 1319) (by decide +kernel)) rfl, Wd_of (List.mem_of_getElem? (i := 28) (by decide +kernel)) rfl⟩
theorem fw_X10_71 : FW RX10 71 10 20 2 := ⟨RX10, TX10, 84, rfl, by decide, inWd10, Wd_of (List.mem_of_getElem? (i := 1026) (by decide +kernel)) rfl, rfl⟩
theorem mw_X10_314 : MW RX10 314 mX10_takesWord 2 := ⟨Wd_of (List.mem_of_getElem? (i := 1325) (by decide +kernel)) rfl, Wd_of (List.mem_of_getElem? (i := 92) (by decide +kernel)) rfl, Wd_of (List.mem_of_getElem? (i := 1328) (by decide +kernel)) rfl, ⟨by decide, by decide, by decide +kernel⟩, by decide⟩
theorem mv_X10_takesWord : MV mX10_takesWord := ⟨Wd_of (List.mem_of_getElem? (i := 1327) (by decide +kernel)) rfl, Wd_of (List.mem_of_getElem? (i := 30) (by decide +kernel)) rfl⟩
