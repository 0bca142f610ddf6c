/-! words of the tables, by program -/
abbrev mX10_takesClause : MD := (yX10_takesClause, cX10_takesClause, 2, (some .boolean))
theorem mw_X10_317 : MW RX10 317 mX10_takesHead 1 := ⟨Wd_of (List.mem_of_getElem? (i := 1313) (by decide +kernel)) rfl, Wd_of (List.mem_of_getElem? (i := 92) (by decide +kernel)) rfl, Wd_of (List.mem_of_getElem? (i := 1316) (by decide +kernel)) rfl, ⟨by decide, by decide, by decide +kernel⟩, by decide⟩
theorem mv_X10_takesHead : MV mX10_takesHead := ⟨Wd_of (List.mem_of_getElem? (i := 1315) (by decide +kernel)) rfl, Wd_of (List.mem_of_getElem? (i := 27) (by decide +kernel)) rfl⟩
theorem fw_X10_77 : FW RX10 77 10 22 2 := ⟨RX10, TX10, 84, rfl, by decide, inWd10, Wd_of (List.mem_of_getElem? (i := 1028) (by decide +kernel)) rfl, rfl⟩
theorem mw_X10_323 : MW RX10 323 mX10_takesE 1 := ⟨Wd_of (List.mem_of_getElem? (i := 1345) (by decide +kernel)) rfl, Wd_of (List.mem_of_getElem? (i := 92) (by decide +kernel)) rfl, Wd_of (List.mem_of_getElem? (i := 1348) (by decide +kernel)) rfl, ⟨by decide, by decide, by decide +kernel⟩, by decide⟩
theorem mv_X10_takesE : MV mX10_takesE := ⟨Wd_of (List.mem_of_getElem? (i := 1347) (by decide +kernel)) rfl, Wd_of (List.mem_of_getElem? (i := 35) (by decide +kernel)) rfl⟩
theorem mw_X10_320 : MW RX10 320 mX10_takesFigure 1 := ⟨Wd_of (List.mem_of_getElem? (i := 1333) (by decide +kernel)) rfl, Wd_of (List.mem_of_getElem? (i := 92) (by decide +kernel)) rfl, Wd_of (List.mem_of_getElem? (i := 1336) (by decide +kernel)) rfl, ⟨by decide, by decide, by decide +kernel⟩, by decide⟩
theorem mv_X10_takesFigure : MV mX10_takesFigure := ⟨Wd_of (List.mem_of_getElem? (i := 1335) (by decide +kernel)) rfl, Wd_of (List.mem_of_getElem? (i := 32) (by decide +kernel)) rfl⟩
abbrev mX10_goesText : MD := (yX10_goesText, cX10_goesText, 3, (some .boolean))
theorem mw_X10_326 : MW RX10 326 mX10_takesClause 1 := ⟨Wd_of (List.mem_of_getElem? (i := 1309) (by decide +kernel)) rfl, Wd_of (List.mem_of_getElem? (i := 92) (by decide +kernel)) rfl, Wd_of (List.mem_of_getElem? (i := 1312) (by decide +kernel)) rfl, ⟨by decide, by decide, by decide +kernel⟩, by decide⟩
theorem mv_X10_takesClause : MV mX10_takesClause := ⟨Wd_of (List.mem_of_getElem? (i := 1311) (by decide +kernel)) rfl, Wd_of (List.mem_of_getElem? (i := 26) (by decide +kernel)) rfl⟩
theorem fw_X10_68 : FW RX10 68 10 19 2 := ⟨RX10, TX10, 84, rfl, by decide, inWd10, Wd_of (List.mem_of_getElem? (i := 1025) (by decide +kernel)) rfl, rfl⟩
abbrev mX10_land : MD := (yX10_land, cX10_land, 2, (some .int))
theorem fw_X10_50 : FW RX10 50 10 13 0 := ⟨RX10, TX10, 84, rfl, by decide, inWd10, Wd_of (List.mem_of_getElem? (i := 1019) (by decide +kernel)) rfl, rfl⟩
theorem mw_X10_329 : MW RX10 329 mX10_goesText 1 := ⟨Wd_of (List.mem_of_getElem? (i := 1305) (by decide +kernel)) rfl, Wd_of (List.mem_of_getElem? (i := 92) (by decide +kernel)) rfl, Wd_of (List.mem_of_getElem? (i := 1308) (by decide +kernel)) rfl, ⟨by decide, by decide, by decide +kernel⟩, by decide⟩
theorem mv_X10_goesText : MV mX10_goesText := ⟨Wd_of (List.mem_of_getElem? (i := 1307) (by decide +kernel)) rfl, Wd_of (List.mem_of_getElem? (i := 25) (by decide +kernel)) rfl⟩
theorem fp_X10_53 : FP RX10 53 10 14 .int false := ⟨RX10, TX10, 84, tyX10, rfl, by decide, inWd10, Wd_of (List.mem_of_getElem? (i := 1020) (by decide +kernel)) rfl, tyX10_ok, nmX10, rfl, rfl, fun h => by cases h⟩
theorem fp_X10_50 : FP RX10 50 10 13 .int false := ⟨RX10, TX10, 84, tyX10, rfl, by decide, inWd10, Wd_of (List.mem_of_getElem? (i := 1019) (by decide +kernel)) rfl, tyX10_ok, nmX10, rfl, rfl, fun h => by cases h⟩
theorem fw_X10_53 : FW RX10 53 10 14 0 := ⟨RX10, TX10, 84, rfl, by decide, inWd10, Wd_of (List.mem_of_getElem? (i := 1020) (by decide +kernel)) rfl, rfl⟩
abbrev mX10_first : MD := (yX10_first, cX10_first, 1, (some .int))
abbrev mX10_behind : MD := (yX10_behind, cX10_behind, 1, (some .int))
abbrev mX10_layFollows : MD := (yX10_layFollows, cX10_layFollows, 6, none)
theorem mw_X10_332 : MW RX10 332 mX10_first 0 := ⟨Wd_of (List.mem_of_getElem? (i := 1381) (by decide +kernel)) rfl, Wd_of (List.mem_of_getElem? (i := 92) (by decide +kernel)) rfl, Wd_of (List.mem_of_getElem? (i := 1384) (by decide +kernel)) rfl, ⟨by decide, by decide, by decide +kernel⟩, by decide⟩
theorem mv_X10_first : MV mX10_first := ⟨Wd_of (List.mem_of_getElem? (i := 1383) (by decide +kernel)) rfl, Wd_of (List.mem_of_getElem? (i := 43) (by decide +kernel)) rfl⟩
theorem mw_X10_335 : MW RX10 335 mX10_behind 0 := ⟨Wd_of (List.mem_of_getElem? (i := 1385) (by decide +kernel)) rfl, Wd_of (List.mem_of_getElem? (i := 92) (by decide +kernel)) rfl, Wd_of (List.mem_of_getElem? (i := 1388) (by decide +kernel)) rfl, ⟨by decide, by decide, by decide +kernel⟩, by decide⟩
theorem mv_X10_behind : MV mX10_behind := ⟨Wd_of (List.mem_of_getElem? (i := 1387) (by decide +kernel)) rfl, Wd_of (List.mem_of_getElem? (i := 44) (by decide +kernel)) rfl⟩
theorem fw_X10_104 : FW RX10 104 10 31 2 := ⟨RX10, TX10, 84, rfl, by decide, inWd10, Wd_of (List.mem_of_getElem? (i := 1037) (by decide +kernel)) rfl, rfl⟩
theorem mw_X10_338 : MW RX10 338 mX10_min 2 := ⟨Wd_of (List.mem_of_getElem? (i := 1389) (by decide +kernel)) rfl, Wd_of (List.mem_of_getElem? (i := 92) (by decide +kernel)) rfl, Wd_of (List.mem_of_getElem? (i := 1392) (by decide +kernel)) rfl, ⟨by decide, by decide, by decide +kernel⟩, by decide⟩
theorem mv_X10_min : MV mX10_min := ⟨Wd_of (List.mem_of_getElem? (i := 1391) (by decide +kernel)) rfl, Wd_of (List.mem_of_getElem? (i := 45) (by decide +kernel)) rfl⟩
abbrev mX10_follows : MD := (yX10_follows, cX10_follows, 3, (some .int))
theorem mw_X10_342 : MW RX10 342 mX10_isWeather 1 := ⟨Wd_of (List.mem_of_getElem? (i := 1373) (by decide +kernel)) rfl, Wd_of (List.mem_of_getElem? (i := 92) (by decide +kernel)) rfl, Wd_of (List.mem_of_getElem? (i := 1376) (by decide +kernel)) rfl, ⟨by decide, by decide, by decide +kernel⟩, by decide⟩
theorem mv_X10_isWeather : MV mX10_isWeather := ⟨Wd_of (List.mem_of_getElem? (i := 1375) (by decide +kernel)) rfl, Wd_of (List.mem_of_getElem? (i := 41) (by decide +kernel)) rfl⟩
theorem mw_X10_345 : MW RX10 345 mX10_layFollows 0 := ⟨Wd_of (List.mem_of_getElem? (i := 1377) (by decide +kernel)) rfl, Wd_of (List.mem_of_getElem? (i := 92) (by decide +kernel)) rfl, Wd_of (List.mem_of_getElem? (i := 1380) (by decide +kernel)) rfl, ⟨by decide, by decide, by decide +kernel⟩, by decide⟩
theorem mv_X10_layFollows : MV mX10_layFollows := ⟨Wd_of (List.mem_of_getElem? (i := 1379) (by decide +kernel)) rfl, Wd_of (List.mem_of_getElem? (i := 42) (by decide +kernel)) rfl⟩
abbrev mX10_begin : MD := (yX10_begin, cX10_begin, 2, none)
theorem fw_X10_107 : FW RX10 107 10 32 0 := ⟨RX10, TX10, 84, rfl, by decide, inWd10, Wd_of (List.mem_of_getElem? (i := 1038) (by decide +kernel)) rfl, rfl⟩
theorem fp_X10_113 : FP RX10 113 10 34 .int false := ⟨RX10, TX10, 84, tyX10, rfl, by decide, inWd10, Wd_of (List.mem_of_getElem? (i := 1040) (by decide +kernel)) rfl, tyX10_ok, nmX10, rfl, rfl, fun h => by cases h⟩
theorem fw_X10_125 : FW RX10 125 10 38 2 := ⟨RX10, TX10, 84, rfl, by decide, inWd10, Wd_of (List.mem_of_getElem? (i := 1044) (by decide +kernel)) rfl, rfl⟩
theorem fw_X10_122 : FW RX10 122 10 37 2 := ⟨RX10, TX10, 84, rfl, by decide, inWd10, Wd_of (List.mem_of_getElem? (i := 1043) (by decide +kernel)) rfl, rfl⟩
abbrev mX10_asIs : MD := (yX10_asIs, cX10_asIs, 2, none)
theorem fp_X10_107 : FP RX10 107 10 32 .int false := ⟨RX10, TX10, 84, tyX10, rfl, by decide, inWd10, Wd_of (List.mem_of_getElem? (i := 1038) (by decide +kernel)) rfl, tyX10_ok, nmX10, rfl, rfl, fun h => by cases h⟩
theorem fw_X10_16 : FW RX10 16 10 2 0 := ⟨RX10, TX10, 84, rfl, by decide, inWd10, Wd_of (List.mem_of_getElem? (i := 1008) (by decide +kernel)) rfl, rfl⟩
theorem fp_X10_110 : FP RX10 110 10 33 .int false := ⟨RX10, TX10, 84, tyX10, rfl, by decide, inWd10, Wd_of (List.mem_of_getElem? (i := 1039) (by decide +kernel)) rfl, tyX10_ok, nmX10, rfl, rfl, fun h => by cases h⟩
theorem fp_X10_116 : FP RX10 116 10 35 .int false := ⟨RX10, TX10, 84, tyX10, rfl, by decide, inWd10, Wd_of (List.mem_of_getElem? (i := 1041) (by decide +kernel)) rfl, tyX10_ok, nmX10, rfl, rfl, fun h => by cases h⟩
theorem fp_X10_119 : FP RX10 119 10 36 .int false := ⟨RX10, TX10, 84, tyX10, rfl, by decide, inWd10, Wd_of (List.mem_of_getElem? (i := 1042) (by decide +kernel)) rfl, tyX10_ok, nmX10, rfl, rfl, fun h => by cases h⟩
theorem fw_X10_128 : FW RX10 128 10 39 2 := ⟨RX10, TX10, 84, rfl, by decide, inWd10, Wd_of (List.mem_of_getElem? (i := 1045) (by decide +kernel)) rfl, rfl⟩
theorem fw_X10_131 : FW RX10 131 10 40 2 := ⟨RX10, TX10, 84, rfl, by decide, inWd10, Wd_of (List.mem_of_getElem? (i := 1046) (by decide +kernel)) rfl, rfl⟩
theorem fw_X10_134 : FW RX10 134 10 41 2 := ⟨RX10, TX10, 84, rfl, by decide, inWd10, Wd_of (List.mem_of_getElem? (i := 1047) (by decide +kernel)) rfl, rfl⟩
theorem fw_X10_137 : FW RX10 137 10 42 2 := ⟨RX10, TX10, 84, rfl, by decide, inWd10, Wd_of (List.mem_of_getElem? (i := 1048) (by decide +kernel)) rfl, rfl⟩
theorem fw_X10_140 : FW RX10 140 10 43 2 := ⟨RX10, TX10, 84, rfl, by decide, inWd10, Wd_of (List.mem_of_getElem? (i := 1049) (by decide +kernel)) rfl, rfl⟩
theorem fw_X10_143 : FW RX10 143 10 44 2 := ⟨RX10, TX10, 84, rfl, by decide, inWd10, Wd_of (List.mem_of_getElem? (i := 1050) (by decide +kernel)) rfl, rfl⟩
theorem mw_X10_348 : MW RX10 348 mX10_begin 0 := ⟨Wd_of (List.mem_of_getElem? (i := 1401) (by decide +kernel)) rfl, Wd_of (List.mem_of_getElem? (i := 92) (by decide +kernel)) rfl, Wd_of (List.mem_of_getElem? (i := 1404) (by decide +kernel)) rfl, ⟨by decide, by decide, by decide +kernel⟩, by decide⟩
theorem mv_X10_begin : MV mX10_begin := ⟨Wd_of (List.mem_of_getElem? (i := 1403) (by decide +kernel)) rfl, Wd_of (List.mem_of_getElem? (i := 47) (by decide +kernel)) rfl⟩
abbrev mX10_ones : MD := (yX10_ones, cX10_ones, 4, (some .int))
abbrev mX10_factOf : MD := (yX10_factOf, cX10_factOf, 4, (some .int))
theorem fw_X10_110 : FW RX10 110 10 33 0 := ⟨RX10, TX10, 84, rfl, by decide, inWd10, Wd_of (List.mem_of_getElem? (i := 1039) (by decide +kernel)) rfl, rfl⟩
theorem fw_X10_113 : FW RX10 113 10 34 0 := ⟨RX10, TX10, 84, rfl, by decide, inWd10, Wd_of (List.mem_of_getElem? (i := 1040) (by decide +kernel)) rfl, rfl⟩
theorem mw_X10_351 : MW RX10 351 mX10_ones 1 := ⟨Wd_of (List.mem_of_getElem? (i := 1417) (by decide +kernel)) rfl, Wd_of (List.mem_of_getElem? (i := 92) (by decide +kernel)) rfl, Wd_of (List.mem_of_getElem? (i := 1420) (by decide +kernel)) rfl, ⟨by decide, by decide, by decide +kernel⟩, by decide⟩
theorem mv_X10_ones : MV mX10_ones := ⟨Wd_of (List.mem_of_getElem? (i := 1419) (by decide +kernel)) rfl, Wd_of (List.mem_of_getElem? (i := 51) (by decide +kernel)) rfl⟩
abbrev mX10_holds : MD := (yX10_holds, cX10_holds, 9, (some .boolean))
theorem mw_X10_354 : MW RX10 354 mX10_factOf 3 := ⟨Wd_of (List.mem_of_getElem? (i := 1413) (by decide +kernel)) rfl, Wd_of (List.mem_of_getElem? (i := 92) (by decide +kernel)) rfl, Wd_of (List.mem_of_getElem? (i := 1416) (by decide +kernel)) rfl, ⟨by decide, by decide, by decide +kernel⟩, by decide⟩
theorem mv_X10_factOf : MV mX10_factOf := ⟨Wd_of (List.mem_of_getElem? (i := 1415) (by decide +kernel)) rfl, Wd_of (List.mem_of_getElem? (i := 50) (by decide +kernel)) rfl⟩
theorem fw_X10_146 : FW RX10 146 10 45 2 := ⟨RX10, TX10, 84, rfl, by decide, inWd10, Wd_of (List.mem_of_getElem? (i := 1051) (by decide +kernel)) rfl, rfl⟩
abbrev mX10_sumOf : MD := (yX10_sumOf, cX10_sumOf, 6, (some .int))
theorem mw_X10_358 : MW RX10 358 mX10_holds 3 := ⟨Wd_of (List.mem_of_getElem? (i := 1409) (by decide +kernel)) rfl, Wd_of (List.mem_of_getElem? (i := 92) (by decide +kernel)) rfl, Wd_of (List.mem_of_getElem? (i := 1412) (by decide +kernel)) rfl, ⟨by decide, by decide, by decide +kernel⟩, by decide⟩
theorem mv_X10_holds : MV mX10_holds := ⟨Wd_of (List.mem_of_getElem? (i := 1411) (by decide +kernel)) rfl, Wd_of (List.mem_of_getElem? (i := 49) (by decide +kernel)) rfl⟩
abbrev mX10_told : MD := (yX10_told, cX10_told, 4, (some .int))
theorem mw_X10_361 : MW RX10 361 mX10_asIs 0 := ⟨Wd_of (List.mem_of_getElem? (i := 1397) (by decide +kernel)) rfl, Wd_of (List.mem_of_getElem? (i := 92) (by decide +kernel)) rfl, Wd_of (List.mem_of_getElem? (i := 1400) (by decide +kernel)) rfl, ⟨by decide, by decide, by decide +kernel⟩, by decide⟩
theorem mv_X10_asIs : MV mX10_asIs := ⟨Wd_of (List.mem_of_getElem? (i := 1399) (by decide +kernel)) rfl, Wd_of (List.mem_of_getElem? (i := 46) (by decide +kernel)) rfl⟩
theorem mw_X10_364 : MW RX10 364 mX10_sumOf 3 := ⟨Wd_of (List.mem_of_getElem? (i := 1405) (by decide +kernel)) rfl, Wd_of (List.mem_of_getElem? (i := 92) (by decide +kernel)) rfl, Wd_of (List.mem_of_getElem? (i := 1408) (by decide +kernel)) rfl, ⟨by decide, by decide, by decide +kernel⟩, by decide⟩
theorem mv_X10_sumOf : MV mX10_sumOf := ⟨Wd_of (List.mem_of_getElem? (i := 1407) (by decide +kernel)) rfl, Wd_of (List.mem_of_getElem? (i := 48) (by decide +kernel)) rfl⟩
abbrev mX10_isNoneAhead : MD := (yX10_isNoneAhead, cX10_isNoneAhead, 2, (some .boolean))
abbrev mX10_keeps : MD := (yX10_keeps, cX10_keeps, 3, (some .boolean))
theorem mw_X10_367 : MW RX10 367 mX10_isNoneAhead 1 := ⟨Wd_of (List.mem_of_getElem? (i := 1429) (by decide +kernel)) rfl, Wd_of (List.mem_of_getElem? (i := 92) (by decide +kernel)) rfl, Wd_of (List.mem_of_getElem? (i := 1432) (by decide +kernel)) rfl, ⟨by decide, by decide, by decide +kernel⟩, by decide⟩
theorem mv_X10_isNoneAhead : MV mX10_isNoneAhead := ⟨Wd_of (List.mem_of_getElem? (i := 1431) (by decide +kernel)) rfl, Wd_of (List.mem_of_getElem? (i := 53) (by decide +kernel)) rfl⟩
abbrev mX10_sends : MD := (yX10_sends, cX10_sends, 3, (some .boolean))
abbrev mX10_whereTo : MD := (yX10_whereTo, cX10_whereTo, 5, (some .int))
abbrev mX10_would : MD := (yX10_would, cX10_would, 3, (some .int))
theorem mw_X10_373 : MW RX10 373 mX10_sends 2 := ⟨Wd_of (List.mem_of_getElem? (i := 1433) (by decide +kernel)) rfl, Wd_of (List.mem_of_getElem? (i := 92) (by decide +kernel)) rfl, Wd_of (List.mem_of_getElem? (i := 1436) (by decide +kernel)) rfl, ⟨by decide, by decide, by decide +kernel⟩, by decide⟩
theorem mv_X10_sends : MV mX10_sends := ⟨Wd_of (List.mem_of_getElem? (i := 1435) (by decide +kernel)) rfl, Wd_of (List.mem_of_getElem? (i := 54) (by decide +kernel)) rfl⟩
theorem mw_X10_376 : MW RX10 376 mX10_whereTo 1 := ⟨Wd_of (List.mem_of_getElem? (i := 1437) (by decide +kernel)) rfl, Wd_of (List.mem_of_getElem? (i := 92) (by decide +kernel)) rfl, Wd_of (List.mem_of_getElem? (i := 1440) (by decide +kernel)) rfl, ⟨by decide, by decide, by decide +kernel⟩, by decide⟩
theorem mv_X10_whereTo : MV mX10_whereTo := ⟨Wd_of (List.mem_of_getElem? (i := 1439) (by decide +kernel)) rfl, Wd_of (List.mem_of_getElem? (i := 55) (by decide +kernel)) rfl⟩
theorem mw_X10_370 : MW RX10 370 mX10_keeps 2 := ⟨Wd_of (List.mem_of_getElem? (i := 1425) (by decide +kernel)) rfl, Wd_of (List.mem_of_getElem? (i := 92) (by decide +kernel)) rfl, Wd_of (List.mem_of_getElem? (i := 1428) (by decide +kernel)) rfl, ⟨by decide, by decide, by decide +kernel⟩, by decide⟩
theorem mv_X10_keeps : MV mX10_keeps := ⟨Wd_of (List.mem_of_getElem? (i := 1427) (by decide +kernel)) rfl, Wd_of (List.mem_of_getElem? (i := 52) (by decide +kernel)) rfl⟩
abbrev mX10_burns : MD := (yX10_burns, cX10_burns, 5, none)
abbrev mX10_setsOut : MD := (yX10_setsOut, cX10_setsOut, 4, none)
abbrev mX10_walks : MD := (yX10_walks, cX10_walks, 5, none)
