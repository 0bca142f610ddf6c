/-! words of the tables, by program -/
abbrev mX10_goHour : MD := (yX10_goHour, cX10_goHour, 5, none)
theorem fw_X10_116 : FW RX10 116 10 35 0 := ⟨RX10, TX10, 84, rfl, by decide, inWd10, Wd_of (List.mem_of_getElem? (i := 1041) (by decide +kernel)) rfl, rfl⟩
theorem fw_X10_119 : FW RX10 119 10 36 0 := ⟨RX10, TX10, 84, rfl, by decide, inWd10, Wd_of (List.mem_of_getElem? (i := 1042) (by decide +kernel)) rfl, rfl⟩
theorem mw_X10_383 : MW RX10 383 mX10_setsOut 2 := ⟨Wd_of (List.mem_of_getElem? (i := 1453) (by decide +kernel)) rfl, Wd_of (List.mem_of_getElem? (i := 92) (by decide +kernel)) rfl, Wd_of (List.mem_of_getElem? (i := 1456) (by decide +kernel)) rfl, ⟨by decide, by decide, by decide +kernel⟩, by decide⟩
theorem mv_X10_setsOut : MV mX10_setsOut := ⟨Wd_of (List.mem_of_getElem? (i := 1455) (by decide +kernel)) rfl, Wd_of (List.mem_of_getElem? (i := 58) (by decide +kernel)) rfl⟩
theorem mw_X10_379 : MW RX10 379 mX10_burns 3 := ⟨Wd_of (List.mem_of_getElem? (i := 1449) (by decide +kernel)) rfl, Wd_of (List.mem_of_getElem? (i := 92) (by decide +kernel)) rfl, Wd_of (List.mem_of_getElem? (i := 1452) (by decide +kernel)) rfl, ⟨by decide, by decide, by decide +kernel⟩, by decide⟩
theorem mv_X10_burns : MV mX10_burns := ⟨Wd_of (List.mem_of_getElem? (i := 1451) (by decide +kernel)) rfl, Wd_of (List.mem_of_getElem? (i := 57) (by decide +kernel)) rfl⟩
theorem mw_X10_387 : MW RX10 387 mX10_walks 2 := ⟨Wd_of (List.mem_of_getElem? (i := 1457) (by decide +kernel)) rfl, Wd_of (List.mem_of_getElem? (i := 92) (by decide +kernel)) rfl, Wd_of (List.mem_of_getElem? (i := 1460) (by decide +kernel)) rfl, ⟨by decide, by decide, by decide +kernel⟩, by decide⟩
theorem mv_X10_walks : MV mX10_walks := ⟨Wd_of (List.mem_of_getElem? (i := 1459) (by decide +kernel)) rfl, Wd_of (List.mem_of_getElem? (i := 59) (by decide +kernel)) rfl⟩
abbrev mX10_go : MD := (yX10_go, cX10_go, 4, (some .int))
theorem mw_X10_390 : MW RX10 390 mX10_goHour 2 := ⟨Wd_of (List.mem_of_getElem? (i := 1445) (by decide +kernel)) rfl, Wd_of (List.mem_of_getElem? (i := 92) (by decide +kernel)) rfl, Wd_of (List.mem_of_getElem? (i := 1448) (by decide +kernel)) rfl, ⟨by decide, by decide, by decide +kernel⟩, by decide⟩
theorem mv_X10_goHour : MV mX10_goHour := ⟨Wd_of (List.mem_of_getElem? (i := 1447) (by decide +kernel)) rfl, Wd_of (List.mem_of_getElem? (i := 56) (by decide +kernel)) rfl⟩
theorem fp_X10_19 : FP RX10 19 10 3 .int false := ⟨RX10, TX10, 84, tyX10, rfl, by decide, inWd10, Wd_of (List.mem_of_getElem? (i := 1009) (by decide +kernel)) rfl, tyX10_ok, nmX10, rfl, rfl, fun h => by cases h⟩
theorem fp_X10_16 : FP RX10 16 10 2 .int false := ⟨RX10, TX10, 84, tyX10, rfl, by decide, inWd10, Wd_of (List.mem_of_getElem? (i := 1008) (by decide +kernel)) rfl, tyX10_ok, nmX10, rfl, rfl, fun h => by cases h⟩
abbrev mX10_night : MD := (yX10_night, cX10_night, 3, (some .int))
theorem fw_X10_150 : FW RX10 150 10 46 0 := ⟨RX10, TX10, 84, rfl, by decide, inWd10, Wd_of (List.mem_of_getElem? (i := 1052) (by decide +kernel)) rfl, rfl⟩
theorem fw_X10_153 : FW RX10 153 10 47 2 := ⟨RX10, TX10, 84, rfl, by decide, inWd10, Wd_of (List.mem_of_getElem? (i := 1053) (by decide +kernel)) rfl, rfl⟩
theorem fw_X10_156 : FW RX10 156 10 48 2 := ⟨RX10, TX10, 84, rfl, by decide, inWd10, Wd_of (List.mem_of_getElem? (i := 1054) (by decide +kernel)) rfl, rfl⟩
theorem fp_X10_150 : FP RX10 150 10 46 .int false := ⟨RX10, TX10, 84, tyX10, rfl, by decide, inWd10, Wd_of (List.mem_of_getElem? (i := 1052) (by decide +kernel)) rfl, tyX10_ok, nmX10, rfl, rfl, fun h => by cases h⟩
abbrev mX10_goNights : MD := (yX10_goNights, cX10_goNights, 3, none)
abbrev mX10_hand : MD := (yX10_hand, cX10_hand, 3, (some .int))
theorem mw_X10_393 : MW RX10 393 mX10_goNights 1 := ⟨Wd_of (List.mem_of_getElem? (i := 1469) (by decide +kernel)) rfl, Wd_of (List.mem_of_getElem? (i := 92) (by decide +kernel)) rfl, Wd_of (List.mem_of_getElem? (i := 1472) (by decide +kernel)) rfl, ⟨by decide, by decide, by decide +kernel⟩, by decide⟩
theorem mv_X10_goNights : MV mX10_goNights := ⟨Wd_of (List.mem_of_getElem? (i := 1471) (by decide +kernel)) rfl, Wd_of (List.mem_of_getElem? (i := 60) (by decide +kernel)) rfl⟩
abbrev mX10_layApart : MD := (yX10_layApart, cX10_layApart, 4, none)
theorem fw_X10_159 : FW RX10 159 10 49 2 := ⟨RX10, TX10, 84, rfl, by decide, inWd10, Wd_of (List.mem_of_getElem? (i := 1055) (by decide +kernel)) rfl, rfl⟩
abbrev mX10_nearest : MD := (yX10_nearest, cX10_nearest, 5, (some .int))
abbrev mX10_quickest : MD := (yX10_quickest, cX10_quickest, 4, (some .int))
theorem mw_X10_396 : MW RX10 396 mX10_layApart 0 := ⟨Wd_of (List.mem_of_getElem? (i := 1477) (by decide +kernel)) rfl, Wd_of (List.mem_of_getElem? (i := 92) (by decide +kernel)) rfl, Wd_of (List.mem_of_getElem? (i := 1480) (by decide +kernel)) rfl, ⟨by decide, by decide, by decide +kernel⟩, by decide⟩
theorem mv_X10_layApart : MV mX10_layApart := ⟨Wd_of (List.mem_of_getElem? (i := 1479) (by decide +kernel)) rfl, Wd_of (List.mem_of_getElem? (i := 61) (by decide +kernel)) rfl⟩
theorem mw_X10_399 : MW RX10 399 mX10_nearest 2 := ⟨Wd_of (List.mem_of_getElem? (i := 1481) (by decide +kernel)) rfl, Wd_of (List.mem_of_getElem? (i := 92) (by decide +kernel)) rfl, Wd_of (List.mem_of_getElem? (i := 1484) (by decide +kernel)) rfl, ⟨by decide, by decide, by decide +kernel⟩, by decide⟩
theorem mv_X10_nearest : MV mX10_nearest := ⟨Wd_of (List.mem_of_getElem? (i := 1483) (by decide +kernel)) rfl, Wd_of (List.mem_of_getElem? (i := 62) (by decide +kernel)) rfl⟩
theorem fw_X10_19 : FW RX10 19 10 3 0 := ⟨RX10, TX10, 84, rfl, by decide, inWd10, Wd_of (List.mem_of_getElem? (i := 1009) (by decide +kernel)) rfl, rfl⟩
abbrev mX10_where : MD := (yX10_where, cX10_where, 6, (some .int))
abbrev mX10_apart : MD := (yX10_apart, cX10_apart, 4, (some .int))
abbrev mX10_divisor : MD := (yX10_divisor, cX10_divisor, 11, (some .long))
abbrev mX10_keep : MD := (yX10_keep, cX10_keep, 2, none)
theorem fp_X10_162 : FP RX10 162 10 50 .int false := ⟨RX10, TX10, 84, tyX10, rfl, by decide, inWd10, Wd_of (List.mem_of_getElem? (i := 1056) (by decide +kernel)) rfl, tyX10_ok, nmX10, rfl, rfl, fun h => by cases h⟩
theorem fp_X10_165 : FP RX10 165 10 51 .int false := ⟨RX10, TX10, 84, tyX10, rfl, by decide, inWd10, Wd_of (List.mem_of_getElem? (i := 1057) (by decide +kernel)) rfl, tyX10_ok, nmX10, rfl, rfl, fun h => by cases h⟩
theorem fp_X10_168 : FP RX10 168 10 52 .int false := ⟨RX10, TX10, 84, tyX10, rfl, by decide, inWd10, Wd_of (List.mem_of_getElem? (i := 1058) (by decide +kernel)) rfl, tyX10_ok, nmX10, rfl, rfl, fun h => by cases h⟩
theorem fw_X10_171 : FW RX10 171 10 53 2 := ⟨RX10, TX10, 84, rfl, by decide, inWd10, Wd_of (List.mem_of_getElem? (i := 1059) (by decide +kernel)) rfl, rfl⟩
theorem fw_X10_174 : FW RX10 174 10 54 2 := ⟨RX10, TX10, 84, rfl, by decide, inWd10, Wd_of (List.mem_of_getElem? (i := 1060) (by decide +kernel)) rfl, rfl⟩
theorem fw_X10_177 : FW RX10 177 10 55 2 := ⟨RX10, TX10, 84, rfl, by decide, inWd10, Wd_of (List.mem_of_getElem? (i := 1061) (by decide +kernel)) rfl, rfl⟩
theorem fw_X10_180 : FW RX10 180 10 56 2 := ⟨RX10, TX10, 84, rfl, by decide, inWd10, Wd_of (List.mem_of_getElem? (i := 1062) (by decide +kernel)) rfl, rfl⟩
theorem fw_X10_183 : FW RX10 183 10 57 2 := ⟨RX10, TX10, 84, rfl, by decide, inWd10, Wd_of (List.mem_of_getElem? (i := 1063) (by decide +kernel)) rfl, rfl⟩
abbrev mX10_layBack : MD := (yX10_layBack, cX10_layBack, 2, none)
theorem fw_X10_162 : FW RX10 162 10 50 0 := ⟨RX10, TX10, 84, rfl, by decide, inWd10, Wd_of (List.mem_of_getElem? (i := 1056) (by decide +kernel)) rfl, rfl⟩
theorem fw_X10_165 : FW RX10 165 10 51 0 := ⟨RX10, TX10, 84, rfl, by decide, inWd10, Wd_of (List.mem_of_getElem? (i := 1057) (by decide +kernel)) rfl, rfl⟩
theorem fw_X10_168 : FW RX10 168 10 52 0 := ⟨RX10, TX10, 84, rfl, by decide, inWd10, Wd_of (List.mem_of_getElem? (i := 1058) (by decide +kernel)) rfl, rfl⟩
abbrev mX10_mishapWeight : MD := (yX10_mishapWeight, cX10_mishapWeight, 7, (some .long))
abbrev mX10_counts : MD := (yX10_counts, cX10_counts, 3, none)
theorem fw_X10_186 : FW RX10 186 10 58 1 := ⟨RX10, TX10, 84, rfl, by decide, inWd10, Wd_of (List.mem_of_getElem? (i := 1064) (by decide +kernel)) rfl, rfl⟩
theorem fp_X10_186 : FP RX10 186 10 58 .long false := ⟨RX10, TX10, 84, tyX10, rfl, by decide, inWd10, Wd_of (List.mem_of_getElem? (i := 1064) (by decide +kernel)) rfl, tyX10_ok, nmX10, rfl, rfl, fun h => by cases h⟩
theorem fw_X10_190 : FW RX10 190 10 59 1 := ⟨RX10, TX10, 84, rfl, by decide, inWd10, Wd_of (List.mem_of_getElem? (i := 1065) (by decide +kernel)) rfl, rfl⟩
theorem fp_X10_190 : FP RX10 190 10 59 .long false := ⟨RX10, TX10, 84, tyX10, rfl, by decide, inWd10, Wd_of (List.mem_of_getElem? (i := 1065) (by decide +kernel)) rfl, tyX10_ok, nmX10, rfl, rfl, fun h => by cases h⟩
abbrev mX10_lastHour : MD := (yX10_lastHour, cX10_lastHour, 8, none)
theorem mw_X10_402 : MW RX10 402 mX10_keep 0 := ⟨Wd_of (List.mem_of_getElem? (i := 1504) (by decide +kernel)) rfl, Wd_of (List.mem_of_getElem? (i := 92) (by decide +kernel)) rfl, Wd_of (List.mem_of_getElem? (i := 1507) (by decide +kernel)) rfl, ⟨by decide, by decide, by decide +kernel⟩, by decide⟩
theorem mv_X10_keep : MV mX10_keep := ⟨Wd_of (List.mem_of_getElem? (i := 1506) (by decide +kernel)) rfl, Wd_of (List.mem_of_getElem? (i := 64) (by decide +kernel)) rfl⟩
theorem mw_X10_405 : MW RX10 405 mX10_layBack 0 := ⟨Wd_of (List.mem_of_getElem? (i := 1508) (by decide +kernel)) rfl, Wd_of (List.mem_of_getElem? (i := 92) (by decide +kernel)) rfl, Wd_of (List.mem_of_getElem? (i := 1511) (by decide +kernel)) rfl, ⟨by decide, by decide, by decide +kernel⟩, by decide⟩
theorem mv_X10_layBack : MV mX10_layBack := ⟨Wd_of (List.mem_of_getElem? (i := 1510) (by decide +kernel)) rfl, Wd_of (List.mem_of_getElem? (i := 65) (by decide +kernel)) rfl⟩
theorem mw_X10_408 : MW RX10 408 mX10_mishapWeight 2 := ⟨Wd_of (List.mem_of_getElem? (i := 1512) (by decide +kernel)) rfl, Wd_of (List.mem_of_getElem? (i := 92) (by decide +kernel)) rfl, Wd_of (List.mem_of_getElem? (i := 1515) (by decide +kernel)) rfl, ⟨by decide, by decide, by decide +kernel⟩, by decide⟩
theorem mv_X10_mishapWeight : MV mX10_mishapWeight := ⟨Wd_of (List.mem_of_getElem? (i := 1514) (by decide +kernel)) rfl, Wd_of (List.mem_of_getElem? (i := 66) (by decide +kernel)) rfl⟩
theorem mw_X10_412 : MW RX10 412 mX10_counts 1 := ⟨Wd_of (List.mem_of_getElem? (i := 1516) (by decide +kernel)) rfl, Wd_of (List.mem_of_getElem? (i := 92) (by decide +kernel)) rfl, Wd_of (List.mem_of_getElem? (i := 1519) (by decide +kernel)) rfl, ⟨by decide, by decide, by decide +kernel⟩, by decide⟩
theorem mv_X10_counts : MV mX10_counts := ⟨Wd_of (List.mem_of_getElem? (i := 1518) (by decide +kernel)) rfl, Wd_of (List.mem_of_getElem? (i := 67) (by decide +kernel)) rfl⟩
abbrev mX10_ends : MD := (yX10_ends, cX10_ends, 10, (some .long))
theorem cc_X10_416 : Cond.constantLong RX10 416 (-9223372036854775808) ∈ Wd := Wd_of (List.mem_of_getElem? (i := 1497) (by decide +kernel)) rfl
theorem cc_X10_418 : Cond.constantLong RX10 418 (10) ∈ Wd := Wd_of (List.mem_of_getElem? (i := 1498) (by decide +kernel)) rfl
theorem cc_X10_420 : Cond.constantLong RX10 420 (100) ∈ Wd := Wd_of (List.mem_of_getElem? (i := 1499) (by decide +kernel)) rfl
theorem mw_X10_422 : MW RX10 422 mX10_lastHour 2 := ⟨Wd_of (List.mem_of_getElem? (i := 1500) (by decide +kernel)) rfl, Wd_of (List.mem_of_getElem? (i := 92) (by decide +kernel)) rfl, Wd_of (List.mem_of_getElem? (i := 1503) (by decide +kernel)) rfl, ⟨by decide, by decide, by decide +kernel⟩, by decide⟩
theorem mv_X10_lastHour : MV mX10_lastHour := ⟨Wd_of (List.mem_of_getElem? (i := 1502) (by decide +kernel)) rfl, Wd_of (List.mem_of_getElem? (i := 63) (by decide +kernel)) rfl⟩
theorem mw_X10_426 : MW RX10 426 mX10_divisor 2 := ⟨Wd_of (List.mem_of_getElem? (i := 1520) (by decide +kernel)) rfl, Wd_of (List.mem_of_getElem? (i := 92) (by decide +kernel)) rfl, Wd_of (List.mem_of_getElem? (i := 1523) (by decide +kernel)) rfl, ⟨by decide, by decide, by decide +kernel⟩, by decide⟩
theorem mv_X10_divisor : MV mX10_divisor := ⟨Wd_of (List.mem_of_getElem? (i := 1522) (by decide +kernel)) rfl, Wd_of (List.mem_of_getElem? (i := 68) (by decide +kernel)) rfl⟩
