/-! words of the tables, by program -/
abbrev mJ6_compare_7cf53 : MD := (yJ6_compare_7cf53, cJ6_compare_7cf53, 2, (some .int))
abbrev mJ6_bitCount_0f7a4 : MD := (yJ6_bitCount_0f7a4, cJ6_bitCount_0f7a4, 1, (some .int))
theorem cc_J6_265 : Cond.constant RJ6 265 (1431655765) ∈ Wd := Wd_of (List.mem_of_getElem? (i := 676) (by decide +kernel)) rfl
theorem cc_J6_266 : Cond.constant RJ6 266 (858993459) ∈ Wd := Wd_of (List.mem_of_getElem? (i := 677) (by decide +kernel)) rfl
theorem cc_J6_267 : Cond.constant RJ6 267 (252645135) ∈ Wd := Wd_of (List.mem_of_getElem? (i := 678) (by decide +kernel)) rfl
abbrev mX2_setOut : MD := (yX2_setOut, cX2_setOut, 4, none)
theorem fp_X2_28 : FP RX2 28 2 5 .int false := ⟨RX2, TX2, 9, tyX2, rfl, by decide, inWd2, Wd_of (List.mem_of_getElem? (i := 145) (by decide +kernel)) rfl, tyX2_ok, nmX2, rfl, rfl, fun h => by cases h⟩
theorem fp_X2_31 : FP RX2 31 2 6 .int false := ⟨RX2, TX2, 9, tyX2, rfl, by decide, inWd2, Wd_of (List.mem_of_getElem? (i := 149) (by decide +kernel)) rfl, tyX2_ok, nmX2, rfl, rfl, fun h => by cases h⟩
theorem fp_X2_34 : FP RX2 34 2 7 .int false := ⟨RX2, TX2, 9, tyX2, rfl, by decide, inWd2, Wd_of (List.mem_of_getElem? (i := 152) (by decide +kernel)) rfl, tyX2_ok, nmX2, rfl, rfl, fun h => by cases h⟩
theorem fp_X2_37 : FP RX2 37 2 8 .int false := ⟨RX2, TX2, 9, tyX2, rfl, by decide, inWd2, Wd_of (List.mem_of_getElem? (i := 155) (by decide +kernel)) rfl, tyX2_ok, nmX2, rfl, rfl, fun h => by cases h⟩
abbrev mX2_start : MD := (yX2_start, cX2_start, 3, none)
theorem fp_X2_9 : FP RX2 9 2 0 .int false := ⟨RX2, TX2, 9, tyX2, rfl, by decide, inWd2, Wd_of (List.mem_of_getElem? (i := 124) (by decide +kernel)) rfl, tyX2_ok, nmX2, rfl, rfl, fun h => by cases h⟩
theorem fp_X2_15 : FP RX2 15 2 1 .boolean false := ⟨RX2, TX2, 9, tyX2, rfl, by decide, inWd2, Wd_of (List.mem_of_getElem? (i := 128) (by decide +kernel)) rfl, tyX2_ok, nmX2, rfl, rfl, fun h => by cases h⟩
theorem fp_X2_19 : FP RX2 19 2 2 .int false := ⟨RX2, TX2, 9, tyX2, rfl, by decide, inWd2, Wd_of (List.mem_of_getElem? (i := 134) (by decide +kernel)) rfl, tyX2_ok, nmX2, rfl, rfl, fun h => by cases h⟩
theorem fp_X2_22 : FP RX2 22 2 3 .int false := ⟨RX2, TX2, 9, tyX2, rfl, by decide, inWd2, Wd_of (List.mem_of_getElem? (i := 138) (by decide +kernel)) rfl, tyX2_ok, nmX2, rfl, rfl, fun h => by cases h⟩
theorem fp_X2_25 : FP RX2 25 2 4 .int false := ⟨RX2, TX2, 9, tyX2, rfl, by decide, inWd2, Wd_of (List.mem_of_getElem? (i := 142) (by decide +kernel)) rfl, tyX2_ok, nmX2, rfl, rfl, fun h => by cases h⟩
theorem mw_X2_40 : MW RX2 40 mX2_setOut 3 := ⟨Wd_of (List.mem_of_getElem? (i := 445) (by decide +kernel)) rfl, Wd_of (List.mem_of_getElem? (i := 84) (by decide +kernel)) rfl, Wd_of (List.mem_of_getElem? (i := 448) (by decide +kernel)) rfl, ⟨by decide, by decide, by decide +kernel⟩, by decide⟩
theorem mv_X2_setOut : MV mX2_setOut := ⟨Wd_of (List.mem_of_getElem? (i := 446) (by decide +kernel)) rfl, Wd_of (List.mem_of_getElem? (i := 447) (by decide +kernel)) rfl⟩
abbrev mX2_copy : MD := (yX2_copy, cX2_copy, 2, none)
theorem fw_X2_9 : FW RX2 9 2 0 0 := ⟨RX2, TX2, 9, rfl, by decide, inWd2, Wd_of (List.mem_of_getElem? (i := 124) (by decide +kernel)) rfl, rfl⟩
theorem fw_X2_15 : FW RX2 15 2 1 0 := ⟨RX2, TX2, 9, rfl, by decide, inWd2, Wd_of (List.mem_of_getElem? (i := 128) (by decide +kernel)) rfl, rfl⟩
theorem fw_X2_19 : FW RX2 19 2 2 0 := ⟨RX2, TX2, 9, rfl, by decide, inWd2, Wd_of (List.mem_of_getElem? (i := 134) (by decide +kernel)) rfl, rfl⟩
theorem fw_X2_22 : FW RX2 22 2 3 0 := ⟨RX2, TX2, 9, rfl, by decide, inWd2, Wd_of (List.mem_of_getElem? (i := 138) (by decide +kernel)) rfl, rfl⟩
theorem fw_X2_25 : FW RX2 25 2 4 0 := ⟨RX2, TX2, 9, rfl, by decide, inWd2, Wd_of (List.mem_of_getElem? (i := 142) (by decide +kernel)) rfl, rfl⟩
theorem fw_X2_28 : FW RX2 28 2 5 0 := ⟨RX2, TX2, 9, rfl, by decide, inWd2, Wd_of (List.mem_of_getElem? (i := 145) (by decide +kernel)) rfl, rfl⟩
theorem fw_X2_31 : FW RX2 31 2 6 0 := ⟨RX2, TX2, 9, rfl, by decide, inWd2, Wd_of (List.mem_of_getElem? (i := 149) (by decide +kernel)) rfl, rfl⟩
theorem fw_X2_34 : FW RX2 34 2 7 0 := ⟨RX2, TX2, 9, rfl, by decide, inWd2, Wd_of (List.mem_of_getElem? (i := 152) (by decide +kernel)) rfl, rfl⟩
theorem fw_X2_37 : FW RX2 37 2 8 0 := ⟨RX2, TX2, 9, rfl, by decide, inWd2, Wd_of (List.mem_of_getElem? (i := 155) (by decide +kernel)) rfl, rfl⟩
abbrev mX3_addClause : MD := (yX3_addClause, cX3_addClause, 5, none)
theorem fw_X3_9 : FW RX3 9 3 0 0 := ⟨RX3, TX3, 9, rfl, by decide, inWd3, Wd_of (List.mem_of_getElem? (i := 348) (by decide +kernel)) rfl, rfl⟩
theorem fw_X3_18 : FW RX3 18 3 2 2 := ⟨RX3, TX3, 9, rfl, by decide, inWd3, Wd_of (List.mem_of_getElem? (i := 353) (by decide +kernel)) rfl, rfl⟩
theorem fw_X3_22 : FW RX3 22 3 3 2 := ⟨RX3, TX3, 9, rfl, by decide, inWd3, Wd_of (List.mem_of_getElem? (i := 355) (by decide +kernel)) rfl, rfl⟩
theorem fw_X3_25 : FW RX3 25 3 4 2 := ⟨RX3, TX3, 9, rfl, by decide, inWd3, Wd_of (List.mem_of_getElem? (i := 357) (by decide +kernel)) rfl, rfl⟩
theorem fw_X3_28 : FW RX3 28 3 5 2 := ⟨RX3, TX3, 9, rfl, by decide, inWd3, Wd_of (List.mem_of_getElem? (i := 358) (by decide +kernel)) rfl, rfl⟩
theorem fp_X3_9 : FP RX3 9 3 0 .int false := ⟨RX3, TX3, 9, tyX3, rfl, by decide, inWd3, Wd_of (List.mem_of_getElem? (i := 348) (by decide +kernel)) rfl, tyX3_ok, nmX3, rfl, rfl, fun h => by cases h⟩
abbrev mX3_addStep : MD := (yX3_addStep, cX3_addStep, 4, none)
theorem fw_X3_15 : FW RX3 15 3 1 0 := ⟨RX3, TX3, 9, rfl, by decide, inWd3, Wd_of (List.mem_of_getElem? (i := 351) (by decide +kernel)) rfl, rfl⟩
theorem fw_X3_31 : FW RX3 31 3 6 2 := ⟨RX3, TX3, 9, rfl, by decide, inWd3, Wd_of (List.mem_of_getElem? (i := 359) (by decide +kernel)) rfl, rfl⟩
theorem fw_X3_34 : FW RX3 34 3 7 2 := ⟨RX3, TX3, 9, rfl, by decide, inWd3, Wd_of (List.mem_of_getElem? (i := 360) (by decide +kernel)) rfl, rfl⟩
theorem fw_X3_37 : FW RX3 37 3 8 2 := ⟨RX3, TX3, 9, rfl, by decide, inWd3, Wd_of (List.mem_of_getElem? (i := 361) (by decide +kernel)) rfl, rfl⟩
theorem fp_X3_15 : FP RX3 15 3 1 .int false := ⟨RX3, TX3, 9, tyX3, rfl, by decide, inWd3, Wd_of (List.mem_of_getElem? (i := 351) (by decide +kernel)) rfl, tyX3_ok, nmX3, rfl, rfl, fun h => by cases h⟩
abbrev mX3_lastNext : MD := (yX3_lastNext, cX3_lastNext, 5, (some .int))
abbrev mX3_holds : MD := (yX3_holds, cX3_holds, 8, (some .boolean))
theorem js_max : Cond.static Lib.Math.max.name ∈ Wd ∧ Cond.initialized "java/lang/Math" ∈ Wd ∧ Cond.code Lib.Math.max.name Lib.Math.max.code 2 (some .int) ∈ Wd := ⟨Wd_of (List.mem_of_getElem? (i := 576) (by decide +kernel)) rfl, Wd_of (List.mem_of_getElem? (i := 97) (by decide +kernel)) rfl, Wd_of (List.mem_of_getElem? (i := 577) (by decide +kernel)) rfl⟩
theorem jm_X3_40 : Cond.methodLink RX3 40 Lib.Math.max.name ∈ Wd := Wd_of (List.mem_of_getElem? (i := 683) (by decide +kernel)) rfl
theorem mw_X3_46 : MW RX3 46 mJ6_compare_7cf53 2 := ⟨Wd_of (List.mem_of_getElem? (i := 684) (by decide +kernel)) rfl, Wd_of (List.mem_of_getElem? (i := 99) (by decide +kernel)) rfl, Wd_of (List.mem_of_getElem? (i := 686) (by decide +kernel)) rfl, ⟨by decide, by decide, by decide +kernel⟩, by decide⟩
theorem ms_J6_compare_7cf53 : Cond.static mJ6_compare_7cf53.1 ∈ Wd := Wd_of (List.mem_of_getElem? (i := 685) (by decide +kernel)) rfl
abbrev mX7_start : MD := (yX7_start, cX7_start, 4, none)
theorem fp_X7_9 : FP RX7 9 7 0 .int false := ⟨RX7, TX7, 3, tyX7, rfl, by decide, inWd7, Wd_of (List.mem_of_getElem? (i := 386) (by decide +kernel)) rfl, tyX7_ok, nmX7, rfl, rfl, fun h => by cases h⟩
theorem fp_X7_15 : FP RX7 15 7 1 .int false := ⟨RX7, TX7, 3, tyX7, rfl, by decide, inWd7, Wd_of (List.mem_of_getElem? (i := 388) (by decide +kernel)) rfl, tyX7_ok, nmX7, rfl, rfl, fun h => by cases h⟩
theorem fw_X7_18 : FW RX7 18 7 2 2 := ⟨RX7, TX7, 3, rfl, by decide, inWd7, Wd_of (List.mem_of_getElem? (i := 390) (by decide +kernel)) rfl, rfl⟩
abbrev mX7_isRow : MD := (yX7_isRow, cX7_isRow, 1, (some .boolean))
theorem fw_X7_9 : FW RX7 9 7 0 0 := ⟨RX7, TX7, 3, rfl, by decide, inWd7, Wd_of (List.mem_of_getElem? (i := 386) (by decide +kernel)) rfl, rfl⟩
abbrev mX7_has : MD := (yX7_has, cX7_has, 3, (some .boolean))
theorem fw_X7_15 : FW RX7 15 7 1 0 := ⟨RX7, TX7, 3, rfl, by decide, inWd7, Wd_of (List.mem_of_getElem? (i := 388) (by decide +kernel)) rfl, rfl⟩
abbrev mX7_get : MD := (yX7_get, cX7_get, 2, (some .long))
abbrev mX7_cut : MD := (yX7_cut, cX7_cut, 3, (some .long))
abbrev mX7_put : MD := (yX7_put, cX7_put, 4, none)
theorem mw_X7_22 : MW RX7 22 mX7_cut 1 := ⟨Wd_of (List.mem_of_getElem? (i := 983) (by decide +kernel)) rfl, Wd_of (List.mem_of_getElem? (i := 91) (by decide +kernel)) rfl, Wd_of (List.mem_of_getElem? (i := 986) (by decide +kernel)) rfl, ⟨by decide, by decide, by decide +kernel⟩, by decide⟩
theorem mv_X7_cut : MV mX7_cut := ⟨Wd_of (List.mem_of_getElem? (i := 985) (by decide +kernel)) rfl, Wd_of (List.mem_of_getElem? (i := 21) (by decide +kernel)) rfl⟩
abbrev mX0_begin : MD := (yX0_begin, cX0_begin, 3, none)
theorem fp_X0_9 : FP RX0 9 0 0 .int false := ⟨RX0, TX0, 5, tyX0, rfl, by decide, inWd0, Wd_of (List.mem_of_getElem? (i := 323) (by decide +kernel)) rfl, tyX0_ok, nmX0, rfl, rfl, fun h => by cases h⟩
theorem fw_X0_28 : FW RX0 28 2 2 0 := ⟨RX2, TX2, 9, rfl, by decide, inWd2, Wd_of (List.mem_of_getElem? (i := 135) (by decide +kernel)) rfl, rfl⟩
theorem fp_X0_19 : FP RX0 19 0 2 .int false := ⟨RX0, TX0, 5, tyX0, rfl, by decide, inWd0, Wd_of (List.mem_of_getElem? (i := 327) (by decide +kernel)) rfl, tyX0_ok, nmX0, rfl, rfl, fun h => by cases h⟩
theorem fw_X0_31 : FW RX0 31 2 3 0 := ⟨RX2, TX2, 9, rfl, by decide, inWd2, Wd_of (List.mem_of_getElem? (i := 139) (by decide +kernel)) rfl, rfl⟩
theorem fp_X0_22 : FP RX0 22 0 3 .int false := ⟨RX0, TX0, 5, tyX0, rfl, by decide, inWd0, Wd_of (List.mem_of_getElem? (i := 328) (by decide +kernel)) rfl, tyX0_ok, nmX0, rfl, rfl, fun h => by cases h⟩
theorem fp_X0_25 : FP RX0 25 0 4 .int false := ⟨RX0, TX0, 5, tyX0, rfl, by decide, inWd0, Wd_of (List.mem_of_getElem? (i := 329) (by decide +kernel)) rfl, tyX0_ok, nmX0, rfl, rfl, fun h => by cases h⟩
abbrev mX0_note : MD := (yX0_note, cX0_note, 2, none)
theorem fw_X0_9 : FW RX0 9 0 0 0 := ⟨RX0, TX0, 5, rfl, by decide, inWd0, Wd_of (List.mem_of_getElem? (i := 323) (by decide +kernel)) rfl, rfl⟩
theorem fw_X0_15 : FW RX0 15 0 1 2 := ⟨RX0, TX0, 5, rfl, by decide, inWd0, Wd_of (List.mem_of_getElem? (i := 325) (by decide +kernel)) rfl, rfl⟩
abbrev mX0_plainKeeps : MD := (yX0_plainKeeps, cX0_plainKeeps, 2, (some .int))
theorem mw_X0_32 : MW RX0 32 mX0_note 1 := ⟨Wd_of (List.mem_of_getElem? (i := 930) (by decide +kernel)) rfl, Wd_of (List.mem_of_getElem? (i := 89) (by decide +kernel)) rfl, Wd_of (List.mem_of_getElem? (i := 933) (by decide +kernel)) rfl, ⟨by decide, by decide, by decide +kernel⟩, by decide⟩
theorem mv_X0_note : MV mX0_note := ⟨Wd_of (List.mem_of_getElem? (i := 932) (by decide +kernel)) rfl, Wd_of (List.mem_of_getElem? (i := 18) (by decide +kernel)) rfl⟩
theorem fw_X0_25 : FW RX0 25 0 4 0 := ⟨RX0, TX0, 5, rfl, by decide, inWd0, Wd_of (List.mem_of_getElem? (i := 329) (by decide +kernel)) rfl, rfl⟩
abbrev mX0_keepsBody : MD := (yX0_keepsBody, cX0_keepsBody, 2, (some .int))
theorem fw_X0_19 : FW RX0 19 0 2 0 := ⟨RX0, TX0, 5, rfl, by decide, inWd0, Wd_of (List.mem_of_getElem? (i := 327) (by decide +kernel)) rfl, rfl⟩
theorem mw_X0_36 : MW RX0 36 mX0_plainKeeps 1 := ⟨Wd_of (List.mem_of_getElem? (i := 934) (by decide +kernel)) rfl, Wd_of (List.mem_of_getElem? (i := 89) (by decide +kernel)) rfl, Wd_of (List.mem_of_getElem? (i := 937) (by decide +kernel)) rfl, ⟨by decide, by decide, by decide +kernel⟩, by decide⟩
theorem mv_X0_plainKeeps : MV mX0_plainKeeps := ⟨Wd_of (List.mem_of_getElem? (i := 936) (by decide +kernel)) rfl, Wd_of (List.mem_of_getElem? (i := 19) (by decide +kernel)) rfl⟩
theorem fw_X0_22 : FW RX0 22 0 3 0 := ⟨RX0, TX0, 5, rfl, by decide, inWd0, Wd_of (List.mem_of_getElem? (i := 328) (by decide +kernel)) rfl, rfl⟩
abbrev mX0_plainSends : MD := (yX0_plainSends, cX0_plainSends, 2, (some .int))
theorem mw_X0_46 : MW RX0 46 mX0_keepsBody 1 := ⟨Wd_of (List.mem_of_getElem? (i := 946) (by decide +kernel)) rfl, Wd_of (List.mem_of_getElem? (i := 89) (by decide +kernel)) rfl, Wd_of (List.mem_of_getElem? (i := 929) (by decide +kernel)) rfl, ⟨by decide, by decide, by decide +kernel⟩, by decide⟩
theorem mv_X0_keepsBody : MV mX0_keepsBody := ⟨Wd_of (List.mem_of_getElem? (i := 927) (by decide +kernel)) rfl, Wd_of (List.mem_of_getElem? (i := 928) (by decide +kernel)) rfl⟩
abbrev mX0_sendsBody : MD := (yX0_sendsBody, cX0_sendsBody, 3, (some .int))
theorem mw_X0_40 : MW RX0 40 mX0_plainSends 1 := ⟨Wd_of (List.mem_of_getElem? (i := 942) (by decide +kernel)) rfl, Wd_of (List.mem_of_getElem? (i := 89) (by decide +kernel)) rfl, Wd_of (List.mem_of_getElem? (i := 945) (by decide +kernel)) rfl, ⟨by decide, by decide, by decide +kernel⟩, by decide⟩
theorem mv_X0_plainSends : MV mX0_plainSends := ⟨Wd_of (List.mem_of_getElem? (i := 944) (by decide +kernel)) rfl, Wd_of (List.mem_of_getElem? (i := 20) (by decide +kernel)) rfl⟩
abbrev mX0_tellsBody : MD := (yX0_tellsBody, cX0_tellsBody, 4, (some .int))
theorem mw_X0_43 : MW RX0 43 mX0_sendsBody 1 := ⟨Wd_of (List.mem_of_getElem? (i := 951) (by decide +kernel)) rfl, Wd_of (List.mem_of_getElem? (i := 89) (by decide +kernel)) rfl, Wd_of (List.mem_of_getElem? (i := 941) (by decide +kernel)) rfl, ⟨by decide, by decide, by decide +kernel⟩, by decide⟩
theorem mv_X0_sendsBody : MV mX0_sendsBody := ⟨Wd_of (List.mem_of_getElem? (i := 939) (by decide +kernel)) rfl, Wd_of (List.mem_of_getElem? (i := 940) (by decide +kernel)) rfl⟩
