/-! words of the tables, by program -/
abbrev mX8_find : MD := (yX8_find, cX8_find, 2, (some (.object "FireFromFire$House")))
theorem fw_X8_9 : FW RX8 9 8 0 0 := ⟨RX8, TX8, 10, rfl, by decide, inWd8, Wd_of (List.mem_of_getElem? (i := 178) (by decide +kernel)) rfl, rfl⟩
theorem fw_X8_17 : FW RX8 17 8 1 2 := ⟨RX8, TX8, 10, rfl, by decide, inWd8, Wd_of (List.mem_of_getElem? (i := 183) (by decide +kernel)) rfl, rfl⟩
abbrev mX8_copy : MD := (yX8_copy, cX8_copy, 3, none)
theorem fp_X8_9 : FP RX8 9 8 0 .int false := ⟨RX8, TX8, 10, tyX8, rfl, by decide, inWd8, Wd_of (List.mem_of_getElem? (i := 178) (by decide +kernel)) rfl, tyX8_ok, nmX8, rfl, rfl, fun h => by cases h⟩
theorem fw_X8_26 : FW RX8 26 8 3 0 := ⟨RX8, TX8, 10, rfl, by decide, inWd8, Wd_of (List.mem_of_getElem? (i := 189) (by decide +kernel)) rfl, rfl⟩
theorem fp_X8_26 : FP RX8 26 8 3 .int false := ⟨RX8, TX8, 10, tyX8, rfl, by decide, inWd8, Wd_of (List.mem_of_getElem? (i := 189) (by decide +kernel)) rfl, tyX8_ok, nmX8, rfl, rfl, fun h => by cases h⟩
theorem fw_X8_29 : FW RX8 29 8 4 0 := ⟨RX8, TX8, 10, rfl, by decide, inWd8, Wd_of (List.mem_of_getElem? (i := 193) (by decide +kernel)) rfl, rfl⟩
theorem fp_X8_29 : FP RX8 29 8 4 .int false := ⟨RX8, TX8, 10, tyX8, rfl, by decide, inWd8, Wd_of (List.mem_of_getElem? (i := 193) (by decide +kernel)) rfl, tyX8_ok, nmX8, rfl, rfl, fun h => by cases h⟩
theorem fw_X8_32 : FW RX8 32 8 5 2 := ⟨RX8, TX8, 10, rfl, by decide, inWd8, Wd_of (List.mem_of_getElem? (i := 196) (by decide +kernel)) rfl, rfl⟩
theorem fp_X8_32 : FP RX8 32 8 5 (tyX8 5) false := ⟨RX8, TX8, 10, tyX8, rfl, by decide, inWd8, Wd_of (List.mem_of_getElem? (i := 196) (by decide +kernel)) rfl, tyX8_ok, nmX8, rfl, rfl, fun h => by cases h⟩
theorem fw_X8_36 : FW RX8 36 8 6 0 := ⟨RX8, TX8, 10, rfl, by decide, inWd8, Wd_of (List.mem_of_getElem? (i := 198) (by decide +kernel)) rfl, rfl⟩
theorem fp_X8_36 : FP RX8 36 8 6 .int false := ⟨RX8, TX8, 10, tyX8, rfl, by decide, inWd8, Wd_of (List.mem_of_getElem? (i := 198) (by decide +kernel)) rfl, tyX8_ok, nmX8, rfl, rfl, fun h => by cases h⟩
theorem mw_X8_50 : MW RX8 50 mX2_copy 1 := ⟨Wd_of (List.mem_of_getElem? (i := 774) (by decide +kernel)) rfl, Wd_of (List.mem_of_getElem? (i := 84) (by decide +kernel)) rfl, Wd_of (List.mem_of_getElem? (i := 777) (by decide +kernel)) rfl, ⟨by decide, by decide, by decide +kernel⟩, by decide⟩
theorem mv_X2_copy : MV mX2_copy := ⟨Wd_of (List.mem_of_getElem? (i := 775) (by decide +kernel)) rfl, Wd_of (List.mem_of_getElem? (i := 776) (by decide +kernel)) rfl⟩
theorem fw_X8_23 : FW RX8 23 8 2 2 := ⟨RX8, TX8, 10, rfl, by decide, inWd8, Wd_of (List.mem_of_getElem? (i := 187) (by decide +kernel)) rfl, rfl⟩
theorem jc_X8_54 : CP RX8 54 := ⟨Wd_of (List.mem_of_getElem? (i := 778) (by decide +kernel)) rfl, Wd_of (List.mem_of_getElem? (i := 780) (by decide +kernel)) rfl, Wd_of (List.mem_of_getElem? (i := 779) (by decide +kernel)) rfl, Wd_of (List.mem_of_getElem? (i := 100) (by decide +kernel)) rfl⟩
theorem fw_X8_39 : FW RX8 39 8 7 2 := ⟨RX8, TX8, 10, rfl, by decide, inWd8, Wd_of (List.mem_of_getElem? (i := 200) (by decide +kernel)) rfl, rfl⟩
theorem fw_X8_43 : FW RX8 43 8 8 2 := ⟨RX8, TX8, 10, rfl, by decide, inWd8, Wd_of (List.mem_of_getElem? (i := 203) (by decide +kernel)) rfl, rfl⟩
abbrev mX8_hoursBetween : MD := (yX8_hoursBetween, cX8_hoursBetween, 3, (some .int))
abbrev mX8_join : MD := (yX8_join, cX8_join, 4, none)
abbrev mX8_litBits : MD := (yX8_litBits, cX8_litBits, 3, (some .int))
theorem fw_X8_60 : FW RX8 60 2 1 0 := ⟨RX2, TX2, 9, rfl, by decide, inWd2, Wd_of (List.mem_of_getElem? (i := 133) (by decide +kernel)) rfl, rfl⟩
abbrev mX8_litCount : MD := (yX8_litCount, cX8_litCount, 1, (some .int))
theorem mw_X8_64 : MW RX8 64 mX8_litBits 0 := ⟨Wd_of (List.mem_of_getElem? (i := 669) (by decide +kernel)) rfl, Wd_of (List.mem_of_getElem? (i := 83) (by decide +kernel)) rfl, Wd_of (List.mem_of_getElem? (i := 672) (by decide +kernel)) rfl, ⟨by decide, by decide, by decide +kernel⟩, by decide⟩
theorem mv_X8_litBits : MV mX8_litBits := ⟨Wd_of (List.mem_of_getElem? (i := 670) (by decide +kernel)) rfl, Wd_of (List.mem_of_getElem? (i := 671) (by decide +kernel)) rfl⟩
theorem mw_X8_68 : MW RX8 68 mJ6_bitCount_0f7a4 1 := ⟨Wd_of (List.mem_of_getElem? (i := 673) (by decide +kernel)) rfl, Wd_of (List.mem_of_getElem? (i := 99) (by decide +kernel)) rfl, Wd_of (List.mem_of_getElem? (i := 675) (by decide +kernel)) rfl, ⟨by decide, by decide, by decide +kernel⟩, by decide⟩
theorem ms_J6_bitCount_0f7a4 : Cond.static mJ6_bitCount_0f7a4.1 ∈ Wd := Wd_of (List.mem_of_getElem? (i := 674) (by decide +kernel)) rfl
abbrev mX8_payAll : MD := (yX8_payAll, cX8_payAll, 3, none)
theorem fp_X8_74 : FP RX8 74 2 2 .int false := ⟨RX2, TX2, 9, tyX2, rfl, by decide, inWd2, Wd_of (List.mem_of_getElem? (i := 137) (by decide +kernel)) rfl, tyX2_ok, nmX2, rfl, rfl, fun h => by cases h⟩
theorem fp_X8_77 : FP RX8 77 2 3 .int false := ⟨RX2, TX2, 9, tyX2, rfl, by decide, inWd2, Wd_of (List.mem_of_getElem? (i := 141) (by decide +kernel)) rfl, tyX2_ok, nmX2, rfl, rfl, fun h => by cases h⟩
abbrev mX8_sum : MD := (yX8_sum, cX8_sum, 7, (some .int))
theorem mw_X8_80 : MW RX8 80 mX8_find 1 := ⟨Wd_of (List.mem_of_getElem? (i := 668) (by decide +kernel)) rfl, Wd_of (List.mem_of_getElem? (i := 83) (by decide +kernel)) rfl, Wd_of (List.mem_of_getElem? (i := 456) (by decide +kernel)) rfl, ⟨by decide, by decide, by decide +kernel⟩, by decide⟩
theorem mv_X8_find : MV mX8_find := ⟨Wd_of (List.mem_of_getElem? (i := 454) (by decide +kernel)) rfl, Wd_of (List.mem_of_getElem? (i := 455) (by decide +kernel)) rfl⟩
theorem fw_X8_46 : FW RX8 46 8 9 2 := ⟨RX8, TX8, 10, rfl, by decide, inWd8, Wd_of (List.mem_of_getElem? (i := 206) (by decide +kernel)) rfl, rfl⟩
theorem fw_X8_74 : FW RX8 74 2 2 0 := ⟨RX2, TX2, 9, rfl, by decide, inWd2, Wd_of (List.mem_of_getElem? (i := 137) (by decide +kernel)) rfl, rfl⟩
theorem fw_X8_84 : FW RX8 84 2 0 0 := ⟨RX2, TX2, 9, rfl, by decide, inWd2, Wd_of (List.mem_of_getElem? (i := 127) (by decide +kernel)) rfl, rfl⟩
theorem fw_X8_87 : FW RX8 87 3 0 0 := ⟨RX3, TX3, 9, rfl, by decide, inWd3, Wd_of (List.mem_of_getElem? (i := 350) (by decide +kernel)) rfl, rfl⟩
theorem fw_X8_92 : FW RX8 92 3 2 2 := ⟨RX3, TX3, 9, rfl, by decide, inWd3, Wd_of (List.mem_of_getElem? (i := 354) (by decide +kernel)) rfl, rfl⟩
theorem mw_X8_95 : MW RX8 95 mX3_holds 2 := ⟨Wd_of (List.mem_of_getElem? (i := 679) (by decide +kernel)) rfl, Wd_of (List.mem_of_getElem? (i := 90) (by decide +kernel)) rfl, Wd_of (List.mem_of_getElem? (i := 682) (by decide +kernel)) rfl, ⟨by decide, by decide, by decide +kernel⟩, by decide⟩
theorem mv_X3_holds : MV mX3_holds := ⟨Wd_of (List.mem_of_getElem? (i := 680) (by decide +kernel)) rfl, Wd_of (List.mem_of_getElem? (i := 681) (by decide +kernel)) rfl⟩
theorem fw_X8_99 : FW RX8 99 3 3 2 := ⟨RX3, TX3, 9, rfl, by decide, inWd3, Wd_of (List.mem_of_getElem? (i := 356) (by decide +kernel)) rfl, rfl⟩
theorem js_min : Cond.static Lib.Math.min.name ∈ Wd ∧ Cond.initialized "java/lang/Math" ∈ Wd ∧ Cond.code Lib.Math.min.name Lib.Math.min.code 2 (some .int) ∈ Wd := ⟨Wd_of (List.mem_of_getElem? (i := 612) (by decide +kernel)) rfl, Wd_of (List.mem_of_getElem? (i := 97) (by decide +kernel)) rfl, Wd_of (List.mem_of_getElem? (i := 613) (by decide +kernel)) rfl⟩
theorem jm_X8_102 : Cond.methodLink RX8 102 Lib.Math.min.name ∈ Wd := Wd_of (List.mem_of_getElem? (i := 687) (by decide +kernel)) rfl
abbrev mX8_tenthsOf : MD := (yX8_tenthsOf, cX8_tenthsOf, 6, (some .int))
theorem mw_X8_108 : MW RX8 108 mX3_lastNext 2 := ⟨Wd_of (List.mem_of_getElem? (i := 696) (by decide +kernel)) rfl, Wd_of (List.mem_of_getElem? (i := 90) (by decide +kernel)) rfl, Wd_of (List.mem_of_getElem? (i := 699) (by decide +kernel)) rfl, ⟨by decide, by decide, by decide +kernel⟩, by decide⟩
theorem mv_X3_lastNext : MV mX3_lastNext := ⟨Wd_of (List.mem_of_getElem? (i := 697) (by decide +kernel)) rfl, Wd_of (List.mem_of_getElem? (i := 698) (by decide +kernel)) rfl⟩
abbrev mX8_nearestFire : MD := (yX8_nearestFire, cX8_nearestFire, 6, (some .int))
theorem mw_X8_111 : MW RX8 111 mX8_hoursBetween 2 := ⟨Wd_of (List.mem_of_getElem? (i := 725) (by decide +kernel)) rfl, Wd_of (List.mem_of_getElem? (i := 83) (by decide +kernel)) rfl, Wd_of (List.mem_of_getElem? (i := 472) (by decide +kernel)) rfl, ⟨by decide, by decide, by decide +kernel⟩, by decide⟩
theorem mv_X8_hoursBetween : MV mX8_hoursBetween := ⟨Wd_of (List.mem_of_getElem? (i := 470) (by decide +kernel)) rfl, Wd_of (List.mem_of_getElem? (i := 471) (by decide +kernel)) rfl⟩
abbrev mX8_isKeeping : MD := (yX8_isKeeping, cX8_isKeeping, 4, (some .boolean))
theorem mw_X8_127 : MW RX8 127 mX8_sum 3 := ⟨Wd_of (List.mem_of_getElem? (i := 720) (by decide +kernel)) rfl, Wd_of (List.mem_of_getElem? (i := 83) (by decide +kernel)) rfl, Wd_of (List.mem_of_getElem? (i := 667) (by decide +kernel)) rfl, ⟨by decide, by decide, by decide +kernel⟩, by decide⟩
theorem mv_X8_sum : MV mX8_sum := ⟨Wd_of (List.mem_of_getElem? (i := 665) (by decide +kernel)) rfl, Wd_of (List.mem_of_getElem? (i := 666) (by decide +kernel)) rfl⟩
theorem fw_X8_77 : FW RX8 77 2 3 0 := ⟨RX2, TX2, 9, rfl, by decide, inWd2, Wd_of (List.mem_of_getElem? (i := 141) (by decide +kernel)) rfl, rfl⟩
theorem fw_X8_131 : FW RX8 131 2 4 0 := ⟨RX2, TX2, 9, rfl, by decide, inWd2, Wd_of (List.mem_of_getElem? (i := 144) (by decide +kernel)) rfl, rfl⟩
abbrev mX8_isSending : MD := (yX8_isSending, cX8_isSending, 4, (some .boolean))
abbrev mX8_choice : MD := (yX8_choice, cX8_choice, 4, (some .int))
theorem fw_X8_118 : FW RX8 118 2 5 0 := ⟨RX2, TX2, 9, rfl, by decide, inWd2, Wd_of (List.mem_of_getElem? (i := 148) (by decide +kernel)) rfl, rfl⟩
theorem mw_X8_121 : MW RX8 121 mX8_nearestFire 1 := ⟨Wd_of (List.mem_of_getElem? (i := 721) (by decide +kernel)) rfl, Wd_of (List.mem_of_getElem? (i := 83) (by decide +kernel)) rfl, Wd_of (List.mem_of_getElem? (i := 724) (by decide +kernel)) rfl, ⟨by decide, by decide, by decide +kernel⟩, by decide⟩
theorem mv_X8_nearestFire : MV mX8_nearestFire := ⟨Wd_of (List.mem_of_getElem? (i := 722) (by decide +kernel)) rfl, Wd_of (List.mem_of_getElem? (i := 723) (by decide +kernel)) rfl⟩
theorem mw_X8_124 : MW RX8 124 mX8_isSending 3 := ⟨Wd_of (List.mem_of_getElem? (i := 726) (by decide +kernel)) rfl, Wd_of (List.mem_of_getElem? (i := 83) (by decide +kernel)) rfl, Wd_of (List.mem_of_getElem? (i := 729) (by decide +kernel)) rfl, ⟨by decide, by decide, by decide +kernel⟩, by decide⟩
theorem mv_X8_isSending : MV mX8_isSending := ⟨Wd_of (List.mem_of_getElem? (i := 728) (by decide +kernel)) rfl, Wd_of (List.mem_of_getElem? (i := 11) (by decide +kernel)) rfl⟩
theorem mw_X8_114 : MW RX8 114 mX8_isKeeping 3 := ⟨Wd_of (List.mem_of_getElem? (i := 716) (by decide +kernel)) rfl, Wd_of (List.mem_of_getElem? (i := 83) (by decide +kernel)) rfl, Wd_of (List.mem_of_getElem? (i := 719) (by decide +kernel)) rfl, ⟨by decide, by decide, by decide +kernel⟩, by decide⟩
theorem mv_X8_isKeeping : MV mX8_isKeeping := ⟨Wd_of (List.mem_of_getElem? (i := 718) (by decide +kernel)) rfl, Wd_of (List.mem_of_getElem? (i := 10) (by decide +kernel)) rfl⟩
