/-! words of the tables, by program -/
abbrev mX1_begin : MD := (yX1_begin, cX1_begin, 1, none)
theorem fp_X1_9 : FP RX1 9 1 0 .int false := ⟨RX1, TX1, 6, tyX1, rfl, by decide, inWd1, Wd_of (List.mem_of_getElem? (i := 257) (by decide +kernel)) rfl, tyX1_ok, nmX1, rfl, rfl, fun h => by cases h⟩
theorem fp_X1_15 : FP RX1 15 1 1 .int false := ⟨RX1, TX1, 6, tyX1, rfl, by decide, inWd1, Wd_of (List.mem_of_getElem? (i := 260) (by decide +kernel)) rfl, tyX1_ok, nmX1, rfl, rfl, fun h => by cases h⟩
abbrev mX1_weigh : MD := (yX1_weigh, cX1_weigh, 5, none)
theorem fw_X1_31 : FW RX1 31 8 0 0 := ⟨RX8, TX8, 10, rfl, by decide, inWd8, Wd_of (List.mem_of_getElem? (i := 181) (by decide +kernel)) rfl, rfl⟩
theorem mw_X1_36 : MW RX1 36 mX8_sum 3 := ⟨Wd_of (List.mem_of_getElem? (i := 739) (by decide +kernel)) rfl, Wd_of (List.mem_of_getElem? (i := 83) (by decide +kernel)) rfl, Wd_of (List.mem_of_getElem? (i := 667) (by decide +kernel)) rfl, ⟨by decide, by decide, by decide +kernel⟩, by decide⟩
theorem fw_X1_40 : FW RX1 40 8 1 2 := ⟨RX8, TX8, 10, rfl, by decide, inWd8, Wd_of (List.mem_of_getElem? (i := 185) (by decide +kernel)) rfl, rfl⟩
theorem fw_X1_44 : FW RX1 44 2 1 0 := ⟨RX2, TX2, 9, rfl, by decide, inWd2, Wd_of (List.mem_of_getElem? (i := 129) (by decide +kernel)) rfl, rfl⟩
theorem fw_X1_15 : FW RX1 15 1 1 0 := ⟨RX1, TX1, 6, rfl, by decide, inWd1, Wd_of (List.mem_of_getElem? (i := 260) (by decide +kernel)) rfl, rfl⟩
theorem fw_X1_9 : FW RX1 9 1 0 0 := ⟨RX1, TX1, 6, rfl, by decide, inWd1, Wd_of (List.mem_of_getElem? (i := 257) (by decide +kernel)) rfl, rfl⟩
abbrev mX1_burn : MD := (yX1_burn, cX1_burn, 4, none)
theorem fw_X1_18 : FW RX1 18 1 2 2 := ⟨RX1, TX1, 6, rfl, by decide, inWd1, Wd_of (List.mem_of_getElem? (i := 262) (by decide +kernel)) rfl, rfl⟩
theorem fp_X1_44 : FP RX1 44 2 1 .boolean false := ⟨RX2, TX2, 9, tyX2, rfl, by decide, inWd2, Wd_of (List.mem_of_getElem? (i := 129) (by decide +kernel)) rfl, tyX2_ok, nmX2, rfl, rfl, fun h => by cases h⟩
theorem fw_X1_86 : FW RX1 86 2 0 0 := ⟨RX2, TX2, 9, rfl, by decide, inWd2, Wd_of (List.mem_of_getElem? (i := 126) (by decide +kernel)) rfl, rfl⟩
theorem fw_X1_22 : FW RX1 22 1 3 2 := ⟨RX1, TX1, 6, rfl, by decide, inWd1, Wd_of (List.mem_of_getElem? (i := 263) (by decide +kernel)) rfl, rfl⟩
theorem fp_X1_86 : FP RX1 86 2 0 .int false := ⟨RX2, TX2, 9, tyX2, rfl, by decide, inWd2, Wd_of (List.mem_of_getElem? (i := 126) (by decide +kernel)) rfl, tyX2_ok, nmX2, rfl, rfl, fun h => by cases h⟩
abbrev mX1_goNearer : MD := (yX1_goNearer, cX1_goNearer, 5, none)
theorem fw_X1_89 : FW RX1 89 2 6 0 := ⟨RX2, TX2, 9, rfl, by decide, inWd2, Wd_of (List.mem_of_getElem? (i := 151) (by decide +kernel)) rfl, rfl⟩
theorem fp_X1_89 : FP RX1 89 2 6 .int false := ⟨RX2, TX2, 9, tyX2, rfl, by decide, inWd2, Wd_of (List.mem_of_getElem? (i := 151) (by decide +kernel)) rfl, tyX2_ok, nmX2, rfl, rfl, fun h => by cases h⟩
theorem fw_X1_92 : FW RX1 92 2 7 0 := ⟨RX2, TX2, 9, rfl, by decide, inWd2, Wd_of (List.mem_of_getElem? (i := 154) (by decide +kernel)) rfl, rfl⟩
theorem mw_X1_95 : MW RX1 95 mX8_find 1 := ⟨Wd_of (List.mem_of_getElem? (i := 751) (by decide +kernel)) rfl, Wd_of (List.mem_of_getElem? (i := 83) (by decide +kernel)) rfl, Wd_of (List.mem_of_getElem? (i := 456) (by decide +kernel)) rfl, ⟨by decide, by decide, by decide +kernel⟩, by decide⟩
theorem mw_X1_64 : MW RX1 64 mX2_setOut 3 := ⟨Wd_of (List.mem_of_getElem? (i := 742) (by decide +kernel)) rfl, Wd_of (List.mem_of_getElem? (i := 84) (by decide +kernel)) rfl, Wd_of (List.mem_of_getElem? (i := 448) (by decide +kernel)) rfl, ⟨by decide, by decide, by decide +kernel⟩, by decide⟩
theorem mw_X1_61 : MW RX1 61 mX8_hoursBetween 2 := ⟨Wd_of (List.mem_of_getElem? (i := 741) (by decide +kernel)) rfl, Wd_of (List.mem_of_getElem? (i := 83) (by decide +kernel)) rfl, Wd_of (List.mem_of_getElem? (i := 472) (by decide +kernel)) rfl, ⟨by decide, by decide, by decide +kernel⟩, by decide⟩
theorem jm_X1_99 : Cond.methodLink RX1 99 Lib.Math.max.name ∈ Wd := Wd_of (List.mem_of_getElem? (i := 752) (by decide +kernel)) rfl
abbrev mX1_bringNearer : MD := (yX1_bringNearer, cX1_bringNearer, 3, none)
theorem fw_X1_104 : FW RX1 104 2 8 0 := ⟨RX2, TX2, 9, rfl, by decide, inWd2, Wd_of (List.mem_of_getElem? (i := 157) (by decide +kernel)) rfl, rfl⟩
theorem fp_X1_104 : FP RX1 104 2 8 .int false := ⟨RX2, TX2, 9, tyX2, rfl, by decide, inWd2, Wd_of (List.mem_of_getElem? (i := 157) (by decide +kernel)) rfl, tyX2_ok, nmX2, rfl, rfl, fun h => by cases h⟩
theorem fw_X1_25 : FW RX1 25 1 4 2 := ⟨RX1, TX1, 6, rfl, by decide, inWd1, Wd_of (List.mem_of_getElem? (i := 264) (by decide +kernel)) rfl, rfl⟩
abbrev mX1_pass : MD := (yX1_pass, cX1_pass, 6, none)
theorem mw_X1_50 : MW RX1 50 mX8_choice 2 := ⟨Wd_of (List.mem_of_getElem? (i := 738) (by decide +kernel)) rfl, Wd_of (List.mem_of_getElem? (i := 83) (by decide +kernel)) rfl, Wd_of (List.mem_of_getElem? (i := 715) (by decide +kernel)) rfl, ⟨by decide, by decide, by decide +kernel⟩, by decide⟩
theorem mv_X8_choice : MV mX8_choice := ⟨Wd_of (List.mem_of_getElem? (i := 713) (by decide +kernel)) rfl, Wd_of (List.mem_of_getElem? (i := 714) (by decide +kernel)) rfl⟩
theorem fw_X1_54 : FW RX1 54 2 5 0 := ⟨RX2, TX2, 9, rfl, by decide, inWd2, Wd_of (List.mem_of_getElem? (i := 147) (by decide +kernel)) rfl, rfl⟩
theorem fw_X1_28 : FW RX1 28 1 5 2 := ⟨RX1, TX1, 6, rfl, by decide, inWd1, Wd_of (List.mem_of_getElem? (i := 265) (by decide +kernel)) rfl, rfl⟩
theorem mw_X1_57 : MW RX1 57 mX8_nearestFire 1 := ⟨Wd_of (List.mem_of_getElem? (i := 740) (by decide +kernel)) rfl, Wd_of (List.mem_of_getElem? (i := 83) (by decide +kernel)) rfl, Wd_of (List.mem_of_getElem? (i := 724) (by decide +kernel)) rfl, ⟨by decide, by decide, by decide +kernel⟩, by decide⟩
theorem mw_X1_68 : MW RX1 68 mX1_burn 3 := ⟨Wd_of (List.mem_of_getElem? (i := 743) (by decide +kernel)) rfl, Wd_of (List.mem_of_getElem? (i := 86) (by decide +kernel)) rfl, Wd_of (List.mem_of_getElem? (i := 746) (by decide +kernel)) rfl, ⟨by decide, by decide, by decide +kernel⟩, by decide⟩
theorem mv_X1_burn : MV mX1_burn := ⟨Wd_of (List.mem_of_getElem? (i := 745) (by decide +kernel)) rfl, Wd_of (List.mem_of_getElem? (i := 12) (by decide +kernel)) rfl⟩
theorem mw_X1_76 : MW RX1 76 mX1_bringNearer 2 := ⟨Wd_of (List.mem_of_getElem? (i := 753) (by decide +kernel)) rfl, Wd_of (List.mem_of_getElem? (i := 86) (by decide +kernel)) rfl, Wd_of (List.mem_of_getElem? (i := 756) (by decide +kernel)) rfl, ⟨by decide, by decide, by decide +kernel⟩, by decide⟩
theorem mv_X1_bringNearer : MV mX1_bringNearer := ⟨Wd_of (List.mem_of_getElem? (i := 755) (by decide +kernel)) rfl, Wd_of (List.mem_of_getElem? (i := 14) (by decide +kernel)) rfl⟩
theorem mw_X1_72 : MW RX1 72 mX1_goNearer 3 := ⟨Wd_of (List.mem_of_getElem? (i := 747) (by decide +kernel)) rfl, Wd_of (List.mem_of_getElem? (i := 86) (by decide +kernel)) rfl, Wd_of (List.mem_of_getElem? (i := 750) (by decide +kernel)) rfl, ⟨by decide, by decide, by decide +kernel⟩, by decide⟩
theorem mv_X1_goNearer : MV mX1_goNearer := ⟨Wd_of (List.mem_of_getElem? (i := 749) (by decide +kernel)) rfl, Wd_of (List.mem_of_getElem? (i := 13) (by decide +kernel)) rfl⟩
theorem fp_X1_80 : FP RX1 80 8 3 .int false := ⟨RX8, TX8, 10, tyX8, rfl, by decide, inWd8, Wd_of (List.mem_of_getElem? (i := 191) (by decide +kernel)) rfl, tyX8_ok, nmX8, rfl, rfl, fun h => by cases h⟩
theorem fw_X1_83 : FW RX1 83 8 4 0 := ⟨RX8, TX8, 10, rfl, by decide, inWd8, Wd_of (List.mem_of_getElem? (i := 194) (by decide +kernel)) rfl, rfl⟩
theorem fp_X1_83 : FP RX1 83 8 4 .int false := ⟨RX8, TX8, 10, tyX8, rfl, by decide, inWd8, Wd_of (List.mem_of_getElem? (i := 194) (by decide +kernel)) rfl, tyX8_ok, nmX8, rfl, rfl, fun h => by cases h⟩
abbrev mX1_passNights : MD := (yX1_passNights, cX1_passNights, 5, none)
theorem mw_X1_107 : MW RX1 107 mX8_copy 1 := ⟨Wd_of (List.mem_of_getElem? (i := 770) (by decide +kernel)) rfl, Wd_of (List.mem_of_getElem? (i := 83) (by decide +kernel)) rfl, Wd_of (List.mem_of_getElem? (i := 773) (by decide +kernel)) rfl, ⟨by decide, by decide, by decide +kernel⟩, by decide⟩
theorem mv_X8_copy : MV mX8_copy := ⟨Wd_of (List.mem_of_getElem? (i := 771) (by decide +kernel)) rfl, Wd_of (List.mem_of_getElem? (i := 772) (by decide +kernel)) rfl⟩
theorem mw_X1_111 : MW RX1 111 mX1_begin 0 := ⟨Wd_of (List.mem_of_getElem? (i := 781) (by decide +kernel)) rfl, Wd_of (List.mem_of_getElem? (i := 86) (by decide +kernel)) rfl, Wd_of (List.mem_of_getElem? (i := 784) (by decide +kernel)) rfl, ⟨by decide, by decide, by decide +kernel⟩, by decide⟩
theorem mv_X1_begin : MV mX1_begin := ⟨Wd_of (List.mem_of_getElem? (i := 782) (by decide +kernel)) rfl, Wd_of (List.mem_of_getElem? (i := 783) (by decide +kernel)) rfl⟩
theorem fw_X1_114 : FW RX1 114 8 7 2 := ⟨RX8, TX8, 10, rfl, by decide, inWd8, Wd_of (List.mem_of_getElem? (i := 201) (by decide +kernel)) rfl, rfl⟩
theorem mw_X1_117 : MW RX1 117 mX1_weigh 2 := ⟨Wd_of (List.mem_of_getElem? (i := 785) (by decide +kernel)) rfl, Wd_of (List.mem_of_getElem? (i := 86) (by decide +kernel)) rfl, Wd_of (List.mem_of_getElem? (i := 788) (by decide +kernel)) rfl, ⟨by decide, by decide, by decide +kernel⟩, by decide⟩
theorem mv_X1_weigh : MV mX1_weigh := ⟨Wd_of (List.mem_of_getElem? (i := 786) (by decide +kernel)) rfl, Wd_of (List.mem_of_getElem? (i := 787) (by decide +kernel)) rfl⟩
theorem fw_X1_121 : FW RX1 121 8 8 2 := ⟨RX8, TX8, 10, rfl, by decide, inWd8, Wd_of (List.mem_of_getElem? (i := 204) (by decide +kernel)) rfl, rfl⟩
theorem mw_X1_124 : MW RX1 124 mX1_pass 3 := ⟨Wd_of (List.mem_of_getElem? (i := 789) (by decide +kernel)) rfl, Wd_of (List.mem_of_getElem? (i := 86) (by decide +kernel)) rfl, Wd_of (List.mem_of_getElem? (i := 737) (by decide +kernel)) rfl, ⟨by decide, by decide, by decide +kernel⟩, by decide⟩
theorem mv_X1_pass : MV mX1_pass := ⟨Wd_of (List.mem_of_getElem? (i := 735) (by decide +kernel)) rfl, Wd_of (List.mem_of_getElem? (i := 736) (by decide +kernel)) rfl⟩
abbrev mX1_gain : MD := (yX1_gain, cX1_gain, 9, (some .int))
theorem fw_X1_80 : FW RX1 80 8 3 0 := ⟨RX8, TX8, 10, rfl, by decide, inWd8, Wd_of (List.mem_of_getElem? (i := 191) (by decide +kernel)) rfl, rfl⟩
abbrev mX5_measure : MD := (yX5_measure, cX5_measure, 5, none)
theorem fw_X5_20 : FW RX5 20 8 0 0 := ⟨RX8, TX8, 10, rfl, by decide, inWd8, Wd_of (List.mem_of_getElem? (i := 179) (by decide +kernel)) rfl, rfl⟩
theorem jm_X5_23 : Cond.methodLink RX5 23 Lib.Math.min.name ∈ Wd := Wd_of (List.mem_of_getElem? (i := 798) (by decide +kernel)) rfl
theorem fp_X5_16 : FP RX5 16 5 1 .int false := ⟨RX5, TX5, 2, tyX5, rfl, by decide, inWd5, Wd_of (List.mem_of_getElem? (i := 287) (by decide +kernel)) rfl, tyX5_ok, nmX5, rfl, rfl, fun h => by cases h⟩
theorem fw_X5_16 : FW RX5 16 5 1 0 := ⟨RX5, TX5, 2, rfl, by decide, inWd5, Wd_of (List.mem_of_getElem? (i := 287) (by decide +kernel)) rfl, rfl⟩
theorem fw_X5_29 : FW RX5 29 8 2 2 := ⟨RX8, TX8, 10, rfl, by decide, inWd8, Wd_of (List.mem_of_getElem? (i := 188) (by decide +kernel)) rfl, rfl⟩
theorem fw_X5_11 : FW RX5 11 5 0 2 := ⟨RX5, TX5, 2, rfl, by decide, inWd5, Wd_of (List.mem_of_getElem? (i := 286) (by decide +kernel)) rfl, rfl⟩
theorem cc_X5_32 : Cond.constant RX5 32 (1000000) ∈ Wd := Wd_of (List.mem_of_getElem? (i := 799) (by decide +kernel)) rfl
abbrev mX5_toFire : MD := (yX5_toFire, cX5_toFire, 6, (some .int))
theorem mw_X5_33 : MW RX5 33 mX8_find 1 := ⟨Wd_of (List.mem_of_getElem? (i := 804) (by decide +kernel)) rfl, Wd_of (List.mem_of_getElem? (i := 83) (by decide +kernel)) rfl, Wd_of (List.mem_of_getElem? (i := 456) (by decide +kernel)) rfl, ⟨by decide, by decide, by decide +kernel⟩, by decide⟩
theorem fw_X5_37 : FW RX5 37 2 1 0 := ⟨RX2, TX2, 9, rfl, by decide, inWd2, Wd_of (List.mem_of_getElem? (i := 130) (by decide +kernel)) rfl, rfl⟩
abbrev mX5_widest : MD := (yX5_widest, cX5_widest, 4, (some .int))
theorem jm_X5_43 : Cond.methodLink RX5 43 Lib.Math.max.name ∈ Wd := Wd_of (List.mem_of_getElem? (i := 826) (by decide +kernel)) rfl
abbrev mX5_isReached : MD := (yX5_isReached, cX5_isReached, 6, (some .boolean))
abbrev mX5_fewest : MD := (yX5_fewest, cX5_fewest, 5, (some .int))
theorem mw_X5_46 : MW RX5 46 mJ6_bitCount_0f7a4 1 := ⟨Wd_of (List.mem_of_getElem? (i := 813) (by decide +kernel)) rfl, Wd_of (List.mem_of_getElem? (i := 99) (by decide +kernel)) rfl, Wd_of (List.mem_of_getElem? (i := 675) (by decide +kernel)) rfl, ⟨by decide, by decide, by decide +kernel⟩, by decide⟩
theorem mw_X5_52 : MW RX5 52 mX5_isReached 2 := ⟨Wd_of (List.mem_of_getElem? (i := 814) (by decide +kernel)) rfl, Wd_of (List.mem_of_getElem? (i := 87) (by decide +kernel)) rfl, Wd_of (List.mem_of_getElem? (i := 817) (by decide +kernel)) rfl, ⟨by decide, by decide, by decide +kernel⟩, by decide⟩
theorem mv_X5_isReached : MV mX5_isReached := ⟨Wd_of (List.mem_of_getElem? (i := 816) (by decide +kernel)) rfl, Wd_of (List.mem_of_getElem? (i := 15) (by decide +kernel)) rfl⟩
abbrev mX4_begin : MD := (yX4_begin, cX4_begin, 6, (some .int))
theorem fp_X4_11 : FP RX4 11 4 0 .long false := ⟨RX4, TX4, 4, tyX4, rfl, by decide, inWd4, Wd_of (List.mem_of_getElem? (i := 301) (by decide +kernel)) rfl, tyX4_ok, nmX4, rfl, rfl, fun h => by cases h⟩
theorem fp_X4_15 : FP RX4 15 4 1 .long false := ⟨RX4, TX4, 4, tyX4, rfl, by decide, inWd4, Wd_of (List.mem_of_getElem? (i := 303) (by decide +kernel)) rfl, tyX4_ok, nmX4, rfl, rfl, fun h => by cases h⟩
theorem fp_X4_18 : FP RX4 18 4 2 .long false := ⟨RX4, TX4, 4, tyX4, rfl, by decide, inWd4, Wd_of (List.mem_of_getElem? (i := 305) (by decide +kernel)) rfl, tyX4_ok, nmX4, rfl, rfl, fun h => by cases h⟩
theorem fw_X4_18 : FW RX4 18 4 2 1 := ⟨RX4, TX4, 4, rfl, by decide, inWd4, Wd_of (List.mem_of_getElem? (i := 305) (by decide +kernel)) rfl, rfl⟩
theorem cc_X4_28 : Cond.constantLong RX4 28 (10) ∈ Wd := Wd_of (List.mem_of_getElem? (i := 836) (by decide +kernel)) rfl
theorem cc_X4_30 : Cond.constantLong RX4 30 (100) ∈ Wd := Wd_of (List.mem_of_getElem? (i := 837) (by decide +kernel)) rfl
abbrev mX4_shareOf : MD := (yX4_shareOf, cX4_shareOf, 7, (some .long))
theorem fw_X4_24 : FW RX4 24 4 3 2 := ⟨RX4, TX4, 4, rfl, by decide, inWd4, Wd_of (List.mem_of_getElem? (i := 307) (by decide +kernel)) rfl, rfl⟩
theorem fw_X4_67 : FW RX4 67 8 0 0 := ⟨RX8, TX8, 10, rfl, by decide, inWd8, Wd_of (List.mem_of_getElem? (i := 182) (by decide +kernel)) rfl, rfl⟩
theorem fw_X4_70 : FW RX4 70 8 1 2 := ⟨RX8, TX8, 10, rfl, by decide, inWd8, Wd_of (List.mem_of_getElem? (i := 186) (by decide +kernel)) rfl, rfl⟩
theorem fw_X4_74 : FW RX4 74 2 1 0 := ⟨RX2, TX2, 9, rfl, by decide, inWd2, Wd_of (List.mem_of_getElem? (i := 132) (by decide +kernel)) rfl, rfl⟩
theorem mw_X4_80 : MW RX4 80 mX8_sum 3 := ⟨Wd_of (List.mem_of_getElem? (i := 849) (by decide +kernel)) rfl, Wd_of (List.mem_of_getElem? (i := 83) (by decide +kernel)) rfl, Wd_of (List.mem_of_getElem? (i := 667) (by decide +kernel)) rfl, ⟨by decide, by decide, by decide +kernel⟩, by decide⟩
abbrev mX4_follow : MD := (yX4_follow, cX4_follow, 11, none)
theorem mw_X4_32 : MW RX4 32 mX8_copy 1 := ⟨Wd_of (List.mem_of_getElem? (i := 842) (by decide +kernel)) rfl, Wd_of (List.mem_of_getElem? (i := 83) (by decide +kernel)) rfl, Wd_of (List.mem_of_getElem? (i := 773) (by decide +kernel)) rfl, ⟨by decide, by decide, by decide +kernel⟩, by decide⟩
theorem mw_X4_36 : MW RX4 36 mX1_begin 0 := ⟨Wd_of (List.mem_of_getElem? (i := 843) (by decide +kernel)) rfl, Wd_of (List.mem_of_getElem? (i := 86) (by decide +kernel)) rfl, Wd_of (List.mem_of_getElem? (i := 784) (by decide +kernel)) rfl, ⟨by decide, by decide, by decide +kernel⟩, by decide⟩
theorem fw_X4_41 : FW RX4 41 8 3 0 := ⟨RX8, TX8, 10, rfl, by decide, inWd8, Wd_of (List.mem_of_getElem? (i := 190) (by decide +kernel)) rfl, rfl⟩
theorem mw_X4_45 : MW RX4 45 mX8_tenthsOf 2 := ⟨Wd_of (List.mem_of_getElem? (i := 844) (by decide +kernel)) rfl, Wd_of (List.mem_of_getElem? (i := 83) (by decide +kernel)) rfl, Wd_of (List.mem_of_getElem? (i := 695) (by decide +kernel)) rfl, ⟨by decide, by decide, by decide +kernel⟩, by decide⟩
theorem mv_X8_tenthsOf : MV mX8_tenthsOf := ⟨Wd_of (List.mem_of_getElem? (i := 693) (by decide +kernel)) rfl, Wd_of (List.mem_of_getElem? (i := 694) (by decide +kernel)) rfl⟩
theorem mw_X4_49 : MW RX4 49 mX4_shareOf 2 := ⟨Wd_of (List.mem_of_getElem? (i := 845) (by decide +kernel)) rfl, Wd_of (List.mem_of_getElem? (i := 88) (by decide +kernel)) rfl, Wd_of (List.mem_of_getElem? (i := 848) (by decide +kernel)) rfl, ⟨by decide, by decide, by decide +kernel⟩, by decide⟩
theorem mv_X4_shareOf : MV mX4_shareOf := ⟨Wd_of (List.mem_of_getElem? (i := 847) (by decide +kernel)) rfl, Wd_of (List.mem_of_getElem? (i := 16) (by decide +kernel)) rfl⟩
theorem mw_X4_53 : MW RX4 53 mX1_weigh 2 := ⟨Wd_of (List.mem_of_getElem? (i := 850) (by decide +kernel)) rfl, Wd_of (List.mem_of_getElem? (i := 86) (by decide +kernel)) rfl, Wd_of (List.mem_of_getElem? (i := 788) (by decide +kernel)) rfl, ⟨by decide, by decide, by decide +kernel⟩, by decide⟩
theorem mw_X4_57 : MW RX4 57 mX1_pass 3 := ⟨Wd_of (List.mem_of_getElem? (i := 851) (by decide +kernel)) rfl, Wd_of (List.mem_of_getElem? (i := 86) (by decide +kernel)) rfl, Wd_of (List.mem_of_getElem? (i := 737) (by decide +kernel)) rfl, ⟨by decide, by decide, by decide +kernel⟩, by decide⟩
theorem fw_X4_15 : FW RX4 15 4 1 1 := ⟨RX4, TX4, 4, rfl, by decide, inWd4, Wd_of (List.mem_of_getElem? (i := 303) (by decide +kernel)) rfl, rfl⟩
theorem fw_X4_61 : FW RX4 61 1 0 0 := ⟨RX1, TX1, 6, rfl, by decide, inWd1, Wd_of (List.mem_of_getElem? (i := 258) (by decide +kernel)) rfl, rfl⟩
theorem mw_X4_63 : MW RX4 63 mX8_litCount 0 := ⟨Wd_of (List.mem_of_getElem? (i := 852) (by decide +kernel)) rfl, Wd_of (List.mem_of_getElem? (i := 83) (by decide +kernel)) rfl, Wd_of (List.mem_of_getElem? (i := 855) (by decide +kernel)) rfl, ⟨by decide, by decide, by decide +kernel⟩, by decide⟩
theorem mv_X8_litCount : MV mX8_litCount := ⟨Wd_of (List.mem_of_getElem? (i := 853) (by decide +kernel)) rfl, Wd_of (List.mem_of_getElem? (i := 854) (by decide +kernel)) rfl⟩
theorem fw_X4_11 : FW RX4 11 4 0 1 := ⟨RX4, TX4, 4, rfl, by decide, inWd4, Wd_of (List.mem_of_getElem? (i := 301) (by decide +kernel)) rfl, rfl⟩
abbrev mX4_commonDivisor : MD := (yX4_commonDivisor, cX4_commonDivisor, 11, (some .long))
