/-! words of the tables, by program -/
abbrev mX9_house : MD := (yX9_house, cX9_house, 3, (some .int))
theorem fw_X9_14 : FW RX9 14 9 0 2 := ⟨RX9, TX9, 12, rfl, by decide, inWd9, Wd_of (List.mem_of_getElem? (i := 400) (by decide +kernel)) rfl, rfl⟩
theorem fw_X9_81 : FW RX9 81 8 0 0 := ⟨RX8, TX8, 10, rfl, by decide, inWd8, Wd_of (List.mem_of_getElem? (i := 180) (by decide +kernel)) rfl, rfl⟩
theorem fw_X9_84 : FW RX9 84 8 1 2 := ⟨RX8, TX8, 10, rfl, by decide, inWd8, Wd_of (List.mem_of_getElem? (i := 184) (by decide +kernel)) rfl, rfl⟩
theorem mw_X9_88 : MW RX9 88 mX2_start 2 := ⟨Wd_of (List.mem_of_getElem? (i := 441) (by decide +kernel)) rfl, Wd_of (List.mem_of_getElem? (i := 84) (by decide +kernel)) rfl, Wd_of (List.mem_of_getElem? (i := 444) (by decide +kernel)) rfl, ⟨by decide, by decide, by decide +kernel⟩, by decide⟩
theorem mv_X2_start : MV mX2_start := ⟨Wd_of (List.mem_of_getElem? (i := 442) (by decide +kernel)) rfl, Wd_of (List.mem_of_getElem? (i := 443) (by decide +kernel)) rfl⟩
theorem fp_X9_81 : FP RX9 81 8 0 .int false := ⟨RX8, TX8, 10, tyX8, rfl, by decide, inWd8, Wd_of (List.mem_of_getElem? (i := 180) (by decide +kernel)) rfl, tyX8_ok, nmX8, rfl, rfl, fun h => by cases h⟩
abbrev mX9_of : MD := (yX9_of, cX9_of, 4, (some .int))
theorem mw_X9_94 : MW RX9 94 mX8_find 1 := ⟨Wd_of (List.mem_of_getElem? (i := 453) (by decide +kernel)) rfl, Wd_of (List.mem_of_getElem? (i := 83) (by decide +kernel)) rfl, Wd_of (List.mem_of_getElem? (i := 456) (by decide +kernel)) rfl, ⟨by decide, by decide, by decide +kernel⟩, by decide⟩
theorem fw_X9_98 : FW RX9 98 2 0 0 := ⟨RX2, TX2, 9, rfl, by decide, inWd2, Wd_of (List.mem_of_getElem? (i := 125) (by decide +kernel)) rfl, rfl⟩
theorem fw_X9_101 : FW RX9 101 2 1 0 := ⟨RX2, TX2, 9, rfl, by decide, inWd2, Wd_of (List.mem_of_getElem? (i := 131) (by decide +kernel)) rfl, rfl⟩
theorem fw_X9_104 : FW RX9 104 2 2 0 := ⟨RX2, TX2, 9, rfl, by decide, inWd2, Wd_of (List.mem_of_getElem? (i := 136) (by decide +kernel)) rfl, rfl⟩
theorem fw_X9_107 : FW RX9 107 2 3 0 := ⟨RX2, TX2, 9, rfl, by decide, inWd2, Wd_of (List.mem_of_getElem? (i := 140) (by decide +kernel)) rfl, rfl⟩
theorem fw_X9_110 : FW RX9 110 2 5 0 := ⟨RX2, TX2, 9, rfl, by decide, inWd2, Wd_of (List.mem_of_getElem? (i := 146) (by decide +kernel)) rfl, rfl⟩
theorem fw_X9_113 : FW RX9 113 2 6 0 := ⟨RX2, TX2, 9, rfl, by decide, inWd2, Wd_of (List.mem_of_getElem? (i := 150) (by decide +kernel)) rfl, rfl⟩
theorem fw_X9_116 : FW RX9 116 2 7 0 := ⟨RX2, TX2, 9, rfl, by decide, inWd2, Wd_of (List.mem_of_getElem? (i := 153) (by decide +kernel)) rfl, rfl⟩
theorem fw_X9_119 : FW RX9 119 2 8 0 := ⟨RX2, TX2, 9, rfl, by decide, inWd2, Wd_of (List.mem_of_getElem? (i := 156) (by decide +kernel)) rfl, rfl⟩
abbrev mX9_wood : MD := (yX9_wood, cX9_wood, 5, (some .int))
theorem fp_X9_98 : FP RX9 98 2 0 .int false := ⟨RX2, TX2, 9, tyX2, rfl, by decide, inWd2, Wd_of (List.mem_of_getElem? (i := 125) (by decide +kernel)) rfl, tyX2_ok, nmX2, rfl, rfl, fun h => by cases h⟩
abbrev mX9_light : MD := (yX9_light, cX9_light, 5, (some .int))
theorem fp_X9_101 : FP RX9 101 2 1 .boolean false := ⟨RX2, TX2, 9, tyX2, rfl, by decide, inWd2, Wd_of (List.mem_of_getElem? (i := 131) (by decide +kernel)) rfl, tyX2_ok, nmX2, rfl, rfl, fun h => by cases h⟩
abbrev mX9_way : MD := (yX9_way, cX9_way, 5, (some .int))
theorem mw_X9_122 : MW RX9 122 mX8_hoursBetween 2 := ⟨Wd_of (List.mem_of_getElem? (i := 469) (by decide +kernel)) rfl, Wd_of (List.mem_of_getElem? (i := 83) (by decide +kernel)) rfl, Wd_of (List.mem_of_getElem? (i := 472) (by decide +kernel)) rfl, ⟨by decide, by decide, by decide +kernel⟩, by decide⟩
theorem mw_X9_126 : MW RX9 126 mX8_join 3 := ⟨Wd_of (List.mem_of_getElem? (i := 473) (by decide +kernel)) rfl, Wd_of (List.mem_of_getElem? (i := 83) (by decide +kernel)) rfl, Wd_of (List.mem_of_getElem? (i := 476) (by decide +kernel)) rfl, ⟨by decide, by decide, by decide +kernel⟩, by decide⟩
theorem mv_X8_join : MV mX8_join := ⟨Wd_of (List.mem_of_getElem? (i := 474) (by decide +kernel)) rfl, Wd_of (List.mem_of_getElem? (i := 475) (by decide +kernel)) rfl⟩
abbrev mX9_feed : MD := (yX9_feed, cX9_feed, 4, (some .int))
theorem fw_X9_31 : FW RX9 31 9 4 2 := ⟨RX9, TX9, 12, rfl, by decide, inWd9, Wd_of (List.mem_of_getElem? (i := 404) (by decide +kernel)) rfl, rfl⟩
theorem fw_X9_130 : FW RX9 130 6 1 0 := ⟨RX6, TX6, 4, rfl, by decide, inWd6, Wd_of (List.mem_of_getElem? (i := 236) (by decide +kernel)) rfl, rfl⟩
theorem mw_X9_133 : MW RX9 133 mX6_append 1 := ⟨Wd_of (List.mem_of_getElem? (i := 481) (by decide +kernel)) rfl, Wd_of (List.mem_of_getElem? (i := 85) (by decide +kernel)) rfl, Wd_of (List.mem_of_getElem? (i := 484) (by decide +kernel)) rfl, ⟨by decide, by decide, by decide +kernel⟩, by decide⟩
theorem mv_X6_append : MV mX6_append := ⟨Wd_of (List.mem_of_getElem? (i := 482) (by decide +kernel)) rfl, Wd_of (List.mem_of_getElem? (i := 483) (by decide +kernel)) rfl⟩
abbrev mX9_land : MD := (yX9_land, cX9_land, 3, (some .int))
theorem fw_X9_41 : FW RX9 41 9 6 0 := ⟨RX9, TX9, 12, rfl, by decide, inWd9, Wd_of (List.mem_of_getElem? (i := 406) (by decide +kernel)) rfl, rfl⟩
theorem fw_X9_37 : FW RX9 37 9 5 2 := ⟨RX9, TX9, 12, rfl, by decide, inWd9, Wd_of (List.mem_of_getElem? (i := 405) (by decide +kernel)) rfl, rfl⟩
theorem mw_X9_137 : MW RX9 137 mX6_parse 1 := ⟨Wd_of (List.mem_of_getElem? (i := 489) (by decide +kernel)) rfl, Wd_of (List.mem_of_getElem? (i := 85) (by decide +kernel)) rfl, Wd_of (List.mem_of_getElem? (i := 492) (by decide +kernel)) rfl, ⟨by decide, by decide, by decide +kernel⟩, by decide⟩
theorem mv_X6_parse : MV mX6_parse := ⟨Wd_of (List.mem_of_getElem? (i := 490) (by decide +kernel)) rfl, Wd_of (List.mem_of_getElem? (i := 491) (by decide +kernel)) rfl⟩
theorem fp_X9_130 : FP RX9 130 6 1 .int false := ⟨RX6, TX6, 4, tyX6, rfl, by decide, inWd6, Wd_of (List.mem_of_getElem? (i := 236) (by decide +kernel)) rfl, tyX6_ok, nmX6, rfl, rfl, fun h => by cases h⟩
theorem fp_X9_144 : FP RX9 144 8 5 (tyX8 5) false := ⟨RX8, TX8, 10, tyX8, rfl, by decide, inWd8, Wd_of (List.mem_of_getElem? (i := 197) (by decide +kernel)) rfl, tyX8_ok, nmX8, rfl, rfl, fun h => by cases h⟩
theorem fp_X9_41 : FP RX9 41 9 6 .int false := ⟨RX9, TX9, 12, tyX9, rfl, by decide, inWd9, Wd_of (List.mem_of_getElem? (i := 406) (by decide +kernel)) rfl, tyX9_ok, nmX9, rfl, rfl, fun h => by cases h⟩
theorem fw_X9_141 : FW RX9 141 6 2 0 := ⟨RX6, TX6, 4, rfl, by decide, inWd6, Wd_of (List.mem_of_getElem? (i := 238) (by decide +kernel)) rfl, rfl⟩
abbrev mX9_isWeather : MD := (yX9_isWeather, cX9_isWeather, 1, (some .boolean))
abbrev mX9_told : MD := (yX9_told, cX9_told, 4, (some .int))
theorem mw_X9_148 : MW RX9 148 mX9_isWeather 1 := ⟨Wd_of (List.mem_of_getElem? (i := 661) (by decide +kernel)) rfl, Wd_of (List.mem_of_getElem? (i := 82) (by decide +kernel)) rfl, Wd_of (List.mem_of_getElem? (i := 663) (by decide +kernel)) rfl, ⟨by decide, by decide, by decide +kernel⟩, by decide⟩
theorem ms_X9_isWeather : Cond.static mX9_isWeather.1 ∈ Wd := Wd_of (List.mem_of_getElem? (i := 662) (by decide +kernel)) rfl
theorem mw_X9_152 : MW RX9 152 mX8_sum 3 := ⟨Wd_of (List.mem_of_getElem? (i := 664) (by decide +kernel)) rfl, Wd_of (List.mem_of_getElem? (i := 83) (by decide +kernel)) rfl, Wd_of (List.mem_of_getElem? (i := 667) (by decide +kernel)) rfl, ⟨by decide, by decide, by decide +kernel⟩, by decide⟩
abbrev mX9_follows : MD := (yX9_follows, cX9_follows, 3, (some .int))
theorem mw_X9_156 : MW RX9 156 mX8_tenthsOf 2 := ⟨Wd_of (List.mem_of_getElem? (i := 692) (by decide +kernel)) rfl, Wd_of (List.mem_of_getElem? (i := 83) (by decide +kernel)) rfl, Wd_of (List.mem_of_getElem? (i := 695) (by decide +kernel)) rfl, ⟨by decide, by decide, by decide +kernel⟩, by decide⟩
abbrev mX9_isKind : MD := (yX9_isKind, cX9_isKind, 1, (some .boolean))
abbrev mX9_keeper : MD := (yX9_keeper, cX9_keeper, 7, (some .int))
theorem mw_X9_159 : MW RX9 159 mX9_isKind 1 := ⟨Wd_of (List.mem_of_getElem? (i := 704) (by decide +kernel)) rfl, Wd_of (List.mem_of_getElem? (i := 82) (by decide +kernel)) rfl, Wd_of (List.mem_of_getElem? (i := 706) (by decide +kernel)) rfl, ⟨by decide, by decide, by decide +kernel⟩, by decide⟩
theorem ms_X9_isKind : Cond.static mX9_isKind.1 ∈ Wd := Wd_of (List.mem_of_getElem? (i := 705) (by decide +kernel)) rfl
theorem cc_X9_162 : Cond.constant RX9 162 (16777215) ∈ Wd := Wd_of (List.mem_of_getElem? (i := 707) (by decide +kernel)) rfl
theorem fp_X9_104 : FP RX9 104 2 2 .int false := ⟨RX2, TX2, 9, tyX2, rfl, by decide, inWd2, Wd_of (List.mem_of_getElem? (i := 136) (by decide +kernel)) rfl, tyX2_ok, nmX2, rfl, rfl, fun h => by cases h⟩
theorem fp_X9_107 : FP RX9 107 2 3 .int false := ⟨RX2, TX2, 9, tyX2, rfl, by decide, inWd2, Wd_of (List.mem_of_getElem? (i := 140) (by decide +kernel)) rfl, tyX2_ok, nmX2, rfl, rfl, fun h => by cases h⟩
theorem fp_X9_163 : FP RX9 163 2 4 .int false := ⟨RX2, TX2, 9, tyX2, rfl, by decide, inWd2, Wd_of (List.mem_of_getElem? (i := 143) (by decide +kernel)) rfl, tyX2_ok, nmX2, rfl, rfl, fun h => by cases h⟩
abbrev mX9_would : MD := (yX9_would, cX9_would, 3, (some .int))
theorem mw_X9_166 : MW RX9 166 mX8_choice 2 := ⟨Wd_of (List.mem_of_getElem? (i := 712) (by decide +kernel)) rfl, Wd_of (List.mem_of_getElem? (i := 83) (by decide +kernel)) rfl, Wd_of (List.mem_of_getElem? (i := 715) (by decide +kernel)) rfl, ⟨by decide, by decide, by decide +kernel⟩, by decide⟩
abbrev mX9_go : MD := (yX9_go, cX9_go, 3, (some .int))
theorem fw_X9_169 : FW RX9 169 8 4 0 := ⟨RX8, TX8, 10, rfl, by decide, inWd8, Wd_of (List.mem_of_getElem? (i := 195) (by decide +kernel)) rfl, rfl⟩
theorem fw_X9_48 : FW RX9 48 9 7 2 := ⟨RX9, TX9, 12, rfl, by decide, inWd9, Wd_of (List.mem_of_getElem? (i := 407) (by decide +kernel)) rfl, rfl⟩
theorem mw_X9_172 : MW RX9 172 mX1_pass 3 := ⟨Wd_of (List.mem_of_getElem? (i := 734) (by decide +kernel)) rfl, Wd_of (List.mem_of_getElem? (i := 86) (by decide +kernel)) rfl, Wd_of (List.mem_of_getElem? (i := 737) (by decide +kernel)) rfl, ⟨by decide, by decide, by decide +kernel⟩, by decide⟩
theorem mw_X9_176 : MW RX9 176 mX8_litBits 0 := ⟨Wd_of (List.mem_of_getElem? (i := 757) (by decide +kernel)) rfl, Wd_of (List.mem_of_getElem? (i := 83) (by decide +kernel)) rfl, Wd_of (List.mem_of_getElem? (i := 672) (by decide +kernel)) rfl, ⟨by decide, by decide, by decide +kernel⟩, by decide⟩
abbrev mX9_night : MD := (yX9_night, cX9_night, 3, (some .int))
theorem fw_X9_180 : FW RX9 180 8 6 0 := ⟨RX8, TX8, 10, rfl, by decide, inWd8, Wd_of (List.mem_of_getElem? (i := 199) (by decide +kernel)) rfl, rfl⟩
theorem fw_X9_183 : FW RX9 183 8 7 2 := ⟨RX8, TX8, 10, rfl, by decide, inWd8, Wd_of (List.mem_of_getElem? (i := 202) (by decide +kernel)) rfl, rfl⟩
theorem fw_X9_187 : FW RX9 187 8 8 2 := ⟨RX8, TX8, 10, rfl, by decide, inWd8, Wd_of (List.mem_of_getElem? (i := 205) (by decide +kernel)) rfl, rfl⟩
theorem fp_X9_180 : FP RX9 180 8 6 .int false := ⟨RX8, TX8, 10, tyX8, rfl, by decide, inWd8, Wd_of (List.mem_of_getElem? (i := 199) (by decide +kernel)) rfl, tyX8_ok, nmX8, rfl, rfl, fun h => by cases h⟩
abbrev mX9_hand : MD := (yX9_hand, cX9_hand, 4, (some .int))
theorem fw_X9_21 : FW RX9 21 9 2 2 := ⟨RX9, TX9, 12, rfl, by decide, inWd9, Wd_of (List.mem_of_getElem? (i := 402) (by decide +kernel)) rfl, rfl⟩
theorem mw_X9_190 : MW RX9 190 mX1_passNights 3 := ⟨Wd_of (List.mem_of_getElem? (i := 766) (by decide +kernel)) rfl, Wd_of (List.mem_of_getElem? (i := 86) (by decide +kernel)) rfl, Wd_of (List.mem_of_getElem? (i := 769) (by decide +kernel)) rfl, ⟨by decide, by decide, by decide +kernel⟩, by decide⟩
theorem mv_X1_passNights : MV mX1_passNights := ⟨Wd_of (List.mem_of_getElem? (i := 767) (by decide +kernel)) rfl, Wd_of (List.mem_of_getElem? (i := 768) (by decide +kernel)) rfl⟩
theorem fw_X9_197 : FW RX9 197 1 0 0 := ⟨RX1, TX1, 6, rfl, by decide, inWd1, Wd_of (List.mem_of_getElem? (i := 259) (by decide +kernel)) rfl, rfl⟩
theorem fw_X9_194 : FW RX9 194 1 1 0 := ⟨RX1, TX1, 6, rfl, by decide, inWd1, Wd_of (List.mem_of_getElem? (i := 261) (by decide +kernel)) rfl, rfl⟩
abbrev mX9_quickest : MD := (yX9_quickest, cX9_quickest, 4, (some .int))
theorem fw_X9_55 : FW RX9 55 9 8 2 := ⟨RX9, TX9, 12, rfl, by decide, inWd9, Wd_of (List.mem_of_getElem? (i := 408) (by decide +kernel)) rfl, rfl⟩
theorem mw_X9_200 : MW RX9 200 mX5_measure 1 := ⟨Wd_of (List.mem_of_getElem? (i := 794) (by decide +kernel)) rfl, Wd_of (List.mem_of_getElem? (i := 87) (by decide +kernel)) rfl, Wd_of (List.mem_of_getElem? (i := 797) (by decide +kernel)) rfl, ⟨by decide, by decide, by decide +kernel⟩, by decide⟩
theorem mv_X5_measure : MV mX5_measure := ⟨Wd_of (List.mem_of_getElem? (i := 795) (by decide +kernel)) rfl, Wd_of (List.mem_of_getElem? (i := 796) (by decide +kernel)) rfl⟩
theorem mw_X9_204 : MW RX9 204 mX5_toFire 2 := ⟨Wd_of (List.mem_of_getElem? (i := 800) (by decide +kernel)) rfl, Wd_of (List.mem_of_getElem? (i := 87) (by decide +kernel)) rfl, Wd_of (List.mem_of_getElem? (i := 803) (by decide +kernel)) rfl, ⟨by decide, by decide, by decide +kernel⟩, by decide⟩
theorem mv_X5_toFire : MV mX5_toFire := ⟨Wd_of (List.mem_of_getElem? (i := 801) (by decide +kernel)) rfl, Wd_of (List.mem_of_getElem? (i := 802) (by decide +kernel)) rfl⟩
theorem fw_X9_208 : FW RX9 208 8 3 0 := ⟨RX8, TX8, 10, rfl, by decide, inWd8, Wd_of (List.mem_of_getElem? (i := 192) (by decide +kernel)) rfl, rfl⟩
abbrev mX9_where : MD := (yX9_where, cX9_where, 2, (some .int))
theorem mw_X9_211 : MW RX9 211 mX5_fewest 1 := ⟨Wd_of (List.mem_of_getElem? (i := 809) (by decide +kernel)) rfl, Wd_of (List.mem_of_getElem? (i := 87) (by decide +kernel)) rfl, Wd_of (List.mem_of_getElem? (i := 812) (by decide +kernel)) rfl, ⟨by decide, by decide, by decide +kernel⟩, by decide⟩
theorem mv_X5_fewest : MV mX5_fewest := ⟨Wd_of (List.mem_of_getElem? (i := 810) (by decide +kernel)) rfl, Wd_of (List.mem_of_getElem? (i := 811) (by decide +kernel)) rfl⟩
abbrev mX9_apart : MD := (yX9_apart, cX9_apart, 1, (some .int))
theorem mw_X9_215 : MW RX9 215 mX5_widest 0 := ⟨Wd_of (List.mem_of_getElem? (i := 822) (by decide +kernel)) rfl, Wd_of (List.mem_of_getElem? (i := 87) (by decide +kernel)) rfl, Wd_of (List.mem_of_getElem? (i := 825) (by decide +kernel)) rfl, ⟨by decide, by decide, by decide +kernel⟩, by decide⟩
theorem mv_X5_widest : MV mX5_widest := ⟨Wd_of (List.mem_of_getElem? (i := 823) (by decide +kernel)) rfl, Wd_of (List.mem_of_getElem? (i := 824) (by decide +kernel)) rfl⟩
abbrev mX9_ends : MD := (yX9_ends, cX9_ends, 9, (some .long))
theorem cc_X9_218 : Cond.constantLong RX9 218 (-9223372036854775808) ∈ Wd := Wd_of (List.mem_of_getElem? (i := 831) (by decide +kernel)) rfl
theorem fw_X9_62 : FW RX9 62 9 9 2 := ⟨RX9, TX9, 12, rfl, by decide, inWd9, Wd_of (List.mem_of_getElem? (i := 409) (by decide +kernel)) rfl, rfl⟩
theorem mw_X9_220 : MW RX9 220 mX4_begin 2 := ⟨Wd_of (List.mem_of_getElem? (i := 832) (by decide +kernel)) rfl, Wd_of (List.mem_of_getElem? (i := 88) (by decide +kernel)) rfl, Wd_of (List.mem_of_getElem? (i := 835) (by decide +kernel)) rfl, ⟨by decide, by decide, by decide +kernel⟩, by decide⟩
theorem mv_X4_begin : MV mX4_begin := ⟨Wd_of (List.mem_of_getElem? (i := 833) (by decide +kernel)) rfl, Wd_of (List.mem_of_getElem? (i := 834) (by decide +kernel)) rfl⟩
theorem mw_X9_223 : MW RX9 223 mX4_follow 4 := ⟨Wd_of (List.mem_of_getElem? (i := 838) (by decide +kernel)) rfl, Wd_of (List.mem_of_getElem? (i := 88) (by decide +kernel)) rfl, Wd_of (List.mem_of_getElem? (i := 841) (by decide +kernel)) rfl, ⟨by decide, by decide, by decide +kernel⟩, by decide⟩
theorem mv_X4_follow : MV mX4_follow := ⟨Wd_of (List.mem_of_getElem? (i := 839) (by decide +kernel)) rfl, Wd_of (List.mem_of_getElem? (i := 840) (by decide +kernel)) rfl⟩
theorem fw_X9_231 : FW RX9 231 4 1 1 := ⟨RX4, TX4, 4, rfl, by decide, inWd4, Wd_of (List.mem_of_getElem? (i := 304) (by decide +kernel)) rfl, rfl⟩
theorem fw_X9_233 : FW RX9 233 4 2 1 := ⟨RX4, TX4, 4, rfl, by decide, inWd4, Wd_of (List.mem_of_getElem? (i := 306) (by decide +kernel)) rfl, rfl⟩
theorem mw_X9_236 : MW RX9 236 mX4_commonDivisor 2 := ⟨Wd_of (List.mem_of_getElem? (i := 856) (by decide +kernel)) rfl, Wd_of (List.mem_of_getElem? (i := 88) (by decide +kernel)) rfl, Wd_of (List.mem_of_getElem? (i := 858) (by decide +kernel)) rfl, ⟨by decide, by decide, by decide +kernel⟩, by decide⟩
theorem ms_X4_commonDivisor : Cond.static mX4_commonDivisor.1 ∈ Wd := Wd_of (List.mem_of_getElem? (i := 857) (by decide +kernel)) rfl
theorem fw_X9_227 : FW RX9 227 4 0 1 := ⟨RX4, TX4, 4, rfl, by decide, inWd4, Wd_of (List.mem_of_getElem? (i := 302) (by decide +kernel)) rfl, rfl⟩
abbrev mX9_lasts : MD := (yX9_lasts, cX9_lasts, 2, (some .int))
theorem mw_X9_240 : MW RX9 240 mX8_copy 1 := ⟨Wd_of (List.mem_of_getElem? (i := 863) (by decide +kernel)) rfl, Wd_of (List.mem_of_getElem? (i := 83) (by decide +kernel)) rfl, Wd_of (List.mem_of_getElem? (i := 773) (by decide +kernel)) rfl, ⟨by decide, by decide, by decide +kernel⟩, by decide⟩
theorem mw_X9_243 : MW RX9 243 mX8_litCount 0 := ⟨Wd_of (List.mem_of_getElem? (i := 864) (by decide +kernel)) rfl, Wd_of (List.mem_of_getElem? (i := 83) (by decide +kernel)) rfl, Wd_of (List.mem_of_getElem? (i := 855) (by decide +kernel)) rfl, ⟨by decide, by decide, by decide +kernel⟩, by decide⟩
abbrev mX9_match : MD := (yX9_match, cX9_match, 3, (some .int))
theorem cc_X9_246 : Cond.constant RX9 246 (-100001) ∈ Wd := Wd_of (List.mem_of_getElem? (i := 869) (by decide +kernel)) rfl
theorem cc_X9_247 : Cond.constant RX9 247 (-100002) ∈ Wd := Wd_of (List.mem_of_getElem? (i := 870) (by decide +kernel)) rfl
theorem mw_X9_248 : MW RX9 248 mX1_gain 4 := ⟨Wd_of (List.mem_of_getElem? (i := 871) (by decide +kernel)) rfl, Wd_of (List.mem_of_getElem? (i := 86) (by decide +kernel)) rfl, Wd_of (List.mem_of_getElem? (i := 874) (by decide +kernel)) rfl, ⟨by decide, by decide, by decide +kernel⟩, by decide⟩
theorem mv_X1_gain : MV mX1_gain := ⟨Wd_of (List.mem_of_getElem? (i := 872) (by decide +kernel)) rfl, Wd_of (List.mem_of_getElem? (i := 873) (by decide +kernel)) rfl⟩
abbrev mX9_asked : MD := (yX9_asked, cX9_asked, 6, (some .int))
theorem mw_X9_252 : MW RX9 252 mX8_nearestFire 1 := ⟨Wd_of (List.mem_of_getElem? (i := 879) (by decide +kernel)) rfl, Wd_of (List.mem_of_getElem? (i := 83) (by decide +kernel)) rfl, Wd_of (List.mem_of_getElem? (i := 724) (by decide +kernel)) rfl, ⟨by decide, by decide, by decide +kernel⟩, by decide⟩
theorem jm_X9_255 : Cond.methodLink RX9 255 Lib.Math.max.name ∈ Wd := Wd_of (List.mem_of_getElem? (i := 880) (by decide +kernel)) rfl
theorem jm_X9_260 : Cond.methodLink RX9 260 Lib.Math.min.name ∈ Wd := Wd_of (List.mem_of_getElem? (i := 881) (by decide +kernel)) rfl
abbrev mX9_law : MD := (yX9_law, cX9_law, 4, (some .int))
theorem mw_X9_263 : MW RX9 263 mX8_payAll 1 := ⟨Wd_of (List.mem_of_getElem? (i := 886) (by decide +kernel)) rfl, Wd_of (List.mem_of_getElem? (i := 83) (by decide +kernel)) rfl, Wd_of (List.mem_of_getElem? (i := 889) (by decide +kernel)) rfl, ⟨by decide, by decide, by decide +kernel⟩, by decide⟩
theorem mv_X8_payAll : MV mX8_payAll := ⟨Wd_of (List.mem_of_getElem? (i := 887) (by decide +kernel)) rfl, Wd_of (List.mem_of_getElem? (i := 888) (by decide +kernel)) rfl⟩
abbrev mX9_freed : MD := (yX9_freed, cX9_freed, 3, (some .int))
abbrev mX9_findTape : MD := (yX9_findTape, cX9_findTape, 2, (some (.object "FireFromFire$Tape")))
theorem fw_X9_75 : FW RX9 75 9 11 2 := ⟨RX9, TX9, 12, rfl, by decide, inWd9, Wd_of (List.mem_of_getElem? (i := 411) (by decide +kernel)) rfl, rfl⟩
abbrev mX9_judge : MD := (yX9_judge, cX9_judge, 7, (some .int))
theorem mw_X9_266 : MW RX9 266 mX9_findTape 1 := ⟨Wd_of (List.mem_of_getElem? (i := 898) (by decide +kernel)) rfl, Wd_of (List.mem_of_getElem? (i := 82) (by decide +kernel)) rfl, Wd_of (List.mem_of_getElem? (i := 901) (by decide +kernel)) rfl, ⟨by decide, by decide, by decide +kernel⟩, by decide⟩
theorem mv_X9_findTape : MV mX9_findTape := ⟨Wd_of (List.mem_of_getElem? (i := 900) (by decide +kernel)) rfl, Wd_of (List.mem_of_getElem? (i := 17) (by decide +kernel)) rfl⟩
theorem mw_X9_270 : MW RX9 270 mX7_isRow 0 := ⟨Wd_of (List.mem_of_getElem? (i := 902) (by decide +kernel)) rfl, Wd_of (List.mem_of_getElem? (i := 91) (by decide +kernel)) rfl, Wd_of (List.mem_of_getElem? (i := 905) (by decide +kernel)) rfl, ⟨by decide, by decide, by decide +kernel⟩, by decide⟩
theorem mv_X7_isRow : MV mX7_isRow := ⟨Wd_of (List.mem_of_getElem? (i := 903) (by decide +kernel)) rfl, Wd_of (List.mem_of_getElem? (i := 904) (by decide +kernel)) rfl⟩
theorem fw_X9_277 : FW RX9 277 7 1 0 := ⟨RX7, TX7, 3, rfl, by decide, inWd7, Wd_of (List.mem_of_getElem? (i := 389) (by decide +kernel)) rfl, rfl⟩
theorem mw_X9_280 : MW RX9 280 mX7_get 1 := ⟨Wd_of (List.mem_of_getElem? (i := 906) (by decide +kernel)) rfl, Wd_of (List.mem_of_getElem? (i := 91) (by decide +kernel)) rfl, Wd_of (List.mem_of_getElem? (i := 909) (by decide +kernel)) rfl, ⟨by decide, by decide, by decide +kernel⟩, by decide⟩
theorem mv_X7_get : MV mX7_get := ⟨Wd_of (List.mem_of_getElem? (i := 907) (by decide +kernel)) rfl, Wd_of (List.mem_of_getElem? (i := 908) (by decide +kernel)) rfl⟩
theorem fw_X9_274 : FW RX9 274 7 0 0 := ⟨RX7, TX7, 3, rfl, by decide, inWd7, Wd_of (List.mem_of_getElem? (i := 387) (by decide +kernel)) rfl, rfl⟩
abbrev mX9_image : MD := (yX9_image, cX9_image, 1, (some .int))
theorem fw_X9_18 : FW RX9 18 9 1 2 := ⟨RX9, TX9, 12, rfl, by decide, inWd9, Wd_of (List.mem_of_getElem? (i := 401) (by decide +kernel)) rfl, rfl⟩
theorem fp_X9_24 : FP RX9 24 9 3 .boolean false := ⟨RX9, TX9, 12, tyX9, rfl, by decide, inWd9, Wd_of (List.mem_of_getElem? (i := 403) (by decide +kernel)) rfl, tyX9_ok, nmX9, rfl, rfl, fun h => by cases h⟩
abbrev mX9_undo : MD := (yX9_undo, cX9_undo, 1, (some .int))
theorem fw_X9_24 : FW RX9 24 9 3 0 := ⟨RX9, TX9, 12, rfl, by decide, inWd9, Wd_of (List.mem_of_getElem? (i := 403) (by decide +kernel)) rfl, rfl⟩
abbrev mX9_act : MD := (yX9_act, cX9_act, 4, (some .int))
theorem fw_X9_69 : FW RX9 69 9 10 2 := ⟨RX9, TX9, 12, rfl, by decide, inWd9, Wd_of (List.mem_of_getElem? (i := 410) (by decide +kernel)) rfl, rfl⟩
theorem mw_X9_284 : MW RX9 284 mX0_begin 2 := ⟨Wd_of (List.mem_of_getElem? (i := 922) (by decide +kernel)) rfl, Wd_of (List.mem_of_getElem? (i := 89) (by decide +kernel)) rfl, Wd_of (List.mem_of_getElem? (i := 925) (by decide +kernel)) rfl, ⟨by decide, by decide, by decide +kernel⟩, by decide⟩
theorem mv_X0_begin : MV mX0_begin := ⟨Wd_of (List.mem_of_getElem? (i := 923) (by decide +kernel)) rfl, Wd_of (List.mem_of_getElem? (i := 924) (by decide +kernel)) rfl⟩
theorem mw_X9_287 : MW RX9 287 mX0_keepsBody 1 := ⟨Wd_of (List.mem_of_getElem? (i := 926) (by decide +kernel)) rfl, Wd_of (List.mem_of_getElem? (i := 89) (by decide +kernel)) rfl, Wd_of (List.mem_of_getElem? (i := 929) (by decide +kernel)) rfl, ⟨by decide, by decide, by decide +kernel⟩, by decide⟩
theorem mw_X9_290 : MW RX9 290 mX0_sendsBody 1 := ⟨Wd_of (List.mem_of_getElem? (i := 938) (by decide +kernel)) rfl, Wd_of (List.mem_of_getElem? (i := 89) (by decide +kernel)) rfl, Wd_of (List.mem_of_getElem? (i := 941) (by decide +kernel)) rfl, ⟨by decide, by decide, by decide +kernel⟩, by decide⟩
theorem mw_X9_293 : MW RX9 293 mX0_tellsBody 1 := ⟨Wd_of (List.mem_of_getElem? (i := 947) (by decide +kernel)) rfl, Wd_of (List.mem_of_getElem? (i := 89) (by decide +kernel)) rfl, Wd_of (List.mem_of_getElem? (i := 950) (by decide +kernel)) rfl, ⟨by decide, by decide, by decide +kernel⟩, by decide⟩
theorem mv_X0_tellsBody : MV mX0_tellsBody := ⟨Wd_of (List.mem_of_getElem? (i := 948) (by decide +kernel)) rfl, Wd_of (List.mem_of_getElem? (i := 949) (by decide +kernel)) rfl⟩
abbrev mX9_trace : MD := (yX9_trace, cX9_trace, 2, (some .int))
theorem fw_X9_296 : FW RX9 296 0 0 0 := ⟨RX0, TX0, 5, rfl, by decide, inWd0, Wd_of (List.mem_of_getElem? (i := 324) (by decide +kernel)) rfl, rfl⟩
theorem fw_X9_299 : FW RX9 299 0 1 2 := ⟨RX0, TX0, 5, rfl, by decide, inWd0, Wd_of (List.mem_of_getElem? (i := 326) (by decide +kernel)) rfl, rfl⟩
abbrev mX9_kindAbove : MD := (yX9_kindAbove, cX9_kindAbove, 1, (some .int))
abbrev mX9_taken : MD := (yX9_taken, cX9_taken, 6, (some .int))
theorem mw_X9_302 : MW RX9 302 mX9_kindAbove 1 := ⟨Wd_of (List.mem_of_getElem? (i := 960) (by decide +kernel)) rfl, Wd_of (List.mem_of_getElem? (i := 82) (by decide +kernel)) rfl, Wd_of (List.mem_of_getElem? (i := 962) (by decide +kernel)) rfl, ⟨by decide, by decide, by decide +kernel⟩, by decide⟩
theorem ms_X9_kindAbove : Cond.static mX9_kindAbove.1 ∈ Wd := Wd_of (List.mem_of_getElem? (i := 961) (by decide +kernel)) rfl
abbrev mX9_count : MD := (yX9_count, cX9_count, 2, (some .int))
abbrev mX9_tape : MD := (yX9_tape, cX9_tape, 5, (some .int))
theorem mw_X9_305 : MW RX9 305 mX7_start 2 := ⟨Wd_of (List.mem_of_getElem? (i := 971) (by decide +kernel)) rfl, Wd_of (List.mem_of_getElem? (i := 91) (by decide +kernel)) rfl, Wd_of (List.mem_of_getElem? (i := 974) (by decide +kernel)) rfl, ⟨by decide, by decide, by decide +kernel⟩, by decide⟩
theorem mv_X7_start : MV mX7_start := ⟨Wd_of (List.mem_of_getElem? (i := 972) (by decide +kernel)) rfl, Wd_of (List.mem_of_getElem? (i := 973) (by decide +kernel)) rfl⟩
abbrev mX9_item : MD := (yX9_item, cX9_item, 6, (some .int))
theorem mw_X9_308 : MW RX9 308 mX7_put 2 := ⟨Wd_of (List.mem_of_getElem? (i := 979) (by decide +kernel)) rfl, Wd_of (List.mem_of_getElem? (i := 91) (by decide +kernel)) rfl, Wd_of (List.mem_of_getElem? (i := 982) (by decide +kernel)) rfl, ⟨by decide, by decide, by decide +kernel⟩, by decide⟩
theorem mv_X7_put : MV mX7_put := ⟨Wd_of (List.mem_of_getElem? (i := 980) (by decide +kernel)) rfl, Wd_of (List.mem_of_getElem? (i := 981) (by decide +kernel)) rfl⟩
abbrev mX9_read : MD := (yX9_read, cX9_read, 4, (some .long))
abbrev mX9_shift : MD := (yX9_shift, cX9_shift, 8, (some .int))
theorem mw_X9_312 : MW RX9 312 mX7_has 2 := ⟨Wd_of (List.mem_of_getElem? (i := 995) (by decide +kernel)) rfl, Wd_of (List.mem_of_getElem? (i := 91) (by decide +kernel)) rfl, Wd_of (List.mem_of_getElem? (i := 998) (by decide +kernel)) rfl, ⟨by decide, by decide, by decide +kernel⟩, by decide⟩
theorem mv_X7_has : MV mX7_has := ⟨Wd_of (List.mem_of_getElem? (i := 996) (by decide +kernel)) rfl, Wd_of (List.mem_of_getElem? (i := 997) (by decide +kernel)) rfl⟩
theorem fw_X9_316 : FW RX9 316 7 2 2 := ⟨RX7, TX7, 3, rfl, by decide, inWd7, Wd_of (List.mem_of_getElem? (i := 391) (by decide +kernel)) rfl, rfl⟩
theorem jc_X9_320 : CP RX9 320 := ⟨Wd_of (List.mem_of_getElem? (i := 999) (by decide +kernel)) rfl, Wd_of (List.mem_of_getElem? (i := 780) (by decide +kernel)) rfl, Wd_of (List.mem_of_getElem? (i := 779) (by decide +kernel)) rfl, Wd_of (List.mem_of_getElem? (i := 100) (by decide +kernel)) rfl⟩
