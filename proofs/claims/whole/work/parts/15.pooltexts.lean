/-! words of the tables, by program -/
abbrev mJ3_checkIndex_8e157 : MD := (yJ3_checkIndex_8e157, cJ3_checkIndex_8e157, 3, (some .int))
abbrev mJ0_checkIndex_df160 : MD := (yJ0_checkIndex_df160, cJ0_checkIndex_df160, 2, none)
theorem sg_J0_1053 : Cond.fieldLink RJ0 1053 "jdk/internal/util/Preconditions" "SIOOBE_FORMATTER" "Ljava/util/function/BiFunction;" ∈ Wd := Wd_of (List.mem_of_getElem? (i := 530) (by decide +kernel)) rfl
theorem mw_J0_1059 : MW RJ0 1059 mJ3_checkIndex_8e157 3 := ⟨Wd_of (List.mem_of_getElem? (i := 532) (by decide +kernel)) rfl, Wd_of (List.mem_of_getElem? (i := 95) (by decide +kernel)) rfl, Wd_of (List.mem_of_getElem? (i := 534) (by decide +kernel)) rfl, ⟨by decide, by decide, by decide +kernel⟩, by decide⟩
theorem ms_J3_checkIndex_8e157 : Cond.static mJ3_checkIndex_8e157.1 ∈ Wd := Wd_of (List.mem_of_getElem? (i := 533) (by decide +kernel)) rfl
abbrev mJ1_charAt_3b067 : MD := (yJ1_charAt_3b067, cJ1_charAt_3b067, 2, (some .char))
theorem mw_J1_9 : MW RJ1 9 mJ0_checkIndex_df160 2 := ⟨Wd_of (List.mem_of_getElem? (i := 527) (by decide +kernel)) rfl, Wd_of (List.mem_of_getElem? (i := 93) (by decide +kernel)) rfl, Wd_of (List.mem_of_getElem? (i := 529) (by decide +kernel)) rfl, ⟨by decide, by decide, by decide +kernel⟩, by decide⟩
theorem ms_J0_checkIndex_df160 : Cond.static mJ0_checkIndex_df160.1 ∈ Wd := Wd_of (List.mem_of_getElem? (i := 528) (by decide +kernel)) rfl
abbrev mJ1_canEncode_9a6ad : MD := (yJ1_canEncode_9a6ad, cJ1_canEncode_9a6ad, 1, (some .boolean))
abbrev mJ1_indexOfChar_4cfef : MD := (yJ1_indexOfChar_4cfef, cJ1_indexOfChar_4cfef, 6, (some .int))
abbrev mJ1_indexOf_4cfef : MD := (yJ1_indexOf_4cfef, cJ1_indexOf_4cfef, 4, (some .int))
theorem mw_J1_88 : MW RJ1 88 mJ1_canEncode_9a6ad 1 := ⟨Wd_of (List.mem_of_getElem? (i := 607) (by decide +kernel)) rfl, Wd_of (List.mem_of_getElem? (i := 94) (by decide +kernel)) rfl, Wd_of (List.mem_of_getElem? (i := 609) (by decide +kernel)) rfl, ⟨by decide, by decide, by decide +kernel⟩, by decide⟩
theorem ms_J1_canEncode_9a6ad : Cond.static mJ1_canEncode_9a6ad.1 ∈ Wd := Wd_of (List.mem_of_getElem? (i := 608) (by decide +kernel)) rfl
theorem jm_J1_92 : Cond.methodLink RJ1 92 Lib.Math.max.name ∈ Wd := Wd_of (List.mem_of_getElem? (i := 610) (by decide +kernel)) rfl
theorem jm_J1_38 : Cond.methodLink RJ1 38 Lib.Math.min.name ∈ Wd := Wd_of (List.mem_of_getElem? (i := 611) (by decide +kernel)) rfl
theorem mw_J1_95 : MW RJ1 95 mJ1_indexOfChar_4cfef 4 := ⟨Wd_of (List.mem_of_getElem? (i := 614) (by decide +kernel)) rfl, Wd_of (List.mem_of_getElem? (i := 94) (by decide +kernel)) rfl, Wd_of (List.mem_of_getElem? (i := 616) (by decide +kernel)) rfl, ⟨by decide, by decide, by decide +kernel⟩, by decide⟩
theorem ms_J1_indexOfChar_4cfef : Cond.static mJ1_indexOfChar_4cfef.1 ∈ Wd := Wd_of (List.mem_of_getElem? (i := 615) (by decide +kernel)) rfl
abbrev mJ0_coder_7d493 : MD := (yJ0_coder_7d493, cJ0_coder_7d493, 1, (some .byte))
theorem sg_J0_38 : Cond.fieldLink RJ0 38 "java/lang/String" "COMPACT_STRINGS" "Z" ∈ Wd := Wd_of (List.mem_of_getElem? (i := 514) (by decide +kernel)) rfl
theorem sf_J0_15 : Cond.fieldLink RJ0 15 "java/lang/String" "coder" "B" ∈ Wd := Wd_of (List.mem_of_getElem? (i := 1640) (by decide +kernel)) rfl
abbrev mJ0_length_8abf5 : MD := (yJ0_length_8abf5, cJ0_length_8abf5, 1, (some .int))
theorem sf_J0_9 : Cond.fieldLink RJ0 9 "java/lang/String" "value" "[B" ∈ Wd := Wd_of (List.mem_of_getElem? (i := 1639) (by decide +kernel)) rfl
theorem mw_J0_335 : MW RJ0 335 mJ0_coder_7d493 0 := ⟨Wd_of (List.mem_of_getElem? (i := 510) (by decide +kernel)) rfl, Wd_of (List.mem_of_getElem? (i := 93) (by decide +kernel)) rfl, Wd_of (List.mem_of_getElem? (i := 513) (by decide +kernel)) rfl, ⟨by decide, by decide, by decide +kernel⟩, by decide⟩
theorem mv_J0_coder_7d493 : MV mJ0_coder_7d493 := ⟨Wd_of (List.mem_of_getElem? (i := 511) (by decide +kernel)) rfl, Wd_of (List.mem_of_getElem? (i := 512) (by decide +kernel)) rfl⟩
abbrev mJ0_isLatin1_aae02 : MD := (yJ0_isLatin1_aae02, cJ0_isLatin1_aae02, 1, (some .boolean))
abbrev mJ0_charAt_5068e : MD := (yJ0_charAt_5068e, cJ0_charAt_5068e, 2, (some .char))
theorem mw_J0_492 : MW RJ0 492 mJ0_isLatin1_aae02 0 := ⟨Wd_of (List.mem_of_getElem? (i := 520) (by decide +kernel)) rfl, Wd_of (List.mem_of_getElem? (i := 93) (by decide +kernel)) rfl, Wd_of (List.mem_of_getElem? (i := 523) (by decide +kernel)) rfl, ⟨by decide, by decide, by decide +kernel⟩, by decide⟩
theorem mv_J0_isLatin1_aae02 : MV mJ0_isLatin1_aae02 := ⟨Wd_of (List.mem_of_getElem? (i := 521) (by decide +kernel)) rfl, Wd_of (List.mem_of_getElem? (i := 522) (by decide +kernel)) rfl⟩
theorem mw_J0_495 : MW RJ0 495 mJ1_charAt_3b067 2 := ⟨Wd_of (List.mem_of_getElem? (i := 524) (by decide +kernel)) rfl, Wd_of (List.mem_of_getElem? (i := 94) (by decide +kernel)) rfl, Wd_of (List.mem_of_getElem? (i := 526) (by decide +kernel)) rfl, ⟨by decide, by decide, by decide +kernel⟩, by decide⟩
theorem ms_J1_charAt_3b067 : Cond.static mJ1_charAt_3b067.1 ∈ Wd := Wd_of (List.mem_of_getElem? (i := 525) (by decide +kernel)) rfl
abbrev mJ0_indexOf_7cf53 : MD := (yJ0_indexOf_7cf53, cJ0_indexOf_7cf53, 3, (some .int))
theorem mw_J0_505 : MW RJ0 505 mJ0_length_8abf5 0 := ⟨Wd_of (List.mem_of_getElem? (i := 603) (by decide +kernel)) rfl, Wd_of (List.mem_of_getElem? (i := 93) (by decide +kernel)) rfl, Wd_of (List.mem_of_getElem? (i := 509) (by decide +kernel)) rfl, ⟨by decide, by decide, by decide +kernel⟩, by decide⟩
theorem mv_J0_length_8abf5 : MV mJ0_length_8abf5 := ⟨Wd_of (List.mem_of_getElem? (i := 507) (by decide +kernel)) rfl, Wd_of (List.mem_of_getElem? (i := 508) (by decide +kernel)) rfl⟩
theorem mw_J0_637 : MW RJ0 637 mJ1_indexOf_4cfef 4 := ⟨Wd_of (List.mem_of_getElem? (i := 604) (by decide +kernel)) rfl, Wd_of (List.mem_of_getElem? (i := 94) (by decide +kernel)) rfl, Wd_of (List.mem_of_getElem? (i := 606) (by decide +kernel)) rfl, ⟨by decide, by decide, by decide +kernel⟩, by decide⟩
theorem ms_J1_indexOf_4cfef : Cond.static mJ1_indexOf_4cfef.1 ∈ Wd := Wd_of (List.mem_of_getElem? (i := 605) (by decide +kernel)) rfl
abbrev mJ0_indexOf_0f7a4 : MD := (yJ0_indexOf_0f7a4, cJ0_indexOf_0f7a4, 2, (some .int))
theorem mw_J0_633 : MW RJ0 633 mJ0_indexOf_7cf53 2 := ⟨Wd_of (List.mem_of_getElem? (i := 599) (by decide +kernel)) rfl, Wd_of (List.mem_of_getElem? (i := 93) (by decide +kernel)) rfl, Wd_of (List.mem_of_getElem? (i := 602) (by decide +kernel)) rfl, ⟨by decide, by decide, by decide +kernel⟩, by decide⟩
theorem mv_J0_indexOf_7cf53 : MV mJ0_indexOf_7cf53 := ⟨Wd_of (List.mem_of_getElem? (i := 600) (by decide +kernel)) rfl, Wd_of (List.mem_of_getElem? (i := 601) (by decide +kernel)) rfl⟩
abbrev mX6_append : MD := (yX6_append, cX6_append, 2, none)
theorem fw_X6_15 : FW RX6 15 6 1 0 := ⟨RX6, TX6, 4, rfl, by decide, inWd6, Wd_of (List.mem_of_getElem? (i := 235) (by decide +kernel)) rfl, rfl⟩
theorem fw_X6_9 : FW RX6 9 6 0 2 := ⟨RX6, TX6, 4, rfl, by decide, inWd6, Wd_of (List.mem_of_getElem? (i := 234) (by decide +kernel)) rfl, rfl⟩
theorem fp_X6_15 : FP RX6 15 6 1 .int false := ⟨RX6, TX6, 4, tyX6, rfl, by decide, inWd6, Wd_of (List.mem_of_getElem? (i := 235) (by decide +kernel)) rfl, tyX6_ok, nmX6, rfl, rfl, fun h => by cases h⟩
abbrev mX6_sign : MD := (yX6_sign, cX6_sign, 1, (some .int))
theorem fw_X6_19 : FW RX6 19 6 2 0 := ⟨RX6, TX6, 4, rfl, by decide, inWd6, Wd_of (List.mem_of_getElem? (i := 237) (by decide +kernel)) rfl, rfl⟩
abbrev mX6_take : MD := (yX6_take, cX6_take, 2, (some .boolean))
theorem mw_X6_56 : MW RX6 56 mX6_sign 0 := ⟨Wd_of (List.mem_of_getElem? (i := 497) (by decide +kernel)) rfl, Wd_of (List.mem_of_getElem? (i := 85) (by decide +kernel)) rfl, Wd_of (List.mem_of_getElem? (i := 500) (by decide +kernel)) rfl, ⟨by decide, by decide, by decide +kernel⟩, by decide⟩
theorem mv_X6_sign : MV mX6_sign := ⟨Wd_of (List.mem_of_getElem? (i := 499) (by decide +kernel)) rfl, Wd_of (List.mem_of_getElem? (i := 1) (by decide +kernel)) rfl⟩
theorem fp_X6_19 : FP RX6 19 6 2 .int false := ⟨RX6, TX6, 4, tyX6, rfl, by decide, inWd6, Wd_of (List.mem_of_getElem? (i := 237) (by decide +kernel)) rfl, tyX6_ok, nmX6, rfl, rfl, fun h => by cases h⟩
abbrev mX6_takeAll : MD := (yX6_takeAll, cX6_takeAll, 3, (some .boolean))
theorem mw_X6_59 : MW RX6 59 mJ0_length_8abf5 0 := ⟨Wd_of (List.mem_of_getElem? (i := 506) (by decide +kernel)) rfl, Wd_of (List.mem_of_getElem? (i := 93) (by decide +kernel)) rfl, Wd_of (List.mem_of_getElem? (i := 509) (by decide +kernel)) rfl, ⟨by decide, by decide, by decide +kernel⟩, by decide⟩
theorem mw_X6_63 : MW RX6 63 mJ0_charAt_5068e 1 := ⟨Wd_of (List.mem_of_getElem? (i := 516) (by decide +kernel)) rfl, Wd_of (List.mem_of_getElem? (i := 93) (by decide +kernel)) rfl, Wd_of (List.mem_of_getElem? (i := 519) (by decide +kernel)) rfl, ⟨by decide, by decide, by decide +kernel⟩, by decide⟩
theorem mv_J0_charAt_5068e : MV mJ0_charAt_5068e := ⟨Wd_of (List.mem_of_getElem? (i := 517) (by decide +kernel)) rfl, Wd_of (List.mem_of_getElem? (i := 518) (by decide +kernel)) rfl⟩
theorem mw_X6_38 : MW RX6 38 mX6_take 1 := ⟨Wd_of (List.mem_of_getElem? (i := 554) (by decide +kernel)) rfl, Wd_of (List.mem_of_getElem? (i := 85) (by decide +kernel)) rfl, Wd_of (List.mem_of_getElem? (i := 557) (by decide +kernel)) rfl, ⟨by decide, by decide, by decide +kernel⟩, by decide⟩
theorem mv_X6_take : MV mX6_take := ⟨Wd_of (List.mem_of_getElem? (i := 556) (by decide +kernel)) rfl, Wd_of (List.mem_of_getElem? (i := 3) (by decide +kernel)) rfl⟩
abbrev mX6_takeWord : MD := (yX6_takeWord, cX6_takeWord, 1, (some .int))
theorem mw_X6_69 : MW RX6 69 mX6_takeAll 1 := ⟨Wd_of (List.mem_of_getElem? (i := 502) (by decide +kernel)) rfl, Wd_of (List.mem_of_getElem? (i := 85) (by decide +kernel)) rfl, Wd_of (List.mem_of_getElem? (i := 505) (by decide +kernel)) rfl, ⟨by decide, by decide, by decide +kernel⟩, by decide⟩
theorem mv_X6_takeAll : MV mX6_takeAll := ⟨Wd_of (List.mem_of_getElem? (i := 504) (by decide +kernel)) rfl, Wd_of (List.mem_of_getElem? (i := 2) (by decide +kernel)) rfl⟩
abbrev mX6_takeWeather : MD := (yX6_takeWeather, cX6_takeWeather, 2, (some .int))
abbrev mX6_takeNumber : MD := (yX6_takeNumber, cX6_takeNumber, 4, (some .int))
theorem jm_X6_83 : Cond.methodLink RX6 83 Lib.Math.max.name ∈ Wd := Wd_of (List.mem_of_getElem? (i := 575) (by decide +kernel)) rfl
abbrev mX6_takeNext : MD := (yX6_takeNext, cX6_takeNext, 4, (some .boolean))
theorem mw_X6_89 : MW RX6 89 mX6_takeWeather 0 := ⟨Wd_of (List.mem_of_getElem? (i := 567) (by decide +kernel)) rfl, Wd_of (List.mem_of_getElem? (i := 85) (by decide +kernel)) rfl, Wd_of (List.mem_of_getElem? (i := 570) (by decide +kernel)) rfl, ⟨by decide, by decide, by decide +kernel⟩, by decide⟩
theorem mv_X6_takeWeather : MV mX6_takeWeather := ⟨Wd_of (List.mem_of_getElem? (i := 569) (by decide +kernel)) rfl, Wd_of (List.mem_of_getElem? (i := 5) (by decide +kernel)) rfl⟩
theorem mw_X6_46 : MW RX6 46 mX6_takeNumber 0 := ⟨Wd_of (List.mem_of_getElem? (i := 571) (by decide +kernel)) rfl, Wd_of (List.mem_of_getElem? (i := 85) (by decide +kernel)) rfl, Wd_of (List.mem_of_getElem? (i := 574) (by decide +kernel)) rfl, ⟨by decide, by decide, by decide +kernel⟩, by decide⟩
theorem mv_X6_takeNumber : MV mX6_takeNumber := ⟨Wd_of (List.mem_of_getElem? (i := 573) (by decide +kernel)) rfl, Wd_of (List.mem_of_getElem? (i := 6) (by decide +kernel)) rfl⟩
theorem fw_X6_22 : FW RX6 22 6 3 2 := ⟨RX6, TX6, 4, rfl, by decide, inWd6, Wd_of (List.mem_of_getElem? (i := 239) (by decide +kernel)) rfl, rfl⟩
theorem mw_X6_52 : MW RX6 52 mX3_addClause 4 := ⟨Wd_of (List.mem_of_getElem? (i := 578) (by decide +kernel)) rfl, Wd_of (List.mem_of_getElem? (i := 90) (by decide +kernel)) rfl, Wd_of (List.mem_of_getElem? (i := 581) (by decide +kernel)) rfl, ⟨by decide, by decide, by decide +kernel⟩, by decide⟩
theorem mv_X3_addClause : MV mX3_addClause := ⟨Wd_of (List.mem_of_getElem? (i := 579) (by decide +kernel)) rfl, Wd_of (List.mem_of_getElem? (i := 580) (by decide +kernel)) rfl⟩
abbrev mX6_takeTest : MD := (yX6_takeTest, cX6_takeTest, 5, (some .boolean))
theorem mw_X6_104 : MW RX6 104 mJ0_indexOf_0f7a4 1 := ⟨Wd_of (List.mem_of_getElem? (i := 595) (by decide +kernel)) rfl, Wd_of (List.mem_of_getElem? (i := 93) (by decide +kernel)) rfl, Wd_of (List.mem_of_getElem? (i := 598) (by decide +kernel)) rfl, ⟨by decide, by decide, by decide +kernel⟩, by decide⟩
theorem mv_J0_indexOf_0f7a4 : MV mJ0_indexOf_0f7a4 := ⟨Wd_of (List.mem_of_getElem? (i := 596) (by decide +kernel)) rfl, Wd_of (List.mem_of_getElem? (i := 597) (by decide +kernel)) rfl⟩
theorem mw_X6_95 : MW RX6 95 mX3_addStep 3 := ⟨Wd_of (List.mem_of_getElem? (i := 652) (by decide +kernel)) rfl, Wd_of (List.mem_of_getElem? (i := 90) (by decide +kernel)) rfl, Wd_of (List.mem_of_getElem? (i := 655) (by decide +kernel)) rfl, ⟨by decide, by decide, by decide +kernel⟩, by decide⟩
theorem mv_X3_addStep : MV mX3_addStep := ⟨Wd_of (List.mem_of_getElem? (i := 653) (by decide +kernel)) rfl, Wd_of (List.mem_of_getElem? (i := 654) (by decide +kernel)) rfl⟩
abbrev mX6_takeEither : MD := (yX6_takeEither, cX6_takeEither, 4, (some .boolean))
abbrev mX6_takePart : MD := (yX6_takePart, cX6_takePart, 3, (some .boolean))
theorem mw_X6_92 : MW RX6 92 mX6_takePart 1 := ⟨Wd_of (List.mem_of_getElem? (i := 586) (by decide +kernel)) rfl, Wd_of (List.mem_of_getElem? (i := 85) (by decide +kernel)) rfl, Wd_of (List.mem_of_getElem? (i := 589) (by decide +kernel)) rfl, ⟨by decide, by decide, by decide +kernel⟩, by decide⟩
theorem mv_X6_takePart : MV mX6_takePart := ⟨Wd_of (List.mem_of_getElem? (i := 588) (by decide +kernel)) rfl, Wd_of (List.mem_of_getElem? (i := 8) (by decide +kernel)) rfl⟩
theorem mw_X6_49 : MW RX6 49 mX6_takeEither 1 := ⟨Wd_of (List.mem_of_getElem? (i := 582) (by decide +kernel)) rfl, Wd_of (List.mem_of_getElem? (i := 85) (by decide +kernel)) rfl, Wd_of (List.mem_of_getElem? (i := 585) (by decide +kernel)) rfl, ⟨by decide, by decide, by decide +kernel⟩, by decide⟩
theorem mv_X6_takeEither : MV mX6_takeEither := ⟨Wd_of (List.mem_of_getElem? (i := 584) (by decide +kernel)) rfl, Wd_of (List.mem_of_getElem? (i := 7) (by decide +kernel)) rfl⟩
theorem mw_X6_99 : MW RX6 99 mX6_takeTest 1 := ⟨Wd_of (List.mem_of_getElem? (i := 590) (by decide +kernel)) rfl, Wd_of (List.mem_of_getElem? (i := 85) (by decide +kernel)) rfl, Wd_of (List.mem_of_getElem? (i := 593) (by decide +kernel)) rfl, ⟨by decide, by decide, by decide +kernel⟩, by decide⟩
theorem mv_X6_takeTest : MV mX6_takeTest := ⟨Wd_of (List.mem_of_getElem? (i := 592) (by decide +kernel)) rfl, Wd_of (List.mem_of_getElem? (i := 9) (by decide +kernel)) rfl⟩
abbrev mX6_parse : MD := (yX6_parse, cX6_parse, 6, (some .boolean))
theorem fp_X6_22 : FP RX6 22 6 3 (tyX6 3) false := ⟨RX6, TX6, 4, tyX6, rfl, by decide, inWd6, Wd_of (List.mem_of_getElem? (i := 239) (by decide +kernel)) rfl, tyX6_ok, nmX6, rfl, rfl, fun h => by cases h⟩
theorem fp_X6_26 : FP RX6 26 3 0 .int false := ⟨RX3, TX3, 9, tyX3, rfl, by decide, inWd3, Wd_of (List.mem_of_getElem? (i := 349) (by decide +kernel)) rfl, tyX3_ok, nmX3, rfl, rfl, fun h => by cases h⟩
theorem fp_X6_31 : FP RX6 31 3 1 .int false := ⟨RX3, TX3, 9, tyX3, rfl, by decide, inWd3, Wd_of (List.mem_of_getElem? (i := 352) (by decide +kernel)) rfl, tyX3_ok, nmX3, rfl, rfl, fun h => by cases h⟩
theorem mw_X6_34 : MW RX6 34 mX6_takeWord 0 := ⟨Wd_of (List.mem_of_getElem? (i := 493) (by decide +kernel)) rfl, Wd_of (List.mem_of_getElem? (i := 85) (by decide +kernel)) rfl, Wd_of (List.mem_of_getElem? (i := 496) (by decide +kernel)) rfl, ⟨by decide, by decide, by decide +kernel⟩, by decide⟩
theorem mv_X6_takeWord : MV mX6_takeWord := ⟨Wd_of (List.mem_of_getElem? (i := 495) (by decide +kernel)) rfl, Wd_of (List.mem_of_getElem? (i := 0) (by decide +kernel)) rfl⟩
theorem fw_X6_31 : FW RX6 31 3 1 0 := ⟨RX3, TX3, 9, rfl, by decide, inWd3, Wd_of (List.mem_of_getElem? (i := 352) (by decide +kernel)) rfl, rfl⟩
theorem mw_X6_42 : MW RX6 42 mX6_takeNext 0 := ⟨Wd_of (List.mem_of_getElem? (i := 563) (by decide +kernel)) rfl, Wd_of (List.mem_of_getElem? (i := 85) (by decide +kernel)) rfl, Wd_of (List.mem_of_getElem? (i := 566) (by decide +kernel)) rfl, ⟨by decide, by decide, by decide +kernel⟩, by decide⟩
theorem mv_X6_takeNext : MV mX6_takeNext := ⟨Wd_of (List.mem_of_getElem? (i := 565) (by decide +kernel)) rfl, Wd_of (List.mem_of_getElem? (i := 4) (by decide +kernel)) rfl⟩
