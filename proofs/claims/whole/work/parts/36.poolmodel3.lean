/-! words of the tables, by program -/
abbrev mX10_lasts : MD := (yX10_lasts, cX10_lasts, 2, (some .int))
abbrev mX10_matchOf : MD := (yX10_matchOf, cX10_matchOf, 5, (some .int))
abbrev mX10_match : MD := (yX10_match, cX10_match, 3, (some .int))
theorem mw_X10_432 : MW RX10 432 mX10_matchOf 2 := ⟨Wd_of (List.mem_of_getElem? (i := 1534) (by decide +kernel)) rfl, Wd_of (List.mem_of_getElem? (i := 92) (by decide +kernel)) rfl, Wd_of (List.mem_of_getElem? (i := 1537) (by decide +kernel)) rfl, ⟨by decide, by decide, by decide +kernel⟩, by decide⟩
theorem mv_X10_matchOf : MV mX10_matchOf := ⟨Wd_of (List.mem_of_getElem? (i := 1536) (by decide +kernel)) rfl, Wd_of (List.mem_of_getElem? (i := 69) (by decide +kernel)) rfl⟩
theorem cc_X10_431 : Cond.constant RX10 431 (-100002) ∈ Wd := Wd_of (List.mem_of_getElem? (i := 1533) (by decide +kernel)) rfl
theorem cc_X10_430 : Cond.constant RX10 430 (-100001) ∈ Wd := Wd_of (List.mem_of_getElem? (i := 1532) (by decide +kernel)) rfl
abbrev mX10_asked : MD := (yX10_asked, cX10_asked, 5, (some .int))
abbrev mX10_law : MD := (yX10_law, cX10_law, 4, (some .int))
abbrev mX10_freed : MD := (yX10_freed, cX10_freed, 3, (some .int))
abbrev mX10_isTape : MD := (yX10_isTape, cX10_isTape, 2, (some .boolean))
abbrev mX10_judge : MD := (yX10_judge, cX10_judge, 5, (some .int))
theorem mw_X10_435 : MW RX10 435 mX10_isTape 1 := ⟨Wd_of (List.mem_of_getElem? (i := 1554) (by decide +kernel)) rfl, Wd_of (List.mem_of_getElem? (i := 92) (by decide +kernel)) rfl, Wd_of (List.mem_of_getElem? (i := 1557) (by decide +kernel)) rfl, ⟨by decide, by decide, by decide +kernel⟩, by decide⟩
theorem mv_X10_isTape : MV mX10_isTape := ⟨Wd_of (List.mem_of_getElem? (i := 1556) (by decide +kernel)) rfl, Wd_of (List.mem_of_getElem? (i := 70) (by decide +kernel)) rfl⟩
theorem fw_X10_254 : FW RX10 254 10 80 2 := ⟨RX10, TX10, 84, rfl, by decide, inWd10, Wd_of (List.mem_of_getElem? (i := 1086) (by decide +kernel)) rfl, rfl⟩
theorem fw_X10_257 : FW RX10 257 10 81 2 := ⟨RX10, TX10, 84, rfl, by decide, inWd10, Wd_of (List.mem_of_getElem? (i := 1087) (by decide +kernel)) rfl, rfl⟩
theorem fw_X10_260 : FW RX10 260 10 82 2 := ⟨RX10, TX10, 84, rfl, by decide, inWd10, Wd_of (List.mem_of_getElem? (i := 1088) (by decide +kernel)) rfl, rfl⟩
abbrev mX10_image : MD := (yX10_image, cX10_image, 1, (some .int))
theorem fp_X10_193 : FP RX10 193 10 60 .boolean false := ⟨RX10, TX10, 84, tyX10, rfl, by decide, inWd10, Wd_of (List.mem_of_getElem? (i := 1066) (by decide +kernel)) rfl, tyX10_ok, nmX10, rfl, rfl, fun h => by cases h⟩
theorem fp_X10_197 : FP RX10 197 10 61 .int false := ⟨RX10, TX10, 84, tyX10, rfl, by decide, inWd10, Wd_of (List.mem_of_getElem? (i := 1067) (by decide +kernel)) rfl, tyX10_ok, nmX10, rfl, rfl, fun h => by cases h⟩
theorem fp_X10_200 : FP RX10 200 10 62 .int false := ⟨RX10, TX10, 84, tyX10, rfl, by decide, inWd10, Wd_of (List.mem_of_getElem? (i := 1068) (by decide +kernel)) rfl, tyX10_ok, nmX10, rfl, rfl, fun h => by cases h⟩
theorem fp_X10_203 : FP RX10 203 10 63 .int false := ⟨RX10, TX10, 84, tyX10, rfl, by decide, inWd10, Wd_of (List.mem_of_getElem? (i := 1069) (by decide +kernel)) rfl, tyX10_ok, nmX10, rfl, rfl, fun h => by cases h⟩
theorem fp_X10_206 : FP RX10 206 10 64 .int false := ⟨RX10, TX10, 84, tyX10, rfl, by decide, inWd10, Wd_of (List.mem_of_getElem? (i := 1070) (by decide +kernel)) rfl, tyX10_ok, nmX10, rfl, rfl, fun h => by cases h⟩
theorem fp_X10_209 : FP RX10 209 10 65 .int false := ⟨RX10, TX10, 84, tyX10, rfl, by decide, inWd10, Wd_of (List.mem_of_getElem? (i := 1071) (by decide +kernel)) rfl, tyX10_ok, nmX10, rfl, rfl, fun h => by cases h⟩
theorem fp_X10_212 : FP RX10 212 10 66 .int false := ⟨RX10, TX10, 84, tyX10, rfl, by decide, inWd10, Wd_of (List.mem_of_getElem? (i := 1072) (by decide +kernel)) rfl, tyX10_ok, nmX10, rfl, rfl, fun h => by cases h⟩
theorem fw_X10_215 : FW RX10 215 10 67 2 := ⟨RX10, TX10, 84, rfl, by decide, inWd10, Wd_of (List.mem_of_getElem? (i := 1073) (by decide +kernel)) rfl, rfl⟩
theorem mw_X10_438 : MW RX10 438 mX10_copy 2 := ⟨Wd_of (List.mem_of_getElem? (i := 1562) (by decide +kernel)) rfl, Wd_of (List.mem_of_getElem? (i := 92) (by decide +kernel)) rfl, Wd_of (List.mem_of_getElem? (i := 1565) (by decide +kernel)) rfl, ⟨by decide, by decide, by decide +kernel⟩, by decide⟩
theorem mv_X10_copy : MV mX10_copy := ⟨Wd_of (List.mem_of_getElem? (i := 1564) (by decide +kernel)) rfl, Wd_of (List.mem_of_getElem? (i := 71) (by decide +kernel)) rfl⟩
theorem fw_X10_218 : FW RX10 218 10 68 2 := ⟨RX10, TX10, 84, rfl, by decide, inWd10, Wd_of (List.mem_of_getElem? (i := 1074) (by decide +kernel)) rfl, rfl⟩
theorem fw_X10_221 : FW RX10 221 10 69 2 := ⟨RX10, TX10, 84, rfl, by decide, inWd10, Wd_of (List.mem_of_getElem? (i := 1075) (by decide +kernel)) rfl, rfl⟩
theorem fw_X10_224 : FW RX10 224 10 70 2 := ⟨RX10, TX10, 84, rfl, by decide, inWd10, Wd_of (List.mem_of_getElem? (i := 1076) (by decide +kernel)) rfl, rfl⟩
theorem fw_X10_227 : FW RX10 227 10 71 2 := ⟨RX10, TX10, 84, rfl, by decide, inWd10, Wd_of (List.mem_of_getElem? (i := 1077) (by decide +kernel)) rfl, rfl⟩
theorem fw_X10_230 : FW RX10 230 10 72 2 := ⟨RX10, TX10, 84, rfl, by decide, inWd10, Wd_of (List.mem_of_getElem? (i := 1078) (by decide +kernel)) rfl, rfl⟩
theorem fw_X10_233 : FW RX10 233 10 73 2 := ⟨RX10, TX10, 84, rfl, by decide, inWd10, Wd_of (List.mem_of_getElem? (i := 1079) (by decide +kernel)) rfl, rfl⟩
theorem fw_X10_236 : FW RX10 236 10 74 2 := ⟨RX10, TX10, 84, rfl, by decide, inWd10, Wd_of (List.mem_of_getElem? (i := 1080) (by decide +kernel)) rfl, rfl⟩
theorem fw_X10_239 : FW RX10 239 10 75 2 := ⟨RX10, TX10, 84, rfl, by decide, inWd10, Wd_of (List.mem_of_getElem? (i := 1081) (by decide +kernel)) rfl, rfl⟩
theorem fw_X10_242 : FW RX10 242 10 76 2 := ⟨RX10, TX10, 84, rfl, by decide, inWd10, Wd_of (List.mem_of_getElem? (i := 1082) (by decide +kernel)) rfl, rfl⟩
theorem fw_X10_245 : FW RX10 245 10 77 2 := ⟨RX10, TX10, 84, rfl, by decide, inWd10, Wd_of (List.mem_of_getElem? (i := 1083) (by decide +kernel)) rfl, rfl⟩
abbrev mX10_undo : MD := (yX10_undo, cX10_undo, 1, (some .int))
theorem fw_X10_193 : FW RX10 193 10 60 0 := ⟨RX10, TX10, 84, rfl, by decide, inWd10, Wd_of (List.mem_of_getElem? (i := 1066) (by decide +kernel)) rfl, rfl⟩
theorem fw_X10_197 : FW RX10 197 10 61 0 := ⟨RX10, TX10, 84, rfl, by decide, inWd10, Wd_of (List.mem_of_getElem? (i := 1067) (by decide +kernel)) rfl, rfl⟩
theorem fw_X10_200 : FW RX10 200 10 62 0 := ⟨RX10, TX10, 84, rfl, by decide, inWd10, Wd_of (List.mem_of_getElem? (i := 1068) (by decide +kernel)) rfl, rfl⟩
theorem fw_X10_203 : FW RX10 203 10 63 0 := ⟨RX10, TX10, 84, rfl, by decide, inWd10, Wd_of (List.mem_of_getElem? (i := 1069) (by decide +kernel)) rfl, rfl⟩
theorem fw_X10_206 : FW RX10 206 10 64 0 := ⟨RX10, TX10, 84, rfl, by decide, inWd10, Wd_of (List.mem_of_getElem? (i := 1070) (by decide +kernel)) rfl, rfl⟩
theorem fw_X10_209 : FW RX10 209 10 65 0 := ⟨RX10, TX10, 84, rfl, by decide, inWd10, Wd_of (List.mem_of_getElem? (i := 1071) (by decide +kernel)) rfl, rfl⟩
theorem fw_X10_212 : FW RX10 212 10 66 0 := ⟨RX10, TX10, 84, rfl, by decide, inWd10, Wd_of (List.mem_of_getElem? (i := 1072) (by decide +kernel)) rfl, rfl⟩
abbrev mX10_body : MD := (yX10_body, cX10_body, 2, none)
theorem fw_X10_248 : FW RX10 248 10 78 0 := ⟨RX10, TX10, 84, rfl, by decide, inWd10, Wd_of (List.mem_of_getElem? (i := 1084) (by decide +kernel)) rfl, rfl⟩
theorem fp_X10_248 : FP RX10 248 10 78 .int false := ⟨RX10, TX10, 84, tyX10, rfl, by decide, inWd10, Wd_of (List.mem_of_getElem? (i := 1084) (by decide +kernel)) rfl, tyX10_ok, nmX10, rfl, rfl, fun h => by cases h⟩
theorem fw_X10_251 : FW RX10 251 10 79 2 := ⟨RX10, TX10, 84, rfl, by decide, inWd10, Wd_of (List.mem_of_getElem? (i := 1085) (by decide +kernel)) rfl, rfl⟩
abbrev mX10_plainKeeps : MD := (yX10_plainKeeps, cX10_plainKeeps, 3, (some .int))
theorem mw_X10_442 : MW RX10 442 mX10_body 1 := ⟨Wd_of (List.mem_of_getElem? (i := 1578) (by decide +kernel)) rfl, Wd_of (List.mem_of_getElem? (i := 92) (by decide +kernel)) rfl, Wd_of (List.mem_of_getElem? (i := 1581) (by decide +kernel)) rfl, ⟨by decide, by decide, by decide +kernel⟩, by decide⟩
theorem mv_X10_body : MV mX10_body := ⟨Wd_of (List.mem_of_getElem? (i := 1580) (by decide +kernel)) rfl, Wd_of (List.mem_of_getElem? (i := 73) (by decide +kernel)) rfl⟩
abbrev mX10_keepsAct : MD := (yX10_keepsAct, cX10_keepsAct, 3, (some .int))
theorem mw_X10_445 : MW RX10 445 mX10_plainKeeps 2 := ⟨Wd_of (List.mem_of_getElem? (i := 1582) (by decide +kernel)) rfl, Wd_of (List.mem_of_getElem? (i := 92) (by decide +kernel)) rfl, Wd_of (List.mem_of_getElem? (i := 1585) (by decide +kernel)) rfl, ⟨by decide, by decide, by decide +kernel⟩, by decide⟩
theorem mv_X10_plainKeeps : MV mX10_plainKeeps := ⟨Wd_of (List.mem_of_getElem? (i := 1584) (by decide +kernel)) rfl, Wd_of (List.mem_of_getElem? (i := 74) (by decide +kernel)) rfl⟩
abbrev mX10_plainSends : MD := (yX10_plainSends, cX10_plainSends, 3, (some .int))
theorem mw_X10_448 : MW RX10 448 mX10_keepsAct 2 := ⟨Wd_of (List.mem_of_getElem? (i := 1574) (by decide +kernel)) rfl, Wd_of (List.mem_of_getElem? (i := 92) (by decide +kernel)) rfl, Wd_of (List.mem_of_getElem? (i := 1577) (by decide +kernel)) rfl, ⟨by decide, by decide, by decide +kernel⟩, by decide⟩
theorem mv_X10_keepsAct : MV mX10_keepsAct := ⟨Wd_of (List.mem_of_getElem? (i := 1576) (by decide +kernel)) rfl, Wd_of (List.mem_of_getElem? (i := 72) (by decide +kernel)) rfl⟩
abbrev mX10_eachSends : MD := (yX10_eachSends, cX10_eachSends, 3, (some .int))
theorem mw_X10_451 : MW RX10 451 mX10_plainSends 2 := ⟨Wd_of (List.mem_of_getElem? (i := 1594) (by decide +kernel)) rfl, Wd_of (List.mem_of_getElem? (i := 92) (by decide +kernel)) rfl, Wd_of (List.mem_of_getElem? (i := 1597) (by decide +kernel)) rfl, ⟨by decide, by decide, by decide +kernel⟩, by decide⟩
theorem mv_X10_plainSends : MV mX10_plainSends := ⟨Wd_of (List.mem_of_getElem? (i := 1596) (by decide +kernel)) rfl, Wd_of (List.mem_of_getElem? (i := 77) (by decide +kernel)) rfl⟩
abbrev mX10_sendsAct : MD := (yX10_sendsAct, cX10_sendsAct, 4, (some .int))
theorem mw_X10_454 : MW RX10 454 mX10_eachSends 2 := ⟨Wd_of (List.mem_of_getElem? (i := 1590) (by decide +kernel)) rfl, Wd_of (List.mem_of_getElem? (i := 92) (by decide +kernel)) rfl, Wd_of (List.mem_of_getElem? (i := 1593) (by decide +kernel)) rfl, ⟨by decide, by decide, by decide +kernel⟩, by decide⟩
theorem mv_X10_eachSends : MV mX10_eachSends := ⟨Wd_of (List.mem_of_getElem? (i := 1592) (by decide +kernel)) rfl, Wd_of (List.mem_of_getElem? (i := 76) (by decide +kernel)) rfl⟩
abbrev mX10_plainTells : MD := (yX10_plainTells, cX10_plainTells, 3, (some .int))
theorem mw_X10_457 : MW RX10 457 mX10_sendsAct 2 := ⟨Wd_of (List.mem_of_getElem? (i := 1586) (by decide +kernel)) rfl, Wd_of (List.mem_of_getElem? (i := 92) (by decide +kernel)) rfl, Wd_of (List.mem_of_getElem? (i := 1589) (by decide +kernel)) rfl, ⟨by decide, by decide, by decide +kernel⟩, by decide⟩
theorem mv_X10_sendsAct : MV mX10_sendsAct := ⟨Wd_of (List.mem_of_getElem? (i := 1588) (by decide +kernel)) rfl, Wd_of (List.mem_of_getElem? (i := 75) (by decide +kernel)) rfl⟩
abbrev mX10_tellsAct : MD := (yX10_tellsAct, cX10_tellsAct, 4, (some .int))
theorem mw_X10_460 : MW RX10 460 mX10_plainTells 2 := ⟨Wd_of (List.mem_of_getElem? (i := 1602) (by decide +kernel)) rfl, Wd_of (List.mem_of_getElem? (i := 92) (by decide +kernel)) rfl, Wd_of (List.mem_of_getElem? (i := 1605) (by decide +kernel)) rfl, ⟨by decide, by decide, by decide +kernel⟩, by decide⟩
theorem mv_X10_plainTells : MV mX10_plainTells := ⟨Wd_of (List.mem_of_getElem? (i := 1604) (by decide +kernel)) rfl, Wd_of (List.mem_of_getElem? (i := 79) (by decide +kernel)) rfl⟩
abbrev mX10_act : MD := (yX10_act, cX10_act, 4, (some .int))
theorem mw_X10_463 : MW RX10 463 mX10_tellsAct 2 := ⟨Wd_of (List.mem_of_getElem? (i := 1598) (by decide +kernel)) rfl, Wd_of (List.mem_of_getElem? (i := 92) (by decide +kernel)) rfl, Wd_of (List.mem_of_getElem? (i := 1601) (by decide +kernel)) rfl, ⟨by decide, by decide, by decide +kernel⟩, by decide⟩
theorem mv_X10_tellsAct : MV mX10_tellsAct := ⟨Wd_of (List.mem_of_getElem? (i := 1600) (by decide +kernel)) rfl, Wd_of (List.mem_of_getElem? (i := 78) (by decide +kernel)) rfl⟩
abbrev mX10_trace : MD := (yX10_trace, cX10_trace, 2, (some .int))
abbrev mX10_taken : MD := (yX10_taken, cX10_taken, 4, (some .int))
abbrev mX10_count : MD := (yX10_count, cX10_count, 2, (some .int))
abbrev mX10_tape : MD := (yX10_tape, cX10_tape, 5, (some .int))
abbrev mX10_narrow : MD := (yX10_narrow, cX10_narrow, 4, (some .long))
