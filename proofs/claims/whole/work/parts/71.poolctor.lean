/-! words of the tables, by program -/
theorem oi_b : Cond.instanceMethod Lib.objectInit ∈ Wd ∧ Cond.code Lib.objectInit ⟨#[0xb1]⟩ 1 none ∈ Wd := ⟨Wd_of (List.mem_of_getElem? (i := 107) (by decide +kernel)) rfl, Wd_of (List.mem_of_getElem? (i := 108) (by decide +kernel)) rfl⟩
theorem oi_X9_5 : Cond.methodLink RX9 5 Lib.objectInit ∈ Wd := Wd_of (List.mem_of_getElem? (i := 106) (by decide +kernel)) rfl
theorem nw_X9_11 : NW RX9 11 8 := ⟨RX8, TX8, 10, rfl, Wd_of (List.mem_of_getElem? (i := 109) (by decide +kernel)) rfl, Wd_of (List.mem_of_getElem? (i := 110) (by decide +kernel)) rfl, Wd_of (List.mem_of_getElem? (i := 83) (by decide +kernel)) rfl, inWd8, tyX8_ok, by decide⟩
theorem oi_X8_3 : Cond.methodLink RX8 3 Lib.objectInit ∈ Wd := Wd_of (List.mem_of_getElem? (i := 114) (by decide +kernel)) rfl
theorem ao_House : Cond.arrayOver (.object RX2) ∈ Nd := Nd_of (List.mem_of_getElem? (i := 116) (by decide +kernel)) rfl
theorem cl_X8_15 : Cond.classLink RX8 15 RX2 ∈ Wd := Wd_of (List.mem_of_getElem? (i := 115) (by decide +kernel)) rfl
theorem fp_X8_17 : FP RX8 17 8 1 (tyX8 1) true := ⟨RX8, TX8, 10, tyX8, rfl, by decide, inWd8, Wd_of (List.mem_of_getElem? (i := 183) (by decide +kernel)) rfl, tyX8_ok, nmX8, rfl, rfl, fun _ => rfl⟩
theorem cl_X8_21 : Cond.classLink RX8 21 "[[I" ∈ Wd := Wd_of (List.mem_of_getElem? (i := 117) (by decide +kernel)) rfl
theorem ao_int : Cond.arrayOver (.array .int) ∈ Nd := Nd_of (List.mem_of_getElem? (i := 118) (by decide +kernel)) rfl
theorem na_int : Cond.arrayClass .int ∈ Wd := Wd_of (List.mem_of_getElem? (i := 177) (by decide +kernel)) rfl
theorem fp_X8_23 : FP RX8 23 8 2 (tyX8 2) true := ⟨RX8, TX8, 10, tyX8, rfl, by decide, inWd8, Wd_of (List.mem_of_getElem? (i := 187) (by decide +kernel)) rfl, tyX8_ok, nmX8, rfl, rfl, fun _ => rfl⟩
theorem fp_X8_39 : FP RX8 39 8 7 (tyX8 7) true := ⟨RX8, TX8, 10, tyX8, rfl, by decide, inWd8, Wd_of (List.mem_of_getElem? (i := 200) (by decide +kernel)) rfl, tyX8_ok, nmX8, rfl, rfl, fun _ => rfl⟩
theorem fp_X8_43 : FP RX8 43 8 8 (tyX8 8) true := ⟨RX8, TX8, 10, tyX8, rfl, by decide, inWd8, Wd_of (List.mem_of_getElem? (i := 203) (by decide +kernel)) rfl, tyX8_ok, nmX8, rfl, rfl, fun _ => rfl⟩
theorem fp_X8_46 : FP RX8 46 8 9 (tyX8 9) true := ⟨RX8, TX8, 10, tyX8, rfl, by decide, inWd8, Wd_of (List.mem_of_getElem? (i := 206) (by decide +kernel)) rfl, tyX8_ok, nmX8, rfl, rfl, fun _ => rfl⟩
theorem nw_X8_15 : NW RX8 15 2 := ⟨RX2, TX2, 9, rfl, Wd_of (List.mem_of_getElem? (i := 115) (by decide +kernel)) rfl, Wd_of (List.mem_of_getElem? (i := 119) (by decide +kernel)) rfl, Wd_of (List.mem_of_getElem? (i := 84) (by decide +kernel)) rfl, inWd2, tyX2_ok, by decide⟩
theorem oi_X2_3 : Cond.methodLink RX2 3 Lib.objectInit ∈ Wd := Wd_of (List.mem_of_getElem? (i := 123) (by decide +kernel)) rfl
abbrev mX2_init : MD := (yX2_init, cX2_init, 1, none)
theorem mn_X8_49 : MN RX8 49 mX2_init 0 "FireFromFire" := ⟨Nd_of (List.mem_of_getElem? (i := 120) (by decide +kernel)) rfl, Wd_of (List.mem_of_getElem? (i := 84) (by decide +kernel)) rfl, Wd_of (List.mem_of_getElem? (i := 122) (by decide +kernel)) rfl, ⟨by decide, by decide, by decide +kernel⟩, by decide⟩
theorem mi_X2_init : Cond.instanceMethod mX2_init.1 ∈ Wd := Wd_of (List.mem_of_getElem? (i := 121) (by decide +kernel)) rfl
abbrev mX8_init : MD := (yX8_init, cX8_init, 2, none)
theorem mw_X9_13 : MW RX9 13 mX8_init 0 := ⟨Wd_of (List.mem_of_getElem? (i := 111) (by decide +kernel)) rfl, Wd_of (List.mem_of_getElem? (i := 83) (by decide +kernel)) rfl, Wd_of (List.mem_of_getElem? (i := 113) (by decide +kernel)) rfl, ⟨by decide, by decide, by decide +kernel⟩, by decide⟩
theorem mi_X8_init : Cond.instanceMethod mX8_init.1 ∈ Wd := Wd_of (List.mem_of_getElem? (i := 112) (by decide +kernel)) rfl
theorem fp_X9_14 : FP RX9 14 9 0 (tyX9 0) true := ⟨RX9, TX9, 12, tyX9, rfl, by decide, inWd9, Wd_of (List.mem_of_getElem? (i := 400) (by decide +kernel)) rfl, tyX9_ok, nmX9, rfl, rfl, fun _ => rfl⟩
theorem fp_X9_18 : FP RX9 18 9 1 (tyX9 1) true := ⟨RX9, TX9, 12, tyX9, rfl, by decide, inWd9, Wd_of (List.mem_of_getElem? (i := 401) (by decide +kernel)) rfl, tyX9_ok, nmX9, rfl, rfl, fun _ => rfl⟩
theorem fp_X9_21 : FP RX9 21 9 2 (tyX9 2) true := ⟨RX9, TX9, 12, tyX9, rfl, by decide, inWd9, Wd_of (List.mem_of_getElem? (i := 402) (by decide +kernel)) rfl, tyX9_ok, nmX9, rfl, rfl, fun _ => rfl⟩
theorem nw_X9_28 : NW RX9 28 6 := ⟨RX6, TX6, 4, rfl, Wd_of (List.mem_of_getElem? (i := 228) (by decide +kernel)) rfl, Wd_of (List.mem_of_getElem? (i := 229) (by decide +kernel)) rfl, Wd_of (List.mem_of_getElem? (i := 85) (by decide +kernel)) rfl, inWd6, tyX6_ok, by decide⟩
theorem oi_X6_3 : Cond.methodLink RX6 3 Lib.objectInit ∈ Wd := Wd_of (List.mem_of_getElem? (i := 233) (by decide +kernel)) rfl
theorem fp_X6_9 : FP RX6 9 6 0 (tyX6 0) true := ⟨RX6, TX6, 4, tyX6, rfl, by decide, inWd6, Wd_of (List.mem_of_getElem? (i := 234) (by decide +kernel)) rfl, tyX6_ok, nmX6, rfl, rfl, fun _ => rfl⟩
abbrev mX6_init : MD := (yX6_init, cX6_init, 1, none)
theorem mn_X9_30 : MN RX9 30 mX6_init 0 "FireFromFire" := ⟨Nd_of (List.mem_of_getElem? (i := 230) (by decide +kernel)) rfl, Wd_of (List.mem_of_getElem? (i := 85) (by decide +kernel)) rfl, Wd_of (List.mem_of_getElem? (i := 232) (by decide +kernel)) rfl, ⟨by decide, by decide, by decide +kernel⟩, by decide⟩
theorem mi_X6_init : Cond.instanceMethod mX6_init.1 ∈ Wd := Wd_of (List.mem_of_getElem? (i := 231) (by decide +kernel)) rfl
theorem fp_X9_31 : FP RX9 31 9 4 (tyX9 4) true := ⟨RX9, TX9, 12, tyX9, rfl, by decide, inWd9, Wd_of (List.mem_of_getElem? (i := 404) (by decide +kernel)) rfl, tyX9_ok, nmX9, rfl, rfl, fun _ => rfl⟩
theorem ao_Land : Cond.arrayOver (.object RX3) ∈ Nd := Nd_of (List.mem_of_getElem? (i := 250) (by decide +kernel)) rfl
theorem cl_X9_35 : Cond.classLink RX9 35 RX3 ∈ Wd := Wd_of (List.mem_of_getElem? (i := 249) (by decide +kernel)) rfl
theorem fp_X9_37 : FP RX9 37 9 5 (tyX9 5) true := ⟨RX9, TX9, 12, tyX9, rfl, by decide, inWd9, Wd_of (List.mem_of_getElem? (i := 405) (by decide +kernel)) rfl, tyX9_ok, nmX9, rfl, rfl, fun _ => rfl⟩
theorem nw_X9_45 : NW RX9 45 1 := ⟨RX1, TX1, 6, rfl, Wd_of (List.mem_of_getElem? (i := 251) (by decide +kernel)) rfl, Wd_of (List.mem_of_getElem? (i := 252) (by decide +kernel)) rfl, Wd_of (List.mem_of_getElem? (i := 86) (by decide +kernel)) rfl, inWd1, tyX1_ok, by decide⟩
theorem oi_X1_3 : Cond.methodLink RX1 3 Lib.objectInit ∈ Wd := Wd_of (List.mem_of_getElem? (i := 256) (by decide +kernel)) rfl
theorem fp_X1_18 : FP RX1 18 1 2 (tyX1 2) true := ⟨RX1, TX1, 6, tyX1, rfl, by decide, inWd1, Wd_of (List.mem_of_getElem? (i := 262) (by decide +kernel)) rfl, tyX1_ok, nmX1, rfl, rfl, fun _ => rfl⟩
theorem fp_X1_22 : FP RX1 22 1 3 (tyX1 3) true := ⟨RX1, TX1, 6, tyX1, rfl, by decide, inWd1, Wd_of (List.mem_of_getElem? (i := 263) (by decide +kernel)) rfl, tyX1_ok, nmX1, rfl, rfl, fun _ => rfl⟩
theorem fp_X1_25 : FP RX1 25 1 4 (tyX1 4) true := ⟨RX1, TX1, 6, tyX1, rfl, by decide, inWd1, Wd_of (List.mem_of_getElem? (i := 264) (by decide +kernel)) rfl, tyX1_ok, nmX1, rfl, rfl, fun _ => rfl⟩
theorem fp_X1_28 : FP RX1 28 1 5 (tyX1 5) true := ⟨RX1, TX1, 6, tyX1, rfl, by decide, inWd1, Wd_of (List.mem_of_getElem? (i := 265) (by decide +kernel)) rfl, tyX1_ok, nmX1, rfl, rfl, fun _ => rfl⟩
abbrev mX1_init : MD := (yX1_init, cX1_init, 1, none)
theorem mn_X9_47 : MN RX9 47 mX1_init 0 "FireFromFire" := ⟨Nd_of (List.mem_of_getElem? (i := 253) (by decide +kernel)) rfl, Wd_of (List.mem_of_getElem? (i := 86) (by decide +kernel)) rfl, Wd_of (List.mem_of_getElem? (i := 255) (by decide +kernel)) rfl, ⟨by decide, by decide, by decide +kernel⟩, by decide⟩
theorem mi_X1_init : Cond.instanceMethod mX1_init.1 ∈ Wd := Wd_of (List.mem_of_getElem? (i := 254) (by decide +kernel)) rfl
theorem fp_X9_48 : FP RX9 48 9 7 (tyX9 7) true := ⟨RX9, TX9, 12, tyX9, rfl, by decide, inWd9, Wd_of (List.mem_of_getElem? (i := 407) (by decide +kernel)) rfl, tyX9_ok, nmX9, rfl, rfl, fun _ => rfl⟩
theorem nw_X9_52 : NW RX9 52 5 := ⟨RX5, TX5, 2, rfl, Wd_of (List.mem_of_getElem? (i := 279) (by decide +kernel)) rfl, Wd_of (List.mem_of_getElem? (i := 280) (by decide +kernel)) rfl, Wd_of (List.mem_of_getElem? (i := 87) (by decide +kernel)) rfl, inWd5, tyX5_ok, by decide⟩
theorem oi_X5_3 : Cond.methodLink RX5 3 Lib.objectInit ∈ Wd := Wd_of (List.mem_of_getElem? (i := 284) (by decide +kernel)) rfl
theorem cl_X5_9 : Cond.classLink RX5 9 "[[I" ∈ Wd := Wd_of (List.mem_of_getElem? (i := 285) (by decide +kernel)) rfl
theorem fp_X5_11 : FP RX5 11 5 0 (tyX5 0) true := ⟨RX5, TX5, 2, tyX5, rfl, by decide, inWd5, Wd_of (List.mem_of_getElem? (i := 286) (by decide +kernel)) rfl, tyX5_ok, nmX5, rfl, rfl, fun _ => rfl⟩
abbrev mX5_init : MD := (yX5_init, cX5_init, 1, none)
theorem mn_X9_54 : MN RX9 54 mX5_init 0 "FireFromFire" := ⟨Nd_of (List.mem_of_getElem? (i := 281) (by decide +kernel)) rfl, Wd_of (List.mem_of_getElem? (i := 87) (by decide +kernel)) rfl, Wd_of (List.mem_of_getElem? (i := 283) (by decide +kernel)) rfl, ⟨by decide, by decide, by decide +kernel⟩, by decide⟩
theorem mi_X5_init : Cond.instanceMethod mX5_init.1 ∈ Wd := Wd_of (List.mem_of_getElem? (i := 282) (by decide +kernel)) rfl
theorem fp_X9_55 : FP RX9 55 9 8 (tyX9 8) true := ⟨RX9, TX9, 12, tyX9, rfl, by decide, inWd9, Wd_of (List.mem_of_getElem? (i := 408) (by decide +kernel)) rfl, tyX9_ok, nmX9, rfl, rfl, fun _ => rfl⟩
theorem nw_X9_59 : NW RX9 59 4 := ⟨RX4, TX4, 4, rfl, Wd_of (List.mem_of_getElem? (i := 293) (by decide +kernel)) rfl, Wd_of (List.mem_of_getElem? (i := 294) (by decide +kernel)) rfl, Wd_of (List.mem_of_getElem? (i := 88) (by decide +kernel)) rfl, inWd4, tyX4_ok, by decide⟩
theorem oi_X4_5 : Cond.methodLink RX4 5 Lib.objectInit ∈ Wd := Wd_of (List.mem_of_getElem? (i := 298) (by decide +kernel)) rfl
theorem nw_X4_21 : NW RX4 21 8 := ⟨RX8, TX8, 10, rfl, Wd_of (List.mem_of_getElem? (i := 299) (by decide +kernel)) rfl, Wd_of (List.mem_of_getElem? (i := 110) (by decide +kernel)) rfl, Wd_of (List.mem_of_getElem? (i := 83) (by decide +kernel)) rfl, inWd8, tyX8_ok, by decide⟩
theorem mw_X4_23 : MW RX4 23 mX8_init 0 := ⟨Wd_of (List.mem_of_getElem? (i := 300) (by decide +kernel)) rfl, Wd_of (List.mem_of_getElem? (i := 83) (by decide +kernel)) rfl, Wd_of (List.mem_of_getElem? (i := 113) (by decide +kernel)) rfl, ⟨by decide, by decide, by decide +kernel⟩, by decide⟩
theorem fp_X4_24 : FP RX4 24 4 3 (tyX4 3) true := ⟨RX4, TX4, 4, tyX4, rfl, by decide, inWd4, Wd_of (List.mem_of_getElem? (i := 307) (by decide +kernel)) rfl, tyX4_ok, nmX4, rfl, rfl, fun _ => rfl⟩
abbrev mX4_init : MD := (yX4_init, cX4_init, 1, none)
theorem mn_X9_61 : MN RX9 61 mX4_init 0 "FireFromFire" := ⟨Nd_of (List.mem_of_getElem? (i := 295) (by decide +kernel)) rfl, Wd_of (List.mem_of_getElem? (i := 88) (by decide +kernel)) rfl, Wd_of (List.mem_of_getElem? (i := 297) (by decide +kernel)) rfl, ⟨by decide, by decide, by decide +kernel⟩, by decide⟩
theorem mi_X4_init : Cond.instanceMethod mX4_init.1 ∈ Wd := Wd_of (List.mem_of_getElem? (i := 296) (by decide +kernel)) rfl
theorem fp_X9_62 : FP RX9 62 9 9 (tyX9 9) true := ⟨RX9, TX9, 12, tyX9, rfl, by decide, inWd9, Wd_of (List.mem_of_getElem? (i := 409) (by decide +kernel)) rfl, tyX9_ok, nmX9, rfl, rfl, fun _ => rfl⟩
theorem nw_X9_66 : NW RX9 66 0 := ⟨RX0, TX0, 5, rfl, Wd_of (List.mem_of_getElem? (i := 317) (by decide +kernel)) rfl, Wd_of (List.mem_of_getElem? (i := 318) (by decide +kernel)) rfl, Wd_of (List.mem_of_getElem? (i := 89) (by decide +kernel)) rfl, inWd0, tyX0_ok, by decide⟩
theorem oi_X0_3 : Cond.methodLink RX0 3 Lib.objectInit ∈ Wd := Wd_of (List.mem_of_getElem? (i := 322) (by decide +kernel)) rfl
theorem fp_X0_15 : FP RX0 15 0 1 (tyX0 1) true := ⟨RX0, TX0, 5, tyX0, rfl, by decide, inWd0, Wd_of (List.mem_of_getElem? (i := 325) (by decide +kernel)) rfl, tyX0_ok, nmX0, rfl, rfl, fun _ => rfl⟩
abbrev mX0_init : MD := (yX0_init, cX0_init, 1, none)
theorem mn_X9_68 : MN RX9 68 mX0_init 0 "FireFromFire" := ⟨Nd_of (List.mem_of_getElem? (i := 319) (by decide +kernel)) rfl, Wd_of (List.mem_of_getElem? (i := 89) (by decide +kernel)) rfl, Wd_of (List.mem_of_getElem? (i := 321) (by decide +kernel)) rfl, ⟨by decide, by decide, by decide +kernel⟩, by decide⟩
theorem mi_X0_init : Cond.instanceMethod mX0_init.1 ∈ Wd := Wd_of (List.mem_of_getElem? (i := 320) (by decide +kernel)) rfl
theorem fp_X9_69 : FP RX9 69 9 10 (tyX9 10) true := ⟨RX9, TX9, 12, tyX9, rfl, by decide, inWd9, Wd_of (List.mem_of_getElem? (i := 410) (by decide +kernel)) rfl, tyX9_ok, nmX9, rfl, rfl, fun _ => rfl⟩
theorem ao_Tape : Cond.arrayOver (.object RX7) ∈ Nd := Nd_of (List.mem_of_getElem? (i := 342) (by decide +kernel)) rfl
theorem cl_X9_73 : Cond.classLink RX9 73 RX7 ∈ Wd := Wd_of (List.mem_of_getElem? (i := 341) (by decide +kernel)) rfl
theorem fp_X9_75 : FP RX9 75 9 11 (tyX9 11) true := ⟨RX9, TX9, 12, tyX9, rfl, by decide, inWd9, Wd_of (List.mem_of_getElem? (i := 411) (by decide +kernel)) rfl, tyX9_ok, nmX9, rfl, rfl, fun _ => rfl⟩
theorem nw_X9_35 : NW RX9 35 3 := ⟨RX3, TX3, 9, rfl, Wd_of (List.mem_of_getElem? (i := 249) (by decide +kernel)) rfl, Wd_of (List.mem_of_getElem? (i := 343) (by decide +kernel)) rfl, Wd_of (List.mem_of_getElem? (i := 90) (by decide +kernel)) rfl, inWd3, tyX3_ok, by decide⟩
theorem oi_X3_3 : Cond.methodLink RX3 3 Lib.objectInit ∈ Wd := Wd_of (List.mem_of_getElem? (i := 347) (by decide +kernel)) rfl
theorem fp_X3_18 : FP RX3 18 3 2 (tyX3 2) true := ⟨RX3, TX3, 9, tyX3, rfl, by decide, inWd3, Wd_of (List.mem_of_getElem? (i := 353) (by decide +kernel)) rfl, tyX3_ok, nmX3, rfl, rfl, fun _ => rfl⟩
theorem fp_X3_22 : FP RX3 22 3 3 (tyX3 3) true := ⟨RX3, TX3, 9, tyX3, rfl, by decide, inWd3, Wd_of (List.mem_of_getElem? (i := 355) (by decide +kernel)) rfl, tyX3_ok, nmX3, rfl, rfl, fun _ => rfl⟩
theorem fp_X3_25 : FP RX3 25 3 4 (tyX3 4) true := ⟨RX3, TX3, 9, tyX3, rfl, by decide, inWd3, Wd_of (List.mem_of_getElem? (i := 357) (by decide +kernel)) rfl, tyX3_ok, nmX3, rfl, rfl, fun _ => rfl⟩
theorem fp_X3_28 : FP RX3 28 3 5 (tyX3 5) true := ⟨RX3, TX3, 9, tyX3, rfl, by decide, inWd3, Wd_of (List.mem_of_getElem? (i := 358) (by decide +kernel)) rfl, tyX3_ok, nmX3, rfl, rfl, fun _ => rfl⟩
theorem fp_X3_31 : FP RX3 31 3 6 (tyX3 6) true := ⟨RX3, TX3, 9, tyX3, rfl, by decide, inWd3, Wd_of (List.mem_of_getElem? (i := 359) (by decide +kernel)) rfl, tyX3_ok, nmX3, rfl, rfl, fun _ => rfl⟩
theorem fp_X3_34 : FP RX3 34 3 7 (tyX3 7) true := ⟨RX3, TX3, 9, tyX3, rfl, by decide, inWd3, Wd_of (List.mem_of_getElem? (i := 360) (by decide +kernel)) rfl, tyX3_ok, nmX3, rfl, rfl, fun _ => rfl⟩
theorem fp_X3_37 : FP RX3 37 3 8 (tyX3 8) true := ⟨RX3, TX3, 9, tyX3, rfl, by decide, inWd3, Wd_of (List.mem_of_getElem? (i := 361) (by decide +kernel)) rfl, tyX3_ok, nmX3, rfl, rfl, fun _ => rfl⟩
abbrev mX3_init : MD := (yX3_init, cX3_init, 1, none)
theorem mn_X9_79 : MN RX9 79 mX3_init 0 "FireFromFire" := ⟨Nd_of (List.mem_of_getElem? (i := 344) (by decide +kernel)) rfl, Wd_of (List.mem_of_getElem? (i := 90) (by decide +kernel)) rfl, Wd_of (List.mem_of_getElem? (i := 346) (by decide +kernel)) rfl, ⟨by decide, by decide, by decide +kernel⟩, by decide⟩
theorem mi_X3_init : Cond.instanceMethod mX3_init.1 ∈ Wd := Wd_of (List.mem_of_getElem? (i := 345) (by decide +kernel)) rfl
theorem nw_X9_73 : NW RX9 73 7 := ⟨RX7, TX7, 3, rfl, Wd_of (List.mem_of_getElem? (i := 341) (by decide +kernel)) rfl, Wd_of (List.mem_of_getElem? (i := 381) (by decide +kernel)) rfl, Wd_of (List.mem_of_getElem? (i := 91) (by decide +kernel)) rfl, inWd7, tyX7_ok, by decide⟩
theorem oi_X7_3 : Cond.methodLink RX7 3 Lib.objectInit ∈ Wd := Wd_of (List.mem_of_getElem? (i := 385) (by decide +kernel)) rfl
theorem na_long : Cond.arrayClass .long ∈ Wd := Wd_of (List.mem_of_getElem? (i := 399) (by decide +kernel)) rfl
theorem fp_X7_18 : FP RX7 18 7 2 (tyX7 2) true := ⟨RX7, TX7, 3, tyX7, rfl, by decide, inWd7, Wd_of (List.mem_of_getElem? (i := 390) (by decide +kernel)) rfl, tyX7_ok, nmX7, rfl, rfl, fun _ => rfl⟩
abbrev mX7_init : MD := (yX7_init, cX7_init, 1, none)
theorem mn_X9_80 : MN RX9 80 mX7_init 0 "FireFromFire" := ⟨Nd_of (List.mem_of_getElem? (i := 382) (by decide +kernel)) rfl, Wd_of (List.mem_of_getElem? (i := 91) (by decide +kernel)) rfl, Wd_of (List.mem_of_getElem? (i := 384) (by decide +kernel)) rfl, ⟨by decide, by decide, by decide +kernel⟩, by decide⟩
theorem mi_X7_init : Cond.instanceMethod mX7_init.1 ∈ Wd := Wd_of (List.mem_of_getElem? (i := 383) (by decide +kernel)) rfl
abbrev mX9_init : MD := (yX9_init, cX9_init, 2, none)
theorem oi_X10_1 : Cond.methodLink RX10 1 Lib.objectInit ∈ Wd := Wd_of (List.mem_of_getElem? (i := 1005) (by decide +kernel)) rfl
theorem fp_X10_22 : FP RX10 22 10 4 (tyX10 4) true := ⟨RX10, TX10, 84, tyX10, rfl, by decide, inWd10, Wd_of (List.mem_of_getElem? (i := 1010) (by decide +kernel)) rfl, tyX10_ok, nmX10, rfl, rfl, fun _ => rfl⟩
theorem fp_X10_26 : FP RX10 26 10 5 (tyX10 5) true := ⟨RX10, TX10, 84, tyX10, rfl, by decide, inWd10, Wd_of (List.mem_of_getElem? (i := 1011) (by decide +kernel)) rfl, tyX10_ok, nmX10, rfl, rfl, fun _ => rfl⟩
theorem fp_X10_29 : FP RX10 29 10 6 (tyX10 6) true := ⟨RX10, TX10, 84, tyX10, rfl, by decide, inWd10, Wd_of (List.mem_of_getElem? (i := 1012) (by decide +kernel)) rfl, tyX10_ok, nmX10, rfl, rfl, fun _ => rfl⟩
theorem fp_X10_32 : FP RX10 32 10 7 (tyX10 7) true := ⟨RX10, TX10, 84, tyX10, rfl, by decide, inWd10, Wd_of (List.mem_of_getElem? (i := 1013) (by decide +kernel)) rfl, tyX10_ok, nmX10, rfl, rfl, fun _ => rfl⟩
theorem fp_X10_35 : FP RX10 35 10 8 (tyX10 8) true := ⟨RX10, TX10, 84, tyX10, rfl, by decide, inWd10, Wd_of (List.mem_of_getElem? (i := 1014) (by decide +kernel)) rfl, tyX10_ok, nmX10, rfl, rfl, fun _ => rfl⟩
theorem fp_X10_38 : FP RX10 38 10 9 (tyX10 9) true := ⟨RX10, TX10, 84, tyX10, rfl, by decide, inWd10, Wd_of (List.mem_of_getElem? (i := 1015) (by decide +kernel)) rfl, tyX10_ok, nmX10, rfl, rfl, fun _ => rfl⟩
theorem fp_X10_41 : FP RX10 41 10 10 (tyX10 10) true := ⟨RX10, TX10, 84, tyX10, rfl, by decide, inWd10, Wd_of (List.mem_of_getElem? (i := 1016) (by decide +kernel)) rfl, tyX10_ok, nmX10, rfl, rfl, fun _ => rfl⟩
theorem fp_X10_44 : FP RX10 44 10 11 (tyX10 11) true := ⟨RX10, TX10, 84, tyX10, rfl, by decide, inWd10, Wd_of (List.mem_of_getElem? (i := 1017) (by decide +kernel)) rfl, tyX10_ok, nmX10, rfl, rfl, fun _ => rfl⟩
theorem fp_X10_47 : FP RX10 47 10 12 (tyX10 12) true := ⟨RX10, TX10, 84, tyX10, rfl, by decide, inWd10, Wd_of (List.mem_of_getElem? (i := 1018) (by decide +kernel)) rfl, tyX10_ok, nmX10, rfl, rfl, fun _ => rfl⟩
theorem fp_X10_65 : FP RX10 65 10 18 (tyX10 18) true := ⟨RX10, TX10, 84, tyX10, rfl, by decide, inWd10, Wd_of (List.mem_of_getElem? (i := 1024) (by decide +kernel)) rfl, tyX10_ok, nmX10, rfl, rfl, fun _ => rfl⟩
theorem fp_X10_68 : FP RX10 68 10 19 (tyX10 19) true := ⟨RX10, TX10, 84, tyX10, rfl, by decide, inWd10, Wd_of (List.mem_of_getElem? (i := 1025) (by decide +kernel)) rfl, tyX10_ok, nmX10, rfl, rfl, fun _ => rfl⟩
theorem fp_X10_71 : FP RX10 71 10 20 (tyX10 20) true := ⟨RX10, TX10, 84, tyX10, rfl, by decide, inWd10, Wd_of (List.mem_of_getElem? (i := 1026) (by decide +kernel)) rfl, tyX10_ok, nmX10, rfl, rfl, fun _ => rfl⟩
theorem fp_X10_74 : FP RX10 74 10 21 (tyX10 21) true := ⟨RX10, TX10, 84, tyX10, rfl, by decide, inWd10, Wd_of (List.mem_of_getElem? (i := 1027) (by decide +kernel)) rfl, tyX10_ok, nmX10, rfl, rfl, fun _ => rfl⟩
theorem fp_X10_77 : FP RX10 77 10 22 (tyX10 22) true := ⟨RX10, TX10, 84, tyX10, rfl, by decide, inWd10, Wd_of (List.mem_of_getElem? (i := 1028) (by decide +kernel)) rfl, tyX10_ok, nmX10, rfl, rfl, fun _ => rfl⟩
theorem fp_X10_80 : FP RX10 80 10 23 (tyX10 23) true := ⟨RX10, TX10, 84, tyX10, rfl, by decide, inWd10, Wd_of (List.mem_of_getElem? (i := 1029) (by decide +kernel)) rfl, tyX10_ok, nmX10, rfl, rfl, fun _ => rfl⟩
theorem fp_X10_83 : FP RX10 83 10 24 (tyX10 24) true := ⟨RX10, TX10, 84, tyX10, rfl, by decide, inWd10, Wd_of (List.mem_of_getElem? (i := 1030) (by decide +kernel)) rfl, tyX10_ok, nmX10, rfl, rfl, fun _ => rfl⟩
theorem fp_X10_86 : FP RX10 86 10 25 (tyX10 25) true := ⟨RX10, TX10, 84, tyX10, rfl, by decide, inWd10, Wd_of (List.mem_of_getElem? (i := 1031) (by decide +kernel)) rfl, tyX10_ok, nmX10, rfl, rfl, fun _ => rfl⟩
theorem fp_X10_89 : FP RX10 89 10 26 (tyX10 26) true := ⟨RX10, TX10, 84, tyX10, rfl, by decide, inWd10, Wd_of (List.mem_of_getElem? (i := 1032) (by decide +kernel)) rfl, tyX10_ok, nmX10, rfl, rfl, fun _ => rfl⟩
theorem fp_X10_101 : FP RX10 101 10 30 (tyX10 30) true := ⟨RX10, TX10, 84, tyX10, rfl, by decide, inWd10, Wd_of (List.mem_of_getElem? (i := 1036) (by decide +kernel)) rfl, tyX10_ok, nmX10, rfl, rfl, fun _ => rfl⟩
theorem fp_X10_104 : FP RX10 104 10 31 (tyX10 31) true := ⟨RX10, TX10, 84, tyX10, rfl, by decide, inWd10, Wd_of (List.mem_of_getElem? (i := 1037) (by decide +kernel)) rfl, tyX10_ok, nmX10, rfl, rfl, fun _ => rfl⟩
theorem fp_X10_122 : FP RX10 122 10 37 (tyX10 37) true := ⟨RX10, TX10, 84, tyX10, rfl, by decide, inWd10, Wd_of (List.mem_of_getElem? (i := 1043) (by decide +kernel)) rfl, tyX10_ok, nmX10, rfl, rfl, fun _ => rfl⟩
theorem fp_X10_125 : FP RX10 125 10 38 (tyX10 38) true := ⟨RX10, TX10, 84, tyX10, rfl, by decide, inWd10, Wd_of (List.mem_of_getElem? (i := 1044) (by decide +kernel)) rfl, tyX10_ok, nmX10, rfl, rfl, fun _ => rfl⟩
theorem fp_X10_128 : FP RX10 128 10 39 (tyX10 39) true := ⟨RX10, TX10, 84, tyX10, rfl, by decide, inWd10, Wd_of (List.mem_of_getElem? (i := 1045) (by decide +kernel)) rfl, tyX10_ok, nmX10, rfl, rfl, fun _ => rfl⟩
theorem fp_X10_131 : FP RX10 131 10 40 (tyX10 40) true := ⟨RX10, TX10, 84, tyX10, rfl, by decide, inWd10, Wd_of (List.mem_of_getElem? (i := 1046) (by decide +kernel)) rfl, tyX10_ok, nmX10, rfl, rfl, fun _ => rfl⟩
theorem fp_X10_134 : FP RX10 134 10 41 (tyX10 41) true := ⟨RX10, TX10, 84, tyX10, rfl, by decide, inWd10, Wd_of (List.mem_of_getElem? (i := 1047) (by decide +kernel)) rfl, tyX10_ok, nmX10, rfl, rfl, fun _ => rfl⟩
theorem fp_X10_137 : FP RX10 137 10 42 (tyX10 42) true := ⟨RX10, TX10, 84, tyX10, rfl, by decide, inWd10, Wd_of (List.mem_of_getElem? (i := 1048) (by decide +kernel)) rfl, tyX10_ok, nmX10, rfl, rfl, fun _ => rfl⟩
theorem fp_X10_140 : FP RX10 140 10 43 (tyX10 43) true := ⟨RX10, TX10, 84, tyX10, rfl, by decide, inWd10, Wd_of (List.mem_of_getElem? (i := 1049) (by decide +kernel)) rfl, tyX10_ok, nmX10, rfl, rfl, fun _ => rfl⟩
theorem fp_X10_143 : FP RX10 143 10 44 (tyX10 44) true := ⟨RX10, TX10, 84, tyX10, rfl, by decide, inWd10, Wd_of (List.mem_of_getElem? (i := 1050) (by decide +kernel)) rfl, tyX10_ok, nmX10, rfl, rfl, fun _ => rfl⟩
theorem na_boolean : Cond.arrayClass .boolean ∈ Wd := Wd_of (List.mem_of_getElem? (i := 1259) (by decide +kernel)) rfl
theorem fp_X10_146 : FP RX10 146 10 45 (tyX10 45) true := ⟨RX10, TX10, 84, tyX10, rfl, by decide, inWd10, Wd_of (List.mem_of_getElem? (i := 1051) (by decide +kernel)) rfl, tyX10_ok, nmX10, rfl, rfl, fun _ => rfl⟩
theorem fp_X10_153 : FP RX10 153 10 47 (tyX10 47) true := ⟨RX10, TX10, 84, tyX10, rfl, by decide, inWd10, Wd_of (List.mem_of_getElem? (i := 1053) (by decide +kernel)) rfl, tyX10_ok, nmX10, rfl, rfl, fun _ => rfl⟩
theorem fp_X10_156 : FP RX10 156 10 48 (tyX10 48) true := ⟨RX10, TX10, 84, tyX10, rfl, by decide, inWd10, Wd_of (List.mem_of_getElem? (i := 1054) (by decide +kernel)) rfl, tyX10_ok, nmX10, rfl, rfl, fun _ => rfl⟩
theorem fp_X10_159 : FP RX10 159 10 49 (tyX10 49) true := ⟨RX10, TX10, 84, tyX10, rfl, by decide, inWd10, Wd_of (List.mem_of_getElem? (i := 1055) (by decide +kernel)) rfl, tyX10_ok, nmX10, rfl, rfl, fun _ => rfl⟩
theorem fp_X10_171 : FP RX10 171 10 53 (tyX10 53) true := ⟨RX10, TX10, 84, tyX10, rfl, by decide, inWd10, Wd_of (List.mem_of_getElem? (i := 1059) (by decide +kernel)) rfl, tyX10_ok, nmX10, rfl, rfl, fun _ => rfl⟩
theorem fp_X10_174 : FP RX10 174 10 54 (tyX10 54) true := ⟨RX10, TX10, 84, tyX10, rfl, by decide, inWd10, Wd_of (List.mem_of_getElem? (i := 1060) (by decide +kernel)) rfl, tyX10_ok, nmX10, rfl, rfl, fun _ => rfl⟩
theorem fp_X10_177 : FP RX10 177 10 55 (tyX10 55) true := ⟨RX10, TX10, 84, tyX10, rfl, by decide, inWd10, Wd_of (List.mem_of_getElem? (i := 1061) (by decide +kernel)) rfl, tyX10_ok, nmX10, rfl, rfl, fun _ => rfl⟩
theorem fp_X10_180 : FP RX10 180 10 56 (tyX10 56) true := ⟨RX10, TX10, 84, tyX10, rfl, by decide, inWd10, Wd_of (List.mem_of_getElem? (i := 1062) (by decide +kernel)) rfl, tyX10_ok, nmX10, rfl, rfl, fun _ => rfl⟩
theorem fp_X10_183 : FP RX10 183 10 57 (tyX10 57) true := ⟨RX10, TX10, 84, tyX10, rfl, by decide, inWd10, Wd_of (List.mem_of_getElem? (i := 1063) (by decide +kernel)) rfl, tyX10_ok, nmX10, rfl, rfl, fun _ => rfl⟩
theorem fp_X10_215 : FP RX10 215 10 67 (tyX10 67) true := ⟨RX10, TX10, 84, tyX10, rfl, by decide, inWd10, Wd_of (List.mem_of_getElem? (i := 1073) (by decide +kernel)) rfl, tyX10_ok, nmX10, rfl, rfl, fun _ => rfl⟩
theorem fp_X10_218 : FP RX10 218 10 68 (tyX10 68) true := ⟨RX10, TX10, 84, tyX10, rfl, by decide, inWd10, Wd_of (List.mem_of_getElem? (i := 1074) (by decide +kernel)) rfl, tyX10_ok, nmX10, rfl, rfl, fun _ => rfl⟩
theorem fp_X10_221 : FP RX10 221 10 69 (tyX10 69) true := ⟨RX10, TX10, 84, tyX10, rfl, by decide, inWd10, Wd_of (List.mem_of_getElem? (i := 1075) (by decide +kernel)) rfl, tyX10_ok, nmX10, rfl, rfl, fun _ => rfl⟩
theorem fp_X10_224 : FP RX10 224 10 70 (tyX10 70) true := ⟨RX10, TX10, 84, tyX10, rfl, by decide, inWd10, Wd_of (List.mem_of_getElem? (i := 1076) (by decide +kernel)) rfl, tyX10_ok, nmX10, rfl, rfl, fun _ => rfl⟩
theorem fp_X10_227 : FP RX10 227 10 71 (tyX10 71) true := ⟨RX10, TX10, 84, tyX10, rfl, by decide, inWd10, Wd_of (List.mem_of_getElem? (i := 1077) (by decide +kernel)) rfl, tyX10_ok, nmX10, rfl, rfl, fun _ => rfl⟩
theorem fp_X10_230 : FP RX10 230 10 72 (tyX10 72) true := ⟨RX10, TX10, 84, tyX10, rfl, by decide, inWd10, Wd_of (List.mem_of_getElem? (i := 1078) (by decide +kernel)) rfl, tyX10_ok, nmX10, rfl, rfl, fun _ => rfl⟩
theorem fp_X10_233 : FP RX10 233 10 73 (tyX10 73) true := ⟨RX10, TX10, 84, tyX10, rfl, by decide, inWd10, Wd_of (List.mem_of_getElem? (i := 1079) (by decide +kernel)) rfl, tyX10_ok, nmX10, rfl, rfl, fun _ => rfl⟩
theorem fp_X10_236 : FP RX10 236 10 74 (tyX10 74) true := ⟨RX10, TX10, 84, tyX10, rfl, by decide, inWd10, Wd_of (List.mem_of_getElem? (i := 1080) (by decide +kernel)) rfl, tyX10_ok, nmX10, rfl, rfl, fun _ => rfl⟩
theorem fp_X10_239 : FP RX10 239 10 75 (tyX10 75) true := ⟨RX10, TX10, 84, tyX10, rfl, by decide, inWd10, Wd_of (List.mem_of_getElem? (i := 1081) (by decide +kernel)) rfl, tyX10_ok, nmX10, rfl, rfl, fun _ => rfl⟩
theorem fp_X10_242 : FP RX10 242 10 76 (tyX10 76) true := ⟨RX10, TX10, 84, tyX10, rfl, by decide, inWd10, Wd_of (List.mem_of_getElem? (i := 1082) (by decide +kernel)) rfl, tyX10_ok, nmX10, rfl, rfl, fun _ => rfl⟩
theorem fp_X10_245 : FP RX10 245 10 77 (tyX10 77) true := ⟨RX10, TX10, 84, tyX10, rfl, by decide, inWd10, Wd_of (List.mem_of_getElem? (i := 1083) (by decide +kernel)) rfl, tyX10_ok, nmX10, rfl, rfl, fun _ => rfl⟩
theorem fp_X10_251 : FP RX10 251 10 79 (tyX10 79) true := ⟨RX10, TX10, 84, tyX10, rfl, by decide, inWd10, Wd_of (List.mem_of_getElem? (i := 1085) (by decide +kernel)) rfl, tyX10_ok, nmX10, rfl, rfl, fun _ => rfl⟩
theorem fp_X10_254 : FP RX10 254 10 80 (tyX10 80) true := ⟨RX10, TX10, 84, tyX10, rfl, by decide, inWd10, Wd_of (List.mem_of_getElem? (i := 1086) (by decide +kernel)) rfl, tyX10_ok, nmX10, rfl, rfl, fun _ => rfl⟩
theorem fp_X10_257 : FP RX10 257 10 81 (tyX10 81) true := ⟨RX10, TX10, 84, tyX10, rfl, by decide, inWd10, Wd_of (List.mem_of_getElem? (i := 1087) (by decide +kernel)) rfl, tyX10_ok, nmX10, rfl, rfl, fun _ => rfl⟩
theorem fp_X10_260 : FP RX10 260 10 82 (tyX10 82) true := ⟨RX10, TX10, 84, tyX10, rfl, by decide, inWd10, Wd_of (List.mem_of_getElem? (i := 1088) (by decide +kernel)) rfl, tyX10_ok, nmX10, rfl, rfl, fun _ => rfl⟩
theorem fp_X10_264 : FP RX10 264 10 83 (tyX10 83) true := ⟨RX10, TX10, 84, tyX10, rfl, by decide, inWd10, Wd_of (List.mem_of_getElem? (i := 1089) (by decide +kernel)) rfl, tyX10_ok, nmX10, rfl, rfl, fun _ => rfl⟩
abbrev mX10_init : MD := (yX10_init, cX10_init, 1, none)
