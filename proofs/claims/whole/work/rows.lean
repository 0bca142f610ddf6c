section
-- ===== PART A: goes FIRST, ahead of the names: the tables' words, and 'selects' of the private methods out of them =====
/-- a private method of a class that the tables say can be made, by its rows of tables_1 -/
def lw_okq (q : MethodName × Nat) : Prop := (q.1.cls ≠ "java/lang/invoke/MethodHandle" ∧ q.1.cls ≠ "java/lang/invoke/VarHandle") ∧ Cond.instantiable q.1.cls q.2 ∈ tables_1 ∧ Cond.privateMethod q.1 ∈ tables_1 ∧ Cond.instanceMethod q.1 ∈ tables_1
theorem lw_p0 : lw_okq (⟨"FireFromFire$Reader", "takeWord", "()I"⟩, 4) := ⟨⟨by decide +kernel, by decide +kernel⟩, List.mem_of_getElem? (i := 148) (by decide +kernel), List.mem_of_getElem? (i := 413) (by decide +kernel), List.mem_of_getElem? (i := 414) (by decide +kernel)⟩
theorem lw_p1 : lw_okq (⟨"FireFromFire$Reader", "sign", "()I"⟩, 4) := ⟨⟨by decide +kernel, by decide +kernel⟩, List.mem_of_getElem? (i := 148) (by decide +kernel), List.mem_of_getElem? (i := 417) (by decide +kernel), List.mem_of_getElem? (i := 418) (by decide +kernel)⟩
theorem lw_p2 : lw_okq (⟨"FireFromFire$Reader", "takeAll", "(Ljava/lang/String;)Z"⟩, 4) := ⟨⟨by decide +kernel, by decide +kernel⟩, List.mem_of_getElem? (i := 148) (by decide +kernel), List.mem_of_getElem? (i := 422) (by decide +kernel), List.mem_of_getElem? (i := 423) (by decide +kernel)⟩
theorem lw_p3 : lw_okq (⟨"FireFromFire$Reader", "take", "(I)Z"⟩, 4) := ⟨⟨by decide +kernel, by decide +kernel⟩, List.mem_of_getElem? (i := 148) (by decide +kernel), List.mem_of_getElem? (i := 474) (by decide +kernel), List.mem_of_getElem? (i := 475) (by decide +kernel)⟩
theorem lw_p4 : lw_okq (⟨"FireFromFire$Reader", "takeNext", "()Z"⟩, 4) := ⟨⟨by decide +kernel, by decide +kernel⟩, List.mem_of_getElem? (i := 148) (by decide +kernel), List.mem_of_getElem? (i := 483) (by decide +kernel), List.mem_of_getElem? (i := 484) (by decide +kernel)⟩
theorem lw_p5 : lw_okq (⟨"FireFromFire$Reader", "takeWeather", "()I"⟩, 4) := ⟨⟨by decide +kernel, by decide +kernel⟩, List.mem_of_getElem? (i := 148) (by decide +kernel), List.mem_of_getElem? (i := 487) (by decide +kernel), List.mem_of_getElem? (i := 488) (by decide +kernel)⟩
theorem lw_p6 : lw_okq (⟨"FireFromFire$Reader", "takeNumber", "()I"⟩, 4) := ⟨⟨by decide +kernel, by decide +kernel⟩, List.mem_of_getElem? (i := 148) (by decide +kernel), List.mem_of_getElem? (i := 491) (by decide +kernel), List.mem_of_getElem? (i := 492) (by decide +kernel)⟩
theorem lw_p7 : lw_okq (⟨"FireFromFire$Reader", "takeEither", "(I)Z"⟩, 4) := ⟨⟨by decide +kernel, by decide +kernel⟩, List.mem_of_getElem? (i := 148) (by decide +kernel), List.mem_of_getElem? (i := 502) (by decide +kernel), List.mem_of_getElem? (i := 503) (by decide +kernel)⟩
theorem lw_p8 : lw_okq (⟨"FireFromFire$Reader", "takePart", "(I)Z"⟩, 4) := ⟨⟨by decide +kernel, by decide +kernel⟩, List.mem_of_getElem? (i := 148) (by decide +kernel), List.mem_of_getElem? (i := 506) (by decide +kernel), List.mem_of_getElem? (i := 507) (by decide +kernel)⟩
theorem lw_p9 : lw_okq (⟨"FireFromFire$Reader", "takeTest", "(I)Z"⟩, 4) := ⟨⟨by decide +kernel, by decide +kernel⟩, List.mem_of_getElem? (i := 148) (by decide +kernel), List.mem_of_getElem? (i := 510) (by decide +kernel), List.mem_of_getElem? (i := 511) (by decide +kernel)⟩
theorem lw_p10 : lw_okq (⟨"FireFromFire$Village", "isKeeping", "(LFireFromFire$House;II)Z"⟩, 10) := ⟨⟨by decide +kernel, by decide +kernel⟩, List.mem_of_getElem? (i := 29) (by decide +kernel), List.mem_of_getElem? (i := 636) (by decide +kernel), List.mem_of_getElem? (i := 637) (by decide +kernel)⟩
theorem lw_p11 : lw_okq (⟨"FireFromFire$Village", "isSending", "(LFireFromFire$House;II)Z"⟩, 10) := ⟨⟨by decide +kernel, by decide +kernel⟩, List.mem_of_getElem? (i := 29) (by decide +kernel), List.mem_of_getElem? (i := 646) (by decide +kernel), List.mem_of_getElem? (i := 647) (by decide +kernel)⟩
theorem lw_p12 : lw_okq (⟨"FireFromFire$Hours", "burn", "(LFireFromFire$House;II)V"⟩, 6) := ⟨⟨by decide +kernel, by decide +kernel⟩, List.mem_of_getElem? (i := 171) (by decide +kernel), List.mem_of_getElem? (i := 663) (by decide +kernel), List.mem_of_getElem? (i := 664) (by decide +kernel)⟩
theorem lw_p13 : lw_okq (⟨"FireFromFire$Hours", "goNearer", "(LFireFromFire$Village;LFireFromFire$House;I)V"⟩, 6) := ⟨⟨by decide +kernel, by decide +kernel⟩, List.mem_of_getElem? (i := 171) (by decide +kernel), List.mem_of_getElem? (i := 667) (by decide +kernel), List.mem_of_getElem? (i := 668) (by decide +kernel)⟩
theorem lw_p14 : lw_okq (⟨"FireFromFire$Hours", "bringNearer", "(LFireFromFire$House;I)V"⟩, 6) := ⟨⟨by decide +kernel, by decide +kernel⟩, List.mem_of_getElem? (i := 171) (by decide +kernel), List.mem_of_getElem? (i := 673) (by decide +kernel), List.mem_of_getElem? (i := 674) (by decide +kernel)⟩
theorem lw_p15 : lw_okq (⟨"FireFromFire$Paths", "isReached", "(II)Z"⟩, 2) := ⟨⟨by decide +kernel, by decide +kernel⟩, List.mem_of_getElem? (i := 199) (by decide +kernel), List.mem_of_getElem? (i := 734) (by decide +kernel), List.mem_of_getElem? (i := 735) (by decide +kernel)⟩
def lw_privs_1 : List (MethodName × Nat) := [(⟨"FireFromFire$Reader", "takeWord", "()I"⟩, 4), (⟨"FireFromFire$Reader", "sign", "()I"⟩, 4), (⟨"FireFromFire$Reader", "takeAll", "(Ljava/lang/String;)Z"⟩, 4), (⟨"FireFromFire$Reader", "take", "(I)Z"⟩, 4), (⟨"FireFromFire$Reader", "takeNext", "()Z"⟩, 4), (⟨"FireFromFire$Reader", "takeWeather", "()I"⟩, 4), (⟨"FireFromFire$Reader", "takeNumber", "()I"⟩, 4), (⟨"FireFromFire$Reader", "takeEither", "(I)Z"⟩, 4), (⟨"FireFromFire$Reader", "takePart", "(I)Z"⟩, 4), (⟨"FireFromFire$Reader", "takeTest", "(I)Z"⟩, 4), (⟨"FireFromFire$Village", "isKeeping", "(LFireFromFire$House;II)Z"⟩, 10), (⟨"FireFromFire$Village", "isSending", "(LFireFromFire$House;II)Z"⟩, 10), (⟨"FireFromFire$Hours", "burn", "(LFireFromFire$House;II)V"⟩, 6), (⟨"FireFromFire$Hours", "goNearer", "(LFireFromFire$Village;LFireFromFire$House;I)V"⟩, 6), (⟨"FireFromFire$Hours", "bringNearer", "(LFireFromFire$House;I)V"⟩, 6), (⟨"FireFromFire$Paths", "isReached", "(II)Z"⟩, 2)]
theorem lw_r1 : ∀ q ∈ lw_privs_1, lw_okq q := List.forall_mem_cons.mpr ⟨lw_p0, List.forall_mem_cons.mpr ⟨lw_p1, List.forall_mem_cons.mpr ⟨lw_p2, List.forall_mem_cons.mpr ⟨lw_p3, List.forall_mem_cons.mpr ⟨lw_p4, List.forall_mem_cons.mpr ⟨lw_p5, List.forall_mem_cons.mpr ⟨lw_p6, List.forall_mem_cons.mpr ⟨lw_p7, List.forall_mem_cons.mpr ⟨lw_p8, List.forall_mem_cons.mpr ⟨lw_p9, List.forall_mem_cons.mpr ⟨lw_p10, List.forall_mem_cons.mpr ⟨lw_p11, List.forall_mem_cons.mpr ⟨lw_p12, List.forall_mem_cons.mpr ⟨lw_p13, List.forall_mem_cons.mpr ⟨lw_p14, List.forall_mem_cons.mpr ⟨lw_p15, fun _ h => absurd h List.not_mem_nil⟩⟩⟩⟩⟩⟩⟩⟩⟩⟩⟩⟩⟩⟩⟩⟩
theorem lw_p16 : lw_okq (⟨"FireFromFire$Odds", "shareOf", "(II)J"⟩, 4) := ⟨⟨by decide +kernel, by decide +kernel⟩, List.mem_of_getElem? (i := 213) (by decide +kernel), List.mem_of_getElem? (i := 765) (by decide +kernel), List.mem_of_getElem? (i := 766) (by decide +kernel)⟩
theorem lw_p17 : lw_okq (⟨"FireFromFire", "findTape", "(I)LFireFromFire$Tape;"⟩, 12) := ⟨⟨by decide +kernel, by decide +kernel⟩, List.mem_of_getElem? (i := 21) (by decide +kernel), List.mem_of_getElem? (i := 818) (by decide +kernel), List.mem_of_getElem? (i := 819) (by decide +kernel)⟩
theorem lw_p18 : lw_okq (⟨"FireFromFire$Acts", "note", "(I)V"⟩, 5) := ⟨⟨by decide +kernel, by decide +kernel⟩, List.mem_of_getElem? (i := 237) (by decide +kernel), List.mem_of_getElem? (i := 850) (by decide +kernel), List.mem_of_getElem? (i := 851) (by decide +kernel)⟩
theorem lw_p19 : lw_okq (⟨"FireFromFire$Acts", "plainKeeps", "(I)I"⟩, 5) := ⟨⟨by decide +kernel, by decide +kernel⟩, List.mem_of_getElem? (i := 237) (by decide +kernel), List.mem_of_getElem? (i := 854) (by decide +kernel), List.mem_of_getElem? (i := 855) (by decide +kernel)⟩
theorem lw_p20 : lw_okq (⟨"FireFromFire$Acts", "plainSends", "(I)I"⟩, 5) := ⟨⟨by decide +kernel, by decide +kernel⟩, List.mem_of_getElem? (i := 237) (by decide +kernel), List.mem_of_getElem? (i := 862) (by decide +kernel), List.mem_of_getElem? (i := 863) (by decide +kernel)⟩
theorem lw_p21 : lw_okq (⟨"FireFromFire$Tape", "cut", "(J)J"⟩, 3) := ⟨⟨by decide +kernel, by decide +kernel⟩, List.mem_of_getElem? (i := 300) (by decide +kernel), List.mem_of_getElem? (i := 903) (by decide +kernel), List.mem_of_getElem? (i := 904) (by decide +kernel)⟩
theorem lw_p22 : lw_okq (⟨"FireFromFireModel", "in", "(III)Z"⟩, 84) := ⟨⟨by decide +kernel, by decide +kernel⟩, List.mem_of_getElem? (i := 920) (by decide +kernel), List.mem_of_getElem? (i := 1184) (by decide +kernel), List.mem_of_getElem? (i := 1185) (by decide +kernel)⟩
theorem lw_p23 : lw_okq (⟨"FireFromFireModel", "isHouse", "(I)Z"⟩, 84) := ⟨⟨by decide +kernel, by decide +kernel⟩, List.mem_of_getElem? (i := 920) (by decide +kernel), List.mem_of_getElem? (i := 1192) (by decide +kernel), List.mem_of_getElem? (i := 1193) (by decide +kernel)⟩
theorem lw_p24 : lw_okq (⟨"FireFromFireModel", "has", "(II)Z"⟩, 84) := ⟨⟨by decide +kernel, by decide +kernel⟩, List.mem_of_getElem? (i := 920) (by decide +kernel), List.mem_of_getElem? (i := 1196) (by decide +kernel), List.mem_of_getElem? (i := 1197) (by decide +kernel)⟩
theorem lw_p25 : lw_okq (⟨"FireFromFireModel", "goesText", "(I)Z"⟩, 84) := ⟨⟨by decide +kernel, by decide +kernel⟩, List.mem_of_getElem? (i := 920) (by decide +kernel), List.mem_of_getElem? (i := 1225) (by decide +kernel), List.mem_of_getElem? (i := 1226) (by decide +kernel)⟩
theorem lw_p26 : lw_okq (⟨"FireFromFireModel", "takesClause", "(I)Z"⟩, 84) := ⟨⟨by decide +kernel, by decide +kernel⟩, List.mem_of_getElem? (i := 920) (by decide +kernel), List.mem_of_getElem? (i := 1229) (by decide +kernel), List.mem_of_getElem? (i := 1230) (by decide +kernel)⟩
theorem lw_p27 : lw_okq (⟨"FireFromFireModel", "takesHead", "(I)Z"⟩, 84) := ⟨⟨by decide +kernel, by decide +kernel⟩, List.mem_of_getElem? (i := 920) (by decide +kernel), List.mem_of_getElem? (i := 1233) (by decide +kernel), List.mem_of_getElem? (i := 1234) (by decide +kernel)⟩
theorem lw_p28 : lw_okq (⟨"FireFromFireModel", "third", "()I"⟩, 84) := ⟨⟨by decide +kernel, by decide +kernel⟩, List.mem_of_getElem? (i := 920) (by decide +kernel), List.mem_of_getElem? (i := 1237) (by decide +kernel), List.mem_of_getElem? (i := 1238) (by decide +kernel)⟩
theorem lw_p29 : lw_okq (⟨"FireFromFireModel", "next", "()I"⟩, 84) := ⟨⟨by decide +kernel, by decide +kernel⟩, List.mem_of_getElem? (i := 920) (by decide +kernel), List.mem_of_getElem? (i := 1241) (by decide +kernel), List.mem_of_getElem? (i := 1242) (by decide +kernel)⟩
theorem lw_p30 : lw_okq (⟨"FireFromFireModel", "takesWord", "(II)Z"⟩, 84) := ⟨⟨by decide +kernel, by decide +kernel⟩, List.mem_of_getElem? (i := 920) (by decide +kernel), List.mem_of_getElem? (i := 1245) (by decide +kernel), List.mem_of_getElem? (i := 1246) (by decide +kernel)⟩
theorem lw_p31 : lw_okq (⟨"FireFromFireModel", "takesSign", "(I)Z"⟩, 84) := ⟨⟨by decide +kernel, by decide +kernel⟩, List.mem_of_getElem? (i := 920) (by decide +kernel), List.mem_of_getElem? (i := 1249) (by decide +kernel), List.mem_of_getElem? (i := 1250) (by decide +kernel)⟩
def lw_privs_2 : List (MethodName × Nat) := [(⟨"FireFromFire$Odds", "shareOf", "(II)J"⟩, 4), (⟨"FireFromFire", "findTape", "(I)LFireFromFire$Tape;"⟩, 12), (⟨"FireFromFire$Acts", "note", "(I)V"⟩, 5), (⟨"FireFromFire$Acts", "plainKeeps", "(I)I"⟩, 5), (⟨"FireFromFire$Acts", "plainSends", "(I)I"⟩, 5), (⟨"FireFromFire$Tape", "cut", "(J)J"⟩, 3), (⟨"FireFromFireModel", "in", "(III)Z"⟩, 84), (⟨"FireFromFireModel", "isHouse", "(I)Z"⟩, 84), (⟨"FireFromFireModel", "has", "(II)Z"⟩, 84), (⟨"FireFromFireModel", "goesText", "(I)Z"⟩, 84), (⟨"FireFromFireModel", "takesClause", "(I)Z"⟩, 84), (⟨"FireFromFireModel", "takesHead", "(I)Z"⟩, 84), (⟨"FireFromFireModel", "third", "()I"⟩, 84), (⟨"FireFromFireModel", "next", "()I"⟩, 84), (⟨"FireFromFireModel", "takesWord", "(II)Z"⟩, 84), (⟨"FireFromFireModel", "takesSign", "(I)Z"⟩, 84)]
theorem lw_r2 : ∀ q ∈ lw_privs_2, lw_okq q := List.forall_mem_cons.mpr ⟨lw_p16, List.forall_mem_cons.mpr ⟨lw_p17, List.forall_mem_cons.mpr ⟨lw_p18, List.forall_mem_cons.mpr ⟨lw_p19, List.forall_mem_cons.mpr ⟨lw_p20, List.forall_mem_cons.mpr ⟨lw_p21, List.forall_mem_cons.mpr ⟨lw_p22, List.forall_mem_cons.mpr ⟨lw_p23, List.forall_mem_cons.mpr ⟨lw_p24, List.forall_mem_cons.mpr ⟨lw_p25, List.forall_mem_cons.mpr ⟨lw_p26, List.forall_mem_cons.mpr ⟨lw_p27, List.forall_mem_cons.mpr ⟨lw_p28, List.forall_mem_cons.mpr ⟨lw_p29, List.forall_mem_cons.mpr ⟨lw_p30, List.forall_mem_cons.mpr ⟨lw_p31, fun _ h => absurd h List.not_mem_nil⟩⟩⟩⟩⟩⟩⟩⟩⟩⟩⟩⟩⟩⟩⟩⟩
theorem lw_p32 : lw_okq (⟨"FireFromFireModel", "takesFigure", "(I)Z"⟩, 84) := ⟨⟨by decide +kernel, by decide +kernel⟩, List.mem_of_getElem? (i := 920) (by decide +kernel), List.mem_of_getElem? (i := 1253) (by decide +kernel), List.mem_of_getElem? (i := 1254) (by decide +kernel)⟩
theorem lw_p33 : lw_okq (⟨"FireFromFireModel", "takesNumber", "()Z"⟩, 84) := ⟨⟨by decide +kernel, by decide +kernel⟩, List.mem_of_getElem? (i := 920) (by decide +kernel), List.mem_of_getElem? (i := 1257) (by decide +kernel), List.mem_of_getElem? (i := 1258) (by decide +kernel)⟩
theorem lw_p34 : lw_okq (⟨"FireFromFireModel", "isDigit", "()Z"⟩, 84) := ⟨⟨by decide +kernel, by decide +kernel⟩, List.mem_of_getElem? (i := 920) (by decide +kernel), List.mem_of_getElem? (i := 1261) (by decide +kernel), List.mem_of_getElem? (i := 1262) (by decide +kernel)⟩
theorem lw_p35 : lw_okq (⟨"FireFromFireModel", "takesE", "(I)Z"⟩, 84) := ⟨⟨by decide +kernel, by decide +kernel⟩, List.mem_of_getElem? (i := 920) (by decide +kernel), List.mem_of_getElem? (i := 1265) (by decide +kernel), List.mem_of_getElem? (i := 1266) (by decide +kernel)⟩
theorem lw_p36 : lw_okq (⟨"FireFromFireModel", "takesTest", "()Z"⟩, 84) := ⟨⟨by decide +kernel, by decide +kernel⟩, List.mem_of_getElem? (i := 920) (by decide +kernel), List.mem_of_getElem? (i := 1269) (by decide +kernel), List.mem_of_getElem? (i := 1270) (by decide +kernel)⟩
theorem lw_p37 : lw_okq (⟨"FireFromFireModel", "place", "(I)I"⟩, 84) := ⟨⟨by decide +kernel, by decide +kernel⟩, List.mem_of_getElem? (i := 920) (by decide +kernel), List.mem_of_getElem? (i := 1273) (by decide +kernel), List.mem_of_getElem? (i := 1274) (by decide +kernel)⟩
theorem lw_p38 : lw_okq (⟨"FireFromFireModel", "put", "(I)V"⟩, 84) := ⟨⟨by decide +kernel, by decide +kernel⟩, List.mem_of_getElem? (i := 920) (by decide +kernel), List.mem_of_getElem? (i := 1277) (by decide +kernel), List.mem_of_getElem? (i := 1278) (by decide +kernel)⟩
theorem lw_p39 : lw_okq (⟨"FireFromFireModel", "whole", "()V"⟩, 84) := ⟨⟨by decide +kernel, by decide +kernel⟩, List.mem_of_getElem? (i := 920) (by decide +kernel), List.mem_of_getElem? (i := 1281) (by decide +kernel), List.mem_of_getElem? (i := 1282) (by decide +kernel)⟩
theorem lw_p40 : lw_okq (⟨"FireFromFireModel", "settle", "(I)V"⟩, 84) := ⟨⟨by decide +kernel, by decide +kernel⟩, List.mem_of_getElem? (i := 920) (by decide +kernel), List.mem_of_getElem? (i := 1285) (by decide +kernel), List.mem_of_getElem? (i := 1286) (by decide +kernel)⟩
theorem lw_p41 : lw_okq (⟨"FireFromFireModel", "isWeather", "(I)Z"⟩, 84) := ⟨⟨by decide +kernel, by decide +kernel⟩, List.mem_of_getElem? (i := 920) (by decide +kernel), List.mem_of_getElem? (i := 1293) (by decide +kernel), List.mem_of_getElem? (i := 1294) (by decide +kernel)⟩
theorem lw_p42 : lw_okq (⟨"FireFromFireModel", "layFollows", "()V"⟩, 84) := ⟨⟨by decide +kernel, by decide +kernel⟩, List.mem_of_getElem? (i := 920) (by decide +kernel), List.mem_of_getElem? (i := 1297) (by decide +kernel), List.mem_of_getElem? (i := 1298) (by decide +kernel)⟩
theorem lw_p43 : lw_okq (⟨"FireFromFireModel", "first", "()I"⟩, 84) := ⟨⟨by decide +kernel, by decide +kernel⟩, List.mem_of_getElem? (i := 920) (by decide +kernel), List.mem_of_getElem? (i := 1301) (by decide +kernel), List.mem_of_getElem? (i := 1302) (by decide +kernel)⟩
theorem lw_p44 : lw_okq (⟨"FireFromFireModel", "behind", "()I"⟩, 84) := ⟨⟨by decide +kernel, by decide +kernel⟩, List.mem_of_getElem? (i := 920) (by decide +kernel), List.mem_of_getElem? (i := 1305) (by decide +kernel), List.mem_of_getElem? (i := 1306) (by decide +kernel)⟩
theorem lw_p45 : lw_okq (⟨"FireFromFireModel", "min", "(II)I"⟩, 84) := ⟨⟨by decide +kernel, by decide +kernel⟩, List.mem_of_getElem? (i := 920) (by decide +kernel), List.mem_of_getElem? (i := 1309) (by decide +kernel), List.mem_of_getElem? (i := 1310) (by decide +kernel)⟩
theorem lw_p46 : lw_okq (⟨"FireFromFireModel", "asIs", "()V"⟩, 84) := ⟨⟨by decide +kernel, by decide +kernel⟩, List.mem_of_getElem? (i := 920) (by decide +kernel), List.mem_of_getElem? (i := 1317) (by decide +kernel), List.mem_of_getElem? (i := 1318) (by decide +kernel)⟩
theorem lw_p47 : lw_okq (⟨"FireFromFireModel", "begin", "()V"⟩, 84) := ⟨⟨by decide +kernel, by decide +kernel⟩, List.mem_of_getElem? (i := 920) (by decide +kernel), List.mem_of_getElem? (i := 1321) (by decide +kernel), List.mem_of_getElem? (i := 1322) (by decide +kernel)⟩
def lw_privs_3 : List (MethodName × Nat) := [(⟨"FireFromFireModel", "takesFigure", "(I)Z"⟩, 84), (⟨"FireFromFireModel", "takesNumber", "()Z"⟩, 84), (⟨"FireFromFireModel", "isDigit", "()Z"⟩, 84), (⟨"FireFromFireModel", "takesE", "(I)Z"⟩, 84), (⟨"FireFromFireModel", "takesTest", "()Z"⟩, 84), (⟨"FireFromFireModel", "place", "(I)I"⟩, 84), (⟨"FireFromFireModel", "put", "(I)V"⟩, 84), (⟨"FireFromFireModel", "whole", "()V"⟩, 84), (⟨"FireFromFireModel", "settle", "(I)V"⟩, 84), (⟨"FireFromFireModel", "isWeather", "(I)Z"⟩, 84), (⟨"FireFromFireModel", "layFollows", "()V"⟩, 84), (⟨"FireFromFireModel", "first", "()I"⟩, 84), (⟨"FireFromFireModel", "behind", "()I"⟩, 84), (⟨"FireFromFireModel", "min", "(II)I"⟩, 84), (⟨"FireFromFireModel", "asIs", "()V"⟩, 84), (⟨"FireFromFireModel", "begin", "()V"⟩, 84)]
theorem lw_r3 : ∀ q ∈ lw_privs_3, lw_okq q := List.forall_mem_cons.mpr ⟨lw_p32, List.forall_mem_cons.mpr ⟨lw_p33, List.forall_mem_cons.mpr ⟨lw_p34, List.forall_mem_cons.mpr ⟨lw_p35, List.forall_mem_cons.mpr ⟨lw_p36, List.forall_mem_cons.mpr ⟨lw_p37, List.forall_mem_cons.mpr ⟨lw_p38, List.forall_mem_cons.mpr ⟨lw_p39, List.forall_mem_cons.mpr ⟨lw_p40, List.forall_mem_cons.mpr ⟨lw_p41, List.forall_mem_cons.mpr ⟨lw_p42, List.forall_mem_cons.mpr ⟨lw_p43, List.forall_mem_cons.mpr ⟨lw_p44, List.forall_mem_cons.mpr ⟨lw_p45, List.forall_mem_cons.mpr ⟨lw_p46, List.forall_mem_cons.mpr ⟨lw_p47, fun _ h => absurd h List.not_mem_nil⟩⟩⟩⟩⟩⟩⟩⟩⟩⟩⟩⟩⟩⟩⟩⟩
theorem lw_p48 : lw_okq (⟨"FireFromFireModel", "sumOf", "(III)I"⟩, 84) := ⟨⟨by decide +kernel, by decide +kernel⟩, List.mem_of_getElem? (i := 920) (by decide +kernel), List.mem_of_getElem? (i := 1325) (by decide +kernel), List.mem_of_getElem? (i := 1326) (by decide +kernel)⟩
theorem lw_p49 : lw_okq (⟨"FireFromFireModel", "holds", "(III)Z"⟩, 84) := ⟨⟨by decide +kernel, by decide +kernel⟩, List.mem_of_getElem? (i := 920) (by decide +kernel), List.mem_of_getElem? (i := 1329) (by decide +kernel), List.mem_of_getElem? (i := 1330) (by decide +kernel)⟩
theorem lw_p50 : lw_okq (⟨"FireFromFireModel", "factOf", "(III)I"⟩, 84) := ⟨⟨by decide +kernel, by decide +kernel⟩, List.mem_of_getElem? (i := 920) (by decide +kernel), List.mem_of_getElem? (i := 1333) (by decide +kernel), List.mem_of_getElem? (i := 1334) (by decide +kernel)⟩
theorem lw_p51 : lw_okq (⟨"FireFromFireModel", "ones", "(I)I"⟩, 84) := ⟨⟨by decide +kernel, by decide +kernel⟩, List.mem_of_getElem? (i := 920) (by decide +kernel), List.mem_of_getElem? (i := 1337) (by decide +kernel), List.mem_of_getElem? (i := 1338) (by decide +kernel)⟩
theorem lw_p52 : lw_okq (⟨"FireFromFireModel", "keeps", "(II)Z"⟩, 84) := ⟨⟨by decide +kernel, by decide +kernel⟩, List.mem_of_getElem? (i := 920) (by decide +kernel), List.mem_of_getElem? (i := 1345) (by decide +kernel), List.mem_of_getElem? (i := 1346) (by decide +kernel)⟩
theorem lw_p53 : lw_okq (⟨"FireFromFireModel", "isNoneAhead", "(I)Z"⟩, 84) := ⟨⟨by decide +kernel, by decide +kernel⟩, List.mem_of_getElem? (i := 920) (by decide +kernel), List.mem_of_getElem? (i := 1349) (by decide +kernel), List.mem_of_getElem? (i := 1350) (by decide +kernel)⟩
theorem lw_p54 : lw_okq (⟨"FireFromFireModel", "sends", "(II)Z"⟩, 84) := ⟨⟨by decide +kernel, by decide +kernel⟩, List.mem_of_getElem? (i := 920) (by decide +kernel), List.mem_of_getElem? (i := 1353) (by decide +kernel), List.mem_of_getElem? (i := 1354) (by decide +kernel)⟩
theorem lw_p55 : lw_okq (⟨"FireFromFireModel", "whereTo", "(I)I"⟩, 84) := ⟨⟨by decide +kernel, by decide +kernel⟩, List.mem_of_getElem? (i := 920) (by decide +kernel), List.mem_of_getElem? (i := 1357) (by decide +kernel), List.mem_of_getElem? (i := 1358) (by decide +kernel)⟩
theorem lw_p56 : lw_okq (⟨"FireFromFireModel", "goHour", "(II)V"⟩, 84) := ⟨⟨by decide +kernel, by decide +kernel⟩, List.mem_of_getElem? (i := 920) (by decide +kernel), List.mem_of_getElem? (i := 1365) (by decide +kernel), List.mem_of_getElem? (i := 1366) (by decide +kernel)⟩
theorem lw_p57 : lw_okq (⟨"FireFromFireModel", "burns", "(III)V"⟩, 84) := ⟨⟨by decide +kernel, by decide +kernel⟩, List.mem_of_getElem? (i := 920) (by decide +kernel), List.mem_of_getElem? (i := 1369) (by decide +kernel), List.mem_of_getElem? (i := 1370) (by decide +kernel)⟩
theorem lw_p58 : lw_okq (⟨"FireFromFireModel", "setsOut", "(II)V"⟩, 84) := ⟨⟨by decide +kernel, by decide +kernel⟩, List.mem_of_getElem? (i := 920) (by decide +kernel), List.mem_of_getElem? (i := 1373) (by decide +kernel), List.mem_of_getElem? (i := 1374) (by decide +kernel)⟩
theorem lw_p59 : lw_okq (⟨"FireFromFireModel", "walks", "(II)V"⟩, 84) := ⟨⟨by decide +kernel, by decide +kernel⟩, List.mem_of_getElem? (i := 920) (by decide +kernel), List.mem_of_getElem? (i := 1377) (by decide +kernel), List.mem_of_getElem? (i := 1378) (by decide +kernel)⟩
theorem lw_p60 : lw_okq (⟨"FireFromFireModel", "goNights", "(I)V"⟩, 84) := ⟨⟨by decide +kernel, by decide +kernel⟩, List.mem_of_getElem? (i := 920) (by decide +kernel), List.mem_of_getElem? (i := 1389) (by decide +kernel), List.mem_of_getElem? (i := 1390) (by decide +kernel)⟩
theorem lw_p61 : lw_okq (⟨"FireFromFireModel", "layApart", "()V"⟩, 84) := ⟨⟨by decide +kernel, by decide +kernel⟩, List.mem_of_getElem? (i := 920) (by decide +kernel), List.mem_of_getElem? (i := 1397) (by decide +kernel), List.mem_of_getElem? (i := 1398) (by decide +kernel)⟩
theorem lw_p62 : lw_okq (⟨"FireFromFireModel", "nearest", "(II)I"⟩, 84) := ⟨⟨by decide +kernel, by decide +kernel⟩, List.mem_of_getElem? (i := 920) (by decide +kernel), List.mem_of_getElem? (i := 1401) (by decide +kernel), List.mem_of_getElem? (i := 1402) (by decide +kernel)⟩
theorem lw_p63 : lw_okq (⟨"FireFromFireModel", "lastHour", "(IJ)V"⟩, 84) := ⟨⟨by decide +kernel, by decide +kernel⟩, List.mem_of_getElem? (i := 920) (by decide +kernel), List.mem_of_getElem? (i := 1420) (by decide +kernel), List.mem_of_getElem? (i := 1421) (by decide +kernel)⟩
def lw_privs_4 : List (MethodName × Nat) := [(⟨"FireFromFireModel", "sumOf", "(III)I"⟩, 84), (⟨"FireFromFireModel", "holds", "(III)Z"⟩, 84), (⟨"FireFromFireModel", "factOf", "(III)I"⟩, 84), (⟨"FireFromFireModel", "ones", "(I)I"⟩, 84), (⟨"FireFromFireModel", "keeps", "(II)Z"⟩, 84), (⟨"FireFromFireModel", "isNoneAhead", "(I)Z"⟩, 84), (⟨"FireFromFireModel", "sends", "(II)Z"⟩, 84), (⟨"FireFromFireModel", "whereTo", "(I)I"⟩, 84), (⟨"FireFromFireModel", "goHour", "(II)V"⟩, 84), (⟨"FireFromFireModel", "burns", "(III)V"⟩, 84), (⟨"FireFromFireModel", "setsOut", "(II)V"⟩, 84), (⟨"FireFromFireModel", "walks", "(II)V"⟩, 84), (⟨"FireFromFireModel", "goNights", "(I)V"⟩, 84), (⟨"FireFromFireModel", "layApart", "()V"⟩, 84), (⟨"FireFromFireModel", "nearest", "(II)I"⟩, 84), (⟨"FireFromFireModel", "lastHour", "(IJ)V"⟩, 84)]
theorem lw_r4 : ∀ q ∈ lw_privs_4, lw_okq q := List.forall_mem_cons.mpr ⟨lw_p48, List.forall_mem_cons.mpr ⟨lw_p49, List.forall_mem_cons.mpr ⟨lw_p50, List.forall_mem_cons.mpr ⟨lw_p51, List.forall_mem_cons.mpr ⟨lw_p52, List.forall_mem_cons.mpr ⟨lw_p53, List.forall_mem_cons.mpr ⟨lw_p54, List.forall_mem_cons.mpr ⟨lw_p55, List.forall_mem_cons.mpr ⟨lw_p56, List.forall_mem_cons.mpr ⟨lw_p57, List.forall_mem_cons.mpr ⟨lw_p58, List.forall_mem_cons.mpr ⟨lw_p59, List.forall_mem_cons.mpr ⟨lw_p60, List.forall_mem_cons.mpr ⟨lw_p61, List.forall_mem_cons.mpr ⟨lw_p62, List.forall_mem_cons.mpr ⟨lw_p63, fun _ h => absurd h List.not_mem_nil⟩⟩⟩⟩⟩⟩⟩⟩⟩⟩⟩⟩⟩⟩⟩⟩
theorem lw_p64 : lw_okq (⟨"FireFromFireModel", "keep", "()V"⟩, 84) := ⟨⟨by decide +kernel, by decide +kernel⟩, List.mem_of_getElem? (i := 920) (by decide +kernel), List.mem_of_getElem? (i := 1424) (by decide +kernel), List.mem_of_getElem? (i := 1425) (by decide +kernel)⟩
theorem lw_p65 : lw_okq (⟨"FireFromFireModel", "layBack", "()V"⟩, 84) := ⟨⟨by decide +kernel, by decide +kernel⟩, List.mem_of_getElem? (i := 920) (by decide +kernel), List.mem_of_getElem? (i := 1428) (by decide +kernel), List.mem_of_getElem? (i := 1429) (by decide +kernel)⟩
theorem lw_p66 : lw_okq (⟨"FireFromFireModel", "mishapWeight", "(II)J"⟩, 84) := ⟨⟨by decide +kernel, by decide +kernel⟩, List.mem_of_getElem? (i := 920) (by decide +kernel), List.mem_of_getElem? (i := 1432) (by decide +kernel), List.mem_of_getElem? (i := 1433) (by decide +kernel)⟩
theorem lw_p67 : lw_okq (⟨"FireFromFireModel", "counts", "(J)V"⟩, 84) := ⟨⟨by decide +kernel, by decide +kernel⟩, List.mem_of_getElem? (i := 920) (by decide +kernel), List.mem_of_getElem? (i := 1436) (by decide +kernel), List.mem_of_getElem? (i := 1437) (by decide +kernel)⟩
theorem lw_p68 : lw_okq (⟨"FireFromFireModel", "divisor", "(JJ)J"⟩, 84) := ⟨⟨by decide +kernel, by decide +kernel⟩, List.mem_of_getElem? (i := 920) (by decide +kernel), List.mem_of_getElem? (i := 1440) (by decide +kernel), List.mem_of_getElem? (i := 1441) (by decide +kernel)⟩
theorem lw_p69 : lw_okq (⟨"FireFromFireModel", "matchOf", "(II)I"⟩, 84) := ⟨⟨by decide +kernel, by decide +kernel⟩, List.mem_of_getElem? (i := 920) (by decide +kernel), List.mem_of_getElem? (i := 1454) (by decide +kernel), List.mem_of_getElem? (i := 1455) (by decide +kernel)⟩
theorem lw_p70 : lw_okq (⟨"FireFromFireModel", "isTape", "(I)Z"⟩, 84) := ⟨⟨by decide +kernel, by decide +kernel⟩, List.mem_of_getElem? (i := 920) (by decide +kernel), List.mem_of_getElem? (i := 1474) (by decide +kernel), List.mem_of_getElem? (i := 1475) (by decide +kernel)⟩
theorem lw_p71 : lw_okq (⟨"FireFromFireModel", "copy", "([I[I)V"⟩, 84) := ⟨⟨by decide +kernel, by decide +kernel⟩, List.mem_of_getElem? (i := 920) (by decide +kernel), List.mem_of_getElem? (i := 1482) (by decide +kernel), List.mem_of_getElem? (i := 1483) (by decide +kernel)⟩
theorem lw_p72 : lw_okq (⟨"FireFromFireModel", "keepsAct", "(II)I"⟩, 84) := ⟨⟨by decide +kernel, by decide +kernel⟩, List.mem_of_getElem? (i := 920) (by decide +kernel), List.mem_of_getElem? (i := 1494) (by decide +kernel), List.mem_of_getElem? (i := 1495) (by decide +kernel)⟩
theorem lw_p73 : lw_okq (⟨"FireFromFireModel", "body", "(I)V"⟩, 84) := ⟨⟨by decide +kernel, by decide +kernel⟩, List.mem_of_getElem? (i := 920) (by decide +kernel), List.mem_of_getElem? (i := 1498) (by decide +kernel), List.mem_of_getElem? (i := 1499) (by decide +kernel)⟩
theorem lw_p74 : lw_okq (⟨"FireFromFireModel", "plainKeeps", "(II)I"⟩, 84) := ⟨⟨by decide +kernel, by decide +kernel⟩, List.mem_of_getElem? (i := 920) (by decide +kernel), List.mem_of_getElem? (i := 1502) (by decide +kernel), List.mem_of_getElem? (i := 1503) (by decide +kernel)⟩
theorem lw_p75 : lw_okq (⟨"FireFromFireModel", "sendsAct", "(II)I"⟩, 84) := ⟨⟨by decide +kernel, by decide +kernel⟩, List.mem_of_getElem? (i := 920) (by decide +kernel), List.mem_of_getElem? (i := 1506) (by decide +kernel), List.mem_of_getElem? (i := 1507) (by decide +kernel)⟩
theorem lw_p76 : lw_okq (⟨"FireFromFireModel", "eachSends", "(II)I"⟩, 84) := ⟨⟨by decide +kernel, by decide +kernel⟩, List.mem_of_getElem? (i := 920) (by decide +kernel), List.mem_of_getElem? (i := 1510) (by decide +kernel), List.mem_of_getElem? (i := 1511) (by decide +kernel)⟩
theorem lw_p77 : lw_okq (⟨"FireFromFireModel", "plainSends", "(II)I"⟩, 84) := ⟨⟨by decide +kernel, by decide +kernel⟩, List.mem_of_getElem? (i := 920) (by decide +kernel), List.mem_of_getElem? (i := 1514) (by decide +kernel), List.mem_of_getElem? (i := 1515) (by decide +kernel)⟩
theorem lw_p78 : lw_okq (⟨"FireFromFireModel", "tellsAct", "(II)I"⟩, 84) := ⟨⟨by decide +kernel, by decide +kernel⟩, List.mem_of_getElem? (i := 920) (by decide +kernel), List.mem_of_getElem? (i := 1518) (by decide +kernel), List.mem_of_getElem? (i := 1519) (by decide +kernel)⟩
theorem lw_p79 : lw_okq (⟨"FireFromFireModel", "plainTells", "(II)I"⟩, 84) := ⟨⟨by decide +kernel, by decide +kernel⟩, List.mem_of_getElem? (i := 920) (by decide +kernel), List.mem_of_getElem? (i := 1522) (by decide +kernel), List.mem_of_getElem? (i := 1523) (by decide +kernel)⟩
def lw_privs_5 : List (MethodName × Nat) := [(⟨"FireFromFireModel", "keep", "()V"⟩, 84), (⟨"FireFromFireModel", "layBack", "()V"⟩, 84), (⟨"FireFromFireModel", "mishapWeight", "(II)J"⟩, 84), (⟨"FireFromFireModel", "counts", "(J)V"⟩, 84), (⟨"FireFromFireModel", "divisor", "(JJ)J"⟩, 84), (⟨"FireFromFireModel", "matchOf", "(II)I"⟩, 84), (⟨"FireFromFireModel", "isTape", "(I)Z"⟩, 84), (⟨"FireFromFireModel", "copy", "([I[I)V"⟩, 84), (⟨"FireFromFireModel", "keepsAct", "(II)I"⟩, 84), (⟨"FireFromFireModel", "body", "(I)V"⟩, 84), (⟨"FireFromFireModel", "plainKeeps", "(II)I"⟩, 84), (⟨"FireFromFireModel", "sendsAct", "(II)I"⟩, 84), (⟨"FireFromFireModel", "eachSends", "(II)I"⟩, 84), (⟨"FireFromFireModel", "plainSends", "(II)I"⟩, 84), (⟨"FireFromFireModel", "tellsAct", "(II)I"⟩, 84), (⟨"FireFromFireModel", "plainTells", "(II)I"⟩, 84)]
theorem lw_r5 : ∀ q ∈ lw_privs_5, lw_okq q := List.forall_mem_cons.mpr ⟨lw_p64, List.forall_mem_cons.mpr ⟨lw_p65, List.forall_mem_cons.mpr ⟨lw_p66, List.forall_mem_cons.mpr ⟨lw_p67, List.forall_mem_cons.mpr ⟨lw_p68, List.forall_mem_cons.mpr ⟨lw_p69, List.forall_mem_cons.mpr ⟨lw_p70, List.forall_mem_cons.mpr ⟨lw_p71, List.forall_mem_cons.mpr ⟨lw_p72, List.forall_mem_cons.mpr ⟨lw_p73, List.forall_mem_cons.mpr ⟨lw_p74, List.forall_mem_cons.mpr ⟨lw_p75, List.forall_mem_cons.mpr ⟨lw_p76, List.forall_mem_cons.mpr ⟨lw_p77, List.forall_mem_cons.mpr ⟨lw_p78, List.forall_mem_cons.mpr ⟨lw_p79, fun _ h => absurd h List.not_mem_nil⟩⟩⟩⟩⟩⟩⟩⟩⟩⟩⟩⟩⟩⟩⟩⟩
theorem lw_p80 : lw_okq (⟨"FireFromFireModel", "narrow", "(IJ)J"⟩, 84) := ⟨⟨by decide +kernel, by decide +kernel⟩, List.mem_of_getElem? (i := 920) (by decide +kernel), List.mem_of_getElem? (i := 1546) (by decide +kernel), List.mem_of_getElem? (i := 1547) (by decide +kernel)⟩
def lw_privs_6 : List (MethodName × Nat) := [(⟨"FireFromFireModel", "narrow", "(IJ)J"⟩, 84)]
theorem lw_r6 : ∀ q ∈ lw_privs_6, lw_okq q := List.forall_mem_cons.mpr ⟨lw_p80, fun _ h => absurd h List.not_mem_nil⟩
def lw_privs : List (MethodName × Nat) := lw_privs_1 ++ (lw_privs_2 ++ (lw_privs_3 ++ (lw_privs_4 ++ (lw_privs_5 ++ (lw_privs_6)))))
def lw_tbl : List Cond := k2_sels lw_privs ++ tables_1
theorem lw_privs_ok : ∀ q ∈ lw_privs, lw_okq q := by
  show ∀ q ∈ lw_privs_1 ++ (lw_privs_2 ++ (lw_privs_3 ++ (lw_privs_4 ++ (lw_privs_5 ++ (lw_privs_6))))), lw_okq q
  exact List.forall_mem_append.mpr ⟨lw_r1, List.forall_mem_append.mpr ⟨lw_r2, List.forall_mem_append.mpr ⟨lw_r3, List.forall_mem_append.mpr ⟨lw_r4, List.forall_mem_append.mpr ⟨lw_r5, lw_r6⟩⟩⟩⟩⟩
end
section
def RX0 : String := "FireFromFire$Acts"
def TX0 : u_T := fun k => match k with
  | 0 => ("FireFromFire$Acts", "ran", "I", false)
  | 1 => ("FireFromFire$Acts", "numbers", "[I", true)
  | 2 => ("FireFromFire$Acts", "kind", "I", false)
  | 3 => ("FireFromFire$Acts", "v", "I", false)
  | _ => ("FireFromFire$Acts", "i", "I", false)
def tyX0 : Nat → FieldType := fun k => match k with
  | 0 => .int
  | 1 => .array .int
  | 2 => .int
  | 3 => .int
  | _ => .int
abbrev wsX00 : List Cond := u_ws RX0 TX0 5
theorem nmX0 : ∀ a, a < 5 → ∀ b, b < 5 → a ≠ b → (TX0 a).2.1 ≠ (TX0 b).2.1 := by decide +kernel
theorem tyX0_ok : ∀ k, k < 5 → parseFieldDescriptor (TX0 k).2.2.1 = some (tyX0 k) := by decide +kernel
abbrev cX0_init : ByteArray := prog_2_method_1_code
def yX0_init : MethodName := ⟨RX0, "<init>", "()V"⟩
abbrev cX0_begin : ByteArray := prog_2_method_2_code
def yX0_begin : MethodName := ⟨RX0, "begin", "(LFireFromFire$House;I)V"⟩
abbrev cX0_note : ByteArray := prog_2_method_3_code
def yX0_note : MethodName := ⟨RX0, "note", "(I)V"⟩
abbrev cX0_keepsBody : ByteArray := prog_2_method_4_code
def yX0_keepsBody : MethodName := ⟨RX0, "keepsBody", "(I)I"⟩
abbrev cX0_sendsBody : ByteArray := prog_2_method_5_code
def yX0_sendsBody : MethodName := ⟨RX0, "sendsBody", "(I)I"⟩
abbrev cX0_tellsBody : ByteArray := prog_2_method_6_code
def yX0_tellsBody : MethodName := ⟨RX0, "tellsBody", "(I)I"⟩
abbrev cX0_plainKeeps : ByteArray := prog_2_method_7_code
def yX0_plainKeeps : MethodName := ⟨RX0, "plainKeeps", "(I)I"⟩
abbrev cX0_plainSends : ByteArray := prog_2_method_8_code
def yX0_plainSends : MethodName := ⟨RX0, "plainSends", "(I)I"⟩
def RX1 : String := "FireFromFire$Hours"
def TX1 : u_T := fun k => match k with
  | 0 => ("FireFromFire$Hours", "worth", "I", false)
  | 1 => ("FireFromFire$Hours", "lacks", "I", false)
  | 2 => ("FireFromFire$Hours", "choices", "[I", true)
  | 3 => ("FireFromFire$Hours", "burns", "[I", true)
  | 4 => ("FireFromFire$Hours", "horns", "[I", true)
  | _ => ("FireFromFire$Hours", "goals", "[I", true)
def tyX1 : Nat → FieldType := fun k => match k with
  | 0 => .int
  | 1 => .int
  | 2 => .array .int
  | 3 => .array .int
  | 4 => .array .int
  | _ => .array .int
abbrev wsX10 : List Cond := u_ws RX1 TX1 6
theorem nmX1 : ∀ a, a < 6 → ∀ b, b < 6 → a ≠ b → (TX1 a).2.1 ≠ (TX1 b).2.1 := by decide +kernel
theorem tyX1_ok : ∀ k, k < 6 → parseFieldDescriptor (TX1 k).2.2.1 = some (tyX1 k) := by decide +kernel
abbrev cX1_init : ByteArray := prog_3_method_1_code
def yX1_init : MethodName := ⟨RX1, "<init>", "()V"⟩
abbrev cX1_begin : ByteArray := prog_3_method_2_code
def yX1_begin : MethodName := ⟨RX1, "begin", "()V"⟩
abbrev cX1_weigh : ByteArray := prog_3_method_3_code
def yX1_weigh : MethodName := ⟨RX1, "weigh", "(LFireFromFire$Village;I)V"⟩
abbrev cX1_pass : ByteArray := prog_3_method_4_code
def yX1_pass : MethodName := ⟨RX1, "pass", "(LFireFromFire$Village;II)V"⟩
abbrev cX1_burn : ByteArray := prog_3_method_5_code
def yX1_burn : MethodName := ⟨RX1, "burn", "(LFireFromFire$House;II)V"⟩
abbrev cX1_goNearer : ByteArray := prog_3_method_6_code
def yX1_goNearer : MethodName := ⟨RX1, "goNearer", "(LFireFromFire$Village;LFireFromFire$House;I)V"⟩
abbrev cX1_bringNearer : ByteArray := prog_3_method_7_code
def yX1_bringNearer : MethodName := ⟨RX1, "bringNearer", "(LFireFromFire$House;I)V"⟩
abbrev cX1_passNights : ByteArray := prog_3_method_8_code
def yX1_passNights : MethodName := ⟨RX1, "passNights", "(LFireFromFire$Village;LFireFromFire$Village;I)V"⟩
abbrev cX1_gain : ByteArray := prog_3_method_9_code
def yX1_gain : MethodName := ⟨RX1, "gain", "(LFireFromFire$Village;LFireFromFire$Village;II)I"⟩
def RX2 : String := "FireFromFire$House"
def TX2 : u_T := fun k => match k with
  | 0 => ("FireFromFire$House", "wood", "I", false)
  | 1 => ("FireFromFire$House", "isAlight", "Z", false)
  | 2 => ("FireFromFire$House", "kind", "I", false)
  | 3 => ("FireFromFire$House", "v", "I", false)
  | 4 => ("FireFromFire$House", "row", "I", false)
  | 5 => ("FireFromFire$House", "walk", "I", false)
  | 6 => ("FireFromFire$House", "left", "I", false)
  | 7 => ("FireFromFire$House", "goal", "I", false)
  | _ => ("FireFromFire$House", "horn", "I", false)
def tyX2 : Nat → FieldType := fun k => match k with
  | 0 => .int
  | 1 => .boolean
  | 2 => .int
  | 3 => .int
  | 4 => .int
  | 5 => .int
  | 6 => .int
  | 7 => .int
  | _ => .int
abbrev wsX20 : List Cond := u_ws RX2 TX2 9
theorem nmX2 : ∀ a, a < 9 → ∀ b, b < 9 → a ≠ b → (TX2 a).2.1 ≠ (TX2 b).2.1 := by decide +kernel
theorem tyX2_ok : ∀ k, k < 9 → parseFieldDescriptor (TX2 k).2.2.1 = some (tyX2 k) := by decide +kernel
abbrev cX2_init : ByteArray := prog_4_method_1_code
def yX2_init : MethodName := ⟨RX2, "<init>", "()V"⟩
abbrev cX2_start : ByteArray := prog_4_method_2_code
def yX2_start : MethodName := ⟨RX2, "start", "(IZ)V"⟩
abbrev cX2_setOut : ByteArray := prog_4_method_3_code
def yX2_setOut : MethodName := ⟨RX2, "setOut", "(III)V"⟩
abbrev cX2_copy : ByteArray := prog_4_method_4_code
def yX2_copy : MethodName := ⟨RX2, "copy", "(LFireFromFire$House;)V"⟩
def RX3 : String := "FireFromFire$Land"
def TX3 : u_T := fun k => match k with
  | 0 => ("FireFromFire$Land", "clauses", "I", false)
  | 1 => ("FireFromFire$Land", "steps", "I", false)
  | 2 => ("FireFromFire$Land", "word", "[I", true)
  | 3 => ("FireFromFire$Land", "amount", "[I", true)
  | 4 => ("FireFromFire$Land", "from", "[I", true)
  | 5 => ("FireFromFire$Land", "to", "[I", true)
  | 6 => ("FireFromFire$Land", "step", "[I", true)
  | 7 => ("FireFromFire$Land", "sign", "[I", true)
  | _ => ("FireFromFire$Land", "number", "[I", true)
def tyX3 : Nat → FieldType := fun k => match k with
  | 0 => .int
  | 1 => .int
  | 2 => .array .int
  | 3 => .array .int
  | 4 => .array .int
  | 5 => .array .int
  | 6 => .array .int
  | 7 => .array .int
  | _ => .array .int
abbrev wsX30 : List Cond := u_ws RX3 TX3 9
theorem nmX3 : ∀ a, a < 9 → ∀ b, b < 9 → a ≠ b → (TX3 a).2.1 ≠ (TX3 b).2.1 := by decide +kernel
theorem tyX3_ok : ∀ k, k < 9 → parseFieldDescriptor (TX3 k).2.2.1 = some (tyX3 k) := by decide +kernel
abbrev cX3_init : ByteArray := prog_5_method_1_code
def yX3_init : MethodName := ⟨RX3, "<init>", "()V"⟩
abbrev cX3_addClause : ByteArray := prog_5_method_2_code
def yX3_addClause : MethodName := ⟨RX3, "addClause", "(IIII)V"⟩
abbrev cX3_addStep : ByteArray := prog_5_method_3_code
def yX3_addStep : MethodName := ⟨RX3, "addStep", "(III)V"⟩
abbrev cX3_lastNext : ByteArray := prog_5_method_4_code
def yX3_lastNext : MethodName := ⟨RX3, "lastNext", "(II)I"⟩
abbrev cX3_holds : ByteArray := prog_5_method_5_code
def yX3_holds : MethodName := ⟨RX3, "holds", "(I[I)Z"⟩
def RX4 : String := "FireFromFire$Odds"
def TX4 : u_T := fun k => match k with
  | 0 => ("FireFromFire$Odds", "ended", "J", false)
  | 1 => ("FireFromFire$Odds", "worth", "J", false)
  | 2 => ("FireFromFire$Odds", "below", "J", false)
  | _ => ("FireFromFire$Odds", "at", "LFireFromFire$Village;", true)
def tyX4 : Nat → FieldType := fun k => match k with
  | 0 => .long
  | 1 => .long
  | 2 => .long
  | _ => .object "FireFromFire$Village"
abbrev wsX40 : List Cond := u_ws RX4 TX4 4
theorem nmX4 : ∀ a, a < 4 → ∀ b, b < 4 → a ≠ b → (TX4 a).2.1 ≠ (TX4 b).2.1 := by decide +kernel
theorem tyX4_ok : ∀ k, k < 4 → parseFieldDescriptor (TX4 k).2.2.1 = some (tyX4 k) := by decide +kernel
abbrev cX4_init : ByteArray := prog_6_method_1_code
def yX4_init : MethodName := ⟨RX4, "<init>", "()V"⟩
abbrev cX4_begin : ByteArray := prog_6_method_2_code
def yX4_begin : MethodName := ⟨RX4, "begin", "(II)I"⟩
abbrev cX4_follow : ByteArray := prog_6_method_3_code
def yX4_follow : MethodName := ⟨RX4, "follow", "(LFireFromFire$Hours;LFireFromFire$Village;II)V"⟩
abbrev cX4_shareOf : ByteArray := prog_6_method_4_code
def yX4_shareOf : MethodName := ⟨RX4, "shareOf", "(II)J"⟩
abbrev cX4_commonDivisor : ByteArray := prog_6_method_5_code
def yX4_commonDivisor : MethodName := ⟨RX4, "commonDivisor", "(JJ)J"⟩
def RX5 : String := "FireFromFire$Paths"
def TX5 : u_T := fun k => match k with
  | 0 => ("FireFromFire$Paths", "least", "[[I", true)
  | _ => ("FireFromFire$Paths", "houses", "I", false)
def tyX5 : Nat → FieldType := fun k => match k with
  | 0 => .array (.array .int)
  | _ => .int
abbrev wsX50 : List Cond := u_ws RX5 TX5 2
theorem nmX5 : ∀ a, a < 2 → ∀ b, b < 2 → a ≠ b → (TX5 a).2.1 ≠ (TX5 b).2.1 := by decide +kernel
theorem tyX5_ok : ∀ k, k < 2 → parseFieldDescriptor (TX5 k).2.2.1 = some (tyX5 k) := by decide +kernel
abbrev cX5_init : ByteArray := prog_7_method_1_code
def yX5_init : MethodName := ⟨RX5, "<init>", "()V"⟩
abbrev cX5_measure : ByteArray := prog_7_method_2_code
def yX5_measure : MethodName := ⟨RX5, "measure", "(LFireFromFire$Village;)V"⟩
abbrev cX5_toFire : ByteArray := prog_7_method_3_code
def yX5_toFire : MethodName := ⟨RX5, "toFire", "(LFireFromFire$Village;I)I"⟩
abbrev cX5_widest : ByteArray := prog_7_method_4_code
def yX5_widest : MethodName := ⟨RX5, "widest", "()I"⟩
abbrev cX5_fewest : ByteArray := prog_7_method_5_code
def yX5_fewest : MethodName := ⟨RX5, "fewest", "(I)I"⟩
abbrev cX5_isReached : ByteArray := prog_7_method_6_code
def yX5_isReached : MethodName := ⟨RX5, "isReached", "(II)Z"⟩
def RX6 : String := "FireFromFire$Reader"
def TX6 : u_T := fun k => match k with
  | 0 => ("FireFromFire$Reader", "bytes", "[I", true)
  | 1 => ("FireFromFire$Reader", "length", "I", false)
  | 2 => ("FireFromFire$Reader", "place", "I", false)
  | _ => ("FireFromFire$Reader", "land", "LFireFromFire$Land;", false)
def tyX6 : Nat → FieldType := fun k => match k with
  | 0 => .array .int
  | 1 => .int
  | 2 => .int
  | _ => .object "FireFromFire$Land"
abbrev wsX60 : List Cond := u_ws RX6 TX6 4
theorem nmX6 : ∀ a, a < 4 → ∀ b, b < 4 → a ≠ b → (TX6 a).2.1 ≠ (TX6 b).2.1 := by decide +kernel
theorem tyX6_ok : ∀ k, k < 4 → parseFieldDescriptor (TX6 k).2.2.1 = some (tyX6 k) := by decide +kernel
abbrev cX6_init : ByteArray := prog_8_method_1_code
def yX6_init : MethodName := ⟨RX6, "<init>", "()V"⟩
abbrev cX6_append : ByteArray := prog_8_method_2_code
def yX6_append : MethodName := ⟨RX6, "append", "(I)V"⟩
abbrev cX6_parse : ByteArray := prog_8_method_3_code
def yX6_parse : MethodName := ⟨RX6, "parse", "(LFireFromFire$Land;)Z"⟩
abbrev cX6_sign : ByteArray := prog_8_method_4_code
def yX6_sign : MethodName := ⟨RX6, "sign", "()I"⟩
abbrev cX6_take : ByteArray := prog_8_method_5_code
def yX6_take : MethodName := ⟨RX6, "take", "(I)Z"⟩
abbrev cX6_takeAll : ByteArray := prog_8_method_6_code
def yX6_takeAll : MethodName := ⟨RX6, "takeAll", "(Ljava/lang/String;)Z"⟩
abbrev cX6_takeWord : ByteArray := prog_8_method_7_code
def yX6_takeWord : MethodName := ⟨RX6, "takeWord", "()I"⟩
abbrev cX6_takeWeather : ByteArray := prog_8_method_8_code
def yX6_takeWeather : MethodName := ⟨RX6, "takeWeather", "()I"⟩
abbrev cX6_takeNumber : ByteArray := prog_8_method_9_code
def yX6_takeNumber : MethodName := ⟨RX6, "takeNumber", "()I"⟩
abbrev cX6_takeNext : ByteArray := prog_8_method_10_code
def yX6_takeNext : MethodName := ⟨RX6, "takeNext", "()Z"⟩
abbrev cX6_takeEither : ByteArray := prog_8_method_11_code
def yX6_takeEither : MethodName := ⟨RX6, "takeEither", "(I)Z"⟩
abbrev cX6_takePart : ByteArray := prog_8_method_12_code
def yX6_takePart : MethodName := ⟨RX6, "takePart", "(I)Z"⟩
abbrev cX6_takeTest : ByteArray := prog_8_method_13_code
def yX6_takeTest : MethodName := ⟨RX6, "takeTest", "(I)Z"⟩
def RX7 : String := "FireFromFire$Tape"
def TX7 : u_T := fun k => match k with
  | 0 => ("FireFromFire$Tape", "sort", "I", false)
  | 1 => ("FireFromFire$Tape", "size", "I", false)
  | _ => ("FireFromFire$Tape", "items", "[J", true)
def tyX7 : Nat → FieldType := fun k => match k with
  | 0 => .int
  | 1 => .int
  | _ => .array .long
abbrev wsX70 : List Cond := u_ws RX7 TX7 3
theorem nmX7 : ∀ a, a < 3 → ∀ b, b < 3 → a ≠ b → (TX7 a).2.1 ≠ (TX7 b).2.1 := by decide +kernel
theorem tyX7_ok : ∀ k, k < 3 → parseFieldDescriptor (TX7 k).2.2.1 = some (tyX7 k) := by decide +kernel
abbrev cX7_init : ByteArray := prog_9_method_1_code
def yX7_init : MethodName := ⟨RX7, "<init>", "()V"⟩
abbrev cX7_start : ByteArray := prog_9_method_2_code
def yX7_start : MethodName := ⟨RX7, "start", "(II)V"⟩
abbrev cX7_isRow : ByteArray := prog_9_method_3_code
def yX7_isRow : MethodName := ⟨RX7, "isRow", "()Z"⟩
abbrev cX7_has : ByteArray := prog_9_method_4_code
def yX7_has : MethodName := ⟨RX7, "has", "(II)Z"⟩
abbrev cX7_get : ByteArray := prog_9_method_5_code
def yX7_get : MethodName := ⟨RX7, "get", "(I)J"⟩
abbrev cX7_put : ByteArray := prog_9_method_6_code
def yX7_put : MethodName := ⟨RX7, "put", "(IJ)V"⟩
abbrev cX7_cut : ByteArray := prog_9_method_7_code
def yX7_cut : MethodName := ⟨RX7, "cut", "(J)J"⟩
def RX8 : String := "FireFromFire$Village"
def TX8 : u_T := fun k => match k with
  | 0 => ("FireFromFire$Village", "houses", "I", false)
  | 1 => ("FireFromFire$Village", "homes", "[LFireFromFire$House;", true)
  | 2 => ("FireFromFire$Village", "ways", "[[I", true)
  | 3 => ("FireFromFire$Village", "weather", "I", false)
  | 4 => ("FireFromFire$Village", "hour", "I", false)
  | 5 => ("FireFromFire$Village", "land", "LFireFromFire$Land;", false)
  | 6 => ("FireFromFire$Village", "nights", "I", false)
  | 7 => ("FireFromFire$Village", "nightWeather", "[I", true)
  | 8 => ("FireFromFire$Village", "nightMishaps", "[I", true)
  | _ => ("FireFromFire$Village", "facts", "[I", true)
def tyX8 : Nat → FieldType := fun k => match k with
  | 0 => .int
  | 1 => .array (.object "FireFromFire$House")
  | 2 => .array (.array .int)
  | 3 => .int
  | 4 => .int
  | 5 => .object "FireFromFire$Land"
  | 6 => .int
  | 7 => .array .int
  | 8 => .array .int
  | _ => .array .int
abbrev wsX80 : List Cond := u_ws RX8 TX8 10
theorem nmX8 : ∀ a, a < 10 → ∀ b, b < 10 → a ≠ b → (TX8 a).2.1 ≠ (TX8 b).2.1 := by decide +kernel
theorem tyX8_ok : ∀ k, k < 10 → parseFieldDescriptor (TX8 k).2.2.1 = some (tyX8 k) := by decide +kernel
abbrev cX8_init : ByteArray := prog_10_method_1_code
def yX8_init : MethodName := ⟨RX8, "<init>", "()V"⟩
abbrev cX8_find : ByteArray := prog_10_method_2_code
def yX8_find : MethodName := ⟨RX8, "find", "(I)LFireFromFire$House;"⟩
abbrev cX8_copy : ByteArray := prog_10_method_3_code
def yX8_copy : MethodName := ⟨RX8, "copy", "(LFireFromFire$Village;)V"⟩
abbrev cX8_hoursBetween : ByteArray := prog_10_method_4_code
def yX8_hoursBetween : MethodName := ⟨RX8, "hoursBetween", "(II)I"⟩
abbrev cX8_join : ByteArray := prog_10_method_5_code
def yX8_join : MethodName := ⟨RX8, "join", "(III)V"⟩
abbrev cX8_litBits : ByteArray := prog_10_method_6_code
def yX8_litBits : MethodName := ⟨RX8, "litBits", "()I"⟩
abbrev cX8_litCount : ByteArray := prog_10_method_7_code
def yX8_litCount : MethodName := ⟨RX8, "litCount", "()I"⟩
abbrev cX8_payAll : ByteArray := prog_10_method_8_code
def yX8_payAll : MethodName := ⟨RX8, "payAll", "(I)V"⟩
abbrev cX8_sum : ByteArray := prog_10_method_9_code
def yX8_sum : MethodName := ⟨RX8, "sum", "(III)I"⟩
abbrev cX8_tenthsOf : ByteArray := prog_10_method_10_code
def yX8_tenthsOf : MethodName := ⟨RX8, "tenthsOf", "(II)I"⟩
abbrev cX8_nearestFire : ByteArray := prog_10_method_11_code
def yX8_nearestFire : MethodName := ⟨RX8, "nearestFire", "(I)I"⟩
abbrev cX8_choice : ByteArray := prog_10_method_12_code
def yX8_choice : MethodName := ⟨RX8, "choice", "(II)I"⟩
abbrev cX8_isKeeping : ByteArray := prog_10_method_13_code
def yX8_isKeeping : MethodName := ⟨RX8, "isKeeping", "(LFireFromFire$House;II)Z"⟩
abbrev cX8_isSending : ByteArray := prog_10_method_14_code
def yX8_isSending : MethodName := ⟨RX8, "isSending", "(LFireFromFire$House;II)Z"⟩
def RX9 : String := "FireFromFire"
def TX9 : u_T := fun k => match k with
  | 0 => ("FireFromFire", "now", "LFireFromFire$Village;", true)
  | 1 => ("FireFromFire", "kept", "LFireFromFire$Village;", true)
  | 2 => ("FireFromFire", "then", "LFireFromFire$Village;", true)
  | 3 => ("FireFromFire", "isKept", "Z", false)
  | 4 => ("FireFromFire", "text", "LFireFromFire$Reader;", true)
  | 5 => ("FireFromFire", "lands", "[LFireFromFire$Land;", true)
  | 6 => ("FireFromFire", "landCount", "I", false)
  | 7 => ("FireFromFire", "hours", "LFireFromFire$Hours;", true)
  | 8 => ("FireFromFire", "paths", "LFireFromFire$Paths;", true)
  | 9 => ("FireFromFire", "odds", "LFireFromFire$Odds;", true)
  | 10 => ("FireFromFire", "acts", "LFireFromFire$Acts;", true)
  | _ => ("FireFromFire", "tapes", "[LFireFromFire$Tape;", true)
def tyX9 : Nat → FieldType := fun k => match k with
  | 0 => .object "FireFromFire$Village"
  | 1 => .object "FireFromFire$Village"
  | 2 => .object "FireFromFire$Village"
  | 3 => .boolean
  | 4 => .object "FireFromFire$Reader"
  | 5 => .array (.object "FireFromFire$Land")
  | 6 => .int
  | 7 => .object "FireFromFire$Hours"
  | 8 => .object "FireFromFire$Paths"
  | 9 => .object "FireFromFire$Odds"
  | 10 => .object "FireFromFire$Acts"
  | _ => .array (.object "FireFromFire$Tape")
abbrev wsX90 : List Cond := u_ws RX9 TX9 12
theorem nmX9 : ∀ a, a < 12 → ∀ b, b < 12 → a ≠ b → (TX9 a).2.1 ≠ (TX9 b).2.1 := by decide +kernel
theorem tyX9_ok : ∀ k, k < 12 → parseFieldDescriptor (TX9 k).2.2.1 = some (tyX9 k) := by decide +kernel
abbrev cX9_init : ByteArray := prog_1_method_1_code
def yX9_init : MethodName := ⟨RX9, "<init>", "()V"⟩
abbrev cX9_house : ByteArray := prog_1_method_2_code
def yX9_house : MethodName := ⟨RX9, "house", "(IZ)I"⟩
abbrev cX9_of : ByteArray := prog_1_method_3_code
def yX9_of : MethodName := ⟨RX9, "of", "(II)I"⟩
abbrev cX9_wood : ByteArray := prog_1_method_4_code
def yX9_wood : MethodName := ⟨RX9, "wood", "(II)I"⟩
abbrev cX9_light : ByteArray := prog_1_method_5_code
def yX9_light : MethodName := ⟨RX9, "light", "(IZ)I"⟩
abbrev cX9_way : ByteArray := prog_1_method_6_code
def yX9_way : MethodName := ⟨RX9, "way", "(III)I"⟩
abbrev cX9_feed : ByteArray := prog_1_method_7_code
def yX9_feed : MethodName := ⟨RX9, "feed", "(II)I"⟩
abbrev cX9_land : ByteArray := prog_1_method_8_code
def yX9_land : MethodName := ⟨RX9, "land", "()I"⟩
abbrev cX9_told : ByteArray := prog_1_method_9_code
def yX9_told : MethodName := ⟨RX9, "told", "(III)I"⟩
abbrev cX9_follows : ByteArray := prog_1_method_10_code
def yX9_follows : MethodName := ⟨RX9, "follows", "(II)I"⟩
abbrev cX9_keeper : ByteArray := prog_1_method_11_code
def yX9_keeper : MethodName := ⟨RX9, "keeper", "(IIII)I"⟩
abbrev cX9_would : ByteArray := prog_1_method_12_code
def yX9_would : MethodName := ⟨RX9, "would", "(II)I"⟩
abbrev cX9_go : ByteArray := prog_1_method_13_code
def yX9_go : MethodName := ⟨RX9, "go", "(II)I"⟩
abbrev cX9_night : ByteArray := prog_1_method_14_code
def yX9_night : MethodName := ⟨RX9, "night", "(II)I"⟩
abbrev cX9_hand : ByteArray := prog_1_method_15_code
def yX9_hand : MethodName := ⟨RX9, "hand", "(II)I"⟩
abbrev cX9_quickest : ByteArray := prog_1_method_16_code
def yX9_quickest : MethodName := ⟨RX9, "quickest", "(II)I"⟩
abbrev cX9_where : ByteArray := prog_1_method_17_code
def yX9_where : MethodName := ⟨RX9, "where", "(I)I"⟩
abbrev cX9_apart : ByteArray := prog_1_method_18_code
def yX9_apart : MethodName := ⟨RX9, "apart", "()I"⟩
abbrev cX9_ends : ByteArray := prog_1_method_19_code
def yX9_ends : MethodName := ⟨RX9, "ends", "(III)J"⟩
abbrev cX9_lasts : ByteArray := prog_1_method_20_code
def yX9_lasts : MethodName := ⟨RX9, "lasts", "()I"⟩
abbrev cX9_match : ByteArray := prog_1_method_21_code
def yX9_match : MethodName := ⟨RX9, "match", "(II)I"⟩
abbrev cX9_asked : ByteArray := prog_1_method_22_code
def yX9_asked : MethodName := ⟨RX9, "asked", "(I)I"⟩
abbrev cX9_law : ByteArray := prog_1_method_23_code
def yX9_law : MethodName := ⟨RX9, "law", "(I)I"⟩
abbrev cX9_freed : ByteArray := prog_1_method_24_code
def yX9_freed : MethodName := ⟨RX9, "freed", "()I"⟩
abbrev cX9_judge : ByteArray := prog_1_method_25_code
def yX9_judge : MethodName := ⟨RX9, "judge", "(III)I"⟩
abbrev cX9_image : ByteArray := prog_1_method_26_code
def yX9_image : MethodName := ⟨RX9, "image", "()I"⟩
abbrev cX9_undo : ByteArray := prog_1_method_27_code
def yX9_undo : MethodName := ⟨RX9, "undo", "()I"⟩
abbrev cX9_act : ByteArray := prog_1_method_28_code
def yX9_act : MethodName := ⟨RX9, "act", "(III)I"⟩
abbrev cX9_trace : ByteArray := prog_1_method_29_code
def yX9_trace : MethodName := ⟨RX9, "trace", "(I)I"⟩
abbrev cX9_taken : ByteArray := prog_1_method_30_code
def yX9_taken : MethodName := ⟨RX9, "taken", "(II)I"⟩
abbrev cX9_count : ByteArray := prog_1_method_31_code
def yX9_count : MethodName := ⟨RX9, "count", "(I)I"⟩
abbrev cX9_tape : ByteArray := prog_1_method_32_code
def yX9_tape : MethodName := ⟨RX9, "tape", "(III)I"⟩
abbrev cX9_item : ByteArray := prog_1_method_33_code
def yX9_item : MethodName := ⟨RX9, "item", "(IIJ)I"⟩
abbrev cX9_read : ByteArray := prog_1_method_34_code
def yX9_read : MethodName := ⟨RX9, "read", "(II)J"⟩
abbrev cX9_shift : ByteArray := prog_1_method_35_code
def yX9_shift : MethodName := ⟨RX9, "shift", "(IIIII)I"⟩
abbrev cX9_findTape : ByteArray := prog_1_method_36_code
def yX9_findTape : MethodName := ⟨RX9, "findTape", "(I)LFireFromFire$Tape;"⟩
abbrev cX9_isWeather : ByteArray := prog_1_method_37_code
def yX9_isWeather : MethodName := ⟨RX9, "isWeather", "(I)Z"⟩
abbrev cX9_isKind : ByteArray := prog_1_method_38_code
def yX9_isKind : MethodName := ⟨RX9, "isKind", "(I)Z"⟩
abbrev cX9_kindAbove : ByteArray := prog_1_method_39_code
def yX9_kindAbove : MethodName := ⟨RX9, "kindAbove", "(I)I"⟩
def RX10 : String := "FireFromFireModel"
def TX10 : u_T := fun k => match k with
  | 0 => ("FireFromFireModel", "houses", "I", false)
  | 1 => ("FireFromFireModel", "alight", "I", false)
  | 2 => ("FireFromFireModel", "hour", "I", false)
  | 3 => ("FireFromFireModel", "weather", "I", false)
  | 4 => ("FireFromFireModel", "wood", "[I", true)
  | 5 => ("FireFromFireModel", "kind", "[I", true)
  | 6 => ("FireFromFireModel", "v", "[I", true)
  | 7 => ("FireFromFireModel", "hours", "[I", true)
  | 8 => ("FireFromFireModel", "phase", "[I", true)
  | 9 => ("FireFromFireModel", "yet", "[I", true)
  | 10 => ("FireFromFireModel", "to", "[I", true)
  | 11 => ("FireFromFireModel", "horn", "[I", true)
  | 12 => ("FireFromFireModel", "ways", "[I", true)
  | 13 => ("FireFromFireModel", "lands", "I", false)
  | 14 => ("FireFromFireModel", "the", "I", false)
  | 15 => ("FireFromFireModel", "fed", "I", false)
  | 16 => ("FireFromFireModel", "at", "I", false)
  | 17 => ("FireFromFireModel", "digits", "I", false)
  | 18 => ("FireFromFireModel", "text", "[I", true)
  | 19 => ("FireFromFireModel", "clauses", "[I", true)
  | 20 => ("FireFromFireModel", "word", "[I", true)
  | 21 => ("FireFromFireModel", "spot", "[I", true)
  | 22 => ("FireFromFireModel", "number", "[I", true)
  | 23 => ("FireFromFireModel", "from", "[I", true)
  | 24 => ("FireFromFireModel", "until", "[I", true)
  | 25 => ("FireFromFireModel", "sign", "[I", true)
  | 26 => ("FireFromFireModel", "waits", "[I", true)
  | 27 => ("FireFromFireModel", "signs", "I", false)
  | 28 => ("FireFromFireModel", "waiting", "I", false)
  | 29 => ("FireFromFireModel", "open", "I", false)
  | 30 => ("FireFromFireModel", "letterOfWords", "[I", true)
  | 31 => ("FireFromFireModel", "follow", "[I", true)
  | 32 => ("FireFromFireModel", "atAlight", "I", false)
  | 33 => ("FireFromFireModel", "atHour", "I", false)
  | 34 => ("FireFromFireModel", "wasAlight", "I", false)
  | 35 => ("FireFromFireModel", "worth", "I", false)
  | 36 => ("FireFromFireModel", "lacked", "I", false)
  | 37 => ("FireFromFireModel", "atWood", "[I", true)
  | 38 => ("FireFromFireModel", "wasWood", "[I", true)
  | 39 => ("FireFromFireModel", "tryKind", "[I", true)
  | 40 => ("FireFromFireModel", "tryV", "[I", true)
  | 41 => ("FireFromFireModel", "atPhase", "[I", true)
  | 42 => ("FireFromFireModel", "atYet", "[I", true)
  | 43 => ("FireFromFireModel", "atTo", "[I", true)
  | 44 => ("FireFromFireModel", "atHorn", "[I", true)
  | 45 => ("FireFromFireModel", "pile", "[Z", true)
  | 46 => ("FireFromFireModel", "nights", "I", false)
  | 47 => ("FireFromFireModel", "nightWeather", "[I", true)
  | 48 => ("FireFromFireModel", "nightMishaps", "[I", true)
  | 49 => ("FireFromFireModel", "apartBy", "[I", true)
  | 50 => ("FireFromFireModel", "keptAlight", "I", false)
  | 51 => ("FireFromFireModel", "keptHour", "I", false)
  | 52 => ("FireFromFireModel", "keptWorth", "I", false)
  | 53 => ("FireFromFireModel", "keptWood", "[I", true)
  | 54 => ("FireFromFireModel", "keptPhase", "[I", true)
  | 55 => ("FireFromFireModel", "keptYet", "[I", true)
  | 56 => ("FireFromFireModel", "keptTo", "[I", true)
  | 57 => ("FireFromFireModel", "keptHorn", "[I", true)
  | 58 => ("FireFromFireModel", "endings", "J", false)
  | 59 => ("FireFromFireModel", "worths", "J", false)
  | 60 => ("FireFromFireModel", "hasImage", "Z", false)
  | 61 => ("FireFromFireModel", "imageThe", "I", false)
  | 62 => ("FireFromFireModel", "imageHouses", "I", false)
  | 63 => ("FireFromFireModel", "imageAlight", "I", false)
  | 64 => ("FireFromFireModel", "imageHour", "I", false)
  | 65 => ("FireFromFireModel", "imageWeather", "I", false)
  | 66 => ("FireFromFireModel", "imageNights", "I", false)
  | 67 => ("FireFromFireModel", "imageWood", "[I", true)
  | 68 => ("FireFromFireModel", "imageKind", "[I", true)
  | 69 => ("FireFromFireModel", "imageV", "[I", true)
  | 70 => ("FireFromFireModel", "imageHours", "[I", true)
  | 71 => ("FireFromFireModel", "imagePhase", "[I", true)
  | 72 => ("FireFromFireModel", "imageYet", "[I", true)
  | 73 => ("FireFromFireModel", "imageTo", "[I", true)
  | 74 => ("FireFromFireModel", "imageHorn", "[I", true)
  | 75 => ("FireFromFireModel", "imageWays", "[I", true)
  | 76 => ("FireFromFireModel", "imageNightWeather", "[I", true)
  | 77 => ("FireFromFireModel", "imageNightMishaps", "[I", true)
  | 78 => ("FireFromFireModel", "ran", "I", false)
  | 79 => ("FireFromFireModel", "bodies", "[I", true)
  | 80 => ("FireFromFireModel", "sort", "[I", true)
  | 81 => ("FireFromFireModel", "length", "[I", true)
  | 82 => ("FireFromFireModel", "item", "[J", true)
  | _ => ("FireFromFireModel", "aside", "[J", true)
def tyX10 : Nat → FieldType := fun k => match k with
  | 0 => .int
  | 1 => .int
  | 2 => .int
  | 3 => .int
  | 4 => .array .int
  | 5 => .array .int
  | 6 => .array .int
  | 7 => .array .int
  | 8 => .array .int
  | 9 => .array .int
  | 10 => .array .int
  | 11 => .array .int
  | 12 => .array .int
  | 13 => .int
  | 14 => .int
  | 15 => .int
  | 16 => .int
  | 17 => .int
  | 18 => .array .int
  | 19 => .array .int
  | 20 => .array .int
  | 21 => .array .int
  | 22 => .array .int
  | 23 => .array .int
  | 24 => .array .int
  | 25 => .array .int
  | 26 => .array .int
  | 27 => .int
  | 28 => .int
  | 29 => .int
  | 30 => .array .int
  | 31 => .array .int
  | 32 => .int
  | 33 => .int
  | 34 => .int
  | 35 => .int
  | 36 => .int
  | 37 => .array .int
  | 38 => .array .int
  | 39 => .array .int
  | 40 => .array .int
  | 41 => .array .int
  | 42 => .array .int
  | 43 => .array .int
  | 44 => .array .int
  | 45 => .array .boolean
  | 46 => .int
  | 47 => .array .int
  | 48 => .array .int
  | 49 => .array .int
  | 50 => .int
  | 51 => .int
  | 52 => .int
  | 53 => .array .int
  | 54 => .array .int
  | 55 => .array .int
  | 56 => .array .int
  | 57 => .array .int
  | 58 => .long
  | 59 => .long
  | 60 => .boolean
  | 61 => .int
  | 62 => .int
  | 63 => .int
  | 64 => .int
  | 65 => .int
  | 66 => .int
  | 67 => .array .int
  | 68 => .array .int
  | 69 => .array .int
  | 70 => .array .int
  | 71 => .array .int
  | 72 => .array .int
  | 73 => .array .int
  | 74 => .array .int
  | 75 => .array .int
  | 76 => .array .int
  | 77 => .array .int
  | 78 => .int
  | 79 => .array .int
  | 80 => .array .int
  | 81 => .array .int
  | 82 => .array .long
  | _ => .array .long
abbrev wsX100 : List Cond := u_ws RX10 TX10 84
theorem nmX10 : ∀ a, a < 84 → ∀ b, b < 84 → a ≠ b → (TX10 a).2.1 ≠ (TX10 b).2.1 := by decide +kernel
theorem tyX10_ok : ∀ k, k < 84 → parseFieldDescriptor (TX10 k).2.2.1 = some (tyX10 k) := by decide +kernel
abbrev cX10_init : ByteArray := prog_12_method_1_code
def yX10_init : MethodName := ⟨RX10, "<init>", "()V"⟩
abbrev cX10_in : ByteArray := prog_12_method_2_code
def yX10_in : MethodName := ⟨RX10, "in", "(III)Z"⟩
abbrev cX10_min : ByteArray := prog_12_method_3_code
def yX10_min : MethodName := ⟨RX10, "min", "(II)I"⟩
abbrev cX10_has : ByteArray := prog_12_method_4_code
def yX10_has : MethodName := ⟨RX10, "has", "(II)Z"⟩
abbrev cX10_isHouse : ByteArray := prog_12_method_5_code
def yX10_isHouse : MethodName := ⟨RX10, "isHouse", "(I)Z"⟩
abbrev cX10_isWeather : ByteArray := prog_12_method_6_code
def yX10_isWeather : MethodName := ⟨RX10, "isWeather", "(I)Z"⟩
abbrev cX10_house : ByteArray := prog_12_method_7_code
def yX10_house : MethodName := ⟨RX10, "house", "(IZ)I"⟩
abbrev cX10_of : ByteArray := prog_12_method_8_code
def yX10_of : MethodName := ⟨RX10, "of", "(II)I"⟩
abbrev cX10_wood : ByteArray := prog_12_method_9_code
def yX10_wood : MethodName := ⟨RX10, "wood", "(II)I"⟩
abbrev cX10_light : ByteArray := prog_12_method_10_code
def yX10_light : MethodName := ⟨RX10, "light", "(IZ)I"⟩
abbrev cX10_way : ByteArray := prog_12_method_11_code
def yX10_way : MethodName := ⟨RX10, "way", "(III)I"⟩
abbrev cX10_keeper : ByteArray := prog_12_method_12_code
def yX10_keeper : MethodName := ⟨RX10, "keeper", "(IIII)I"⟩
abbrev cX10_feed : ByteArray := prog_12_method_13_code
def yX10_feed : MethodName := ⟨RX10, "feed", "(II)I"⟩
abbrev cX10_next : ByteArray := prog_12_method_14_code
def yX10_next : MethodName := ⟨RX10, "next", "()I"⟩
abbrev cX10_takesSign : ByteArray := prog_12_method_15_code
def yX10_takesSign : MethodName := ⟨RX10, "takesSign", "(I)Z"⟩
abbrev cX10_takesWord : ByteArray := prog_12_method_16_code
def yX10_takesWord : MethodName := ⟨RX10, "takesWord", "(II)Z"⟩
abbrev cX10_isDigit : ByteArray := prog_12_method_17_code
def yX10_isDigit : MethodName := ⟨RX10, "isDigit", "()Z"⟩
abbrev cX10_takesNumber : ByteArray := prog_12_method_18_code
def yX10_takesNumber : MethodName := ⟨RX10, "takesNumber", "()Z"⟩
abbrev cX10_put : ByteArray := prog_12_method_19_code
def yX10_put : MethodName := ⟨RX10, "put", "(I)V"⟩
abbrev cX10_whole : ByteArray := prog_12_method_20_code
def yX10_whole : MethodName := ⟨RX10, "whole", "()V"⟩
abbrev cX10_settle : ByteArray := prog_12_method_21_code
def yX10_settle : MethodName := ⟨RX10, "settle", "(I)V"⟩
abbrev cX10_third : ByteArray := prog_12_method_22_code
def yX10_third : MethodName := ⟨RX10, "third", "()I"⟩
abbrev cX10_place : ByteArray := prog_12_method_23_code
def yX10_place : MethodName := ⟨RX10, "place", "(I)I"⟩
abbrev cX10_takesTest : ByteArray := prog_12_method_24_code
def yX10_takesTest : MethodName := ⟨RX10, "takesTest", "()Z"⟩
abbrev cX10_takesE : ByteArray := prog_12_method_25_code
def yX10_takesE : MethodName := ⟨RX10, "takesE", "(I)Z"⟩
abbrev cX10_takesFigure : ByteArray := prog_12_method_26_code
def yX10_takesFigure : MethodName := ⟨RX10, "takesFigure", "(I)Z"⟩
abbrev cX10_takesHead : ByteArray := prog_12_method_27_code
def yX10_takesHead : MethodName := ⟨RX10, "takesHead", "(I)Z"⟩
abbrev cX10_takesClause : ByteArray := prog_12_method_28_code
def yX10_takesClause : MethodName := ⟨RX10, "takesClause", "(I)Z"⟩
abbrev cX10_goesText : ByteArray := prog_12_method_29_code
def yX10_goesText : MethodName := ⟨RX10, "goesText", "(I)Z"⟩
abbrev cX10_land : ByteArray := prog_12_method_30_code
def yX10_land : MethodName := ⟨RX10, "land", "()I"⟩
abbrev cX10_first : ByteArray := prog_12_method_31_code
def yX10_first : MethodName := ⟨RX10, "first", "()I"⟩
abbrev cX10_behind : ByteArray := prog_12_method_32_code
def yX10_behind : MethodName := ⟨RX10, "behind", "()I"⟩
abbrev cX10_layFollows : ByteArray := prog_12_method_33_code
def yX10_layFollows : MethodName := ⟨RX10, "layFollows", "()V"⟩
abbrev cX10_follows : ByteArray := prog_12_method_34_code
def yX10_follows : MethodName := ⟨RX10, "follows", "(II)I"⟩
abbrev cX10_asIs : ByteArray := prog_12_method_35_code
def yX10_asIs : MethodName := ⟨RX10, "asIs", "()V"⟩
abbrev cX10_begin : ByteArray := prog_12_method_36_code
def yX10_begin : MethodName := ⟨RX10, "begin", "()V"⟩
abbrev cX10_ones : ByteArray := prog_12_method_37_code
def yX10_ones : MethodName := ⟨RX10, "ones", "(I)I"⟩
abbrev cX10_factOf : ByteArray := prog_12_method_38_code
def yX10_factOf : MethodName := ⟨RX10, "factOf", "(III)I"⟩
abbrev cX10_holds : ByteArray := prog_12_method_39_code
def yX10_holds : MethodName := ⟨RX10, "holds", "(III)Z"⟩
abbrev cX10_sumOf : ByteArray := prog_12_method_40_code
def yX10_sumOf : MethodName := ⟨RX10, "sumOf", "(III)I"⟩
abbrev cX10_told : ByteArray := prog_12_method_41_code
def yX10_told : MethodName := ⟨RX10, "told", "(III)I"⟩
abbrev cX10_isNoneAhead : ByteArray := prog_12_method_42_code
def yX10_isNoneAhead : MethodName := ⟨RX10, "isNoneAhead", "(I)Z"⟩
abbrev cX10_keeps : ByteArray := prog_12_method_43_code
def yX10_keeps : MethodName := ⟨RX10, "keeps", "(II)Z"⟩
abbrev cX10_sends : ByteArray := prog_12_method_44_code
def yX10_sends : MethodName := ⟨RX10, "sends", "(II)Z"⟩
abbrev cX10_whereTo : ByteArray := prog_12_method_45_code
def yX10_whereTo : MethodName := ⟨RX10, "whereTo", "(I)I"⟩
abbrev cX10_would : ByteArray := prog_12_method_46_code
def yX10_would : MethodName := ⟨RX10, "would", "(II)I"⟩
abbrev cX10_burns : ByteArray := prog_12_method_47_code
def yX10_burns : MethodName := ⟨RX10, "burns", "(III)V"⟩
abbrev cX10_setsOut : ByteArray := prog_12_method_48_code
def yX10_setsOut : MethodName := ⟨RX10, "setsOut", "(II)V"⟩
abbrev cX10_walks : ByteArray := prog_12_method_49_code
def yX10_walks : MethodName := ⟨RX10, "walks", "(II)V"⟩
abbrev cX10_goHour : ByteArray := prog_12_method_50_code
def yX10_goHour : MethodName := ⟨RX10, "goHour", "(II)V"⟩
abbrev cX10_go : ByteArray := prog_12_method_51_code
def yX10_go : MethodName := ⟨RX10, "go", "(II)I"⟩
abbrev cX10_night : ByteArray := prog_12_method_52_code
def yX10_night : MethodName := ⟨RX10, "night", "(II)I"⟩
abbrev cX10_goNights : ByteArray := prog_12_method_53_code
def yX10_goNights : MethodName := ⟨RX10, "goNights", "(I)V"⟩
abbrev cX10_hand : ByteArray := prog_12_method_54_code
def yX10_hand : MethodName := ⟨RX10, "hand", "(II)I"⟩
abbrev cX10_layApart : ByteArray := prog_12_method_55_code
def yX10_layApart : MethodName := ⟨RX10, "layApart", "()V"⟩
abbrev cX10_nearest : ByteArray := prog_12_method_56_code
def yX10_nearest : MethodName := ⟨RX10, "nearest", "(II)I"⟩
abbrev cX10_quickest : ByteArray := prog_12_method_57_code
def yX10_quickest : MethodName := ⟨RX10, "quickest", "(II)I"⟩
abbrev cX10_where : ByteArray := prog_12_method_58_code
def yX10_where : MethodName := ⟨RX10, "where", "(I)I"⟩
abbrev cX10_apart : ByteArray := prog_12_method_59_code
def yX10_apart : MethodName := ⟨RX10, "apart", "()I"⟩
abbrev cX10_divisor : ByteArray := prog_12_method_60_code
def yX10_divisor : MethodName := ⟨RX10, "divisor", "(JJ)J"⟩
abbrev cX10_keep : ByteArray := prog_12_method_61_code
def yX10_keep : MethodName := ⟨RX10, "keep", "()V"⟩
abbrev cX10_layBack : ByteArray := prog_12_method_62_code
def yX10_layBack : MethodName := ⟨RX10, "layBack", "()V"⟩
abbrev cX10_mishapWeight : ByteArray := prog_12_method_63_code
def yX10_mishapWeight : MethodName := ⟨RX10, "mishapWeight", "(II)J"⟩
abbrev cX10_counts : ByteArray := prog_12_method_64_code
def yX10_counts : MethodName := ⟨RX10, "counts", "(J)V"⟩
abbrev cX10_lastHour : ByteArray := prog_12_method_65_code
def yX10_lastHour : MethodName := ⟨RX10, "lastHour", "(IJ)V"⟩
abbrev cX10_ends : ByteArray := prog_12_method_66_code
def yX10_ends : MethodName := ⟨RX10, "ends", "(III)J"⟩
abbrev cX10_lasts : ByteArray := prog_12_method_67_code
def yX10_lasts : MethodName := ⟨RX10, "lasts", "()I"⟩
abbrev cX10_matchOf : ByteArray := prog_12_method_68_code
def yX10_matchOf : MethodName := ⟨RX10, "matchOf", "(II)I"⟩
abbrev cX10_match : ByteArray := prog_12_method_69_code
def yX10_match : MethodName := ⟨RX10, "match", "(II)I"⟩
abbrev cX10_asked : ByteArray := prog_12_method_70_code
def yX10_asked : MethodName := ⟨RX10, "asked", "(I)I"⟩
abbrev cX10_law : ByteArray := prog_12_method_71_code
def yX10_law : MethodName := ⟨RX10, "law", "(I)I"⟩
abbrev cX10_freed : ByteArray := prog_12_method_72_code
def yX10_freed : MethodName := ⟨RX10, "freed", "()I"⟩
abbrev cX10_judge : ByteArray := prog_12_method_73_code
def yX10_judge : MethodName := ⟨RX10, "judge", "(III)I"⟩
abbrev cX10_copy : ByteArray := prog_12_method_74_code
def yX10_copy : MethodName := ⟨RX10, "copy", "([I[I)V"⟩
abbrev cX10_image : ByteArray := prog_12_method_75_code
def yX10_image : MethodName := ⟨RX10, "image", "()I"⟩
abbrev cX10_undo : ByteArray := prog_12_method_76_code
def yX10_undo : MethodName := ⟨RX10, "undo", "()I"⟩
abbrev cX10_body : ByteArray := prog_12_method_77_code
def yX10_body : MethodName := ⟨RX10, "body", "(I)V"⟩
abbrev cX10_plainKeeps : ByteArray := prog_12_method_78_code
def yX10_plainKeeps : MethodName := ⟨RX10, "plainKeeps", "(II)I"⟩
abbrev cX10_keepsAct : ByteArray := prog_12_method_79_code
def yX10_keepsAct : MethodName := ⟨RX10, "keepsAct", "(II)I"⟩
abbrev cX10_plainSends : ByteArray := prog_12_method_80_code
def yX10_plainSends : MethodName := ⟨RX10, "plainSends", "(II)I"⟩
abbrev cX10_eachSends : ByteArray := prog_12_method_81_code
def yX10_eachSends : MethodName := ⟨RX10, "eachSends", "(II)I"⟩
abbrev cX10_sendsAct : ByteArray := prog_12_method_82_code
def yX10_sendsAct : MethodName := ⟨RX10, "sendsAct", "(II)I"⟩
abbrev cX10_plainTells : ByteArray := prog_12_method_83_code
def yX10_plainTells : MethodName := ⟨RX10, "plainTells", "(II)I"⟩
abbrev cX10_tellsAct : ByteArray := prog_12_method_84_code
def yX10_tellsAct : MethodName := ⟨RX10, "tellsAct", "(II)I"⟩
abbrev cX10_act : ByteArray := prog_12_method_85_code
def yX10_act : MethodName := ⟨RX10, "act", "(III)I"⟩
abbrev cX10_trace : ByteArray := prog_12_method_86_code
def yX10_trace : MethodName := ⟨RX10, "trace", "(I)I"⟩
abbrev cX10_taken : ByteArray := prog_12_method_87_code
def yX10_taken : MethodName := ⟨RX10, "taken", "(II)I"⟩
abbrev cX10_count : ByteArray := prog_12_method_88_code
def yX10_count : MethodName := ⟨RX10, "count", "(I)I"⟩
abbrev cX10_isTape : ByteArray := prog_12_method_89_code
def yX10_isTape : MethodName := ⟨RX10, "isTape", "(I)Z"⟩
abbrev cX10_tape : ByteArray := prog_12_method_90_code
def yX10_tape : MethodName := ⟨RX10, "tape", "(III)I"⟩
abbrev cX10_narrow : ByteArray := prog_12_method_91_code
def yX10_narrow : MethodName := ⟨RX10, "narrow", "(IJ)J"⟩
abbrev cX10_item : ByteArray := prog_12_method_92_code
def yX10_item : MethodName := ⟨RX10, "item", "(IIJ)I"⟩
abbrev cX10_read : ByteArray := prog_12_method_93_code
def yX10_read : MethodName := ⟨RX10, "read", "(II)J"⟩
abbrev cX10_shift : ByteArray := prog_12_method_94_code
def yX10_shift : MethodName := ⟨RX10, "shift", "(IIIII)I"⟩
def RJ11 : String := "java/lang/Character"
def TJ11 : u_T := fun k => match k with
  | _ => ("", "", "", false)
def tyJ11 : Nat → FieldType := fun k => match k with
  | _ => .int
abbrev wsJ110 : List Cond := u_ws RJ11 TJ11 0
theorem nmJ11 : ∀ a, a < 0 → ∀ b, b < 0 → a ≠ b → (TJ11 a).2.1 ≠ (TJ11 b).2.1 := by decide +kernel
theorem tyJ11_ok : ∀ k, k < 0 → parseFieldDescriptor (TJ11 k).2.2.1 = some (tyJ11 k) := by decide +kernel
abbrev cJ11_isValidCodePoint_9a6ad : ByteArray := prog_13_method_11_code
def yJ11_isValidCodePoint_9a6ad : MethodName := ⟨RJ11, "isValidCodePoint", "(I)Z"⟩
abbrev cJ11_highSurrogate_5068e : ByteArray := prog_13_method_28_code
def yJ11_highSurrogate_5068e : MethodName := ⟨RJ11, "highSurrogate", "(I)C"⟩
abbrev cJ11_lowSurrogate_5068e : ByteArray := prog_13_method_29_code
def yJ11_lowSurrogate_5068e : MethodName := ⟨RJ11, "lowSurrogate", "(I)C"⟩
def RJ6 : String := "java/lang/Integer"
def TJ6 : u_T := fun k => match k with
  | _ => ("", "", "", false)
def tyJ6 : Nat → FieldType := fun k => match k with
  | _ => .int
abbrev wsJ60 : List Cond := u_ws RJ6 TJ6 0
theorem nmJ6 : ∀ a, a < 0 → ∀ b, b < 0 → a ≠ b → (TJ6 a).2.1 ≠ (TJ6 b).2.1 := by decide +kernel
theorem tyJ6_ok : ∀ k, k < 0 → parseFieldDescriptor (TJ6 k).2.2.1 = some (tyJ6 k) := by decide +kernel
abbrev cJ6_compare_7cf53 : ByteArray := prog_14_method_40_code
def yJ6_compare_7cf53 : MethodName := ⟨RJ6, "compare", "(II)I"⟩
abbrev cJ6_bitCount_0f7a4 : ByteArray := prog_14_method_49_code
def yJ6_bitCount_0f7a4 : MethodName := ⟨RJ6, "bitCount", "(I)I"⟩
def RJ9 : String := "java/lang/Math"
def TJ9 : u_T := fun k => match k with
  | _ => ("", "", "", false)
def tyJ9 : Nat → FieldType := fun k => match k with
  | _ => .int
abbrev wsJ90 : List Cond := u_ws RJ9 TJ9 0
theorem nmJ9 : ∀ a, a < 0 → ∀ b, b < 0 → a ≠ b → (TJ9 a).2.1 ≠ (TJ9 b).2.1 := by decide +kernel
theorem tyJ9_ok : ∀ k, k < 0 → parseFieldDescriptor (TJ9 k).2.2.1 = some (tyJ9 k) := by decide +kernel
abbrev cJ9_max_7cf53 : ByteArray := prog_15_method_65_code
def yJ9_max_7cf53 : MethodName := ⟨RJ9, "max", "(II)I"⟩
abbrev cJ9_min_7cf53 : ByteArray := prog_15_method_69_code
def yJ9_min_7cf53 : MethodName := ⟨RJ9, "min", "(II)I"⟩
def RJ0 : String := "java/lang/String"
def TJ0 : u_T := fun k => match k with
  | _ => ("", "", "", false)
def tyJ0 : Nat → FieldType := fun k => match k with
  | _ => .int
abbrev wsJ00 : List Cond := u_ws RJ0 TJ0 0
theorem nmJ0 : ∀ a, a < 0 → ∀ b, b < 0 → a ≠ b → (TJ0 a).2.1 ≠ (TJ0 b).2.1 := by decide +kernel
theorem tyJ0_ok : ∀ k, k < 0 → parseFieldDescriptor (TJ0 k).2.2.1 = some (tyJ0 k) := by decide +kernel
abbrev cJ0_length_8abf5 : ByteArray := prog_16_method_54_code
def yJ0_length_8abf5 : MethodName := ⟨RJ0, "length", "()I"⟩
abbrev cJ0_charAt_5068e : ByteArray := prog_16_method_56_code
def yJ0_charAt_5068e : MethodName := ⟨RJ0, "charAt", "(I)C"⟩
abbrev cJ0_indexOf_0f7a4 : ByteArray := prog_16_method_79_code
def yJ0_indexOf_0f7a4 : MethodName := ⟨RJ0, "indexOf", "(I)I"⟩
abbrev cJ0_indexOf_7cf53 : ByteArray := prog_16_method_80_code
def yJ0_indexOf_7cf53 : MethodName := ⟨RJ0, "indexOf", "(II)I"⟩
abbrev cJ0_coder_7d493 : ByteArray := prog_16_method_152_code
def yJ0_coder_7d493 : MethodName := ⟨RJ0, "coder", "()B"⟩
abbrev cJ0_isLatin1_aae02 : ByteArray := prog_16_method_154_code
def yJ0_isLatin1_aae02 : MethodName := ⟨RJ0, "isLatin1", "()Z"⟩
abbrev cJ0_checkIndex_df160 : ByteArray := prog_16_method_155_code
def yJ0_checkIndex_df160 : MethodName := ⟨RJ0, "checkIndex", "(II)V"⟩
abbrev cJ0_checkBoundsBeginEnd_23922 : ByteArray := prog_16_method_158_code
def yJ0_checkBoundsBeginEnd_23922 : MethodName := ⟨RJ0, "checkBoundsBeginEnd", "(III)V"⟩
def RJ1 : String := "java/lang/StringLatin1"
def TJ1 : u_T := fun k => match k with
  | _ => ("", "", "", false)
def tyJ1 : Nat → FieldType := fun k => match k with
  | _ => .int
abbrev wsJ10 : List Cond := u_ws RJ1 TJ1 0
theorem nmJ1 : ∀ a, a < 0 → ∀ b, b < 0 → a ≠ b → (TJ1 a).2.1 ≠ (TJ1 b).2.1 := by decide +kernel
theorem tyJ1_ok : ∀ k, k < 0 → parseFieldDescriptor (TJ1 k).2.2.1 = some (tyJ1 k) := by decide +kernel
abbrev cJ1_charAt_3b067 : ByteArray := prog_17_method_2_code
def yJ1_charAt_3b067 : MethodName := ⟨RJ1, "charAt", "([BI)C"⟩
abbrev cJ1_canEncode_9a6ad : ByteArray := prog_17_method_4_code
def yJ1_canEncode_9a6ad : MethodName := ⟨RJ1, "canEncode", "(I)Z"⟩
abbrev cJ1_indexOf_4cfef : ByteArray := prog_17_method_22_code
def yJ1_indexOf_4cfef : MethodName := ⟨RJ1, "indexOf", "([BIII)I"⟩
abbrev cJ1_indexOfChar_4cfef : ByteArray := prog_17_method_23_code
def yJ1_indexOfChar_4cfef : MethodName := ⟨RJ1, "indexOfChar", "([BIII)I"⟩
def RJ2 : String := "java/lang/StringUTF16"
def TJ2 : u_T := fun k => match k with
  | _ => ("", "", "", false)
def tyJ2 : Nat → FieldType := fun k => match k with
  | _ => .int
abbrev wsJ20 : List Cond := u_ws RJ2 TJ2 0
theorem nmJ2 : ∀ a, a < 0 → ∀ b, b < 0 → a ≠ b → (TJ2 a).2.1 ≠ (TJ2 b).2.1 := by decide +kernel
theorem tyJ2_ok : ∀ k, k < 0 → parseFieldDescriptor (TJ2 k).2.2.1 = some (tyJ2 k) := by decide +kernel
abbrev cJ2_getChar_3b067 : ByteArray := prog_18_method_5_code
def yJ2_getChar_3b067 : MethodName := ⟨RJ2, "getChar", "([BI)C"⟩
abbrev cJ2_length_9d52b : ByteArray := prog_18_method_6_code
def yJ2_length_9d52b : MethodName := ⟨RJ2, "length", "([B)I"⟩
abbrev cJ2_indexOf_4cfef : ByteArray := prog_18_method_40_code
def yJ2_indexOf_4cfef : MethodName := ⟨RJ2, "indexOf", "([BIII)I"⟩
abbrev cJ2_indexOfChar_4cfef : ByteArray := prog_18_method_47_code
def yJ2_indexOfChar_4cfef : MethodName := ⟨RJ2, "indexOfChar", "([BIII)I"⟩
abbrev cJ2_indexOfCharUnsafe_4cfef : ByteArray := prog_18_method_48_code
def yJ2_indexOfCharUnsafe_4cfef : MethodName := ⟨RJ2, "indexOfCharUnsafe", "([BIII)I"⟩
abbrev cJ2_indexOfSupplementary_4cfef : ByteArray := prog_18_method_49_code
def yJ2_indexOfSupplementary_4cfef : MethodName := ⟨RJ2, "indexOfSupplementary", "([BIII)I"⟩
abbrev cJ2_charAt_3b067 : ByteArray := prog_18_method_83_code
def yJ2_charAt_3b067 : MethodName := ⟨RJ2, "charAt", "([BI)C"⟩
abbrev cJ2_checkIndex_2214a : ByteArray := prog_18_method_91_code
def yJ2_checkIndex_2214a : MethodName := ⟨RJ2, "checkIndex", "(I[B)V"⟩
abbrev cJ2_checkBoundsBeginEnd_d044e : ByteArray := prog_18_method_93_code
def yJ2_checkBoundsBeginEnd_d044e : MethodName := ⟨RJ2, "checkBoundsBeginEnd", "(II[B)V"⟩
def RJ10 : String := "java/lang/System"
def TJ10 : u_T := fun k => match k with
  | _ => ("", "", "", false)
def tyJ10 : Nat → FieldType := fun k => match k with
  | _ => .int
abbrev wsJ100 : List Cond := u_ws RJ10 TJ10 0
theorem nmJ10 : ∀ a, a < 0 → ∀ b, b < 0 → a ≠ b → (TJ10 a).2.1 ≠ (TJ10 b).2.1 := by decide +kernel
theorem tyJ10_ok : ∀ k, k < 0 → parseFieldDescriptor (TJ10 k).2.2.1 = some (tyJ10 k) := by decide +kernel
def RJ3 : String := "jdk/internal/util/Preconditions"
def TJ3 : u_T := fun k => match k with
  | _ => ("", "", "", false)
def tyJ3 : Nat → FieldType := fun k => match k with
  | _ => .int
abbrev wsJ30 : List Cond := u_ws RJ3 TJ3 0
theorem nmJ3 : ∀ a, a < 0 → ∀ b, b < 0 → a ≠ b → (TJ3 a).2.1 ≠ (TJ3 b).2.1 := by decide +kernel
theorem tyJ3_ok : ∀ k, k < 0 → parseFieldDescriptor (TJ3 k).2.2.1 = some (tyJ3 k) := by decide +kernel
abbrev cJ3_checkIndex_8e157 : ByteArray := prog_20_method_11_code
def yJ3_checkIndex_8e157 : MethodName := ⟨RJ3, "checkIndex", "(IILjava/util/function/BiFunction;)I"⟩
abbrev cJ3_checkFromToIndex_8c36e : ByteArray := prog_20_method_12_code
def yJ3_checkFromToIndex_8c36e : MethodName := ⟨RJ3, "checkFromToIndex", "(IIILjava/util/function/BiFunction;)I"⟩
def RL : String := "FireFromFireLaw"
abbrev cL_law : ByteArray := code
def yL_law : MethodName := ⟨RL, "law", "([I)Z"⟩
abbrev vwCl : List vw_C := [(RX0, TX0, 5), (RX1, TX1, 6), (RX2, TX2, 9), (RX3, TX3, 9), (RX4, TX4, 4), (RX5, TX5, 2), (RX6, TX6, 4), (RX7, TX7, 3), (RX8, TX8, 10), (RX9, TX9, 12), (RX10, TX10, 84)]
end
section
/-! THE LAYER: cells by keys (sort, number, place), an abstract machine over them -/
abbrev Key : Type := Nat × Nat × Nat
abbrev AV : Type := Int32 ⊕ Int64 ⊕ Option Key
abbrev AM : Type := (Key → Nat → Int32) × (Key → Nat → Int64) × (Key → Nat → Option Key)
abbrev vI (x : Int32) : AV := .inl x
abbrev vJ (x : Int64) : AV := .inr (.inl x)
abbrev vO (q : Option Key) : AV := .inr (.inr q)
abbrev vN : AV := .inr (.inr none)
abbrev vR (q : Key) : AV := .inr (.inr (some q))
/-- the sorts: kind (a class of vwCl, or 11 int[] 12 long[] 13 boolean[] 14 House[] 15 Land[] 16 Tape[] 17 int[][]) and length -/
def am_kd (s : Nat) : Nat := ([9, 8, 14, 2, 17, 11, 11, 11, 11, 6, 11, 3, 11, 11, 11, 11, 11, 11, 11, 15, 1, 11, 11, 11, 11, 5, 17, 11, 4, 0, 11, 16, 7, 12, 0, 0, 0, 0, 0, 0, 10, 11, 11, 11, 11, 11, 11, 11, 11, 11, 11, 11, 11, 11, 11, 11, 11, 11, 11, 11, 11, 11, 11, 11, 11, 11, 11, 11, 11, 13, 11, 11, 11, 11, 11, 11, 11, 11, 11, 11, 11, 11, 11, 11, 11, 11, 11, 11, 11, 11, 11, 11, 12, 12] : List Nat).getD s 0
def am_ln (s : Nat) : Nat := ([12, 10, 6, 9, 6, 6, 12, 12, 6, 4, 100, 9, 10, 10, 10, 10, 100, 100, 100, 5, 6, 6, 6, 6, 6, 2, 6, 6, 4, 5, 20, 6, 3, 60, 0, 0, 0, 0, 0, 0, 84, 6, 6, 6, 6, 6, 6, 6, 6, 36, 100, 5, 50, 50, 50, 50, 50, 500, 101, 19, 9, 6, 6, 6, 6, 6, 6, 6, 6, 100, 12, 12, 36, 6, 6, 6, 6, 6, 6, 6, 6, 6, 6, 6, 6, 6, 36, 12, 12, 20, 6, 6, 360, 60] : List Nat).getD s 0
def am_nv (s : Nat) : Nat := ([1, 4, 4, 4, 4, 4, 4, 4, 4, 1, 1, 5, 5, 5, 5, 5, 5, 5, 5, 1, 1, 1, 1, 1, 1, 1, 1, 1, 1, 1, 1, 1, 6, 6, 0, 0, 0, 0, 0, 0, 1, 1, 1, 1, 1, 1, 1, 1, 1, 1, 1, 1, 1, 1, 1, 1, 1, 1, 1, 1, 1, 1, 1, 1, 1, 1, 1, 1, 1, 1, 1, 1, 1, 1, 1, 1, 1, 1, 1, 1, 1, 1, 1, 1, 1, 1, 1, 1, 1, 1, 1, 1, 1, 1] : List Nat).getD s 0
def am_nh (s : Nat) : Nat := ([1, 1, 1, 6, 1, 6, 1, 1, 1, 1, 1, 1, 1, 1, 1, 1, 1, 1, 1, 1, 1, 1, 1, 1, 1, 1, 1, 6, 1, 1, 1, 1, 1, 1, 0, 0, 0, 0, 0, 0, 1, 1, 1, 1, 1, 1, 1, 1, 1, 1, 1, 1, 1, 1, 1, 1, 1, 1, 1, 1, 1, 1, 1, 1, 1, 1, 1, 1, 1, 1, 1, 1, 1, 1, 1, 1, 1, 1, 1, 1, 1, 1, 1, 1, 1, 1, 1, 1, 1, 1, 1, 1, 1, 1] : List Nat).getD s 0
def am_vb (v : Nat) : Nat := if v < 3 then 1 + 18 * v else 72
def am_ix (q : Key) : Nat := match q with
  | (0, _, _) => 0
  | (1, v, _) => am_vb v
  | (2, v, _) => am_vb v + 1
  | (3, v, h) => am_vb v + 12 + h
  | (4, v, _) => am_vb v + 2
  | (5, v, h) => am_vb v + 3 + h
  | (6, v, _) => am_vb v + 9
  | (7, v, _) => am_vb v + 10
  | (8, v, _) => am_vb v + 11
  | (27, _, h) => 65 + h
  | (s, v, _) => if s < 11 then 46 + s else if s < 19 then 93 + 8 * v + (s - 11) else if s < 27 then (if s = 19 then 57 else 38 + s) else if s < 29 then 71 else if s < 32 then 61 + s else if s < 40 then 101 + s + 2 * v else s - 40
def kC : List Key := [(0, 0, 0), (1, 0, 0), (2, 0, 0), (4, 0, 0), (5, 0, 0), (5, 0, 1), (5, 0, 2), (5, 0, 3), (5, 0, 4), (5, 0, 5), (6, 0, 0), (7, 0, 0), (8, 0, 0), (3, 0, 0), (3, 0, 1), (3, 0, 2), (3, 0, 3), (3, 0, 4), (3, 0, 5), (1, 1, 0), (2, 1, 0), (4, 1, 0), (5, 1, 0), (5, 1, 1), (5, 1, 2), (5, 1, 3), (5, 1, 4), (5, 1, 5), (6, 1, 0), (7, 1, 0), (8, 1, 0), (3, 1, 0), (3, 1, 1), (3, 1, 2), (3, 1, 3), (3, 1, 4), (3, 1, 5), (1, 2, 0), (2, 2, 0), (4, 2, 0), (5, 2, 0), (5, 2, 1), (5, 2, 2), (5, 2, 3), (5, 2, 4), (5, 2, 5), (6, 2, 0), (7, 2, 0), (8, 2, 0), (3, 2, 0), (3, 2, 1), (3, 2, 2), (3, 2, 3), (3, 2, 4), (3, 2, 5), (9, 0, 0), (10, 0, 0), (19, 0, 0), (20, 0, 0), (21, 0, 0), (22, 0, 0), (23, 0, 0), (24, 0, 0), (25, 0, 0), (26, 0, 0), (27, 0, 0), (27, 0, 1), (27, 0, 2), (27, 0, 3), (27, 0, 4), (27, 0, 5), (28, 0, 0), (1, 3, 0), (2, 3, 0), (4, 3, 0), (5, 3, 0), (5, 3, 1), (5, 3, 2), (5, 3, 3), (5, 3, 4), (5, 3, 5), (6, 3, 0), (7, 3, 0), (8, 3, 0), (3, 3, 0), (3, 3, 1), (3, 3, 2), (3, 3, 3), (3, 3, 4), (3, 3, 5), (29, 0, 0), (30, 0, 0), (31, 0, 0), (11, 0, 0), (12, 0, 0), (13, 0, 0), (14, 0, 0), (15, 0, 0), (16, 0, 0), (17, 0, 0), (18, 0, 0), (11, 1, 0), (12, 1, 0), (13, 1, 0), (14, 1, 0), (15, 1, 0), (16, 1, 0), (17, 1, 0), (18, 1, 0), (11, 2, 0), (12, 2, 0), (13, 2, 0), (14, 2, 0), (15, 2, 0), (16, 2, 0), (17, 2, 0), (18, 2, 0), (11, 3, 0), (12, 3, 0), (13, 3, 0), (14, 3, 0), (15, 3, 0), (16, 3, 0), (17, 3, 0), (18, 3, 0), (11, 4, 0), (12, 4, 0), (13, 4, 0), (14, 4, 0), (15, 4, 0), (16, 4, 0), (17, 4, 0), (18, 4, 0), (32, 0, 0), (33, 0, 0), (32, 1, 0), (33, 1, 0), (32, 2, 0), (33, 2, 0), (32, 3, 0), (33, 3, 0), (32, 4, 0), (33, 4, 0), (32, 5, 0), (33, 5, 0)]
def kM : List Key := [(40, 0, 0), (41, 0, 0), (42, 0, 0), (43, 0, 0), (44, 0, 0), (45, 0, 0), (46, 0, 0), (47, 0, 0), (48, 0, 0), (49, 0, 0), (50, 0, 0), (51, 0, 0), (52, 0, 0), (53, 0, 0), (54, 0, 0), (55, 0, 0), (56, 0, 0), (57, 0, 0), (58, 0, 0), (59, 0, 0), (60, 0, 0), (61, 0, 0), (62, 0, 0), (63, 0, 0), (64, 0, 0), (65, 0, 0), (66, 0, 0), (67, 0, 0), (68, 0, 0), (69, 0, 0), (70, 0, 0), (71, 0, 0), (72, 0, 0), (73, 0, 0), (74, 0, 0), (75, 0, 0), (76, 0, 0), (77, 0, 0), (78, 0, 0), (79, 0, 0), (80, 0, 0), (81, 0, 0), (82, 0, 0), (83, 0, 0), (84, 0, 0), (85, 0, 0), (86, 0, 0), (87, 0, 0), (88, 0, 0), (89, 0, 0), (90, 0, 0), (91, 0, 0), (92, 0, 0), (93, 0, 0)]
def am_ty : Nat → Nat → FieldType
  | 0 => tyX0 | 1 => tyX1 | 2 => tyX2 | 3 => tyX3 | 4 => tyX4 | 5 => tyX5 | 6 => tyX6 | 7 => tyX7 | 8 => tyX8 | 9 => tyX9 | _ => tyX10
def am_ft (c k : Nat) : Nat := match am_ty c k with
  | .long => 1
  | .object _ => 2
  | .array _ => 2
  | _ => 0
def am_rv (b : Nat) (q : Option Key) : Value := va_rf (q.map (fun q => b + am_ix q))
def am_cv (b : Nat) : AV → Value
  | .inl x => .int x
  | .inr (.inl y) => .long y
  | .inr (.inr q) => am_rv b q
def am_fv (b : Nat) (M : AM) (q : Key) (k : Nat) : Value := match am_ft (am_kd q.1) k with
  | 0 => .int (M.1 q k)
  | 1 => .long (M.2.1 q k)
  | _ => am_rv b (M.2.2 q k)
def am_ce (b : Nat) (cT : Nat → ClassId) (M : AM) (q : Key) : va_E :=
  if am_kd q.1 < 11 then .inr (am_kd q.1, (List.range (am_ln q.1)).map (am_fv b M q))
  else if am_kd q.1 = 12 then .inl (cT 12, am_ln q.1, .inr (.inl (M.2.1 q)))
  else if am_kd q.1 < 14 then .inl (cT (am_kd q.1), am_ln q.1, .inl (M.1 q))
  else .inl (cT (am_kd q.1), am_ln q.1, .inr (.inr (.inr (.inr (fun i => (M.2.2 q i).map (fun q => b + am_ix q))))))
def am_w (b : Nat) (cT : Nat → ClassId) (ks : List Key) (M : AM) : va_W := ks.map (fun q => (b + am_ix q, am_ce b cT M q))
def am_tys (cT : Nat → ClassId) : List (ClassId × FieldType) := [(cT 11, .int), (cT 12, .long), (cT 13, .boolean), (cT 14, .object RX2), (cT 15, .object RX3), (cT 16, .object RX7), (cT 17, .array .int)]
/-- the words of the tables that any call may take along -/
def Wd : List Cond := lw_tbl.filter goodWord
theorem Wd_of {w : Cond} (h : w ∈ lw_tbl) (g : goodWord w = true) : w ∈ Wd := List.mem_filter.mpr ⟨h, g⟩
theorem Wd_good {w : Cond} (h : w ∈ Wd) : (w.onTables && w.keeps) = true ∨ ∃ ty, w = .arrayClass ty := good_of_word (List.mem_filter.mp h).2
/-- a method: its name, code, locals, answer -/
abbrev MD : Type := MethodName × ByteArray × Nat × Option FieldType
def am_rm (d mc ms : Nat) : Room := { frames := d, cells := mc, slots := ms, locals := 40 * d }
def am_X0 (md : MD) (p : Program) (s : State) (m : MethodId) (args : Array Value) (meth : Method) (c : Code) : Prop :=
  p.tables.exec = Jvm.exec ∧ c.code = md.2.1 ∧ meth.sig.returnType = md.2.2.2 ∧ (∀ w ∈ Wd, w.before args s = true) ∧ s.vm.findClass md.1.cls = some m.cls ∧ meth.locks = false ∧ c.maxLocals = md.2.2.1 ∧ meth.name = md.1.name
def am_X1 (b : Nat) (D : va_G) (cT : Nat → ClassId) (A : Nat → Prop) (al : Bool) (ks : List Key) (M : AM) (s : State) (H : Heap) (locs : List Loc) : Prop :=
  va_P D vwCl (am_w b cT ks M) H ∧ va_D A (am_w b cT ks M) ∧ va_K D vwCl (am_tys cT) s ∧ va_S A s.heap H locs ∧ (∀ q, s.heap.size ≤ q → A q) ∧ (al = true → H.size = b + ks.length)
def am_Q (b : Nat) (D : va_G) (cT : Nat → ClassId) (A : Nat → Prop) (al : Bool) (r : Option AV) (ks : List Key) (M : AM) : Array Value → State → Outcome → State → Prop := fun _ st o t =>
  (o = .returned (r.map (am_cv b)) ∧ va_P D vwCl (am_w b cT ks M) t.heap ∧ va_K D vwCl (am_tys cT) t ∧ va_D A (am_w b cT ks M) ∧ (al = true → t.heap.size = b + ks.length)) ∧ va_F A st t
def am_lv (b : Nat) : Nat → List (Option AV) → List (Nat × Value)
  | _, [] => []
  | i, none :: L => am_lv b (i + 1) L
  | i, some a :: L => (i, am_cv b a) :: am_lv b (i + 1) L
/-- from here the method comes to its end with answer T.1, keys T.2.1, memory T.2.2 -/
def X (l : Launch) (md : MD) (d mc ms : Nat) (al : Bool) (T : Option AV × List Key × AM) (ks : List Key) (kc kn : Nat) (pc : Nat) (L : List (Option AV)) (st : List AV) (M : AM) : Prop :=
  ∀ (p : Program) (e : Env) (s : State) (m : MethodId) (args : Array Value) (below : List Frame) (meth : Method) (c : Code) (H : Heap) (locs : List Loc) (b : Nat) (D : va_G) (cT : Nat → ClassId) (A : Nat → Prop) (ls : Array Slot),
    am_X0 md p s m args meth c → am_X1 b D cT A al ks M s H locs → lv_has ls md.2.2.1 (am_lv b 0 L) →
    W p l e (am_rm d mc ms) s m args below meth c H locs kc kn (MQ below (am_Q b D cT A al T.1 T.2.1 T.2.2) args s mc ms A) (F0 m pc ls (st.map (am_cv b)))
def Ev (l : Launch) (md : MD) (d mc ms : Nat) (al : Bool) (as : List AV) (ks : List Key) (M : AM) (T : Option AV × List Key × AM) : Prop :=
  ∀ (b : Nat) (D : va_G) (cT : Nat → ClassId) (sz : Nat), Met l md.1 (Cond.code md.1 md.2.1 md.2.2.1 md.2.2.2 :: Wd) (am_rm d mc ms)
    (va_Pc (as.map (am_cv b)) (fun U => U.heap.size = sz ∧ va_P D vwCl (am_w b cT ks M) U.heap ∧ va_K D vwCl (am_tys cT) U ∧ va_D (fun _ => True) (am_w b cT ks M) ∧ (al = true → U.heap.size = b + ks.length)))
    (am_Q b D cT (va_A (am_w b cT ks M) sz) al T.1 T.2.1 T.2.2) mc ms (va_A (am_w b cT ks M) sz)
/-- the locals at a method's entry -/
def am_args : List AV → List (Option AV)
  | [] => []
  | .inr (.inl y) :: as => some (vJ y) :: none :: am_args as
  | a :: as => some a :: am_args as
def am_entry (as : List AV) (n : Nat) : List (Option AV) := am_args as ++ List.replicate (n - (am_args as).length) none
theorem am_rv_cat (b : Nat) (q : Option Key) : (am_rv b q).category = 1 := by cases q <;> rfl
theorem am_lv_app (b : Nat) : ∀ (L1 L2 : List (Option AV)) (i : Nat), am_lv b i (L1 ++ L2) = am_lv b i L1 ++ am_lv b (i + L1.length) L2
  | [], L2, i => by simp [am_lv]
  | none :: L1, L2, i => by
    simp only [List.cons_append, am_lv, List.length_cons]
    rw [am_lv_app b L1 L2 (i + 1), show i + 1 + L1.length = i + (L1.length + 1) by omega]
  | some a :: L1, L2, i => by
    simp only [List.cons_append, am_lv, List.length_cons]
    rw [am_lv_app b L1 L2 (i + 1), show i + 1 + L1.length = i + (L1.length + 1) by omega]
theorem am_lv_none (b : Nat) : ∀ (n i : Nat), am_lv b i (List.replicate n none) = []
  | 0, _ => rfl
  | n + 1, i => by
    rw [List.replicate_succ]
    exact am_lv_none b n (i + 1)
theorem am_lv_args (b : Nat) : ∀ (as : List AV) (i : Nat), am_lv b i (am_args as) = lv_args i (as.map (am_cv b))
  | [], _ => rfl
  | .inl x :: as, i => by
    show (i, Value.int x) :: am_lv b (i + 1) (am_args as) = _
    rw [am_lv_args b as (i + 1)]
    rfl
  | .inr (.inl y) :: as, i => by
    show (i, Value.long y) :: am_lv b (i + 2) (am_args as) = _
    rw [am_lv_args b as (i + 2)]
    rfl
  | .inr (.inr q) :: as, i => by
    show (i, am_rv b q) :: am_lv b (i + 1) (am_args as) = _
    rw [am_lv_args b as (i + 1)]
    show _ = (i, am_rv b q) :: lv_args (if (am_rv b q).category = 2 then i + 2 else i + 1) _
    rw [am_rv_cat]
    rfl
theorem am_args_len (b : Nat) : ∀ (as : List AV), (lg_sl (as.map (am_cv b))).length = (am_args as).length
  | [] => rfl
  | .inl x :: as => by
    show (lg_sl (as.map (am_cv b))).length + 1 = _
    rw [am_args_len b as]
    rfl
  | .inr (.inl y) :: as => by
    show (lg_sl (as.map (am_cv b))).length + 2 = _
    rw [am_args_len b as]
    rfl
  | .inr (.inr q) :: as => by
    show (lg_sl (am_rv b q :: as.map (am_cv b))).length = (am_args as).length + 1
    rw [← am_args_len b as]
    simp [lg_sl, am_rv_cat]
theorem am_entry_has (b : Nat) (as : List AV) (n : Nat) (h : (am_args as).length ≤ n) : lv_has ((lg_sl (as.map (am_cv b)) ++ List.replicate (n - (lg_sl (as.map (am_cv b))).length) Slot.unset).toArray) n (am_lv b 0 (am_entry as n)) := by
  have h1 := lv_entry (as.map (am_cv b)) (n := n) (by rw [am_args_len]; exact h)
  unfold am_entry
  rw [am_lv_app, am_lv_none, List.append_nil, am_lv_args]
  exact h1
set_option maxHeartbeats 4000000 in
theorem Ev_of {l : Launch} {md : MD} {d mc ms : Nat} {al : Bool} {as : List AV} {ks : List Key} {M : AM} {T : Option AV × List Key × AM} (hy : plainName md.1.cls = true) (hn : (am_args as).length ≤ md.2.2.1)
    (h : X l md d mc ms al T ks 0 0 0 (am_entry as md.2.2.1) [] M) : Ev l md d mc ms al as ks M T := by
  intro b D cT sz
  refine Met.ofW (cc := md.2.1) (maxL := md.2.2.1) (ret := md.2.2.2) hy rfl ?_
  intro p e s m args below meth c s₁ B hml hv
  obtain ⟨rfl, hsz, hP, hK, hD0, hal⟩ := hv
  have hx := B.exec
  have hb := B.bytes
  have hr := B.returns
  have hts := atoms_spec (ws := Cond.code md.1 md.2.1 md.2.2.1 md.2.2.2 :: Wd) B.pre
  have hown : s.vm.findClass md.1.cls = some m.cls := findClass_of_methodNamed B.named
  have hin : meth.name = md.1.name := (name_of_methodNamed B.named B.method).1
  subst hsz
  have hD := hD0.self (sz := s.heap.size)
  rw [lg_entry_eq]
  exact h p e s m _ below meth c s.heap [] b D cT _ _ ⟨hx, hb, hr, fun w hw => hts w (List.mem_cons_of_mem _ hw), hown, B.notSynchronized, hml, hin⟩ ⟨hP, hD, hK, va_S.rf, fun q h => Or.inr h, hal⟩ (am_entry_has b as _ hn)
end
section
/-! RULES of the layer: an instruction each -/
section RU
variable {l : Launch} {md : MD} {d mc ms : Nat} {al : Bool} {T : Option AV × List Key × AM} {ks : List Key} {kc kn pc : Nat} {L L' : List (Option AV)} {st : List AV} {M : AM}
theorem am_lv_get (b : Nat) : ∀ (L : List (Option AV)) (i j : Nat) (a : AV), L[i]? = some (some a) → (j + i, am_cv b a) ∈ am_lv b j L
  | [], i, j, a, h => by simp at h
  | none :: L, 0, j, a, h => by simp at h
  | none :: L, i + 1, j, a, h => by
    have := am_lv_get b L i (j + 1) a (by simpa using h)
    rw [show j + (i + 1) = j + 1 + i by omega]
    exact this
  | some x :: L, 0, j, a, h => by
    simp at h
    subst h
    exact List.mem_cons_self
  | some x :: L, i + 1, j, a, h => by
    have := am_lv_get b L i (j + 1) a (by simpa using h)
    rw [show j + (i + 1) = j + 1 + i by omega]
    exact List.mem_cons_of_mem _ this
theorem am_lv_of (b : Nat) : ∀ (L : List (Option AV)) (j : Nat) (q : Nat × Value), q ∈ am_lv b j L → ∃ i a, L[i]? = some (some a) ∧ q = (j + i, am_cv b a)
  | [], j, q, h => by cases h
  | none :: L, j, q, h => by
    obtain ⟨i, a, h1, h2⟩ := am_lv_of b L (j + 1) q h
    exact ⟨i + 1, a, by simpa using h1, by rw [h2, show j + (i + 1) = j + 1 + i by omega]⟩
  | some x :: L, j, q, h => by
    rcases List.mem_cons.mp h with h | h
    · exact ⟨0, x, rfl, h⟩
    · obtain ⟨i, a, h1, h2⟩ := am_lv_of b L (j + 1) q h
      exact ⟨i + 1, a, by simpa using h1, by rw [h2, show j + (i + 1) = j + 1 + i by omega]⟩
theorem am_lv_at {b : Nat} {ls : Array Slot} {n : Nat} (h : lv_has ls n (am_lv b 0 L)) {i : Nat} {a : AV} (hi : L[i]? = some (some a)) : ls[i]? = some (.val (am_cv b a)) := by
  have h1 := h.2.2 _ (am_lv_get b L i 0 a hi)
  simpa using h1
def am_cat : AV → Nat
  | .inr (.inl _) => 2
  | _ => 1
theorem am_cat_eq (b : Nat) (a : AV) : (am_cv b a).category = am_cat a := by
  rcases a with x | y | q
  · rfl
  · rfl
  · exact am_rv_cat b q
theorem am_cat_sum (b : Nat) (st : List AV) : ((st.map (am_cv b)).map fun v => v.category) = st.map am_cat := by
  rw [List.map_map]
  exact List.map_congr_left (fun a _ => am_cat_eq b a)
/-- a store to one local -/
def am_st1 (L : List (Option AV)) (i : Nat) (a : AV) : Option (List (Option AV)) := match i with
  | 0 => some (L.set 0 (some a))
  | j + 1 => match L[j]? with
    | some (some (.inr (.inl _))) => none
    | _ => some (L.set (j + 1) (some a))
def am_st2 (L : List (Option AV)) (i : Nat) (a : AV) : Option (List (Option AV)) := (am_st1 L i a).map (fun L => L.set (i + 1) none)
theorem am_st1_of {i : Nat} {a : AV} (h : am_st1 L i a = some L') : L' = L.set i (some a) ∧ ∀ j : Nat, j + 1 = i → ∀ y, L[j]? ≠ some (some (.inr (.inl y))) := by
  cases i with
  | zero =>
    simp [am_st1] at h
    exact ⟨h.symm, fun j hj => by omega⟩
  | succ j =>
    unfold am_st1 at h
    dsimp only at h
    split at h
    · cases h
    · next hne =>
      cases h
      refine ⟨rfl, fun k hk y hy => ?_⟩
      have : k = j := by omega
      subst this
      exact hne y hy
theorem am_lv_st1 {b : Nat} {ls : Array Slot} {n i : Nat} {a : AV} (hst : am_st1 L i a = some L') {v : Value} (hv : v = am_cv b a)
    (h : lv_has ls n ((i, v) :: (am_lv b 0 L).filter (fun q => !(q.1 == i) && !(q.1 + 1 == i && q.2.category == 2)))) : lv_has ls n (am_lv b 0 L') := by
  obtain ⟨rfl, hno⟩ := am_st1_of hst
  refine ⟨h.1, h.2.1, fun q hq => ?_⟩
  obtain ⟨k, a2, h1, h2⟩ := am_lv_of b _ 0 q hq
  rw [Nat.zero_add] at h2
  by_cases hk : k = i
  · subst hk
    have hl : k < L.length := by
      have := (List.getElem?_eq_some_iff.mp h1).1
      simpa using this
    rw [List.getElem?_set_self hl] at h1
    have e : a2 = a := by cases h1; rfl
    rw [h2, e, ← hv]
    exact h.2.2 _ List.mem_cons_self
  · rw [List.getElem?_set_ne (Ne.symm hk)] at h1
    refine h.2.2 q (List.mem_cons_of_mem _ (List.mem_filter.mpr ⟨?_, ?_⟩))
    · rw [h2]
      have := am_lv_get b L k 0 a2 h1
      simpa using this
    · rw [h2]
      dsimp only
      have e1 : (k == i) = false := by simpa using hk
      rw [e1, am_cat_eq]
      by_cases hk2 : k + 1 = i
      · rcases a2 with x | y | z
        · simp [am_cat]
        · exact absurd h1 (hno k hk2 y)
        · simp [am_cat]
      · have e2 : (k + 1 == i) = false := by simpa using hk2
        rw [e2]
        rfl
theorem am_lv_st2 {b : Nat} {ls : Array Slot} {n i : Nat} {a : AV} (hst : am_st2 L i a = some L') {v : Value} (hv : v = am_cv b a)
    (h : lv_has ls n ((i, v) :: (am_lv b 0 L).filter (fun q => !(q.1 == i) && (!(q.1 == i + 1) && !(q.1 + 1 == i && q.2.category == 2))))) : lv_has ls n (am_lv b 0 L') := by
  obtain ⟨L1, hst1, hL1⟩ : ∃ L1, am_st1 L i a = some L1 ∧ L1.set (i + 1) none = L' := by
    unfold am_st2 at hst
    cases h9 : am_st1 L i a with
    | none => rw [h9] at hst; cases hst
    | some L1 => rw [h9] at hst; exact ⟨L1, rfl, Option.some.inj hst⟩
  obtain ⟨rfl, hno⟩ := am_st1_of hst1
  subst hL1
  refine ⟨h.1, h.2.1, fun q hq => ?_⟩
  obtain ⟨k, a2, h1, h2⟩ := am_lv_of b _ 0 q hq
  rw [Nat.zero_add] at h2
  by_cases hk1 : k = i + 1
  · subst hk1
    rw [List.getElem?_set] at h1
    simp at h1
  · rw [List.getElem?_set_ne (Ne.symm hk1)] at h1
    by_cases hk : k = i
    · subst hk
      have hl : k < L.length := by
        have := (List.getElem?_eq_some_iff.mp h1).1
        simpa using this
      rw [List.getElem?_set_self hl] at h1
      have e : a2 = a := by cases h1; rfl
      rw [h2, e, ← hv]
      exact h.2.2 _ List.mem_cons_self
    · rw [List.getElem?_set_ne (Ne.symm hk)] at h1
      refine h.2.2 q (List.mem_cons_of_mem _ (List.mem_filter.mpr ⟨?_, ?_⟩))
      · rw [h2]
        have := am_lv_get b L k 0 a2 h1
        simpa using this
      · rw [h2]
        dsimp only
        have e1 : (k == i) = false := by simpa using hk
        have e3 : (k == i + 1) = false := by simpa using hk1
        rw [e1, e3, am_cat_eq]
        by_cases hk2 : k + 1 = i
        · rcases a2 with x | y | z
          · simp [am_cat]
          · exact absurd h1 (hno k hk2 y)
          · simp [am_cat]
        · have e2 : (k + 1 == i) = false := by simpa using hk2
          rw [e2]
          rfl
theorem r_iconst {n : Int} {v : Int32} (hd : decode md.2.1 pc = .ok (.iconst n, 1)) (hv : Int32.ofInt n = v) (k : X l md d mc ms al T ks kc kn (pc + 1) L (vI v :: st) M) : X l md d mc ms al T ks kc kn pc L st M := fun p e s m args below meth c H locs b D cT A ls h0 h1 hl => lv_iconst h0.1 h0.2.1 hd hv (k p e s m args below meth c H locs b D cT A ls h0 h1 hl)
theorem r_bipush {n : Int} {v : Int32} (hd : decode md.2.1 pc = .ok (.bipush n, 2)) (hv : (Int8.ofInt n).toInt32 = v) (k : X l md d mc ms al T ks kc kn (pc + 2) L (vI v :: st) M) : X l md d mc ms al T ks kc kn pc L st M := fun p e s m args below meth c H locs b D cT A ls h0 h1 hl => lv_bipush h0.1 h0.2.1 hd hv (k p e s m args below meth c H locs b D cT A ls h0 h1 hl)
theorem r_sipush {n : Int} {v : Int32} (hd : decode md.2.1 pc = .ok (.sipush n, 3)) (hv : (Int16.ofInt n).toInt32 = v) (k : X l md d mc ms al T ks kc kn (pc + 3) L (vI v :: st) M) : X l md d mc ms al T ks kc kn pc L st M := fun p e s m args below meth c H locs b D cT A ls h0 h1 hl => lv_sipush h0.1 h0.2.1 hd hv (k p e s m args below meth c H locs b D cT A ls h0 h1 hl)
theorem r_lconst {n : Fin 2} {v : Int64} (hd : decode md.2.1 pc = .ok (.lconst n, 1)) (hv : Int64.ofNat (n : Nat) = v) (k : X l md d mc ms al T ks kc kn (pc + 1) L (vJ v :: st) M) : X l md d mc ms al T ks kc kn pc L st M := fun p e s m args below meth c H locs b D cT A ls h0 h1 hl => lv_lconst h0.1 h0.2.1 hd hv (k p e s m args below meth c H locs b D cT A ls h0 h1 hl)
theorem r_ldc {i : Nat} {v : Int32} (hd : decode md.2.1 pc = .ok (.ldc i, 2)) (hc : Cond.constant md.1.cls i v ∈ Wd) (k : X l md d mc ms al T ks kc kn (pc + 2) L (vI v :: st) M) : X l md d mc ms al T ks kc kn pc L st M := fun p e s m args below meth c H locs b D cT A ls h0 h1 hl => lv_ldc h0.1 h0.2.1 h0.2.2.2.2.1 (h0.2.2.2.1 _ hc) hd (k p e s m args below meth c H locs b D cT A ls h0 h1 hl)
theorem r_ldcw {i : Nat} {v : Int32} (hd : decode md.2.1 pc = .ok (.ldc_w i, 3)) (hc : Cond.constant md.1.cls i v ∈ Wd) (k : X l md d mc ms al T ks kc kn (pc + 3) L (vI v :: st) M) : X l md d mc ms al T ks kc kn pc L st M := fun p e s m args below meth c H locs b D cT A ls h0 h1 hl => lv_ldcw h0.1 h0.2.1 h0.2.2.2.2.1 (h0.2.2.2.1 _ hc) hd (k p e s m args below meth c H locs b D cT A ls h0 h1 hl)
theorem r_ldc2 {i : Nat} {v : Int64} (hd : decode md.2.1 pc = .ok (.ldc2_w i, 3)) (hc : Cond.constantLong md.1.cls i v ∈ Wd) (k : X l md d mc ms al T ks kc kn (pc + 3) L (vJ v :: st) M) : X l md d mc ms al T ks kc kn pc L st M := fun p e s m args below meth c H locs b D cT A ls h0 h1 hl => lv_ldc2 h0.1 h0.2.1 h0.2.2.2.2.1 (h0.2.2.2.1 _ hc) hd (k p e s m args below meth c H locs b D cT A ls h0 h1 hl)
theorem r_iload_n {i : Fin 4} {x : Int32} (hd : decode md.2.1 pc = .ok (.iload_n i, 1)) (hi : L[(i : Nat)]? = some (some (vI x))) (k : X l md d mc ms al T ks kc kn (pc + 1) L (vI x :: st) M) : X l md d mc ms al T ks kc kn pc L st M := fun p e s m args below meth c H locs b D cT A ls h0 h1 hl => lv_iload_n h0.1 h0.2.1 hd rfl (am_lv_at hl hi) (k p e s m args below meth c H locs b D cT A ls h0 h1 hl)
theorem r_iload {i : Nat} {x : Int32} (hd : decode md.2.1 pc = .ok (.iload i, 2)) (hi : L[i]? = some (some (vI x))) (k : X l md d mc ms al T ks kc kn (pc + 2) L (vI x :: st) M) : X l md d mc ms al T ks kc kn pc L st M := fun p e s m args below meth c H locs b D cT A ls h0 h1 hl => lv_iload h0.1 h0.2.1 hd (am_lv_at hl hi) (k p e s m args below meth c H locs b D cT A ls h0 h1 hl)
theorem r_lload_n {i : Fin 4} {x : Int64} (hd : decode md.2.1 pc = .ok (.lload_n i, 1)) (hi : L[(i : Nat)]? = some (some (vJ x))) (k : X l md d mc ms al T ks kc kn (pc + 1) L (vJ x :: st) M) : X l md d mc ms al T ks kc kn pc L st M := fun p e s m args below meth c H locs b D cT A ls h0 h1 hl => lv_lload_n h0.1 h0.2.1 hd rfl (am_lv_at hl hi) (k p e s m args below meth c H locs b D cT A ls h0 h1 hl)
theorem r_lload {i : Nat} {x : Int64} (hd : decode md.2.1 pc = .ok (.lload i, 2)) (hi : L[i]? = some (some (vJ x))) (k : X l md d mc ms al T ks kc kn (pc + 2) L (vJ x :: st) M) : X l md d mc ms al T ks kc kn pc L st M := fun p e s m args below meth c H locs b D cT A ls h0 h1 hl => lv_lload h0.1 h0.2.1 hd (am_lv_at hl hi) (k p e s m args below meth c H locs b D cT A ls h0 h1 hl)
theorem r_aload_n {i : Fin 4} {x : Key} (hd : decode md.2.1 pc = .ok (.aload_n i, 1)) (hi : L[(i : Nat)]? = some (some (vR x))) (k : X l md d mc ms al T ks kc kn (pc + 1) L (vR x :: st) M) : X l md d mc ms al T ks kc kn pc L st M := fun p e s m args below meth c H locs b D cT A ls h0 h1 hl => lv_aload_n h0.1 h0.2.1 hd rfl (am_lv_at hl hi) (k p e s m args below meth c H locs b D cT A ls h0 h1 hl)
theorem r_aload {i : Nat} {x : Key} (hd : decode md.2.1 pc = .ok (.aload i, 2)) (hi : L[i]? = some (some (vR x))) (k : X l md d mc ms al T ks kc kn (pc + 2) L (vR x :: st) M) : X l md d mc ms al T ks kc kn pc L st M := fun p e s m args below meth c H locs b D cT A ls h0 h1 hl => lv_aload h0.1 h0.2.1 hd (am_lv_at hl hi) (k p e s m args below meth c H locs b D cT A ls h0 h1 hl)
theorem r_istore_n {i : Fin 4} {x : Int32} (hd : decode md.2.1 pc = .ok (.istore_n i, 1)) (hn : (i : Nat) < md.2.2.1) (hs : am_st1 L (i : Nat) (vI x) = some L') (k : X l md d mc ms al T ks kc kn (pc + 1) L' st M) : X l md d mc ms al T ks kc kn pc L (vI x :: st) M := fun p e s m args below meth c H locs b D cT A ls h0 h1 hl => lv_istore_n h0.1 h0.2.1 hd rfl hl hn rfl (fun ls' hl' => k p e s m args below meth c H locs b D cT A ls' h0 h1 (am_lv_st1 hs rfl hl'))
theorem r_istore {i : Nat} {x : Int32} (hd : decode md.2.1 pc = .ok (.istore i, 2)) (hn : i < md.2.2.1) (hs : am_st1 L i (vI x) = some L') (k : X l md d mc ms al T ks kc kn (pc + 2) L' st M) : X l md d mc ms al T ks kc kn pc L (vI x :: st) M := fun p e s m args below meth c H locs b D cT A ls h0 h1 hl => lv_istore h0.1 h0.2.1 hd hl hn rfl (fun ls' hl' => k p e s m args below meth c H locs b D cT A ls' h0 h1 (am_lv_st1 hs rfl hl'))
theorem r_lstore_n {i : Fin 4} {x : Int64} (hd : decode md.2.1 pc = .ok (.lstore_n i, 1)) (hn : (i : Nat) + 1 < md.2.2.1) (hs : am_st2 L (i : Nat) (vJ x) = some L') (k : X l md d mc ms al T ks kc kn (pc + 1) L' st M) : X l md d mc ms al T ks kc kn pc L (vJ x :: st) M := fun p e s m args below meth c H locs b D cT A ls h0 h1 hl => lv_lstore_n h0.1 h0.2.1 hd rfl hl hn rfl (fun ls' hl' => k p e s m args below meth c H locs b D cT A ls' h0 h1 (am_lv_st2 hs rfl hl'))
theorem r_lstore {i : Nat} {x : Int64} (hd : decode md.2.1 pc = .ok (.lstore i, 2)) (hn : i + 1 < md.2.2.1) (hs : am_st2 L i (vJ x) = some L') (k : X l md d mc ms al T ks kc kn (pc + 2) L' st M) : X l md d mc ms al T ks kc kn pc L (vJ x :: st) M := fun p e s m args below meth c H locs b D cT A ls h0 h1 hl => lv_lstore h0.1 h0.2.1 hd hl hn rfl (fun ls' hl' => k p e s m args below meth c H locs b D cT A ls' h0 h1 (am_lv_st2 hs rfl hl'))
theorem r_astore_n {i : Fin 4} {x : Key} (hd : decode md.2.1 pc = .ok (.astore_n i, 1)) (hn : (i : Nat) < md.2.2.1) (hs : am_st1 L (i : Nat) (vR x) = some L') (k : X l md d mc ms al T ks kc kn (pc + 1) L' st M) : X l md d mc ms al T ks kc kn pc L (vR x :: st) M := fun p e s m args below meth c H locs b D cT A ls h0 h1 hl => lv_astore_n h0.1 h0.2.1 hd rfl hl hn rfl (fun ls' hl' => k p e s m args below meth c H locs b D cT A ls' h0 h1 (am_lv_st1 hs rfl hl'))
theorem r_astore {i : Nat} {x : Key} (hd : decode md.2.1 pc = .ok (.astore i, 2)) (hn : i < md.2.2.1) (hs : am_st1 L i (vR x) = some L') (k : X l md d mc ms al T ks kc kn (pc + 2) L' st M) : X l md d mc ms al T ks kc kn pc L (vR x :: st) M := fun p e s m args below meth c H locs b D cT A ls h0 h1 hl => lv_astore h0.1 h0.2.1 hd hl hn rfl (fun ls' hl' => k p e s m args below meth c H locs b D cT A ls' h0 h1 (am_lv_st1 hs rfl hl'))
theorem r_iadd {x y : Int32} (hd : decode md.2.1 pc = .ok (.iadd, 1))  (k : X l md d mc ms al T ks kc kn (pc + 1) L (vI (x + y) :: st) M) : X l md d mc ms al T ks kc kn pc L (vI y :: vI x :: st) M := fun p e s m args below meth c H locs b D cT A ls h0 h1 hl => lv_iadd h0.1 h0.2.1 hd  (k p e s m args below meth c H locs b D cT A ls h0 h1 hl)
theorem r_isub {x y : Int32} (hd : decode md.2.1 pc = .ok (.isub, 1))  (k : X l md d mc ms al T ks kc kn (pc + 1) L (vI (x - y) :: st) M) : X l md d mc ms al T ks kc kn pc L (vI y :: vI x :: st) M := fun p e s m args below meth c H locs b D cT A ls h0 h1 hl => lv_isub h0.1 h0.2.1 hd  (k p e s m args below meth c H locs b D cT A ls h0 h1 hl)
theorem r_imul {x y : Int32} (hd : decode md.2.1 pc = .ok (.imul, 1))  (k : X l md d mc ms al T ks kc kn (pc + 1) L (vI (x * y) :: st) M) : X l md d mc ms al T ks kc kn pc L (vI y :: vI x :: st) M := fun p e s m args below meth c H locs b D cT A ls h0 h1 hl => lv_imul h0.1 h0.2.1 hd  (k p e s m args below meth c H locs b D cT A ls h0 h1 hl)
theorem r_iand {x y : Int32} (hd : decode md.2.1 pc = .ok (.iand, 1))  (k : X l md d mc ms al T ks kc kn (pc + 1) L (vI (x &&& y) :: st) M) : X l md d mc ms al T ks kc kn pc L (vI y :: vI x :: st) M := fun p e s m args below meth c H locs b D cT A ls h0 h1 hl => lv_iand h0.1 h0.2.1 hd  (k p e s m args below meth c H locs b D cT A ls h0 h1 hl)
theorem r_ior {x y : Int32} (hd : decode md.2.1 pc = .ok (.ior, 1))  (k : X l md d mc ms al T ks kc kn (pc + 1) L (vI (x ||| y) :: st) M) : X l md d mc ms al T ks kc kn pc L (vI y :: vI x :: st) M := fun p e s m args below meth c H locs b D cT A ls h0 h1 hl => lv_ior h0.1 h0.2.1 hd  (k p e s m args below meth c H locs b D cT A ls h0 h1 hl)
theorem r_ixor {x y : Int32} (hd : decode md.2.1 pc = .ok (.ixor, 1))  (k : X l md d mc ms al T ks kc kn (pc + 1) L (vI (x ^^^ y) :: st) M) : X l md d mc ms al T ks kc kn pc L (vI y :: vI x :: st) M := fun p e s m args below meth c H locs b D cT A ls h0 h1 hl => lv_ixor h0.1 h0.2.1 hd  (k p e s m args below meth c H locs b D cT A ls h0 h1 hl)
theorem r_ishl {x y : Int32} (hd : decode md.2.1 pc = .ok (.ishl, 1))  (k : X l md d mc ms al T ks kc kn (pc + 1) L (vI (x <<< (y &&& 31)) :: st) M) : X l md d mc ms al T ks kc kn pc L (vI y :: vI x :: st) M := fun p e s m args below meth c H locs b D cT A ls h0 h1 hl => lv_ishl h0.1 h0.2.1 hd  (k p e s m args below meth c H locs b D cT A ls h0 h1 hl)
theorem r_ishr {x y : Int32} (hd : decode md.2.1 pc = .ok (.ishr, 1))  (k : X l md d mc ms al T ks kc kn (pc + 1) L (vI (x >>> (y &&& 31)) :: st) M) : X l md d mc ms al T ks kc kn pc L (vI y :: vI x :: st) M := fun p e s m args below meth c H locs b D cT A ls h0 h1 hl => lv_ishr h0.1 h0.2.1 hd  (k p e s m args below meth c H locs b D cT A ls h0 h1 hl)
theorem r_idiv {x y : Int32} (hd : decode md.2.1 pc = .ok (.idiv, 1)) (hne : ¬ y = 0) (k : X l md d mc ms al T ks kc kn (pc + 1) L (vI (x / y) :: st) M) : X l md d mc ms al T ks kc kn pc L (vI y :: vI x :: st) M := fun p e s m args below meth c H locs b D cT A ls h0 h1 hl => lv_idiv h0.1 h0.2.1 hd hne (k p e s m args below meth c H locs b D cT A ls h0 h1 hl)
theorem r_irem {x y : Int32} (hd : decode md.2.1 pc = .ok (.irem, 1)) (hne : ¬ y = 0) (k : X l md d mc ms al T ks kc kn (pc + 1) L (vI (x - x / y * y) :: st) M) : X l md d mc ms al T ks kc kn pc L (vI y :: vI x :: st) M := fun p e s m args below meth c H locs b D cT A ls h0 h1 hl => lv_irem h0.1 h0.2.1 hd hne (k p e s m args below meth c H locs b D cT A ls h0 h1 hl)
theorem r_ineg {x : Int32} (hd : decode md.2.1 pc = .ok (.ineg, 1))  (k : X l md d mc ms al T ks kc kn (pc + 1) L (vI (-x) :: st) M) : X l md d mc ms al T ks kc kn pc L (vI x :: st) M := fun p e s m args below meth c H locs b D cT A ls h0 h1 hl => lv_ineg h0.1 h0.2.1 hd  (k p e s m args below meth c H locs b D cT A ls h0 h1 hl)
theorem r_iushr {x y : Int32} (hd : decode md.2.1 pc = .ok (.iushr, 1))  (k : X l md d mc ms al T ks kc kn (pc + 1) L (vI (x.toUInt32 >>> (y.toUInt32 &&& Int32.toUInt32 31)).toInt32 :: st) M) : X l md d mc ms al T ks kc kn pc L (vI y :: vI x :: st) M := fun p e s m args below meth c H locs b D cT A ls h0 h1 hl => lv_iushr h0.1 h0.2.1 hd rfl (k p e s m args below meth c H locs b D cT A ls h0 h1 hl)
theorem r_ladd {x y : Int64} (hd : decode md.2.1 pc = .ok (.ladd, 1))  (k : X l md d mc ms al T ks kc kn (pc + 1) L (vJ (x + y) :: st) M) : X l md d mc ms al T ks kc kn pc L (vJ y :: vJ x :: st) M := fun p e s m args below meth c H locs b D cT A ls h0 h1 hl => lv_ladd h0.1 h0.2.1 hd  (k p e s m args below meth c H locs b D cT A ls h0 h1 hl)
theorem r_lmul {x y : Int64} (hd : decode md.2.1 pc = .ok (.lmul, 1))  (k : X l md d mc ms al T ks kc kn (pc + 1) L (vJ (x * y) :: st) M) : X l md d mc ms al T ks kc kn pc L (vJ y :: vJ x :: st) M := fun p e s m args below meth c H locs b D cT A ls h0 h1 hl => lv_lmul h0.1 h0.2.1 hd  (k p e s m args below meth c H locs b D cT A ls h0 h1 hl)
theorem r_land {x y : Int64} (hd : decode md.2.1 pc = .ok (.land, 1))  (k : X l md d mc ms al T ks kc kn (pc + 1) L (vJ (x &&& y) :: st) M) : X l md d mc ms al T ks kc kn pc L (vJ y :: vJ x :: st) M := fun p e s m args below meth c H locs b D cT A ls h0 h1 hl => lv_land h0.1 h0.2.1 hd  (k p e s m args below meth c H locs b D cT A ls h0 h1 hl)
theorem r_lor {x y : Int64} (hd : decode md.2.1 pc = .ok (.lor, 1))  (k : X l md d mc ms al T ks kc kn (pc + 1) L (vJ (x ||| y) :: st) M) : X l md d mc ms al T ks kc kn pc L (vJ y :: vJ x :: st) M := fun p e s m args below meth c H locs b D cT A ls h0 h1 hl => lv_lor h0.1 h0.2.1 hd  (k p e s m args below meth c H locs b D cT A ls h0 h1 hl)
theorem r_ldiv {x y : Int64} (hd : decode md.2.1 pc = .ok (.ldiv, 1)) (hne : ¬ y = 0) (k : X l md d mc ms al T ks kc kn (pc + 1) L (vJ (x / y) :: st) M) : X l md d mc ms al T ks kc kn pc L (vJ y :: vJ x :: st) M := fun p e s m args below meth c H locs b D cT A ls h0 h1 hl => lv_ldiv h0.1 h0.2.1 hd hne (k p e s m args below meth c H locs b D cT A ls h0 h1 hl)
theorem r_lrem {x y : Int64} (hd : decode md.2.1 pc = .ok (.lrem, 1)) (hne : ¬ y = 0) (k : X l md d mc ms al T ks kc kn (pc + 1) L (vJ (x - x / y * y) :: st) M) : X l md d mc ms al T ks kc kn pc L (vJ y :: vJ x :: st) M := fun p e s m args below meth c H locs b D cT A ls h0 h1 hl => lv_lrem h0.1 h0.2.1 hd hne (k p e s m args below meth c H locs b D cT A ls h0 h1 hl)
theorem r_lshl {x : Int64} {y : Int32} (hd : decode md.2.1 pc = .ok (.lshl, 1))  (k : X l md d mc ms al T ks kc kn (pc + 1) L (vJ (x <<< (y.toInt64 &&& 63)) :: st) M) : X l md d mc ms al T ks kc kn pc L (vI y :: vJ x :: st) M := fun p e s m args below meth c H locs b D cT A ls h0 h1 hl => lv_lshl h0.1 h0.2.1 hd rfl (k p e s m args below meth c H locs b D cT A ls h0 h1 hl)
theorem r_lcmp {x y : Int64} (hd : decode md.2.1 pc = .ok (.lcmp, 1))  (k : X l md d mc ms al T ks kc kn (pc + 1) L (vI (lg_cmp x y) :: st) M) : X l md d mc ms al T ks kc kn pc L (vJ y :: vJ x :: st) M := fun p e s m args below meth c H locs b D cT A ls h0 h1 hl => W.lcmp h0.1 h0.2.1 hd  (k p e s m args below meth c H locs b D cT A ls h0 h1 hl)
theorem r_i2l {x : Int32} (hd : decode md.2.1 pc = .ok (.i2l, 1))  (k : X l md d mc ms al T ks kc kn (pc + 1) L (vJ x.toInt64 :: st) M) : X l md d mc ms al T ks kc kn pc L (vI x :: st) M := fun p e s m args below meth c H locs b D cT A ls h0 h1 hl => lv_i2l h0.1 h0.2.1 hd rfl (k p e s m args below meth c H locs b D cT A ls h0 h1 hl)
theorem r_l2i {x : Int64} (hd : decode md.2.1 pc = .ok (.l2i, 1))  (k : X l md d mc ms al T ks kc kn (pc + 1) L (vI x.toInt32 :: st) M) : X l md d mc ms al T ks kc kn pc L (vJ x :: st) M := fun p e s m args below meth c H locs b D cT A ls h0 h1 hl => lv_l2i h0.1 h0.2.1 hd rfl (k p e s m args below meth c H locs b D cT A ls h0 h1 hl)
theorem r_i2b {x : Int32} (hd : decode md.2.1 pc = .ok (.i2b, 1))  (k : X l md d mc ms al T ks kc kn (pc + 1) L (vI x.toInt8.toInt32 :: st) M) : X l md d mc ms al T ks kc kn pc L (vI x :: st) M := fun p e s m args below meth c H locs b D cT A ls h0 h1 hl => lv_i2b h0.1 h0.2.1 hd rfl (k p e s m args below meth c H locs b D cT A ls h0 h1 hl)
theorem r_i2s {x : Int32} (hd : decode md.2.1 pc = .ok (.i2s, 1))  (k : X l md d mc ms al T ks kc kn (pc + 1) L (vI x.toInt16.toInt32 :: st) M) : X l md d mc ms al T ks kc kn pc L (vI x :: st) M := fun p e s m args below meth c H locs b D cT A ls h0 h1 hl => lv_i2s h0.1 h0.2.1 hd rfl (k p e s m args below meth c H locs b D cT A ls h0 h1 hl)
theorem r_i2c {x : Int32} (hd : decode md.2.1 pc = .ok (.i2c, 1))  (k : X l md d mc ms al T ks kc kn (pc + 1) L (vI (x.toUInt32 % 65536).toInt32 :: st) M) : X l md d mc ms al T ks kc kn pc L (vI x :: st) M := fun p e s m args below meth c H locs b D cT A ls h0 h1 hl => lv_i2c h0.1 h0.2.1 hd rfl (k p e s m args below meth c H locs b D cT A ls h0 h1 hl)
theorem r_dup {a : AV} (hd : decode md.2.1 pc = .ok (.dup, 1)) (ha : am_cat a = 1) (k : X l md d mc ms al T ks kc kn (pc + 1) L (a :: a :: st) M) : X l md d mc ms al T ks kc kn pc L (a :: st) M := fun p e s m args below meth c H locs b D cT A ls h0 h1 hl => lv_dup h0.1 h0.2.1 hd (by rw [am_cat_eq]; exact ha) (k p e s m args below meth c H locs b D cT A ls h0 h1 hl)
theorem r_pop {a : AV} (hd : decode md.2.1 pc = .ok (.pop, 1)) (ha : am_cat a = 1) (k : X l md d mc ms al T ks kc kn (pc + 1) L (st) M) : X l md d mc ms al T ks kc kn pc L (a :: st) M := fun p e s m args below meth c H locs b D cT A ls h0 h1 hl => lv_pop h0.1 h0.2.1 hd (by rw [am_cat_eq]; exact ha) (k p e s m args below meth c H locs b D cT A ls h0 h1 hl)
theorem r_dup_x1 {a b2 : AV} (hd : decode md.2.1 pc = .ok (.dup_x1, 1)) (ha : am_cat a = 1) (hb : am_cat b2 = 1) (k : X l md d mc ms al T ks kc kn (pc + 1) L (a :: b2 :: a :: st) M) : X l md d mc ms al T ks kc kn pc L (a :: b2 :: st) M := fun p e s m args below meth c H locs b D cT A ls h0 h1 hl => lv_dup_x1 h0.1 h0.2.1 hd (by rw [am_cat_eq]; exact ha) (by rw [am_cat_eq]; exact hb) (k p e s m args below meth c H locs b D cT A ls h0 h1 hl)
theorem r_dup2 {a b2 : AV} (hd : decode md.2.1 pc = .ok (.dup2, 1)) (ha : am_cat a = 1) (hb : am_cat b2 = 1) (k : X l md d mc ms al T ks kc kn (pc + 1) L (a :: b2 :: a :: b2 :: st) M) : X l md d mc ms al T ks kc kn pc L (a :: b2 :: st) M := fun p e s m args below meth c H locs b D cT A ls h0 h1 hl => lv_dup2_11 h0.1 h0.2.1 hd (by rw [am_cat_eq]; exact ha) (by rw [am_cat_eq]; exact hb) (k p e s m args below meth c H locs b D cT A ls h0 h1 hl)
theorem r_iinc {i : Nat} {n : Int} {x v : Int32} (hd : decode md.2.1 pc = .ok (.iinc i n, 3)) (hi : L[i]? = some (some (vI x))) (hv : x + Int32.ofInt n = v) (hn : i < md.2.2.1) (hs : am_st1 L i (vI v) = some L') (k : X l md d mc ms al T ks kc kn (pc + 3) L' st M) : X l md d mc ms al T ks kc kn pc L st M := by
  intro p e s m args below meth c H locs b D cT A ls h0 h1 hl
  obtain ⟨j, hj⟩ := List.getElem?_of_mem (am_lv_get b L i 0 _ hi)
  rw [Nat.zero_add] at hj
  exact lv_iinc h0.1 h0.2.1 hd hl hj hv hn rfl (fun ls' hl' => k p e s m args below meth c H locs b D cT A ls' h0 h1 (am_lv_st1 hs rfl hl'))
theorem r_if_eq {x : Int32} {off : Int} {tgt : Nat} (hd : decode md.2.1 pc = .ok (.ifCond .eq off, 3)) (ht : (pc : Int) + off = (tgt : Int)) (kt : x = 0 → X l md d mc ms al T ks kc kn tgt L st M) (kf : ¬ x = 0 → X l md d mc ms al T ks kc kn (pc + 3) L st M) : X l md d mc ms al T ks kc kn pc L (vI x :: st) M := fun p e s m args below meth c H locs b D cT A ls h0 h1 hl => lv_if_eq h0.1 h0.2.1 hd ht (fun h => kt h p e s m args below meth c H locs b D cT A ls h0 h1 hl) (fun h => kf h p e s m args below meth c H locs b D cT A ls h0 h1 hl)
theorem r_if_ne {x : Int32} {off : Int} {tgt : Nat} (hd : decode md.2.1 pc = .ok (.ifCond .ne off, 3)) (ht : (pc : Int) + off = (tgt : Int)) (kt : ¬ x = 0 → X l md d mc ms al T ks kc kn tgt L st M) (kf : x = 0 → X l md d mc ms al T ks kc kn (pc + 3) L st M) : X l md d mc ms al T ks kc kn pc L (vI x :: st) M := fun p e s m args below meth c H locs b D cT A ls h0 h1 hl => lv_if_ne h0.1 h0.2.1 hd ht (fun h => kt h p e s m args below meth c H locs b D cT A ls h0 h1 hl) (fun h => kf h p e s m args below meth c H locs b D cT A ls h0 h1 hl)
theorem r_if_lt {x : Int32} {off : Int} {tgt : Nat} (hd : decode md.2.1 pc = .ok (.ifCond .lt off, 3)) (ht : (pc : Int) + off = (tgt : Int)) (kt : x < 0 → X l md d mc ms al T ks kc kn tgt L st M) (kf : ¬ x < 0 → X l md d mc ms al T ks kc kn (pc + 3) L st M) : X l md d mc ms al T ks kc kn pc L (vI x :: st) M := fun p e s m args below meth c H locs b D cT A ls h0 h1 hl => lv_if_lt h0.1 h0.2.1 hd ht (fun h => kt h p e s m args below meth c H locs b D cT A ls h0 h1 hl) (fun h => kf h p e s m args below meth c H locs b D cT A ls h0 h1 hl)
theorem r_if_ge {x : Int32} {off : Int} {tgt : Nat} (hd : decode md.2.1 pc = .ok (.ifCond .ge off, 3)) (ht : (pc : Int) + off = (tgt : Int)) (kt : 0 ≤ x → X l md d mc ms al T ks kc kn tgt L st M) (kf : ¬ 0 ≤ x → X l md d mc ms al T ks kc kn (pc + 3) L st M) : X l md d mc ms al T ks kc kn pc L (vI x :: st) M := fun p e s m args below meth c H locs b D cT A ls h0 h1 hl => lv_if_ge h0.1 h0.2.1 hd ht (fun h => kt h p e s m args below meth c H locs b D cT A ls h0 h1 hl) (fun h => kf h p e s m args below meth c H locs b D cT A ls h0 h1 hl)
theorem r_if_gt {x : Int32} {off : Int} {tgt : Nat} (hd : decode md.2.1 pc = .ok (.ifCond .gt off, 3)) (ht : (pc : Int) + off = (tgt : Int)) (kt : 0 < x → X l md d mc ms al T ks kc kn tgt L st M) (kf : ¬ 0 < x → X l md d mc ms al T ks kc kn (pc + 3) L st M) : X l md d mc ms al T ks kc kn pc L (vI x :: st) M := fun p e s m args below meth c H locs b D cT A ls h0 h1 hl => lv_if_gt h0.1 h0.2.1 hd ht (fun h => kt h p e s m args below meth c H locs b D cT A ls h0 h1 hl) (fun h => kf h p e s m args below meth c H locs b D cT A ls h0 h1 hl)
theorem r_if_le {x : Int32} {off : Int} {tgt : Nat} (hd : decode md.2.1 pc = .ok (.ifCond .le off, 3)) (ht : (pc : Int) + off = (tgt : Int)) (kt : x ≤ 0 → X l md d mc ms al T ks kc kn tgt L st M) (kf : ¬ x ≤ 0 → X l md d mc ms al T ks kc kn (pc + 3) L st M) : X l md d mc ms al T ks kc kn pc L (vI x :: st) M := fun p e s m args below meth c H locs b D cT A ls h0 h1 hl => lv_if_le h0.1 h0.2.1 hd ht (fun h => kt h p e s m args below meth c H locs b D cT A ls h0 h1 hl) (fun h => kf h p e s m args below meth c H locs b D cT A ls h0 h1 hl)
theorem r_icmp_eq {x y : Int32} {off : Int} {tgt : Nat} (hd : decode md.2.1 pc = .ok (.if_icmp .eq off, 3)) (ht : (pc : Int) + off = (tgt : Int)) (kt : x = y → X l md d mc ms al T ks kc kn tgt L st M) (kf : ¬ x = y → X l md d mc ms al T ks kc kn (pc + 3) L st M) : X l md d mc ms al T ks kc kn pc L (vI y :: vI x :: st) M := fun p e s m args below meth c H locs b D cT A ls h0 h1 hl => lv_icmp_eq h0.1 h0.2.1 hd ht (fun h => kt h p e s m args below meth c H locs b D cT A ls h0 h1 hl) (fun h => kf h p e s m args below meth c H locs b D cT A ls h0 h1 hl)
theorem r_icmp_ne {x y : Int32} {off : Int} {tgt : Nat} (hd : decode md.2.1 pc = .ok (.if_icmp .ne off, 3)) (ht : (pc : Int) + off = (tgt : Int)) (kt : ¬ x = y → X l md d mc ms al T ks kc kn tgt L st M) (kf : x = y → X l md d mc ms al T ks kc kn (pc + 3) L st M) : X l md d mc ms al T ks kc kn pc L (vI y :: vI x :: st) M := fun p e s m args below meth c H locs b D cT A ls h0 h1 hl => lv_icmp_ne h0.1 h0.2.1 hd ht (fun h => kt h p e s m args below meth c H locs b D cT A ls h0 h1 hl) (fun h => kf h p e s m args below meth c H locs b D cT A ls h0 h1 hl)
theorem r_icmp_lt {x y : Int32} {off : Int} {tgt : Nat} (hd : decode md.2.1 pc = .ok (.if_icmp .lt off, 3)) (ht : (pc : Int) + off = (tgt : Int)) (kt : x < y → X l md d mc ms al T ks kc kn tgt L st M) (kf : ¬ x < y → X l md d mc ms al T ks kc kn (pc + 3) L st M) : X l md d mc ms al T ks kc kn pc L (vI y :: vI x :: st) M := fun p e s m args below meth c H locs b D cT A ls h0 h1 hl => lv_icmp_lt h0.1 h0.2.1 hd ht (fun h => kt h p e s m args below meth c H locs b D cT A ls h0 h1 hl) (fun h => kf h p e s m args below meth c H locs b D cT A ls h0 h1 hl)
theorem r_icmp_ge {x y : Int32} {off : Int} {tgt : Nat} (hd : decode md.2.1 pc = .ok (.if_icmp .ge off, 3)) (ht : (pc : Int) + off = (tgt : Int)) (kt : y ≤ x → X l md d mc ms al T ks kc kn tgt L st M) (kf : ¬ y ≤ x → X l md d mc ms al T ks kc kn (pc + 3) L st M) : X l md d mc ms al T ks kc kn pc L (vI y :: vI x :: st) M := fun p e s m args below meth c H locs b D cT A ls h0 h1 hl => lv_icmp_ge h0.1 h0.2.1 hd ht (fun h => kt h p e s m args below meth c H locs b D cT A ls h0 h1 hl) (fun h => kf h p e s m args below meth c H locs b D cT A ls h0 h1 hl)
theorem r_icmp_gt {x y : Int32} {off : Int} {tgt : Nat} (hd : decode md.2.1 pc = .ok (.if_icmp .gt off, 3)) (ht : (pc : Int) + off = (tgt : Int)) (kt : y < x → X l md d mc ms al T ks kc kn tgt L st M) (kf : ¬ y < x → X l md d mc ms al T ks kc kn (pc + 3) L st M) : X l md d mc ms al T ks kc kn pc L (vI y :: vI x :: st) M := fun p e s m args below meth c H locs b D cT A ls h0 h1 hl => lv_icmp_gt h0.1 h0.2.1 hd ht (fun h => kt h p e s m args below meth c H locs b D cT A ls h0 h1 hl) (fun h => kf h p e s m args below meth c H locs b D cT A ls h0 h1 hl)
theorem r_icmp_le {x y : Int32} {off : Int} {tgt : Nat} (hd : decode md.2.1 pc = .ok (.if_icmp .le off, 3)) (ht : (pc : Int) + off = (tgt : Int)) (kt : x ≤ y → X l md d mc ms al T ks kc kn tgt L st M) (kf : ¬ x ≤ y → X l md d mc ms al T ks kc kn (pc + 3) L st M) : X l md d mc ms al T ks kc kn pc L (vI y :: vI x :: st) M := fun p e s m args below meth c H locs b D cT A ls h0 h1 hl => lv_icmp_le h0.1 h0.2.1 hd ht (fun h => kt h p e s m args below meth c H locs b D cT A ls h0 h1 hl) (fun h => kf h p e s m args below meth c H locs b D cT A ls h0 h1 hl)
theorem r_ifnonnull {q : Option Key} {off : Int} {tgt : Nat} (hd : decode md.2.1 pc = .ok (.ifnonnull off, 3)) (ht : (pc : Int) + off = (tgt : Int)) (kn0 : q = none → X l md d mc ms al T ks kc kn (pc + 3) L st M) (ks0 : ∀ z, q = some z → X l md d mc ms al T ks kc kn tgt L st M) : X l md d mc ms al T ks kc kn pc L (vO q :: st) M := by
  intro p e s m args below meth c H locs b D cT A ls h0 h1 hl
  cases q with
  | none => exact lv_ifnonnullN h0.1 h0.2.1 hd (kn0 rfl p e s m args below meth c H locs b D cT A ls h0 h1 hl)
  | some z => exact lv_ifnonnull h0.1 h0.2.1 hd ht (ks0 z rfl p e s m args below meth c H locs b D cT A ls h0 h1 hl)
theorem r_ifnull {q : Option Key} {off : Int} {tgt : Nat} (hd : decode md.2.1 pc = .ok (.ifnull off, 3)) (ht : (pc : Int) + off = (tgt : Int)) (kn0 : q = none → X l md d mc ms al T ks kc kn tgt L st M) (ks0 : ∀ z, q = some z → X l md d mc ms al T ks kc kn (pc + 3) L st M) : X l md d mc ms al T ks kc kn pc L (vO q :: st) M := by
  intro p e s m args below meth c H locs b D cT A ls h0 h1 hl
  cases q with
  | none => exact lv_ifnullN h0.1 h0.2.1 hd ht (kn0 rfl p e s m args below meth c H locs b D cT A ls h0 h1 hl)
  | some z => exact lv_ifnull h0.1 h0.2.1 hd (ks0 z rfl p e s m args below meth c H locs b D cT A ls h0 h1 hl)
theorem r_goto {off : Int} {tgt : Nat} (hd : decode md.2.1 pc = .ok (.goto off, 3)) (ht : (pc : Int) + off = (tgt : Int)) (k : X l md d mc ms al T ks kc kn tgt L st M) : X l md d mc ms al T ks kc kn pc L st M := fun p e s m args below meth c H locs b D cT A ls h0 h1 hl => lv_goto h0.1 h0.2.1 hd ht (k p e s m args below meth c H locs b D cT A ls h0 h1 hl)
theorem r_table {dflt lo hi : Int} {offs : Array Int} {len : Nat} {x : Int32} {tgt : Nat} (hd : decode md.2.1 pc = .ok (.tableswitch dflt lo hi offs, len)) (ho : if x.toInt < lo ∨ hi < x.toInt then (pc : Int) + dflt = (tgt : Int) else ∃ off, offs[(x.toInt - lo).toNat]? = some off ∧ (pc : Int) + off = (tgt : Int)) (k : X l md d mc ms al T ks kc kn tgt L st M) : X l md d mc ms al T ks kc kn pc L (vI x :: st) M := by
  intro p e s m args below meth c H locs b D cT A ls h0 h1 hl
  by_cases h : x.toInt < lo ∨ hi < x.toInt
  · rw [if_pos h] at ho
    exact lv_tableOut h0.1 h0.2.1 hd h ho (k p e s m args below meth c H locs b D cT A ls h0 h1 hl)
  · rw [if_neg h] at ho
    obtain ⟨off, h2, h3⟩ := ho
    exact lv_tableIn h0.1 h0.2.1 hd (fun q => h (Or.inl q)) (fun q => h (Or.inr q)) h2 h3 (k p e s m args below meth c H locs b D cT A ls h0 h1 hl)
theorem r_lookup {dflt : Int} {ps : Array (Int × Int)} {len : Nat} {x : Int32} {off : Int} {tgt : Nat} (hd : decode md.2.1 pc = .ok (.lookupswitch dflt ps, len)) (hp : (ps.toList.zip (ps.toList.drop 1)).all (fun (a, next) => a.1 < next.1) = true) (ho : Op.lookupswitch.offset ps.toList dflt x.toInt = off) (ht : (pc : Int) + off = (tgt : Int)) (k : X l md d mc ms al T ks kc kn tgt L st M) : X l md d mc ms al T ks kc kn pc L (vI x :: st) M := fun p e s m args below meth c H locs b D cT A ls h0 h1 hl => lv_lookup h0.1 h0.2.1 hd hp ho ht (k p e s m args below meth c H locs b D cT A ls h0 h1 hl)
/-- fewer known locals -/
def am_le : List (Option AV) → List (Option AV) → Prop
  | [], [] => True
  | none :: L1, _ :: L2 => am_le L1 L2
  | some a :: L1, some a2 :: L2 => a = a2 ∧ am_le L1 L2
  | _, _ => False
theorem am_le_get : ∀ {L1 L2 : List (Option AV)} (_ : am_le L1 L2) {i : Nat} {a : AV}, L1[i]? = some (some a) → L2[i]? = some (some a)
  | [], [], _, i, a, h => by simp at h
  | [], _ :: _, h0, _, _, _ => h0.elim
  | none :: L1, [], h0, _, _, _ => h0.elim
  | some _ :: L1, [], h0, _, _, _ => h0.elim
  | none :: L1, _ :: L2, _, 0, a, h => by simp at h
  | none :: L1, _ :: L2, h0, i + 1, a, h => by
    have := am_le_get (L1 := L1) (L2 := L2) h0 (i := i) (a := a) (by simpa using h)
    simpa using this
  | some x :: L1, none :: L2, h0, i, a, h => h0.elim
  | some x :: L1, some y :: L2, h0, 0, a, h => by
    rw [← h0.1]
    simpa using h
  | some x :: L1, some y :: L2, h0, i + 1, a, h => by
    have := am_le_get (L1 := L1) (L2 := L2) h0.2 (i := i) (a := a) (by simpa using h)
    simpa using this
theorem r_weak (h9 : am_le L' L) (k : X l md d mc ms al T ks kc kn pc L' st M) : X l md d mc ms al T ks kc kn pc L st M := by
  intro p e s m args below meth c H locs b D cT A ls h0 h1 hl
  refine k p e s m args below meth c H locs b D cT A ls h0 h1 ⟨hl.1, hl.2.1, fun q hq => ?_⟩
  obtain ⟨i, a, h2, rfl⟩ := am_lv_of b L' 0 q hq
  rw [Nat.zero_add]
  exact am_lv_at hl (am_le_get h9 h2)
theorem r_to {M' : AM} {st' : List AV} {pc' : Nat} (h1 : pc = pc') (h2 : L = L') (h3 : st = st') (h4 : M = M') (k : X l md d mc ms al T ks kc kn pc' L' st' M') : X l md d mc ms al T ks kc kn pc L st M := by subst h1; subst h2; subst h3; subst h4; exact k
end RU
end
section
/-! RULES of the layer: answers, fields, arrays -/
section MR
variable {l : Launch} {md : MD} {d mc ms : Nat} {al : Bool} {T : Option AV × List Key × AM} {ks : List Key} {kc kn pc : Nat} {L L' : List (Option AV)} {st : List AV} {M M' : AM} {q : Key} {k : Nat}
theorem am_w_at {b : Nat} {cT : Nat → ClassId} {M : AM} (h : q ∈ ks) : ∃ i : Nat, ks[i]? = some q ∧ (am_w b cT ks M)[i]? = some (b + am_ix q, am_ce b cT M q) := by
  obtain ⟨i, hi⟩ := List.getElem?_of_mem h
  exact ⟨i, hi, by unfold am_w; rw [List.getElem?_map, hi]; rfl⟩
theorem am_w_of {b : Nat} {cT : Nat → ClassId} {M : AM} {i : Nat} {x : Nat × va_E} (h : (am_w b cT ks M)[i]? = some x) : ∃ q, ks[i]? = some q ∧ x = (b + am_ix q, am_ce b cT M q) := by
  unfold am_w at h
  rw [List.getElem?_map] at h
  cases hk : ks[i]? with
  | none => rw [hk] at h; cases h
  | some q => rw [hk] at h; exact ⟨q, rfl, (Option.some.inj h).symm⟩
theorem am_ce_obj (b : Nat) (cT : Nat → ClassId) (M : AM) (h : am_kd q.1 < 11) : am_ce b cT M q = .inr (am_kd q.1, (List.range (am_ln q.1)).map (am_fv b M q)) := if_pos h
theorem am_ce_i (b : Nat) (cT : Nat → ClassId) (M : AM) (h : am_kd q.1 = 11 ∨ am_kd q.1 = 13) : am_ce b cT M q = .inl (cT (am_kd q.1), am_ln q.1, .inl (M.1 q)) := by
  unfold am_ce
  rw [if_neg (by omega), if_neg (by omega), if_pos (by omega)]
theorem am_ce_l (b : Nat) (cT : Nat → ClassId) (M : AM) (h : am_kd q.1 = 12) : am_ce b cT M q = .inl (cT 12, am_ln q.1, .inr (.inl (M.2.1 q))) := by
  unfold am_ce
  rw [if_neg (by omega), if_pos h]
theorem am_ce_q (b : Nat) (cT : Nat → ClassId) (M : AM) (h : 14 ≤ am_kd q.1) : am_ce b cT M q = .inl (cT (am_kd q.1), am_ln q.1, .inr (.inr (.inr (.inr (fun i => (M.2.2 q i).map (fun q => b + am_ix q)))))) := by
  unfold am_ce
  rw [if_neg (by omega), if_neg (by omega), if_neg (by omega)]
theorem am_ce_congr (b : Nat) (cT : Nat → ClassId) {M M' : AM} (h1 : M'.1 q = M.1 q) (h2 : M'.2.1 q = M.2.1 q) (h3 : M'.2.2 q = M.2.2 q) : am_ce b cT M' q = am_ce b cT M q := by
  have e : am_fv b M' q = am_fv b M q := by
    funext k
    unfold am_fv
    rw [h1, h2, h3]
  unfold am_ce
  rw [e, h1, h2, h3]
/-- one cell of the world changes -/
theorem am_P_upd {b : Nat} {cT : Nat → ClassId} {D : va_G} {A : Nat → Prop} {H H1 : Heap} (hq : q ∈ ks) (hP : va_P D vwCl (am_w b cT ks M) H) (hD : va_D A (am_w b cT ks M)) (hsame : ∀ q', q' ≠ q → am_ce b cT M' q' = am_ce b cT M q')
    (hnew : va_at D vwCl (b + am_ix q, am_ce b cT M' q) H1) (oq : ∀ a : Nat, a ≠ b + am_ix q → H1[a]? = H[a]?) : va_P D vwCl (am_w b cT ks M') H1 ∧ va_D A (am_w b cT ks M') := by
  obtain ⟨j, hj, hwj⟩ := am_w_at (b := b) (cT := cT) (M := M) hq
  refine ⟨fun i x hx => ?_, fun i1 i2 x y hx hy hxy => ?_, fun i x hx => ?_⟩
  · obtain ⟨z, hz, rfl⟩ := am_w_of hx
    by_cases e : z = q
    · subst e
      exact hnew
    · rw [hsame z e]
      have hwi : (am_w b cT ks M)[i]? = some (b + am_ix z, am_ce b cT M z) := by unfold am_w; rw [List.getElem?_map, hz]; rfl
      refine (hP i _ hwi).kept (oq _ fun h9 => e ?_)
      have hij := hD.1 i j _ _ hwi hwj h9
      subst hij
      exact Option.some.inj (hz.symm.trans hj)
  · obtain ⟨z, hz, rfl⟩ := am_w_of hx
    obtain ⟨z2, hz2, rfl⟩ := am_w_of hy
    exact hD.1 i1 i2 (b + am_ix z, am_ce b cT M z) (b + am_ix z2, am_ce b cT M z2) (by unfold am_w; rw [List.getElem?_map, hz]; rfl) (by unfold am_w; rw [List.getElem?_map, hz2]; rfl) hxy
  · obtain ⟨z, hz, rfl⟩ := am_w_of hx
    exact hD.2 i (b + am_ix z, am_ce b cT M z) (by unfold am_w; rw [List.getElem?_map, hz]; rfl)
/-! answers -/
theorem r_iret {x : Int32} {ty : FieldType} (hd : decode md.2.1 pc = .ok (.ireturn, 1)) (hr : md.2.2.2 = some ty) (hn : narrow ty (.int x) = .int x) (hc : kc ≤ mc) (hs : kn ≤ ms) : X l md d mc ms al (some (vI x), ks, M) ks kc kn pc L [vI x] M := by
  intro p e s m args below meth c H locs b D cT A ls h0 h1 hl
  refine W.widen (k := mc) (n := ms) hc hs ?_
  exact W.zret (v := x) h0.1 h0.2.1 (h0.2.2.1.trans hr) hn (fun t ht hW => ⟨⟨rfl, by rw [ht]; exact h1.1, va_K.moved hW.alike h1.2.2.1, h1.2.1, fun ha => by rw [ht]; exact h1.2.2.2.2.2 ha⟩, h1.2.2.2.1.F ht⟩) h1.2.2.2.1.2.2 hd (hlocks := h0.2.2.2.2.2.1)
theorem r_lret {x : Int64} (hd : decode md.2.1 pc = .ok (.lreturn, 1)) (hr : md.2.2.2 = some .long) (hc : kc ≤ mc) (hs : kn ≤ ms) : X l md d mc ms al (some (vJ x), ks, M) ks kc kn pc L [vJ x] M := by
  intro p e s m args below meth c H locs b D cT A ls h0 h1 hl
  refine W.widen (k := mc) (n := ms) hc hs ?_
  exact W.lret (v := x) h0.1 h0.2.1 (h0.2.2.1.trans hr) (fun t ht hW => ⟨⟨rfl, by rw [ht]; exact h1.1, va_K.moved hW.alike h1.2.2.1, h1.2.1, fun ha => by rw [ht]; exact h1.2.2.2.2.2 ha⟩, h1.2.2.2.1.F ht⟩) h1.2.2.2.1.2.2 hd (hlocks := h0.2.2.2.2.2.1)
theorem r_aret {x : Option Key} {n : String} (hd : decode md.2.1 pc = .ok (.areturn, 1)) (hr : md.2.2.2 = some (.object n)) (hc : kc ≤ mc) (hs : kn ≤ ms) : X l md d mc ms al (some (vO x), ks, M) ks kc kn pc L [vO x] M := by
  intro p e s m args below meth c H locs b D cT A ls h0 h1 hl
  refine W.widen (k := mc) (n := ms) hc hs ?_
  exact W.aret (v := am_rv b x) h0.1 h0.2.1 (h0.2.2.1.trans hr) (Or.inl ⟨n, rfl⟩) (by cases x with
    | none => exact Or.inl rfl
    | some z => exact Or.inr ⟨_, rfl⟩) (fun t ht hW => ⟨⟨rfl, by rw [ht]; exact h1.1, va_K.moved hW.alike h1.2.2.1, h1.2.1, fun ha => by rw [ht]; exact h1.2.2.2.2.2 ha⟩, h1.2.2.2.1.F ht⟩) h1.2.2.2.1.2.2 hd (hlocks := h0.2.2.2.2.2.1)
theorem r_vret (hd : decode md.2.1 pc = .ok (.return_, 1)) (hr : md.2.2.2 = none) (hc : kc ≤ mc) (hs : kn ≤ ms) : X l md d mc ms al (none, ks, M) ks kc kn pc L [] M := by
  intro p e s m args below meth c H locs b D cT A ls h0 h1 hl
  refine W.widen (k := mc) (n := ms) hc hs ?_
  exact W.vret h0.1 h0.2.1 (h0.2.2.1.trans hr) (fun t ht hW => ⟨⟨rfl, by rw [ht]; exact h1.1, va_K.moved hW.alike h1.2.2.1, h1.2.1, fun ha => by rw [ht]; exact h1.2.2.2.2.2 ha⟩, h1.2.2.2.1.F ht⟩) h1.2.2.2.1.2.2 hd (hlocks := h0.2.2.2.2.2.1)
/-! fields: what the tables say of an entry of a class's pool -/
def FW (own : String) (idx ci k t : Nat) : Prop := ∃ (C : String) (F : u_T) (N : Nat), vwCl[ci]? = some (C, F, N) ∧ k < N ∧ (∀ w ∈ u_ws C F N, w ∈ Wd) ∧ Cond.fieldLink own idx (F k).1 (F k).2.1 (F k).2.2.1 ∈ Wd ∧ am_ft ci k = t
def FP (own : String) (idx ci k : Nat) (ty : FieldType) (fin : Bool) : Prop := ∃ (C : String) (F : u_T) (N : Nat) (ty0 : Nat → FieldType), vwCl[ci]? = some (C, F, N) ∧ k < N ∧ (∀ w ∈ u_ws C F N, w ∈ Wd) ∧ Cond.fieldLink own idx (F k).1 (F k).2.1 (F k).2.2.1 ∈ Wd ∧
  (∀ k, k < N → parseFieldDescriptor (F k).2.2.1 = some (ty0 k)) ∧ (∀ a, a < N → ∀ b, b < N → a ≠ b → (F a).2.1 ≠ (F b).2.1) ∧ (F k).2.2.2 = fin ∧ ty0 k = ty ∧ (fin = true → (F k).1 = own)
theorem am_ci {ci : Nat} {r : vw_C} (h : vwCl[ci]? = some r) : ci < 11 := (List.getElem?_eq_some_iff.mp h).1
theorem r_get {a : AV} {idx ci t : Nat} (hw : FW md.1.cls idx ci k t) (hd : decode md.2.1 pc = .ok (.getfield idx, 3)) (hq : q ∈ ks) (hk : am_kd q.1 = ci) (hl : k < am_ln q.1) (ha : ∀ b, am_ft ci k = t → am_fv b M q k = am_cv b a) (kk : X l md d mc ms al T ks kc kn (pc + 3) L (a :: st) M) : X l md d mc ms al T ks kc kn pc L (vR q :: st) M := by
  intro p e s m args below meth c H locs b D cT A ls h0 h1 hl9
  obtain ⟨C, F, N, hc, hkN, hin, hlink, hft⟩ := hw
  obtain ⟨i, hi, hwi⟩ := am_w_at (b := b) (cT := cT) (M := M) hq
  have hci := am_ci hc
  rw [am_ce_obj b cT M (by rw [hk]; exact hci)] at hwi
  refine va_get (D := D) (cl := vwCl) (v := am_cv b a) h0.1 h0.2.1 h0.2.2.2.1 hin h0.2.2.2.2.1 h1.2.2.1 h1.1 i hwi (by rw [hk]; exact hc) k hkN (h0.2.2.2.1 _ hlink) (fun _ h9 => h9) ?_ hd (kk p e s m args below meth c H locs b D cT A ls h0 h1 hl9)
  rw [List.getElem?_map, List.getElem?_range hl, ← ha b hft]
  rfl
theorem r_geti {idx ci : Nat} (hw : FW md.1.cls idx ci k 0) (hd : decode md.2.1 pc = .ok (.getfield idx, 3)) (hq : q ∈ ks) (hk : am_kd q.1 = ci) (hl : k < am_ln q.1) (kk : X l md d mc ms al T ks kc kn (pc + 3) L (vI (M.1 q k) :: st) M) : X l md d mc ms al T ks kc kn pc L (vR q :: st) M :=
  r_get hw hd hq hk hl (fun b h => by unfold am_fv; rw [hk, h]; rfl) kk
theorem r_getl {idx ci : Nat} (hw : FW md.1.cls idx ci k 1) (hd : decode md.2.1 pc = .ok (.getfield idx, 3)) (hq : q ∈ ks) (hk : am_kd q.1 = ci) (hl : k < am_ln q.1) (kk : X l md d mc ms al T ks kc kn (pc + 3) L (vJ (M.2.1 q k) :: st) M) : X l md d mc ms al T ks kc kn pc L (vR q :: st) M :=
  r_get hw hd hq hk hl (fun b h => by unfold am_fv; rw [hk, h]; rfl) kk
theorem r_getr {idx ci : Nat} {z : Option Key} (hw : FW md.1.cls idx ci k 2) (hd : decode md.2.1 pc = .ok (.getfield idx, 3)) (hq : q ∈ ks) (hk : am_kd q.1 = ci) (hl : k < am_ln q.1) (hz : M.2.2 q k = z) (kk : X l md d mc ms al T ks kc kn (pc + 3) L (vO z :: st) M) : X l md d mc ms al T ks kc kn pc L (vR q :: st) M :=
  r_get hw hd hq hk hl (fun b h => by unfold am_fv; rw [hk, h, hz]; rfl) kk
theorem am_put {p : Program} {e : Env} {R : Room} {s : State} {m : MethodId} {args : Array Value} {below : List Frame} {meth : Method} {c : Code} {H : Heap} {locs : List Loc} {Q : State → Prop} {ls : Array Slot} {rest : List Value} {b : Nat} {D : va_G} {cT : Nat → ClassId} {A : Nat → Prop} {v : Value} {idx ci : Nat} {ty : FieldType} {fin : Bool}
    (h0 : am_X0 md p s m args meth c) (h1 : am_X1 b D cT A al ks M s H locs) (hw : FP md.1.cls idx ci k ty fin) (hi0 : fin = true → md.1.name = "<init>") (hd : decode md.2.1 pc = .ok (.putfield idx, 3)) (hq : q ∈ ks) (hk : am_kd q.1 = ci) (hl : k < am_ln q.1)
    (hn : narrow ty v = v) (hfit : fits ty v = true) (hsame : ∀ q', q' ≠ q → am_ce b cT M' q' = am_ce b cT M q') (hfv : ∀ j, am_fv b M' q j = if j = k then v else am_fv b M q j)
    (kk : ∀ (H1 : Heap) (locs1 : List Loc), am_X1 b D cT A al ks M' s H1 locs1 → W p l e R s m args below meth c H1 locs1 kc kn Q (F0 m (pc + 3) ls rest)) : W p l e R s m args below meth c H locs kc kn Q (F0 m pc ls (v :: .ref (b + am_ix q) :: rest)) := by
  obtain ⟨C, F, N, ty0, hc, hkN, hin, hlink, hty, hnm, hfin, hty1, hdecl⟩ := hw
  obtain ⟨i, hi, hwi⟩ := am_w_at (b := b) (cT := cT) (M := M) hq
  have hci : am_kd q.1 < 11 := by rw [hk]; exact am_ci hc
  rw [am_ce_obj b cT M hci, hk] at hwi
  have hts := h0.2.2.2.1
  have hown := h0.2.2.2.2.1
  have hap := va_apart (own := md.1.cls) hts hin ty0 hty hnm h1.2.2.1 hc
  obtain ⟨r, g1, cell, q1, q2, q3, q4⟩ := h1.1 i _ hwi
  have hr : r = (C, F, N) := Option.some.inj (g1.symm.trans hc)
  subst hr
  obtain ⟨hSl, hfc, kC, hkC, hkind⟩ := h1.2.2.1.1 ci _ hc
  obtain ⟨cf, kf, fi, f, hi2, hsl⟩ := hSl k hkN
  have hlay := hts _ (hin _ (u_in_lay hkN))
  have hpd : parseFieldDescriptor (F k).2.2.1 = some ty := by rw [hty k hkN, hty1]
  have hst := (u_facts hfc hkC (u_lays hts hin hkN) hi2).1
  have fin9 : ∀ H1 : Heap, H1[b + am_ix q]? = some (cell.setSlot f.slot v) → H1.size = H.size → (∀ z : Nat, z ≠ b + am_ix q → H1[z]? = H[z]?) → am_X1 b D cT A al ks M' s H1 (locs ++ [⟨b + am_ix q, f.slot⟩]) := by
    intro H1 e1 e2 e3
    rw [hsl] at e1
    have hlen : k < ((List.range (am_ln q.1)).map (am_fv b M q)).length := by simpa using hl
    have hset : ((List.range (am_ln q.1)).map (am_fv b M q)).set k v = (List.range (am_ln q.1)).map (am_fv b M' q) := by
      apply List.ext_getElem?
      intro j
      rw [List.getElem?_set, List.getElem?_map, List.getElem?_map]
      by_cases hj : k = j
      · subst hj
        rw [if_pos rfl, if_pos hlen, List.getElem?_range hl]
        show some v = some (am_fv b M' q k)
        rw [hfv, if_pos rfl]
      · rw [if_neg hj]
        by_cases hjl : j < am_ln q.1
        · rw [List.getElem?_range hjl]
          show some (am_fv b M q j) = some (am_fv b M' q j)
          rw [hfv, if_neg (Ne.symm hj)]
        · rw [List.getElem?_eq_none (by simpa using hjl)]
          rfl
    have hnew : va_at D vwCl (b + am_ix q, am_ce b cT M' q) H1 := by
      rw [am_ce_obj b cT M' hci, hk, ← hset]
      exact ⟨_, hc, t_OB.to (V := updV (vp_V _) k v) ⟨_, e1, q2, q3, t_set q4 hap hkN v⟩ (fun j _ => vp_updV_set hlen v j)⟩
    obtain ⟨u1, u2⟩ := am_P_upd hq h1.1 h1.2.1 hsame hnew e3
    exact ⟨u1, u2, h1.2.2.1, h1.2.2.2.1.put e2 e3 (h1.2.1.2 i _ hwi), h1.2.2.2.2.1, fun ha => by rw [e2]; exact h1.2.2.2.2.2 ha⟩
  cases fin with
  | false =>
    unfold u_lay at hlay
    rw [if_neg (by rw [hfin]; decide)] at hlay
    have h6 := u_store hfc hkC hkind hlay hi2 hpd hn hfit
    refine W.putK h0.1 h0.2.1 (f := f) ⟨hown, h0.2.2.2.1 _ hlink, ⟨_, _, _, hi2⟩, hst⟩ (by rw [q2]; exact h6) q1 q3 (by rw [hsl]; exact k2_hasslot (q4 k hkN)) rfl rfl hd fun H1 e1 e2 e3 => ?_
    exact kk H1 _ (fin9 H1 e1 e2 e3)
  | true =>
    unfold u_lay at hlay
    rw [if_pos hfin] at hlay
    have hcf : m.cls = cf := by
      obtain ⟨_, _, c', _, _, _, -, -, hf', -, -, -, hown2, -⟩ := Cond.laysFinal_spec hlay
      have e1 : c' = cf := by have := hi2.symm.trans hf'; simp at this; exact this.1.symm
      rw [hdecl rfl] at hown2
      rw [← e1]; exact Option.some.inj (hown.symm.trans hown2)
    have h6 := u_fits hfc hkC hkind (Or.inr hlay) hi2 hpd hn hfit
    refine W.putFinK h0.1 h0.2.1 hown (h0.2.2.2.1 _ hlink) hi2 hst hcf (h0.2.2.2.2.2.2.2.trans (hi0 rfl)) (by rw [q2]; exact h6) q1 q3 (by rw [hsl]; exact k2_hasslot (q4 k hkN)) rfl rfl hd fun H1 e1 e2 e3 => ?_
    exact kk H1 _ (fin9 H1 e1 e2 e3)
def am_ui (M : AM) (q : Key) (k : Nat) (x : Int32) : AM := (fun q' k' => if k' = k ∧ q' = q then x else M.1 q' k', M.2)
def am_ul (M : AM) (q : Key) (k : Nat) (x : Int64) : AM := (M.1, fun q' k' => if k' = k ∧ q' = q then x else M.2.1 q' k', M.2.2)
def am_ur (M : AM) (q : Key) (k : Nat) (x : Option Key) : AM := (M.1, M.2.1, fun q' k' => if k' = k ∧ q' = q then x else M.2.2 q' k')
theorem am_ui_o {q' : Key} {x : Int32} (h : q' ≠ q) : (am_ui M q k x).1 q' = M.1 q' := funext fun j => if_neg (fun h9 => h h9.2)
theorem am_ul_o {q' : Key} {x : Int64} (h : q' ≠ q) : (am_ul M q k x).2.1 q' = M.2.1 q' := funext fun j => if_neg (fun h9 => h h9.2)
theorem am_ur_o {q' : Key} {x : Option Key} (h : q' ≠ q) : (am_ur M q k x).2.2 q' = M.2.2 q' := funext fun j => if_neg (fun h9 => h h9.2)
theorem am_fv_ui {b : Nat} {x : Int32} (h : am_ft (am_kd q.1) k = 0) (j : Nat) : am_fv b (am_ui M q k x) q j = if j = k then .int x else am_fv b M q j := by
  by_cases hj : j = k
  · subst hj
    rw [if_pos rfl]
    unfold am_fv
    rw [h]
    show Value.int (if j = j ∧ q = q then x else M.1 q j) = _
    rw [if_pos ⟨rfl, rfl⟩]
  · rw [if_neg hj]
    unfold am_fv
    have e : (am_ui M q k x).1 q j = M.1 q j := if_neg (fun h9 => hj h9.1)
    rw [e]
    rfl
theorem am_fv_ul {b : Nat} {x : Int64} (h : am_ft (am_kd q.1) k = 1) (j : Nat) : am_fv b (am_ul M q k x) q j = if j = k then .long x else am_fv b M q j := by
  by_cases hj : j = k
  · subst hj
    rw [if_pos rfl]
    unfold am_fv
    rw [h]
    show Value.long (if j = j ∧ q = q then x else M.2.1 q j) = _
    rw [if_pos ⟨rfl, rfl⟩]
  · rw [if_neg hj]
    unfold am_fv
    have e : (am_ul M q k x).2.1 q j = M.2.1 q j := if_neg (fun h9 => hj h9.1)
    rw [e]
    rfl
theorem am_fv_ur {b : Nat} {x : Option Key} (h : am_ft (am_kd q.1) k = 2) (j : Nat) : am_fv b (am_ur M q k x) q j = if j = k then am_rv b x else am_fv b M q j := by
  by_cases hj : j = k
  · subst hj
    rw [if_pos rfl]
    unfold am_fv
    rw [h]
    show am_rv b (if j = j ∧ q = q then x else M.2.2 q j) = _
    rw [if_pos ⟨rfl, rfl⟩]
  · rw [if_neg hj]
    unfold am_fv
    have e : (am_ur M q k x).2.2 q j = M.2.2 q j := if_neg (fun h9 => hj h9.1)
    rw [e]
    rfl
theorem r_puti {x : Int32} {idx ci : Nat} {ty : FieldType} {fin : Bool} (hw : FP md.1.cls idx ci k ty fin) (hi0 : fin = true → md.1.name = "<init>") (hd : decode md.2.1 pc = .ok (.putfield idx, 3)) (hq : q ∈ ks) (hk : am_kd q.1 = ci) (hl : k < am_ln q.1) (hft : am_ft ci k = 0) (hn : narrow ty (.int x) = .int x) (hfit : fits ty (.int x) = true)
    (kk : X l md d mc ms al T ks kc kn (pc + 3) L st (am_ui M q k x)) : X l md d mc ms al T ks kc kn pc L (vI x :: vR q :: st) M := fun p e s m args below meth c H locs b D cT A ls h0 h1 hl9 =>
  am_put h0 h1 hw hi0 hd hq hk hl hn hfit (fun q' h => am_ce_congr b cT (am_ui_o h) rfl rfl) (am_fv_ui (by rw [hk]; exact hft)) (fun H1 locs1 h2 => kk p e s m args below meth c H1 locs1 b D cT A ls h0 h2 hl9)
theorem r_putl {x : Int64} {idx ci : Nat} {fin : Bool} (hw : FP md.1.cls idx ci k .long fin) (hi0 : fin = true → md.1.name = "<init>") (hd : decode md.2.1 pc = .ok (.putfield idx, 3)) (hq : q ∈ ks) (hk : am_kd q.1 = ci) (hl : k < am_ln q.1) (hft : am_ft ci k = 1)
    (kk : X l md d mc ms al T ks kc kn (pc + 3) L st (am_ul M q k x)) : X l md d mc ms al T ks kc kn pc L (vJ x :: vR q :: st) M := fun p e s m args below meth c H locs b D cT A ls h0 h1 hl9 =>
  am_put (M' := am_ul M q k x) h0 h1 hw hi0 hd hq hk hl rfl rfl (fun q' h => am_ce_congr b cT rfl (am_ul_o h) rfl) (am_fv_ul (by rw [hk]; exact hft)) (fun H1 locs1 h2 => kk p e s m args below meth c H1 locs1 b D cT A ls h0 h2 hl9)
theorem r_putr {x : Option Key} {idx ci : Nat} {ty : FieldType} {fin : Bool} (hw : FP md.1.cls idx ci k ty fin) (hi0 : fin = true → md.1.name = "<init>") (hd : decode md.2.1 pc = .ok (.putfield idx, 3)) (hq : q ∈ ks) (hk : am_kd q.1 = ci) (hl : k < am_ln q.1) (hft : am_ft ci k = 2) (hty : ∀ v : Option Nat, narrow ty (va_rf v) = va_rf v ∧ fits ty (va_rf v) = true)
    (kk : X l md d mc ms al T ks kc kn (pc + 3) L st (am_ur M q k x)) : X l md d mc ms al T ks kc kn pc L (vO x :: vR q :: st) M := fun p e s m args below meth c H locs b D cT A ls h0 h1 hl9 =>
  am_put (M' := am_ur M q k x) h0 h1 hw hi0 hd hq hk hl (hty _).1 (hty _).2 (fun q' h => am_ce_congr b cT rfl rfl (am_ur_o h)) (am_fv_ur (by rw [hk]; exact hft)) (fun H1 locs1 h2 => kk p e s m args below meth c H1 locs1 b D cT A ls h0 h2 hl9)
/-! arrays -/
theorem r_iald {i : Int32} (hd : decode md.2.1 pc = .ok (.iaload, 1)) (hq : q ∈ ks) (hk : am_kd q.1 = 11) (hin : vp_in i (am_ln q.1)) (kk : X l md d mc ms al T ks kc kn (pc + 1) L (vI (M.1 q i.toNatClampNeg) :: st) M) : X l md d mc ms al T ks kc kn pc L (vI i :: vR q :: st) M := by
  intro p e s m args below meth c H locs b D cT A ls h0 h1 hl9
  obtain ⟨j, hj, hwj⟩ := am_w_at (b := b) (cT := cT) (M := M) hq
  rw [am_ce_i b cT M (Or.inl hk), hk] at hwj
  exact va_iald (D := D) (cl := vwCl) h0.1 h0.2.1 h1.2.2.1 h1.1 j 0 hwj rfl hin hd (kk p e s m args below meth c H locs b D cT A ls h0 h1 hl9)
theorem r_zald {i : Int32} (hd : decode md.2.1 pc = .ok (.baload, 1)) (hq : q ∈ ks) (hk : am_kd q.1 = 13) (hin : vp_in i (am_ln q.1)) (kk : X l md d mc ms al T ks kc kn (pc + 1) L (vI (M.1 q i.toNatClampNeg) :: st) M) : X l md d mc ms al T ks kc kn pc L (vI i :: vR q :: st) M := by
  intro p e s m args below meth c H locs b D cT A ls h0 h1 hl9
  obtain ⟨j, hj, hwj⟩ := am_w_at (b := b) (cT := cT) (M := M) hq
  rw [am_ce_i b cT M (Or.inr hk), hk] at hwj
  exact va_zald (D := D) (cl := vwCl) h0.1 h0.2.1 h1.2.2.1 h1.1 j 2 hwj rfl hin hd (kk p e s m args below meth c H locs b D cT A ls h0 h1 hl9)
theorem r_lald {i : Int32} (hd : decode md.2.1 pc = .ok (.laload, 1)) (hq : q ∈ ks) (hk : am_kd q.1 = 12) (hin : vp_in i (am_ln q.1)) (kk : X l md d mc ms al T ks kc kn (pc + 1) L (vJ (M.2.1 q i.toNatClampNeg) :: st) M) : X l md d mc ms al T ks kc kn pc L (vI i :: vR q :: st) M := by
  intro p e s m args below meth c H locs b D cT A ls h0 h1 hl9
  obtain ⟨j, hj, hwj⟩ := am_w_at (b := b) (cT := cT) (M := M) hq
  rw [am_ce_l b cT M hk] at hwj
  exact va_lald (D := D) (cl := vwCl) h0.1 h0.2.1 h1.2.2.1 h1.1 j 1 hwj rfl hin hd (kk p e s m args below meth c H locs b D cT A ls h0 h1 hl9)
theorem am_rf_map (b : Nat) (z : Option Key) : va_rf (z.map (fun q => b + am_ix q)) = am_cv b (vO z) := rfl
theorem r_aald {i : Int32} {z : Option Key} (hd : decode md.2.1 pc = .ok (.aaload, 1)) (hq : q ∈ ks) (hk : 14 ≤ am_kd q.1 ∧ am_kd q.1 < 18) (hin : vp_in i (am_ln q.1)) (hz : M.2.2 q i.toNatClampNeg = z) (kk : X l md d mc ms al T ks kc kn (pc + 1) L (vO z :: st) M) : X l md d mc ms al T ks kc kn pc L (vI i :: vR q :: st) M := by
  intro p e s m args below meth c H locs b D cT A ls h0 h1 hl9
  obtain ⟨j, hj, hwj⟩ := am_w_at (b := b) (cT := cT) (M := M) hq
  rw [am_ce_q b cT M hk.1] at hwj
  have hlt : i.toNatClampNeg < am_ln q.1 := Nat.not_le.mp fun q => hin (Or.inr q)
  subst hz
  have k2 := kk p e s m args below meth c H locs b D cT A ls h0 h1 hl9
  have go : ∀ (t0 : Nat) (ty : FieldType), ty.isReference = true → (am_tys cT)[t0]? = some (cT (am_kd q.1), ty) → W p l e (am_rm d mc ms) s m args below meth c H locs kc kn (MQ below (am_Q b D cT A al T.1 T.2.1 T.2.2) args s mc ms A) (F0 m pc ls (List.map (am_cv b) (vI i :: vR q :: st))) := fun t0 ty hre ht =>
    W.aald (v := va_rf ((M.2.2 q i.toNatClampNeg).map (fun q => b + am_ix q))) (ty := ty) h0.1 h0.2.1 (h1.1 j _ hwj) ((h1.2.2.1.2 t0 _ ht).1 (am_ln q.1) (fun j => va_rf ((M.2.2 q j).map (fun q => b + am_ix q)))) hre (fun q => by cases q) (by show ¬ (i < 0 ∨ (arrV _ _ _).slots.size ≤ _); rw [arrV_size]; exact hin) (by show (arrV _ _ _).slots[_]? = _; rw [arrV_read _ _ hlt]) rfl rfl hd k2
  have hcase : am_kd q.1 = 14 ∨ am_kd q.1 = 15 ∨ am_kd q.1 = 16 ∨ am_kd q.1 = 17 := by omega
  rcases hcase with h | h | h | h
  · exact go 3 (.object RX2) rfl (by rw [h]; rfl)
  · exact go 4 (.object RX3) rfl (by rw [h]; rfl)
  · exact go 5 (.object RX7) rfl (by rw [h]; rfl)
  · exact go 6 (.array .int) rfl (by rw [h]; rfl)
theorem am_row_upd {q' : Key} {x : Int32} : (am_ui M q k x).1 q = upd (M.1 q) k x := by
  funext j
  show (if j = k ∧ q = q then x else M.1 q j) = upd (M.1 q) k x j
  by_cases h : j = k
  · rw [if_pos ⟨h, rfl⟩, h]; simp [upd]
  · rw [if_neg (fun h9 => h h9.1)]; simp [upd, h]
theorem r_iast {i x : Int32} (hd : decode md.2.1 pc = .ok (.iastore, 1)) (hq : q ∈ ks) (hk : am_kd q.1 = 11) (hin : vp_in i (am_ln q.1)) (kk : X l md d mc ms al T ks kc kn (pc + 1) L st (am_ui M q i.toNatClampNeg x)) : X l md d mc ms al T ks kc kn pc L (vI x :: vI i :: vR q :: st) M := by
  intro p e s m args below meth c H locs b D cT A ls h0 h1 hl9
  obtain ⟨j, hj, hwj⟩ := am_w_at (b := b) (cT := cT) (M := M) hq
  rw [am_ce_i b cT M (Or.inl hk), hk] at hwj
  refine W.iast h0.1 h0.2.1 (h1.1 j _ hwj) ((h1.2.2.1.2 0 _ rfl).1 (am_ln q.1) (fun j => .int (M.1 q j))) (fun q => by cases q) (by show ¬ (i < 0 ∨ (arrV _ _ _).slots.size ≤ _); rw [arrV_size]; exact hin) rfl rfl hd fun H1 e1 e2 e3 => ?_
  have hnew : va_at D vwCl (b + am_ix q, am_ce b cT (am_ui M q i.toNatClampNeg x) q) H1 := by
    rw [am_ce_i b cT _ (Or.inl hk), hk]
    show H1[b + am_ix q]? = some (vp_cell _ _)
    rw [e1]
    rw [vp_cell_i, vp_cell_i, arrV_store]
    congr 2
    funext z
    show updV (fun j => Value.int (M.1 q j)) i.toNatClampNeg (.int x) z = Value.int (if z = i.toNatClampNeg ∧ q = q then x else M.1 q z)
    by_cases hz : z = i.toNatClampNeg
    · simp [updV, hz]
    · simp [updV, hz]
  obtain ⟨u1, u2⟩ := am_P_upd hq h1.1 h1.2.1 (fun q' h => am_ce_congr b cT (am_ui_o h) rfl rfl) hnew e3
  exact kk p e s m args below meth c H1 _ b D cT A ls h0 ⟨u1, u2, h1.2.2.1, h1.2.2.2.1.put e2 e3 (h1.2.1.2 j _ hwj), h1.2.2.2.2.1, fun ha => by rw [e2]; exact h1.2.2.2.2.2 ha⟩ hl9
theorem r_zast {i x : Int32} (hd : decode md.2.1 pc = .ok (.bastore, 1)) (hq : q ∈ ks) (hk : am_kd q.1 = 13) (hin : vp_in i (am_ln q.1)) (hx : narrow .boolean (.int x) = .int x) (kk : X l md d mc ms al T ks kc kn (pc + 1) L st (am_ui M q i.toNatClampNeg x)) : X l md d mc ms al T ks kc kn pc L (vI x :: vI i :: vR q :: st) M := by
  intro p e s m args below meth c H locs b D cT A ls h0 h1 hl9
  obtain ⟨j, hj, hwj⟩ := am_w_at (b := b) (cT := cT) (M := M) hq
  rw [am_ce_i b cT M (Or.inr hk), hk] at hwj
  refine W.zast h0.1 h0.2.1 (h1.1 j _ hwj) ((h1.2.2.1.2 2 _ rfl).1 (am_ln q.1) (fun j => .int (M.1 q j))) (fun q => by cases q) (by show ¬ (i < 0 ∨ (arrV _ _ _).slots.size ≤ _); rw [arrV_size]; exact hin) rfl rfl hd fun H1 e1 e2 e3 => ?_
  have hnew : va_at D vwCl (b + am_ix q, am_ce b cT (am_ui M q i.toNatClampNeg x) q) H1 := by
    rw [am_ce_i b cT _ (Or.inr hk), hk]
    show H1[b + am_ix q]? = some (vp_cell _ _)
    rw [e1, hx]
    rw [vp_cell_i, vp_cell_i, arrV_store]
    congr 2
    funext z
    show updV (fun j => Value.int (M.1 q j)) i.toNatClampNeg (.int x) z = Value.int (if z = i.toNatClampNeg ∧ q = q then x else M.1 q z)
    by_cases hz : z = i.toNatClampNeg
    · simp [updV, hz]
    · simp [updV, hz]
  obtain ⟨u1, u2⟩ := am_P_upd hq h1.1 h1.2.1 (fun q' h => am_ce_congr b cT (am_ui_o h) rfl rfl) hnew e3
  exact kk p e s m args below meth c H1 _ b D cT A ls h0 ⟨u1, u2, h1.2.2.1, h1.2.2.2.1.put e2 e3 (h1.2.1.2 j _ hwj), h1.2.2.2.2.1, fun ha => by rw [e2]; exact h1.2.2.2.2.2 ha⟩ hl9
theorem r_last {i : Int32} {x : Int64} (hd : decode md.2.1 pc = .ok (.lastore, 1)) (hq : q ∈ ks) (hk : am_kd q.1 = 12) (hin : vp_in i (am_ln q.1)) (kk : X l md d mc ms al T ks kc kn (pc + 1) L st (am_ul M q i.toNatClampNeg x)) : X l md d mc ms al T ks kc kn pc L (vJ x :: vI i :: vR q :: st) M := by
  intro p e s m args below meth c H locs b D cT A ls h0 h1 hl9
  obtain ⟨j, hj, hwj⟩ := am_w_at (b := b) (cT := cT) (M := M) hq
  rw [am_ce_l b cT M hk] at hwj
  refine W.last h0.1 h0.2.1 (h1.1 j _ hwj) ((h1.2.2.1.2 1 _ rfl).1 (am_ln q.1) (fun j => .long (M.2.1 q j))) (fun q => by cases q) (by show ¬ (i < 0 ∨ (arrV _ _ _).slots.size ≤ _); rw [arrV_size]; exact hin) rfl rfl hd fun H1 e1 e2 e3 => ?_
  have hnew : va_at D vwCl (b + am_ix q, am_ce b cT (am_ul M q i.toNatClampNeg x) q) H1 := by
    rw [am_ce_l b cT _ hk]
    show H1[b + am_ix q]? = some (vp_cell _ _)
    rw [e1]
    rw [vp_cell_l, vp_cell_l, arrV_store]
    congr 2
    funext z
    show updV (fun j => Value.long (M.2.1 q j)) i.toNatClampNeg (.long x) z = Value.long (if z = i.toNatClampNeg ∧ q = q then x else M.2.1 q z)
    by_cases hz : z = i.toNatClampNeg
    · simp [updV, hz]
    · simp [updV, hz]
  obtain ⟨u1, u2⟩ := am_P_upd (M' := am_ul M q i.toNatClampNeg x) hq h1.1 h1.2.1 (fun q' h => am_ce_congr b cT rfl (am_ul_o h) rfl) hnew e3
  exact kk p e s m args below meth c H1 _ b D cT A ls h0 ⟨u1, u2, h1.2.2.1, h1.2.2.2.1.put e2 e3 (h1.2.1.2 j _ hwj), h1.2.2.2.2.1, fun ha => by rw [e2]; exact h1.2.2.2.2.2 ha⟩ hl9
theorem r_alen {v : Int32} (hd : decode md.2.1 pc = .ok (.arraylength, 1)) (hq : q ∈ ks) (hk : am_kd q.1 = 11) (hv : Int32.ofNat (am_ln q.1) = v) (kk : X l md d mc ms al T ks kc kn (pc + 1) L (vI v :: st) M) : X l md d mc ms al T ks kc kn pc L (vR q :: st) M := by
  intro p e s m args below meth c H locs b D cT A ls h0 h1 hl9
  obtain ⟨j, hj, hwj⟩ := am_w_at (b := b) (cT := cT) (M := M) hq
  rw [am_ce_i b cT M (Or.inl hk), hk] at hwj
  exact va_alen (D := D) (cl := vwCl) h0.1 h0.2.1 h1.2.2.1 h1.1 j 0 hwj rfl hv hd (kk p e s m args below meth c H locs b D cT A ls h0 h1 hl9)
end MR
end
section
/-! RULES of the layer: calls -/
section CR
variable {l : Launch} {md md2 : MD} {d d2 mc ms mc2 ms2 : Nat} {al : Bool} {T T2 : Option AV × List Key × AM} {ks : List Key} {kc kn pc : Nat} {L L' : List (Option AV)} {st as : List AV} {M M' : AM} {q : Key} {k : Nat}
theorem am_call {p : Program} {e : Env} {R : Room} {s : State} {m : MethodId} {args : Array Value} {below : List Frame} {meth : Method} {c : Code} {H : Heap} {locs : List Loc} {Q : State → Prop} {ls : Array Slot} {rest st0 : List Value} {b : Nat} {D : va_G} {cT : Nat → ClassId} {A A1 : Nat → Prop} {a : Array Value} {r : Option AV} {ks2 : List Key}
    (h1 : am_X1 b D cT A al ks M s H locs) (hA : ∀ q, A1 q → A q) (hr : va_Run p l e R s m args below meth c H locs kc kn mc2 ms2 (F0 m pc ls st0) rest (am_Q b D cT A1 al r ks2 M' a) A1)
    (kk : ∀ (H1 : Heap) (locs1 : List Loc), am_X1 b D cT A al ks2 M' s H1 locs1 → W p l e R s m args below meth c H1 locs1 (kc + mc2) (kn + ms2) Q (F0 m (pc + 3) ls ((r.map (am_cv b)).toList ++ rest))) : W p l e R s m args below meth c H locs kc kn Q (F0 m pc ls st0) := by
  intro T hT X
  obtain ⟨v, st₀, t, T', L, g0, X', hL, e1, e2, ⟨⟨hv, hP2, hK2, hD2, hal2⟩, hz, hk⟩, st⟩ := hr T hT X
  cases hv
  rw [g0] at hz hk
  have hS := h1.2.2.2.1
  obtain ⟨t2, a1, b1⟩ := kk T'.heap (locs ++ L) ⟨by rw [e1]; exact hP2, hD2.weaken (fun _ q _ h => hA q.1 h), h1.2.2.1,
    ⟨Nat.le_trans hS.1 (by rw [e1]; exact hz), fun q g1 g2 => by rw [e1, hk q (Nat.lt_of_lt_of_le g1 hS.1) (fun z => g2 (hA q z))]; exact hS.2.1 q g1 g2, fun q hq => by
      rcases List.mem_append.mp hq with h | h
      · exact hS.2.2 q h
      · exact hA _ (hL q h)⟩, h1.2.2.2.2.1, fun ha => by rw [e1]; exact hal2 ha⟩ T' rfl X'
  exact ⟨t2, st t2 a1, b1⟩
def MW (own : String) (idx : Nat) (md2 : MD) (n : Nat) : Prop := Cond.methodLink own idx md2.1 ∈ Wd ∧ Cond.initialized md2.1.cls ∈ Wd ∧ Cond.code md2.1 md2.2.1 md2.2.2.1 md2.2.2.2 ∈ Wd ∧ (md2.1.cls ≠ "java/lang/invoke/MethodHandle" ∧ md2.1.cls ≠ "java/lang/invoke/VarHandle" ∧ (parseMethodDescriptor md2.1.desc).map (fun d => d.parameters.length) = some n) ∧ md2.2.2.1 ≤ 21
def MV (md2 : MD) : Prop := Cond.instanceMethod md2.1 ∈ Wd ∧ Cond.selects md2.1.cls md2.1 md2.1 ∈ Wd
theorem am_good {md2 : MD} (h : Cond.code md2.1 md2.2.1 md2.2.2.1 md2.2.2.2 ∈ Wd) : GoodIn Wd (Cond.code md2.1 md2.2.1 md2.2.2.1 md2.2.2.2 :: Wd) := by
  intro w hw
  rcases List.mem_cons.mp hw with rfl | hw
  · exact ⟨h, Wd_good h⟩
  · exact ⟨hw, Wd_good hw⟩
theorem am_blind {as : List Value} {b : Nat} {D : va_G} {cT : Nat → ClassId} {sz : Nat} : FrameBlind (va_Pc as (fun U => U.heap.size = sz ∧ va_P D vwCl (am_w b cT ks M) U.heap ∧ va_K D vwCl (am_tys cT) U ∧ va_D (fun _ => True) (am_w b cT ks M) ∧ (al = true → U.heap.size = b + ks.length))) := by
  intro a U g mk q
  obtain ⟨q0, q1, qP, qK, qD, qal⟩ := q
  exact ⟨q0, q1, qP, va_K.moved (u := U) (U := U.calling g mk a) (Vm.Alike.refl U.vm) qK, qD, qal⟩
theorem am_pre {s : State} {H : Heap} {locs : List Loc} {A : Nat → Prop} {b : Nat} {D : va_G} {cT : Nat → ClassId} (h1 : am_X1 b D cT A al ks M s H locs) (as : List Value) : ∀ U : State, U.heap = H → s.WarmedH U.vm → va_Pc as (fun U => U.heap.size = H.size ∧ va_P D vwCl (am_w b cT ks M) U.heap ∧ va_K D vwCl (am_tys cT) U ∧ va_D (fun _ => True) (am_w b cT ks M) ∧ (al = true → U.heap.size = b + ks.length)) as.toArray U :=
  fun U hU hW => ⟨rfl, by rw [hU], by rw [hU]; exact h1.1, va_K.moved hW.alike h1.2.2.1, h1.2.1.weaken (fun _ _ _ _ => trivial), fun ha => by rw [hU]; exact h1.2.2.2.2.2 ha⟩
theorem am_freeA {s : State} {H : Heap} {locs : List Loc} {A : Nat → Prop} {b : Nat} {D : va_G} {cT : Nat → ClassId} (h1 : am_X1 b D cT A al ks M s H locs) : ∀ q, va_A (am_w b cT ks M) H.size q → A q := by
  intro q h
  rcases h with ⟨k, e, h⟩ | h
  · exact h1.2.1.2 k (q, e) h
  · exact h1.2.2.2.2.1 q (Nat.le_trans h1.2.2.2.1.1 h)
theorem am_mapA (b : Nat) (as : List AV) (st : List AV) (a : AV) : (as.reverse ++ a :: st).map (am_cv b) = (as.map (am_cv b)).reverse ++ am_cv b a :: st.map (am_cv b) := by simp
theorem am_mapS (b : Nat) (as : List AV) (st : List AV) : (as.reverse ++ st).map (am_cv b) = (as.map (am_cv b)).reverse ++ st.map (am_cv b) := by simp
theorem am_mapR (b : Nat) (r : Option AV) (st : List AV) : (r.map (am_cv b)).toList ++ st.map (am_cv b) = (r.toList ++ st).map (am_cv b) := by cases r <;> simp
set_option maxHeartbeats 1000000 in
theorem r_callV {idx n ci : Nat} {F : u_T} {N : Nat} (hw : MW md.1.cls idx md2 n) (hv : MV md2) (hE : Ev l md2 d2 mc2 ms2 al (vR q :: as) ks M T2) (hdd : d2 + 1 ≤ d) (hd : decode md.2.1 pc = .ok (.invokevirtual idx, 3)) (hq : q ∈ ks) (hk : am_kd q.1 = ci) (hc : vwCl[ci]? = some (md2.1.cls, F, N)) (hn : as.length = n) (hst : (st.map am_cat).sum ≤ 8) (hcm : kc + mc2 ≤ mc) (hsm : kn + ms2 ≤ ms)
    (kk : X l md d mc ms al T T2.2.1 (kc + mc2) (kn + ms2) (pc + 3) L (T2.1.toList ++ st) T2.2.2) : X l md d mc ms al T ks kc kn pc L (as.reverse ++ vR q :: st) M := by
  intro p e s m args below meth c H locs b D cT A ls h0 h1 hl9
  obtain ⟨w1, w2, w3, w4, w5⟩ := hw
  obtain ⟨i, hi, hwi⟩ := am_w_at (b := b) (cT := cT) (M := M) hq
  rw [am_ce_obj b cT M (by rw [hk]; exact am_ci hc), hk] at hwi
  rw [am_mapA]
  refine am_call (A1 := va_A (am_w b cT ks M) H.size) h1 (am_freeA h1) (va_runV (Ts := Wd) (own := md.1.cls) (C := md2.1.cls) (As := as.map (am_cv b)) ⟨h0.1, h0.2.1, h0.2.2.2.2.2.2.1, h0.2.2.2.2.1, h0.2.2.2.1⟩ (hE b D cT H.size)
    (cwV n h0.2.2.2.1 (fun w hw => ?_) rfl rfl rfl ⟨rfl, w4.1, w4.2.1, w4.2.2⟩ ⟨?_, ?_⟩) ⟨am_blind, va_recv h1.2.2.1 h1.1 hc hwi, fun U hU hW => am_pre h1 _ U hU hW⟩ rfl (by rw [List.length_map]; exact hn) hl9.1 rfl (lv_room (by rw [am_cat_sum]; exact hst)) hd ⟨hcm, hsm⟩) (fun H1 locs1 h2 => ?_)
  · have hm : w ∈ Wd := by
      unfold wsV at hw
      rcases List.mem_append.mp hw with h | h
      · simp only [List.mem_cons, List.not_mem_nil, or_false] at h
        rcases h with rfl | rfl | rfl | rfl
        · exact w1
        · exact hv.1
        · exact hv.2
        · exact w2
      · exact (am_good w3 w h).1
    exact ⟨hm, Wd_good hm⟩
  · show d2 + 1 ≤ d
    exact hdd
  · show 8 + (md2.2.2.1 + 11) + 40 * d2 ≤ 40 * d
    omega
  · rw [am_mapR]
    exact kk p e s m args below meth c H1 locs1 b D cT A ls h0 h2 hl9
set_option maxHeartbeats 1000000 in
theorem r_callI {idx n : Nat} (hw : MW md.1.cls idx md2 n) (hv : Cond.instanceMethod md2.1 ∈ Wd) (hy : md2.1.name = "<init>") (hvoid : md2.2.2.2 = none) (hE : Ev l md2 d2 mc2 ms2 al (vR q :: as) ks M T2) (hdd : d2 + 1 ≤ d) (hd : decode md.2.1 pc = .ok (.invokespecial idx, 3)) (hn : as.length = n) (hst : (st.map am_cat).sum ≤ 8) (hcm : kc + mc2 ≤ mc) (hsm : kn + ms2 ≤ ms)
    (kk : X l md d mc ms al T T2.2.1 (kc + mc2) (kn + ms2) (pc + 3) L (T2.1.toList ++ st) T2.2.2) : X l md d mc ms al T ks kc kn pc L (as.reverse ++ vR q :: st) M := by
  intro p e s m args below meth c H locs b D cT A ls h0 h1 hl9
  obtain ⟨w1, w2, w3, w4, w5⟩ := hw
  have hE2 := hE b D cT H.size
  rw [hvoid] at hE2 w3
  rw [am_mapA]
  have hG : GoodIn Wd (Cond.code md2.1 md2.2.1 md2.2.2.1 none :: Wd) := fun w hw => by
    rcases List.mem_cons.mp hw with rfl | hw
    · exact ⟨w3, Wd_good w3⟩
    · exact ⟨hw, Wd_good hw⟩
  refine am_call (A1 := va_A (am_w b cT ks M) H.size) h1 (am_freeA h1) (va_runI (Ts := Wd) (own := md.1.cls) (As := as.map (am_cv b)) ⟨h0.1, h0.2.1, h0.2.2.2.2.2.2.1, h0.2.2.2.2.1, h0.2.2.2.1⟩ hE2
    (cwI n h0.2.2.2.1 hG rfl rfl rfl (h0.2.2.2.1 _ w2) (h0.2.2.2.1 _ w1) (h0.2.2.2.1 _ hv) hy w4 ⟨?_, ?_⟩) ⟨am_blind, fun U hU hW => am_pre h1 _ U hU hW⟩ rfl (by rw [List.length_map]; exact hn) hl9.1 rfl (lv_room (by rw [am_cat_sum]; exact hst)) hd ⟨hcm, hsm⟩) (fun H1 locs1 h2 => ?_)
  · show d2 + 1 ≤ d
    exact hdd
  · show 8 + (md2.2.2.1 + 11) + 40 * d2 ≤ 40 * d
    omega
  · rw [am_mapR]
    exact kk p e s m args below meth c H1 locs1 b D cT A ls h0 h2 hl9
set_option maxHeartbeats 1000000 in
theorem r_callS {idx n : Nat} (hw : MW md.1.cls idx md2 n) (hv : Cond.static md2.1 ∈ Wd) (hE : Ev l md2 d2 mc2 ms2 al as ks M T2) (hdd : d2 + 1 ≤ d) (hd : decode md.2.1 pc = .ok (.invokestatic idx, 3)) (hn : as.length = n) (hst : (st.map am_cat).sum ≤ 8) (hcm : kc + mc2 ≤ mc) (hsm : kn + ms2 ≤ ms)
    (kk : X l md d mc ms al T T2.2.1 (kc + mc2) (kn + ms2) (pc + 3) L (T2.1.toList ++ st) T2.2.2) : X l md d mc ms al T ks kc kn pc L (as.reverse ++ st) M := by
  intro p e s m args below meth c H locs b D cT A ls h0 h1 hl9
  obtain ⟨w1, w2, w3, w4, w5⟩ := hw
  rw [am_mapS]
  refine am_call (A1 := va_A (am_w b cT ks M) H.size) h1 (am_freeA h1) (va_runS (Ts := Wd) (own := md.1.cls) (As := as.map (am_cv b)) ⟨h0.1, h0.2.1, h0.2.2.2.2.2.2.1, h0.2.2.2.2.1, h0.2.2.2.1⟩ (hE b D cT H.size)
    ⟨callB_of n h0.2.2.2.1 (am_good w3) rfl rfl rfl (h0.2.2.2.1 _ w2) (h0.2.2.2.1 _ w1) w4 ⟨?_, ?_⟩, h0.2.2.2.1 _ hv⟩ ⟨am_blind, fun U hU hW => am_pre h1 _ U hU hW⟩ rfl (by rw [List.length_map]; exact hn) hl9.1 rfl (lv_room (by rw [am_cat_sum]; exact hst)) hd ⟨hcm, hsm⟩) (fun H1 locs1 h2 => ?_)
  · show d2 + 1 ≤ d
    exact hdd
  · show 8 + (md2.2.2.1 + 11) + 40 * d2 ≤ 40 * d
    omega
  · rw [am_mapR]
    exact kk p e s m args below meth c H1 locs1 b D cT A ls h0 h2 hl9
theorem r_objInit {idx : Nat} (w1 : Cond.methodLink md.1.cls idx Lib.objectInit ∈ Wd) (w2 : Cond.instanceMethod Lib.objectInit ∈ Wd) (w3 : Cond.code Lib.objectInit ⟨#[0xb1]⟩ 1 none ∈ Wd) (hd : decode md.2.1 pc = .ok (.invokespecial idx, 3)) (hdd : 1 ≤ d) (hst : (st.map am_cat).sum ≤ 8)
    (kk : X l md d mc ms al T ks kc kn (pc + 3) L st M) : X l md d mc ms al T ks kc kn pc L (vR q :: st) M := by
  intro p e s m args below meth c H locs b D cT A ls h0 h1 hl9
  refine W.objInit h0.1 h0.2.1 h0.2.2.2.2.1 (h0.2.2.2.1 _ w1) (h0.2.2.2.1 _ w2) (h0.2.2.2.1 _ w3) rfl (by rw [h0.2.2.2.2.2.2.1]; exact hl9.1) rfl hd hdd ?_ (kk p e s m args below meth c H locs b D cT A ls h0 h1 hl9)
  have := am_cat_sum b st
  show 2 * 0 + ((st.map (am_cv b)).map fun v => v.category).sum + 12 ≤ 40 * d
  rw [this]
  omega
theorem r_mmin {x y : Int32} {idx : Nat} (w1 : Cond.methodLink md.1.cls idx Lib.Math.min.name ∈ Wd) (w2 : Cond.static Lib.Math.min.name ∈ Wd) (w3 : Cond.initialized "java/lang/Math" ∈ Wd) (w4 : Cond.code Lib.Math.min.name Lib.Math.min.code 2 (some .int) ∈ Wd) (hd : decode md.2.1 pc = .ok (.invokestatic idx, 3)) (hdd : 1 ≤ d) (hst : (st.map am_cat).sum ≤ 8) (hcm : kc ≤ mc) (hsm : kn ≤ ms)
    (kk : X l md d mc ms al T ks kc kn (pc + 3) L (vI (if y < x then y else x) :: st) M) : X l md d mc ms al T ks kc kn pc L (vI y :: vI x :: st) M := by
  intro p e s m args below meth c H locs b D cT A ls h0 h1 hl9
  refine va_mmin h0.1 h0.2.1 (by rw [h0.2.2.2.2.2.2.1]; exact hl9.1.symm) h0.2.2.2.2.1 (h0.2.2.2.1 _ w1) (h0.2.2.2.1 _ w2) (h0.2.2.2.1 _ w3) (h0.2.2.2.1 _ w4) hdd ?_ hcm hsm hd (kk p e s m args below meth c H locs b D cT A ls h0 h1 hl9)
  show ((st.map (am_cv b)).map fun v => v.category).sum + 13 ≤ 40 * d
  rw [am_cat_sum]
  omega
theorem r_mmax {x y : Int32} {idx : Nat} (w1 : Cond.methodLink md.1.cls idx Lib.Math.max.name ∈ Wd) (w2 : Cond.static Lib.Math.max.name ∈ Wd) (w3 : Cond.initialized "java/lang/Math" ∈ Wd) (w4 : Cond.code Lib.Math.max.name Lib.Math.max.code 2 (some .int) ∈ Wd) (hd : decode md.2.1 pc = .ok (.invokestatic idx, 3)) (hdd : 1 ≤ d) (hst : (st.map am_cat).sum ≤ 8) (hcm : kc ≤ mc) (hsm : kn ≤ ms)
    (kk : X l md d mc ms al T ks kc kn (pc + 3) L (vI (if x < y then y else x) :: st) M) : X l md d mc ms al T ks kc kn pc L (vI y :: vI x :: st) M := by
  intro p e s m args below meth c H locs b D cT A ls h0 h1 hl9
  refine va_mmax h0.1 h0.2.1 (by rw [h0.2.2.2.2.2.2.1]; exact hl9.1.symm) h0.2.2.2.2.1 (h0.2.2.2.1 _ w1) (h0.2.2.2.1 _ w2) (h0.2.2.2.1 _ w3) (h0.2.2.2.1 _ w4) hdd ?_ hcm hsm hd (kk p e s m args below meth c H locs b D cT A ls h0 h1 hl9)
  show ((st.map (am_cv b)).map fun v => v.category).sum + 13 ≤ 40 * d
  rw [am_cat_sum]
  omega
def am_cpi (M : AM) (q : Key) (f : Nat → Int32) : AM := (fun q' k => if q' = q then f k else M.1 q' k, M.2)
def am_cpl (M : AM) (q : Key) (f : Nat → Int64) : AM := (M.1, fun q' k => if q' = q then f k else M.2.1 q' k, M.2.2)
def CP (own : String) (idx : Nat) : Prop := Cond.methodLink own idx arraycopyName ∈ Wd ∧ Cond.native arraycopyName ∈ Wd ∧ Cond.static arraycopyName ∈ Wd ∧ Cond.initialized "java/lang/System" ∈ Wd
theorem am_set_P {b : Nat} {cT : Nat → ClassId} {D : va_G} {A : Nat → Prop} {H1 : Heap} {j : Nat} {e : va_E} (hj : ks[j]? = some q) (hD : va_D A (am_w b cT ks M)) (he : e = am_ce b cT M' q) (hsame : ∀ q', q' ≠ q → am_ce b cT M' q' = am_ce b cT M q')
    (hP : va_P D vwCl ((am_w b cT ks M).set j (b + am_ix q, e)) H1) : va_P D vwCl (am_w b cT ks M') H1 ∧ va_D A (am_w b cT ks M') := by
  have hwj : (am_w b cT ks M)[j]? = some (b + am_ix q, am_ce b cT M q) := by unfold am_w; rw [List.getElem?_map, hj]; rfl
  have hlj := (List.getElem?_eq_some_iff.mp hwj).1
  refine ⟨fun i x hx => ?_, fun i1 i2 x y hx hy hxy => ?_, fun i x hx => ?_⟩
  · obtain ⟨z, hz, rfl⟩ := am_w_of hx
    have hwi : (am_w b cT ks M)[i]? = some (b + am_ix z, am_ce b cT M z) := by unfold am_w; rw [List.getElem?_map, hz]; rfl
    by_cases ez : z = q
    · subst ez
      have hij := hD.1 i j _ _ hwi hwj rfl
      subst hij
      refine hP i _ ?_
      rw [List.getElem?_set_self hlj, he]
    · rw [hsame z ez]
      refine hP i _ ?_
      rw [List.getElem?_set_ne (fun h9 => ez ?_)]
      · exact hwi
      · subst h9
        exact (Option.some.inj (hj.symm.trans hz)).symm
  · obtain ⟨z, hz, rfl⟩ := am_w_of hx
    obtain ⟨z2, hz2, rfl⟩ := am_w_of hy
    exact hD.1 i1 i2 (b + am_ix z, am_ce b cT M z) (b + am_ix z2, am_ce b cT M z2) (by unfold am_w; rw [List.getElem?_map, hz]; rfl) (by unfold am_w; rw [List.getElem?_map, hz2]; rfl) hxy
  · obtain ⟨z, hz, rfl⟩ := am_w_of hx
    exact hD.2 i (b + am_ix z, am_ce b cT M z) (by unfold am_w; rw [List.getElem?_map, hz]; rfl)
set_option maxHeartbeats 1000000 in
theorem r_copyi {q0 q1 : Key} {idx : Nat} {sp dp n : Int32} (hw : CP md.1.cls idx) (hd : decode md.2.1 pc = .ok (.invokestatic idx, 3)) (hq0 : q0 ∈ ks) (hq1 : q1 ∈ ks) (hk0 : am_kd q0.1 = 11) (hk1 : am_kd q1.1 = 11) (g1 : ¬ sp < 0) (g2 : ¬ dp < 0) (g3 : ¬ n < 0) (g4 : sp.toNatClampNeg + n.toNatClampNeg ≤ am_ln q0.1) (g5 : dp.toNatClampNeg + n.toNatClampNeg ≤ am_ln q1.1) (hdd : 1 ≤ d) (hst : (st.map am_cat).sum ≤ 8)
    (kk : X l md d mc ms false T ks kc kn (pc + 3) L st (am_cpi M q1 (va_cpy (M.1 q0) (M.1 q1) sp.toNatClampNeg dp.toNatClampNeg n.toNatClampNeg))) : X l md d mc ms false T ks kc kn pc L (vI n :: vI dp :: vR q1 :: vI sp :: vR q0 :: st) M := by
  intro p e s m args below meth c H locs b D cT A ls h0 h1 hl9
  obtain ⟨i, hi, hwi⟩ := am_w_at (b := b) (cT := cT) (M := M) hq0
  obtain ⟨j, hj, hwj⟩ := am_w_at (b := b) (cT := cT) (M := M) hq1
  rw [am_ce_i b cT M (Or.inl hk0), hk0] at hwi
  rw [am_ce_i b cT M (Or.inl hk1), hk1] at hwj
  refine va_copyi (D := D) (cl := vwCl) (A := A) (ty := .int) h0.1 h0.2.1 (by rw [h0.2.2.2.2.2.2.1]; exact hl9.1.symm) h0.2.2.2.2.1 (h0.2.2.2.1 _ hw.1) (h0.2.2.2.1 _ hw.2.1) (h0.2.2.2.1 _ hw.2.2.1) (h0.2.2.2.1 _ hw.2.2.2) h1.2.2.1 h1.1 h1.2.1 h1.2.2.2.1 i j 0 0 hwi hwj rfl rfl rfl g1 g2 g3 g4 g5 (fun _ _ => rfl) hdd ?_ hd (fun H1 locs1 hP1 hD1 hS1 => ?_)
  · show ((st.map (am_cv b)).map fun v => v.category).sum + _ ≤ 40 * d
    rw [am_cat_sum]
    have : nativeFrameWords "java/lang/System" "arraycopy" 5 + 11 ≤ 32 := by decide
    omega
  · obtain ⟨u1, u2⟩ := am_set_P (M' := am_cpi M q1 (va_cpy (M.1 q0) (M.1 q1) sp.toNatClampNeg dp.toNatClampNeg n.toNatClampNeg)) hj h1.2.1 (by
      rw [am_ce_i b cT _ (Or.inl hk1), hk1]
      congr 4
      funext z
      exact (if_pos rfl).symm) (fun q' h => am_ce_congr b cT (by funext z; exact if_neg h) rfl rfl) hP1
    exact kk p e s m args below meth c H1 locs1 b D cT A ls h0 ⟨u1, u2, h1.2.2.1, hS1, h1.2.2.2.2.1, fun ha => by cases ha⟩ hl9
set_option maxHeartbeats 1000000 in
theorem r_copyl {q0 q1 : Key} {idx : Nat} {sp dp n : Int32} (hw : CP md.1.cls idx) (hd : decode md.2.1 pc = .ok (.invokestatic idx, 3)) (hq0 : q0 ∈ ks) (hq1 : q1 ∈ ks) (hk0 : am_kd q0.1 = 12) (hk1 : am_kd q1.1 = 12) (g1 : ¬ sp < 0) (g2 : ¬ dp < 0) (g3 : ¬ n < 0) (g4 : sp.toNatClampNeg + n.toNatClampNeg ≤ am_ln q0.1) (g5 : dp.toNatClampNeg + n.toNatClampNeg ≤ am_ln q1.1) (hdd : 1 ≤ d) (hst : (st.map am_cat).sum ≤ 8)
    (kk : X l md d mc ms false T ks kc kn (pc + 3) L st (am_cpl M q1 (va_cpy (M.2.1 q0) (M.2.1 q1) sp.toNatClampNeg dp.toNatClampNeg n.toNatClampNeg))) : X l md d mc ms false T ks kc kn pc L (vI n :: vI dp :: vR q1 :: vI sp :: vR q0 :: st) M := by
  intro p e s m args below meth c H locs b D cT A ls h0 h1 hl9
  obtain ⟨i, hi, hwi⟩ := am_w_at (b := b) (cT := cT) (M := M) hq0
  obtain ⟨j, hj, hwj⟩ := am_w_at (b := b) (cT := cT) (M := M) hq1
  rw [am_ce_l b cT M hk0] at hwi
  rw [am_ce_l b cT M hk1] at hwj
  refine va_copyl (D := D) (cl := vwCl) (A := A) (ty := .long) h0.1 h0.2.1 (by rw [h0.2.2.2.2.2.2.1]; exact hl9.1.symm) h0.2.2.2.2.1 (h0.2.2.2.1 _ hw.1) (h0.2.2.2.1 _ hw.2.1) (h0.2.2.2.1 _ hw.2.2.1) (h0.2.2.2.1 _ hw.2.2.2) h1.2.2.1 h1.1 h1.2.1 h1.2.2.2.1 i j 1 1 hwi hwj rfl rfl rfl g1 g2 g3 g4 g5 (fun _ _ => rfl) hdd ?_ hd (fun H1 locs1 hP1 hD1 hS1 => ?_)
  · show ((st.map (am_cv b)).map fun v => v.category).sum + _ ≤ 40 * d
    rw [am_cat_sum]
    have : nativeFrameWords "java/lang/System" "arraycopy" 5 + 11 ≤ 32 := by decide
    omega
  · obtain ⟨u1, u2⟩ := am_set_P (M' := am_cpl M q1 (va_cpy (M.2.1 q0) (M.2.1 q1) sp.toNatClampNeg dp.toNatClampNeg n.toNatClampNeg)) hj h1.2.1 (by
      rw [am_ce_l b cT _ hk1]
      congr 5
      funext z
      exact (if_pos rfl).symm) (fun q' h => am_ce_congr b cT rfl (by funext z; exact if_neg h) rfl) hP1
    exact kk p e s m args below meth c H1 locs1 b D cT A ls h0 ⟨u1, u2, h1.2.2.1, hS1, h1.2.2.2.2.1, fun ha => by cases ha⟩ hl9
end CR
end
section
/-! RULES of the layer: null, switches, loops; the memory that calls leave in its shape -/
section QR
variable {l : Launch} {md md2 : MD} {d d2 mc ms mc2 ms2 : Nat} {al : Bool} {T T2 : Option AV × List Key × AM} {ks : List Key} {kc kn pc : Nat} {L L' : List (Option AV)} {st as : List AV} {M M' : AM} {q : Key} {k : Nat}
theorem r_anull (hd : decode md.2.1 pc = .ok (.aconst_null, 1)) (k : X l md d mc ms al T ks kc kn (pc + 1) L (vN :: st) M) : X l md d mc ms al T ks kc kn pc L st M := fun p e s m args below meth c H locs b D cT A ls h0 h1 hl => lv_null h0.1 h0.2.1 hd (k p e s m args below meth c H locs b D cT A ls h0 h1 hl)
theorem r_aload_nN {i : Fin 4} (hd : decode md.2.1 pc = .ok (.aload_n i, 1)) (hi : L[(i : Nat)]? = some (some vN)) (k : X l md d mc ms al T ks kc kn (pc + 1) L (vN :: st) M) : X l md d mc ms al T ks kc kn pc L st M := fun p e s m args below meth c H locs b D cT A ls h0 h1 hl => lv_aload_nN h0.1 h0.2.1 hd rfl (am_lv_at hl hi) (k p e s m args below meth c H locs b D cT A ls h0 h1 hl)
theorem r_aloadN {i : Nat} (hd : decode md.2.1 pc = .ok (.aload i, 2)) (hi : L[i]? = some (some vN)) (k : X l md d mc ms al T ks kc kn (pc + 2) L (vN :: st) M) : X l md d mc ms al T ks kc kn pc L st M := fun p e s m args below meth c H locs b D cT A ls h0 h1 hl => lv_aloadN h0.1 h0.2.1 hd (am_lv_at hl hi) (k p e s m args below meth c H locs b D cT A ls h0 h1 hl)
theorem r_astore_nN {i : Fin 4} (hd : decode md.2.1 pc = .ok (.astore_n i, 1)) (hn : (i : Nat) < md.2.2.1) (hs : am_st1 L (i : Nat) vN = some L') (k : X l md d mc ms al T ks kc kn (pc + 1) L' st M) : X l md d mc ms al T ks kc kn pc L (vN :: st) M := fun p e s m args below meth c H locs b D cT A ls h0 h1 hl => lv_astore_nN h0.1 h0.2.1 hd rfl hl hn rfl (fun ls' hl' => k p e s m args below meth c H locs b D cT A ls' h0 h1 (am_lv_st1 hs rfl hl'))
theorem r_astoreN {i : Nat} (hd : decode md.2.1 pc = .ok (.astore i, 2)) (hn : i < md.2.2.1) (hs : am_st1 L i vN = some L') (k : X l md d mc ms al T ks kc kn (pc + 2) L' st M) : X l md d mc ms al T ks kc kn pc L (vN :: st) M := fun p e s m args below meth c H locs b D cT A ls h0 h1 hl => lv_astoreN h0.1 h0.2.1 hd hl hn rfl (fun ls' hl' => k p e s m args below meth c H locs b D cT A ls' h0 h1 (am_lv_st1 hs rfl hl'))
theorem r_ifnullR {off : Int} (hd : decode md.2.1 pc = .ok (.ifnull off, 3)) (k : X l md d mc ms al T ks kc kn (pc + 3) L st M) : X l md d mc ms al T ks kc kn pc L (vR q :: st) M := fun p e s m args below meth c H locs b D cT A ls h0 h1 hl => lv_ifnull h0.1 h0.2.1 hd (k p e s m args below meth c H locs b D cT A ls h0 h1 hl)
theorem r_ifnullN {off : Int} {tgt : Nat} (hd : decode md.2.1 pc = .ok (.ifnull off, 3)) (ht : (pc : Int) + off = (tgt : Int)) (k : X l md d mc ms al T ks kc kn tgt L st M) : X l md d mc ms al T ks kc kn pc L (vN :: st) M := fun p e s m args below meth c H locs b D cT A ls h0 h1 hl => lv_ifnullN h0.1 h0.2.1 hd ht (k p e s m args below meth c H locs b D cT A ls h0 h1 hl)
theorem r_ifnonnullR {off : Int} {tgt : Nat} (hd : decode md.2.1 pc = .ok (.ifnonnull off, 3)) (ht : (pc : Int) + off = (tgt : Int)) (k : X l md d mc ms al T ks kc kn tgt L st M) : X l md d mc ms al T ks kc kn pc L (vR q :: st) M := fun p e s m args below meth c H locs b D cT A ls h0 h1 hl => lv_ifnonnull h0.1 h0.2.1 hd ht (k p e s m args below meth c H locs b D cT A ls h0 h1 hl)
theorem r_ifnonnullN {off : Int} (hd : decode md.2.1 pc = .ok (.ifnonnull off, 3)) (k : X l md d mc ms al T ks kc kn (pc + 3) L st M) : X l md d mc ms al T ks kc kn pc L (vN :: st) M := fun p e s m args below meth c H locs b D cT A ls h0 h1 hl => lv_ifnonnullN h0.1 h0.2.1 hd (k p e s m args below meth c H locs b D cT A ls h0 h1 hl)
theorem r_tswIn {dflt lo hi : Int} {offs : Array Int} {len : Nat} {x kx : Int32} {off : Int} {tgt : Nat} (hd : decode md.2.1 pc = .ok (.tableswitch dflt lo hi offs, len)) (hx : x = kx) (h1 : ¬ kx.toInt < lo) (h2 : ¬ hi < kx.toInt) (ho : offs[(kx.toInt - lo).toNat]? = some off) (ht : (pc : Int) + off = (tgt : Int)) (k : X l md d mc ms al T ks kc kn tgt L st M) : X l md d mc ms al T ks kc kn pc L (vI x :: st) M := by
  subst hx
  exact fun p e s m args below meth c H locs b D cT A ls h0 hh1 hl => lv_tableIn h0.1 h0.2.1 hd h1 h2 ho ht (k p e s m args below meth c H locs b D cT A ls h0 hh1 hl)
theorem r_tswOut {dflt lo hi : Int} {offs : Array Int} {len : Nat} {x : Int32} {tgt : Nat} (hd : decode md.2.1 pc = .ok (.tableswitch dflt lo hi offs, len)) (h : x.toInt < lo ∨ hi < x.toInt) (ht : (pc : Int) + dflt = (tgt : Int)) (k : X l md d mc ms al T ks kc kn tgt L st M) : X l md d mc ms al T ks kc kn pc L (vI x :: st) M :=
  fun p e s m args below meth c H locs b D cT A ls h0 hh1 hl => lv_tableOut h0.1 h0.2.1 hd h ht (k p e s m args below meth c H locs b D cT A ls h0 hh1 hl)
theorem am_neI {x k : Int32} {z : Int} (h : ¬ x = k) (hk : k.toInt = z) : x.toInt ≠ z := fun e => h (Int32.toInt_inj.mp (e.trans hk.symm))
theorem r_iald' {i : Int32} {n : Nat} (hd : decode md.2.1 pc = .ok (.iaload, 1)) (hq : q ∈ ks) (hk : am_kd q.1 = 11) (hin : vp_in i (am_ln q.1)) (hi : i.toNatClampNeg = n) (kk : X l md d mc ms al T ks kc kn (pc + 1) L (vI (M.1 q n) :: st) M) : X l md d mc ms al T ks kc kn pc L (vI i :: vR q :: st) M := by subst hi; exact r_iald hd hq hk hin kk
theorem r_zald' {i : Int32} {n : Nat} (hd : decode md.2.1 pc = .ok (.baload, 1)) (hq : q ∈ ks) (hk : am_kd q.1 = 13) (hin : vp_in i (am_ln q.1)) (hi : i.toNatClampNeg = n) (kk : X l md d mc ms al T ks kc kn (pc + 1) L (vI (M.1 q n) :: st) M) : X l md d mc ms al T ks kc kn pc L (vI i :: vR q :: st) M := by subst hi; exact r_zald hd hq hk hin kk
theorem r_lald' {i : Int32} {n : Nat} (hd : decode md.2.1 pc = .ok (.laload, 1)) (hq : q ∈ ks) (hk : am_kd q.1 = 12) (hin : vp_in i (am_ln q.1)) (hi : i.toNatClampNeg = n) (kk : X l md d mc ms al T ks kc kn (pc + 1) L (vJ (M.2.1 q n) :: st) M) : X l md d mc ms al T ks kc kn pc L (vI i :: vR q :: st) M := by subst hi; exact r_lald hd hq hk hin kk
end QR
/-- a memory whose rows stay where they were made: ints, longs, which land (number) the reader has (0), which one holds in village v (v + 1) -/
abbrev PM : Type := (Key → Nat → Int32) × (Key → Nat → Int64) × (Nat → Option Nat)
def lay0 (r : Nat → Option Nat) (v : Nat) (k : Nat) : Option Key := match k with
  | 0 => some (1, 0, 0)
  | 1 => some (1, 1, 0)
  | 2 => some (1, 2, 0)
  | 4 => some (9, 0, 0)
  | 5 => some (19, 0, 0)
  | 7 => some (20, 0, 0)
  | 8 => some (25, 0, 0)
  | 9 => some (28, 0, 0)
  | 10 => some (29, 0, 0)
  | 11 => some (31, 0, 0)
  | _ => none
def lay1 (r : Nat → Option Nat) (v : Nat) (k : Nat) : Option Key := match k with
  | 1 => some (2, v, 0)
  | 2 => some (4, v, 0)
  | 5 => (r (v + 1)).map fun z => (11, z, 0)
  | 7 => some (6, v, 0)
  | 8 => some (7, v, 0)
  | 9 => some (8, v, 0)
  | _ => none
def lay9 (r : Nat → Option Nat) (v : Nat) (k : Nat) : Option Key := match k with
  | 0 => some (10, 0, 0)
  | 3 => (r 0).map fun z => (11, z, 0)
  | _ => none
def lay11 (r : Nat → Option Nat) (v : Nat) (k : Nat) : Option Key := match k with
  | 2 => some (12, v, 0)
  | 3 => some (13, v, 0)
  | 4 => some (14, v, 0)
  | 5 => some (15, v, 0)
  | 6 => some (16, v, 0)
  | 7 => some (17, v, 0)
  | 8 => some (18, v, 0)
  | _ => none
def lay20 (r : Nat → Option Nat) (v : Nat) (k : Nat) : Option Key := match k with
  | 2 => some (21, 0, 0)
  | 3 => some (22, 0, 0)
  | 4 => some (23, 0, 0)
  | 5 => some (24, 0, 0)
  | _ => none
def lay25 (r : Nat → Option Nat) (v : Nat) (k : Nat) : Option Key := match k with
  | 0 => some (26, 0, 0)
  | _ => none
def lay28 (r : Nat → Option Nat) (v : Nat) (k : Nat) : Option Key := match k with
  | 3 => some (1, 3, 0)
  | _ => none
def lay29 (r : Nat → Option Nat) (v : Nat) (k : Nat) : Option Key := match k with
  | 1 => some (30, 0, 0)
  | _ => none
def lay32 (r : Nat → Option Nat) (v : Nat) (k : Nat) : Option Key := match k with
  | 2 => some (33, v, 0)
  | _ => none
def lay40 (r : Nat → Option Nat) (v : Nat) (k : Nat) : Option Key := match k with
  | 4 => some (41, 0, 0)
  | 5 => some (42, 0, 0)
  | 6 => some (43, 0, 0)
  | 7 => some (44, 0, 0)
  | 8 => some (45, 0, 0)
  | 9 => some (46, 0, 0)
  | 10 => some (47, 0, 0)
  | 11 => some (48, 0, 0)
  | 12 => some (49, 0, 0)
  | 18 => some (50, 0, 0)
  | 19 => some (51, 0, 0)
  | 20 => some (52, 0, 0)
  | 21 => some (53, 0, 0)
  | 22 => some (54, 0, 0)
  | 23 => some (55, 0, 0)
  | 24 => some (56, 0, 0)
  | 25 => some (57, 0, 0)
  | 26 => some (58, 0, 0)
  | 30 => some (59, 0, 0)
  | 31 => some (60, 0, 0)
  | 37 => some (61, 0, 0)
  | 38 => some (62, 0, 0)
  | 39 => some (63, 0, 0)
  | 40 => some (64, 0, 0)
  | 41 => some (65, 0, 0)
  | 42 => some (66, 0, 0)
  | 43 => some (67, 0, 0)
  | 44 => some (68, 0, 0)
  | 45 => some (69, 0, 0)
  | 47 => some (70, 0, 0)
  | 48 => some (71, 0, 0)
  | 49 => some (72, 0, 0)
  | 53 => some (73, 0, 0)
  | 54 => some (74, 0, 0)
  | 55 => some (75, 0, 0)
  | 56 => some (76, 0, 0)
  | 57 => some (77, 0, 0)
  | 67 => some (78, 0, 0)
  | 68 => some (79, 0, 0)
  | 69 => some (80, 0, 0)
  | 70 => some (81, 0, 0)
  | 71 => some (82, 0, 0)
  | 72 => some (83, 0, 0)
  | 73 => some (84, 0, 0)
  | 74 => some (85, 0, 0)
  | 75 => some (86, 0, 0)
  | 76 => some (87, 0, 0)
  | 77 => some (88, 0, 0)
  | 79 => some (89, 0, 0)
  | 80 => some (90, 0, 0)
  | 81 => some (91, 0, 0)
  | 82 => some (92, 0, 0)
  | 83 => some (93, 0, 0)
  | _ => none
def lay (r : Nat → Option Nat) (q : Key) (k : Nat) : Option Key := match q with
  | (0, v, _) => lay0 r v k
  | (1, v, 0) => lay1 r v k
  | (2, v, _) => some (3, v, k)
  | (4, v, _) => some (5, v, k)
  | (9, 0, 0) => lay9 r 0 k
  | (11, v, _) => lay11 r v k
  | (19, _, _) => some (11, k, 0)
  | (20, v, _) => lay20 r v k
  | (25, v, _) => lay25 r v k
  | (26, _, _) => some (27, 0, k)
  | (28, v, _) => lay28 r v k
  | (29, v, _) => lay29 r v k
  | (31, _, _) => some (32, k, 0)
  | (32, v, _) => lay32 r v k
  | (40, v, _) => lay40 r v k
  | _ => none
def en (u : PM) : AM := (u.1, u.2.1, lay u.2.2)
def pi (u : PM) (q : Key) (k : Nat) (x : Int32) : PM := (fun q' k' => if k' = k ∧ q' = q then x else u.1 q' k', u.2)
def pl (u : PM) (q : Key) (k : Nat) (x : Int64) : PM := (u.1, fun q' k' => if k' = k ∧ q' = q then x else u.2.1 q' k', u.2.2)
def pr (u : PM) (v : Nat) (x : Option Nat) : PM := (u.1, u.2.1, fun v' => if v' = v then x else u.2.2 v')
def pci (u : PM) (q : Key) (f : Nat → Int32) : PM := (fun q' k => if q' = q then f k else u.1 q' k, u.2)
def pcl (u : PM) (q : Key) (f : Nat → Int64) : PM := (u.1, fun q' k => if q' = q then f k else u.2.1 q' k, u.2.2)
theorem en_pi (u : PM) (q : Key) (k : Nat) (x : Int32) : am_ui (en u) q k x = en (pi u q k x) := rfl
theorem en_pl (u : PM) (q : Key) (k : Nat) (x : Int64) : am_ul (en u) q k x = en (pl u q k x) := rfl
theorem en_pci (u : PM) (q : Key) (f : Nat → Int32) : am_cpi (en u) q f = en (pci u q f) := rfl
theorem en_pcl (u : PM) (q : Key) (f : Nat → Int64) : am_cpl (en u) q f = en (pcl u q f) := rfl
theorem en_pr1 (u : PM) (v : Nat) (x : Option Nat) : am_ur (en u) (1, v, 0) 5 (x.map fun z => (11, z, 0)) = en (pr u (v + 1) x) := by
  refine congrArg (fun f => (u.1, u.2.1, f)) (funext fun q => funext fun k => ?_)
  show (if k = 5 ∧ q = (1, v, 0) then _ else lay u.2.2 q k) = lay (pr u (v + 1) x).2.2 q k
  by_cases e : k = 5 ∧ q = (1, v, 0)
  · obtain ⟨rfl, rfl⟩ := e
    rw [if_pos ⟨rfl, rfl⟩]
    show _ = ((pr u (v + 1) x).2.2 (v + 1)).map _
    rw [show (pr u (v + 1) x).2.2 (v + 1) = x from if_pos rfl]
  · rw [if_neg e]
    unfold lay
    split
    all_goals (try rfl)
    · next v' =>
      unfold lay1
      split
      all_goals (try rfl)
      rw [show (pr u (v + 1) x).2.2 (v' + 1) = u.2.2 (v' + 1) from if_neg (fun h => e ⟨rfl, by rw [Nat.succ.inj h]⟩)]
theorem en_pr4 (u : PM) (x : Option Nat) : am_ur (en u) (9, 0, 0) 3 (x.map fun z => (11, z, 0)) = en (pr u 0 x) := by
  refine congrArg (fun f => (u.1, u.2.1, f)) (funext fun q => funext fun k => ?_)
  show (if k = 3 ∧ q = (9, 0, 0) then _ else lay u.2.2 q k) = lay (pr u 0 x).2.2 q k
  by_cases e : k = 3 ∧ q = (9, 0, 0)
  · obtain ⟨rfl, rfl⟩ := e
    rfl
  · rw [if_neg e]
    unfold lay
    split
    all_goals (try rfl)
    · unfold lay9
      split
      all_goals (try rfl)
      exact absurd ⟨rfl, rfl⟩ e
/-- a loop: the body goes on (inl) or leaves (inr) -/
def am_loop {S E : Type} (f : S → Option (S ⊕ E)) : Nat → S → Option E
  | 0, _ => none
  | n + 1, s => match f s with
    | none => none
    | some (.inl s') => am_loop f n s'
    | some (.inr e) => some e
theorem am_loop_of {S E : Type} {f : S → Option (S ⊕ E)} {P : S → Prop} {Pe : E → Prop} (h : ∀ s x, f s = some x → (∀ s', x = .inl s' → P s') → (∀ e, x = .inr e → Pe e) → P s) : ∀ (n : Nat) (s : S) (e : E), am_loop f n s = some e → Pe e → P s
  | 0, s, e, h1, _ => by cases h1
  | n + 1, s, e, h1, he => by
    unfold am_loop at h1
    cases hx : f s with
    | none => rw [hx] at h1; cases h1
    | some x =>
      rw [hx] at h1
      refine h s x hx (fun s' hs => ?_) (fun e' hs => ?_)
      · subst hs
        exact am_loop_of h n s' e h1 he
      · subst hs
        cases h1
        exact he
theorem am_bind {A B : Type} {o : Option A} {f : A → Option B} {r : B} (h : o.bind f = some r) : ∃ x, o = some x ∧ f x = some r := by
  cases o with
  | none => cases h
  | some x => exact ⟨x, rfl, h⟩
theorem am_if {A : Type} {c : Prop} [Decidable c] {a b : Option A} {r : A} (h : (if c then a else b) = some r) : (c → a = some r) ∧ (¬ c → b = some r) := by
  by_cases hc : c
  · rw [if_pos hc] at h; exact ⟨fun _ => h, fun h2 => absurd hc h2⟩
  · rw [if_neg hc] at h; exact ⟨fun h2 => absurd h2 hc, fun _ => h⟩
theorem am_chk {A : Type} {c : Prop} [Decidable c] {a : Option A} {r : A} (h : (if c then a else none) = some r) : c ∧ a = some r := by
  by_cases hc : c
  · rw [if_pos hc] at h; exact ⟨hc, h⟩
  · rw [if_neg hc] at h; cases h
theorem am_inj {A : Type} {a b : A} (h : some a = some b) : a = b := Option.some.inj h
theorem am_bool {x : Int32} (h : x = 0 ∨ x = 1) : narrow .boolean (.int x) = .int x ∧ fits .boolean (.int x) = true := by
  rcases h with rfl | rfl <;> exact ⟨rfl, rfl⟩
theorem vp_lt {i : Int32} {n : Nat} (h : ¬ (i < 0 ∨ n ≤ i.toNatClampNeg)) : i.toNatClampNeg < n := Nat.not_le.mp fun q => h (Or.inr q)
end
section
/-! what the rows by program stand on -/
theorem am_nb6 : (List.range 94).all (fun s => decide (am_nv s ≤ 6) && decide (am_nh s ≤ 6)) = true := by decide +kernel
theorem kC_all : (List.range 34).all (fun s => (List.range 6).all fun v => (List.range 6).all fun h => !(decide (v < am_nv s) && decide (h < am_nh s)) || kC.any (fun q => q.1 == s && (q.2.1 == v && q.2.2 == h))) = true := by decide +kernel
theorem kM_all : (List.range 94).all (fun s => decide (s < 40) || kM.any (fun q => q.1 == s && (q.2.1 == 0 && q.2.2 == 0))) = true := by decide +kernel
theorem am_any {ks : List Key} {s v h : Nat} (e : ks.any (fun q => q.1 == s && (q.2.1 == v && q.2.2 == h)) = true) : ((s, v, h) : Key) ∈ ks := by
  obtain ⟨⟨s', v', h'⟩, hm, hq⟩ := List.any_eq_true.mp e
  simp only [Bool.and_eq_true, beq_iff_eq] at hq
  obtain ⟨rfl, rfl, rfl⟩ := hq
  exact hm
theorem kC_mem {s v h : Nat} (hs : s < 34) (hv : v < am_nv s) (hh : h < am_nh s) : ((s, v, h) : Key) ∈ kC := by
  have h6 := List.all_eq_true.mp am_nb6 s (List.mem_range.mpr (by omega))
  simp only [Bool.and_eq_true, decide_eq_true_eq] at h6
  have h1 := List.all_eq_true.mp (List.all_eq_true.mp (List.all_eq_true.mp kC_all s (List.mem_range.mpr hs)) v (List.mem_range.mpr (by omega))) h (List.mem_range.mpr (by omega))
  simp only [hv, hh, decide_true, Bool.and_self, Bool.not_true, Bool.false_or] at h1
  exact am_any h1
theorem kM_mem {s : Nat} (hs : s < 94 ∧ 40 ≤ s) : ((s, 0, 0) : Key) ∈ kM := by
  have h1 := List.all_eq_true.mp kM_all s (List.mem_range.mpr hs.1)
  rw [decide_eq_false (by omega), Bool.false_or] at h1
  exact am_any h1
theorem am_nchk {A : Type} {c : Prop} [Decidable c] {a : Option A} {r : A} (h : (if c then none else a) = some r) : ¬ c ∧ a = some r := by
  by_cases hc : c
  · rw [if_pos hc] at h; cases h
  · rw [if_neg hc] at h; exact ⟨hc, h⟩
theorem vp_le {i : Int32} {n k : Nat} (h : ¬ (i < 0 ∨ n ≤ i.toNatClampNeg)) (hk : n ≤ k) : ¬ (i < 0 ∨ k ≤ i.toNatClampNeg) := fun q => h (q.imp id (fun z => Nat.le_trans hk z))
section HR
variable {l : Launch} {md md2 : MD} {d d2 mc ms mc2 ms2 : Nat} {al : Bool} {T T2 : Option AV × List Key × AM} {ks : List Key} {kc kn pc : Nat} {L L' : List (Option AV)} {st as : List AV} {M M' : AM} {q : Key} {k : Nat}
theorem r_geti_ {x : Int32} {idx ci : Nat} (hw : FW md.1.cls idx ci k 0) (hd : decode md.2.1 pc = .ok (.getfield idx, 3)) (hq : q ∈ ks) (hk : am_kd q.1 = ci) (hl : k < am_ln q.1) (hx : M.1 q k = x) (kk : X l md d mc ms al T ks kc kn (pc + 3) L (vI x :: st) M) : X l md d mc ms al T ks kc kn pc L (vR q :: st) M := by subst hx; exact r_geti hw hd hq hk hl kk
theorem r_getl_ {x : Int64} {idx ci : Nat} (hw : FW md.1.cls idx ci k 1) (hd : decode md.2.1 pc = .ok (.getfield idx, 3)) (hq : q ∈ ks) (hk : am_kd q.1 = ci) (hl : k < am_ln q.1) (hx : M.2.1 q k = x) (kk : X l md d mc ms al T ks kc kn (pc + 3) L (vJ x :: st) M) : X l md d mc ms al T ks kc kn pc L (vR q :: st) M := by subst hx; exact r_getl hw hd hq hk hl kk
theorem r_iald_ {i x : Int32} {n : Nat} (hd : decode md.2.1 pc = .ok (.iaload, 1)) (hq : q ∈ ks) (hk : am_kd q.1 = 11) (hin : vp_in i (am_ln q.1)) (hi : i.toNatClampNeg = n) (hx : M.1 q n = x) (kk : X l md d mc ms al T ks kc kn (pc + 1) L (vI x :: st) M) : X l md d mc ms al T ks kc kn pc L (vI i :: vR q :: st) M := by subst hx; exact r_iald' hd hq hk hin hi kk
theorem r_zald_ {i x : Int32} {n : Nat} (hd : decode md.2.1 pc = .ok (.baload, 1)) (hq : q ∈ ks) (hk : am_kd q.1 = 13) (hin : vp_in i (am_ln q.1)) (hi : i.toNatClampNeg = n) (hx : M.1 q n = x) (kk : X l md d mc ms al T ks kc kn (pc + 1) L (vI x :: st) M) : X l md d mc ms al T ks kc kn pc L (vI i :: vR q :: st) M := by subst hx; exact r_zald' hd hq hk hin hi kk
theorem r_lald_ {i : Int32} {x : Int64} {n : Nat} (hd : decode md.2.1 pc = .ok (.laload, 1)) (hq : q ∈ ks) (hk : am_kd q.1 = 12) (hin : vp_in i (am_ln q.1)) (hi : i.toNatClampNeg = n) (hx : M.2.1 q n = x) (kk : X l md d mc ms al T ks kc kn (pc + 1) L (vJ x :: st) M) : X l md d mc ms al T ks kc kn pc L (vI i :: vR q :: st) M := by subst hx; exact r_lald' hd hq hk hin hi kk
end HR
theorem inWd0 : ∀ w ∈ u_ws RX0 TX0 5, w ∈ Wd := fun w hw => by
  have h1 := List.all_eq_true.mp (show (u_ws RX0 TX0 5).all (fun w => decide (w ∈ lw_tbl) && goodWord w) = true by decide +kernel) w hw
  simp only [Bool.and_eq_true, decide_eq_true_eq] at h1
  exact Wd_of h1.1 h1.2
theorem inWd1 : ∀ w ∈ u_ws RX1 TX1 6, w ∈ Wd := fun w hw => by
  have h1 := List.all_eq_true.mp (show (u_ws RX1 TX1 6).all (fun w => decide (w ∈ lw_tbl) && goodWord w) = true by decide +kernel) w hw
  simp only [Bool.and_eq_true, decide_eq_true_eq] at h1
  exact Wd_of h1.1 h1.2
theorem inWd2 : ∀ w ∈ u_ws RX2 TX2 9, w ∈ Wd := fun w hw => by
  have h1 := List.all_eq_true.mp (show (u_ws RX2 TX2 9).all (fun w => decide (w ∈ lw_tbl) && goodWord w) = true by decide +kernel) w hw
  simp only [Bool.and_eq_true, decide_eq_true_eq] at h1
  exact Wd_of h1.1 h1.2
theorem inWd3 : ∀ w ∈ u_ws RX3 TX3 9, w ∈ Wd := fun w hw => by
  have h1 := List.all_eq_true.mp (show (u_ws RX3 TX3 9).all (fun w => decide (w ∈ lw_tbl) && goodWord w) = true by decide +kernel) w hw
  simp only [Bool.and_eq_true, decide_eq_true_eq] at h1
  exact Wd_of h1.1 h1.2
theorem inWd4 : ∀ w ∈ u_ws RX4 TX4 4, w ∈ Wd := fun w hw => by
  have h1 := List.all_eq_true.mp (show (u_ws RX4 TX4 4).all (fun w => decide (w ∈ lw_tbl) && goodWord w) = true by decide +kernel) w hw
  simp only [Bool.and_eq_true, decide_eq_true_eq] at h1
  exact Wd_of h1.1 h1.2
theorem inWd5 : ∀ w ∈ u_ws RX5 TX5 2, w ∈ Wd := fun w hw => by
  have h1 := List.all_eq_true.mp (show (u_ws RX5 TX5 2).all (fun w => decide (w ∈ lw_tbl) && goodWord w) = true by decide +kernel) w hw
  simp only [Bool.and_eq_true, decide_eq_true_eq] at h1
  exact Wd_of h1.1 h1.2
theorem inWd6 : ∀ w ∈ u_ws RX6 TX6 4, w ∈ Wd := fun w hw => by
  have h1 := List.all_eq_true.mp (show (u_ws RX6 TX6 4).all (fun w => decide (w ∈ lw_tbl) && goodWord w) = true by decide +kernel) w hw
  simp only [Bool.and_eq_true, decide_eq_true_eq] at h1
  exact Wd_of h1.1 h1.2
theorem inWd7 : ∀ w ∈ u_ws RX7 TX7 3, w ∈ Wd := fun w hw => by
  have h1 := List.all_eq_true.mp (show (u_ws RX7 TX7 3).all (fun w => decide (w ∈ lw_tbl) && goodWord w) = true by decide +kernel) w hw
  simp only [Bool.and_eq_true, decide_eq_true_eq] at h1
  exact Wd_of h1.1 h1.2
theorem inWd8 : ∀ w ∈ u_ws RX8 TX8 10, w ∈ Wd := fun w hw => by
  have h1 := List.all_eq_true.mp (show (u_ws RX8 TX8 10).all (fun w => decide (w ∈ lw_tbl) && goodWord w) = true by decide +kernel) w hw
  simp only [Bool.and_eq_true, decide_eq_true_eq] at h1
  exact Wd_of h1.1 h1.2
theorem inWd9 : ∀ w ∈ u_ws RX9 TX9 12, w ∈ Wd := fun w hw => by
  have h1 := List.all_eq_true.mp (show (u_ws RX9 TX9 12).all (fun w => decide (w ∈ lw_tbl) && goodWord w) = true by decide +kernel) w hw
  simp only [Bool.and_eq_true, decide_eq_true_eq] at h1
  exact Wd_of h1.1 h1.2
theorem inWd10 : ∀ w ∈ u_ws RX10 TX10 84, w ∈ Wd := fun w hw => by
  have h1 := List.all_eq_true.mp (show (u_ws RX10 TX10 84).all (fun w => decide (w ∈ lw_tbl) && goodWord w) = true by decide +kernel) w hw
  simp only [Bool.and_eq_true, decide_eq_true_eq] at h1
  exact Wd_of h1.1 h1.2
end
