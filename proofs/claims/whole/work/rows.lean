section
-- ===== PART A: goes FIRST, ahead of the names: the tables' words, and 'selects' of the private methods out of them =====
/-- a private method of a class that the tables say can be made, by its rows of tables_1 -/
def lw_okq (q : MethodName × Nat) : Prop := (q.1.cls ≠ "java/lang/invoke/MethodHandle" ∧ q.1.cls ≠ "java/lang/invoke/VarHandle") ∧ Cond.instantiable q.1.cls q.2 ∈ tables_1 ∧ Cond.privateMethod q.1 ∈ tables_1 ∧ Cond.instanceMethod q.1 ∈ tables_1
theorem lw_p0 : lw_okq (⟨"FireFromFire$Reader", "takeWord", "()I"⟩, 4) := ⟨⟨by decide +kernel, by decide +kernel⟩, List.mem_of_getElem? (i := 148) (by decide +kernel), List.mem_of_getElem? (i := 413) (by decide +kernel), List.mem_of_getElem? (i := 414) (by decide +kernel)⟩
theorem lw_p1 : lw_okq (⟨"FireFromFire$Reader", "sign", "()I"⟩, 4) := ⟨⟨by decide +kernel, by decide +kernel⟩, List.mem_of_getElem? (i := 148) (by decide +kernel), List.mem_of_getElem? (i := 417) (by decide +kernel), List.mem_of_getElem? (i := 418) (by decide +kernel)⟩
theorem lw_p2 : lw_okq (⟨"FireFromFire$Reader", "takeAll", "(Ljava/lang/String;)Z"⟩, 4) := ⟨⟨by decide +kernel, by decide +kernel⟩, List.mem_of_getElem? (i := 148) (by decide +kernel), List.mem_of_getElem? (i := 422) (by decide +kernel), List.mem_of_getElem? (i := 423) (by decide +kernel)⟩
theorem lw_p3 : lw_okq (⟨"FireFromFire$Reader", "take", "(I)Z"⟩, 4) := ⟨⟨by decide +kernel, by decide +kernel⟩, List.mem_of_getElem? (i := 148) (by decide +kernel), List.mem_of_getElem? (i := 474) (by decide +kernel), List.mem_of_getElem? (i := 475) (by decide +kernel)⟩
theorem lw_p4 : lw_okq (⟨"FireFromFire$Reader", "takeNext", "()Z"⟩, 4) := ⟨⟨by decide +kernel, by decide +kernel⟩, List.mem_of_getElem? (i := 148) (by decide +kernel), List.mem_of_getElem? (i := 483) (by decide +kernel), List.mem_of_getElem? (i := 484) (by decide +kernel)⟩
theorem lw_p5 : lw_okq (⟨"FireFromFire$Reader", "takeWeather", "()I"⟩, 4) := ⟨⟨by decide +kernel, by decide +kernel⟩, List.mem_of_getElem? (i := 148) (by decide +kernel), List.mem_of_getElem? (i := 487) (by decide +kernel), List.mem_of_getElem? (i := 488) (by decide +kernel)⟩
theorem lw_p6 : lw_okq (⟨"FireFromFire$Reader", "takeNumber", "()I"⟩, 4) := ⟨⟨by decide +kernel, by decide +kernel⟩, List.mem_of_getElem? (i := 148) (by decide +kernel), List.mem_of_getElem? (i := 491) (by decide +kernel), List.mem_of_getElem? (i := 492) (by decide +kernel)⟩
theorem lw_p7 : lw_okq (⟨"FireFromFire$Reader", "takeEither", "(I)Z"⟩, 4) := ⟨⟨by decide +kernel, by decide +kernel⟩, List.mem_of_getElem? (i := 148) (by decide +kernel), List.mem_of_getElem? (i := 502) (by decide +kernel), List.mem_of_getElem? (i := 503) (by decide +kernel)⟩
theorem lw_p8 : lw_okq (⟨"FireFromFire$Reader", "takePart", "(I)Z"⟩, 4) := ⟨⟨by decide +kernel, by decide +kernel⟩, List.mem_of_getElem? (i := 148) (by decide +kernel), List.mem_of_getElem? (i := 506) (by decide +kernel), List.mem_of_getElem? (i := 507) (by decide +kernel)⟩
theorem lw_p9 : lw_okq (⟨"FireFromFire$Reader", "takeTest", "(I)Z"⟩, 4) := ⟨⟨by decide +kernel, by decide +kernel⟩, List.mem_of_getElem? (i := 148) (by decide +kernel), List.mem_of_getElem? (i := 510) (by decide +kernel), List.mem_of_getElem? (i := 511) (by decide +kernel)⟩
theorem lw_p10 : lw_okq (⟨"FireFromFire$Village", "isKeeping", "(LFireFromFire$House;II)Z"⟩, 10) := ⟨⟨by decide +kernel, by decide +kernel⟩, List.mem_of_getElem? (i := 29) (by decide +kernel), List.mem_of_getElem? (i := 636) (by decide +kernel), List.mem_of_getElem? (i := 637) (by decide +kernel)⟩
theorem lw_p11 : lw_okq (⟨"FireFromFire$Village", "isSending", "(LFireFromFire$House;II)Z"⟩, 10) := ⟨⟨by decide +kernel, by decide +kernel⟩, List.mem_of_getElem? (i := 29) (by decide +kernel), List.mem_of_getElem? (i := 646) (by decide +kernel), List.mem_of_getElem? (i := 647) (by decide +kernel)⟩
theorem lw_p12 : lw_okq (⟨"FireFromFire$Hours", "burn", "(LFireFromFire$House;II)V"⟩, 6) := ⟨⟨by decide +kernel, by decide +kernel⟩, List.mem_of_getElem? (i := 171) (by decide +kernel), List.mem_of_getElem? (i := 663) (by decide +kernel), List.mem_of_getElem? (i := 664) (by decide +kernel)⟩
theorem lw_p13 : lw_okq (⟨"FireFromFire$Hours", "goNearer", "(LFireFromFire$Village;LFireFromFire$House;I)V"⟩, 6) := ⟨⟨by decide +kernel, by decide +kernel⟩, List.mem_of_getElem? (i := 171) (by decide +kernel), List.mem_of_getElem? (i := 667) (by decide +kernel), List.mem_of_getElem? (i := 668) (by decide +kernel)⟩
theorem lw_p14 : lw_okq (⟨"FireFromFire$Hours", "bringNearer", "(LFireFromFire$House;I)V"⟩, 6) := ⟨⟨by decide +kernel, by decide +kernel⟩, List.mem_of_getElem? (i := 171) (by decide +kernel), List.mem_of_getElem? (i := 673) (by decide +kernel), List.mem_of_getElem? (i := 674) (by decide +kernel)⟩
theorem lw_p15 : lw_okq (⟨"FireFromFire$Paths", "isReached", "(II)Z"⟩, 2) := ⟨⟨by decide +kernel, by decide +kernel⟩, List.mem_of_getElem? (i := 199) (by decide +kernel), List.mem_of_getElem? (i := 734) (by decide +kernel), List.mem_of_getElem? (i := 735) (by decide +kernel)⟩
def lw_privs_1 : List (MethodName × Nat) := [(⟨"FireFromFire$Reader", "takeWord", "()I"⟩, 4), (⟨"FireFromFire$Reader", "sign", "()I"⟩, 4), (⟨"FireFromFire$Reader", "takeAll", "(Ljava/lang/String;)Z"⟩, 4), (⟨"FireFromFire$Reader", "take", "(I)Z"⟩, 4), (⟨"FireFromFire$Reader", "takeNext", "()Z"⟩, 4), (⟨"FireFromFire$Reader", "takeWeather", "()I"⟩, 4), (⟨"FireFromFire$Reader", "takeNumber", "()I"⟩, 4), (⟨"FireFromFire$Reader", "takeEither", "(I)Z"⟩, 4), (⟨"FireFromFire$Reader", "takePart", "(I)Z"⟩, 4), (⟨"FireFromFire$Reader", "takeTest", "(I)Z"⟩, 4), (⟨"FireFromFire$Village", "isKeeping", "(LFireFromFire$House;II)Z"⟩, 10), (⟨"FireFromFire$Village", "isSending", "(LFireFromFire$House;II)Z"⟩, 10), (⟨"FireFromFire$Hours", "burn", "(LFireFromFire$House;II)V"⟩, 6), (⟨"FireFromFire$Hours", "goNearer", "(LFireFromFire$Village;LFireFromFire$House;I)V"⟩, 6), (⟨"FireFromFire$Hours", "bringNearer", "(LFireFromFire$House;I)V"⟩, 6), (⟨"FireFromFire$Paths", "isReached", "(II)Z"⟩, 2)]
theorem lw_r1 : ∀ q ∈ lw_privs_1, lw_okq q := List.forall_mem_cons.mpr ⟨lw_p0, List.forall_mem_cons.mpr ⟨lw_p1, List.forall_mem_cons.mpr ⟨lw_p2, List.forall_mem_cons.mpr ⟨lw_p3, List.forall_mem_cons.mpr ⟨lw_p4, List.forall_mem_cons.mpr ⟨lw_p5, List.forall_mem_cons.mpr ⟨lw_p6, List.forall_mem_cons.mpr ⟨lw_p7, List.forall_mem_cons.mpr ⟨lw_p8, List.forall_mem_cons.mpr ⟨lw_p9, List.forall_mem_cons.mpr ⟨lw_p10, List.forall_mem_cons.mpr ⟨lw_p11, List.forall_mem_cons.mpr ⟨lw_p12, List.forall_mem_cons.mpr ⟨lw_p13, List.forall_mem_cons.mpr ⟨lw_p14, List.forall_mem_cons.mpr ⟨lw_p15, fun _ h => absurd h List.not_mem_nil⟩⟩⟩⟩⟩⟩⟩⟩⟩⟩⟩⟩⟩⟩⟩⟩
theorem lw_p16 : lw_okq (⟨"FireFromFire$Odds", "shareOf", "(II)J"⟩, 4) := ⟨⟨by decide +kernel, by decide +kernel⟩, List.mem_of_getElem? (i := 213) (by decide +kernel), List.mem_of_getElem? (i := 765) (by decide +kernel), List.mem_of_getElem? (i := 766) (by decide +kernel)⟩
theorem lw_p17 : lw_okq (⟨"FireFromFire", "findTape", "(I)LFireFromFire$Tape;"⟩, 12) := ⟨⟨by decide +kernel, by decide +kernel⟩, List.mem_of_getElem? (i := 21) (by decide +kernel), List.mem_of_getElem? (i := 818) (by decide +kernel), List.mem_of_getElem? (i := 819) (by decide +kernel)⟩
theorem lw_p18 : lw_okq (⟨"FireFromFire$Acts", "note", "(I)V"⟩, 5) := ⟨⟨by decide +kernel, by decide +kernel⟩, List.mem_of_getElem? (i := 237) (by decide +kernel), List.mem_of_getElem? (i := 850) (by decide +kernel), List.mem_of_getElem? (i := 851) (by decide +kernel)⟩
theorem lw_p19 : lw_okq (⟨"FireFromFire$Acts", "plainKeeps", "(I)I"⟩, 5) := ⟨⟨by decide +kernel, by decide +kernel⟩, List.mem_of_getElem? (i := 237) (by decide +kernel), List.mem_of_getElem? (i := 854) (by decide +kernel), List.mem_of_getElem? (i := 855) (by decide +kernel)⟩
theorem lw_p20 : lw_okq (⟨"FireFromFire$Acts", "plainSends", "(I)I"⟩, 5) := ⟨⟨by decide +kernel, by decide +kernel⟩, List.mem_of_getElem? (i := 237) (by decide +kernel), List.mem_of_getElem? (i := 862) (by decide +kernel), List.mem_of_getElem? (i := 863) (by decide +kernel)⟩
theorem lw_p21 : lw_okq (⟨"FireFromFire$Tape", "cut", "(J)J"⟩, 3) := ⟨⟨by decide +kernel, by decide +kernel⟩, List.mem_of_getElem? (i := 300) (by decide +kernel), List.mem_of_getElem? (i := 903) (by decide +kernel), List.mem_of_getElem? (i := 904) (by decide +kernel)⟩
theorem lw_p22 : lw_okq (⟨"FireFromFireModel", "in", "(III)Z"⟩, 84) := ⟨⟨by decide +kernel, by decide +kernel⟩, List.mem_of_getElem? (i := 920) (by decide +kernel), List.mem_of_getElem? (i := 1184) (by decide +kernel), List.mem_of_getElem? (i := 1185) (by decide +kernel)⟩
theorem lw_p23 : lw_okq (⟨"FireFromFireModel", "isHouse", "(I)Z"⟩, 84) := ⟨⟨by decide +kernel, by decide +kernel⟩, List.mem_of_getElem? (i := 920) (by decide +kernel), List.mem_of_getElem? (i := 1192) (by decide +kernel), List.mem_of_getElem? (i := 1193) (by decide +kernel)⟩
theorem lw_p24 : lw_okq (⟨"FireFromFireModel", "has", "(II)Z"⟩, 84) := ⟨⟨by decide +kernel, by decide +kernel⟩, List.mem_of_getElem? (i := 920) (by decide +kernel), List.mem_of_getElem? (i := 1196) (by decide +kernel), List.mem_of_getElem? (i := 1197) (by decide +kernel)⟩
theorem lw_p25 : lw_okq (⟨"FireFromFireModel", "goesText", "(I)Z"⟩, 84) := ⟨⟨by decide +kernel, by decide +kernel⟩, List.mem_of_getElem? (i := 920) (by decide +kernel), List.mem_of_getElem? (i := 1225) (by decide +kernel), List.mem_of_getElem? (i := 1226) (by decide +kernel)⟩
theorem lw_p26 : lw_okq (⟨"FireFromFireModel", "takesClause", "(I)Z"⟩, 84) := ⟨⟨by decide +kernel, by decide +kernel⟩, List.mem_of_getElem? (i := 920) (by decide +kernel), List.mem_of_getElem? (i := 1229) (by decide +kernel), List.mem_of_getElem? (i := 1230) (by decide +kernel)⟩
theorem lw_p27 : lw_okq (⟨"FireFromFireModel", "takesHead", "(I)Z"⟩, 84) := ⟨⟨by decide +kernel, by decide +kernel⟩, List.mem_of_getElem? (i := 920) (by decide +kernel), List.mem_of_getElem? (i := 1233) (by decide +kernel), List.mem_of_getElem? (i := 1234) (by decide +kernel)⟩
theorem lw_p28 : lw_okq (⟨"FireFromFireModel", "third", "()I"⟩, 84) := ⟨⟨by decide +kernel, by decide +kernel⟩, List.mem_of_getElem? (i := 920) (by decide +kernel), List.mem_of_getElem? (i := 1237) (by decide +kernel), List.mem_of_getElem? (i := 1238) (by decide +kernel)⟩
theorem lw_p29 : lw_okq (⟨"FireFromFireModel", "next", "()I"⟩, 84) := ⟨⟨by decide +kernel, by decide +kernel⟩, List.mem_of_getElem? (i := 920) (by decide +kernel), List.mem_of_getElem? (i := 1241) (by decide +kernel), List.mem_of_getElem? (i := 1242) (by decide +kernel)⟩
theorem lw_p30 : lw_okq (⟨"FireFromFireModel", "takesWord", "(II)Z"⟩, 84) := ⟨⟨by decide +kernel, by decide +kernel⟩, List.mem_of_getElem? (i := 920) (by decide +kernel), List.mem_of_getElem? (i := 1245) (by decide +kernel), List.mem_of_getElem? (i := 1246) (by decide +kernel)⟩
theorem lw_p31 : lw_okq (⟨"FireFromFireModel", "takesSign", "(I)Z"⟩, 84) := ⟨⟨by decide +kernel, by decide +kernel⟩, List.mem_of_getElem? (i := 920) (by decide +kernel), List.mem_of_getElem? (i := 1249) (by decide +kernel), List.mem_of_getElem? (i := 1250) (by decide +kernel)⟩
def lw_privs_2 : List (MethodName × Nat) := [(⟨"FireFromFire$Odds", "shareOf", "(II)J"⟩, 4), (⟨"FireFromFire", "findTape", "(I)LFireFromFire$Tape;"⟩, 12), (⟨"FireFromFire$Acts", "note", "(I)V"⟩, 5), (⟨"FireFromFire$Acts", "plainKeeps", "(I)I"⟩, 5), (⟨"FireFromFire$Acts", "plainSends", "(I)I"⟩, 5), (⟨"FireFromFire$Tape", "cut", "(J)J"⟩, 3), (⟨"FireFromFireModel", "in", "(III)Z"⟩, 84), (⟨"FireFromFireModel", "isHouse", "(I)Z"⟩, 84), (⟨"FireFromFireModel", "has", "(II)Z"⟩, 84), (⟨"FireFromFireModel", "goesText", "(I)Z"⟩, 84), (⟨"FireFromFireModel", "takesClause", "(I)Z"⟩, 84), (⟨"FireFromFireModel", "takesHead", "(I)Z"⟩, 84), (⟨"FireFromFireModel", "third", "()I"⟩, 84), (⟨"FireFromFireModel", "next", "()I"⟩, 84), (⟨"FireFromFireModel", "takesWord", "(II)Z"⟩, 84), (⟨"FireFromFireModel", "takesSign", "(I)Z"⟩, 84)]
theorem lw_r2 : ∀ q ∈ lw_privs_2, lw_okq q := List.forall_mem_cons.mpr ⟨lw_p16, List.forall_mem_cons.mpr ⟨lw_p17, List.forall_mem_cons.mpr ⟨lw_p18, List.forall_mem_cons.mpr ⟨lw_p19, List.forall_mem_cons.mpr ⟨lw_p20, List.forall_mem_cons.mpr ⟨lw_p21, List.forall_mem_cons.mpr ⟨lw_p22, List.forall_mem_cons.mpr ⟨lw_p23, List.forall_mem_cons.mpr ⟨lw_p24, List.forall_mem_cons.mpr ⟨lw_p25, List.forall_mem_cons.mpr ⟨lw_p26, List.forall_mem_cons.mpr ⟨lw_p27, List.forall_mem_cons.mpr ⟨lw_p28, List.forall_mem_cons.mpr ⟨lw_p29, List.forall_mem_cons.mpr ⟨lw_p30, List.forall_mem_cons.mpr ⟨lw_p31, fun _ h => absurd h List.not_mem_nil⟩⟩⟩⟩⟩⟩⟩⟩⟩⟩⟩⟩⟩⟩⟩⟩
theorem lw_p32 : lw_okq (⟨"FireFromFireModel", "takesFigure", "(I)Z"⟩, 84) := ⟨⟨by decide +kernel, by decide +kernel⟩, List.mem_of_getElem? (i := 920) (by decide +kernel), List.mem_of_getElem? (i := 1253) (by decide +kernel), List.mem_of_getElem? (i := 1254) (by decide +kernel)⟩
theorem lw_p33 : lw_okq (⟨"FireFromFireModel", "takesNumber", "()Z"⟩, 84) := ⟨⟨by decide +kernel, by decide +kernel⟩, List.mem_of_getElem? (i := 920) (by decide +kernel), List.mem_of_getElem? (i := 1257) (by decide +kernel), List.mem_of_getElem? (i := 1258) (by decide +kernel)⟩
theorem lw_p34 : lw_okq (⟨"FireFromFireModel", "isDigit", "()Z"⟩, 84) := ⟨⟨by decide +kernel, by decide +kernel⟩, List.mem_of_getElem? (i := 920) (by decide +kernel), List.mem_of_getElem? (i := 1261) (by decide +kernel), List.mem_of_getElem? (i := 1262) (by decide +kernel)⟩
theorem lw_p35 : lw_okq (⟨"FireFromFireModel", "takesE", "(I)Z"⟩, 84) := ⟨⟨by decide +kernel, by decide +kernel⟩, List.mem_of_getElem? (i := 920) (by decide +kernel), List.mem_of_getElem? (i := 1265) (by decide +kernel), List.mem_of_getElem? (i := 1266) (by decide +kernel)⟩
theorem lw_p36 : lw_okq (⟨"FireFromFireModel", "takesTest", "()Z"⟩, 84) := ⟨⟨by decide +kernel, by decide +kernel⟩, List.mem_of_getElem? (i := 920) (by decide +kernel), List.mem_of_getElem? (i := 1269) (by decide +kernel), List.mem_of_getElem? (i := 1270) (by decide +kernel)⟩
theorem lw_p37 : lw_okq (⟨"FireFromFireModel", "place", "(I)I"⟩, 84) := ⟨⟨by decide +kernel, by decide +kernel⟩, List.mem_of_getElem? (i := 920) (by decide +kernel), List.mem_of_getElem? (i := 1273) (by decide +kernel), List.mem_of_getElem? (i := 1274) (by decide +kernel)⟩
theorem lw_p38 : lw_okq (⟨"FireFromFireModel", "put", "(I)V"⟩, 84) := ⟨⟨by decide +kernel, by decide +kernel⟩, List.mem_of_getElem? (i := 920) (by decide +kernel), List.mem_of_getElem? (i := 1277) (by decide +kernel), List.mem_of_getElem? (i := 1278) (by decide +kernel)⟩
theorem lw_p39 : lw_okq (⟨"FireFromFireModel", "whole", "()V"⟩, 84) := ⟨⟨by decide +kernel, by decide +kernel⟩, List.mem_of_getElem? (i := 920) (by decide +kernel), List.mem_of_getElem? (i := 1281) (by decide +kernel), List.mem_of_getElem? (i := 1282) (by decide +kernel)⟩
theorem lw_p40 : lw_okq (⟨"FireFromFireModel", "settle", "(I)V"⟩, 84) := ⟨⟨by decide +kernel, by decide +kernel⟩, List.mem_of_getElem? (i := 920) (by decide +kernel), List.mem_of_getElem? (i := 1285) (by decide +kernel), List.mem_of_getElem? (i := 1286) (by decide +kernel)⟩
theorem lw_p41 : lw_okq (⟨"FireFromFireModel", "isWeather", "(I)Z"⟩, 84) := ⟨⟨by decide +kernel, by decide +kernel⟩, List.mem_of_getElem? (i := 920) (by decide +kernel), List.mem_of_getElem? (i := 1293) (by decide +kernel), List.mem_of_getElem? (i := 1294) (by decide +kernel)⟩
theorem lw_p42 : lw_okq (⟨"FireFromFireModel", "layFollows", "()V"⟩, 84) := ⟨⟨by decide +kernel, by decide +kernel⟩, List.mem_of_getElem? (i := 920) (by decide +kernel), List.mem_of_getElem? (i := 1297) (by decide +kernel), List.mem_of_getElem? (i := 1298) (by decide +kernel)⟩
theorem lw_p43 : lw_okq (⟨"FireFromFireModel", "first", "()I"⟩, 84) := ⟨⟨by decide +kernel, by decide +kernel⟩, List.mem_of_getElem? (i := 920) (by decide +kernel), List.mem_of_getElem? (i := 1301) (by decide +kernel), List.mem_of_getElem? (i := 1302) (by decide +kernel)⟩
theorem lw_p44 : lw_okq (⟨"FireFromFireModel", "behind", "()I"⟩, 84) := ⟨⟨by decide +kernel, by decide +kernel⟩, List.mem_of_getElem? (i := 920) (by decide +kernel), List.mem_of_getElem? (i := 1305) (by decide +kernel), List.mem_of_getElem? (i := 1306) (by decide +kernel)⟩
theorem lw_p45 : lw_okq (⟨"FireFromFireModel", "min", "(II)I"⟩, 84) := ⟨⟨by decide +kernel, by decide +kernel⟩, List.mem_of_getElem? (i := 920) (by decide +kernel), List.mem_of_getElem? (i := 1309) (by decide +kernel), List.mem_of_getElem? (i := 1310) (by decide +kernel)⟩
theorem lw_p46 : lw_okq (⟨"FireFromFireModel", "asIs", "()V"⟩, 84) := ⟨⟨by decide +kernel, by decide +kernel⟩, List.mem_of_getElem? (i := 920) (by decide +kernel), List.mem_of_getElem? (i := 1317) (by decide +kernel), List.mem_of_getElem? (i := 1318) (by decide +kernel)⟩
theorem lw_p47 : lw_okq (⟨"FireFromFireModel", "begin", "()V"⟩, 84) := ⟨⟨by decide +kernel, by decide +kernel⟩, List.mem_of_getElem? (i := 920) (by decide +kernel), List.mem_of_getElem? (i := 1321) (by decide +kernel), List.mem_of_getElem? (i := 1322) (by decide +kernel)⟩
def lw_privs_3 : List (MethodName × Nat) := [(⟨"FireFromFireModel", "takesFigure", "(I)Z"⟩, 84), (⟨"FireFromFireModel", "takesNumber", "()Z"⟩, 84), (⟨"FireFromFireModel", "isDigit", "()Z"⟩, 84), (⟨"FireFromFireModel", "takesE", "(I)Z"⟩, 84), (⟨"FireFromFireModel", "takesTest", "()Z"⟩, 84), (⟨"FireFromFireModel", "place", "(I)I"⟩, 84), (⟨"FireFromFireModel", "put", "(I)V"⟩, 84), (⟨"FireFromFireModel", "whole", "()V"⟩, 84), (⟨"FireFromFireModel", "settle", "(I)V"⟩, 84), (⟨"FireFromFireModel", "isWeather", "(I)Z"⟩, 84), (⟨"FireFromFireModel", "layFollows", "()V"⟩, 84), (⟨"FireFromFireModel", "first", "()I"⟩, 84), (⟨"FireFromFireModel", "behind", "()I"⟩, 84), (⟨"FireFromFireModel", "min", "(II)I"⟩, 84), (⟨"FireFromFireModel", "asIs", "()V"⟩, 84), (⟨"FireFromFireModel", "begin", "()V"⟩, 84)]
theorem lw_r3 : ∀ q ∈ lw_privs_3, lw_okq q := List.forall_mem_cons.mpr ⟨lw_p32, List.forall_mem_cons.mpr ⟨lw_p33, List.forall_mem_cons.mpr ⟨lw_p34, List.forall_mem_cons.mpr ⟨lw_p35, List.forall_mem_cons.mpr ⟨lw_p36, List.forall_mem_cons.mpr ⟨lw_p37, List.forall_mem_cons.mpr ⟨lw_p38, List.forall_mem_cons.mpr ⟨lw_p39, List.forall_mem_cons.mpr ⟨lw_p40, List.forall_mem_cons.mpr ⟨lw_p41, List.forall_mem_cons.mpr ⟨lw_p42, List.forall_mem_cons.mpr ⟨lw_p43, List.forall_mem_cons.mpr ⟨lw_p44, List.forall_mem_cons.mpr ⟨lw_p45, List.forall_mem_cons.mpr ⟨lw_p46, List.forall_mem_cons.mpr ⟨lw_p47, fun _ h => absurd h List.not_mem_nil⟩⟩⟩⟩⟩⟩⟩⟩⟩⟩⟩⟩⟩⟩⟩⟩
theorem lw_p48 : lw_okq (⟨"FireFromFireModel", "sumOf", "(III)I"⟩, 84) := ⟨⟨by decide +kernel, by decide +kernel⟩, List.mem_of_getElem? (i := 920) (by decide +kernel), List.mem_of_getElem? (i := 1325) (by decide +kernel), List.mem_of_getElem? (i := 1326) (by decide +kernel)⟩
theorem lw_p49 : lw_okq (⟨"FireFromFireModel", "holds", "(III)Z"⟩, 84) := ⟨⟨by decide +kernel, by decide +kernel⟩, List.mem_of_getElem? (i := 920) (by decide +kernel), List.mem_of_getElem? (i := 1329) (by decide +kernel), List.mem_of_getElem? (i := 1330) (by decide +kernel)⟩
theorem lw_p50 : lw_okq (⟨"FireFromFireModel", "factOf", "(III)I"⟩, 84) := ⟨⟨by decide +kernel, by decide +kernel⟩, List.mem_of_getElem? (i := 920) (by decide +kernel), List.mem_of_getElem? (i := 1333) (by decide +kernel), List.mem_of_getElem? (i := 1334) (by decide +kernel)⟩
theorem lw_p51 : lw_okq (⟨"FireFromFireModel", "ones", "(I)I"⟩, 84) := ⟨⟨by decide +kernel, by decide +kernel⟩, List.mem_of_getElem? (i := 920) (by decide +kernel), List.mem_of_getElem? (i := 1337) (by decide +kernel), List.mem_of_getElem? (i := 1338) (by decide +kernel)⟩
theorem lw_p52 : lw_okq (⟨"FireFromFireModel", "keeps", "(II)Z"⟩, 84) := ⟨⟨by decide +kernel, by decide +kernel⟩, List.mem_of_getElem? (i := 920) (by decide +kernel), List.mem_of_getElem? (i := 1345) (by decide +kernel), List.mem_of_getElem? (i := 1346) (by decide +kernel)⟩
theorem lw_p53 : lw_okq (⟨"FireFromFireModel", "isNoneAhead", "(I)Z"⟩, 84) := ⟨⟨by decide +kernel, by decide +kernel⟩, List.mem_of_getElem? (i := 920) (by decide +kernel), List.mem_of_getElem? (i := 1349) (by decide +kernel), List.mem_of_getElem? (i := 1350) (by decide +kernel)⟩
theorem lw_p54 : lw_okq (⟨"FireFromFireModel", "sends", "(II)Z"⟩, 84) := ⟨⟨by decide +kernel, by decide +kernel⟩, List.mem_of_getElem? (i := 920) (by decide +kernel), List.mem_of_getElem? (i := 1353) (by decide +kernel), List.mem_of_getElem? (i := 1354) (by decide +kernel)⟩
theorem lw_p55 : lw_okq (⟨"FireFromFireModel", "whereTo", "(I)I"⟩, 84) := ⟨⟨by decide +kernel, by decide +kernel⟩, List.mem_of_getElem? (i := 920) (by decide +kernel), List.mem_of_getElem? (i := 1357) (by decide +kernel), List.mem_of_getElem? (i := 1358) (by decide +kernel)⟩
theorem lw_p56 : lw_okq (⟨"FireFromFireModel", "goHour", "(II)V"⟩, 84) := ⟨⟨by decide +kernel, by decide +kernel⟩, List.mem_of_getElem? (i := 920) (by decide +kernel), List.mem_of_getElem? (i := 1365) (by decide +kernel), List.mem_of_getElem? (i := 1366) (by decide +kernel)⟩
theorem lw_p57 : lw_okq (⟨"FireFromFireModel", "burns", "(III)V"⟩, 84) := ⟨⟨by decide +kernel, by decide +kernel⟩, List.mem_of_getElem? (i := 920) (by decide +kernel), List.mem_of_getElem? (i := 1369) (by decide +kernel), List.mem_of_getElem? (i := 1370) (by decide +kernel)⟩
theorem lw_p58 : lw_okq (⟨"FireFromFireModel", "setsOut", "(II)V"⟩, 84) := ⟨⟨by decide +kernel, by decide +kernel⟩, List.mem_of_getElem? (i := 920) (by decide +kernel), List.mem_of_getElem? (i := 1373) (by decide +kernel), List.mem_of_getElem? (i := 1374) (by decide +kernel)⟩
theorem lw_p59 : lw_okq (⟨"FireFromFireModel", "walks", "(II)V"⟩, 84) := ⟨⟨by decide +kernel, by decide +kernel⟩, List.mem_of_getElem? (i := 920) (by decide +kernel), List.mem_of_getElem? (i := 1377) (by decide +kernel), List.mem_of_getElem? (i := 1378) (by decide +kernel)⟩
theorem lw_p60 : lw_okq (⟨"FireFromFireModel", "goNights", "(I)V"⟩, 84) := ⟨⟨by decide +kernel, by decide +kernel⟩, List.mem_of_getElem? (i := 920) (by decide +kernel), List.mem_of_getElem? (i := 1389) (by decide +kernel), List.mem_of_getElem? (i := 1390) (by decide +kernel)⟩
theorem lw_p61 : lw_okq (⟨"FireFromFireModel", "layApart", "()V"⟩, 84) := ⟨⟨by decide +kernel, by decide +kernel⟩, List.mem_of_getElem? (i := 920) (by decide +kernel), List.mem_of_getElem? (i := 1397) (by decide +kernel), List.mem_of_getElem? (i := 1398) (by decide +kernel)⟩
theorem lw_p62 : lw_okq (⟨"FireFromFireModel", "nearest", "(II)I"⟩, 84) := ⟨⟨by decide +kernel, by decide +kernel⟩, List.mem_of_getElem? (i := 920) (by decide +kernel), List.mem_of_getElem? (i := 1401) (by decide +kernel), List.mem_of_getElem? (i := 1402) (by decide +kernel)⟩
theorem lw_p63 : lw_okq (⟨"FireFromFireModel", "lastHour", "(IJ)V"⟩, 84) := ⟨⟨by decide +kernel, by decide +kernel⟩, List.mem_of_getElem? (i := 920) (by decide +kernel), List.mem_of_getElem? (i := 1420) (by decide +kernel), List.mem_of_getElem? (i := 1421) (by decide +kernel)⟩
def lw_privs_4 : List (MethodName × Nat) := [(⟨"FireFromFireModel", "sumOf", "(III)I"⟩, 84), (⟨"FireFromFireModel", "holds", "(III)Z"⟩, 84), (⟨"FireFromFireModel", "factOf", "(III)I"⟩, 84), (⟨"FireFromFireModel", "ones", "(I)I"⟩, 84), (⟨"FireFromFireModel", "keeps", "(II)Z"⟩, 84), (⟨"FireFromFireModel", "isNoneAhead", "(I)Z"⟩, 84), (⟨"FireFromFireModel", "sends", "(II)Z"⟩, 84), (⟨"FireFromFireModel", "whereTo", "(I)I"⟩, 84), (⟨"FireFromFireModel", "goHour", "(II)V"⟩, 84), (⟨"FireFromFireModel", "burns", "(III)V"⟩, 84), (⟨"FireFromFireModel", "setsOut", "(II)V"⟩, 84), (⟨"FireFromFireModel", "walks", "(II)V"⟩, 84), (⟨"FireFromFireModel", "goNights", "(I)V"⟩, 84), (⟨"FireFromFireModel", "layApart", "()V"⟩, 84), (⟨"FireFromFireModel", "nearest", "(II)I"⟩, 84), (⟨"FireFromFireModel", "lastHour", "(IJ)V"⟩, 84)]
theorem lw_r4 : ∀ q ∈ lw_privs_4, lw_okq q := List.forall_mem_cons.mpr ⟨lw_p48, List.forall_mem_cons.mpr ⟨lw_p49, List.forall_mem_cons.mpr ⟨lw_p50, List.forall_mem_cons.mpr ⟨lw_p51, List.forall_mem_cons.mpr ⟨lw_p52, List.forall_mem_cons.mpr ⟨lw_p53, List.forall_mem_cons.mpr ⟨lw_p54, List.forall_mem_cons.mpr ⟨lw_p55, List.forall_mem_cons.mpr ⟨lw_p56, List.forall_mem_cons.mpr ⟨lw_p57, List.forall_mem_cons.mpr ⟨lw_p58, List.forall_mem_cons.mpr ⟨lw_p59, List.forall_mem_cons.mpr ⟨lw_p60, List.forall_mem_cons.mpr ⟨lw_p61, List.forall_mem_cons.mpr ⟨lw_p62, List.forall_mem_cons.mpr ⟨lw_p63, fun _ h => absurd h List.not_mem_nil⟩⟩⟩⟩⟩⟩⟩⟩⟩⟩⟩⟩⟩⟩⟩⟩
theorem lw_p64 : lw_okq (⟨"FireFromFireModel", "keep", "()V"⟩, 84) := ⟨⟨by decide +kernel, by decide +kernel⟩, List.mem_of_getElem? (i := 920) (by decide +kernel), List.mem_of_getElem? (i := 1424) (by decide +kernel), List.mem_of_getElem? (i := 1425) (by decide +kernel)⟩
theorem lw_p65 : lw_okq (⟨"FireFromFireModel", "layBack", "()V"⟩, 84) := ⟨⟨by decide +kernel, by decide +kernel⟩, List.mem_of_getElem? (i := 920) (by decide +kernel), List.mem_of_getElem? (i := 1428) (by decide +kernel), List.mem_of_getElem? (i := 1429) (by decide +kernel)⟩
theorem lw_p66 : lw_okq (⟨"FireFromFireModel", "mishapWeight", "(II)J"⟩, 84) := ⟨⟨by decide +kernel, by decide +kernel⟩, List.mem_of_getElem? (i := 920) (by decide +kernel), List.mem_of_getElem? (i := 1432) (by decide +kernel), List.mem_of_getElem? (i := 1433) (by decide +kernel)⟩
theorem lw_p67 : lw_okq (⟨"FireFromFireModel", "counts", "(J)V"⟩, 84) := ⟨⟨by decide +kernel, by decide +kernel⟩, List.mem_of_getElem? (i := 920) (by decide +kernel), List.mem_of_getElem? (i := 1436) (by decide +kernel), List.mem_of_getElem? (i := 1437) (by decide +kernel)⟩
theorem lw_p68 : lw_okq (⟨"FireFromFireModel", "divisor", "(JJ)J"⟩, 84) := ⟨⟨by decide +kernel, by decide +kernel⟩, List.mem_of_getElem? (i := 920) (by decide +kernel), List.mem_of_getElem? (i := 1440) (by decide +kernel), List.mem_of_getElem? (i := 1441) (by decide +kernel)⟩
theorem lw_p69 : lw_okq (⟨"FireFromFireModel", "matchOf", "(II)I"⟩, 84) := ⟨⟨by decide +kernel, by decide +kernel⟩, List.mem_of_getElem? (i := 920) (by decide +kernel), List.mem_of_getElem? (i := 1454) (by decide +kernel), List.mem_of_getElem? (i := 1455) (by decide +kernel)⟩
theorem lw_p70 : lw_okq (⟨"FireFromFireModel", "isTape", "(I)Z"⟩, 84) := ⟨⟨by decide +kernel, by decide +kernel⟩, List.mem_of_getElem? (i := 920) (by decide +kernel), List.mem_of_getElem? (i := 1474) (by decide +kernel), List.mem_of_getElem? (i := 1475) (by decide +kernel)⟩
theorem lw_p71 : lw_okq (⟨"FireFromFireModel", "copy", "([I[I)V"⟩, 84) := ⟨⟨by decide +kernel, by decide +kernel⟩, List.mem_of_getElem? (i := 920) (by decide +kernel), List.mem_of_getElem? (i := 1482) (by decide +kernel), List.mem_of_getElem? (i := 1483) (by decide +kernel)⟩
theorem lw_p72 : lw_okq (⟨"FireFromFireModel", "keepsAct", "(II)I"⟩, 84) := ⟨⟨by decide +kernel, by decide +kernel⟩, List.mem_of_getElem? (i := 920) (by decide +kernel), List.mem_of_getElem? (i := 1494) (by decide +kernel), List.mem_of_getElem? (i := 1495) (by decide +kernel)⟩
theorem lw_p73 : lw_okq (⟨"FireFromFireModel", "body", "(I)V"⟩, 84) := ⟨⟨by decide +kernel, by decide +kernel⟩, List.mem_of_getElem? (i := 920) (by decide +kernel), List.mem_of_getElem? (i := 1498) (by decide +kernel), List.mem_of_getElem? (i := 1499) (by decide +kernel)⟩
theorem lw_p74 : lw_okq (⟨"FireFromFireModel", "plainKeeps", "(II)I"⟩, 84) := ⟨⟨by decide +kernel, by decide +kernel⟩, List.mem_of_getElem? (i := 920) (by decide +kernel), List.mem_of_getElem? (i := 1502) (by decide +kernel), List.mem_of_getElem? (i := 1503) (by decide +kernel)⟩
theorem lw_p75 : lw_okq (⟨"FireFromFireModel", "sendsAct", "(II)I"⟩, 84) := ⟨⟨by decide +kernel, by decide +kernel⟩, List.mem_of_getElem? (i := 920) (by decide +kernel), List.mem_of_getElem? (i := 1506) (by decide +kernel), List.mem_of_getElem? (i := 1507) (by decide +kernel)⟩
theorem lw_p76 : lw_okq (⟨"FireFromFireModel", "eachSends", "(II)I"⟩, 84) := ⟨⟨by decide +kernel, by decide +kernel⟩, List.mem_of_getElem? (i := 920) (by decide +kernel), List.mem_of_getElem? (i := 1510) (by decide +kernel), List.mem_of_getElem? (i := 1511) (by decide +kernel)⟩
theorem lw_p77 : lw_okq (⟨"FireFromFireModel", "plainSends", "(II)I"⟩, 84) := ⟨⟨by decide +kernel, by decide +kernel⟩, List.mem_of_getElem? (i := 920) (by decide +kernel), List.mem_of_getElem? (i := 1514) (by decide +kernel), List.mem_of_getElem? (i := 1515) (by decide +kernel)⟩
theorem lw_p78 : lw_okq (⟨"FireFromFireModel", "tellsAct", "(II)I"⟩, 84) := ⟨⟨by decide +kernel, by decide +kernel⟩, List.mem_of_getElem? (i := 920) (by decide +kernel), List.mem_of_getElem? (i := 1518) (by decide +kernel), List.mem_of_getElem? (i := 1519) (by decide +kernel)⟩
theorem lw_p79 : lw_okq (⟨"FireFromFireModel", "plainTells", "(II)I"⟩, 84) := ⟨⟨by decide +kernel, by decide +kernel⟩, List.mem_of_getElem? (i := 920) (by decide +kernel), List.mem_of_getElem? (i := 1522) (by decide +kernel), List.mem_of_getElem? (i := 1523) (by decide +kernel)⟩
def lw_privs_5 : List (MethodName × Nat) := [(⟨"FireFromFireModel", "keep", "()V"⟩, 84), (⟨"FireFromFireModel", "layBack", "()V"⟩, 84), (⟨"FireFromFireModel", "mishapWeight", "(II)J"⟩, 84), (⟨"FireFromFireModel", "counts", "(J)V"⟩, 84), (⟨"FireFromFireModel", "divisor", "(JJ)J"⟩, 84), (⟨"FireFromFireModel", "matchOf", "(II)I"⟩, 84), (⟨"FireFromFireModel", "isTape", "(I)Z"⟩, 84), (⟨"FireFromFireModel", "copy", "([I[I)V"⟩, 84), (⟨"FireFromFireModel", "keepsAct", "(II)I"⟩, 84), (⟨"FireFromFireModel", "body", "(I)V"⟩, 84), (⟨"FireFromFireModel", "plainKeeps", "(II)I"⟩, 84), (⟨"FireFromFireModel", "sendsAct", "(II)I"⟩, 84), (⟨"FireFromFireModel", "eachSends", "(II)I"⟩, 84), (⟨"FireFromFireModel", "plainSends", "(II)I"⟩, 84), (⟨"FireFromFireModel", "tellsAct", "(II)I"⟩, 84), (⟨"FireFromFireModel", "plainTells", "(II)I"⟩, 84)]
theorem lw_r5 : ∀ q ∈ lw_privs_5, lw_okq q := List.forall_mem_cons.mpr ⟨lw_p64, List.forall_mem_cons.mpr ⟨lw_p65, List.forall_mem_cons.mpr ⟨lw_p66, List.forall_mem_cons.mpr ⟨lw_p67, List.forall_mem_cons.mpr ⟨lw_p68, List.forall_mem_cons.mpr ⟨lw_p69, List.forall_mem_cons.mpr ⟨lw_p70, List.forall_mem_cons.mpr ⟨lw_p71, List.forall_mem_cons.mpr ⟨lw_p72, List.forall_mem_cons.mpr ⟨lw_p73, List.forall_mem_cons.mpr ⟨lw_p74, List.forall_mem_cons.mpr ⟨lw_p75, List.forall_mem_cons.mpr ⟨lw_p76, List.forall_mem_cons.mpr ⟨lw_p77, List.forall_mem_cons.mpr ⟨lw_p78, List.forall_mem_cons.mpr ⟨lw_p79, fun _ h => absurd h List.not_mem_nil⟩⟩⟩⟩⟩⟩⟩⟩⟩⟩⟩⟩⟩⟩⟩⟩
theorem lw_p80 : lw_okq (⟨"FireFromFireModel", "narrow", "(IJ)J"⟩, 84) := ⟨⟨by decide +kernel, by decide +kernel⟩, List.mem_of_getElem? (i := 920) (by decide +kernel), List.mem_of_getElem? (i := 1546) (by decide +kernel), List.mem_of_getElem? (i := 1547) (by decide +kernel)⟩
def lw_privs_6 : List (MethodName × Nat) := [(⟨"FireFromFireModel", "narrow", "(IJ)J"⟩, 84)]
theorem lw_r6 : ∀ q ∈ lw_privs_6, lw_okq q := List.forall_mem_cons.mpr ⟨lw_p80, fun _ h => absurd h List.not_mem_nil⟩
def lw_privs : List (MethodName × Nat) := lw_privs_1 ++ (lw_privs_2 ++ (lw_privs_3 ++ (lw_privs_4 ++ (lw_privs_5 ++ (lw_privs_6)))))
def lw_tbl : List Cond := k2_sels lw_privs ++ tables_1
theorem lw_privs_ok : ∀ q ∈ lw_privs, lw_okq q := by
  show ∀ q ∈ lw_privs_1 ++ (lw_privs_2 ++ (lw_privs_3 ++ (lw_privs_4 ++ (lw_privs_5 ++ (lw_privs_6))))), lw_okq q
  exact List.forall_mem_append.mpr ⟨lw_r1, List.forall_mem_append.mpr ⟨lw_r2, List.forall_mem_append.mpr ⟨lw_r3, List.forall_mem_append.mpr ⟨lw_r4, List.forall_mem_append.mpr ⟨lw_r5, lw_r6⟩⟩⟩⟩⟩
end
section
def RX0 : String := "FireFromFire$Acts"
def TX0 : u_T := fun k => match k with
  | 0 => ("FireFromFire$Acts", "ran", "I", false)
  | 1 => ("FireFromFire$Acts", "numbers", "[I", true)
  | 2 => ("FireFromFire$Acts", "kind", "I", false)
  | 3 => ("FireFromFire$Acts", "v", "I", false)
  | _ => ("FireFromFire$Acts", "i", "I", false)
def tyX0 : Nat → FieldType := fun k => match k with
  | 0 => .int
  | 1 => .array .int
  | 2 => .int
  | 3 => .int
  | _ => .int
abbrev wsX00 : List Cond := u_ws RX0 TX0 5
theorem nmX0 : ∀ a, a < 5 → ∀ b, b < 5 → a ≠ b → (TX0 a).2.1 ≠ (TX0 b).2.1 := by decide +kernel
theorem tyX0_ok : ∀ k, k < 5 → parseFieldDescriptor (TX0 k).2.2.1 = some (tyX0 k) := by decide +kernel
abbrev cX0_init : ByteArray := prog_2_method_1_code
def yX0_init : MethodName := ⟨RX0, "<init>", "()V"⟩
abbrev cX0_begin : ByteArray := prog_2_method_2_code
def yX0_begin : MethodName := ⟨RX0, "begin", "(LFireFromFire$House;I)V"⟩
abbrev cX0_note : ByteArray := prog_2_method_3_code
def yX0_note : MethodName := ⟨RX0, "note", "(I)V"⟩
abbrev cX0_keepsBody : ByteArray := prog_2_method_4_code
def yX0_keepsBody : MethodName := ⟨RX0, "keepsBody", "(I)I"⟩
abbrev cX0_sendsBody : ByteArray := prog_2_method_5_code
def yX0_sendsBody : MethodName := ⟨RX0, "sendsBody", "(I)I"⟩
abbrev cX0_tellsBody : ByteArray := prog_2_method_6_code
def yX0_tellsBody : MethodName := ⟨RX0, "tellsBody", "(I)I"⟩
abbrev cX0_plainKeeps : ByteArray := prog_2_method_7_code
def yX0_plainKeeps : MethodName := ⟨RX0, "plainKeeps", "(I)I"⟩
abbrev cX0_plainSends : ByteArray := prog_2_method_8_code
def yX0_plainSends : MethodName := ⟨RX0, "plainSends", "(I)I"⟩
def RX1 : String := "FireFromFire$Hours"
def TX1 : u_T := fun k => match k with
  | 0 => ("FireFromFire$Hours", "worth", "I", false)
  | 1 => ("FireFromFire$Hours", "lacks", "I", false)
  | 2 => ("FireFromFire$Hours", "choices", "[I", true)
  | 3 => ("FireFromFire$Hours", "burns", "[I", true)
  | 4 => ("FireFromFire$Hours", "horns", "[I", true)
  | _ => ("FireFromFire$Hours", "goals", "[I", true)
def tyX1 : Nat → FieldType := fun k => match k with
  | 0 => .int
  | 1 => .int
  | 2 => .array .int
  | 3 => .array .int
  | 4 => .array .int
  | _ => .array .int
abbrev wsX10 : List Cond := u_ws RX1 TX1 6
theorem nmX1 : ∀ a, a < 6 → ∀ b, b < 6 → a ≠ b → (TX1 a).2.1 ≠ (TX1 b).2.1 := by decide +kernel
theorem tyX1_ok : ∀ k, k < 6 → parseFieldDescriptor (TX1 k).2.2.1 = some (tyX1 k) := by decide +kernel
abbrev cX1_init : ByteArray := prog_3_method_1_code
def yX1_init : MethodName := ⟨RX1, "<init>", "()V"⟩
abbrev cX1_begin : ByteArray := prog_3_method_2_code
def yX1_begin : MethodName := ⟨RX1, "begin", "()V"⟩
abbrev cX1_weigh : ByteArray := prog_3_method_3_code
def yX1_weigh : MethodName := ⟨RX1, "weigh", "(LFireFromFire$Village;I)V"⟩
abbrev cX1_pass : ByteArray := prog_3_method_4_code
def yX1_pass : MethodName := ⟨RX1, "pass", "(LFireFromFire$Village;II)V"⟩
abbrev cX1_burn : ByteArray := prog_3_method_5_code
def yX1_burn : MethodName := ⟨RX1, "burn", "(LFireFromFire$House;II)V"⟩
abbrev cX1_goNearer : ByteArray := prog_3_method_6_code
def yX1_goNearer : MethodName := ⟨RX1, "goNearer", "(LFireFromFire$Village;LFireFromFire$House;I)V"⟩
abbrev cX1_bringNearer : ByteArray := prog_3_method_7_code
def yX1_bringNearer : MethodName := ⟨RX1, "bringNearer", "(LFireFromFire$House;I)V"⟩
abbrev cX1_passNights : ByteArray := prog_3_method_8_code
def yX1_passNights : MethodName := ⟨RX1, "passNights", "(LFireFromFire$Village;LFireFromFire$Village;I)V"⟩
abbrev cX1_gain : ByteArray := prog_3_method_9_code
def yX1_gain : MethodName := ⟨RX1, "gain", "(LFireFromFire$Village;LFireFromFire$Village;II)I"⟩
def RX2 : String := "FireFromFire$House"
def TX2 : u_T := fun k => match k with
  | 0 => ("FireFromFire$House", "wood", "I", false)
  | 1 => ("FireFromFire$House", "isAlight", "Z", false)
  | 2 => ("FireFromFire$House", "kind", "I", false)
  | 3 => ("FireFromFire$House", "v", "I", false)
  | 4 => ("FireFromFire$House", "row", "I", false)
  | 5 => ("FireFromFire$House", "walk", "I", false)
  | 6 => ("FireFromFire$House", "left", "I", false)
  | 7 => ("FireFromFire$House", "goal", "I", false)
  | _ => ("FireFromFire$House", "horn", "I", false)
def tyX2 : Nat → FieldType := fun k => match k with
  | 0 => .int
  | 1 => .boolean
  | 2 => .int
  | 3 => .int
  | 4 => .int
  | 5 => .int
  | 6 => .int
  | 7 => .int
  | _ => .int
abbrev wsX20 : List Cond := u_ws RX2 TX2 9
theorem nmX2 : ∀ a, a < 9 → ∀ b, b < 9 → a ≠ b → (TX2 a).2.1 ≠ (TX2 b).2.1 := by decide +kernel
theorem tyX2_ok : ∀ k, k < 9 → parseFieldDescriptor (TX2 k).2.2.1 = some (tyX2 k) := by decide +kernel
abbrev cX2_init : ByteArray := prog_4_method_1_code
def yX2_init : MethodName := ⟨RX2, "<init>", "()V"⟩
abbrev cX2_start : ByteArray := prog_4_method_2_code
def yX2_start : MethodName := ⟨RX2, "start", "(IZ)V"⟩
abbrev cX2_setOut : ByteArray := prog_4_method_3_code
def yX2_setOut : MethodName := ⟨RX2, "setOut", "(III)V"⟩
abbrev cX2_copy : ByteArray := prog_4_method_4_code
def yX2_copy : MethodName := ⟨RX2, "copy", "(LFireFromFire$House;)V"⟩
def RX3 : String := "FireFromFire$Land"
def TX3 : u_T := fun k => match k with
  | 0 => ("FireFromFire$Land", "clauses", "I", false)
  | 1 => ("FireFromFire$Land", "steps", "I", false)
  | 2 => ("FireFromFire$Land", "word", "[I", true)
  | 3 => ("FireFromFire$Land", "amount", "[I", true)
  | 4 => ("FireFromFire$Land", "from", "[I", true)
  | 5 => ("FireFromFire$Land", "to", "[I", true)
  | 6 => ("FireFromFire$Land", "step", "[I", true)
  | 7 => ("FireFromFire$Land", "sign", "[I", true)
  | _ => ("FireFromFire$Land", "number", "[I", true)
def tyX3 : Nat → FieldType := fun k => match k with
  | 0 => .int
  | 1 => .int
  | 2 => .array .int
  | 3 => .array .int
  | 4 => .array .int
  | 5 => .array .int
  | 6 => .array .int
  | 7 => .array .int
  | _ => .array .int
abbrev wsX30 : List Cond := u_ws RX3 TX3 9
theorem nmX3 : ∀ a, a < 9 → ∀ b, b < 9 → a ≠ b → (TX3 a).2.1 ≠ (TX3 b).2.1 := by decide +kernel
theorem tyX3_ok : ∀ k, k < 9 → parseFieldDescriptor (TX3 k).2.2.1 = some (tyX3 k) := by decide +kernel
abbrev cX3_init : ByteArray := prog_5_method_1_code
def yX3_init : MethodName := ⟨RX3, "<init>", "()V"⟩
abbrev cX3_addClause : ByteArray := prog_5_method_2_code
def yX3_addClause : MethodName := ⟨RX3, "addClause", "(IIII)V"⟩
abbrev cX3_addStep : ByteArray := prog_5_method_3_code
def yX3_addStep : MethodName := ⟨RX3, "addStep", "(III)V"⟩
abbrev cX3_lastNext : ByteArray := prog_5_method_4_code
def yX3_lastNext : MethodName := ⟨RX3, "lastNext", "(II)I"⟩
abbrev cX3_holds : ByteArray := prog_5_method_5_code
def yX3_holds : MethodName := ⟨RX3, "holds", "(I[I)Z"⟩
def RX4 : String := "FireFromFire$Odds"
def TX4 : u_T := fun k => match k with
  | 0 => ("FireFromFire$Odds", "ended", "J", false)
  | 1 => ("FireFromFire$Odds", "worth", "J", false)
  | 2 => ("FireFromFire$Odds", "below", "J", false)
  | _ => ("FireFromFire$Odds", "at", "LFireFromFire$Village;", true)
def tyX4 : Nat → FieldType := fun k => match k with
  | 0 => .long
  | 1 => .long
  | 2 => .long
  | _ => .object "FireFromFire$Village"
abbrev wsX40 : List Cond := u_ws RX4 TX4 4
theorem nmX4 : ∀ a, a < 4 → ∀ b, b < 4 → a ≠ b → (TX4 a).2.1 ≠ (TX4 b).2.1 := by decide +kernel
theorem tyX4_ok : ∀ k, k < 4 → parseFieldDescriptor (TX4 k).2.2.1 = some (tyX4 k) := by decide +kernel
abbrev cX4_init : ByteArray := prog_6_method_1_code
def yX4_init : MethodName := ⟨RX4, "<init>", "()V"⟩
abbrev cX4_begin : ByteArray := prog_6_method_2_code
def yX4_begin : MethodName := ⟨RX4, "begin", "(II)I"⟩
abbrev cX4_follow : ByteArray := prog_6_method_3_code
def yX4_follow : MethodName := ⟨RX4, "follow", "(LFireFromFire$Hours;LFireFromFire$Village;II)V"⟩
abbrev cX4_shareOf : ByteArray := prog_6_method_4_code
def yX4_shareOf : MethodName := ⟨RX4, "shareOf", "(II)J"⟩
abbrev cX4_commonDivisor : ByteArray := prog_6_method_5_code
def yX4_commonDivisor : MethodName := ⟨RX4, "commonDivisor", "(JJ)J"⟩
def RX5 : String := "FireFromFire$Paths"
def TX5 : u_T := fun k => match k with
  | 0 => ("FireFromFire$Paths", "least", "[[I", true)
  | _ => ("FireFromFire$Paths", "houses", "I", false)
def tyX5 : Nat → FieldType := fun k => match k with
  | 0 => .array (.array .int)
  | _ => .int
abbrev wsX50 : List Cond := u_ws RX5 TX5 2
theorem nmX5 : ∀ a, a < 2 → ∀ b, b < 2 → a ≠ b → (TX5 a).2.1 ≠ (TX5 b).2.1 := by decide +kernel
theorem tyX5_ok : ∀ k, k < 2 → parseFieldDescriptor (TX5 k).2.2.1 = some (tyX5 k) := by decide +kernel
abbrev cX5_init : ByteArray := prog_7_method_1_code
def yX5_init : MethodName := ⟨RX5, "<init>", "()V"⟩
abbrev cX5_measure : ByteArray := prog_7_method_2_code
def yX5_measure : MethodName := ⟨RX5, "measure", "(LFireFromFire$Village;)V"⟩
abbrev cX5_toFire : ByteArray := prog_7_method_3_code
def yX5_toFire : MethodName := ⟨RX5, "toFire", "(LFireFromFire$Village;I)I"⟩
abbrev cX5_widest : ByteArray := prog_7_method_4_code
def yX5_widest : MethodName := ⟨RX5, "widest", "()I"⟩
abbrev cX5_fewest : ByteArray := prog_7_method_5_code
def yX5_fewest : MethodName := ⟨RX5, "fewest", "(I)I"⟩
abbrev cX5_isReached : ByteArray := prog_7_method_6_code
def yX5_isReached : MethodName := ⟨RX5, "isReached", "(II)Z"⟩
def RX6 : String := "FireFromFire$Reader"
def TX6 : u_T := fun k => match k with
  | 0 => ("FireFromFire$Reader", "bytes", "[I", true)
  | 1 => ("FireFromFire$Reader", "length", "I", false)
  | 2 => ("FireFromFire$Reader", "place", "I", false)
  | _ => ("FireFromFire$Reader", "land", "LFireFromFire$Land;", false)
def tyX6 : Nat → FieldType := fun k => match k with
  | 0 => .array .int
  | 1 => .int
  | 2 => .int
  | _ => .object "FireFromFire$Land"
abbrev wsX60 : List Cond := u_ws RX6 TX6 4
theorem nmX6 : ∀ a, a < 4 → ∀ b, b < 4 → a ≠ b → (TX6 a).2.1 ≠ (TX6 b).2.1 := by decide +kernel
theorem tyX6_ok : ∀ k, k < 4 → parseFieldDescriptor (TX6 k).2.2.1 = some (tyX6 k) := by decide +kernel
abbrev cX6_init : ByteArray := prog_8_method_1_code
def yX6_init : MethodName := ⟨RX6, "<init>", "()V"⟩
abbrev cX6_append : ByteArray := prog_8_method_2_code
def yX6_append : MethodName := ⟨RX6, "append", "(I)V"⟩
abbrev cX6_parse : ByteArray := prog_8_method_3_code
def yX6_parse : MethodName := ⟨RX6, "parse", "(LFireFromFire$Land;)Z"⟩
abbrev cX6_sign : ByteArray := prog_8_method_4_code
def yX6_sign : MethodName := ⟨RX6, "sign", "()I"⟩
abbrev cX6_take : ByteArray := prog_8_method_5_code
def yX6_take : MethodName := ⟨RX6, "take", "(I)Z"⟩
abbrev cX6_takeAll : ByteArray := prog_8_method_6_code
def yX6_takeAll : MethodName := ⟨RX6, "takeAll", "(Ljava/lang/String;)Z"⟩
abbrev cX6_takeWord : ByteArray := prog_8_method_7_code
def yX6_takeWord : MethodName := ⟨RX6, "takeWord", "()I"⟩
abbrev cX6_takeWeather : ByteArray := prog_8_method_8_code
def yX6_takeWeather : MethodName := ⟨RX6, "takeWeather", "()I"⟩
abbrev cX6_takeNumber : ByteArray := prog_8_method_9_code
def yX6_takeNumber : MethodName := ⟨RX6, "takeNumber", "()I"⟩
abbrev cX6_takeNext : ByteArray := prog_8_method_10_code
def yX6_takeNext : MethodName := ⟨RX6, "takeNext", "()Z"⟩
abbrev cX6_takeEither : ByteArray := prog_8_method_11_code
def yX6_takeEither : MethodName := ⟨RX6, "takeEither", "(I)Z"⟩
abbrev cX6_takePart : ByteArray := prog_8_method_12_code
def yX6_takePart : MethodName := ⟨RX6, "takePart", "(I)Z"⟩
abbrev cX6_takeTest : ByteArray := prog_8_method_13_code
def yX6_takeTest : MethodName := ⟨RX6, "takeTest", "(I)Z"⟩
def RX7 : String := "FireFromFire$Tape"
def TX7 : u_T := fun k => match k with
  | 0 => ("FireFromFire$Tape", "sort", "I", false)
  | 1 => ("FireFromFire$Tape", "size", "I", false)
  | _ => ("FireFromFire$Tape", "items", "[J", true)
def tyX7 : Nat → FieldType := fun k => match k with
  | 0 => .int
  | 1 => .int
  | _ => .array .long
abbrev wsX70 : List Cond := u_ws RX7 TX7 3
theorem nmX7 : ∀ a, a < 3 → ∀ b, b < 3 → a ≠ b → (TX7 a).2.1 ≠ (TX7 b).2.1 := by decide +kernel
theorem tyX7_ok : ∀ k, k < 3 → parseFieldDescriptor (TX7 k).2.2.1 = some (tyX7 k) := by decide +kernel
abbrev cX7_init : ByteArray := prog_9_method_1_code
def yX7_init : MethodName := ⟨RX7, "<init>", "()V"⟩
abbrev cX7_start : ByteArray := prog_9_method_2_code
def yX7_start : MethodName := ⟨RX7, "start", "(II)V"⟩
abbrev cX7_isRow : ByteArray := prog_9_method_3_code
def yX7_isRow : MethodName := ⟨RX7, "isRow", "()Z"⟩
abbrev cX7_has : ByteArray := prog_9_method_4_code
def yX7_has : MethodName := ⟨RX7, "has", "(II)Z"⟩
abbrev cX7_get : ByteArray := prog_9_method_5_code
def yX7_get : MethodName := ⟨RX7, "get", "(I)J"⟩
abbrev cX7_put : ByteArray := prog_9_method_6_code
def yX7_put : MethodName := ⟨RX7, "put", "(IJ)V"⟩
abbrev cX7_cut : ByteArray := prog_9_method_7_code
def yX7_cut : MethodName := ⟨RX7, "cut", "(J)J"⟩
def RX8 : String := "FireFromFire$Village"
def TX8 : u_T := fun k => match k with
  | 0 => ("FireFromFire$Village", "houses", "I", false)
  | 1 => ("FireFromFire$Village", "homes", "[LFireFromFire$House;", true)
  | 2 => ("FireFromFire$Village", "ways", "[[I", true)
  | 3 => ("FireFromFire$Village", "weather", "I", false)
  | 4 => ("FireFromFire$Village", "hour", "I", false)
  | 5 => ("FireFromFire$Village", "land", "LFireFromFire$Land;", false)
  | 6 => ("FireFromFire$Village", "nights", "I", false)
  | 7 => ("FireFromFire$Village", "nightWeather", "[I", true)
  | 8 => ("FireFromFire$Village", "nightMishaps", "[I", true)
  | _ => ("FireFromFire$Village", "facts", "[I", true)
def tyX8 : Nat → FieldType := fun k => match k with
  | 0 => .int
  | 1 => .array (.object "FireFromFire$House")
  | 2 => .array (.array .int)
  | 3 => .int
  | 4 => .int
  | 5 => .object "FireFromFire$Land"
  | 6 => .int
  | 7 => .array .int
  | 8 => .array .int
  | _ => .array .int
abbrev wsX80 : List Cond := u_ws RX8 TX8 10
theorem nmX8 : ∀ a, a < 10 → ∀ b, b < 10 → a ≠ b → (TX8 a).2.1 ≠ (TX8 b).2.1 := by decide +kernel
theorem tyX8_ok : ∀ k, k < 10 → parseFieldDescriptor (TX8 k).2.2.1 = some (tyX8 k) := by decide +kernel
abbrev cX8_init : ByteArray := prog_10_method_1_code
def yX8_init : MethodName := ⟨RX8, "<init>", "()V"⟩
abbrev cX8_find : ByteArray := prog_10_method_2_code
def yX8_find : MethodName := ⟨RX8, "find", "(I)LFireFromFire$House;"⟩
abbrev cX8_copy : ByteArray := prog_10_method_3_code
def yX8_copy : MethodName := ⟨RX8, "copy", "(LFireFromFire$Village;)V"⟩
abbrev cX8_hoursBetween : ByteArray := prog_10_method_4_code
def yX8_hoursBetween : MethodName := ⟨RX8, "hoursBetween", "(II)I"⟩
abbrev cX8_join : ByteArray := prog_10_method_5_code
def yX8_join : MethodName := ⟨RX8, "join", "(III)V"⟩
abbrev cX8_litBits : ByteArray := prog_10_method_6_code
def yX8_litBits : MethodName := ⟨RX8, "litBits", "()I"⟩
abbrev cX8_litCount : ByteArray := prog_10_method_7_code
def yX8_litCount : MethodName := ⟨RX8, "litCount", "()I"⟩
abbrev cX8_payAll : ByteArray := prog_10_method_8_code
def yX8_payAll : MethodName := ⟨RX8, "payAll", "(I)V"⟩
abbrev cX8_sum : ByteArray := prog_10_method_9_code
def yX8_sum : MethodName := ⟨RX8, "sum", "(III)I"⟩
abbrev cX8_tenthsOf : ByteArray := prog_10_method_10_code
def yX8_tenthsOf : MethodName := ⟨RX8, "tenthsOf", "(II)I"⟩
abbrev cX8_nearestFire : ByteArray := prog_10_method_11_code
def yX8_nearestFire : MethodName := ⟨RX8, "nearestFire", "(I)I"⟩
abbrev cX8_choice : ByteArray := prog_10_method_12_code
def yX8_choice : MethodName := ⟨RX8, "choice", "(II)I"⟩
abbrev cX8_isKeeping : ByteArray := prog_10_method_13_code
def yX8_isKeeping : MethodName := ⟨RX8, "isKeeping", "(LFireFromFire$House;II)Z"⟩
abbrev cX8_isSending : ByteArray := prog_10_method_14_code
def yX8_isSending : MethodName := ⟨RX8, "isSending", "(LFireFromFire$House;II)Z"⟩
def RX9 : String := "FireFromFire"
def TX9 : u_T := fun k => match k with
  | 0 => ("FireFromFire", "now", "LFireFromFire$Village;", true)
  | 1 => ("FireFromFire", "kept", "LFireFromFire$Village;", true)
  | 2 => ("FireFromFire", "then", "LFireFromFire$Village;", true)
  | 3 => ("FireFromFire", "isKept", "Z", false)
  | 4 => ("FireFromFire", "text", "LFireFromFire$Reader;", true)
  | 5 => ("FireFromFire", "lands", "[LFireFromFire$Land;", true)
  | 6 => ("FireFromFire", "landCount", "I", false)
  | 7 => ("FireFromFire", "hours", "LFireFromFire$Hours;", true)
  | 8 => ("FireFromFire", "paths", "LFireFromFire$Paths;", true)
  | 9 => ("FireFromFire", "odds", "LFireFromFire$Odds;", true)
  | 10 => ("FireFromFire", "acts", "LFireFromFire$Acts;", true)
  | _ => ("FireFromFire", "tapes", "[LFireFromFire$Tape;", true)
def tyX9 : Nat → FieldType := fun k => match k with
  | 0 => .object "FireFromFire$Village"
  | 1 => .object "FireFromFire$Village"
  | 2 => .object "FireFromFire$Village"
  | 3 => .boolean
  | 4 => .object "FireFromFire$Reader"
  | 5 => .array (.object "FireFromFire$Land")
  | 6 => .int
  | 7 => .object "FireFromFire$Hours"
  | 8 => .object "FireFromFire$Paths"
  | 9 => .object "FireFromFire$Odds"
  | 10 => .object "FireFromFire$Acts"
  | _ => .array (.object "FireFromFire$Tape")
abbrev wsX90 : List Cond := u_ws RX9 TX9 12
theorem nmX9 : ∀ a, a < 12 → ∀ b, b < 12 → a ≠ b → (TX9 a).2.1 ≠ (TX9 b).2.1 := by decide +kernel
theorem tyX9_ok : ∀ k, k < 12 → parseFieldDescriptor (TX9 k).2.2.1 = some (tyX9 k) := by decide +kernel
abbrev cX9_init : ByteArray := prog_1_method_1_code
def yX9_init : MethodName := ⟨RX9, "<init>", "()V"⟩
abbrev cX9_house : ByteArray := prog_1_method_2_code
def yX9_house : MethodName := ⟨RX9, "house", "(IZ)I"⟩
abbrev cX9_of : ByteArray := prog_1_method_3_code
def yX9_of : MethodName := ⟨RX9, "of", "(II)I"⟩
abbrev cX9_wood : ByteArray := prog_1_method_4_code
def yX9_wood : MethodName := ⟨RX9, "wood", "(II)I"⟩
abbrev cX9_light : ByteArray := prog_1_method_5_code
def yX9_light : MethodName := ⟨RX9, "light", "(IZ)I"⟩
abbrev cX9_way : ByteArray := prog_1_method_6_code
def yX9_way : MethodName := ⟨RX9, "way", "(III)I"⟩
abbrev cX9_feed : ByteArray := prog_1_method_7_code
def yX9_feed : MethodName := ⟨RX9, "feed", "(II)I"⟩
abbrev cX9_land : ByteArray := prog_1_method_8_code
def yX9_land : MethodName := ⟨RX9, "land", "()I"⟩
abbrev cX9_told : ByteArray := prog_1_method_9_code
def yX9_told : MethodName := ⟨RX9, "told", "(III)I"⟩
abbrev cX9_follows : ByteArray := prog_1_method_10_code
def yX9_follows : MethodName := ⟨RX9, "follows", "(II)I"⟩
abbrev cX9_keeper : ByteArray := prog_1_method_11_code
def yX9_keeper : MethodName := ⟨RX9, "keeper", "(IIII)I"⟩
abbrev cX9_would : ByteArray := prog_1_method_12_code
def yX9_would : MethodName := ⟨RX9, "would", "(II)I"⟩
abbrev cX9_go : ByteArray := prog_1_method_13_code
def yX9_go : MethodName := ⟨RX9, "go", "(II)I"⟩
abbrev cX9_night : ByteArray := prog_1_method_14_code
def yX9_night : MethodName := ⟨RX9, "night", "(II)I"⟩
abbrev cX9_hand : ByteArray := prog_1_method_15_code
def yX9_hand : MethodName := ⟨RX9, "hand", "(II)I"⟩
abbrev cX9_quickest : ByteArray := prog_1_method_16_code
def yX9_quickest : MethodName := ⟨RX9, "quickest", "(II)I"⟩
abbrev cX9_where : ByteArray := prog_1_method_17_code
def yX9_where : MethodName := ⟨RX9, "where", "(I)I"⟩
abbrev cX9_apart : ByteArray := prog_1_method_18_code
def yX9_apart : MethodName := ⟨RX9, "apart", "()I"⟩
abbrev cX9_ends : ByteArray := prog_1_method_19_code
def yX9_ends : MethodName := ⟨RX9, "ends", "(III)J"⟩
abbrev cX9_lasts : ByteArray := prog_1_method_20_code
def yX9_lasts : MethodName := ⟨RX9, "lasts", "()I"⟩
abbrev cX9_match : ByteArray := prog_1_method_21_code
def yX9_match : MethodName := ⟨RX9, "match", "(II)I"⟩
abbrev cX9_asked : ByteArray := prog_1_method_22_code
def yX9_asked : MethodName := ⟨RX9, "asked", "(I)I"⟩
abbrev cX9_law : ByteArray := prog_1_method_23_code
def yX9_law : MethodName := ⟨RX9, "law", "(I)I"⟩
abbrev cX9_freed : ByteArray := prog_1_method_24_code
def yX9_freed : MethodName := ⟨RX9, "freed", "()I"⟩
abbrev cX9_judge : ByteArray := prog_1_method_25_code
def yX9_judge : MethodName := ⟨RX9, "judge", "(III)I"⟩
abbrev cX9_image : ByteArray := prog_1_method_26_code
def yX9_image : MethodName := ⟨RX9, "image", "()I"⟩
abbrev cX9_undo : ByteArray := prog_1_method_27_code
def yX9_undo : MethodName := ⟨RX9, "undo", "()I"⟩
abbrev cX9_act : ByteArray := prog_1_method_28_code
def yX9_act : MethodName := ⟨RX9, "act", "(III)I"⟩
abbrev cX9_trace : ByteArray := prog_1_method_29_code
def yX9_trace : MethodName := ⟨RX9, "trace", "(I)I"⟩
abbrev cX9_taken : ByteArray := prog_1_method_30_code
def yX9_taken : MethodName := ⟨RX9, "taken", "(II)I"⟩
abbrev cX9_count : ByteArray := prog_1_method_31_code
def yX9_count : MethodName := ⟨RX9, "count", "(I)I"⟩
abbrev cX9_tape : ByteArray := prog_1_method_32_code
def yX9_tape : MethodName := ⟨RX9, "tape", "(III)I"⟩
abbrev cX9_item : ByteArray := prog_1_method_33_code
def yX9_item : MethodName := ⟨RX9, "item", "(IIJ)I"⟩
abbrev cX9_read : ByteArray := prog_1_method_34_code
def yX9_read : MethodName := ⟨RX9, "read", "(II)J"⟩
abbrev cX9_shift : ByteArray := prog_1_method_35_code
def yX9_shift : MethodName := ⟨RX9, "shift", "(IIIII)I"⟩
abbrev cX9_findTape : ByteArray := prog_1_method_36_code
def yX9_findTape : MethodName := ⟨RX9, "findTape", "(I)LFireFromFire$Tape;"⟩
abbrev cX9_isWeather : ByteArray := prog_1_method_37_code
def yX9_isWeather : MethodName := ⟨RX9, "isWeather", "(I)Z"⟩
abbrev cX9_isKind : ByteArray := prog_1_method_38_code
def yX9_isKind : MethodName := ⟨RX9, "isKind", "(I)Z"⟩
abbrev cX9_kindAbove : ByteArray := prog_1_method_39_code
def yX9_kindAbove : MethodName := ⟨RX9, "kindAbove", "(I)I"⟩
def RX10 : String := "FireFromFireModel"
def TX10 : u_T := fun k => match k with
  | 0 => ("FireFromFireModel", "houses", "I", false)
  | 1 => ("FireFromFireModel", "alight", "I", false)
  | 2 => ("FireFromFireModel", "hour", "I", false)
  | 3 => ("FireFromFireModel", "weather", "I", false)
  | 4 => ("FireFromFireModel", "wood", "[I", true)
  | 5 => ("FireFromFireModel", "kind", "[I", true)
  | 6 => ("FireFromFireModel", "v", "[I", true)
  | 7 => ("FireFromFireModel", "hours", "[I", true)
  | 8 => ("FireFromFireModel", "phase", "[I", true)
  | 9 => ("FireFromFireModel", "yet", "[I", true)
  | 10 => ("FireFromFireModel", "to", "[I", true)
  | 11 => ("FireFromFireModel", "horn", "[I", true)
  | 12 => ("FireFromFireModel", "ways", "[I", true)
  | 13 => ("FireFromFireModel", "lands", "I", false)
  | 14 => ("FireFromFireModel", "the", "I", false)
  | 15 => ("FireFromFireModel", "fed", "I", false)
  | 16 => ("FireFromFireModel", "at", "I", false)
  | 17 => ("FireFromFireModel", "digits", "I", false)
  | 18 => ("FireFromFireModel", "text", "[I", true)
  | 19 => ("FireFromFireModel", "clauses", "[I", true)
  | 20 => ("FireFromFireModel", "word", "[I", true)
  | 21 => ("FireFromFireModel", "spot", "[I", true)
  | 22 => ("FireFromFireModel", "number", "[I", true)
  | 23 => ("FireFromFireModel", "from", "[I", true)
  | 24 => ("FireFromFireModel", "until", "[I", true)
  | 25 => ("FireFromFireModel", "sign", "[I", true)
  | 26 => ("FireFromFireModel", "waits", "[I", true)
  | 27 => ("FireFromFireModel", "signs", "I", false)
  | 28 => ("FireFromFireModel", "waiting", "I", false)
  | 29 => ("FireFromFireModel", "open", "I", false)
  | 30 => ("FireFromFireModel", "letterOfWords", "[I", true)
  | 31 => ("FireFromFireModel", "follow", "[I", true)
  | 32 => ("FireFromFireModel", "atAlight", "I", false)
  | 33 => ("FireFromFireModel", "atHour", "I", false)
  | 34 => ("FireFromFireModel", "wasAlight", "I", false)
  | 35 => ("FireFromFireModel", "worth", "I", false)
  | 36 => ("FireFromFireModel", "lacked", "I", false)
  | 37 => ("FireFromFireModel", "atWood", "[I", true)
  | 38 => ("FireFromFireModel", "wasWood", "[I", true)
  | 39 => ("FireFromFireModel", "tryKind", "[I", true)
  | 40 => ("FireFromFireModel", "tryV", "[I", true)
  | 41 => ("FireFromFireModel", "atPhase", "[I", true)
  | 42 => ("FireFromFireModel", "atYet", "[I", true)
  | 43 => ("FireFromFireModel", "atTo", "[I", true)
  | 44 => ("FireFromFireModel", "atHorn", "[I", true)
  | 45 => ("FireFromFireModel", "pile", "[Z", true)
  | 46 => ("FireFromFireModel", "nights", "I", false)
  | 47 => ("FireFromFireModel", "nightWeather", "[I", true)
  | 48 => ("FireFromFireModel", "nightMishaps", "[I", true)
  | 49 => ("FireFromFireModel", "apartBy", "[I", true)
  | 50 => ("FireFromFireModel", "keptAlight", "I", false)
  | 51 => ("FireFromFireModel", "keptHour", "I", false)
  | 52 => ("FireFromFireModel", "keptWorth", "I", false)
  | 53 => ("FireFromFireModel", "keptWood", "[I", true)
  | 54 => ("FireFromFireModel", "keptPhase", "[I", true)
  | 55 => ("FireFromFireModel", "keptYet", "[I", true)
  | 56 => ("FireFromFireModel", "keptTo", "[I", true)
  | 57 => ("FireFromFireModel", "keptHorn", "[I", true)
  | 58 => ("FireFromFireModel", "endings", "J", false)
  | 59 => ("FireFromFireModel", "worths", "J", false)
  | 60 => ("FireFromFireModel", "hasImage", "Z", false)
  | 61 => ("FireFromFireModel", "imageThe", "I", false)
  | 62 => ("FireFromFireModel", "imageHouses", "I", false)
  | 63 => ("FireFromFireModel", "imageAlight", "I", false)
  | 64 => ("FireFromFireModel", "imageHour", "I", false)
  | 65 => ("FireFromFireModel", "imageWeather", "I", false)
  | 66 => ("FireFromFireModel", "imageNights", "I", false)
  | 67 => ("FireFromFireModel", "imageWood", "[I", true)
  | 68 => ("FireFromFireModel", "imageKind", "[I", true)
  | 69 => ("FireFromFireModel", "imageV", "[I", true)
  | 70 => ("FireFromFireModel", "imageHours", "[I", true)
  | 71 => ("FireFromFireModel", "imagePhase", "[I", true)
  | 72 => ("FireFromFireModel", "imageYet", "[I", true)
  | 73 => ("FireFromFireModel", "imageTo", "[I", true)
  | 74 => ("FireFromFireModel", "imageHorn", "[I", true)
  | 75 => ("FireFromFireModel", "imageWays", "[I", true)
  | 76 => ("FireFromFireModel", "imageNightWeather", "[I", true)
  | 77 => ("FireFromFireModel", "imageNightMishaps", "[I", true)
  | 78 => ("FireFromFireModel", "ran", "I", false)
  | 79 => ("FireFromFireModel", "bodies", "[I", true)
  | 80 => ("FireFromFireModel", "sort", "[I", true)
  | 81 => ("FireFromFireModel", "length", "[I", true)
  | 82 => ("FireFromFireModel", "item", "[J", true)
  | _ => ("FireFromFireModel", "aside", "[J", true)
def tyX10 : Nat → FieldType := fun k => match k with
  | 0 => .int
  | 1 => .int
  | 2 => .int
  | 3 => .int
  | 4 => .array .int
  | 5 => .array .int
  | 6 => .array .int
  | 7 => .array .int
  | 8 => .array .int
  | 9 => .array .int
  | 10 => .array .int
  | 11 => .array .int
  | 12 => .array .int
  | 13 => .int
  | 14 => .int
  | 15 => .int
  | 16 => .int
  | 17 => .int
  | 18 => .array .int
  | 19 => .array .int
  | 20 => .array .int
  | 21 => .array .int
  | 22 => .array .int
  | 23 => .array .int
  | 24 => .array .int
  | 25 => .array .int
  | 26 => .array .int
  | 27 => .int
  | 28 => .int
  | 29 => .int
  | 30 => .array .int
  | 31 => .array .int
  | 32 => .int
  | 33 => .int
  | 34 => .int
  | 35 => .int
  | 36 => .int
  | 37 => .array .int
  | 38 => .array .int
  | 39 => .array .int
  | 40 => .array .int
  | 41 => .array .int
  | 42 => .array .int
  | 43 => .array .int
  | 44 => .array .int
  | 45 => .array .boolean
  | 46 => .int
  | 47 => .array .int
  | 48 => .array .int
  | 49 => .array .int
  | 50 => .int
  | 51 => .int
  | 52 => .int
  | 53 => .array .int
  | 54 => .array .int
  | 55 => .array .int
  | 56 => .array .int
  | 57 => .array .int
  | 58 => .long
  | 59 => .long
  | 60 => .boolean
  | 61 => .int
  | 62 => .int
  | 63 => .int
  | 64 => .int
  | 65 => .int
  | 66 => .int
  | 67 => .array .int
  | 68 => .array .int
  | 69 => .array .int
  | 70 => .array .int
  | 71 => .array .int
  | 72 => .array .int
  | 73 => .array .int
  | 74 => .array .int
  | 75 => .array .int
  | 76 => .array .int
  | 77 => .array .int
  | 78 => .int
  | 79 => .array .int
  | 80 => .array .int
  | 81 => .array .int
  | 82 => .array .long
  | _ => .array .long
abbrev wsX100 : List Cond := u_ws RX10 TX10 84
theorem nmX10 : ∀ a, a < 84 → ∀ b, b < 84 → a ≠ b → (TX10 a).2.1 ≠ (TX10 b).2.1 := by decide +kernel
theorem tyX10_ok : ∀ k, k < 84 → parseFieldDescriptor (TX10 k).2.2.1 = some (tyX10 k) := by decide +kernel
abbrev cX10_init : ByteArray := prog_12_method_1_code
def yX10_init : MethodName := ⟨RX10, "<init>", "()V"⟩
abbrev cX10_in : ByteArray := prog_12_method_2_code
def yX10_in : MethodName := ⟨RX10, "in", "(III)Z"⟩
abbrev cX10_min : ByteArray := prog_12_method_3_code
def yX10_min : MethodName := ⟨RX10, "min", "(II)I"⟩
abbrev cX10_has : ByteArray := prog_12_method_4_code
def yX10_has : MethodName := ⟨RX10, "has", "(II)Z"⟩
abbrev cX10_isHouse : ByteArray := prog_12_method_5_code
def yX10_isHouse : MethodName := ⟨RX10, "isHouse", "(I)Z"⟩
abbrev cX10_isWeather : ByteArray := prog_12_method_6_code
def yX10_isWeather : MethodName := ⟨RX10, "isWeather", "(I)Z"⟩
abbrev cX10_house : ByteArray := prog_12_method_7_code
def yX10_house : MethodName := ⟨RX10, "house", "(IZ)I"⟩
abbrev cX10_of : ByteArray := prog_12_method_8_code
def yX10_of : MethodName := ⟨RX10, "of", "(II)I"⟩
abbrev cX10_wood : ByteArray := prog_12_method_9_code
def yX10_wood : MethodName := ⟨RX10, "wood", "(II)I"⟩
abbrev cX10_light : ByteArray := prog_12_method_10_code
def yX10_light : MethodName := ⟨RX10, "light", "(IZ)I"⟩
abbrev cX10_way : ByteArray := prog_12_method_11_code
def yX10_way : MethodName := ⟨RX10, "way", "(III)I"⟩
abbrev cX10_keeper : ByteArray := prog_12_method_12_code
def yX10_keeper : MethodName := ⟨RX10, "keeper", "(IIII)I"⟩
abbrev cX10_feed : ByteArray := prog_12_method_13_code
def yX10_feed : MethodName := ⟨RX10, "feed", "(II)I"⟩
abbrev cX10_next : ByteArray := prog_12_method_14_code
def yX10_next : MethodName := ⟨RX10, "next", "()I"⟩
abbrev cX10_takesSign : ByteArray := prog_12_method_15_code
def yX10_takesSign : MethodName := ⟨RX10, "takesSign", "(I)Z"⟩
abbrev cX10_takesWord : ByteArray := prog_12_method_16_code
def yX10_takesWord : MethodName := ⟨RX10, "takesWord", "(II)Z"⟩
abbrev cX10_isDigit : ByteArray := prog_12_method_17_code
def yX10_isDigit : MethodName := ⟨RX10, "isDigit", "()Z"⟩
abbrev cX10_takesNumber : ByteArray := prog_12_method_18_code
def yX10_takesNumber : MethodName := ⟨RX10, "takesNumber", "()Z"⟩
abbrev cX10_put : ByteArray := prog_12_method_19_code
def yX10_put : MethodName := ⟨RX10, "put", "(I)V"⟩
abbrev cX10_whole : ByteArray := prog_12_method_20_code
def yX10_whole : MethodName := ⟨RX10, "whole", "()V"⟩
abbrev cX10_settle : ByteArray := prog_12_method_21_code
def yX10_settle : MethodName := ⟨RX10, "settle", "(I)V"⟩
abbrev cX10_third : ByteArray := prog_12_method_22_code
def yX10_third : MethodName := ⟨RX10, "third", "()I"⟩
abbrev cX10_place : ByteArray := prog_12_method_23_code
def yX10_place : MethodName := ⟨RX10, "place", "(I)I"⟩
abbrev cX10_takesTest : ByteArray := prog_12_method_24_code
def yX10_takesTest : MethodName := ⟨RX10, "takesTest", "()Z"⟩
abbrev cX10_takesE : ByteArray := prog_12_method_25_code
def yX10_takesE : MethodName := ⟨RX10, "takesE", "(I)Z"⟩
abbrev cX10_takesFigure : ByteArray := prog_12_method_26_code
def yX10_takesFigure : MethodName := ⟨RX10, "takesFigure", "(I)Z"⟩
abbrev cX10_takesHead : ByteArray := prog_12_method_27_code
def yX10_takesHead : MethodName := ⟨RX10, "takesHead", "(I)Z"⟩
abbrev cX10_takesClause : ByteArray := prog_12_method_28_code
def yX10_takesClause : MethodName := ⟨RX10, "takesClause", "(I)Z"⟩
abbrev cX10_goesText : ByteArray := prog_12_method_29_code
def yX10_goesText : MethodName := ⟨RX10, "goesText", "(I)Z"⟩
abbrev cX10_land : ByteArray := prog_12_method_30_code
def yX10_land : MethodName := ⟨RX10, "land", "()I"⟩
abbrev cX10_first : ByteArray := prog_12_method_31_code
def yX10_first : MethodName := ⟨RX10, "first", "()I"⟩
abbrev cX10_behind : ByteArray := prog_12_method_32_code
def yX10_behind : MethodName := ⟨RX10, "behind", "()I"⟩
abbrev cX10_layFollows : ByteArray := prog_12_method_33_code
def yX10_layFollows : MethodName := ⟨RX10, "layFollows", "()V"⟩
abbrev cX10_follows : ByteArray := prog_12_method_34_code
def yX10_follows : MethodName := ⟨RX10, "follows", "(II)I"⟩
abbrev cX10_asIs : ByteArray := prog_12_method_35_code
def yX10_asIs : MethodName := ⟨RX10, "asIs", "()V"⟩
abbrev cX10_begin : ByteArray := prog_12_method_36_code
def yX10_begin : MethodName := ⟨RX10, "begin", "()V"⟩
abbrev cX10_ones : ByteArray := prog_12_method_37_code
def yX10_ones : MethodName := ⟨RX10, "ones", "(I)I"⟩
abbrev cX10_factOf : ByteArray := prog_12_method_38_code
def yX10_factOf : MethodName := ⟨RX10, "factOf", "(III)I"⟩
abbrev cX10_holds : ByteArray := prog_12_method_39_code
def yX10_holds : MethodName := ⟨RX10, "holds", "(III)Z"⟩
abbrev cX10_sumOf : ByteArray := prog_12_method_40_code
def yX10_sumOf : MethodName := ⟨RX10, "sumOf", "(III)I"⟩
abbrev cX10_told : ByteArray := prog_12_method_41_code
def yX10_told : MethodName := ⟨RX10, "told", "(III)I"⟩
abbrev cX10_isNoneAhead : ByteArray := prog_12_method_42_code
def yX10_isNoneAhead : MethodName := ⟨RX10, "isNoneAhead", "(I)Z"⟩
abbrev cX10_keeps : ByteArray := prog_12_method_43_code
def yX10_keeps : MethodName := ⟨RX10, "keeps", "(II)Z"⟩
abbrev cX10_sends : ByteArray := prog_12_method_44_code
def yX10_sends : MethodName := ⟨RX10, "sends", "(II)Z"⟩
abbrev cX10_whereTo : ByteArray := prog_12_method_45_code
def yX10_whereTo : MethodName := ⟨RX10, "whereTo", "(I)I"⟩
abbrev cX10_would : ByteArray := prog_12_method_46_code
def yX10_would : MethodName := ⟨RX10, "would", "(II)I"⟩
abbrev cX10_burns : ByteArray := prog_12_method_47_code
def yX10_burns : MethodName := ⟨RX10, "burns", "(III)V"⟩
abbrev cX10_setsOut : ByteArray := prog_12_method_48_code
def yX10_setsOut : MethodName := ⟨RX10, "setsOut", "(II)V"⟩
abbrev cX10_walks : ByteArray := prog_12_method_49_code
def yX10_walks : MethodName := ⟨RX10, "walks", "(II)V"⟩
abbrev cX10_goHour : ByteArray := prog_12_method_50_code
def yX10_goHour : MethodName := ⟨RX10, "goHour", "(II)V"⟩
abbrev cX10_go : ByteArray := prog_12_method_51_code
def yX10_go : MethodName := ⟨RX10, "go", "(II)I"⟩
abbrev cX10_night : ByteArray := prog_12_method_52_code
def yX10_night : MethodName := ⟨RX10, "night", "(II)I"⟩
abbrev cX10_goNights : ByteArray := prog_12_method_53_code
def yX10_goNights : MethodName := ⟨RX10, "goNights", "(I)V"⟩
abbrev cX10_hand : ByteArray := prog_12_method_54_code
def yX10_hand : MethodName := ⟨RX10, "hand", "(II)I"⟩
abbrev cX10_layApart : ByteArray := prog_12_method_55_code
def yX10_layApart : MethodName := ⟨RX10, "layApart", "()V"⟩
abbrev cX10_nearest : ByteArray := prog_12_method_56_code
def yX10_nearest : MethodName := ⟨RX10, "nearest", "(II)I"⟩
abbrev cX10_quickest : ByteArray := prog_12_method_57_code
def yX10_quickest : MethodName := ⟨RX10, "quickest", "(II)I"⟩
abbrev cX10_where : ByteArray := prog_12_method_58_code
def yX10_where : MethodName := ⟨RX10, "where", "(I)I"⟩
abbrev cX10_apart : ByteArray := prog_12_method_59_code
def yX10_apart : MethodName := ⟨RX10, "apart", "()I"⟩
abbrev cX10_divisor : ByteArray := prog_12_method_60_code
def yX10_divisor : MethodName := ⟨RX10, "divisor", "(JJ)J"⟩
abbrev cX10_keep : ByteArray := prog_12_method_61_code
def yX10_keep : MethodName := ⟨RX10, "keep", "()V"⟩
abbrev cX10_layBack : ByteArray := prog_12_method_62_code
def yX10_layBack : MethodName := ⟨RX10, "layBack", "()V"⟩
abbrev cX10_mishapWeight : ByteArray := prog_12_method_63_code
def yX10_mishapWeight : MethodName := ⟨RX10, "mishapWeight", "(II)J"⟩
abbrev cX10_counts : ByteArray := prog_12_method_64_code
def yX10_counts : MethodName := ⟨RX10, "counts", "(J)V"⟩
abbrev cX10_lastHour : ByteArray := prog_12_method_65_code
def yX10_lastHour : MethodName := ⟨RX10, "lastHour", "(IJ)V"⟩
abbrev cX10_ends : ByteArray := prog_12_method_66_code
def yX10_ends : MethodName := ⟨RX10, "ends", "(III)J"⟩
abbrev cX10_lasts : ByteArray := prog_12_method_67_code
def yX10_lasts : MethodName := ⟨RX10, "lasts", "()I"⟩
abbrev cX10_matchOf : ByteArray := prog_12_method_68_code
def yX10_matchOf : MethodName := ⟨RX10, "matchOf", "(II)I"⟩
abbrev cX10_match : ByteArray := prog_12_method_69_code
def yX10_match : MethodName := ⟨RX10, "match", "(II)I"⟩
abbrev cX10_asked : ByteArray := prog_12_method_70_code
def yX10_asked : MethodName := ⟨RX10, "asked", "(I)I"⟩
abbrev cX10_law : ByteArray := prog_12_method_71_code
def yX10_law : MethodName := ⟨RX10, "law", "(I)I"⟩
abbrev cX10_freed : ByteArray := prog_12_method_72_code
def yX10_freed : MethodName := ⟨RX10, "freed", "()I"⟩
abbrev cX10_judge : ByteArray := prog_12_method_73_code
def yX10_judge : MethodName := ⟨RX10, "judge", "(III)I"⟩
abbrev cX10_copy : ByteArray := prog_12_method_74_code
def yX10_copy : MethodName := ⟨RX10, "copy", "([I[I)V"⟩
abbrev cX10_image : ByteArray := prog_12_method_75_code
def yX10_image : MethodName := ⟨RX10, "image", "()I"⟩
abbrev cX10_undo : ByteArray := prog_12_method_76_code
def yX10_undo : MethodName := ⟨RX10, "undo", "()I"⟩
abbrev cX10_body : ByteArray := prog_12_method_77_code
def yX10_body : MethodName := ⟨RX10, "body", "(I)V"⟩
abbrev cX10_plainKeeps : ByteArray := prog_12_method_78_code
def yX10_plainKeeps : MethodName := ⟨RX10, "plainKeeps", "(II)I"⟩
abbrev cX10_keepsAct : ByteArray := prog_12_method_79_code
def yX10_keepsAct : MethodName := ⟨RX10, "keepsAct", "(II)I"⟩
abbrev cX10_plainSends : ByteArray := prog_12_method_80_code
def yX10_plainSends : MethodName := ⟨RX10, "plainSends", "(II)I"⟩
abbrev cX10_eachSends : ByteArray := prog_12_method_81_code
def yX10_eachSends : MethodName := ⟨RX10, "eachSends", "(II)I"⟩
abbrev cX10_sendsAct : ByteArray := prog_12_method_82_code
def yX10_sendsAct : MethodName := ⟨RX10, "sendsAct", "(II)I"⟩
abbrev cX10_plainTells : ByteArray := prog_12_method_83_code
def yX10_plainTells : MethodName := ⟨RX10, "plainTells", "(II)I"⟩
abbrev cX10_tellsAct : ByteArray := prog_12_method_84_code
def yX10_tellsAct : MethodName := ⟨RX10, "tellsAct", "(II)I"⟩
abbrev cX10_act : ByteArray := prog_12_method_85_code
def yX10_act : MethodName := ⟨RX10, "act", "(III)I"⟩
abbrev cX10_trace : ByteArray := prog_12_method_86_code
def yX10_trace : MethodName := ⟨RX10, "trace", "(I)I"⟩
abbrev cX10_taken : ByteArray := prog_12_method_87_code
def yX10_taken : MethodName := ⟨RX10, "taken", "(II)I"⟩
abbrev cX10_count : ByteArray := prog_12_method_88_code
def yX10_count : MethodName := ⟨RX10, "count", "(I)I"⟩
abbrev cX10_isTape : ByteArray := prog_12_method_89_code
def yX10_isTape : MethodName := ⟨RX10, "isTape", "(I)Z"⟩
abbrev cX10_tape : ByteArray := prog_12_method_90_code
def yX10_tape : MethodName := ⟨RX10, "tape", "(III)I"⟩
abbrev cX10_narrow : ByteArray := prog_12_method_91_code
def yX10_narrow : MethodName := ⟨RX10, "narrow", "(IJ)J"⟩
abbrev cX10_item : ByteArray := prog_12_method_92_code
def yX10_item : MethodName := ⟨RX10, "item", "(IIJ)I"⟩
abbrev cX10_read : ByteArray := prog_12_method_93_code
def yX10_read : MethodName := ⟨RX10, "read", "(II)J"⟩
abbrev cX10_shift : ByteArray := prog_12_method_94_code
def yX10_shift : MethodName := ⟨RX10, "shift", "(IIIII)I"⟩
def RJ11 : String := "java/lang/Character"
def TJ11 : u_T := fun k => match k with
  | _ => ("", "", "", false)
def tyJ11 : Nat → FieldType := fun k => match k with
  | _ => .int
abbrev wsJ110 : List Cond := u_ws RJ11 TJ11 0
theorem nmJ11 : ∀ a, a < 0 → ∀ b, b < 0 → a ≠ b → (TJ11 a).2.1 ≠ (TJ11 b).2.1 := by decide +kernel
theorem tyJ11_ok : ∀ k, k < 0 → parseFieldDescriptor (TJ11 k).2.2.1 = some (tyJ11 k) := by decide +kernel
abbrev cJ11_isValidCodePoint_9a6ad : ByteArray := prog_13_method_11_code
def yJ11_isValidCodePoint_9a6ad : MethodName := ⟨RJ11, "isValidCodePoint", "(I)Z"⟩
abbrev cJ11_highSurrogate_5068e : ByteArray := prog_13_method_28_code
def yJ11_highSurrogate_5068e : MethodName := ⟨RJ11, "highSurrogate", "(I)C"⟩
abbrev cJ11_lowSurrogate_5068e : ByteArray := prog_13_method_29_code
def yJ11_lowSurrogate_5068e : MethodName := ⟨RJ11, "lowSurrogate", "(I)C"⟩
def RJ6 : String := "java/lang/Integer"
def TJ6 : u_T := fun k => match k with
  | _ => ("", "", "", false)
def tyJ6 : Nat → FieldType := fun k => match k with
  | _ => .int
abbrev wsJ60 : List Cond := u_ws RJ6 TJ6 0
theorem nmJ6 : ∀ a, a < 0 → ∀ b, b < 0 → a ≠ b → (TJ6 a).2.1 ≠ (TJ6 b).2.1 := by decide +kernel
theorem tyJ6_ok : ∀ k, k < 0 → parseFieldDescriptor (TJ6 k).2.2.1 = some (tyJ6 k) := by decide +kernel
abbrev cJ6_compare_7cf53 : ByteArray := prog_14_method_40_code
def yJ6_compare_7cf53 : MethodName := ⟨RJ6, "compare", "(II)I"⟩
abbrev cJ6_bitCount_0f7a4 : ByteArray := prog_14_method_49_code
def yJ6_bitCount_0f7a4 : MethodName := ⟨RJ6, "bitCount", "(I)I"⟩
def RJ9 : String := "java/lang/Math"
def TJ9 : u_T := fun k => match k with
  | _ => ("", "", "", false)
def tyJ9 : Nat → FieldType := fun k => match k with
  | _ => .int
abbrev wsJ90 : List Cond := u_ws RJ9 TJ9 0
theorem nmJ9 : ∀ a, a < 0 → ∀ b, b < 0 → a ≠ b → (TJ9 a).2.1 ≠ (TJ9 b).2.1 := by decide +kernel
theorem tyJ9_ok : ∀ k, k < 0 → parseFieldDescriptor (TJ9 k).2.2.1 = some (tyJ9 k) := by decide +kernel
abbrev cJ9_max_7cf53 : ByteArray := prog_15_method_65_code
def yJ9_max_7cf53 : MethodName := ⟨RJ9, "max", "(II)I"⟩
abbrev cJ9_min_7cf53 : ByteArray := prog_15_method_69_code
def yJ9_min_7cf53 : MethodName := ⟨RJ9, "min", "(II)I"⟩
def RJ0 : String := "java/lang/String"
def TJ0 : u_T := fun k => match k with
  | _ => ("", "", "", false)
def tyJ0 : Nat → FieldType := fun k => match k with
  | _ => .int
abbrev wsJ00 : List Cond := u_ws RJ0 TJ0 0
theorem nmJ0 : ∀ a, a < 0 → ∀ b, b < 0 → a ≠ b → (TJ0 a).2.1 ≠ (TJ0 b).2.1 := by decide +kernel
theorem tyJ0_ok : ∀ k, k < 0 → parseFieldDescriptor (TJ0 k).2.2.1 = some (tyJ0 k) := by decide +kernel
abbrev cJ0_length_8abf5 : ByteArray := prog_16_method_54_code
def yJ0_length_8abf5 : MethodName := ⟨RJ0, "length", "()I"⟩
abbrev cJ0_charAt_5068e : ByteArray := prog_16_method_56_code
def yJ0_charAt_5068e : MethodName := ⟨RJ0, "charAt", "(I)C"⟩
abbrev cJ0_indexOf_0f7a4 : ByteArray := prog_16_method_79_code
def yJ0_indexOf_0f7a4 : MethodName := ⟨RJ0, "indexOf", "(I)I"⟩
abbrev cJ0_indexOf_7cf53 : ByteArray := prog_16_method_80_code
def yJ0_indexOf_7cf53 : MethodName := ⟨RJ0, "indexOf", "(II)I"⟩
abbrev cJ0_coder_7d493 : ByteArray := prog_16_method_152_code
def yJ0_coder_7d493 : MethodName := ⟨RJ0, "coder", "()B"⟩
abbrev cJ0_isLatin1_aae02 : ByteArray := prog_16_method_154_code
def yJ0_isLatin1_aae02 : MethodName := ⟨RJ0, "isLatin1", "()Z"⟩
abbrev cJ0_checkIndex_df160 : ByteArray := prog_16_method_155_code
def yJ0_checkIndex_df160 : MethodName := ⟨RJ0, "checkIndex", "(II)V"⟩
abbrev cJ0_checkBoundsBeginEnd_23922 : ByteArray := prog_16_method_158_code
def yJ0_checkBoundsBeginEnd_23922 : MethodName := ⟨RJ0, "checkBoundsBeginEnd", "(III)V"⟩
def RJ1 : String := "java/lang/StringLatin1"
def TJ1 : u_T := fun k => match k with
  | _ => ("", "", "", false)
def tyJ1 : Nat → FieldType := fun k => match k with
  | _ => .int
abbrev wsJ10 : List Cond := u_ws RJ1 TJ1 0
theorem nmJ1 : ∀ a, a < 0 → ∀ b, b < 0 → a ≠ b → (TJ1 a).2.1 ≠ (TJ1 b).2.1 := by decide +kernel
theorem tyJ1_ok : ∀ k, k < 0 → parseFieldDescriptor (TJ1 k).2.2.1 = some (tyJ1 k) := by decide +kernel
abbrev cJ1_charAt_3b067 : ByteArray := prog_17_method_2_code
def yJ1_charAt_3b067 : MethodName := ⟨RJ1, "charAt", "([BI)C"⟩
abbrev cJ1_canEncode_9a6ad : ByteArray := prog_17_method_4_code
def yJ1_canEncode_9a6ad : MethodName := ⟨RJ1, "canEncode", "(I)Z"⟩
abbrev cJ1_indexOf_4cfef : ByteArray := prog_17_method_22_code
def yJ1_indexOf_4cfef : MethodName := ⟨RJ1, "indexOf", "([BIII)I"⟩
abbrev cJ1_indexOfChar_4cfef : ByteArray := prog_17_method_23_code
def yJ1_indexOfChar_4cfef : MethodName := ⟨RJ1, "indexOfChar", "([BIII)I"⟩
def RJ2 : String := "java/lang/StringUTF16"
def TJ2 : u_T := fun k => match k with
  | _ => ("", "", "", false)
def tyJ2 : Nat → FieldType := fun k => match k with
  | _ => .int
abbrev wsJ20 : List Cond := u_ws RJ2 TJ2 0
theorem nmJ2 : ∀ a, a < 0 → ∀ b, b < 0 → a ≠ b → (TJ2 a).2.1 ≠ (TJ2 b).2.1 := by decide +kernel
theorem tyJ2_ok : ∀ k, k < 0 → parseFieldDescriptor (TJ2 k).2.2.1 = some (tyJ2 k) := by decide +kernel
abbrev cJ2_getChar_3b067 : ByteArray := prog_18_method_5_code
def yJ2_getChar_3b067 : MethodName := ⟨RJ2, "getChar", "([BI)C"⟩
abbrev cJ2_length_9d52b : ByteArray := prog_18_method_6_code
def yJ2_length_9d52b : MethodName := ⟨RJ2, "length", "([B)I"⟩
abbrev cJ2_indexOf_4cfef : ByteArray := prog_18_method_40_code
def yJ2_indexOf_4cfef : MethodName := ⟨RJ2, "indexOf", "([BIII)I"⟩
abbrev cJ2_indexOfChar_4cfef : ByteArray := prog_18_method_47_code
def yJ2_indexOfChar_4cfef : MethodName := ⟨RJ2, "indexOfChar", "([BIII)I"⟩
abbrev cJ2_indexOfCharUnsafe_4cfef : ByteArray := prog_18_method_48_code
def yJ2_indexOfCharUnsafe_4cfef : MethodName := ⟨RJ2, "indexOfCharUnsafe", "([BIII)I"⟩
abbrev cJ2_indexOfSupplementary_4cfef : ByteArray := prog_18_method_49_code
def yJ2_indexOfSupplementary_4cfef : MethodName := ⟨RJ2, "indexOfSupplementary", "([BIII)I"⟩
abbrev cJ2_charAt_3b067 : ByteArray := prog_18_method_83_code
def yJ2_charAt_3b067 : MethodName := ⟨RJ2, "charAt", "([BI)C"⟩
abbrev cJ2_checkIndex_2214a : ByteArray := prog_18_method_91_code
def yJ2_checkIndex_2214a : MethodName := ⟨RJ2, "checkIndex", "(I[B)V"⟩
abbrev cJ2_checkBoundsBeginEnd_d044e : ByteArray := prog_18_method_93_code
def yJ2_checkBoundsBeginEnd_d044e : MethodName := ⟨RJ2, "checkBoundsBeginEnd", "(II[B)V"⟩
def RJ10 : String := "java/lang/System"
def TJ10 : u_T := fun k => match k with
  | _ => ("", "", "", false)
def tyJ10 : Nat → FieldType := fun k => match k with
  | _ => .int
abbrev wsJ100 : List Cond := u_ws RJ10 TJ10 0
theorem nmJ10 : ∀ a, a < 0 → ∀ b, b < 0 → a ≠ b → (TJ10 a).2.1 ≠ (TJ10 b).2.1 := by decide +kernel
theorem tyJ10_ok : ∀ k, k < 0 → parseFieldDescriptor (TJ10 k).2.2.1 = some (tyJ10 k) := by decide +kernel
def RJ3 : String := "jdk/internal/util/Preconditions"
def TJ3 : u_T := fun k => match k with
  | _ => ("", "", "", false)
def tyJ3 : Nat → FieldType := fun k => match k with
  | _ => .int
abbrev wsJ30 : List Cond := u_ws RJ3 TJ3 0
theorem nmJ3 : ∀ a, a < 0 → ∀ b, b < 0 → a ≠ b → (TJ3 a).2.1 ≠ (TJ3 b).2.1 := by decide +kernel
theorem tyJ3_ok : ∀ k, k < 0 → parseFieldDescriptor (TJ3 k).2.2.1 = some (tyJ3 k) := by decide +kernel
abbrev cJ3_checkIndex_8e157 : ByteArray := prog_20_method_11_code
def yJ3_checkIndex_8e157 : MethodName := ⟨RJ3, "checkIndex", "(IILjava/util/function/BiFunction;)I"⟩
abbrev cJ3_checkFromToIndex_8c36e : ByteArray := prog_20_method_12_code
def yJ3_checkFromToIndex_8c36e : MethodName := ⟨RJ3, "checkFromToIndex", "(IIILjava/util/function/BiFunction;)I"⟩
def RL : String := "FireFromFireLaw"
abbrev cL_law : ByteArray := code
def yL_law : MethodName := ⟨RL, "law", "([I)Z"⟩
abbrev vwCl : List vw_C := [(RX0, TX0, 5), (RX1, TX1, 6), (RX2, TX2, 9), (RX3, TX3, 9), (RX4, TX4, 4), (RX5, TX5, 2), (RX6, TX6, 4), (RX7, TX7, 3), (RX8, TX8, 10), (RX9, TX9, 12), (RX10, TX10, 84)]
end
section
/-! THE LAYER: cells by keys (sort, number, place), an abstract machine over them -/
abbrev Key : Type := Nat × Nat × Nat
abbrev AV : Type := Int32 ⊕ Int64 ⊕ Option Key
abbrev AM : Type := (Key → Nat → Int32) × (Key → Nat → Int64) × (Key → Nat → Option Key)
abbrev vI (x : Int32) : AV := .inl x
abbrev vJ (x : Int64) : AV := .inr (.inl x)
abbrev vO (q : Option Key) : AV := .inr (.inr q)
abbrev vN : AV := .inr (.inr none)
abbrev vR (q : Key) : AV := .inr (.inr (some q))
/-- the sorts: kind (a class of vwCl, or 11 int[] 12 long[] 13 boolean[] 14 House[] 15 Land[] 16 Tape[] 17 int[][]) and length -/
def am_kd (s : Nat) : Nat := ([9, 8, 14, 2, 17, 11, 11, 11, 11, 6, 11, 3, 11, 11, 11, 11, 11, 11, 11, 15, 1, 11, 11, 11, 11, 5, 17, 11, 4, 0, 11, 16, 7, 12, 0, 0, 0, 0, 0, 0, 10, 11, 11, 11, 11, 11, 11, 11, 11, 11, 11, 11, 11, 11, 11, 11, 11, 11, 11, 11, 11, 11, 11, 11, 11, 11, 11, 11, 11, 13, 11, 11, 11, 11, 11, 11, 11, 11, 11, 11, 11, 11, 11, 11, 11, 11, 11, 11, 11, 11, 11, 11, 12, 12] : List Nat).getD s 0
def am_ln (s : Nat) : Nat := ([12, 10, 6, 9, 6, 6, 12, 12, 6, 4, 100, 9, 10, 10, 10, 10, 100, 100, 100, 5, 6, 6, 6, 6, 6, 2, 6, 6, 4, 5, 20, 6, 3, 60, 0, 0, 0, 0, 0, 0, 84, 6, 6, 6, 6, 6, 6, 6, 6, 36, 100, 5, 50, 50, 50, 50, 50, 500, 101, 19, 9, 6, 6, 6, 6, 6, 6, 6, 6, 100, 12, 12, 36, 6, 6, 6, 6, 6, 6, 6, 6, 6, 6, 6, 6, 6, 36, 12, 12, 20, 6, 6, 360, 60] : List Nat).getD s 0
def am_nv (s : Nat) : Nat := ([1, 4, 4, 4, 4, 4, 4, 4, 4, 1, 1, 5, 5, 5, 5, 5, 5, 5, 5, 1, 1, 1, 1, 1, 1, 1, 1, 1, 1, 1, 1, 1, 6, 6, 0, 0, 0, 0, 0, 0, 1, 1, 1, 1, 1, 1, 1, 1, 1, 1, 1, 1, 1, 1, 1, 1, 1, 1, 1, 1, 1, 1, 1, 1, 1, 1, 1, 1, 1, 1, 1, 1, 1, 1, 1, 1, 1, 1, 1, 1, 1, 1, 1, 1, 1, 1, 1, 1, 1, 1, 1, 1, 1, 1] : List Nat).getD s 0
def am_nh (s : Nat) : Nat := ([1, 1, 1, 6, 1, 6, 1, 1, 1, 1, 1, 1, 1, 1, 1, 1, 1, 1, 1, 1, 1, 1, 1, 1, 1, 1, 1, 6, 1, 1, 1, 1, 1, 1, 0, 0, 0, 0, 0, 0, 1, 1, 1, 1, 1, 1, 1, 1, 1, 1, 1, 1, 1, 1, 1, 1, 1, 1, 1, 1, 1, 1, 1, 1, 1, 1, 1, 1, 1, 1, 1, 1, 1, 1, 1, 1, 1, 1, 1, 1, 1, 1, 1, 1, 1, 1, 1, 1, 1, 1, 1, 1, 1, 1] : List Nat).getD s 0
def am_vb (v : Nat) : Nat := if v < 3 then 1 + 18 * v else 72
def am_ix (q : Key) : Nat := match q with
  | (0, _, _) => 0
  | (1, v, _) => am_vb v
  | (2, v, _) => am_vb v + 1
  | (3, v, h) => am_vb v + 12 + h
  | (4, v, _) => am_vb v + 2
  | (5, v, h) => am_vb v + 3 + h
  | (6, v, _) => am_vb v + 9
  | (7, v, _) => am_vb v + 10
  | (8, v, _) => am_vb v + 11
  | (27, _, h) => 65 + h
  | (s, v, _) => if s < 11 then 46 + s else if s < 19 then 93 + 8 * v + (s - 11) else if s < 27 then (if s = 19 then 57 else 38 + s) else if s < 29 then 71 else if s < 32 then 61 + s else if s < 40 then 101 + s + 2 * v else s - 40
def kC : List Key := [(0, 0, 0), (1, 0, 0), (2, 0, 0), (4, 0, 0), (5, 0, 0), (5, 0, 1), (5, 0, 2), (5, 0, 3), (5, 0, 4), (5, 0, 5), (6, 0, 0), (7, 0, 0), (8, 0, 0), (3, 0, 0), (3, 0, 1), (3, 0, 2), (3, 0, 3), (3, 0, 4), (3, 0, 5), (1, 1, 0), (2, 1, 0), (4, 1, 0), (5, 1, 0), (5, 1, 1), (5, 1, 2), (5, 1, 3), (5, 1, 4), (5, 1, 5), (6, 1, 0), (7, 1, 0), (8, 1, 0), (3, 1, 0), (3, 1, 1), (3, 1, 2), (3, 1, 3), (3, 1, 4), (3, 1, 5), (1, 2, 0), (2, 2, 0), (4, 2, 0), (5, 2, 0), (5, 2, 1), (5, 2, 2), (5, 2, 3), (5, 2, 4), (5, 2, 5), (6, 2, 0), (7, 2, 0), (8, 2, 0), (3, 2, 0), (3, 2, 1), (3, 2, 2), (3, 2, 3), (3, 2, 4), (3, 2, 5), (9, 0, 0), (10, 0, 0), (19, 0, 0), (20, 0, 0), (21, 0, 0), (22, 0, 0), (23, 0, 0), (24, 0, 0), (25, 0, 0), (26, 0, 0), (27, 0, 0), (27, 0, 1), (27, 0, 2), (27, 0, 3), (27, 0, 4), (27, 0, 5), (28, 0, 0), (1, 3, 0), (2, 3, 0), (4, 3, 0), (5, 3, 0), (5, 3, 1), (5, 3, 2), (5, 3, 3), (5, 3, 4), (5, 3, 5), (6, 3, 0), (7, 3, 0), (8, 3, 0), (3, 3, 0), (3, 3, 1), (3, 3, 2), (3, 3, 3), (3, 3, 4), (3, 3, 5), (29, 0, 0), (30, 0, 0), (31, 0, 0), (11, 0, 0), (12, 0, 0), (13, 0, 0), (14, 0, 0), (15, 0, 0), (16, 0, 0), (17, 0, 0), (18, 0, 0), (11, 1, 0), (12, 1, 0), (13, 1, 0), (14, 1, 0), (15, 1, 0), (16, 1, 0), (17, 1, 0), (18, 1, 0), (11, 2, 0), (12, 2, 0), (13, 2, 0), (14, 2, 0), (15, 2, 0), (16, 2, 0), (17, 2, 0), (18, 2, 0), (11, 3, 0), (12, 3, 0), (13, 3, 0), (14, 3, 0), (15, 3, 0), (16, 3, 0), (17, 3, 0), (18, 3, 0), (11, 4, 0), (12, 4, 0), (13, 4, 0), (14, 4, 0), (15, 4, 0), (16, 4, 0), (17, 4, 0), (18, 4, 0), (32, 0, 0), (33, 0, 0), (32, 1, 0), (33, 1, 0), (32, 2, 0), (33, 2, 0), (32, 3, 0), (33, 3, 0), (32, 4, 0), (33, 4, 0), (32, 5, 0), (33, 5, 0)]
def kM : List Key := [(40, 0, 0), (41, 0, 0), (42, 0, 0), (43, 0, 0), (44, 0, 0), (45, 0, 0), (46, 0, 0), (47, 0, 0), (48, 0, 0), (49, 0, 0), (50, 0, 0), (51, 0, 0), (52, 0, 0), (53, 0, 0), (54, 0, 0), (55, 0, 0), (56, 0, 0), (57, 0, 0), (58, 0, 0), (59, 0, 0), (60, 0, 0), (61, 0, 0), (62, 0, 0), (63, 0, 0), (64, 0, 0), (65, 0, 0), (66, 0, 0), (67, 0, 0), (68, 0, 0), (69, 0, 0), (70, 0, 0), (71, 0, 0), (72, 0, 0), (73, 0, 0), (74, 0, 0), (75, 0, 0), (76, 0, 0), (77, 0, 0), (78, 0, 0), (79, 0, 0), (80, 0, 0), (81, 0, 0), (82, 0, 0), (83, 0, 0), (84, 0, 0), (85, 0, 0), (86, 0, 0), (87, 0, 0), (88, 0, 0), (89, 0, 0), (90, 0, 0), (91, 0, 0), (92, 0, 0), (93, 0, 0)]
def am_ty : Nat → Nat → FieldType
  | 0 => tyX0 | 1 => tyX1 | 2 => tyX2 | 3 => tyX3 | 4 => tyX4 | 5 => tyX5 | 6 => tyX6 | 7 => tyX7 | 8 => tyX8 | 9 => tyX9 | _ => tyX10
def am_ft (c k : Nat) : Nat := match am_ty c k with
  | .long => 1
  | .object _ => 2
  | .array _ => 2
  | _ => 0
def am_rv (b : Nat) (q : Option Key) : Value := va_rf (q.map (fun q => b + am_ix q))
def am_cv (b : Nat) : AV → Value
  | .inl x => .int x
  | .inr (.inl y) => .long y
  | .inr (.inr q) => am_rv b q
def am_fv (b : Nat) (M : AM) (q : Key) (k : Nat) : Value := match am_ft (am_kd q.1) k with
  | 0 => .int (M.1 q k)
  | 1 => .long (M.2.1 q k)
  | _ => am_rv b (M.2.2 q k)
def am_ce (b : Nat) (cT : Nat → ClassId) (M : AM) (q : Key) : va_E :=
  if am_kd q.1 < 11 then .inr (am_kd q.1, (List.range (am_ln q.1)).map (am_fv b M q))
  else if am_kd q.1 = 12 then .inl (cT 12, am_ln q.1, .inr (.inl (M.2.1 q)))
  else if am_kd q.1 < 14 then .inl (cT (am_kd q.1), am_ln q.1, .inl (M.1 q))
  else .inl (cT (am_kd q.1), am_ln q.1, .inr (.inr (.inr (.inr (fun i => (M.2.2 q i).map (fun q => b + am_ix q))))))
def am_w (b : Nat) (cT : Nat → ClassId) (ks : List Key) (M : AM) : va_W := ks.map (fun q => (b + am_ix q, am_ce b cT M q))
def am_tys (cT : Nat → ClassId) : List (ClassId × FieldType) := [(cT 11, .int), (cT 12, .long), (cT 13, .boolean), (cT 14, .object RX2), (cT 15, .object RX3), (cT 16, .object RX7), (cT 17, .array .int)]
/-- the words of the tables that any call may take along -/
def Wd : List Cond := lw_tbl.filter goodWord
theorem Wd_of {w : Cond} (h : w ∈ lw_tbl) (g : goodWord w = true) : w ∈ Wd := List.mem_filter.mpr ⟨h, g⟩
theorem Wd_good {w : Cond} (h : w ∈ Wd) : (w.onTables && w.keeps) = true ∨ ∃ ty, w = .arrayClass ty := good_of_word (List.mem_filter.mp h).2
/-- a method: its name, code, locals, answer -/
abbrev MD : Type := MethodName × ByteArray × Nat × Option FieldType
def am_rm (d mc ms : Nat) : Room := { frames := d, cells := mc, slots := ms, locals := 40 * d }
def am_X0 (md : MD) (p : Program) (s : State) (m : MethodId) (args : Array Value) (meth : Method) (c : Code) : Prop :=
  p.tables.exec = Jvm.exec ∧ c.code = md.2.1 ∧ meth.sig.returnType = md.2.2.2 ∧ (∀ w ∈ Wd, w.before args s = true) ∧ s.vm.findClass md.1.cls = some m.cls ∧ meth.locks = false ∧ c.maxLocals = md.2.2.1 ∧ meth.name = md.1.name
def am_X1 (b : Nat) (D : va_G) (cT : Nat → ClassId) (A : Nat → Prop) (al : Bool) (ks : List Key) (M : AM) (s : State) (H : Heap) (locs : List Loc) : Prop :=
  va_P D vwCl (am_w b cT ks M) H ∧ va_D A (am_w b cT ks M) ∧ va_K D vwCl (am_tys cT) s ∧ va_S A s.heap H locs ∧ (∀ q, s.heap.size ≤ q → A q) ∧ (al = true → H.size = b + ks.length)
def am_Q (b : Nat) (D : va_G) (cT : Nat → ClassId) (A : Nat → Prop) (al : Bool) (r : Option AV) (ks : List Key) (M : AM) : Array Value → State → Outcome → State → Prop := fun _ st o t =>
  (o = .returned (r.map (am_cv b)) ∧ va_P D vwCl (am_w b cT ks M) t.heap ∧ va_K D vwCl (am_tys cT) t ∧ va_D A (am_w b cT ks M) ∧ (al = true → t.heap.size = b + ks.length)) ∧ va_F A st t
def am_lv (b : Nat) : Nat → List (Option AV) → List (Nat × Value)
  | _, [] => []
  | i, none :: L => am_lv b (i + 1) L
  | i, some a :: L => (i, am_cv b a) :: am_lv b (i + 1) L
/-- from here the method comes to its end with answer T.1, keys T.2.1, memory T.2.2 -/
def X (l : Launch) (md : MD) (d mc ms : Nat) (al : Bool) (T : Option AV × List Key × AM) (ks : List Key) (kc kn : Nat) (pc : Nat) (L : List (Option AV)) (st : List AV) (M : AM) : Prop :=
  ∀ (p : Program) (e : Env) (s : State) (m : MethodId) (args : Array Value) (below : List Frame) (meth : Method) (c : Code) (H : Heap) (locs : List Loc) (b : Nat) (D : va_G) (cT : Nat → ClassId) (A : Nat → Prop) (ls : Array Slot),
    am_X0 md p s m args meth c → am_X1 b D cT A al ks M s H locs → lv_has ls md.2.2.1 (am_lv b 0 L) →
    W p l e (am_rm d mc ms) s m args below meth c H locs kc kn (MQ below (am_Q b D cT A al T.1 T.2.1 T.2.2) args s mc ms A) (F0 m pc ls (st.map (am_cv b)))
def Ev (l : Launch) (md : MD) (d mc ms : Nat) (al : Bool) (as : List AV) (ks : List Key) (M : AM) (T : Option AV × List Key × AM) : Prop :=
  ∀ (b : Nat) (D : va_G) (cT : Nat → ClassId) (sz : Nat), Met l md.1 (Cond.code md.1 md.2.1 md.2.2.1 md.2.2.2 :: Wd) (am_rm d mc ms)
    (va_Pc (as.map (am_cv b)) (fun U => U.heap.size = sz ∧ va_P D vwCl (am_w b cT ks M) U.heap ∧ va_K D vwCl (am_tys cT) U ∧ va_D (fun _ => True) (am_w b cT ks M) ∧ (al = true → U.heap.size = b + ks.length)))
    (am_Q b D cT (va_A (am_w b cT ks M) sz) al T.1 T.2.1 T.2.2) mc ms (va_A (am_w b cT ks M) sz)
/-- the locals at a method's entry -/
def am_args : List AV → List (Option AV)
  | [] => []
  | .inr (.inl y) :: as => some (vJ y) :: none :: am_args as
  | a :: as => some a :: am_args as
def am_entry (as : List AV) (n : Nat) : List (Option AV) := am_args as ++ List.replicate (n - (am_args as).length) none
theorem am_rv_cat (b : Nat) (q : Option Key) : (am_rv b q).category = 1 := by cases q <;> rfl
theorem am_lv_app (b : Nat) : ∀ (L1 L2 : List (Option AV)) (i : Nat), am_lv b i (L1 ++ L2) = am_lv b i L1 ++ am_lv b (i + L1.length) L2
  | [], L2, i => by simp [am_lv]
  | none :: L1, L2, i => by
    simp only [List.cons_append, am_lv, List.length_cons]
    rw [am_lv_app b L1 L2 (i + 1), show i + 1 + L1.length = i + (L1.length + 1) by omega]
  | some a :: L1, L2, i => by
    simp only [List.cons_append, am_lv, List.length_cons]
    rw [am_lv_app b L1 L2 (i + 1), show i + 1 + L1.length = i + (L1.length + 1) by omega]
theorem am_lv_none (b : Nat) : ∀ (n i : Nat), am_lv b i (List.replicate n none) = []
  | 0, _ => rfl
  | n + 1, i => by
    rw [List.replicate_succ]
    exact am_lv_none b n (i + 1)
theorem am_lv_args (b : Nat) : ∀ (as : List AV) (i : Nat), am_lv b i (am_args as) = lv_args i (as.map (am_cv b))
  | [], _ => rfl
  | .inl x :: as, i => by
    show (i, Value.int x) :: am_lv b (i + 1) (am_args as) = _
    rw [am_lv_args b as (i + 1)]
    rfl
  | .inr (.inl y) :: as, i => by
    show (i, Value.long y) :: am_lv b (i + 2) (am_args as) = _
    rw [am_lv_args b as (i + 2)]
    rfl
  | .inr (.inr q) :: as, i => by
    show (i, am_rv b q) :: am_lv b (i + 1) (am_args as) = _
    rw [am_lv_args b as (i + 1)]
    show _ = (i, am_rv b q) :: lv_args (if (am_rv b q).category = 2 then i + 2 else i + 1) _
    rw [am_rv_cat]
    rfl
theorem am_args_len (b : Nat) : ∀ (as : List AV), (lg_sl (as.map (am_cv b))).length = (am_args as).length
  | [] => rfl
  | .inl x :: as => by
    show (lg_sl (as.map (am_cv b))).length + 1 = _
    rw [am_args_len b as]
    rfl
  | .inr (.inl y) :: as => by
    show (lg_sl (as.map (am_cv b))).length + 2 = _
    rw [am_args_len b as]
    rfl
  | .inr (.inr q) :: as => by
    show (lg_sl (am_rv b q :: as.map (am_cv b))).length = (am_args as).length + 1
    rw [← am_args_len b as]
    simp [lg_sl, am_rv_cat]
theorem am_entry_has (b : Nat) (as : List AV) (n : Nat) (h : (am_args as).length ≤ n) : lv_has ((lg_sl (as.map (am_cv b)) ++ List.replicate (n - (lg_sl (as.map (am_cv b))).length) Slot.unset).toArray) n (am_lv b 0 (am_entry as n)) := by
  have h1 := lv_entry (as.map (am_cv b)) (n := n) (by rw [am_args_len]; exact h)
  unfold am_entry
  rw [am_lv_app, am_lv_none, List.append_nil, am_lv_args]
  exact h1
set_option maxHeartbeats 4000000 in
theorem Ev_of {l : Launch} {md : MD} {d mc ms : Nat} {al : Bool} {as : List AV} {ks : List Key} {M : AM} {T : Option AV × List Key × AM} (hy : plainName md.1.cls = true) (hn : (am_args as).length ≤ md.2.2.1)
    (h : X l md d mc ms al T ks 0 0 0 (am_entry as md.2.2.1) [] M) : Ev l md d mc ms al as ks M T := by
  intro b D cT sz
  refine Met.ofW (cc := md.2.1) (maxL := md.2.2.1) (ret := md.2.2.2) hy rfl ?_
  intro p e s m args below meth c s₁ B hml hv
  obtain ⟨rfl, hsz, hP, hK, hD0, hal⟩ := hv
  have hx := B.exec
  have hb := B.bytes
  have hr := B.returns
  have hts := atoms_spec (ws := Cond.code md.1 md.2.1 md.2.2.1 md.2.2.2 :: Wd) B.pre
  have hown : s.vm.findClass md.1.cls = some m.cls := findClass_of_methodNamed B.named
  have hin : meth.name = md.1.name := (name_of_methodNamed B.named B.method).1
  subst hsz
  have hD := hD0.self (sz := s.heap.size)
  rw [lg_entry_eq]
  exact h p e s m _ below meth c s.heap [] b D cT _ _ ⟨hx, hb, hr, fun w hw => hts w (List.mem_cons_of_mem _ hw), hown, B.notSynchronized, hml, hin⟩ ⟨hP, hD, hK, va_S.rf, fun q h => Or.inr h, hal⟩ (am_entry_has b as _ hn)
end
section
/-! RULES of the layer: an instruction each -/
section RU
variable {l : Launch} {md : MD} {d mc ms : Nat} {al : Bool} {T : Option AV × List Key × AM} {ks : List Key} {kc kn pc : Nat} {L L' : List (Option AV)} {st : List AV} {M : AM}
theorem am_lv_get (b : Nat) : ∀ (L : List (Option AV)) (i j : Nat) (a : AV), L[i]? = some (some a) → (j + i, am_cv b a) ∈ am_lv b j L
  | [], i, j, a, h => by simp at h
  | none :: L, 0, j, a, h => by simp at h
  | none :: L, i + 1, j, a, h => by
    have := am_lv_get b L i (j + 1) a (by simpa using h)
    rw [show j + (i + 1) = j + 1 + i by omega]
    exact this
  | some x :: L, 0, j, a, h => by
    simp at h
    subst h
    exact List.mem_cons_self
  | some x :: L, i + 1, j, a, h => by
    have := am_lv_get b L i (j + 1) a (by simpa using h)
    rw [show j + (i + 1) = j + 1 + i by omega]
    exact List.mem_cons_of_mem _ this
theorem am_lv_of (b : Nat) : ∀ (L : List (Option AV)) (j : Nat) (q : Nat × Value), q ∈ am_lv b j L → ∃ i a, L[i]? = some (some a) ∧ q = (j + i, am_cv b a)
  | [], j, q, h => by cases h
  | none :: L, j, q, h => by
    obtain ⟨i, a, h1, h2⟩ := am_lv_of b L (j + 1) q h
    exact ⟨i + 1, a, by simpa using h1, by rw [h2, show j + (i + 1) = j + 1 + i by omega]⟩
  | some x :: L, j, q, h => by
    rcases List.mem_cons.mp h with h | h
    · exact ⟨0, x, rfl, h⟩
    · obtain ⟨i, a, h1, h2⟩ := am_lv_of b L (j + 1) q h
      exact ⟨i + 1, a, by simpa using h1, by rw [h2, show j + (i + 1) = j + 1 + i by omega]⟩
theorem am_lv_at {b : Nat} {ls : Array Slot} {n : Nat} (h : lv_has ls n (am_lv b 0 L)) {i : Nat} {a : AV} (hi : L[i]? = some (some a)) : ls[i]? = some (.val (am_cv b a)) := by
  have h1 := h.2.2 _ (am_lv_get b L i 0 a hi)
  simpa using h1
def am_cat : AV → Nat
  | .inr (.inl _) => 2
  | _ => 1
theorem am_cat_eq (b : Nat) (a : AV) : (am_cv b a).category = am_cat a := by
  rcases a with x | y | q
  · rfl
  · rfl
  · exact am_rv_cat b q
theorem am_cat_sum (b : Nat) (st : List AV) : ((st.map (am_cv b)).map fun v => v.category) = st.map am_cat := by
  rw [List.map_map]
  exact List.map_congr_left (fun a _ => am_cat_eq b a)
/-- a store to one local -/
def am_st1 (L : List (Option AV)) (i : Nat) (a : AV) : Option (List (Option AV)) := match i with
  | 0 => some (L.set 0 (some a))
  | j + 1 => match L[j]? with
    | some (some (.inr (.inl _))) => none
    | _ => some (L.set (j + 1) (some a))
def am_st2 (L : List (Option AV)) (i : Nat) (a : AV) : Option (List (Option AV)) := (am_st1 L i a).map (fun L => L.set (i + 1) none)
theorem am_st1_of {i : Nat} {a : AV} (h : am_st1 L i a = some L') : L' = L.set i (some a) ∧ ∀ j : Nat, j + 1 = i → ∀ y, L[j]? ≠ some (some (.inr (.inl y))) := by
  cases i with
  | zero =>
    simp [am_st1] at h
    exact ⟨h.symm, fun j hj => by omega⟩
  | succ j =>
    unfold am_st1 at h
    dsimp only at h
    split at h
    · cases h
    · next hne =>
      cases h
      refine ⟨rfl, fun k hk y hy => ?_⟩
      have : k = j := by omega
      subst this
      exact hne y hy
theorem am_lv_st1 {b : Nat} {ls : Array Slot} {n i : Nat} {a : AV} (hst : am_st1 L i a = some L') {v : Value} (hv : v = am_cv b a)
    (h : lv_has ls n ((i, v) :: (am_lv b 0 L).filter (fun q => !(q.1 == i) && !(q.1 + 1 == i && q.2.category == 2)))) : lv_has ls n (am_lv b 0 L') := by
  obtain ⟨rfl, hno⟩ := am_st1_of hst
  refine ⟨h.1, h.2.1, fun q hq => ?_⟩
  obtain ⟨k, a2, h1, h2⟩ := am_lv_of b _ 0 q hq
  rw [Nat.zero_add] at h2
  by_cases hk : k = i
  · subst hk
    have hl : k < L.length := by
      have := (List.getElem?_eq_some_iff.mp h1).1
      simpa using this
    rw [List.getElem?_set_self hl] at h1
    have e : a2 = a := by cases h1; rfl
    rw [h2, e, ← hv]
    exact h.2.2 _ List.mem_cons_self
  · rw [List.getElem?_set_ne (Ne.symm hk)] at h1
    refine h.2.2 q (List.mem_cons_of_mem _ (List.mem_filter.mpr ⟨?_, ?_⟩))
    · rw [h2]
      have := am_lv_get b L k 0 a2 h1
      simpa using this
    · rw [h2]
      dsimp only
      have e1 : (k == i) = false := by simpa using hk
      rw [e1, am_cat_eq]
      by_cases hk2 : k + 1 = i
      · rcases a2 with x | y | z
        · simp [am_cat]
        · exact absurd h1 (hno k hk2 y)
        · simp [am_cat]
      · have e2 : (k + 1 == i) = false := by simpa using hk2
        rw [e2]
        rfl
theorem am_lv_st2 {b : Nat} {ls : Array Slot} {n i : Nat} {a : AV} (hst : am_st2 L i a = some L') {v : Value} (hv : v = am_cv b a)
    (h : lv_has ls n ((i, v) :: (am_lv b 0 L).filter (fun q => !(q.1 == i) && (!(q.1 == i + 1) && !(q.1 + 1 == i && q.2.category == 2))))) : lv_has ls n (am_lv b 0 L') := by
  obtain ⟨L1, hst1, hL1⟩ : ∃ L1, am_st1 L i a = some L1 ∧ L1.set (i + 1) none = L' := by
    unfold am_st2 at hst
    cases h9 : am_st1 L i a with
    | none => rw [h9] at hst; cases hst
    | some L1 => rw [h9] at hst; exact ⟨L1, rfl, Option.some.inj hst⟩
  obtain ⟨rfl, hno⟩ := am_st1_of hst1
  subst hL1
  refine ⟨h.1, h.2.1, fun q hq => ?_⟩
  obtain ⟨k, a2, h1, h2⟩ := am_lv_of b _ 0 q hq
  rw [Nat.zero_add] at h2
  by_cases hk1 : k = i + 1
  · subst hk1
    rw [List.getElem?_set] at h1
    simp at h1
  · rw [List.getElem?_set_ne (Ne.symm hk1)] at h1
    by_cases hk : k = i
    · subst hk
      have hl : k < L.length := by
        have := (List.getElem?_eq_some_iff.mp h1).1
        simpa using this
      rw [List.getElem?_set_self hl] at h1
      have e : a2 = a := by cases h1; rfl
      rw [h2, e, ← hv]
      exact h.2.2 _ List.mem_cons_self
    · rw [List.getElem?_set_ne (Ne.symm hk)] at h1
      refine h.2.2 q (List.mem_cons_of_mem _ (List.mem_filter.mpr ⟨?_, ?_⟩))
      · rw [h2]
        have := am_lv_get b L k 0 a2 h1
        simpa using this
      · rw [h2]
        dsimp only
        have e1 : (k == i) = false := by simpa using hk
        have e3 : (k == i + 1) = false := by simpa using hk1
        rw [e1, e3, am_cat_eq]
        by_cases hk2 : k + 1 = i
        · rcases a2 with x | y | z
          · simp [am_cat]
          · exact absurd h1 (hno k hk2 y)
          · simp [am_cat]
        · have e2 : (k + 1 == i) = false := by simpa using hk2
          rw [e2]
          rfl
theorem r_iconst {n : Int} {v : Int32} (hd : decode md.2.1 pc = .ok (.iconst n, 1)) (hv : Int32.ofInt n = v) (k : X l md d mc ms al T ks kc kn (pc + 1) L (vI v :: st) M) : X l md d mc ms al T ks kc kn pc L st M := fun p e s m args below meth c H locs b D cT A ls h0 h1 hl => lv_iconst h0.1 h0.2.1 hd hv (k p e s m args below meth c H locs b D cT A ls h0 h1 hl)
theorem r_bipush {n : Int} {v : Int32} (hd : decode md.2.1 pc = .ok (.bipush n, 2)) (hv : (Int8.ofInt n).toInt32 = v) (k : X l md d mc ms al T ks kc kn (pc + 2) L (vI v :: st) M) : X l md d mc ms al T ks kc kn pc L st M := fun p e s m args below meth c H locs b D cT A ls h0 h1 hl => lv_bipush h0.1 h0.2.1 hd hv (k p e s m args below meth c H locs b D cT A ls h0 h1 hl)
theorem r_sipush {n : Int} {v : Int32} (hd : decode md.2.1 pc = .ok (.sipush n, 3)) (hv : (Int16.ofInt n).toInt32 = v) (k : X l md d mc ms al T ks kc kn (pc + 3) L (vI v :: st) M) : X l md d mc ms al T ks kc kn pc L st M := fun p e s m args below meth c H locs b D cT A ls h0 h1 hl => lv_sipush h0.1 h0.2.1 hd hv (k p e s m args below meth c H locs b D cT A ls h0 h1 hl)
theorem r_lconst {n : Fin 2} {v : Int64} (hd : decode md.2.1 pc = .ok (.lconst n, 1)) (hv : Int64.ofNat (n : Nat) = v) (k : X l md d mc ms al T ks kc kn (pc + 1) L (vJ v :: st) M) : X l md d mc ms al T ks kc kn pc L st M := fun p e s m args below meth c H locs b D cT A ls h0 h1 hl => lv_lconst h0.1 h0.2.1 hd hv (k p e s m args below meth c H locs b D cT A ls h0 h1 hl)
theorem r_ldc {i : Nat} {v : Int32} (hd : decode md.2.1 pc = .ok (.ldc i, 2)) (hc : Cond.constant md.1.cls i v ∈ Wd) (k : X l md d mc ms al T ks kc kn (pc + 2) L (vI v :: st) M) : X l md d mc ms al T ks kc kn pc L st M := fun p e s m args below meth c H locs b D cT A ls h0 h1 hl => lv_ldc h0.1 h0.2.1 h0.2.2.2.2.1 (h0.2.2.2.1 _ hc) hd (k p e s m args below meth c H locs b D cT A ls h0 h1 hl)
theorem r_ldcw {i : Nat} {v : Int32} (hd : decode md.2.1 pc = .ok (.ldc_w i, 3)) (hc : Cond.constant md.1.cls i v ∈ Wd) (k : X l md d mc ms al T ks kc kn (pc + 3) L (vI v :: st) M) : X l md d mc ms al T ks kc kn pc L st M := fun p e s m args below meth c H locs b D cT A ls h0 h1 hl => lv_ldcw h0.1 h0.2.1 h0.2.2.2.2.1 (h0.2.2.2.1 _ hc) hd (k p e s m args below meth c H locs b D cT A ls h0 h1 hl)
theorem r_ldc2 {i : Nat} {v : Int64} (hd : decode md.2.1 pc = .ok (.ldc2_w i, 3)) (hc : Cond.constantLong md.1.cls i v ∈ Wd) (k : X l md d mc ms al T ks kc kn (pc + 3) L (vJ v :: st) M) : X l md d mc ms al T ks kc kn pc L st M := fun p e s m args below meth c H locs b D cT A ls h0 h1 hl => lv_ldc2 h0.1 h0.2.1 h0.2.2.2.2.1 (h0.2.2.2.1 _ hc) hd (k p e s m args below meth c H locs b D cT A ls h0 h1 hl)
theorem r_iload_n {i : Fin 4} {x : Int32} (hd : decode md.2.1 pc = .ok (.iload_n i, 1)) (hi : L[(i : Nat)]? = some (some (vI x))) (k : X l md d mc ms al T ks kc kn (pc + 1) L (vI x :: st) M) : X l md d mc ms al T ks kc kn pc L st M := fun p e s m args below meth c H locs b D cT A ls h0 h1 hl => lv_iload_n h0.1 h0.2.1 hd rfl (am_lv_at hl hi) (k p e s m args below meth c H locs b D cT A ls h0 h1 hl)
theorem r_iload {i : Nat} {x : Int32} (hd : decode md.2.1 pc = .ok (.iload i, 2)) (hi : L[i]? = some (some (vI x))) (k : X l md d mc ms al T ks kc kn (pc + 2) L (vI x :: st) M) : X l md d mc ms al T ks kc kn pc L st M := fun p e s m args below meth c H locs b D cT A ls h0 h1 hl => lv_iload h0.1 h0.2.1 hd (am_lv_at hl hi) (k p e s m args below meth c H locs b D cT A ls h0 h1 hl)
theorem r_lload_n {i : Fin 4} {x : Int64} (hd : decode md.2.1 pc = .ok (.lload_n i, 1)) (hi : L[(i : Nat)]? = some (some (vJ x))) (k : X l md d mc ms al T ks kc kn (pc + 1) L (vJ x :: st) M) : X l md d mc ms al T ks kc kn pc L st M := fun p e s m args below meth c H locs b D cT A ls h0 h1 hl => lv_lload_n h0.1 h0.2.1 hd rfl (am_lv_at hl hi) (k p e s m args below meth c H locs b D cT A ls h0 h1 hl)
theorem r_lload {i : Nat} {x : Int64} (hd : decode md.2.1 pc = .ok (.lload i, 2)) (hi : L[i]? = some (some (vJ x))) (k : X l md d mc ms al T ks kc kn (pc + 2) L (vJ x :: st) M) : X l md d mc ms al T ks kc kn pc L st M := fun p e s m args below meth c H locs b D cT A ls h0 h1 hl => lv_lload h0.1 h0.2.1 hd (am_lv_at hl hi) (k p e s m args below meth c H locs b D cT A ls h0 h1 hl)
theorem r_aload_n {i : Fin 4} {x : Key} (hd : decode md.2.1 pc = .ok (.aload_n i, 1)) (hi : L[(i : Nat)]? = some (some (vR x))) (k : X l md d mc ms al T ks kc kn (pc + 1) L (vR x :: st) M) : X l md d mc ms al T ks kc kn pc L st M := fun p e s m args below meth c H locs b D cT A ls h0 h1 hl => lv_aload_n h0.1 h0.2.1 hd rfl (am_lv_at hl hi) (k p e s m args below meth c H locs b D cT A ls h0 h1 hl)
theorem r_aload {i : Nat} {x : Key} (hd : decode md.2.1 pc = .ok (.aload i, 2)) (hi : L[i]? = some (some (vR x))) (k : X l md d mc ms al T ks kc kn (pc + 2) L (vR x :: st) M) : X l md d mc ms al T ks kc kn pc L st M := fun p e s m args below meth c H locs b D cT A ls h0 h1 hl => lv_aload h0.1 h0.2.1 hd (am_lv_at hl hi) (k p e s m args below meth c H locs b D cT A ls h0 h1 hl)
theorem r_istore_n {i : Fin 4} {x : Int32} (hd : decode md.2.1 pc = .ok (.istore_n i, 1)) (hn : (i : Nat) < md.2.2.1) (hs : am_st1 L (i : Nat) (vI x) = some L') (k : X l md d mc ms al T ks kc kn (pc + 1) L' st M) : X l md d mc ms al T ks kc kn pc L (vI x :: st) M := fun p e s m args below meth c H locs b D cT A ls h0 h1 hl => lv_istore_n h0.1 h0.2.1 hd rfl hl hn rfl (fun ls' hl' => k p e s m args below meth c H locs b D cT A ls' h0 h1 (am_lv_st1 hs rfl hl'))
theorem r_istore {i : Nat} {x : Int32} (hd : decode md.2.1 pc = .ok (.istore i, 2)) (hn : i < md.2.2.1) (hs : am_st1 L i (vI x) = some L') (k : X l md d mc ms al T ks kc kn (pc + 2) L' st M) : X l md d mc ms al T ks kc kn pc L (vI x :: st) M := fun p e s m args below meth c H locs b D cT A ls h0 h1 hl => lv_istore h0.1 h0.2.1 hd hl hn rfl (fun ls' hl' => k p e s m args below meth c H locs b D cT A ls' h0 h1 (am_lv_st1 hs rfl hl'))
theorem r_lstore_n {i : Fin 4} {x : Int64} (hd : decode md.2.1 pc = .ok (.lstore_n i, 1)) (hn : (i : Nat) + 1 < md.2.2.1) (hs : am_st2 L (i : Nat) (vJ x) = some L') (k : X l md d mc ms al T ks kc kn (pc + 1) L' st M) : X l md d mc ms al T ks kc kn pc L (vJ x :: st) M := fun p e s m args below meth c H locs b D cT A ls h0 h1 hl => lv_lstore_n h0.1 h0.2.1 hd rfl hl hn rfl (fun ls' hl' => k p e s m args below meth c H locs b D cT A ls' h0 h1 (am_lv_st2 hs rfl hl'))
theorem r_lstore {i : Nat} {x : Int64} (hd : decode md.2.1 pc = .ok (.lstore i, 2)) (hn : i + 1 < md.2.2.1) (hs : am_st2 L i (vJ x) = some L') (k : X l md d mc ms al T ks kc kn (pc + 2) L' st M) : X l md d mc ms al T ks kc kn pc L (vJ x :: st) M := fun p e s m args below meth c H locs b D cT A ls h0 h1 hl => lv_lstore h0.1 h0.2.1 hd hl hn rfl (fun ls' hl' => k p e s m args below meth c H locs b D cT A ls' h0 h1 (am_lv_st2 hs rfl hl'))
theorem r_astore_n {i : Fin 4} {x : Key} (hd : decode md.2.1 pc = .ok (.astore_n i, 1)) (hn : (i : Nat) < md.2.2.1) (hs : am_st1 L (i : Nat) (vR x) = some L') (k : X l md d mc ms al T ks kc kn (pc + 1) L' st M) : X l md d mc ms al T ks kc kn pc L (vR x :: st) M := fun p e s m args below meth c H locs b D cT A ls h0 h1 hl => lv_astore_n h0.1 h0.2.1 hd rfl hl hn rfl (fun ls' hl' => k p e s m args below meth c H locs b D cT A ls' h0 h1 (am_lv_st1 hs rfl hl'))
theorem r_astore {i : Nat} {x : Key} (hd : decode md.2.1 pc = .ok (.astore i, 2)) (hn : i < md.2.2.1) (hs : am_st1 L i (vR x) = some L') (k : X l md d mc ms al T ks kc kn (pc + 2) L' st M) : X l md d mc ms al T ks kc kn pc L (vR x :: st) M := fun p e s m args below meth c H locs b D cT A ls h0 h1 hl => lv_astore h0.1 h0.2.1 hd hl hn rfl (fun ls' hl' => k p e s m args below meth c H locs b D cT A ls' h0 h1 (am_lv_st1 hs rfl hl'))
theorem r_iadd {x y : Int32} (hd : decode md.2.1 pc = .ok (.iadd, 1))  (k : X l md d mc ms al T ks kc kn (pc + 1) L (vI (x + y) :: st) M) : X l md d mc ms al T ks kc kn pc L (vI y :: vI x :: st) M := fun p e s m args below meth c H locs b D cT A ls h0 h1 hl => lv_iadd h0.1 h0.2.1 hd  (k p e s m args below meth c H locs b D cT A ls h0 h1 hl)
theorem r_isub {x y : Int32} (hd : decode md.2.1 pc = .ok (.isub, 1))  (k : X l md d mc ms al T ks kc kn (pc + 1) L (vI (x - y) :: st) M) : X l md d mc ms al T ks kc kn pc L (vI y :: vI x :: st) M := fun p e s m args below meth c H locs b D cT A ls h0 h1 hl => lv_isub h0.1 h0.2.1 hd  (k p e s m args below meth c H locs b D cT A ls h0 h1 hl)
theorem r_imul {x y : Int32} (hd : decode md.2.1 pc = .ok (.imul, 1))  (k : X l md d mc ms al T ks kc kn (pc + 1) L (vI (x * y) :: st) M) : X l md d mc ms al T ks kc kn pc L (vI y :: vI x :: st) M := fun p e s m args below meth c H locs b D cT A ls h0 h1 hl => lv_imul h0.1 h0.2.1 hd  (k p e s m args below meth c H locs b D cT A ls h0 h1 hl)
theorem r_iand {x y : Int32} (hd : decode md.2.1 pc = .ok (.iand, 1))  (k : X l md d mc ms al T ks kc kn (pc + 1) L (vI (x &&& y) :: st) M) : X l md d mc ms al T ks kc kn pc L (vI y :: vI x :: st) M := fun p e s m args below meth c H locs b D cT A ls h0 h1 hl => lv_iand h0.1 h0.2.1 hd  (k p e s m args below meth c H locs b D cT A ls h0 h1 hl)
theorem r_ior {x y : Int32} (hd : decode md.2.1 pc = .ok (.ior, 1))  (k : X l md d mc ms al T ks kc kn (pc + 1) L (vI (x ||| y) :: st) M) : X l md d mc ms al T ks kc kn pc L (vI y :: vI x :: st) M := fun p e s m args below meth c H locs b D cT A ls h0 h1 hl => lv_ior h0.1 h0.2.1 hd  (k p e s m args below meth c H locs b D cT A ls h0 h1 hl)
theorem r_ixor {x y : Int32} (hd : decode md.2.1 pc = .ok (.ixor, 1))  (k : X l md d mc ms al T ks kc kn (pc + 1) L (vI (x ^^^ y) :: st) M) : X l md d mc ms al T ks kc kn pc L (vI y :: vI x :: st) M := fun p e s m args below meth c H locs b D cT A ls h0 h1 hl => lv_ixor h0.1 h0.2.1 hd  (k p e s m args below meth c H locs b D cT A ls h0 h1 hl)
theorem r_ishl {x y : Int32} (hd : decode md.2.1 pc = .ok (.ishl, 1))  (k : X l md d mc ms al T ks kc kn (pc + 1) L (vI (x <<< (y &&& 31)) :: st) M) : X l md d mc ms al T ks kc kn pc L (vI y :: vI x :: st) M := fun p e s m args below meth c H locs b D cT A ls h0 h1 hl => lv_ishl h0.1 h0.2.1 hd  (k p e s m args below meth c H locs b D cT A ls h0 h1 hl)
theorem r_ishr {x y : Int32} (hd : decode md.2.1 pc = .ok (.ishr, 1))  (k : X l md d mc ms al T ks kc kn (pc + 1) L (vI (x >>> (y &&& 31)) :: st) M) : X l md d mc ms al T ks kc kn pc L (vI y :: vI x :: st) M := fun p e s m args below meth c H locs b D cT A ls h0 h1 hl => lv_ishr h0.1 h0.2.1 hd  (k p e s m args below meth c H locs b D cT A ls h0 h1 hl)
theorem r_idiv {x y : Int32} (hd : decode md.2.1 pc = .ok (.idiv, 1)) (hne : ¬ y = 0) (k : X l md d mc ms al T ks kc kn (pc + 1) L (vI (x / y) :: st) M) : X l md d mc ms al T ks kc kn pc L (vI y :: vI x :: st) M := fun p e s m args below meth c H locs b D cT A ls h0 h1 hl => lv_idiv h0.1 h0.2.1 hd hne (k p e s m args below meth c H locs b D cT A ls h0 h1 hl)
theorem r_irem {x y : Int32} (hd : decode md.2.1 pc = .ok (.irem, 1)) (hne : ¬ y = 0) (k : X l md d mc ms al T ks kc kn (pc + 1) L (vI (x - x / y * y) :: st) M) : X l md d mc ms al T ks kc kn pc L (vI y :: vI x :: st) M := fun p e s m args below meth c H locs b D cT A ls h0 h1 hl => lv_irem h0.1 h0.2.1 hd hne (k p e s m args below meth c H locs b D cT A ls h0 h1 hl)
theorem r_ineg {x : Int32} (hd : decode md.2.1 pc = .ok (.ineg, 1))  (k : X l md d mc ms al T ks kc kn (pc + 1) L (vI (-x) :: st) M) : X l md d mc ms al T ks kc kn pc L (vI x :: st) M := fun p e s m args below meth c H locs b D cT A ls h0 h1 hl => lv_ineg h0.1 h0.2.1 hd  (k p e s m args below meth c H locs b D cT A ls h0 h1 hl)
theorem r_iushr {x y : Int32} (hd : decode md.2.1 pc = .ok (.iushr, 1))  (k : X l md d mc ms al T ks kc kn (pc + 1) L (vI (x.toUInt32 >>> (y.toUInt32 &&& Int32.toUInt32 31)).toInt32 :: st) M) : X l md d mc ms al T ks kc kn pc L (vI y :: vI x :: st) M := fun p e s m args below meth c H locs b D cT A ls h0 h1 hl => lv_iushr h0.1 h0.2.1 hd rfl (k p e s m args below meth c H locs b D cT A ls h0 h1 hl)
theorem r_ladd {x y : Int64} (hd : decode md.2.1 pc = .ok (.ladd, 1))  (k : X l md d mc ms al T ks kc kn (pc + 1) L (vJ (x + y) :: st) M) : X l md d mc ms al T ks kc kn pc L (vJ y :: vJ x :: st) M := fun p e s m args below meth c H locs b D cT A ls h0 h1 hl => lv_ladd h0.1 h0.2.1 hd  (k p e s m args below meth c H locs b D cT A ls h0 h1 hl)
theorem r_lmul {x y : Int64} (hd : decode md.2.1 pc = .ok (.lmul, 1))  (k : X l md d mc ms al T ks kc kn (pc + 1) L (vJ (x * y) :: st) M) : X l md d mc ms al T ks kc kn pc L (vJ y :: vJ x :: st) M := fun p e s m args below meth c H locs b D cT A ls h0 h1 hl => lv_lmul h0.1 h0.2.1 hd  (k p e s m args below meth c H locs b D cT A ls h0 h1 hl)
theorem r_land {x y : Int64} (hd : decode md.2.1 pc = .ok (.land, 1))  (k : X l md d mc ms al T ks kc kn (pc + 1) L (vJ (x &&& y) :: st) M) : X l md d mc ms al T ks kc kn pc L (vJ y :: vJ x :: st) M := fun p e s m args below meth c H locs b D cT A ls h0 h1 hl => lv_land h0.1 h0.2.1 hd  (k p e s m args below meth c H locs b D cT A ls h0 h1 hl)
theorem r_lor {x y : Int64} (hd : decode md.2.1 pc = .ok (.lor, 1))  (k : X l md d mc ms al T ks kc kn (pc + 1) L (vJ (x ||| y) :: st) M) : X l md d mc ms al T ks kc kn pc L (vJ y :: vJ x :: st) M := fun p e s m args below meth c H locs b D cT A ls h0 h1 hl => lv_lor h0.1 h0.2.1 hd  (k p e s m args below meth c H locs b D cT A ls h0 h1 hl)
theorem r_ldiv {x y : Int64} (hd : decode md.2.1 pc = .ok (.ldiv, 1)) (hne : ¬ y = 0) (k : X l md d mc ms al T ks kc kn (pc + 1) L (vJ (x / y) :: st) M) : X l md d mc ms al T ks kc kn pc L (vJ y :: vJ x :: st) M := fun p e s m args below meth c H locs b D cT A ls h0 h1 hl => lv_ldiv h0.1 h0.2.1 hd hne (k p e s m args below meth c H locs b D cT A ls h0 h1 hl)
theorem r_lrem {x y : Int64} (hd : decode md.2.1 pc = .ok (.lrem, 1)) (hne : ¬ y = 0) (k : X l md d mc ms al T ks kc kn (pc + 1) L (vJ (x - x / y * y) :: st) M) : X l md d mc ms al T ks kc kn pc L (vJ y :: vJ x :: st) M := fun p e s m args below meth c H locs b D cT A ls h0 h1 hl => lv_lrem h0.1 h0.2.1 hd hne (k p e s m args below meth c H locs b D cT A ls h0 h1 hl)
theorem r_lshl {x : Int64} {y : Int32} (hd : decode md.2.1 pc = .ok (.lshl, 1))  (k : X l md d mc ms al T ks kc kn (pc + 1) L (vJ (x <<< (y.toInt64 &&& 63)) :: st) M) : X l md d mc ms al T ks kc kn pc L (vI y :: vJ x :: st) M := fun p e s m args below meth c H locs b D cT A ls h0 h1 hl => lv_lshl h0.1 h0.2.1 hd rfl (k p e s m args below meth c H locs b D cT A ls h0 h1 hl)
theorem r_lcmp {x y : Int64} (hd : decode md.2.1 pc = .ok (.lcmp, 1))  (k : X l md d mc ms al T ks kc kn (pc + 1) L (vI (lg_cmp x y) :: st) M) : X l md d mc ms al T ks kc kn pc L (vJ y :: vJ x :: st) M := fun p e s m args below meth c H locs b D cT A ls h0 h1 hl => W.lcmp h0.1 h0.2.1 hd  (k p e s m args below meth c H locs b D cT A ls h0 h1 hl)
theorem r_i2l {x : Int32} (hd : decode md.2.1 pc = .ok (.i2l, 1))  (k : X l md d mc ms al T ks kc kn (pc + 1) L (vJ x.toInt64 :: st) M) : X l md d mc ms al T ks kc kn pc L (vI x :: st) M := fun p e s m args below meth c H locs b D cT A ls h0 h1 hl => lv_i2l h0.1 h0.2.1 hd rfl (k p e s m args below meth c H locs b D cT A ls h0 h1 hl)
theorem r_l2i {x : Int64} (hd : decode md.2.1 pc = .ok (.l2i, 1))  (k : X l md d mc ms al T ks kc kn (pc + 1) L (vI x.toInt32 :: st) M) : X l md d mc ms al T ks kc kn pc L (vJ x :: st) M := fun p e s m args below meth c H locs b D cT A ls h0 h1 hl => lv_l2i h0.1 h0.2.1 hd rfl (k p e s m args below meth c H locs b D cT A ls h0 h1 hl)
theorem r_i2b {x : Int32} (hd : decode md.2.1 pc = .ok (.i2b, 1))  (k : X l md d mc ms al T ks kc kn (pc + 1) L (vI x.toInt8.toInt32 :: st) M) : X l md d mc ms al T ks kc kn pc L (vI x :: st) M := fun p e s m args below meth c H locs b D cT A ls h0 h1 hl => lv_i2b h0.1 h0.2.1 hd rfl (k p e s m args below meth c H locs b D cT A ls h0 h1 hl)
theorem r_i2s {x : Int32} (hd : decode md.2.1 pc = .ok (.i2s, 1))  (k : X l md d mc ms al T ks kc kn (pc + 1) L (vI x.toInt16.toInt32 :: st) M) : X l md d mc ms al T ks kc kn pc L (vI x :: st) M := fun p e s m args below meth c H locs b D cT A ls h0 h1 hl => lv_i2s h0.1 h0.2.1 hd rfl (k p e s m args below meth c H locs b D cT A ls h0 h1 hl)
theorem r_i2c {x : Int32} (hd : decode md.2.1 pc = .ok (.i2c, 1))  (k : X l md d mc ms al T ks kc kn (pc + 1) L (vI (x.toUInt32 % 65536).toInt32 :: st) M) : X l md d mc ms al T ks kc kn pc L (vI x :: st) M := fun p e s m args below meth c H locs b D cT A ls h0 h1 hl => lv_i2c h0.1 h0.2.1 hd rfl (k p e s m args below meth c H locs b D cT A ls h0 h1 hl)
theorem r_dup {a : AV} (hd : decode md.2.1 pc = .ok (.dup, 1)) (ha : am_cat a = 1) (k : X l md d mc ms al T ks kc kn (pc + 1) L (a :: a :: st) M) : X l md d mc ms al T ks kc kn pc L (a :: st) M := fun p e s m args below meth c H locs b D cT A ls h0 h1 hl => lv_dup h0.1 h0.2.1 hd (by rw [am_cat_eq]; exact ha) (k p e s m args below meth c H locs b D cT A ls h0 h1 hl)
theorem r_pop {a : AV} (hd : decode md.2.1 pc = .ok (.pop, 1)) (ha : am_cat a = 1) (k : X l md d mc ms al T ks kc kn (pc + 1) L (st) M) : X l md d mc ms al T ks kc kn pc L (a :: st) M := fun p e s m args below meth c H locs b D cT A ls h0 h1 hl => lv_pop h0.1 h0.2.1 hd (by rw [am_cat_eq]; exact ha) (k p e s m args below meth c H locs b D cT A ls h0 h1 hl)
theorem r_dup_x1 {a b2 : AV} (hd : decode md.2.1 pc = .ok (.dup_x1, 1)) (ha : am_cat a = 1) (hb : am_cat b2 = 1) (k : X l md d mc ms al T ks kc kn (pc + 1) L (a :: b2 :: a :: st) M) : X l md d mc ms al T ks kc kn pc L (a :: b2 :: st) M := fun p e s m args below meth c H locs b D cT A ls h0 h1 hl => lv_dup_x1 h0.1 h0.2.1 hd (by rw [am_cat_eq]; exact ha) (by rw [am_cat_eq]; exact hb) (k p e s m args below meth c H locs b D cT A ls h0 h1 hl)
theorem r_dup2 {a b2 : AV} (hd : decode md.2.1 pc = .ok (.dup2, 1)) (ha : am_cat a = 1) (hb : am_cat b2 = 1) (k : X l md d mc ms al T ks kc kn (pc + 1) L (a :: b2 :: a :: b2 :: st) M) : X l md d mc ms al T ks kc kn pc L (a :: b2 :: st) M := fun p e s m args below meth c H locs b D cT A ls h0 h1 hl => lv_dup2_11 h0.1 h0.2.1 hd (by rw [am_cat_eq]; exact ha) (by rw [am_cat_eq]; exact hb) (k p e s m args below meth c H locs b D cT A ls h0 h1 hl)
theorem r_iinc {i : Nat} {n : Int} {x v : Int32} (hd : decode md.2.1 pc = .ok (.iinc i n, 3)) (hi : L[i]? = some (some (vI x))) (hv : x + Int32.ofInt n = v) (hn : i < md.2.2.1) (hs : am_st1 L i (vI v) = some L') (k : X l md d mc ms al T ks kc kn (pc + 3) L' st M) : X l md d mc ms al T ks kc kn pc L st M := by
  intro p e s m args below meth c H locs b D cT A ls h0 h1 hl
  obtain ⟨j, hj⟩ := List.getElem?_of_mem (am_lv_get b L i 0 _ hi)
  rw [Nat.zero_add] at hj
  exact lv_iinc h0.1 h0.2.1 hd hl hj hv hn rfl (fun ls' hl' => k p e s m args below meth c H locs b D cT A ls' h0 h1 (am_lv_st1 hs rfl hl'))
theorem r_if_eq {x : Int32} {off : Int} {tgt : Nat} (hd : decode md.2.1 pc = .ok (.ifCond .eq off, 3)) (ht : (pc : Int) + off = (tgt : Int)) (kt : x = 0 → X l md d mc ms al T ks kc kn tgt L st M) (kf : ¬ x = 0 → X l md d mc ms al T ks kc kn (pc + 3) L st M) : X l md d mc ms al T ks kc kn pc L (vI x :: st) M := fun p e s m args below meth c H locs b D cT A ls h0 h1 hl => lv_if_eq h0.1 h0.2.1 hd ht (fun h => kt h p e s m args below meth c H locs b D cT A ls h0 h1 hl) (fun h => kf h p e s m args below meth c H locs b D cT A ls h0 h1 hl)
theorem r_if_ne {x : Int32} {off : Int} {tgt : Nat} (hd : decode md.2.1 pc = .ok (.ifCond .ne off, 3)) (ht : (pc : Int) + off = (tgt : Int)) (kt : ¬ x = 0 → X l md d mc ms al T ks kc kn tgt L st M) (kf : x = 0 → X l md d mc ms al T ks kc kn (pc + 3) L st M) : X l md d mc ms al T ks kc kn pc L (vI x :: st) M := fun p e s m args below meth c H locs b D cT A ls h0 h1 hl => lv_if_ne h0.1 h0.2.1 hd ht (fun h => kt h p e s m args below meth c H locs b D cT A ls h0 h1 hl) (fun h => kf h p e s m args below meth c H locs b D cT A ls h0 h1 hl)
theorem r_if_lt {x : Int32} {off : Int} {tgt : Nat} (hd : decode md.2.1 pc = .ok (.ifCond .lt off, 3)) (ht : (pc : Int) + off = (tgt : Int)) (kt : x < 0 → X l md d mc ms al T ks kc kn tgt L st M) (kf : ¬ x < 0 → X l md d mc ms al T ks kc kn (pc + 3) L st M) : X l md d mc ms al T ks kc kn pc L (vI x :: st) M := fun p e s m args below meth c H locs b D cT A ls h0 h1 hl => lv_if_lt h0.1 h0.2.1 hd ht (fun h => kt h p e s m args below meth c H locs b D cT A ls h0 h1 hl) (fun h => kf h p e s m args below meth c H locs b D cT A ls h0 h1 hl)
theorem r_if_ge {x : Int32} {off : Int} {tgt : Nat} (hd : decode md.2.1 pc = .ok (.ifCond .ge off, 3)) (ht : (pc : Int) + off = (tgt : Int)) (kt : 0 ≤ x → X l md d mc ms al T ks kc kn tgt L st M) (kf : ¬ 0 ≤ x → X l md d mc ms al T ks kc kn (pc + 3) L st M) : X l md d mc ms al T ks kc kn pc L (vI x :: st) M := fun p e s m args below meth c H locs b D cT A ls h0 h1 hl => lv_if_ge h0.1 h0.2.1 hd ht (fun h => kt h p e s m args below meth c H locs b D cT A ls h0 h1 hl) (fun h => kf h p e s m args below meth c H locs b D cT A ls h0 h1 hl)
theorem r_if_gt {x : Int32} {off : Int} {tgt : Nat} (hd : decode md.2.1 pc = .ok (.ifCond .gt off, 3)) (ht : (pc : Int) + off = (tgt : Int)) (kt : 0 < x → X l md d mc ms al T ks kc kn tgt L st M) (kf : ¬ 0 < x → X l md d mc ms al T ks kc kn (pc + 3) L st M) : X l md d mc ms al T ks kc kn pc L (vI x :: st) M := fun p e s m args below meth c H locs b D cT A ls h0 h1 hl => lv_if_gt h0.1 h0.2.1 hd ht (fun h => kt h p e s m args below meth c H locs b D cT A ls h0 h1 hl) (fun h => kf h p e s m args below meth c H locs b D cT A ls h0 h1 hl)
theorem r_if_le {x : Int32} {off : Int} {tgt : Nat} (hd : decode md.2.1 pc = .ok (.ifCond .le off, 3)) (ht : (pc : Int) + off = (tgt : Int)) (kt : x ≤ 0 → X l md d mc ms al T ks kc kn tgt L st M) (kf : ¬ x ≤ 0 → X l md d mc ms al T ks kc kn (pc + 3) L st M) : X l md d mc ms al T ks kc kn pc L (vI x :: st) M := fun p e s m args below meth c H locs b D cT A ls h0 h1 hl => lv_if_le h0.1 h0.2.1 hd ht (fun h => kt h p e s m args below meth c H locs b D cT A ls h0 h1 hl) (fun h => kf h p e s m args below meth c H locs b D cT A ls h0 h1 hl)
theorem r_icmp_eq {x y : Int32} {off : Int} {tgt : Nat} (hd : decode md.2.1 pc = .ok (.if_icmp .eq off, 3)) (ht : (pc : Int) + off = (tgt : Int)) (kt : x = y → X l md d mc ms al T ks kc kn tgt L st M) (kf : ¬ x = y → X l md d mc ms al T ks kc kn (pc + 3) L st M) : X l md d mc ms al T ks kc kn pc L (vI y :: vI x :: st) M := fun p e s m args below meth c H locs b D cT A ls h0 h1 hl => lv_icmp_eq h0.1 h0.2.1 hd ht (fun h => kt h p e s m args below meth c H locs b D cT A ls h0 h1 hl) (fun h => kf h p e s m args below meth c H locs b D cT A ls h0 h1 hl)
theorem r_icmp_ne {x y : Int32} {off : Int} {tgt : Nat} (hd : decode md.2.1 pc = .ok (.if_icmp .ne off, 3)) (ht : (pc : Int) + off = (tgt : Int)) (kt : ¬ x = y → X l md d mc ms al T ks kc kn tgt L st M) (kf : x = y → X l md d mc ms al T ks kc kn (pc + 3) L st M) : X l md d mc ms al T ks kc kn pc L (vI y :: vI x :: st) M := fun p e s m args below meth c H locs b D cT A ls h0 h1 hl => lv_icmp_ne h0.1 h0.2.1 hd ht (fun h => kt h p e s m args below meth c H locs b D cT A ls h0 h1 hl) (fun h => kf h p e s m args below meth c H locs b D cT A ls h0 h1 hl)
theorem r_icmp_lt {x y : Int32} {off : Int} {tgt : Nat} (hd : decode md.2.1 pc = .ok (.if_icmp .lt off, 3)) (ht : (pc : Int) + off = (tgt : Int)) (kt : x < y → X l md d mc ms al T ks kc kn tgt L st M) (kf : ¬ x < y → X l md d mc ms al T ks kc kn (pc + 3) L st M) : X l md d mc ms al T ks kc kn pc L (vI y :: vI x :: st) M := fun p e s m args below meth c H locs b D cT A ls h0 h1 hl => lv_icmp_lt h0.1 h0.2.1 hd ht (fun h => kt h p e s m args below meth c H locs b D cT A ls h0 h1 hl) (fun h => kf h p e s m args below meth c H locs b D cT A ls h0 h1 hl)
theorem r_icmp_ge {x y : Int32} {off : Int} {tgt : Nat} (hd : decode md.2.1 pc = .ok (.if_icmp .ge off, 3)) (ht : (pc : Int) + off = (tgt : Int)) (kt : y ≤ x → X l md d mc ms al T ks kc kn tgt L st M) (kf : ¬ y ≤ x → X l md d mc ms al T ks kc kn (pc + 3) L st M) : X l md d mc ms al T ks kc kn pc L (vI y :: vI x :: st) M := fun p e s m args below meth c H locs b D cT A ls h0 h1 hl => lv_icmp_ge h0.1 h0.2.1 hd ht (fun h => kt h p e s m args below meth c H locs b D cT A ls h0 h1 hl) (fun h => kf h p e s m args below meth c H locs b D cT A ls h0 h1 hl)
theorem r_icmp_gt {x y : Int32} {off : Int} {tgt : Nat} (hd : decode md.2.1 pc = .ok (.if_icmp .gt off, 3)) (ht : (pc : Int) + off = (tgt : Int)) (kt : y < x → X l md d mc ms al T ks kc kn tgt L st M) (kf : ¬ y < x → X l md d mc ms al T ks kc kn (pc + 3) L st M) : X l md d mc ms al T ks kc kn pc L (vI y :: vI x :: st) M := fun p e s m args below meth c H locs b D cT A ls h0 h1 hl => lv_icmp_gt h0.1 h0.2.1 hd ht (fun h => kt h p e s m args below meth c H locs b D cT A ls h0 h1 hl) (fun h => kf h p e s m args below meth c H locs b D cT A ls h0 h1 hl)
theorem r_icmp_le {x y : Int32} {off : Int} {tgt : Nat} (hd : decode md.2.1 pc = .ok (.if_icmp .le off, 3)) (ht : (pc : Int) + off = (tgt : Int)) (kt : x ≤ y → X l md d mc ms al T ks kc kn tgt L st M) (kf : ¬ x ≤ y → X l md d mc ms al T ks kc kn (pc + 3) L st M) : X l md d mc ms al T ks kc kn pc L (vI y :: vI x :: st) M := fun p e s m args below meth c H locs b D cT A ls h0 h1 hl => lv_icmp_le h0.1 h0.2.1 hd ht (fun h => kt h p e s m args below meth c H locs b D cT A ls h0 h1 hl) (fun h => kf h p e s m args below meth c H locs b D cT A ls h0 h1 hl)
theorem r_ifnonnull {q : Option Key} {off : Int} {tgt : Nat} (hd : decode md.2.1 pc = .ok (.ifnonnull off, 3)) (ht : (pc : Int) + off = (tgt : Int)) (kn0 : q = none → X l md d mc ms al T ks kc kn (pc + 3) L st M) (ks0 : ∀ z, q = some z → X l md d mc ms al T ks kc kn tgt L st M) : X l md d mc ms al T ks kc kn pc L (vO q :: st) M := by
  intro p e s m args below meth c H locs b D cT A ls h0 h1 hl
  cases q with
  | none => exact lv_ifnonnullN h0.1 h0.2.1 hd (kn0 rfl p e s m args below meth c H locs b D cT A ls h0 h1 hl)
  | some z => exact lv_ifnonnull h0.1 h0.2.1 hd ht (ks0 z rfl p e s m args below meth c H locs b D cT A ls h0 h1 hl)
theorem r_ifnull {q : Option Key} {off : Int} {tgt : Nat} (hd : decode md.2.1 pc = .ok (.ifnull off, 3)) (ht : (pc : Int) + off = (tgt : Int)) (kn0 : q = none → X l md d mc ms al T ks kc kn tgt L st M) (ks0 : ∀ z, q = some z → X l md d mc ms al T ks kc kn (pc + 3) L st M) : X l md d mc ms al T ks kc kn pc L (vO q :: st) M := by
  intro p e s m args below meth c H locs b D cT A ls h0 h1 hl
  cases q with
  | none => exact lv_ifnullN h0.1 h0.2.1 hd ht (kn0 rfl p e s m args below meth c H locs b D cT A ls h0 h1 hl)
  | some z => exact lv_ifnull h0.1 h0.2.1 hd (ks0 z rfl p e s m args below meth c H locs b D cT A ls h0 h1 hl)
theorem r_goto {off : Int} {tgt : Nat} (hd : decode md.2.1 pc = .ok (.goto off, 3)) (ht : (pc : Int) + off = (tgt : Int)) (k : X l md d mc ms al T ks kc kn tgt L st M) : X l md d mc ms al T ks kc kn pc L st M := fun p e s m args below meth c H locs b D cT A ls h0 h1 hl => lv_goto h0.1 h0.2.1 hd ht (k p e s m args below meth c H locs b D cT A ls h0 h1 hl)
theorem r_table {dflt lo hi : Int} {offs : Array Int} {len : Nat} {x : Int32} {tgt : Nat} (hd : decode md.2.1 pc = .ok (.tableswitch dflt lo hi offs, len)) (ho : if x.toInt < lo ∨ hi < x.toInt then (pc : Int) + dflt = (tgt : Int) else ∃ off, offs[(x.toInt - lo).toNat]? = some off ∧ (pc : Int) + off = (tgt : Int)) (k : X l md d mc ms al T ks kc kn tgt L st M) : X l md d mc ms al T ks kc kn pc L (vI x :: st) M := by
  intro p e s m args below meth c H locs b D cT A ls h0 h1 hl
  by_cases h : x.toInt < lo ∨ hi < x.toInt
  · rw [if_pos h] at ho
    exact lv_tableOut h0.1 h0.2.1 hd h ho (k p e s m args below meth c H locs b D cT A ls h0 h1 hl)
  · rw [if_neg h] at ho
    obtain ⟨off, h2, h3⟩ := ho
    exact lv_tableIn h0.1 h0.2.1 hd (fun q => h (Or.inl q)) (fun q => h (Or.inr q)) h2 h3 (k p e s m args below meth c H locs b D cT A ls h0 h1 hl)
theorem r_lookup {dflt : Int} {ps : Array (Int × Int)} {len : Nat} {x : Int32} {off : Int} {tgt : Nat} (hd : decode md.2.1 pc = .ok (.lookupswitch dflt ps, len)) (hp : (ps.toList.zip (ps.toList.drop 1)).all (fun (a, next) => a.1 < next.1) = true) (ho : Op.lookupswitch.offset ps.toList dflt x.toInt = off) (ht : (pc : Int) + off = (tgt : Int)) (k : X l md d mc ms al T ks kc kn tgt L st M) : X l md d mc ms al T ks kc kn pc L (vI x :: st) M := fun p e s m args below meth c H locs b D cT A ls h0 h1 hl => lv_lookup h0.1 h0.2.1 hd hp ho ht (k p e s m args below meth c H locs b D cT A ls h0 h1 hl)
/-- fewer known locals -/
def am_le : List (Option AV) → List (Option AV) → Prop
  | [], [] => True
  | none :: L1, _ :: L2 => am_le L1 L2
  | some a :: L1, some a2 :: L2 => a = a2 ∧ am_le L1 L2
  | _, _ => False
theorem am_le_get : ∀ {L1 L2 : List (Option AV)} (_ : am_le L1 L2) {i : Nat} {a : AV}, L1[i]? = some (some a) → L2[i]? = some (some a)
  | [], [], _, i, a, h => by simp at h
  | [], _ :: _, h0, _, _, _ => h0.elim
  | none :: L1, [], h0, _, _, _ => h0.elim
  | some _ :: L1, [], h0, _, _, _ => h0.elim
  | none :: L1, _ :: L2, _, 0, a, h => by simp at h
  | none :: L1, _ :: L2, h0, i + 1, a, h => by
    have := am_le_get (L1 := L1) (L2 := L2) h0 (i := i) (a := a) (by simpa using h)
    simpa using this
  | some x :: L1, none :: L2, h0, i, a, h => h0.elim
  | some x :: L1, some y :: L2, h0, 0, a, h => by
    rw [← h0.1]
    simpa using h
  | some x :: L1, some y :: L2, h0, i + 1, a, h => by
    have := am_le_get (L1 := L1) (L2 := L2) h0.2 (i := i) (a := a) (by simpa using h)
    simpa using this
theorem r_weak (h9 : am_le L' L) (k : X l md d mc ms al T ks kc kn pc L' st M) : X l md d mc ms al T ks kc kn pc L st M := by
  intro p e s m args below meth c H locs b D cT A ls h0 h1 hl
  refine k p e s m args below meth c H locs b D cT A ls h0 h1 ⟨hl.1, hl.2.1, fun q hq => ?_⟩
  obtain ⟨i, a, h2, rfl⟩ := am_lv_of b L' 0 q hq
  rw [Nat.zero_add]
  exact am_lv_at hl (am_le_get h9 h2)
theorem r_to {M' : AM} {st' : List AV} {pc' : Nat} (h1 : pc = pc') (h2 : L = L') (h3 : st = st') (h4 : M = M') (k : X l md d mc ms al T ks kc kn pc' L' st' M') : X l md d mc ms al T ks kc kn pc L st M := by subst h1; subst h2; subst h3; subst h4; exact k
end RU
end
section
/-! RULES of the layer: answers, fields, arrays -/
section MR
variable {l : Launch} {md : MD} {d mc ms : Nat} {al : Bool} {T : Option AV × List Key × AM} {ks : List Key} {kc kn pc : Nat} {L L' : List (Option AV)} {st : List AV} {M M' : AM} {q : Key} {k : Nat}
theorem am_w_at {b : Nat} {cT : Nat → ClassId} {M : AM} (h : q ∈ ks) : ∃ i : Nat, ks[i]? = some q ∧ (am_w b cT ks M)[i]? = some (b + am_ix q, am_ce b cT M q) := by
  obtain ⟨i, hi⟩ := List.getElem?_of_mem h
  exact ⟨i, hi, by unfold am_w; rw [List.getElem?_map, hi]; rfl⟩
theorem am_w_of {b : Nat} {cT : Nat → ClassId} {M : AM} {i : Nat} {x : Nat × va_E} (h : (am_w b cT ks M)[i]? = some x) : ∃ q, ks[i]? = some q ∧ x = (b + am_ix q, am_ce b cT M q) := by
  unfold am_w at h
  rw [List.getElem?_map] at h
  cases hk : ks[i]? with
  | none => rw [hk] at h; cases h
  | some q => rw [hk] at h; exact ⟨q, rfl, (Option.some.inj h).symm⟩
theorem am_ce_obj (b : Nat) (cT : Nat → ClassId) (M : AM) (h : am_kd q.1 < 11) : am_ce b cT M q = .inr (am_kd q.1, (List.range (am_ln q.1)).map (am_fv b M q)) := if_pos h
theorem am_ce_i (b : Nat) (cT : Nat → ClassId) (M : AM) (h : am_kd q.1 = 11 ∨ am_kd q.1 = 13) : am_ce b cT M q = .inl (cT (am_kd q.1), am_ln q.1, .inl (M.1 q)) := by
  unfold am_ce
  rw [if_neg (by omega), if_neg (by omega), if_pos (by omega)]
theorem am_ce_l (b : Nat) (cT : Nat → ClassId) (M : AM) (h : am_kd q.1 = 12) : am_ce b cT M q = .inl (cT 12, am_ln q.1, .inr (.inl (M.2.1 q))) := by
  unfold am_ce
  rw [if_neg (by omega), if_pos h]
theorem am_ce_q (b : Nat) (cT : Nat → ClassId) (M : AM) (h : 14 ≤ am_kd q.1) : am_ce b cT M q = .inl (cT (am_kd q.1), am_ln q.1, .inr (.inr (.inr (.inr (fun i => (M.2.2 q i).map (fun q => b + am_ix q)))))) := by
  unfold am_ce
  rw [if_neg (by omega), if_neg (by omega), if_neg (by omega)]
theorem am_ce_congr (b : Nat) (cT : Nat → ClassId) {M M' : AM} (h1 : M'.1 q = M.1 q) (h2 : M'.2.1 q = M.2.1 q) (h3 : M'.2.2 q = M.2.2 q) : am_ce b cT M' q = am_ce b cT M q := by
  have e : am_fv b M' q = am_fv b M q := by
    funext k
    unfold am_fv
    rw [h1, h2, h3]
  unfold am_ce
  rw [e, h1, h2, h3]
/-- one cell of the world changes -/
theorem am_P_upd {b : Nat} {cT : Nat → ClassId} {D : va_G} {A : Nat → Prop} {H H1 : Heap} (hq : q ∈ ks) (hP : va_P D vwCl (am_w b cT ks M) H) (hD : va_D A (am_w b cT ks M)) (hsame : ∀ q', q' ≠ q → am_ce b cT M' q' = am_ce b cT M q')
    (hnew : va_at D vwCl (b + am_ix q, am_ce b cT M' q) H1) (oq : ∀ a : Nat, a ≠ b + am_ix q → H1[a]? = H[a]?) : va_P D vwCl (am_w b cT ks M') H1 ∧ va_D A (am_w b cT ks M') := by
  obtain ⟨j, hj, hwj⟩ := am_w_at (b := b) (cT := cT) (M := M) hq
  refine ⟨fun i x hx => ?_, fun i1 i2 x y hx hy hxy => ?_, fun i x hx => ?_⟩
  · obtain ⟨z, hz, rfl⟩ := am_w_of hx
    by_cases e : z = q
    · subst e
      exact hnew
    · rw [hsame z e]
      have hwi : (am_w b cT ks M)[i]? = some (b + am_ix z, am_ce b cT M z) := by unfold am_w; rw [List.getElem?_map, hz]; rfl
      refine (hP i _ hwi).kept (oq _ fun h9 => e ?_)
      have hij := hD.1 i j _ _ hwi hwj h9
      subst hij
      exact Option.some.inj (hz.symm.trans hj)
  · obtain ⟨z, hz, rfl⟩ := am_w_of hx
    obtain ⟨z2, hz2, rfl⟩ := am_w_of hy
    exact hD.1 i1 i2 (b + am_ix z, am_ce b cT M z) (b + am_ix z2, am_ce b cT M z2) (by unfold am_w; rw [List.getElem?_map, hz]; rfl) (by unfold am_w; rw [List.getElem?_map, hz2]; rfl) hxy
  · obtain ⟨z, hz, rfl⟩ := am_w_of hx
    exact hD.2 i (b + am_ix z, am_ce b cT M z) (by unfold am_w; rw [List.getElem?_map, hz]; rfl)
/-! answers -/
theorem r_iret {x : Int32} {ty : FieldType} (hd : decode md.2.1 pc = .ok (.ireturn, 1)) (hr : md.2.2.2 = some ty) (hn : narrow ty (.int x) = .int x) (hc : kc ≤ mc) (hs : kn ≤ ms) : X l md d mc ms al (some (vI x), ks, M) ks kc kn pc L [vI x] M := by
  intro p e s m args below meth c H locs b D cT A ls h0 h1 hl
  refine W.widen (k := mc) (n := ms) hc hs ?_
  exact W.zret (v := x) h0.1 h0.2.1 (h0.2.2.1.trans hr) hn (fun t ht hW => ⟨⟨rfl, by rw [ht]; exact h1.1, va_K.moved hW.alike h1.2.2.1, h1.2.1, fun ha => by rw [ht]; exact h1.2.2.2.2.2 ha⟩, h1.2.2.2.1.F ht⟩) h1.2.2.2.1.2.2 hd (hlocks := h0.2.2.2.2.2.1)
theorem r_lret {x : Int64} (hd : decode md.2.1 pc = .ok (.lreturn, 1)) (hr : md.2.2.2 = some .long) (hc : kc ≤ mc) (hs : kn ≤ ms) : X l md d mc ms al (some (vJ x), ks, M) ks kc kn pc L [vJ x] M := by
  intro p e s m args below meth c H locs b D cT A ls h0 h1 hl
  refine W.widen (k := mc) (n := ms) hc hs ?_
  exact W.lret (v := x) h0.1 h0.2.1 (h0.2.2.1.trans hr) (fun t ht hW => ⟨⟨rfl, by rw [ht]; exact h1.1, va_K.moved hW.alike h1.2.2.1, h1.2.1, fun ha => by rw [ht]; exact h1.2.2.2.2.2 ha⟩, h1.2.2.2.1.F ht⟩) h1.2.2.2.1.2.2 hd (hlocks := h0.2.2.2.2.2.1)
theorem r_aret {x : Option Key} {n : String} (hd : decode md.2.1 pc = .ok (.areturn, 1)) (hr : md.2.2.2 = some (.object n)) (hc : kc ≤ mc) (hs : kn ≤ ms) : X l md d mc ms al (some (vO x), ks, M) ks kc kn pc L [vO x] M := by
  intro p e s m args below meth c H locs b D cT A ls h0 h1 hl
  refine W.widen (k := mc) (n := ms) hc hs ?_
  exact W.aret (v := am_rv b x) h0.1 h0.2.1 (h0.2.2.1.trans hr) (Or.inl ⟨n, rfl⟩) (by cases x with
    | none => exact Or.inl rfl
    | some z => exact Or.inr ⟨_, rfl⟩) (fun t ht hW => ⟨⟨rfl, by rw [ht]; exact h1.1, va_K.moved hW.alike h1.2.2.1, h1.2.1, fun ha => by rw [ht]; exact h1.2.2.2.2.2 ha⟩, h1.2.2.2.1.F ht⟩) h1.2.2.2.1.2.2 hd (hlocks := h0.2.2.2.2.2.1)
theorem r_vret (hd : decode md.2.1 pc = .ok (.return_, 1)) (hr : md.2.2.2 = none) (hc : kc ≤ mc) (hs : kn ≤ ms) : X l md d mc ms al (none, ks, M) ks kc kn pc L [] M := by
  intro p e s m args below meth c H locs b D cT A ls h0 h1 hl
  refine W.widen (k := mc) (n := ms) hc hs ?_
  exact W.vret h0.1 h0.2.1 (h0.2.2.1.trans hr) (fun t ht hW => ⟨⟨rfl, by rw [ht]; exact h1.1, va_K.moved hW.alike h1.2.2.1, h1.2.1, fun ha => by rw [ht]; exact h1.2.2.2.2.2 ha⟩, h1.2.2.2.1.F ht⟩) h1.2.2.2.1.2.2 hd (hlocks := h0.2.2.2.2.2.1)
/-! fields: what the tables say of an entry of a class's pool -/
def FW (own : String) (idx ci k t : Nat) : Prop := ∃ (C : String) (F : u_T) (N : Nat), vwCl[ci]? = some (C, F, N) ∧ k < N ∧ (∀ w ∈ u_ws C F N, w ∈ Wd) ∧ Cond.fieldLink own idx (F k).1 (F k).2.1 (F k).2.2.1 ∈ Wd ∧ am_ft ci k = t
def FP (own : String) (idx ci k : Nat) (ty : FieldType) (fin : Bool) : Prop := ∃ (C : String) (F : u_T) (N : Nat) (ty0 : Nat → FieldType), vwCl[ci]? = some (C, F, N) ∧ k < N ∧ (∀ w ∈ u_ws C F N, w ∈ Wd) ∧ Cond.fieldLink own idx (F k).1 (F k).2.1 (F k).2.2.1 ∈ Wd ∧
  (∀ k, k < N → parseFieldDescriptor (F k).2.2.1 = some (ty0 k)) ∧ (∀ a, a < N → ∀ b, b < N → a ≠ b → (F a).2.1 ≠ (F b).2.1) ∧ (F k).2.2.2 = fin ∧ ty0 k = ty ∧ (fin = true → (F k).1 = own)
theorem am_ci {ci : Nat} {r : vw_C} (h : vwCl[ci]? = some r) : ci < 11 := (List.getElem?_eq_some_iff.mp h).1
theorem r_get {a : AV} {idx ci t : Nat} (hw : FW md.1.cls idx ci k t) (hd : decode md.2.1 pc = .ok (.getfield idx, 3)) (hq : q ∈ ks) (hk : am_kd q.1 = ci) (hl : k < am_ln q.1) (ha : ∀ b, am_ft ci k = t → am_fv b M q k = am_cv b a) (kk : X l md d mc ms al T ks kc kn (pc + 3) L (a :: st) M) : X l md d mc ms al T ks kc kn pc L (vR q :: st) M := by
  intro p e s m args below meth c H locs b D cT A ls h0 h1 hl9
  obtain ⟨C, F, N, hc, hkN, hin, hlink, hft⟩ := hw
  obtain ⟨i, hi, hwi⟩ := am_w_at (b := b) (cT := cT) (M := M) hq
  have hci := am_ci hc
  rw [am_ce_obj b cT M (by rw [hk]; exact hci)] at hwi
  refine va_get (D := D) (cl := vwCl) (v := am_cv b a) h0.1 h0.2.1 h0.2.2.2.1 hin h0.2.2.2.2.1 h1.2.2.1 h1.1 i hwi (by rw [hk]; exact hc) k hkN (h0.2.2.2.1 _ hlink) (fun _ h9 => h9) ?_ hd (kk p e s m args below meth c H locs b D cT A ls h0 h1 hl9)
  rw [List.getElem?_map, List.getElem?_range hl, ← ha b hft]
  rfl
theorem r_geti {idx ci : Nat} (hw : FW md.1.cls idx ci k 0) (hd : decode md.2.1 pc = .ok (.getfield idx, 3)) (hq : q ∈ ks) (hk : am_kd q.1 = ci) (hl : k < am_ln q.1) (kk : X l md d mc ms al T ks kc kn (pc + 3) L (vI (M.1 q k) :: st) M) : X l md d mc ms al T ks kc kn pc L (vR q :: st) M :=
  r_get hw hd hq hk hl (fun b h => by unfold am_fv; rw [hk, h]; rfl) kk
theorem r_getl {idx ci : Nat} (hw : FW md.1.cls idx ci k 1) (hd : decode md.2.1 pc = .ok (.getfield idx, 3)) (hq : q ∈ ks) (hk : am_kd q.1 = ci) (hl : k < am_ln q.1) (kk : X l md d mc ms al T ks kc kn (pc + 3) L (vJ (M.2.1 q k) :: st) M) : X l md d mc ms al T ks kc kn pc L (vR q :: st) M :=
  r_get hw hd hq hk hl (fun b h => by unfold am_fv; rw [hk, h]; rfl) kk
theorem r_getr {idx ci : Nat} {z : Option Key} (hw : FW md.1.cls idx ci k 2) (hd : decode md.2.1 pc = .ok (.getfield idx, 3)) (hq : q ∈ ks) (hk : am_kd q.1 = ci) (hl : k < am_ln q.1) (hz : M.2.2 q k = z) (kk : X l md d mc ms al T ks kc kn (pc + 3) L (vO z :: st) M) : X l md d mc ms al T ks kc kn pc L (vR q :: st) M :=
  r_get hw hd hq hk hl (fun b h => by unfold am_fv; rw [hk, h, hz]; rfl) kk
theorem am_put {p : Program} {e : Env} {R : Room} {s : State} {m : MethodId} {args : Array Value} {below : List Frame} {meth : Method} {c : Code} {H : Heap} {locs : List Loc} {Q : State → Prop} {ls : Array Slot} {rest : List Value} {b : Nat} {D : va_G} {cT : Nat → ClassId} {A : Nat → Prop} {v : Value} {idx ci : Nat} {ty : FieldType} {fin : Bool}
    (h0 : am_X0 md p s m args meth c) (h1 : am_X1 b D cT A al ks M s H locs) (hw : FP md.1.cls idx ci k ty fin) (hi0 : fin = true → md.1.name = "<init>") (hd : decode md.2.1 pc = .ok (.putfield idx, 3)) (hq : q ∈ ks) (hk : am_kd q.1 = ci) (hl : k < am_ln q.1)
    (hn : narrow ty v = v) (hfit : fits ty v = true) (hsame : ∀ q', q' ≠ q → am_ce b cT M' q' = am_ce b cT M q') (hfv : ∀ j, am_fv b M' q j = if j = k then v else am_fv b M q j)
    (kk : ∀ (H1 : Heap) (locs1 : List Loc), am_X1 b D cT A al ks M' s H1 locs1 → W p l e R s m args below meth c H1 locs1 kc kn Q (F0 m (pc + 3) ls rest)) : W p l e R s m args below meth c H locs kc kn Q (F0 m pc ls (v :: .ref (b + am_ix q) :: rest)) := by
  obtain ⟨C, F, N, ty0, hc, hkN, hin, hlink, hty, hnm, hfin, hty1, hdecl⟩ := hw
  obtain ⟨i, hi, hwi⟩ := am_w_at (b := b) (cT := cT) (M := M) hq
  have hci : am_kd q.1 < 11 := by rw [hk]; exact am_ci hc
  rw [am_ce_obj b cT M hci, hk] at hwi
  have hts := h0.2.2.2.1
  have hown := h0.2.2.2.2.1
  have hap := va_apart (own := md.1.cls) hts hin ty0 hty hnm h1.2.2.1 hc
  obtain ⟨r, g1, cell, q1, q2, q3, q4⟩ := h1.1 i _ hwi
  have hr : r = (C, F, N) := Option.some.inj (g1.symm.trans hc)
  subst hr
  obtain ⟨hSl, hfc, kC, hkC, hkind⟩ := h1.2.2.1.1 ci _ hc
  obtain ⟨cf, kf, fi, f, hi2, hsl⟩ := hSl k hkN
  have hlay := hts _ (hin _ (u_in_lay hkN))
  have hpd : parseFieldDescriptor (F k).2.2.1 = some ty := by rw [hty k hkN, hty1]
  have hst := (u_facts hfc hkC (u_lays hts hin hkN) hi2).1
  have fin9 : ∀ H1 : Heap, H1[b + am_ix q]? = some (cell.setSlot f.slot v) → H1.size = H.size → (∀ z : Nat, z ≠ b + am_ix q → H1[z]? = H[z]?) → am_X1 b D cT A al ks M' s H1 (locs ++ [⟨b + am_ix q, f.slot⟩]) := by
    intro H1 e1 e2 e3
    rw [hsl] at e1
    have hlen : k < ((List.range (am_ln q.1)).map (am_fv b M q)).length := by simpa using hl
    have hset : ((List.range (am_ln q.1)).map (am_fv b M q)).set k v = (List.range (am_ln q.1)).map (am_fv b M' q) := by
      apply List.ext_getElem?
      intro j
      rw [List.getElem?_set, List.getElem?_map, List.getElem?_map]
      by_cases hj : k = j
      · subst hj
        rw [if_pos rfl, if_pos hlen, List.getElem?_range hl]
        show some v = some (am_fv b M' q k)
        rw [hfv, if_pos rfl]
      · rw [if_neg hj]
        by_cases hjl : j < am_ln q.1
        · rw [List.getElem?_range hjl]
          show some (am_fv b M q j) = some (am_fv b M' q j)
          rw [hfv, if_neg (Ne.symm hj)]
        · rw [List.getElem?_eq_none (by simpa using hjl)]
          rfl
    have hnew : va_at D vwCl (b + am_ix q, am_ce b cT M' q) H1 := by
      rw [am_ce_obj b cT M' hci, hk, ← hset]
      exact ⟨_, hc, t_OB.to (V := updV (vp_V _) k v) ⟨_, e1, q2, q3, t_set q4 hap hkN v⟩ (fun j _ => vp_updV_set hlen v j)⟩
    obtain ⟨u1, u2⟩ := am_P_upd hq h1.1 h1.2.1 hsame hnew e3
    exact ⟨u1, u2, h1.2.2.1, h1.2.2.2.1.put e2 e3 (h1.2.1.2 i _ hwi), h1.2.2.2.2.1, fun ha => by rw [e2]; exact h1.2.2.2.2.2 ha⟩
  cases fin with
  | false =>
    unfold u_lay at hlay
    rw [if_neg (by rw [hfin]; decide)] at hlay
    have h6 := u_store hfc hkC hkind hlay hi2 hpd hn hfit
    refine W.putK h0.1 h0.2.1 (f := f) ⟨hown, h0.2.2.2.1 _ hlink, ⟨_, _, _, hi2⟩, hst⟩ (by rw [q2]; exact h6) q1 q3 (by rw [hsl]; exact k2_hasslot (q4 k hkN)) rfl rfl hd fun H1 e1 e2 e3 => ?_
    exact kk H1 _ (fin9 H1 e1 e2 e3)
  | true =>
    unfold u_lay at hlay
    rw [if_pos hfin] at hlay
    have hcf : m.cls = cf := by
      obtain ⟨_, _, c', _, _, _, -, -, hf', -, -, -, hown2, -⟩ := Cond.laysFinal_spec hlay
      have e1 : c' = cf := by have := hi2.symm.trans hf'; simp at this; exact this.1.symm
      rw [hdecl rfl] at hown2
      rw [← e1]; exact Option.some.inj (hown.symm.trans hown2)
    have h6 := u_fits hfc hkC hkind (Or.inr hlay) hi2 hpd hn hfit
    refine W.putFinK h0.1 h0.2.1 hown (h0.2.2.2.1 _ hlink) hi2 hst hcf (h0.2.2.2.2.2.2.2.trans (hi0 rfl)) (by rw [q2]; exact h6) q1 q3 (by rw [hsl]; exact k2_hasslot (q4 k hkN)) rfl rfl hd fun H1 e1 e2 e3 => ?_
    exact kk H1 _ (fin9 H1 e1 e2 e3)
def am_ui (M : AM) (q : Key) (k : Nat) (x : Int32) : AM := (fun q' k' => if k' = k ∧ q' = q then x else M.1 q' k', M.2)
def am_ul (M : AM) (q : Key) (k : Nat) (x : Int64) : AM := (M.1, fun q' k' => if k' = k ∧ q' = q then x else M.2.1 q' k', M.2.2)
def am_ur (M : AM) (q : Key) (k : Nat) (x : Option Key) : AM := (M.1, M.2.1, fun q' k' => if k' = k ∧ q' = q then x else M.2.2 q' k')
theorem am_ui_o {q' : Key} {x : Int32} (h : q' ≠ q) : (am_ui M q k x).1 q' = M.1 q' := funext fun j => if_neg (fun h9 => h h9.2)
theorem am_ul_o {q' : Key} {x : Int64} (h : q' ≠ q) : (am_ul M q k x).2.1 q' = M.2.1 q' := funext fun j => if_neg (fun h9 => h h9.2)
theorem am_ur_o {q' : Key} {x : Option Key} (h : q' ≠ q) : (am_ur M q k x).2.2 q' = M.2.2 q' := funext fun j => if_neg (fun h9 => h h9.2)
theorem am_fv_ui {b : Nat} {x : Int32} (h : am_ft (am_kd q.1) k = 0) (j : Nat) : am_fv b (am_ui M q k x) q j = if j = k then .int x else am_fv b M q j := by
  by_cases hj : j = k
  · subst hj
    rw [if_pos rfl]
    unfold am_fv
    rw [h]
    show Value.int (if j = j ∧ q = q then x else M.1 q j) = _
    rw [if_pos ⟨rfl, rfl⟩]
  · rw [if_neg hj]
    unfold am_fv
    have e : (am_ui M q k x).1 q j = M.1 q j := if_neg (fun h9 => hj h9.1)
    rw [e]
    rfl
theorem am_fv_ul {b : Nat} {x : Int64} (h : am_ft (am_kd q.1) k = 1) (j : Nat) : am_fv b (am_ul M q k x) q j = if j = k then .long x else am_fv b M q j := by
  by_cases hj : j = k
  · subst hj
    rw [if_pos rfl]
    unfold am_fv
    rw [h]
    show Value.long (if j = j ∧ q = q then x else M.2.1 q j) = _
    rw [if_pos ⟨rfl, rfl⟩]
  · rw [if_neg hj]
    unfold am_fv
    have e : (am_ul M q k x).2.1 q j = M.2.1 q j := if_neg (fun h9 => hj h9.1)
    rw [e]
    rfl
theorem am_fv_ur {b : Nat} {x : Option Key} (h : am_ft (am_kd q.1) k = 2) (j : Nat) : am_fv b (am_ur M q k x) q j = if j = k then am_rv b x else am_fv b M q j := by
  by_cases hj : j = k
  · subst hj
    rw [if_pos rfl]
    unfold am_fv
    rw [h]
    show am_rv b (if j = j ∧ q = q then x else M.2.2 q j) = _
    rw [if_pos ⟨rfl, rfl⟩]
  · rw [if_neg hj]
    unfold am_fv
    have e : (am_ur M q k x).2.2 q j = M.2.2 q j := if_neg (fun h9 => hj h9.1)
    rw [e]
    rfl
theorem r_puti {x : Int32} {idx ci : Nat} {ty : FieldType} {fin : Bool} (hw : FP md.1.cls idx ci k ty fin) (hi0 : fin = true → md.1.name = "<init>") (hd : decode md.2.1 pc = .ok (.putfield idx, 3)) (hq : q ∈ ks) (hk : am_kd q.1 = ci) (hl : k < am_ln q.1) (hft : am_ft ci k = 0) (hn : narrow ty (.int x) = .int x) (hfit : fits ty (.int x) = true)
    (kk : X l md d mc ms al T ks kc kn (pc + 3) L st (am_ui M q k x)) : X l md d mc ms al T ks kc kn pc L (vI x :: vR q :: st) M := fun p e s m args below meth c H locs b D cT A ls h0 h1 hl9 =>
  am_put h0 h1 hw hi0 hd hq hk hl hn hfit (fun q' h => am_ce_congr b cT (am_ui_o h) rfl rfl) (am_fv_ui (by rw [hk]; exact hft)) (fun H1 locs1 h2 => kk p e s m args below meth c H1 locs1 b D cT A ls h0 h2 hl9)
theorem r_putl {x : Int64} {idx ci : Nat} {fin : Bool} (hw : FP md.1.cls idx ci k .long fin) (hi0 : fin = true → md.1.name = "<init>") (hd : decode md.2.1 pc = .ok (.putfield idx, 3)) (hq : q ∈ ks) (hk : am_kd q.1 = ci) (hl : k < am_ln q.1) (hft : am_ft ci k = 1)
    (kk : X l md d mc ms al T ks kc kn (pc + 3) L st (am_ul M q k x)) : X l md d mc ms al T ks kc kn pc L (vJ x :: vR q :: st) M := fun p e s m args below meth c H locs b D cT A ls h0 h1 hl9 =>
  am_put (M' := am_ul M q k x) h0 h1 hw hi0 hd hq hk hl rfl rfl (fun q' h => am_ce_congr b cT rfl (am_ul_o h) rfl) (am_fv_ul (by rw [hk]; exact hft)) (fun H1 locs1 h2 => kk p e s m args below meth c H1 locs1 b D cT A ls h0 h2 hl9)
theorem r_putr {x : Option Key} {idx ci : Nat} {ty : FieldType} {fin : Bool} (hw : FP md.1.cls idx ci k ty fin) (hi0 : fin = true → md.1.name = "<init>") (hd : decode md.2.1 pc = .ok (.putfield idx, 3)) (hq : q ∈ ks) (hk : am_kd q.1 = ci) (hl : k < am_ln q.1) (hft : am_ft ci k = 2) (hty : ∀ v : Option Nat, narrow ty (va_rf v) = va_rf v ∧ fits ty (va_rf v) = true)
    (kk : X l md d mc ms al T ks kc kn (pc + 3) L st (am_ur M q k x)) : X l md d mc ms al T ks kc kn pc L (vO x :: vR q :: st) M := fun p e s m args below meth c H locs b D cT A ls h0 h1 hl9 =>
  am_put (M' := am_ur M q k x) h0 h1 hw hi0 hd hq hk hl (hty _).1 (hty _).2 (fun q' h => am_ce_congr b cT rfl rfl (am_ur_o h)) (am_fv_ur (by rw [hk]; exact hft)) (fun H1 locs1 h2 => kk p e s m args below meth c H1 locs1 b D cT A ls h0 h2 hl9)
/-! arrays -/
theorem r_iald {i : Int32} (hd : decode md.2.1 pc = .ok (.iaload, 1)) (hq : q ∈ ks) (hk : am_kd q.1 = 11) (hin : vp_in i (am_ln q.1)) (kk : X l md d mc ms al T ks kc kn (pc + 1) L (vI (M.1 q i.toNatClampNeg) :: st) M) : X l md d mc ms al T ks kc kn pc L (vI i :: vR q :: st) M := by
  intro p e s m args below meth c H locs b D cT A ls h0 h1 hl9
  obtain ⟨j, hj, hwj⟩ := am_w_at (b := b) (cT := cT) (M := M) hq
  rw [am_ce_i b cT M (Or.inl hk), hk] at hwj
  exact va_iald (D := D) (cl := vwCl) h0.1 h0.2.1 h1.2.2.1 h1.1 j 0 hwj rfl hin hd (kk p e s m args below meth c H locs b D cT A ls h0 h1 hl9)
theorem r_zald {i : Int32} (hd : decode md.2.1 pc = .ok (.baload, 1)) (hq : q ∈ ks) (hk : am_kd q.1 = 13) (hin : vp_in i (am_ln q.1)) (kk : X l md d mc ms al T ks kc kn (pc + 1) L (vI (M.1 q i.toNatClampNeg) :: st) M) : X l md d mc ms al T ks kc kn pc L (vI i :: vR q :: st) M := by
  intro p e s m args below meth c H locs b D cT A ls h0 h1 hl9
  obtain ⟨j, hj, hwj⟩ := am_w_at (b := b) (cT := cT) (M := M) hq
  rw [am_ce_i b cT M (Or.inr hk), hk] at hwj
  exact va_zald (D := D) (cl := vwCl) h0.1 h0.2.1 h1.2.2.1 h1.1 j 2 hwj rfl hin hd (kk p e s m args below meth c H locs b D cT A ls h0 h1 hl9)
theorem r_lald {i : Int32} (hd : decode md.2.1 pc = .ok (.laload, 1)) (hq : q ∈ ks) (hk : am_kd q.1 = 12) (hin : vp_in i (am_ln q.1)) (kk : X l md d mc ms al T ks kc kn (pc + 1) L (vJ (M.2.1 q i.toNatClampNeg) :: st) M) : X l md d mc ms al T ks kc kn pc L (vI i :: vR q :: st) M := by
  intro p e s m args below meth c H locs b D cT A ls h0 h1 hl9
  obtain ⟨j, hj, hwj⟩ := am_w_at (b := b) (cT := cT) (M := M) hq
  rw [am_ce_l b cT M hk] at hwj
  exact va_lald (D := D) (cl := vwCl) h0.1 h0.2.1 h1.2.2.1 h1.1 j 1 hwj rfl hin hd (kk p e s m args below meth c H locs b D cT A ls h0 h1 hl9)
theorem am_rf_map (b : Nat) (z : Option Key) : va_rf (z.map (fun q => b + am_ix q)) = am_cv b (vO z) := rfl
theorem r_aald {i : Int32} {z : Option Key} (hd : decode md.2.1 pc = .ok (.aaload, 1)) (hq : q ∈ ks) (hk : 14 ≤ am_kd q.1 ∧ am_kd q.1 < 18) (hin : vp_in i (am_ln q.1)) (hz : M.2.2 q i.toNatClampNeg = z) (kk : X l md d mc ms al T ks kc kn (pc + 1) L (vO z :: st) M) : X l md d mc ms al T ks kc kn pc L (vI i :: vR q :: st) M := by
  intro p e s m args below meth c H locs b D cT A ls h0 h1 hl9
  obtain ⟨j, hj, hwj⟩ := am_w_at (b := b) (cT := cT) (M := M) hq
  rw [am_ce_q b cT M hk.1] at hwj
  have hlt : i.toNatClampNeg < am_ln q.1 := Nat.not_le.mp fun q => hin (Or.inr q)
  subst hz
  have k2 := kk p e s m args below meth c H locs b D cT A ls h0 h1 hl9
  have go : ∀ (t0 : Nat) (ty : FieldType), ty.isReference = true → (am_tys cT)[t0]? = some (cT (am_kd q.1), ty) → W p l e (am_rm d mc ms) s m args below meth c H locs kc kn (MQ below (am_Q b D cT A al T.1 T.2.1 T.2.2) args s mc ms A) (F0 m pc ls (List.map (am_cv b) (vI i :: vR q :: st))) := fun t0 ty hre ht =>
    W.aald (v := va_rf ((M.2.2 q i.toNatClampNeg).map (fun q => b + am_ix q))) (ty := ty) h0.1 h0.2.1 (h1.1 j _ hwj) ((h1.2.2.1.2 t0 _ ht).1 (am_ln q.1) (fun j => va_rf ((M.2.2 q j).map (fun q => b + am_ix q)))) hre (fun q => by cases q) (by show ¬ (i < 0 ∨ (arrV _ _ _).slots.size ≤ _); rw [arrV_size]; exact hin) (by show (arrV _ _ _).slots[_]? = _; rw [arrV_read _ _ hlt]) rfl rfl hd k2
  have hcase : am_kd q.1 = 14 ∨ am_kd q.1 = 15 ∨ am_kd q.1 = 16 ∨ am_kd q.1 = 17 := by omega
  rcases hcase with h | h | h | h
  · exact go 3 (.object RX2) rfl (by rw [h]; rfl)
  · exact go 4 (.object RX3) rfl (by rw [h]; rfl)
  · exact go 5 (.object RX7) rfl (by rw [h]; rfl)
  · exact go 6 (.array .int) rfl (by rw [h]; rfl)
theorem am_row_upd {q' : Key} {x : Int32} : (am_ui M q k x).1 q = upd (M.1 q) k x := by
  funext j
  show (if j = k ∧ q = q then x else M.1 q j) = upd (M.1 q) k x j
  by_cases h : j = k
  · rw [if_pos ⟨h, rfl⟩, h]; simp [upd]
  · rw [if_neg (fun h9 => h h9.1)]; simp [upd, h]
theorem r_iast {i x : Int32} (hd : decode md.2.1 pc = .ok (.iastore, 1)) (hq : q ∈ ks) (hk : am_kd q.1 = 11) (hin : vp_in i (am_ln q.1)) (kk : X l md d mc ms al T ks kc kn (pc + 1) L st (am_ui M q i.toNatClampNeg x)) : X l md d mc ms al T ks kc kn pc L (vI x :: vI i :: vR q :: st) M := by
  intro p e s m args below meth c H locs b D cT A ls h0 h1 hl9
  obtain ⟨j, hj, hwj⟩ := am_w_at (b := b) (cT := cT) (M := M) hq
  rw [am_ce_i b cT M (Or.inl hk), hk] at hwj
  refine W.iast h0.1 h0.2.1 (h1.1 j _ hwj) ((h1.2.2.1.2 0 _ rfl).1 (am_ln q.1) (fun j => .int (M.1 q j))) (fun q => by cases q) (by show ¬ (i < 0 ∨ (arrV _ _ _).slots.size ≤ _); rw [arrV_size]; exact hin) rfl rfl hd fun H1 e1 e2 e3 => ?_
  have hnew : va_at D vwCl (b + am_ix q, am_ce b cT (am_ui M q i.toNatClampNeg x) q) H1 := by
    rw [am_ce_i b cT _ (Or.inl hk), hk]
    show H1[b + am_ix q]? = some (vp_cell _ _)
    rw [e1]
    rw [vp_cell_i, vp_cell_i, arrV_store]
    congr 2
    funext z
    show updV (fun j => Value.int (M.1 q j)) i.toNatClampNeg (.int x) z = Value.int (if z = i.toNatClampNeg ∧ q = q then x else M.1 q z)
    by_cases hz : z = i.toNatClampNeg
    · simp [updV, hz]
    · simp [updV, hz]
  obtain ⟨u1, u2⟩ := am_P_upd hq h1.1 h1.2.1 (fun q' h => am_ce_congr b cT (am_ui_o h) rfl rfl) hnew e3
  exact kk p e s m args below meth c H1 _ b D cT A ls h0 ⟨u1, u2, h1.2.2.1, h1.2.2.2.1.put e2 e3 (h1.2.1.2 j _ hwj), h1.2.2.2.2.1, fun ha => by rw [e2]; exact h1.2.2.2.2.2 ha⟩ hl9
theorem r_zast {i x : Int32} (hd : decode md.2.1 pc = .ok (.bastore, 1)) (hq : q ∈ ks) (hk : am_kd q.1 = 13) (hin : vp_in i (am_ln q.1)) (hx : narrow .boolean (.int x) = .int x) (kk : X l md d mc ms al T ks kc kn (pc + 1) L st (am_ui M q i.toNatClampNeg x)) : X l md d mc ms al T ks kc kn pc L (vI x :: vI i :: vR q :: st) M := by
  intro p e s m args below meth c H locs b D cT A ls h0 h1 hl9
  obtain ⟨j, hj, hwj⟩ := am_w_at (b := b) (cT := cT) (M := M) hq
  rw [am_ce_i b cT M (Or.inr hk), hk] at hwj
  refine W.zast h0.1 h0.2.1 (h1.1 j _ hwj) ((h1.2.2.1.2 2 _ rfl).1 (am_ln q.1) (fun j => .int (M.1 q j))) (fun q => by cases q) (by show ¬ (i < 0 ∨ (arrV _ _ _).slots.size ≤ _); rw [arrV_size]; exact hin) rfl rfl hd fun H1 e1 e2 e3 => ?_
  have hnew : va_at D vwCl (b + am_ix q, am_ce b cT (am_ui M q i.toNatClampNeg x) q) H1 := by
    rw [am_ce_i b cT _ (Or.inr hk), hk]
    show H1[b + am_ix q]? = some (vp_cell _ _)
    rw [e1, hx]
    rw [vp_cell_i, vp_cell_i, arrV_store]
    congr 2
    funext z
    show updV (fun j => Value.int (M.1 q j)) i.toNatClampNeg (.int x) z = Value.int (if z = i.toNatClampNeg ∧ q = q then x else M.1 q z)
    by_cases hz : z = i.toNatClampNeg
    · simp [updV, hz]
    · simp [updV, hz]
  obtain ⟨u1, u2⟩ := am_P_upd hq h1.1 h1.2.1 (fun q' h => am_ce_congr b cT (am_ui_o h) rfl rfl) hnew e3
  exact kk p e s m args below meth c H1 _ b D cT A ls h0 ⟨u1, u2, h1.2.2.1, h1.2.2.2.1.put e2 e3 (h1.2.1.2 j _ hwj), h1.2.2.2.2.1, fun ha => by rw [e2]; exact h1.2.2.2.2.2 ha⟩ hl9
theorem r_last {i : Int32} {x : Int64} (hd : decode md.2.1 pc = .ok (.lastore, 1)) (hq : q ∈ ks) (hk : am_kd q.1 = 12) (hin : vp_in i (am_ln q.1)) (kk : X l md d mc ms al T ks kc kn (pc + 1) L st (am_ul M q i.toNatClampNeg x)) : X l md d mc ms al T ks kc kn pc L (vJ x :: vI i :: vR q :: st) M := by
  intro p e s m args below meth c H locs b D cT A ls h0 h1 hl9
  obtain ⟨j, hj, hwj⟩ := am_w_at (b := b) (cT := cT) (M := M) hq
  rw [am_ce_l b cT M hk] at hwj
  refine W.last h0.1 h0.2.1 (h1.1 j _ hwj) ((h1.2.2.1.2 1 _ rfl).1 (am_ln q.1) (fun j => .long (M.2.1 q j))) (fun q => by cases q) (by show ¬ (i < 0 ∨ (arrV _ _ _).slots.size ≤ _); rw [arrV_size]; exact hin) rfl rfl hd fun H1 e1 e2 e3 => ?_
  have hnew : va_at D vwCl (b + am_ix q, am_ce b cT (am_ul M q i.toNatClampNeg x) q) H1 := by
    rw [am_ce_l b cT _ hk]
    show H1[b + am_ix q]? = some (vp_cell _ _)
    rw [e1]
    rw [vp_cell_l, vp_cell_l, arrV_store]
    congr 2
    funext z
    show updV (fun j => Value.long (M.2.1 q j)) i.toNatClampNeg (.long x) z = Value.long (if z = i.toNatClampNeg ∧ q = q then x else M.2.1 q z)
    by_cases hz : z = i.toNatClampNeg
    · simp [updV, hz]
    · simp [updV, hz]
  obtain ⟨u1, u2⟩ := am_P_upd (M' := am_ul M q i.toNatClampNeg x) hq h1.1 h1.2.1 (fun q' h => am_ce_congr b cT rfl (am_ul_o h) rfl) hnew e3
  exact kk p e s m args below meth c H1 _ b D cT A ls h0 ⟨u1, u2, h1.2.2.1, h1.2.2.2.1.put e2 e3 (h1.2.1.2 j _ hwj), h1.2.2.2.2.1, fun ha => by rw [e2]; exact h1.2.2.2.2.2 ha⟩ hl9
theorem r_alen {v : Int32} (hd : decode md.2.1 pc = .ok (.arraylength, 1)) (hq : q ∈ ks) (hk : am_kd q.1 = 11) (hv : Int32.ofNat (am_ln q.1) = v) (kk : X l md d mc ms al T ks kc kn (pc + 1) L (vI v :: st) M) : X l md d mc ms al T ks kc kn pc L (vR q :: st) M := by
  intro p e s m args below meth c H locs b D cT A ls h0 h1 hl9
  obtain ⟨j, hj, hwj⟩ := am_w_at (b := b) (cT := cT) (M := M) hq
  rw [am_ce_i b cT M (Or.inl hk), hk] at hwj
  exact va_alen (D := D) (cl := vwCl) h0.1 h0.2.1 h1.2.2.1 h1.1 j 0 hwj rfl hv hd (kk p e s m args below meth c H locs b D cT A ls h0 h1 hl9)
end MR
end
section
/-! RULES of the layer: calls -/
section CR
variable {l : Launch} {md md2 : MD} {d d2 mc ms mc2 ms2 : Nat} {al : Bool} {T T2 : Option AV × List Key × AM} {ks : List Key} {kc kn pc : Nat} {L L' : List (Option AV)} {st as : List AV} {M M' : AM} {q : Key} {k : Nat}
theorem am_call {p : Program} {e : Env} {R : Room} {s : State} {m : MethodId} {args : Array Value} {below : List Frame} {meth : Method} {c : Code} {H : Heap} {locs : List Loc} {Q : State → Prop} {ls : Array Slot} {rest st0 : List Value} {b : Nat} {D : va_G} {cT : Nat → ClassId} {A A1 : Nat → Prop} {a : Array Value} {r : Option AV} {ks2 : List Key}
    (h1 : am_X1 b D cT A al ks M s H locs) (hA : ∀ q, A1 q → A q) (hr : va_Run p l e R s m args below meth c H locs kc kn mc2 ms2 (F0 m pc ls st0) rest (am_Q b D cT A1 al r ks2 M' a) A1)
    (kk : ∀ (H1 : Heap) (locs1 : List Loc), am_X1 b D cT A al ks2 M' s H1 locs1 → W p l e R s m args below meth c H1 locs1 (kc + mc2) (kn + ms2) Q (F0 m (pc + 3) ls ((r.map (am_cv b)).toList ++ rest))) : W p l e R s m args below meth c H locs kc kn Q (F0 m pc ls st0) := by
  intro T hT X
  obtain ⟨v, st₀, t, T', L, g0, X', hL, e1, e2, ⟨⟨hv, hP2, hK2, hD2, hal2⟩, hz, hk⟩, st⟩ := hr T hT X
  cases hv
  rw [g0] at hz hk
  have hS := h1.2.2.2.1
  obtain ⟨t2, a1, b1⟩ := kk T'.heap (locs ++ L) ⟨by rw [e1]; exact hP2, hD2.weaken (fun _ q _ h => hA q.1 h), h1.2.2.1,
    ⟨Nat.le_trans hS.1 (by rw [e1]; exact hz), fun q g1 g2 => by rw [e1, hk q (Nat.lt_of_lt_of_le g1 hS.1) (fun z => g2 (hA q z))]; exact hS.2.1 q g1 g2, fun q hq => by
      rcases List.mem_append.mp hq with h | h
      · exact hS.2.2 q h
      · exact hA _ (hL q h)⟩, h1.2.2.2.2.1, fun ha => by rw [e1]; exact hal2 ha⟩ T' rfl X'
  exact ⟨t2, st t2 a1, b1⟩
def MW (own : String) (idx : Nat) (md2 : MD) (n : Nat) : Prop := Cond.methodLink own idx md2.1 ∈ Wd ∧ Cond.initialized md2.1.cls ∈ Wd ∧ Cond.code md2.1 md2.2.1 md2.2.2.1 md2.2.2.2 ∈ Wd ∧ (md2.1.cls ≠ "java/lang/invoke/MethodHandle" ∧ md2.1.cls ≠ "java/lang/invoke/VarHandle" ∧ (parseMethodDescriptor md2.1.desc).map (fun d => d.parameters.length) = some n) ∧ md2.2.2.1 ≤ 21
def MV (md2 : MD) : Prop := Cond.instanceMethod md2.1 ∈ Wd ∧ Cond.selects md2.1.cls md2.1 md2.1 ∈ Wd
theorem am_good {md2 : MD} (h : Cond.code md2.1 md2.2.1 md2.2.2.1 md2.2.2.2 ∈ Wd) : GoodIn Wd (Cond.code md2.1 md2.2.1 md2.2.2.1 md2.2.2.2 :: Wd) := by
  intro w hw
  rcases List.mem_cons.mp hw with rfl | hw
  · exact ⟨h, Wd_good h⟩
  · exact ⟨hw, Wd_good hw⟩
theorem am_blind {as : List Value} {b : Nat} {D : va_G} {cT : Nat → ClassId} {sz : Nat} : FrameBlind (va_Pc as (fun U => U.heap.size = sz ∧ va_P D vwCl (am_w b cT ks M) U.heap ∧ va_K D vwCl (am_tys cT) U ∧ va_D (fun _ => True) (am_w b cT ks M) ∧ (al = true → U.heap.size = b + ks.length))) := by
  intro a U g mk q
  obtain ⟨q0, q1, qP, qK, qD, qal⟩ := q
  exact ⟨q0, q1, qP, va_K.moved (u := U) (U := U.calling g mk a) (Vm.Alike.refl U.vm) qK, qD, qal⟩
theorem am_pre {s : State} {H : Heap} {locs : List Loc} {A : Nat → Prop} {b : Nat} {D : va_G} {cT : Nat → ClassId} (h1 : am_X1 b D cT A al ks M s H locs) (as : List Value) : ∀ U : State, U.heap = H → s.WarmedH U.vm → va_Pc as (fun U => U.heap.size = H.size ∧ va_P D vwCl (am_w b cT ks M) U.heap ∧ va_K D vwCl (am_tys cT) U ∧ va_D (fun _ => True) (am_w b cT ks M) ∧ (al = true → U.heap.size = b + ks.length)) as.toArray U :=
  fun U hU hW => ⟨rfl, by rw [hU], by rw [hU]; exact h1.1, va_K.moved hW.alike h1.2.2.1, h1.2.1.weaken (fun _ _ _ _ => trivial), fun ha => by rw [hU]; exact h1.2.2.2.2.2 ha⟩
theorem am_freeA {s : State} {H : Heap} {locs : List Loc} {A : Nat → Prop} {b : Nat} {D : va_G} {cT : Nat → ClassId} (h1 : am_X1 b D cT A al ks M s H locs) : ∀ q, va_A (am_w b cT ks M) H.size q → A q := by
  intro q h
  rcases h with ⟨k, e, h⟩ | h
  · exact h1.2.1.2 k (q, e) h
  · exact h1.2.2.2.2.1 q (Nat.le_trans h1.2.2.2.1.1 h)
theorem am_mapA (b : Nat) (as : List AV) (st : List AV) (a : AV) : (as.reverse ++ a :: st).map (am_cv b) = (as.map (am_cv b)).reverse ++ am_cv b a :: st.map (am_cv b) := by simp
theorem am_mapS (b : Nat) (as : List AV) (st : List AV) : (as.reverse ++ st).map (am_cv b) = (as.map (am_cv b)).reverse ++ st.map (am_cv b) := by simp
theorem am_mapR (b : Nat) (r : Option AV) (st : List AV) : (r.map (am_cv b)).toList ++ st.map (am_cv b) = (r.toList ++ st).map (am_cv b) := by cases r <;> simp
set_option maxHeartbeats 1000000 in
theorem r_callV {idx n ci : Nat} {F : u_T} {N : Nat} (hw : MW md.1.cls idx md2 n) (hv : MV md2) (hE : Ev l md2 d2 mc2 ms2 al (vR q :: as) ks M T2) (hdd : d2 + 1 ≤ d) (hd : decode md.2.1 pc = .ok (.invokevirtual idx, 3)) (hq : q ∈ ks) (hk : am_kd q.1 = ci) (hc : vwCl[ci]? = some (md2.1.cls, F, N)) (hn : as.length = n) (hst : (st.map am_cat).sum ≤ 8) (hcm : kc + mc2 ≤ mc) (hsm : kn + ms2 ≤ ms)
    (kk : X l md d mc ms al T T2.2.1 (kc + mc2) (kn + ms2) (pc + 3) L (T2.1.toList ++ st) T2.2.2) : X l md d mc ms al T ks kc kn pc L (as.reverse ++ vR q :: st) M := by
  intro p e s m args below meth c H locs b D cT A ls h0 h1 hl9
  obtain ⟨w1, w2, w3, w4, w5⟩ := hw
  obtain ⟨i, hi, hwi⟩ := am_w_at (b := b) (cT := cT) (M := M) hq
  rw [am_ce_obj b cT M (by rw [hk]; exact am_ci hc), hk] at hwi
  rw [am_mapA]
  refine am_call (A1 := va_A (am_w b cT ks M) H.size) h1 (am_freeA h1) (va_runV (Ts := Wd) (own := md.1.cls) (C := md2.1.cls) (As := as.map (am_cv b)) ⟨h0.1, h0.2.1, h0.2.2.2.2.2.2.1, h0.2.2.2.2.1, h0.2.2.2.1⟩ (hE b D cT H.size)
    (cwV n h0.2.2.2.1 (fun w hw => ?_) rfl rfl rfl ⟨rfl, w4.1, w4.2.1, w4.2.2⟩ ⟨?_, ?_⟩) ⟨am_blind, va_recv h1.2.2.1 h1.1 hc hwi, fun U hU hW => am_pre h1 _ U hU hW⟩ rfl (by rw [List.length_map]; exact hn) hl9.1 rfl (lv_room (by rw [am_cat_sum]; exact hst)) hd ⟨hcm, hsm⟩) (fun H1 locs1 h2 => ?_)
  · have hm : w ∈ Wd := by
      unfold wsV at hw
      rcases List.mem_append.mp hw with h | h
      · simp only [List.mem_cons, List.not_mem_nil, or_false] at h
        rcases h with rfl | rfl | rfl | rfl
        · exact w1
        · exact hv.1
        · exact hv.2
        · exact w2
      · exact (am_good w3 w h).1
    exact ⟨hm, Wd_good hm⟩
  · show d2 + 1 ≤ d
    exact hdd
  · show 8 + (md2.2.2.1 + 11) + 40 * d2 ≤ 40 * d
    omega
  · rw [am_mapR]
    exact kk p e s m args below meth c H1 locs1 b D cT A ls h0 h2 hl9
set_option maxHeartbeats 1000000 in
theorem r_callI {idx n : Nat} (hw : MW md.1.cls idx md2 n) (hv : Cond.instanceMethod md2.1 ∈ Wd) (hy : md2.1.name = "<init>") (hvoid : md2.2.2.2 = none) (hE : Ev l md2 d2 mc2 ms2 al (vR q :: as) ks M T2) (hdd : d2 + 1 ≤ d) (hd : decode md.2.1 pc = .ok (.invokespecial idx, 3)) (hn : as.length = n) (hst : (st.map am_cat).sum ≤ 8) (hcm : kc + mc2 ≤ mc) (hsm : kn + ms2 ≤ ms)
    (kk : X l md d mc ms al T T2.2.1 (kc + mc2) (kn + ms2) (pc + 3) L (T2.1.toList ++ st) T2.2.2) : X l md d mc ms al T ks kc kn pc L (as.reverse ++ vR q :: st) M := by
  intro p e s m args below meth c H locs b D cT A ls h0 h1 hl9
  obtain ⟨w1, w2, w3, w4, w5⟩ := hw
  have hE2 := hE b D cT H.size
  rw [hvoid] at hE2 w3
  rw [am_mapA]
  have hG : GoodIn Wd (Cond.code md2.1 md2.2.1 md2.2.2.1 none :: Wd) := fun w hw => by
    rcases List.mem_cons.mp hw with rfl | hw
    · exact ⟨w3, Wd_good w3⟩
    · exact ⟨hw, Wd_good hw⟩
  refine am_call (A1 := va_A (am_w b cT ks M) H.size) h1 (am_freeA h1) (va_runI (Ts := Wd) (own := md.1.cls) (As := as.map (am_cv b)) ⟨h0.1, h0.2.1, h0.2.2.2.2.2.2.1, h0.2.2.2.2.1, h0.2.2.2.1⟩ hE2
    (cwI n h0.2.2.2.1 hG rfl rfl rfl (h0.2.2.2.1 _ w2) (h0.2.2.2.1 _ w1) (h0.2.2.2.1 _ hv) hy w4 ⟨?_, ?_⟩) ⟨am_blind, fun U hU hW => am_pre h1 _ U hU hW⟩ rfl (by rw [List.length_map]; exact hn) hl9.1 rfl (lv_room (by rw [am_cat_sum]; exact hst)) hd ⟨hcm, hsm⟩) (fun H1 locs1 h2 => ?_)
  · show d2 + 1 ≤ d
    exact hdd
  · show 8 + (md2.2.2.1 + 11) + 40 * d2 ≤ 40 * d
    omega
  · rw [am_mapR]
    exact kk p e s m args below meth c H1 locs1 b D cT A ls h0 h2 hl9
set_option maxHeartbeats 1000000 in
theorem r_callS {idx n : Nat} (hw : MW md.1.cls idx md2 n) (hv : Cond.static md2.1 ∈ Wd) (hE : Ev l md2 d2 mc2 ms2 al as ks M T2) (hdd : d2 + 1 ≤ d) (hd : decode md.2.1 pc = .ok (.invokestatic idx, 3)) (hn : as.length = n) (hst : (st.map am_cat).sum ≤ 8) (hcm : kc + mc2 ≤ mc) (hsm : kn + ms2 ≤ ms)
    (kk : X l md d mc ms al T T2.2.1 (kc + mc2) (kn + ms2) (pc + 3) L (T2.1.toList ++ st) T2.2.2) : X l md d mc ms al T ks kc kn pc L (as.reverse ++ st) M := by
  intro p e s m args below meth c H locs b D cT A ls h0 h1 hl9
  obtain ⟨w1, w2, w3, w4, w5⟩ := hw
  rw [am_mapS]
  refine am_call (A1 := va_A (am_w b cT ks M) H.size) h1 (am_freeA h1) (va_runS (Ts := Wd) (own := md.1.cls) (As := as.map (am_cv b)) ⟨h0.1, h0.2.1, h0.2.2.2.2.2.2.1, h0.2.2.2.2.1, h0.2.2.2.1⟩ (hE b D cT H.size)
    ⟨callB_of n h0.2.2.2.1 (am_good w3) rfl rfl rfl (h0.2.2.2.1 _ w2) (h0.2.2.2.1 _ w1) w4 ⟨?_, ?_⟩, h0.2.2.2.1 _ hv⟩ ⟨am_blind, fun U hU hW => am_pre h1 _ U hU hW⟩ rfl (by rw [List.length_map]; exact hn) hl9.1 rfl (lv_room (by rw [am_cat_sum]; exact hst)) hd ⟨hcm, hsm⟩) (fun H1 locs1 h2 => ?_)
  · show d2 + 1 ≤ d
    exact hdd
  · show 8 + (md2.2.2.1 + 11) + 40 * d2 ≤ 40 * d
    omega
  · rw [am_mapR]
    exact kk p e s m args below meth c H1 locs1 b D cT A ls h0 h2 hl9
theorem r_objInit {idx : Nat} (w1 : Cond.methodLink md.1.cls idx Lib.objectInit ∈ Wd) (w2 : Cond.instanceMethod Lib.objectInit ∈ Wd) (w3 : Cond.code Lib.objectInit ⟨#[0xb1]⟩ 1 none ∈ Wd) (hd : decode md.2.1 pc = .ok (.invokespecial idx, 3)) (hdd : 1 ≤ d) (hst : (st.map am_cat).sum ≤ 8)
    (kk : X l md d mc ms al T ks kc kn (pc + 3) L st M) : X l md d mc ms al T ks kc kn pc L (vR q :: st) M := by
  intro p e s m args below meth c H locs b D cT A ls h0 h1 hl9
  refine W.objInit h0.1 h0.2.1 h0.2.2.2.2.1 (h0.2.2.2.1 _ w1) (h0.2.2.2.1 _ w2) (h0.2.2.2.1 _ w3) rfl (by rw [h0.2.2.2.2.2.2.1]; exact hl9.1) rfl hd hdd ?_ (kk p e s m args below meth c H locs b D cT A ls h0 h1 hl9)
  have := am_cat_sum b st
  show 2 * 0 + ((st.map (am_cv b)).map fun v => v.category).sum + 12 ≤ 40 * d
  rw [this]
  omega
theorem r_mmin {x y : Int32} {idx : Nat} (w1 : Cond.methodLink md.1.cls idx Lib.Math.min.name ∈ Wd) (w2 : Cond.static Lib.Math.min.name ∈ Wd) (w3 : Cond.initialized "java/lang/Math" ∈ Wd) (w4 : Cond.code Lib.Math.min.name Lib.Math.min.code 2 (some .int) ∈ Wd) (hd : decode md.2.1 pc = .ok (.invokestatic idx, 3)) (hdd : 1 ≤ d) (hst : (st.map am_cat).sum ≤ 8) (hcm : kc ≤ mc) (hsm : kn ≤ ms)
    (kk : X l md d mc ms al T ks kc kn (pc + 3) L (vI (if y < x then y else x) :: st) M) : X l md d mc ms al T ks kc kn pc L (vI y :: vI x :: st) M := by
  intro p e s m args below meth c H locs b D cT A ls h0 h1 hl9
  refine va_mmin h0.1 h0.2.1 (by rw [h0.2.2.2.2.2.2.1]; exact hl9.1.symm) h0.2.2.2.2.1 (h0.2.2.2.1 _ w1) (h0.2.2.2.1 _ w2) (h0.2.2.2.1 _ w3) (h0.2.2.2.1 _ w4) hdd ?_ hcm hsm hd (kk p e s m args below meth c H locs b D cT A ls h0 h1 hl9)
  show ((st.map (am_cv b)).map fun v => v.category).sum + 13 ≤ 40 * d
  rw [am_cat_sum]
  omega
theorem r_mmax {x y : Int32} {idx : Nat} (w1 : Cond.methodLink md.1.cls idx Lib.Math.max.name ∈ Wd) (w2 : Cond.static Lib.Math.max.name ∈ Wd) (w3 : Cond.initialized "java/lang/Math" ∈ Wd) (w4 : Cond.code Lib.Math.max.name Lib.Math.max.code 2 (some .int) ∈ Wd) (hd : decode md.2.1 pc = .ok (.invokestatic idx, 3)) (hdd : 1 ≤ d) (hst : (st.map am_cat).sum ≤ 8) (hcm : kc ≤ mc) (hsm : kn ≤ ms)
    (kk : X l md d mc ms al T ks kc kn (pc + 3) L (vI (if x < y then y else x) :: st) M) : X l md d mc ms al T ks kc kn pc L (vI y :: vI x :: st) M := by
  intro p e s m args below meth c H locs b D cT A ls h0 h1 hl9
  refine va_mmax h0.1 h0.2.1 (by rw [h0.2.2.2.2.2.2.1]; exact hl9.1.symm) h0.2.2.2.2.1 (h0.2.2.2.1 _ w1) (h0.2.2.2.1 _ w2) (h0.2.2.2.1 _ w3) (h0.2.2.2.1 _ w4) hdd ?_ hcm hsm hd (kk p e s m args below meth c H locs b D cT A ls h0 h1 hl9)
  show ((st.map (am_cv b)).map fun v => v.category).sum + 13 ≤ 40 * d
  rw [am_cat_sum]
  omega
def am_cpi (M : AM) (q : Key) (f : Nat → Int32) : AM := (fun q' k => if q' = q then f k else M.1 q' k, M.2)
def am_cpl (M : AM) (q : Key) (f : Nat → Int64) : AM := (M.1, fun q' k => if q' = q then f k else M.2.1 q' k, M.2.2)
def CP (own : String) (idx : Nat) : Prop := Cond.methodLink own idx arraycopyName ∈ Wd ∧ Cond.native arraycopyName ∈ Wd ∧ Cond.static arraycopyName ∈ Wd ∧ Cond.initialized "java/lang/System" ∈ Wd
theorem am_set_P {b : Nat} {cT : Nat → ClassId} {D : va_G} {A : Nat → Prop} {H1 : Heap} {j : Nat} {e : va_E} (hj : ks[j]? = some q) (hD : va_D A (am_w b cT ks M)) (he : e = am_ce b cT M' q) (hsame : ∀ q', q' ≠ q → am_ce b cT M' q' = am_ce b cT M q')
    (hP : va_P D vwCl ((am_w b cT ks M).set j (b + am_ix q, e)) H1) : va_P D vwCl (am_w b cT ks M') H1 ∧ va_D A (am_w b cT ks M') := by
  have hwj : (am_w b cT ks M)[j]? = some (b + am_ix q, am_ce b cT M q) := by unfold am_w; rw [List.getElem?_map, hj]; rfl
  have hlj := (List.getElem?_eq_some_iff.mp hwj).1
  refine ⟨fun i x hx => ?_, fun i1 i2 x y hx hy hxy => ?_, fun i x hx => ?_⟩
  · obtain ⟨z, hz, rfl⟩ := am_w_of hx
    have hwi : (am_w b cT ks M)[i]? = some (b + am_ix z, am_ce b cT M z) := by unfold am_w; rw [List.getElem?_map, hz]; rfl
    by_cases ez : z = q
    · subst ez
      have hij := hD.1 i j _ _ hwi hwj rfl
      subst hij
      refine hP i _ ?_
      rw [List.getElem?_set_self hlj, he]
    · rw [hsame z ez]
      refine hP i _ ?_
      rw [List.getElem?_set_ne (fun h9 => ez ?_)]
      · exact hwi
      · subst h9
        exact (Option.some.inj (hj.symm.trans hz)).symm
  · obtain ⟨z, hz, rfl⟩ := am_w_of hx
    obtain ⟨z2, hz2, rfl⟩ := am_w_of hy
    exact hD.1 i1 i2 (b + am_ix z, am_ce b cT M z) (b + am_ix z2, am_ce b cT M z2) (by unfold am_w; rw [List.getElem?_map, hz]; rfl) (by unfold am_w; rw [List.getElem?_map, hz2]; rfl) hxy
  · obtain ⟨z, hz, rfl⟩ := am_w_of hx
    exact hD.2 i (b + am_ix z, am_ce b cT M z) (by unfold am_w; rw [List.getElem?_map, hz]; rfl)
set_option maxHeartbeats 1000000 in
theorem r_copyi {q0 q1 : Key} {idx : Nat} {sp dp n : Int32} (hw : CP md.1.cls idx) (hd : decode md.2.1 pc = .ok (.invokestatic idx, 3)) (hq0 : q0 ∈ ks) (hq1 : q1 ∈ ks) (hk0 : am_kd q0.1 = 11) (hk1 : am_kd q1.1 = 11) (g1 : ¬ sp < 0) (g2 : ¬ dp < 0) (g3 : ¬ n < 0) (g4 : sp.toNatClampNeg + n.toNatClampNeg ≤ am_ln q0.1) (g5 : dp.toNatClampNeg + n.toNatClampNeg ≤ am_ln q1.1) (hdd : 1 ≤ d) (hst : (st.map am_cat).sum ≤ 8)
    (kk : X l md d mc ms false T ks kc kn (pc + 3) L st (am_cpi M q1 (va_cpy (M.1 q0) (M.1 q1) sp.toNatClampNeg dp.toNatClampNeg n.toNatClampNeg))) : X l md d mc ms false T ks kc kn pc L (vI n :: vI dp :: vR q1 :: vI sp :: vR q0 :: st) M := by
  intro p e s m args below meth c H locs b D cT A ls h0 h1 hl9
  obtain ⟨i, hi, hwi⟩ := am_w_at (b := b) (cT := cT) (M := M) hq0
  obtain ⟨j, hj, hwj⟩ := am_w_at (b := b) (cT := cT) (M := M) hq1
  rw [am_ce_i b cT M (Or.inl hk0), hk0] at hwi
  rw [am_ce_i b cT M (Or.inl hk1), hk1] at hwj
  refine va_copyi (D := D) (cl := vwCl) (A := A) (ty := .int) h0.1 h0.2.1 (by rw [h0.2.2.2.2.2.2.1]; exact hl9.1.symm) h0.2.2.2.2.1 (h0.2.2.2.1 _ hw.1) (h0.2.2.2.1 _ hw.2.1) (h0.2.2.2.1 _ hw.2.2.1) (h0.2.2.2.1 _ hw.2.2.2) h1.2.2.1 h1.1 h1.2.1 h1.2.2.2.1 i j 0 0 hwi hwj rfl rfl rfl g1 g2 g3 g4 g5 (fun _ _ => rfl) hdd ?_ hd (fun H1 locs1 hP1 hD1 hS1 => ?_)
  · show ((st.map (am_cv b)).map fun v => v.category).sum + _ ≤ 40 * d
    rw [am_cat_sum]
    have : nativeFrameWords "java/lang/System" "arraycopy" 5 + 11 ≤ 32 := by decide
    omega
  · obtain ⟨u1, u2⟩ := am_set_P (M' := am_cpi M q1 (va_cpy (M.1 q0) (M.1 q1) sp.toNatClampNeg dp.toNatClampNeg n.toNatClampNeg)) hj h1.2.1 (by
      rw [am_ce_i b cT _ (Or.inl hk1), hk1]
      congr 4
      funext z
      exact (if_pos rfl).symm) (fun q' h => am_ce_congr b cT (by funext z; exact if_neg h) rfl rfl) hP1
    exact kk p e s m args below meth c H1 locs1 b D cT A ls h0 ⟨u1, u2, h1.2.2.1, hS1, h1.2.2.2.2.1, fun ha => by cases ha⟩ hl9
set_option maxHeartbeats 1000000 in
theorem r_copyl {q0 q1 : Key} {idx : Nat} {sp dp n : Int32} (hw : CP md.1.cls idx) (hd : decode md.2.1 pc = .ok (.invokestatic idx, 3)) (hq0 : q0 ∈ ks) (hq1 : q1 ∈ ks) (hk0 : am_kd q0.1 = 12) (hk1 : am_kd q1.1 = 12) (g1 : ¬ sp < 0) (g2 : ¬ dp < 0) (g3 : ¬ n < 0) (g4 : sp.toNatClampNeg + n.toNatClampNeg ≤ am_ln q0.1) (g5 : dp.toNatClampNeg + n.toNatClampNeg ≤ am_ln q1.1) (hdd : 1 ≤ d) (hst : (st.map am_cat).sum ≤ 8)
    (kk : X l md d mc ms false T ks kc kn (pc + 3) L st (am_cpl M q1 (va_cpy (M.2.1 q0) (M.2.1 q1) sp.toNatClampNeg dp.toNatClampNeg n.toNatClampNeg))) : X l md d mc ms false T ks kc kn pc L (vI n :: vI dp :: vR q1 :: vI sp :: vR q0 :: st) M := by
  intro p e s m args below meth c H locs b D cT A ls h0 h1 hl9
  obtain ⟨i, hi, hwi⟩ := am_w_at (b := b) (cT := cT) (M := M) hq0
  obtain ⟨j, hj, hwj⟩ := am_w_at (b := b) (cT := cT) (M := M) hq1
  rw [am_ce_l b cT M hk0] at hwi
  rw [am_ce_l b cT M hk1] at hwj
  refine va_copyl (D := D) (cl := vwCl) (A := A) (ty := .long) h0.1 h0.2.1 (by rw [h0.2.2.2.2.2.2.1]; exact hl9.1.symm) h0.2.2.2.2.1 (h0.2.2.2.1 _ hw.1) (h0.2.2.2.1 _ hw.2.1) (h0.2.2.2.1 _ hw.2.2.1) (h0.2.2.2.1 _ hw.2.2.2) h1.2.2.1 h1.1 h1.2.1 h1.2.2.2.1 i j 1 1 hwi hwj rfl rfl rfl g1 g2 g3 g4 g5 (fun _ _ => rfl) hdd ?_ hd (fun H1 locs1 hP1 hD1 hS1 => ?_)
  · show ((st.map (am_cv b)).map fun v => v.category).sum + _ ≤ 40 * d
    rw [am_cat_sum]
    have : nativeFrameWords "java/lang/System" "arraycopy" 5 + 11 ≤ 32 := by decide
    omega
  · obtain ⟨u1, u2⟩ := am_set_P (M' := am_cpl M q1 (va_cpy (M.2.1 q0) (M.2.1 q1) sp.toNatClampNeg dp.toNatClampNeg n.toNatClampNeg)) hj h1.2.1 (by
      rw [am_ce_l b cT _ hk1]
      congr 5
      funext z
      exact (if_pos rfl).symm) (fun q' h => am_ce_congr b cT rfl (by funext z; exact if_neg h) rfl) hP1
    exact kk p e s m args below meth c H1 locs1 b D cT A ls h0 ⟨u1, u2, h1.2.2.1, hS1, h1.2.2.2.2.1, fun ha => by cases ha⟩ hl9
end CR
end
section
/-! RULES of the layer: null, switches, loops; the memory that calls leave in its shape -/
section QR
variable {l : Launch} {md md2 : MD} {d d2 mc ms mc2 ms2 : Nat} {al : Bool} {T T2 : Option AV × List Key × AM} {ks : List Key} {kc kn pc : Nat} {L L' : List (Option AV)} {st as : List AV} {M M' : AM} {q : Key} {k : Nat}
theorem r_anull (hd : decode md.2.1 pc = .ok (.aconst_null, 1)) (k : X l md d mc ms al T ks kc kn (pc + 1) L (vN :: st) M) : X l md d mc ms al T ks kc kn pc L st M := fun p e s m args below meth c H locs b D cT A ls h0 h1 hl => lv_null h0.1 h0.2.1 hd (k p e s m args below meth c H locs b D cT A ls h0 h1 hl)
theorem r_aload_nN {i : Fin 4} (hd : decode md.2.1 pc = .ok (.aload_n i, 1)) (hi : L[(i : Nat)]? = some (some vN)) (k : X l md d mc ms al T ks kc kn (pc + 1) L (vN :: st) M) : X l md d mc ms al T ks kc kn pc L st M := fun p e s m args below meth c H locs b D cT A ls h0 h1 hl => lv_aload_nN h0.1 h0.2.1 hd rfl (am_lv_at hl hi) (k p e s m args below meth c H locs b D cT A ls h0 h1 hl)
theorem r_aloadN {i : Nat} (hd : decode md.2.1 pc = .ok (.aload i, 2)) (hi : L[i]? = some (some vN)) (k : X l md d mc ms al T ks kc kn (pc + 2) L (vN :: st) M) : X l md d mc ms al T ks kc kn pc L st M := fun p e s m args below meth c H locs b D cT A ls h0 h1 hl => lv_aloadN h0.1 h0.2.1 hd (am_lv_at hl hi) (k p e s m args below meth c H locs b D cT A ls h0 h1 hl)
theorem r_astore_nN {i : Fin 4} (hd : decode md.2.1 pc = .ok (.astore_n i, 1)) (hn : (i : Nat) < md.2.2.1) (hs : am_st1 L (i : Nat) vN = some L') (k : X l md d mc ms al T ks kc kn (pc + 1) L' st M) : X l md d mc ms al T ks kc kn pc L (vN :: st) M := fun p e s m args below meth c H locs b D cT A ls h0 h1 hl => lv_astore_nN h0.1 h0.2.1 hd rfl hl hn rfl (fun ls' hl' => k p e s m args below meth c H locs b D cT A ls' h0 h1 (am_lv_st1 hs rfl hl'))
theorem r_astoreN {i : Nat} (hd : decode md.2.1 pc = .ok (.astore i, 2)) (hn : i < md.2.2.1) (hs : am_st1 L i vN = some L') (k : X l md d mc ms al T ks kc kn (pc + 2) L' st M) : X l md d mc ms al T ks kc kn pc L (vN :: st) M := fun p e s m args below meth c H locs b D cT A ls h0 h1 hl => lv_astoreN h0.1 h0.2.1 hd hl hn rfl (fun ls' hl' => k p e s m args below meth c H locs b D cT A ls' h0 h1 (am_lv_st1 hs rfl hl'))
theorem r_ifnullR {off : Int} (hd : decode md.2.1 pc = .ok (.ifnull off, 3)) (k : X l md d mc ms al T ks kc kn (pc + 3) L st M) : X l md d mc ms al T ks kc kn pc L (vR q :: st) M := fun p e s m args below meth c H locs b D cT A ls h0 h1 hl => lv_ifnull h0.1 h0.2.1 hd (k p e s m args below meth c H locs b D cT A ls h0 h1 hl)
theorem r_ifnullN {off : Int} {tgt : Nat} (hd : decode md.2.1 pc = .ok (.ifnull off, 3)) (ht : (pc : Int) + off = (tgt : Int)) (k : X l md d mc ms al T ks kc kn tgt L st M) : X l md d mc ms al T ks kc kn pc L (vN :: st) M := fun p e s m args below meth c H locs b D cT A ls h0 h1 hl => lv_ifnullN h0.1 h0.2.1 hd ht (k p e s m args below meth c H locs b D cT A ls h0 h1 hl)
theorem r_ifnonnullR {off : Int} {tgt : Nat} (hd : decode md.2.1 pc = .ok (.ifnonnull off, 3)) (ht : (pc : Int) + off = (tgt : Int)) (k : X l md d mc ms al T ks kc kn tgt L st M) : X l md d mc ms al T ks kc kn pc L (vR q :: st) M := fun p e s m args below meth c H locs b D cT A ls h0 h1 hl => lv_ifnonnull h0.1 h0.2.1 hd ht (k p e s m args below meth c H locs b D cT A ls h0 h1 hl)
theorem r_ifnonnullN {off : Int} (hd : decode md.2.1 pc = .ok (.ifnonnull off, 3)) (k : X l md d mc ms al T ks kc kn (pc + 3) L st M) : X l md d mc ms al T ks kc kn pc L (vN :: st) M := fun p e s m args below meth c H locs b D cT A ls h0 h1 hl => lv_ifnonnullN h0.1 h0.2.1 hd (k p e s m args below meth c H locs b D cT A ls h0 h1 hl)
theorem r_tswIn {dflt lo hi : Int} {offs : Array Int} {len : Nat} {x kx : Int32} {off : Int} {tgt : Nat} (hd : decode md.2.1 pc = .ok (.tableswitch dflt lo hi offs, len)) (hx : x = kx) (h1 : ¬ kx.toInt < lo) (h2 : ¬ hi < kx.toInt) (ho : offs[(kx.toInt - lo).toNat]? = some off) (ht : (pc : Int) + off = (tgt : Int)) (k : X l md d mc ms al T ks kc kn tgt L st M) : X l md d mc ms al T ks kc kn pc L (vI x :: st) M := by
  subst hx
  exact fun p e s m args below meth c H locs b D cT A ls h0 hh1 hl => lv_tableIn h0.1 h0.2.1 hd h1 h2 ho ht (k p e s m args below meth c H locs b D cT A ls h0 hh1 hl)
theorem r_tswOut {dflt lo hi : Int} {offs : Array Int} {len : Nat} {x : Int32} {tgt : Nat} (hd : decode md.2.1 pc = .ok (.tableswitch dflt lo hi offs, len)) (h : x.toInt < lo ∨ hi < x.toInt) (ht : (pc : Int) + dflt = (tgt : Int)) (k : X l md d mc ms al T ks kc kn tgt L st M) : X l md d mc ms al T ks kc kn pc L (vI x :: st) M :=
  fun p e s m args below meth c H locs b D cT A ls h0 hh1 hl => lv_tableOut h0.1 h0.2.1 hd h ht (k p e s m args below meth c H locs b D cT A ls h0 hh1 hl)
theorem am_neI {x k : Int32} {z : Int} (h : ¬ x = k) (hk : k.toInt = z) : x.toInt ≠ z := fun e => h (Int32.toInt_inj.mp (e.trans hk.symm))
theorem r_iald' {i : Int32} {n : Nat} (hd : decode md.2.1 pc = .ok (.iaload, 1)) (hq : q ∈ ks) (hk : am_kd q.1 = 11) (hin : vp_in i (am_ln q.1)) (hi : i.toNatClampNeg = n) (kk : X l md d mc ms al T ks kc kn (pc + 1) L (vI (M.1 q n) :: st) M) : X l md d mc ms al T ks kc kn pc L (vI i :: vR q :: st) M := by subst hi; exact r_iald hd hq hk hin kk
theorem r_zald' {i : Int32} {n : Nat} (hd : decode md.2.1 pc = .ok (.baload, 1)) (hq : q ∈ ks) (hk : am_kd q.1 = 13) (hin : vp_in i (am_ln q.1)) (hi : i.toNatClampNeg = n) (kk : X l md d mc ms al T ks kc kn (pc + 1) L (vI (M.1 q n) :: st) M) : X l md d mc ms al T ks kc kn pc L (vI i :: vR q :: st) M := by subst hi; exact r_zald hd hq hk hin kk
theorem r_lald' {i : Int32} {n : Nat} (hd : decode md.2.1 pc = .ok (.laload, 1)) (hq : q ∈ ks) (hk : am_kd q.1 = 12) (hin : vp_in i (am_ln q.1)) (hi : i.toNatClampNeg = n) (kk : X l md d mc ms al T ks kc kn (pc + 1) L (vJ (M.2.1 q n) :: st) M) : X l md d mc ms al T ks kc kn pc L (vI i :: vR q :: st) M := by subst hi; exact r_lald hd hq hk hin kk
end QR
/-- a memory whose rows stay where they were made: ints, longs, which land (number) the reader has (0), which one holds in village v (v + 1) -/
abbrev PM : Type := (Key → Nat → Int32) × (Key → Nat → Int64) × (Nat → Option Nat)
def lay0 (r : Nat → Option Nat) (v : Nat) (k : Nat) : Option Key := match k with
  | 0 => some (1, 0, 0)
  | 1 => some (1, 1, 0)
  | 2 => some (1, 2, 0)
  | 4 => some (9, 0, 0)
  | 5 => some (19, 0, 0)
  | 7 => some (20, 0, 0)
  | 8 => some (25, 0, 0)
  | 9 => some (28, 0, 0)
  | 10 => some (29, 0, 0)
  | 11 => some (31, 0, 0)
  | _ => none
def lay1 (r : Nat → Option Nat) (v : Nat) (k : Nat) : Option Key := match k with
  | 1 => some (2, v, 0)
  | 2 => some (4, v, 0)
  | 5 => (r (v + 1)).map fun z => (11, z, 0)
  | 7 => some (6, v, 0)
  | 8 => some (7, v, 0)
  | 9 => some (8, v, 0)
  | _ => none
def lay9 (r : Nat → Option Nat) (v : Nat) (k : Nat) : Option Key := match k with
  | 0 => some (10, 0, 0)
  | 3 => (r 0).map fun z => (11, z, 0)
  | _ => none
def lay11 (r : Nat → Option Nat) (v : Nat) (k : Nat) : Option Key := match k with
  | 2 => some (12, v, 0)
  | 3 => some (13, v, 0)
  | 4 => some (14, v, 0)
  | 5 => some (15, v, 0)
  | 6 => some (16, v, 0)
  | 7 => some (17, v, 0)
  | 8 => some (18, v, 0)
  | _ => none
def lay20 (r : Nat → Option Nat) (v : Nat) (k : Nat) : Option Key := match k with
  | 2 => some (21, 0, 0)
  | 3 => some (22, 0, 0)
  | 4 => some (23, 0, 0)
  | 5 => some (24, 0, 0)
  | _ => none
def lay25 (r : Nat → Option Nat) (v : Nat) (k : Nat) : Option Key := match k with
  | 0 => some (26, 0, 0)
  | _ => none
def lay28 (r : Nat → Option Nat) (v : Nat) (k : Nat) : Option Key := match k with
  | 3 => some (1, 3, 0)
  | _ => none
def lay29 (r : Nat → Option Nat) (v : Nat) (k : Nat) : Option Key := match k with
  | 1 => some (30, 0, 0)
  | _ => none
def lay32 (r : Nat → Option Nat) (v : Nat) (k : Nat) : Option Key := match k with
  | 2 => some (33, v, 0)
  | _ => none
def lay40 (r : Nat → Option Nat) (v : Nat) (k : Nat) : Option Key := match k with
  | 4 => some (41, 0, 0)
  | 5 => some (42, 0, 0)
  | 6 => some (43, 0, 0)
  | 7 => some (44, 0, 0)
  | 8 => some (45, 0, 0)
  | 9 => some (46, 0, 0)
  | 10 => some (47, 0, 0)
  | 11 => some (48, 0, 0)
  | 12 => some (49, 0, 0)
  | 18 => some (50, 0, 0)
  | 19 => some (51, 0, 0)
  | 20 => some (52, 0, 0)
  | 21 => some (53, 0, 0)
  | 22 => some (54, 0, 0)
  | 23 => some (55, 0, 0)
  | 24 => some (56, 0, 0)
  | 25 => some (57, 0, 0)
  | 26 => some (58, 0, 0)
  | 30 => some (59, 0, 0)
  | 31 => some (60, 0, 0)
  | 37 => some (61, 0, 0)
  | 38 => some (62, 0, 0)
  | 39 => some (63, 0, 0)
  | 40 => some (64, 0, 0)
  | 41 => some (65, 0, 0)
  | 42 => some (66, 0, 0)
  | 43 => some (67, 0, 0)
  | 44 => some (68, 0, 0)
  | 45 => some (69, 0, 0)
  | 47 => some (70, 0, 0)
  | 48 => some (71, 0, 0)
  | 49 => some (72, 0, 0)
  | 53 => some (73, 0, 0)
  | 54 => some (74, 0, 0)
  | 55 => some (75, 0, 0)
  | 56 => some (76, 0, 0)
  | 57 => some (77, 0, 0)
  | 67 => some (78, 0, 0)
  | 68 => some (79, 0, 0)
  | 69 => some (80, 0, 0)
  | 70 => some (81, 0, 0)
  | 71 => some (82, 0, 0)
  | 72 => some (83, 0, 0)
  | 73 => some (84, 0, 0)
  | 74 => some (85, 0, 0)
  | 75 => some (86, 0, 0)
  | 76 => some (87, 0, 0)
  | 77 => some (88, 0, 0)
  | 79 => some (89, 0, 0)
  | 80 => some (90, 0, 0)
  | 81 => some (91, 0, 0)
  | 82 => some (92, 0, 0)
  | 83 => some (93, 0, 0)
  | _ => none
def lay (r : Nat → Option Nat) (q : Key) (k : Nat) : Option Key := match q with
  | (0, v, _) => lay0 r v k
  | (1, v, 0) => lay1 r v k
  | (2, v, _) => some (3, v, k)
  | (4, v, _) => some (5, v, k)
  | (9, 0, 0) => lay9 r 0 k
  | (11, v, _) => lay11 r v k
  | (19, _, _) => some (11, k, 0)
  | (20, v, _) => lay20 r v k
  | (25, v, _) => lay25 r v k
  | (26, _, _) => some (27, 0, k)
  | (28, v, _) => lay28 r v k
  | (29, v, _) => lay29 r v k
  | (31, _, _) => some (32, k, 0)
  | (32, v, _) => lay32 r v k
  | (40, v, _) => lay40 r v k
  | _ => none
def en (u : PM) : AM := (u.1, u.2.1, lay u.2.2)
def pi (u : PM) (q : Key) (k : Nat) (x : Int32) : PM := (fun q' k' => if k' = k ∧ q' = q then x else u.1 q' k', u.2)
def pl (u : PM) (q : Key) (k : Nat) (x : Int64) : PM := (u.1, fun q' k' => if k' = k ∧ q' = q then x else u.2.1 q' k', u.2.2)
def pr (u : PM) (v : Nat) (x : Option Nat) : PM := (u.1, u.2.1, fun v' => if v' = v then x else u.2.2 v')
def pci (u : PM) (q : Key) (f : Nat → Int32) : PM := (fun q' k => if q' = q then f k else u.1 q' k, u.2)
def pcl (u : PM) (q : Key) (f : Nat → Int64) : PM := (u.1, fun q' k => if q' = q then f k else u.2.1 q' k, u.2.2)
theorem en_pi (u : PM) (q : Key) (k : Nat) (x : Int32) : am_ui (en u) q k x = en (pi u q k x) := rfl
theorem en_pl (u : PM) (q : Key) (k : Nat) (x : Int64) : am_ul (en u) q k x = en (pl u q k x) := rfl
theorem en_pci (u : PM) (q : Key) (f : Nat → Int32) : am_cpi (en u) q f = en (pci u q f) := rfl
theorem en_pcl (u : PM) (q : Key) (f : Nat → Int64) : am_cpl (en u) q f = en (pcl u q f) := rfl
theorem en_pr1 (u : PM) (v : Nat) (x : Option Nat) : am_ur (en u) (1, v, 0) 5 (x.map fun z => (11, z, 0)) = en (pr u (v + 1) x) := by
  refine congrArg (fun f => (u.1, u.2.1, f)) (funext fun q => funext fun k => ?_)
  show (if k = 5 ∧ q = (1, v, 0) then _ else lay u.2.2 q k) = lay (pr u (v + 1) x).2.2 q k
  by_cases e : k = 5 ∧ q = (1, v, 0)
  · obtain ⟨rfl, rfl⟩ := e
    rw [if_pos ⟨rfl, rfl⟩]
    show _ = ((pr u (v + 1) x).2.2 (v + 1)).map _
    rw [show (pr u (v + 1) x).2.2 (v + 1) = x from if_pos rfl]
  · rw [if_neg e]
    unfold lay
    split
    all_goals (try rfl)
    · next v' =>
      unfold lay1
      split
      all_goals (try rfl)
      rw [show (pr u (v + 1) x).2.2 (v' + 1) = u.2.2 (v' + 1) from if_neg (fun h => e ⟨rfl, by rw [Nat.succ.inj h]⟩)]
theorem en_pr4 (u : PM) (x : Option Nat) : am_ur (en u) (9, 0, 0) 3 (x.map fun z => (11, z, 0)) = en (pr u 0 x) := by
  refine congrArg (fun f => (u.1, u.2.1, f)) (funext fun q => funext fun k => ?_)
  show (if k = 3 ∧ q = (9, 0, 0) then _ else lay u.2.2 q k) = lay (pr u 0 x).2.2 q k
  by_cases e : k = 3 ∧ q = (9, 0, 0)
  · obtain ⟨rfl, rfl⟩ := e
    rfl
  · rw [if_neg e]
    unfold lay
    split
    all_goals (try rfl)
    · unfold lay9
      split
      all_goals (try rfl)
      exact absurd ⟨rfl, rfl⟩ e
/-- a loop: the body goes on (inl) or leaves (inr) -/
def am_loop {S E : Type} (f : S → Option (S ⊕ E)) : Nat → S → Option E
  | 0, _ => none
  | n + 1, s => match f s with
    | none => none
    | some (.inl s') => am_loop f n s'
    | some (.inr e) => some e
theorem am_loop_of {S E : Type} {f : S → Option (S ⊕ E)} {P : S → Prop} {Pe : E → Prop} (h : ∀ s x, f s = some x → (∀ s', x = .inl s' → P s') → (∀ e, x = .inr e → Pe e) → P s) : ∀ (n : Nat) (s : S) (e : E), am_loop f n s = some e → Pe e → P s
  | 0, s, e, h1, _ => by cases h1
  | n + 1, s, e, h1, he => by
    unfold am_loop at h1
    cases hx : f s with
    | none => rw [hx] at h1; cases h1
    | some x =>
      rw [hx] at h1
      refine h s x hx (fun s' hs => ?_) (fun e' hs => ?_)
      · subst hs
        exact am_loop_of h n s' e h1 he
      · subst hs
        cases h1
        exact he
theorem am_bind {A B : Type} {o : Option A} {f : A → Option B} {r : B} (h : o.bind f = some r) : ∃ x, o = some x ∧ f x = some r := by
  cases o with
  | none => cases h
  | some x => exact ⟨x, rfl, h⟩
theorem am_if {A : Type} {c : Prop} [Decidable c] {a b : Option A} {r : A} (h : (if c then a else b) = some r) : (c → a = some r) ∧ (¬ c → b = some r) := by
  by_cases hc : c
  · rw [if_pos hc] at h; exact ⟨fun _ => h, fun h2 => absurd hc h2⟩
  · rw [if_neg hc] at h; exact ⟨fun h2 => absurd h2 hc, fun _ => h⟩
theorem am_chk {A : Type} {c : Prop} [Decidable c] {a : Option A} {r : A} (h : (if c then a else none) = some r) : c ∧ a = some r := by
  by_cases hc : c
  · rw [if_pos hc] at h; exact ⟨hc, h⟩
  · rw [if_neg hc] at h; cases h
theorem am_inj {A : Type} {a b : A} (h : some a = some b) : a = b := Option.some.inj h
theorem am_bool {x : Int32} (h : x = 0 ∨ x = 1) : narrow .boolean (.int x) = .int x ∧ fits .boolean (.int x) = true := by
  rcases h with rfl | rfl <;> exact ⟨rfl, rfl⟩
theorem vp_lt {i : Int32} {n : Nat} (h : ¬ (i < 0 ∨ n ≤ i.toNatClampNeg)) : i.toNatClampNeg < n := Nat.not_le.mp fun q => h (Or.inr q)
end
section
/-! what the rows by program stand on -/
theorem am_nb6 : (List.range 94).all (fun s => decide (am_nv s ≤ 6) && decide (am_nh s ≤ 6)) = true := by decide +kernel
theorem kC_all : (List.range 34).all (fun s => (List.range 6).all fun v => (List.range 6).all fun h => !(decide (v < am_nv s) && decide (h < am_nh s)) || kC.any (fun q => q.1 == s && (q.2.1 == v && q.2.2 == h))) = true := by decide +kernel
theorem kM_all : (List.range 94).all (fun s => decide (s < 40) || kM.any (fun q => q.1 == s && (q.2.1 == 0 && q.2.2 == 0))) = true := by decide +kernel
theorem am_any {ks : List Key} {s v h : Nat} (e : ks.any (fun q => q.1 == s && (q.2.1 == v && q.2.2 == h)) = true) : ((s, v, h) : Key) ∈ ks := by
  obtain ⟨⟨s', v', h'⟩, hm, hq⟩ := List.any_eq_true.mp e
  simp only [Bool.and_eq_true, beq_iff_eq] at hq
  obtain ⟨rfl, rfl, rfl⟩ := hq
  exact hm
theorem kC_mem {s v h : Nat} (hs : s < 34) (hv : v < am_nv s) (hh : h < am_nh s) : ((s, v, h) : Key) ∈ kC := by
  have h6 := List.all_eq_true.mp am_nb6 s (List.mem_range.mpr (by omega))
  simp only [Bool.and_eq_true, decide_eq_true_eq] at h6
  have h1 := List.all_eq_true.mp (List.all_eq_true.mp (List.all_eq_true.mp kC_all s (List.mem_range.mpr hs)) v (List.mem_range.mpr (by omega))) h (List.mem_range.mpr (by omega))
  simp only [hv, hh, decide_true, Bool.and_self, Bool.not_true, Bool.false_or] at h1
  exact am_any h1
theorem kM_mem {s : Nat} (hs : s < 94 ∧ 40 ≤ s) : ((s, 0, 0) : Key) ∈ kM := by
  have h1 := List.all_eq_true.mp kM_all s (List.mem_range.mpr hs.1)
  rw [decide_eq_false (by omega), Bool.false_or] at h1
  exact am_any h1
theorem lt_b {a b : Nat} (h : Nat.ble (a + 1) b = true) : a < b := Nat.le_of_ble_eq_true h
theorem le_b {a b : Nat} (h : Nat.ble a b = true) : a ≤ b := Nat.le_of_ble_eq_true h
theorem am_nchk {A : Type} {c : Prop} [Decidable c] {a : Option A} {r : A} (h : (if c then none else a) = some r) : ¬ c ∧ a = some r := by
  by_cases hc : c
  · rw [if_pos hc] at h; cases h
  · rw [if_neg hc] at h; exact ⟨hc, h⟩
theorem vp_lit {i : Int32} {n : Nat} (h : (decide (i < 0) || decide (n ≤ i.toNatClampNeg)) = false) : vp_in i n := by
  intro q
  simp only [Bool.or_eq_false_iff, decide_eq_false_iff_not] at h
  exact q.elim h.1 h.2
theorem vp_le {i : Int32} {n k : Nat} (h : ¬ (i < 0 ∨ n ≤ i.toNatClampNeg)) (hk : n ≤ k) : ¬ (i < 0 ∨ k ≤ i.toNatClampNeg) := fun q => h (q.imp id (fun z => Nat.le_trans hk z))
section HR
variable {l : Launch} {md md2 : MD} {d d2 mc ms mc2 ms2 : Nat} {al : Bool} {T T2 : Option AV × List Key × AM} {ks : List Key} {kc kn pc : Nat} {L L' : List (Option AV)} {st as : List AV} {M M' : AM} {q : Key} {k : Nat}
theorem r_geti_ {x : Int32} {idx ci : Nat} (hw : FW md.1.cls idx ci k 0) (hd : decode md.2.1 pc = .ok (.getfield idx, 3)) (hq : q ∈ ks) (hk : am_kd q.1 = ci) (hl : k < am_ln q.1) (hx : M.1 q k = x) (kk : X l md d mc ms al T ks kc kn (pc + 3) L (vI x :: st) M) : X l md d mc ms al T ks kc kn pc L (vR q :: st) M := by subst hx; exact r_geti hw hd hq hk hl kk
theorem r_getl_ {x : Int64} {idx ci : Nat} (hw : FW md.1.cls idx ci k 1) (hd : decode md.2.1 pc = .ok (.getfield idx, 3)) (hq : q ∈ ks) (hk : am_kd q.1 = ci) (hl : k < am_ln q.1) (hx : M.2.1 q k = x) (kk : X l md d mc ms al T ks kc kn (pc + 3) L (vJ x :: st) M) : X l md d mc ms al T ks kc kn pc L (vR q :: st) M := by subst hx; exact r_getl hw hd hq hk hl kk
theorem r_iald_ {i x : Int32} {n : Nat} (hd : decode md.2.1 pc = .ok (.iaload, 1)) (hq : q ∈ ks) (hk : am_kd q.1 = 11) (hin : vp_in i (am_ln q.1)) (hi : i.toNatClampNeg = n) (hx : M.1 q n = x) (kk : X l md d mc ms al T ks kc kn (pc + 1) L (vI x :: st) M) : X l md d mc ms al T ks kc kn pc L (vI i :: vR q :: st) M := by subst hx; exact r_iald' hd hq hk hin hi kk
theorem r_zald_ {i x : Int32} {n : Nat} (hd : decode md.2.1 pc = .ok (.baload, 1)) (hq : q ∈ ks) (hk : am_kd q.1 = 13) (hin : vp_in i (am_ln q.1)) (hi : i.toNatClampNeg = n) (hx : M.1 q n = x) (kk : X l md d mc ms al T ks kc kn (pc + 1) L (vI x :: st) M) : X l md d mc ms al T ks kc kn pc L (vI i :: vR q :: st) M := by subst hx; exact r_zald' hd hq hk hin hi kk
theorem r_lald_ {i : Int32} {x : Int64} {n : Nat} (hd : decode md.2.1 pc = .ok (.laload, 1)) (hq : q ∈ ks) (hk : am_kd q.1 = 12) (hin : vp_in i (am_ln q.1)) (hi : i.toNatClampNeg = n) (hx : M.2.1 q n = x) (kk : X l md d mc ms al T ks kc kn (pc + 1) L (vJ x :: st) M) : X l md d mc ms al T ks kc kn pc L (vI i :: vR q :: st) M := by subst hx; exact r_lald' hd hq hk hin hi kk
/-! the same over a memory in its shape -/
variable {u : PM}
theorem e_geti {idx ci : Nat} (hw : FW md.1.cls idx ci k 0) (hd : decode md.2.1 pc = .ok (.getfield idx, 3)) (hq : q ∈ ks) (hk : am_kd q.1 = ci) (hl : k < am_ln q.1) (kk : X l md d mc ms al T ks kc kn (pc + 3) L (vI (u.1 q k) :: st) (en u)) : X l md d mc ms al T ks kc kn pc L (vR q :: st) (en u) := r_geti hw hd hq hk hl kk
theorem e_geti_ {x : Int32} {idx ci : Nat} (hw : FW md.1.cls idx ci k 0) (hd : decode md.2.1 pc = .ok (.getfield idx, 3)) (hq : q ∈ ks) (hk : am_kd q.1 = ci) (hl : k < am_ln q.1) (hx : u.1 q k = x) (kk : X l md d mc ms al T ks kc kn (pc + 3) L (vI x :: st) (en u)) : X l md d mc ms al T ks kc kn pc L (vR q :: st) (en u) := r_geti_ hw hd hq hk hl hx kk
theorem e_getl {idx ci : Nat} (hw : FW md.1.cls idx ci k 1) (hd : decode md.2.1 pc = .ok (.getfield idx, 3)) (hq : q ∈ ks) (hk : am_kd q.1 = ci) (hl : k < am_ln q.1) (kk : X l md d mc ms al T ks kc kn (pc + 3) L (vJ (u.2.1 q k) :: st) (en u)) : X l md d mc ms al T ks kc kn pc L (vR q :: st) (en u) := r_getl hw hd hq hk hl kk
theorem e_getl_ {x : Int64} {idx ci : Nat} (hw : FW md.1.cls idx ci k 1) (hd : decode md.2.1 pc = .ok (.getfield idx, 3)) (hq : q ∈ ks) (hk : am_kd q.1 = ci) (hl : k < am_ln q.1) (hx : u.2.1 q k = x) (kk : X l md d mc ms al T ks kc kn (pc + 3) L (vJ x :: st) (en u)) : X l md d mc ms al T ks kc kn pc L (vR q :: st) (en u) := r_getl_ hw hd hq hk hl hx kk
theorem e_getr {idx ci : Nat} {z : Option Key} (hw : FW md.1.cls idx ci k 2) (hd : decode md.2.1 pc = .ok (.getfield idx, 3)) (hq : q ∈ ks) (hk : am_kd q.1 = ci) (hl : k < am_ln q.1) (hz : lay u.2.2 q k = z) (kk : X l md d mc ms al T ks kc kn (pc + 3) L (vO z :: st) (en u)) : X l md d mc ms al T ks kc kn pc L (vR q :: st) (en u) := r_getr hw hd hq hk hl hz kk
theorem e_aald {i : Int32} {n : Nat} {z : Option Key} (hd : decode md.2.1 pc = .ok (.aaload, 1)) (hq : q ∈ ks) (hk : 14 ≤ am_kd q.1 ∧ am_kd q.1 < 18) (hin : vp_in i (am_ln q.1)) (hi : i.toNatClampNeg = n) (hz : lay u.2.2 q n = z) (kk : X l md d mc ms al T ks kc kn (pc + 1) L (vO z :: st) (en u)) : X l md d mc ms al T ks kc kn pc L (vI i :: vR q :: st) (en u) := by subst hi; exact r_aald hd hq hk hin hz kk
theorem e_iald {i : Int32} {n : Nat} {x : Int32} (hd : decode md.2.1 pc = .ok (.iaload, 1)) (hq : q ∈ ks) (hk : am_kd q.1 = 11) (hin : vp_in i (am_ln q.1)) (hi : i.toNatClampNeg = n) (hx : u.1 q n = x) (kk : X l md d mc ms al T ks kc kn (pc + 1) L (vI x :: st) (en u)) : X l md d mc ms al T ks kc kn pc L (vI i :: vR q :: st) (en u) := r_iald_ hd hq hk hin hi hx kk
theorem e_zald {i : Int32} {n : Nat} {x : Int32} (hd : decode md.2.1 pc = .ok (.baload, 1)) (hq : q ∈ ks) (hk : am_kd q.1 = 13) (hin : vp_in i (am_ln q.1)) (hi : i.toNatClampNeg = n) (hx : u.1 q n = x) (kk : X l md d mc ms al T ks kc kn (pc + 1) L (vI x :: st) (en u)) : X l md d mc ms al T ks kc kn pc L (vI i :: vR q :: st) (en u) := r_zald_ hd hq hk hin hi hx kk
theorem e_lald {i : Int32} {n : Nat} {x : Int64} (hd : decode md.2.1 pc = .ok (.laload, 1)) (hq : q ∈ ks) (hk : am_kd q.1 = 12) (hin : vp_in i (am_ln q.1)) (hi : i.toNatClampNeg = n) (hx : u.2.1 q n = x) (kk : X l md d mc ms al T ks kc kn (pc + 1) L (vJ x :: st) (en u)) : X l md d mc ms al T ks kc kn pc L (vI i :: vR q :: st) (en u) := r_lald_ hd hq hk hin hi hx kk
theorem e_puti {x : Int32} {idx ci : Nat} {ty : FieldType} (hw : FP md.1.cls idx ci k ty false) (hd : decode md.2.1 pc = .ok (.putfield idx, 3)) (hq : q ∈ ks) (hk : am_kd q.1 = ci) (hl : k < am_ln q.1) (hft : am_ft ci k = 0) (hn : narrow ty (.int x) = .int x) (hfit : fits ty (.int x) = true) (kk : X l md d mc ms al T ks kc kn (pc + 3) L st (en (pi u q k x))) : X l md d mc ms al T ks kc kn pc L (vI x :: vR q :: st) (en u) := r_puti hw (fun h => by cases h) hd hq hk hl hft hn hfit kk
theorem e_putl {x : Int64} {idx ci : Nat} (hw : FP md.1.cls idx ci k .long false) (hd : decode md.2.1 pc = .ok (.putfield idx, 3)) (hq : q ∈ ks) (hk : am_kd q.1 = ci) (hl : k < am_ln q.1) (hft : am_ft ci k = 1) (kk : X l md d mc ms al T ks kc kn (pc + 3) L st (en (pl u q k x))) : X l md d mc ms al T ks kc kn pc L (vJ x :: vR q :: st) (en u) := r_putl hw (fun h => by cases h) hd hq hk hl hft kk
theorem e_put1 {v : Nat} {x : Option Nat} {idx : Nat} {ty : FieldType} (hw : FP md.1.cls idx 8 5 ty false) (hd : decode md.2.1 pc = .ok (.putfield idx, 3)) (hq : ((1, v, 0) : Key) ∈ ks) (hty : ∀ v : Option Nat, narrow ty (va_rf v) = va_rf v ∧ fits ty (va_rf v) = true) (kk : X l md d mc ms al T ks kc kn (pc + 3) L st (en (pr u (v + 1) x))) : X l md d mc ms al T ks kc kn pc L (vO (x.map fun z => (11, z, 0)) :: vR (1, v, 0) :: st) (en u) := r_putr hw (fun h => by cases h) hd hq rfl (lt_b rfl) rfl hty (by rw [en_pr1]; exact kk)
theorem e_put4 {x : Option Nat} {idx : Nat} {ty : FieldType} (hw : FP md.1.cls idx 6 3 ty false) (hd : decode md.2.1 pc = .ok (.putfield idx, 3)) (hq : ((9, 0, 0) : Key) ∈ ks) (hty : ∀ v : Option Nat, narrow ty (va_rf v) = va_rf v ∧ fits ty (va_rf v) = true) (kk : X l md d mc ms al T ks kc kn (pc + 3) L st (en (pr u 0 x))) : X l md d mc ms al T ks kc kn pc L (vO (x.map fun z => (11, z, 0)) :: vR (9, 0, 0) :: st) (en u) := r_putr hw (fun h => by cases h) hd hq rfl (lt_b rfl) rfl hty (by rw [en_pr4]; exact kk)
theorem e_iast {i x : Int32} {n : Nat} (hd : decode md.2.1 pc = .ok (.iastore, 1)) (hq : q ∈ ks) (hk : am_kd q.1 = 11) (hin : vp_in i (am_ln q.1)) (hi : i.toNatClampNeg = n) (kk : X l md d mc ms al T ks kc kn (pc + 1) L st (en (pi u q n x))) : X l md d mc ms al T ks kc kn pc L (vI x :: vI i :: vR q :: st) (en u) := by subst hi; exact r_iast hd hq hk hin kk
theorem e_zast {i x : Int32} {n : Nat} (hd : decode md.2.1 pc = .ok (.bastore, 1)) (hq : q ∈ ks) (hk : am_kd q.1 = 13) (hin : vp_in i (am_ln q.1)) (hi : i.toNatClampNeg = n) (hx : narrow .boolean (.int x) = .int x) (kk : X l md d mc ms al T ks kc kn (pc + 1) L st (en (pi u q n x))) : X l md d mc ms al T ks kc kn pc L (vI x :: vI i :: vR q :: st) (en u) := by subst hi; exact r_zast hd hq hk hin hx kk
theorem e_last {i : Int32} {x : Int64} {n : Nat} (hd : decode md.2.1 pc = .ok (.lastore, 1)) (hq : q ∈ ks) (hk : am_kd q.1 = 12) (hin : vp_in i (am_ln q.1)) (hi : i.toNatClampNeg = n) (kk : X l md d mc ms al T ks kc kn (pc + 1) L st (en (pl u q n x))) : X l md d mc ms al T ks kc kn pc L (vJ x :: vI i :: vR q :: st) (en u) := by subst hi; exact r_last hd hq hk hin kk
theorem e_copyi {q0 q1 : Key} {idx a b c : Nat} {sp dp n : Int32} (hw : CP md.1.cls idx) (hd : decode md.2.1 pc = .ok (.invokestatic idx, 3)) (hq0 : q0 ∈ ks) (hq1 : q1 ∈ ks) (hk0 : am_kd q0.1 = 11) (hk1 : am_kd q1.1 = 11) (g1 : ¬ sp < 0) (g2 : ¬ dp < 0) (g3 : ¬ n < 0) (ga : sp.toNatClampNeg = a) (gb : dp.toNatClampNeg = b) (gc : n.toNatClampNeg = c) (g4 : a + c ≤ am_ln q0.1) (g5 : b + c ≤ am_ln q1.1) (hdd : 1 ≤ d) (hst : (st.map am_cat).sum ≤ 8)
    (kk : X l md d mc ms false T ks kc kn (pc + 3) L st (en (pci u q1 (va_cpy (u.1 q0) (u.1 q1) a b c)))) : X l md d mc ms false T ks kc kn pc L (vI n :: vI dp :: vR q1 :: vI sp :: vR q0 :: st) (en u) := by subst ga; subst gb; subst gc; exact r_copyi hw hd hq0 hq1 hk0 hk1 g1 g2 g3 g4 g5 hdd hst kk
theorem e_copyl {q0 q1 : Key} {idx a b c : Nat} {sp dp n : Int32} (hw : CP md.1.cls idx) (hd : decode md.2.1 pc = .ok (.invokestatic idx, 3)) (hq0 : q0 ∈ ks) (hq1 : q1 ∈ ks) (hk0 : am_kd q0.1 = 12) (hk1 : am_kd q1.1 = 12) (g1 : ¬ sp < 0) (g2 : ¬ dp < 0) (g3 : ¬ n < 0) (ga : sp.toNatClampNeg = a) (gb : dp.toNatClampNeg = b) (gc : n.toNatClampNeg = c) (g4 : a + c ≤ am_ln q0.1) (g5 : b + c ≤ am_ln q1.1) (hdd : 1 ≤ d) (hst : (st.map am_cat).sum ≤ 8)
    (kk : X l md d mc ms false T ks kc kn (pc + 3) L st (en (pcl u q1 (va_cpy (u.2.1 q0) (u.2.1 q1) a b c)))) : X l md d mc ms false T ks kc kn pc L (vI n :: vI dp :: vR q1 :: vI sp :: vR q0 :: st) (en u) := by subst ga; subst gb; subst gc; exact r_copyl hw hd hq0 hq1 hk0 hk1 g1 g2 g3 g4 g5 hdd hst kk
end HR
theorem inWd0 : ∀ w ∈ u_ws RX0 TX0 5, w ∈ Wd := fun w hw => by
  have h1 := List.all_eq_true.mp (show (u_ws RX0 TX0 5).all (fun w => decide (w ∈ lw_tbl) && goodWord w) = true by decide +kernel) w hw
  simp only [Bool.and_eq_true, decide_eq_true_eq] at h1
  exact Wd_of h1.1 h1.2
theorem inWd1 : ∀ w ∈ u_ws RX1 TX1 6, w ∈ Wd := fun w hw => by
  have h1 := List.all_eq_true.mp (show (u_ws RX1 TX1 6).all (fun w => decide (w ∈ lw_tbl) && goodWord w) = true by decide +kernel) w hw
  simp only [Bool.and_eq_true, decide_eq_true_eq] at h1
  exact Wd_of h1.1 h1.2
theorem inWd2 : ∀ w ∈ u_ws RX2 TX2 9, w ∈ Wd := fun w hw => by
  have h1 := List.all_eq_true.mp (show (u_ws RX2 TX2 9).all (fun w => decide (w ∈ lw_tbl) && goodWord w) = true by decide +kernel) w hw
  simp only [Bool.and_eq_true, decide_eq_true_eq] at h1
  exact Wd_of h1.1 h1.2
theorem inWd3 : ∀ w ∈ u_ws RX3 TX3 9, w ∈ Wd := fun w hw => by
  have h1 := List.all_eq_true.mp (show (u_ws RX3 TX3 9).all (fun w => decide (w ∈ lw_tbl) && goodWord w) = true by decide +kernel) w hw
  simp only [Bool.and_eq_true, decide_eq_true_eq] at h1
  exact Wd_of h1.1 h1.2
theorem inWd4 : ∀ w ∈ u_ws RX4 TX4 4, w ∈ Wd := fun w hw => by
  have h1 := List.all_eq_true.mp (show (u_ws RX4 TX4 4).all (fun w => decide (w ∈ lw_tbl) && goodWord w) = true by decide +kernel) w hw
  simp only [Bool.and_eq_true, decide_eq_true_eq] at h1
  exact Wd_of h1.1 h1.2
theorem inWd5 : ∀ w ∈ u_ws RX5 TX5 2, w ∈ Wd := fun w hw => by
  have h1 := List.all_eq_true.mp (show (u_ws RX5 TX5 2).all (fun w => decide (w ∈ lw_tbl) && goodWord w) = true by decide +kernel) w hw
  simp only [Bool.and_eq_true, decide_eq_true_eq] at h1
  exact Wd_of h1.1 h1.2
theorem inWd6 : ∀ w ∈ u_ws RX6 TX6 4, w ∈ Wd := fun w hw => by
  have h1 := List.all_eq_true.mp (show (u_ws RX6 TX6 4).all (fun w => decide (w ∈ lw_tbl) && goodWord w) = true by decide +kernel) w hw
  simp only [Bool.and_eq_true, decide_eq_true_eq] at h1
  exact Wd_of h1.1 h1.2
theorem inWd7 : ∀ w ∈ u_ws RX7 TX7 3, w ∈ Wd := fun w hw => by
  have h1 := List.all_eq_true.mp (show (u_ws RX7 TX7 3).all (fun w => decide (w ∈ lw_tbl) && goodWord w) = true by decide +kernel) w hw
  simp only [Bool.and_eq_true, decide_eq_true_eq] at h1
  exact Wd_of h1.1 h1.2
theorem inWd8 : ∀ w ∈ u_ws RX8 TX8 10, w ∈ Wd := fun w hw => by
  have h1 := List.all_eq_true.mp (show (u_ws RX8 TX8 10).all (fun w => decide (w ∈ lw_tbl) && goodWord w) = true by decide +kernel) w hw
  simp only [Bool.and_eq_true, decide_eq_true_eq] at h1
  exact Wd_of h1.1 h1.2
theorem inWd9 : ∀ w ∈ u_ws RX9 TX9 12, w ∈ Wd := fun w hw => by
  have h1 := List.all_eq_true.mp (show (u_ws RX9 TX9 12).all (fun w => decide (w ∈ lw_tbl) && goodWord w) = true by decide +kernel) w hw
  simp only [Bool.and_eq_true, decide_eq_true_eq] at h1
  exact Wd_of h1.1 h1.2
theorem inWd10 : ∀ w ∈ u_ws RX10 TX10 84, w ∈ Wd := fun w hw => by
  have h1 := List.all_eq_true.mp (show (u_ws RX10 TX10 84).all (fun w => decide (w ∈ lw_tbl) && goodWord w) = true by decide +kernel) w hw
  simp only [Bool.and_eq_true, decide_eq_true_eq] at h1
  exact Wd_of h1.1 h1.2
end
section
/-! words of the tables, by program -/
abbrev mJ6_compare_7cf53 : MD := (yJ6_compare_7cf53, cJ6_compare_7cf53, 2, (some .int))
abbrev mJ6_bitCount_0f7a4 : MD := (yJ6_bitCount_0f7a4, cJ6_bitCount_0f7a4, 1, (some .int))
theorem cc_J6_265 : Cond.constant RJ6 265 (1431655765) ∈ Wd := Wd_of (List.mem_of_getElem? (i := 676) (by decide +kernel)) rfl
theorem cc_J6_266 : Cond.constant RJ6 266 (858993459) ∈ Wd := Wd_of (List.mem_of_getElem? (i := 677) (by decide +kernel)) rfl
theorem cc_J6_267 : Cond.constant RJ6 267 (252645135) ∈ Wd := Wd_of (List.mem_of_getElem? (i := 678) (by decide +kernel)) rfl
abbrev mX2_setOut : MD := (yX2_setOut, cX2_setOut, 4, none)
theorem fp_X2_28 : FP RX2 28 2 5 .int false := ⟨RX2, TX2, 9, tyX2, rfl, by decide, inWd2, Wd_of (List.mem_of_getElem? (i := 145) (by decide +kernel)) rfl, tyX2_ok, nmX2, rfl, rfl, fun h => by cases h⟩
theorem fp_X2_31 : FP RX2 31 2 6 .int false := ⟨RX2, TX2, 9, tyX2, rfl, by decide, inWd2, Wd_of (List.mem_of_getElem? (i := 149) (by decide +kernel)) rfl, tyX2_ok, nmX2, rfl, rfl, fun h => by cases h⟩
theorem fp_X2_34 : FP RX2 34 2 7 .int false := ⟨RX2, TX2, 9, tyX2, rfl, by decide, inWd2, Wd_of (List.mem_of_getElem? (i := 152) (by decide +kernel)) rfl, tyX2_ok, nmX2, rfl, rfl, fun h => by cases h⟩
theorem fp_X2_37 : FP RX2 37 2 8 .int false := ⟨RX2, TX2, 9, tyX2, rfl, by decide, inWd2, Wd_of (List.mem_of_getElem? (i := 155) (by decide +kernel)) rfl, tyX2_ok, nmX2, rfl, rfl, fun h => by cases h⟩
abbrev mX2_start : MD := (yX2_start, cX2_start, 3, none)
theorem fp_X2_9 : FP RX2 9 2 0 .int false := ⟨RX2, TX2, 9, tyX2, rfl, by decide, inWd2, Wd_of (List.mem_of_getElem? (i := 124) (by decide +kernel)) rfl, tyX2_ok, nmX2, rfl, rfl, fun h => by cases h⟩
theorem fp_X2_15 : FP RX2 15 2 1 .boolean false := ⟨RX2, TX2, 9, tyX2, rfl, by decide, inWd2, Wd_of (List.mem_of_getElem? (i := 128) (by decide +kernel)) rfl, tyX2_ok, nmX2, rfl, rfl, fun h => by cases h⟩
theorem fp_X2_19 : FP RX2 19 2 2 .int false := ⟨RX2, TX2, 9, tyX2, rfl, by decide, inWd2, Wd_of (List.mem_of_getElem? (i := 134) (by decide +kernel)) rfl, tyX2_ok, nmX2, rfl, rfl, fun h => by cases h⟩
theorem fp_X2_22 : FP RX2 22 2 3 .int false := ⟨RX2, TX2, 9, tyX2, rfl, by decide, inWd2, Wd_of (List.mem_of_getElem? (i := 138) (by decide +kernel)) rfl, tyX2_ok, nmX2, rfl, rfl, fun h => by cases h⟩
theorem fp_X2_25 : FP RX2 25 2 4 .int false := ⟨RX2, TX2, 9, tyX2, rfl, by decide, inWd2, Wd_of (List.mem_of_getElem? (i := 142) (by decide +kernel)) rfl, tyX2_ok, nmX2, rfl, rfl, fun h => by cases h⟩
theorem mw_X2_40 : MW RX2 40 mX2_setOut 3 := ⟨Wd_of (List.mem_of_getElem? (i := 445) (by decide +kernel)) rfl, Wd_of (List.mem_of_getElem? (i := 84) (by decide +kernel)) rfl, Wd_of (List.mem_of_getElem? (i := 448) (by decide +kernel)) rfl, ⟨by decide, by decide, by decide +kernel⟩, by decide⟩
theorem mv_X2_setOut : MV mX2_setOut := ⟨Wd_of (List.mem_of_getElem? (i := 446) (by decide +kernel)) rfl, Wd_of (List.mem_of_getElem? (i := 447) (by decide +kernel)) rfl⟩
abbrev mX2_copy : MD := (yX2_copy, cX2_copy, 2, none)
theorem fw_X2_9 : FW RX2 9 2 0 0 := ⟨RX2, TX2, 9, rfl, by decide, inWd2, Wd_of (List.mem_of_getElem? (i := 124) (by decide +kernel)) rfl, rfl⟩
theorem fw_X2_15 : FW RX2 15 2 1 0 := ⟨RX2, TX2, 9, rfl, by decide, inWd2, Wd_of (List.mem_of_getElem? (i := 128) (by decide +kernel)) rfl, rfl⟩
theorem fw_X2_19 : FW RX2 19 2 2 0 := ⟨RX2, TX2, 9, rfl, by decide, inWd2, Wd_of (List.mem_of_getElem? (i := 134) (by decide +kernel)) rfl, rfl⟩
theorem fw_X2_22 : FW RX2 22 2 3 0 := ⟨RX2, TX2, 9, rfl, by decide, inWd2, Wd_of (List.mem_of_getElem? (i := 138) (by decide +kernel)) rfl, rfl⟩
theorem fw_X2_25 : FW RX2 25 2 4 0 := ⟨RX2, TX2, 9, rfl, by decide, inWd2, Wd_of (List.mem_of_getElem? (i := 142) (by decide +kernel)) rfl, rfl⟩
theorem fw_X2_28 : FW RX2 28 2 5 0 := ⟨RX2, TX2, 9, rfl, by decide, inWd2, Wd_of (List.mem_of_getElem? (i := 145) (by decide +kernel)) rfl, rfl⟩
theorem fw_X2_31 : FW RX2 31 2 6 0 := ⟨RX2, TX2, 9, rfl, by decide, inWd2, Wd_of (List.mem_of_getElem? (i := 149) (by decide +kernel)) rfl, rfl⟩
theorem fw_X2_34 : FW RX2 34 2 7 0 := ⟨RX2, TX2, 9, rfl, by decide, inWd2, Wd_of (List.mem_of_getElem? (i := 152) (by decide +kernel)) rfl, rfl⟩
theorem fw_X2_37 : FW RX2 37 2 8 0 := ⟨RX2, TX2, 9, rfl, by decide, inWd2, Wd_of (List.mem_of_getElem? (i := 155) (by decide +kernel)) rfl, rfl⟩
abbrev mX3_addClause : MD := (yX3_addClause, cX3_addClause, 5, none)
theorem fw_X3_9 : FW RX3 9 3 0 0 := ⟨RX3, TX3, 9, rfl, by decide, inWd3, Wd_of (List.mem_of_getElem? (i := 348) (by decide +kernel)) rfl, rfl⟩
theorem fw_X3_18 : FW RX3 18 3 2 2 := ⟨RX3, TX3, 9, rfl, by decide, inWd3, Wd_of (List.mem_of_getElem? (i := 353) (by decide +kernel)) rfl, rfl⟩
theorem fw_X3_22 : FW RX3 22 3 3 2 := ⟨RX3, TX3, 9, rfl, by decide, inWd3, Wd_of (List.mem_of_getElem? (i := 355) (by decide +kernel)) rfl, rfl⟩
theorem fw_X3_25 : FW RX3 25 3 4 2 := ⟨RX3, TX3, 9, rfl, by decide, inWd3, Wd_of (List.mem_of_getElem? (i := 357) (by decide +kernel)) rfl, rfl⟩
theorem fw_X3_28 : FW RX3 28 3 5 2 := ⟨RX3, TX3, 9, rfl, by decide, inWd3, Wd_of (List.mem_of_getElem? (i := 358) (by decide +kernel)) rfl, rfl⟩
theorem fp_X3_9 : FP RX3 9 3 0 .int false := ⟨RX3, TX3, 9, tyX3, rfl, by decide, inWd3, Wd_of (List.mem_of_getElem? (i := 348) (by decide +kernel)) rfl, tyX3_ok, nmX3, rfl, rfl, fun h => by cases h⟩
abbrev mX3_addStep : MD := (yX3_addStep, cX3_addStep, 4, none)
theorem fw_X3_15 : FW RX3 15 3 1 0 := ⟨RX3, TX3, 9, rfl, by decide, inWd3, Wd_of (List.mem_of_getElem? (i := 351) (by decide +kernel)) rfl, rfl⟩
theorem fw_X3_31 : FW RX3 31 3 6 2 := ⟨RX3, TX3, 9, rfl, by decide, inWd3, Wd_of (List.mem_of_getElem? (i := 359) (by decide +kernel)) rfl, rfl⟩
theorem fw_X3_34 : FW RX3 34 3 7 2 := ⟨RX3, TX3, 9, rfl, by decide, inWd3, Wd_of (List.mem_of_getElem? (i := 360) (by decide +kernel)) rfl, rfl⟩
theorem fw_X3_37 : FW RX3 37 3 8 2 := ⟨RX3, TX3, 9, rfl, by decide, inWd3, Wd_of (List.mem_of_getElem? (i := 361) (by decide +kernel)) rfl, rfl⟩
theorem fp_X3_15 : FP RX3 15 3 1 .int false := ⟨RX3, TX3, 9, tyX3, rfl, by decide, inWd3, Wd_of (List.mem_of_getElem? (i := 351) (by decide +kernel)) rfl, tyX3_ok, nmX3, rfl, rfl, fun h => by cases h⟩
abbrev mX3_lastNext : MD := (yX3_lastNext, cX3_lastNext, 5, (some .int))
abbrev mX3_holds : MD := (yX3_holds, cX3_holds, 8, (some .boolean))
theorem js_max : Cond.static Lib.Math.max.name ∈ Wd ∧ Cond.initialized "java/lang/Math" ∈ Wd ∧ Cond.code Lib.Math.max.name Lib.Math.max.code 2 (some .int) ∈ Wd := ⟨Wd_of (List.mem_of_getElem? (i := 576) (by decide +kernel)) rfl, Wd_of (List.mem_of_getElem? (i := 97) (by decide +kernel)) rfl, Wd_of (List.mem_of_getElem? (i := 577) (by decide +kernel)) rfl⟩
theorem jm_X3_40 : Cond.methodLink RX3 40 Lib.Math.max.name ∈ Wd := Wd_of (List.mem_of_getElem? (i := 683) (by decide +kernel)) rfl
theorem mw_X3_46 : MW RX3 46 mJ6_compare_7cf53 2 := ⟨Wd_of (List.mem_of_getElem? (i := 684) (by decide +kernel)) rfl, Wd_of (List.mem_of_getElem? (i := 99) (by decide +kernel)) rfl, Wd_of (List.mem_of_getElem? (i := 686) (by decide +kernel)) rfl, ⟨by decide, by decide, by decide +kernel⟩, by decide⟩
theorem ms_J6_compare_7cf53 : Cond.static mJ6_compare_7cf53.1 ∈ Wd := Wd_of (List.mem_of_getElem? (i := 685) (by decide +kernel)) rfl
abbrev mX7_start : MD := (yX7_start, cX7_start, 4, none)
theorem fp_X7_9 : FP RX7 9 7 0 .int false := ⟨RX7, TX7, 3, tyX7, rfl, by decide, inWd7, Wd_of (List.mem_of_getElem? (i := 386) (by decide +kernel)) rfl, tyX7_ok, nmX7, rfl, rfl, fun h => by cases h⟩
theorem fp_X7_15 : FP RX7 15 7 1 .int false := ⟨RX7, TX7, 3, tyX7, rfl, by decide, inWd7, Wd_of (List.mem_of_getElem? (i := 388) (by decide +kernel)) rfl, tyX7_ok, nmX7, rfl, rfl, fun h => by cases h⟩
theorem fw_X7_18 : FW RX7 18 7 2 2 := ⟨RX7, TX7, 3, rfl, by decide, inWd7, Wd_of (List.mem_of_getElem? (i := 390) (by decide +kernel)) rfl, rfl⟩
abbrev mX7_isRow : MD := (yX7_isRow, cX7_isRow, 1, (some .boolean))
theorem fw_X7_9 : FW RX7 9 7 0 0 := ⟨RX7, TX7, 3, rfl, by decide, inWd7, Wd_of (List.mem_of_getElem? (i := 386) (by decide +kernel)) rfl, rfl⟩
abbrev mX7_has : MD := (yX7_has, cX7_has, 3, (some .boolean))
theorem fw_X7_15 : FW RX7 15 7 1 0 := ⟨RX7, TX7, 3, rfl, by decide, inWd7, Wd_of (List.mem_of_getElem? (i := 388) (by decide +kernel)) rfl, rfl⟩
abbrev mX7_get : MD := (yX7_get, cX7_get, 2, (some .long))
abbrev mX7_cut : MD := (yX7_cut, cX7_cut, 3, (some .long))
abbrev mX7_put : MD := (yX7_put, cX7_put, 4, none)
theorem mw_X7_22 : MW RX7 22 mX7_cut 1 := ⟨Wd_of (List.mem_of_getElem? (i := 983) (by decide +kernel)) rfl, Wd_of (List.mem_of_getElem? (i := 91) (by decide +kernel)) rfl, Wd_of (List.mem_of_getElem? (i := 986) (by decide +kernel)) rfl, ⟨by decide, by decide, by decide +kernel⟩, by decide⟩
theorem mv_X7_cut : MV mX7_cut := ⟨Wd_of (List.mem_of_getElem? (i := 985) (by decide +kernel)) rfl, Wd_of (List.mem_of_getElem? (i := 21) (by decide +kernel)) rfl⟩
abbrev mX0_begin : MD := (yX0_begin, cX0_begin, 3, none)
theorem fp_X0_9 : FP RX0 9 0 0 .int false := ⟨RX0, TX0, 5, tyX0, rfl, by decide, inWd0, Wd_of (List.mem_of_getElem? (i := 323) (by decide +kernel)) rfl, tyX0_ok, nmX0, rfl, rfl, fun h => by cases h⟩
theorem fw_X0_28 : FW RX0 28 2 2 0 := ⟨RX2, TX2, 9, rfl, by decide, inWd2, Wd_of (List.mem_of_getElem? (i := 135) (by decide +kernel)) rfl, rfl⟩
theorem fp_X0_19 : FP RX0 19 0 2 .int false := ⟨RX0, TX0, 5, tyX0, rfl, by decide, inWd0, Wd_of (List.mem_of_getElem? (i := 327) (by decide +kernel)) rfl, tyX0_ok, nmX0, rfl, rfl, fun h => by cases h⟩
theorem fw_X0_31 : FW RX0 31 2 3 0 := ⟨RX2, TX2, 9, rfl, by decide, inWd2, Wd_of (List.mem_of_getElem? (i := 139) (by decide +kernel)) rfl, rfl⟩
theorem fp_X0_22 : FP RX0 22 0 3 .int false := ⟨RX0, TX0, 5, tyX0, rfl, by decide, inWd0, Wd_of (List.mem_of_getElem? (i := 328) (by decide +kernel)) rfl, tyX0_ok, nmX0, rfl, rfl, fun h => by cases h⟩
theorem fp_X0_25 : FP RX0 25 0 4 .int false := ⟨RX0, TX0, 5, tyX0, rfl, by decide, inWd0, Wd_of (List.mem_of_getElem? (i := 329) (by decide +kernel)) rfl, tyX0_ok, nmX0, rfl, rfl, fun h => by cases h⟩
abbrev mX0_note : MD := (yX0_note, cX0_note, 2, none)
theorem fw_X0_9 : FW RX0 9 0 0 0 := ⟨RX0, TX0, 5, rfl, by decide, inWd0, Wd_of (List.mem_of_getElem? (i := 323) (by decide +kernel)) rfl, rfl⟩
theorem fw_X0_15 : FW RX0 15 0 1 2 := ⟨RX0, TX0, 5, rfl, by decide, inWd0, Wd_of (List.mem_of_getElem? (i := 325) (by decide +kernel)) rfl, rfl⟩
abbrev mX0_plainKeeps : MD := (yX0_plainKeeps, cX0_plainKeeps, 2, (some .int))
theorem mw_X0_32 : MW RX0 32 mX0_note 1 := ⟨Wd_of (List.mem_of_getElem? (i := 930) (by decide +kernel)) rfl, Wd_of (List.mem_of_getElem? (i := 89) (by decide +kernel)) rfl, Wd_of (List.mem_of_getElem? (i := 933) (by decide +kernel)) rfl, ⟨by decide, by decide, by decide +kernel⟩, by decide⟩
theorem mv_X0_note : MV mX0_note := ⟨Wd_of (List.mem_of_getElem? (i := 932) (by decide +kernel)) rfl, Wd_of (List.mem_of_getElem? (i := 18) (by decide +kernel)) rfl⟩
theorem fw_X0_25 : FW RX0 25 0 4 0 := ⟨RX0, TX0, 5, rfl, by decide, inWd0, Wd_of (List.mem_of_getElem? (i := 329) (by decide +kernel)) rfl, rfl⟩
abbrev mX0_keepsBody : MD := (yX0_keepsBody, cX0_keepsBody, 2, (some .int))
theorem fw_X0_19 : FW RX0 19 0 2 0 := ⟨RX0, TX0, 5, rfl, by decide, inWd0, Wd_of (List.mem_of_getElem? (i := 327) (by decide +kernel)) rfl, rfl⟩
theorem mw_X0_36 : MW RX0 36 mX0_plainKeeps 1 := ⟨Wd_of (List.mem_of_getElem? (i := 934) (by decide +kernel)) rfl, Wd_of (List.mem_of_getElem? (i := 89) (by decide +kernel)) rfl, Wd_of (List.mem_of_getElem? (i := 937) (by decide +kernel)) rfl, ⟨by decide, by decide, by decide +kernel⟩, by decide⟩
theorem mv_X0_plainKeeps : MV mX0_plainKeeps := ⟨Wd_of (List.mem_of_getElem? (i := 936) (by decide +kernel)) rfl, Wd_of (List.mem_of_getElem? (i := 19) (by decide +kernel)) rfl⟩
theorem fw_X0_22 : FW RX0 22 0 3 0 := ⟨RX0, TX0, 5, rfl, by decide, inWd0, Wd_of (List.mem_of_getElem? (i := 328) (by decide +kernel)) rfl, rfl⟩
abbrev mX0_plainSends : MD := (yX0_plainSends, cX0_plainSends, 2, (some .int))
theorem mw_X0_46 : MW RX0 46 mX0_keepsBody 1 := ⟨Wd_of (List.mem_of_getElem? (i := 946) (by decide +kernel)) rfl, Wd_of (List.mem_of_getElem? (i := 89) (by decide +kernel)) rfl, Wd_of (List.mem_of_getElem? (i := 929) (by decide +kernel)) rfl, ⟨by decide, by decide, by decide +kernel⟩, by decide⟩
theorem mv_X0_keepsBody : MV mX0_keepsBody := ⟨Wd_of (List.mem_of_getElem? (i := 927) (by decide +kernel)) rfl, Wd_of (List.mem_of_getElem? (i := 928) (by decide +kernel)) rfl⟩
abbrev mX0_sendsBody : MD := (yX0_sendsBody, cX0_sendsBody, 3, (some .int))
theorem mw_X0_40 : MW RX0 40 mX0_plainSends 1 := ⟨Wd_of (List.mem_of_getElem? (i := 942) (by decide +kernel)) rfl, Wd_of (List.mem_of_getElem? (i := 89) (by decide +kernel)) rfl, Wd_of (List.mem_of_getElem? (i := 945) (by decide +kernel)) rfl, ⟨by decide, by decide, by decide +kernel⟩, by decide⟩
theorem mv_X0_plainSends : MV mX0_plainSends := ⟨Wd_of (List.mem_of_getElem? (i := 944) (by decide +kernel)) rfl, Wd_of (List.mem_of_getElem? (i := 20) (by decide +kernel)) rfl⟩
abbrev mX0_tellsBody : MD := (yX0_tellsBody, cX0_tellsBody, 4, (some .int))
theorem mw_X0_43 : MW RX0 43 mX0_sendsBody 1 := ⟨Wd_of (List.mem_of_getElem? (i := 951) (by decide +kernel)) rfl, Wd_of (List.mem_of_getElem? (i := 89) (by decide +kernel)) rfl, Wd_of (List.mem_of_getElem? (i := 941) (by decide +kernel)) rfl, ⟨by decide, by decide, by decide +kernel⟩, by decide⟩
theorem mv_X0_sendsBody : MV mX0_sendsBody := ⟨Wd_of (List.mem_of_getElem? (i := 939) (by decide +kernel)) rfl, Wd_of (List.mem_of_getElem? (i := 940) (by decide +kernel)) rfl⟩
end
section
/-! java.lang.Integer.compare -/
theorem dJ6_compare_7cf53_0 : decode cJ6_compare_7cf53 0 = .ok (.iload_n 0, 1) := by decide +kernel
theorem dJ6_compare_7cf53_1 : decode cJ6_compare_7cf53 1 = .ok (.iload_n 1, 1) := by decide +kernel
theorem dJ6_compare_7cf53_2 : decode cJ6_compare_7cf53 2 = .ok (.if_icmp .ge 7, 3) := by decide +kernel
theorem dJ6_compare_7cf53_5 : decode cJ6_compare_7cf53 5 = .ok (.iconst (-1), 1) := by decide +kernel
theorem dJ6_compare_7cf53_6 : decode cJ6_compare_7cf53 6 = .ok (.goto 13, 3) := by decide +kernel
theorem dJ6_compare_7cf53_9 : decode cJ6_compare_7cf53 9 = .ok (.iload_n 0, 1) := by decide +kernel
theorem dJ6_compare_7cf53_10 : decode cJ6_compare_7cf53 10 = .ok (.iload_n 1, 1) := by decide +kernel
theorem dJ6_compare_7cf53_11 : decode cJ6_compare_7cf53 11 = .ok (.if_icmp .ne 7, 3) := by decide +kernel
theorem dJ6_compare_7cf53_14 : decode cJ6_compare_7cf53 14 = .ok (.iconst 0, 1) := by decide +kernel
theorem dJ6_compare_7cf53_15 : decode cJ6_compare_7cf53 15 = .ok (.goto 4, 3) := by decide +kernel
theorem dJ6_compare_7cf53_18 : decode cJ6_compare_7cf53 18 = .ok (.iconst 1, 1) := by decide +kernel
theorem dJ6_compare_7cf53_19 : decode cJ6_compare_7cf53 19 = .ok (.ireturn, 1) := by decide +kernel
def f_J6_compare_7cf53  (a0 : Int32) (a1 : Int32) (u : PM) : Option (Int32) :=
  if a1 ≤ a0 then
    if a0 = a1 then
      some (0 : Int32)
    else
    some (1 : Int32)
  else
  some (-1 : Int32)
set_option maxHeartbeats 4000000 in
set_option maxRecDepth 20000 in
theorem C_J6_compare_7cf53 {l : Launch}  {a0 : Int32} {a1 : Int32} {u : PM} {x : Int32} (hf : f_J6_compare_7cf53 a0 a1 u = some x) : Ev l mJ6_compare_7cf53 1 0 0 false [vI a0, vI a1] kC (en u) (some (vI x), kC, en u) := by
  refine Ev_of (by decide +kernel) (le_b rfl) ?_
  unfold f_J6_compare_7cf53 at hf
  show X l mJ6_compare_7cf53 1 0 0 false _ kC 0 0 0 [some (vI a0), some (vI a1)] [] (en u)
  refine r_iload_n (x := a0) dJ6_compare_7cf53_0 rfl ?_
  refine r_iload_n (x := a1) dJ6_compare_7cf53_1 rfl ?_
  refine r_icmp_ge (tgt := 9) dJ6_compare_7cf53_2 (by decide) (fun hc => ?_) (fun hc => ?_)
  · have hf := (am_if hf).1 hc
    refine r_iload_n (x := a0) dJ6_compare_7cf53_9 rfl ?_
    refine r_iload_n (x := a1) dJ6_compare_7cf53_10 rfl ?_
    refine r_icmp_ne (tgt := 18) dJ6_compare_7cf53_11 (by decide) (fun hc => ?_) (fun hc => ?_)
    · have hf := (am_if hf).2 hc
      refine r_iconst (v := 1) dJ6_compare_7cf53_18 rfl ?_
      have hx := am_inj hf
      subst hx
      exact r_iret dJ6_compare_7cf53_19 rfl rfl (le_b rfl) (le_b rfl)
    · have hf := (am_if hf).1 hc
      refine r_iconst (v := 0) dJ6_compare_7cf53_14 rfl ?_
      refine r_goto (tgt := 19) dJ6_compare_7cf53_15 (by decide) ?_
      have hx := am_inj hf
      subst hx
      exact r_iret dJ6_compare_7cf53_19 rfl rfl (le_b rfl) (le_b rfl)
  · have hf := (am_if hf).2 hc
    refine r_iconst (v := -1) dJ6_compare_7cf53_5 rfl ?_
    refine r_goto (tgt := 19) dJ6_compare_7cf53_6 (by decide) ?_
    have hx := am_inj hf
    subst hx
    exact r_iret dJ6_compare_7cf53_19 rfl rfl (le_b rfl) (le_b rfl)
/-! java.lang.Integer.bitCount -/
theorem dJ6_bitCount_0f7a4_0 : decode cJ6_bitCount_0f7a4 0 = .ok (.iload_n 0, 1) := by decide +kernel
theorem dJ6_bitCount_0f7a4_1 : decode cJ6_bitCount_0f7a4 1 = .ok (.iload_n 0, 1) := by decide +kernel
theorem dJ6_bitCount_0f7a4_2 : decode cJ6_bitCount_0f7a4 2 = .ok (.iconst 1, 1) := by decide +kernel
theorem dJ6_bitCount_0f7a4_3 : decode cJ6_bitCount_0f7a4 3 = .ok (.iushr, 1) := by decide +kernel
theorem dJ6_bitCount_0f7a4_4 : decode cJ6_bitCount_0f7a4 4 = .ok (.ldc_w 265, 3) := by decide +kernel
theorem dJ6_bitCount_0f7a4_7 : decode cJ6_bitCount_0f7a4 7 = .ok (.iand, 1) := by decide +kernel
theorem dJ6_bitCount_0f7a4_8 : decode cJ6_bitCount_0f7a4 8 = .ok (.isub, 1) := by decide +kernel
theorem dJ6_bitCount_0f7a4_9 : decode cJ6_bitCount_0f7a4 9 = .ok (.istore_n 0, 1) := by decide +kernel
theorem dJ6_bitCount_0f7a4_10 : decode cJ6_bitCount_0f7a4 10 = .ok (.iload_n 0, 1) := by decide +kernel
theorem dJ6_bitCount_0f7a4_11 : decode cJ6_bitCount_0f7a4 11 = .ok (.ldc_w 266, 3) := by decide +kernel
theorem dJ6_bitCount_0f7a4_14 : decode cJ6_bitCount_0f7a4 14 = .ok (.iand, 1) := by decide +kernel
theorem dJ6_bitCount_0f7a4_15 : decode cJ6_bitCount_0f7a4 15 = .ok (.iload_n 0, 1) := by decide +kernel
theorem dJ6_bitCount_0f7a4_16 : decode cJ6_bitCount_0f7a4 16 = .ok (.iconst 2, 1) := by decide +kernel
theorem dJ6_bitCount_0f7a4_17 : decode cJ6_bitCount_0f7a4 17 = .ok (.iushr, 1) := by decide +kernel
theorem dJ6_bitCount_0f7a4_18 : decode cJ6_bitCount_0f7a4 18 = .ok (.ldc_w 266, 3) := by decide +kernel
theorem dJ6_bitCount_0f7a4_21 : decode cJ6_bitCount_0f7a4 21 = .ok (.iand, 1) := by decide +kernel
theorem dJ6_bitCount_0f7a4_22 : decode cJ6_bitCount_0f7a4 22 = .ok (.iadd, 1) := by decide +kernel
theorem dJ6_bitCount_0f7a4_23 : decode cJ6_bitCount_0f7a4 23 = .ok (.istore_n 0, 1) := by decide +kernel
theorem dJ6_bitCount_0f7a4_24 : decode cJ6_bitCount_0f7a4 24 = .ok (.iload_n 0, 1) := by decide +kernel
theorem dJ6_bitCount_0f7a4_25 : decode cJ6_bitCount_0f7a4 25 = .ok (.iload_n 0, 1) := by decide +kernel
theorem dJ6_bitCount_0f7a4_26 : decode cJ6_bitCount_0f7a4 26 = .ok (.iconst 4, 1) := by decide +kernel
theorem dJ6_bitCount_0f7a4_27 : decode cJ6_bitCount_0f7a4 27 = .ok (.iushr, 1) := by decide +kernel
theorem dJ6_bitCount_0f7a4_28 : decode cJ6_bitCount_0f7a4 28 = .ok (.iadd, 1) := by decide +kernel
theorem dJ6_bitCount_0f7a4_29 : decode cJ6_bitCount_0f7a4 29 = .ok (.ldc_w 267, 3) := by decide +kernel
theorem dJ6_bitCount_0f7a4_32 : decode cJ6_bitCount_0f7a4 32 = .ok (.iand, 1) := by decide +kernel
theorem dJ6_bitCount_0f7a4_33 : decode cJ6_bitCount_0f7a4 33 = .ok (.istore_n 0, 1) := by decide +kernel
theorem dJ6_bitCount_0f7a4_34 : decode cJ6_bitCount_0f7a4 34 = .ok (.iload_n 0, 1) := by decide +kernel
theorem dJ6_bitCount_0f7a4_35 : decode cJ6_bitCount_0f7a4 35 = .ok (.iload_n 0, 1) := by decide +kernel
theorem dJ6_bitCount_0f7a4_36 : decode cJ6_bitCount_0f7a4 36 = .ok (.bipush 8, 2) := by decide +kernel
theorem dJ6_bitCount_0f7a4_38 : decode cJ6_bitCount_0f7a4 38 = .ok (.iushr, 1) := by decide +kernel
theorem dJ6_bitCount_0f7a4_39 : decode cJ6_bitCount_0f7a4 39 = .ok (.iadd, 1) := by decide +kernel
theorem dJ6_bitCount_0f7a4_40 : decode cJ6_bitCount_0f7a4 40 = .ok (.istore_n 0, 1) := by decide +kernel
theorem dJ6_bitCount_0f7a4_41 : decode cJ6_bitCount_0f7a4 41 = .ok (.iload_n 0, 1) := by decide +kernel
theorem dJ6_bitCount_0f7a4_42 : decode cJ6_bitCount_0f7a4 42 = .ok (.iload_n 0, 1) := by decide +kernel
theorem dJ6_bitCount_0f7a4_43 : decode cJ6_bitCount_0f7a4 43 = .ok (.bipush 16, 2) := by decide +kernel
theorem dJ6_bitCount_0f7a4_45 : decode cJ6_bitCount_0f7a4 45 = .ok (.iushr, 1) := by decide +kernel
theorem dJ6_bitCount_0f7a4_46 : decode cJ6_bitCount_0f7a4 46 = .ok (.iadd, 1) := by decide +kernel
theorem dJ6_bitCount_0f7a4_47 : decode cJ6_bitCount_0f7a4 47 = .ok (.istore_n 0, 1) := by decide +kernel
theorem dJ6_bitCount_0f7a4_48 : decode cJ6_bitCount_0f7a4 48 = .ok (.iload_n 0, 1) := by decide +kernel
theorem dJ6_bitCount_0f7a4_49 : decode cJ6_bitCount_0f7a4 49 = .ok (.bipush 63, 2) := by decide +kernel
theorem dJ6_bitCount_0f7a4_51 : decode cJ6_bitCount_0f7a4 51 = .ok (.iand, 1) := by decide +kernel
theorem dJ6_bitCount_0f7a4_52 : decode cJ6_bitCount_0f7a4 52 = .ok (.ireturn, 1) := by decide +kernel
def f_J6_bitCount_0f7a4  (a0 : Int32) (u : PM) : Option (Int32) :=
  some ((((((((a0 - (((a0.toUInt32 >>> ((1 : Int32).toUInt32 &&& Int32.toUInt32 31)).toInt32) &&& (1431655765 : Int32))) &&& (858993459 : Int32)) + ((((a0 - (((a0.toUInt32 >>> ((1 : Int32).toUInt32 &&& Int32.toUInt32 31)).toInt32) &&& (1431655765 : Int32))).toUInt32 >>> ((2 : Int32).toUInt32 &&& Int32.toUInt32 31)).toInt32) &&& (858993459 : Int32))) + (((((a0 - (((a0.toUInt32 >>> ((1 : Int32).toUInt32 &&& Int32.toUInt32 31)).toInt32) &&& (1431655765 : Int32))) &&& (858993459 : Int32)) + ((((a0 - (((a0.toUInt32 >>> ((1 : Int32).toUInt32 &&& Int32.toUInt32 31)).toInt32) &&& (1431655765 : Int32))).toUInt32 >>> ((2 : Int32).toUInt32 &&& Int32.toUInt32 31)).toInt32) &&& (858993459 : Int32))).toUInt32 >>> ((4 : Int32).toUInt32 &&& Int32.toUInt32 31)).toInt32)) &&& (252645135 : Int32)) + (((((((a0 - (((a0.toUInt32 >>> ((1 : Int32).toUInt32 &&& Int32.toUInt32 31)).toInt32) &&& (1431655765 : Int32))) &&& (858993459 : Int32)) + ((((a0 - (((a0.toUInt32 >>> ((1 : Int32).toUInt32 &&& Int32.toUInt32 31)).toInt32) &&& (1431655765 : Int32))).toUInt32 >>> ((2 : Int32).toUInt32 &&& Int32.toUInt32 31)).toInt32) &&& (858993459 : Int32))) + (((((a0 - (((a0.toUInt32 >>> ((1 : Int32).toUInt32 &&& Int32.toUInt32 31)).toInt32) &&& (1431655765 : Int32))) &&& (858993459 : Int32)) + ((((a0 - (((a0.toUInt32 >>> ((1 : Int32).toUInt32 &&& Int32.toUInt32 31)).toInt32) &&& (1431655765 : Int32))).toUInt32 >>> ((2 : Int32).toUInt32 &&& Int32.toUInt32 31)).toInt32) &&& (858993459 : Int32))).toUInt32 >>> ((4 : Int32).toUInt32 &&& Int32.toUInt32 31)).toInt32)) &&& (252645135 : Int32)).toUInt32 >>> ((8 : Int32).toUInt32 &&& Int32.toUInt32 31)).toInt32)) + ((((((((a0 - (((a0.toUInt32 >>> ((1 : Int32).toUInt32 &&& Int32.toUInt32 31)).toInt32) &&& (1431655765 : Int32))) &&& (858993459 : Int32)) + ((((a0 - (((a0.toUInt32 >>> ((1 : Int32).toUInt32 &&& Int32.toUInt32 31)).toInt32) &&& (1431655765 : Int32))).toUInt32 >>> ((2 : Int32).toUInt32 &&& Int32.toUInt32 31)).toInt32) &&& (858993459 : Int32))) + (((((a0 - (((a0.toUInt32 >>> ((1 : Int32).toUInt32 &&& Int32.toUInt32 31)).toInt32) &&& (1431655765 : Int32))) &&& (858993459 : Int32)) + ((((a0 - (((a0.toUInt32 >>> ((1 : Int32).toUInt32 &&& Int32.toUInt32 31)).toInt32) &&& (1431655765 : Int32))).toUInt32 >>> ((2 : Int32).toUInt32 &&& Int32.toUInt32 31)).toInt32) &&& (858993459 : Int32))).toUInt32 >>> ((4 : Int32).toUInt32 &&& Int32.toUInt32 31)).toInt32)) &&& (252645135 : Int32)) + (((((((a0 - (((a0.toUInt32 >>> ((1 : Int32).toUInt32 &&& Int32.toUInt32 31)).toInt32) &&& (1431655765 : Int32))) &&& (858993459 : Int32)) + ((((a0 - (((a0.toUInt32 >>> ((1 : Int32).toUInt32 &&& Int32.toUInt32 31)).toInt32) &&& (1431655765 : Int32))).toUInt32 >>> ((2 : Int32).toUInt32 &&& Int32.toUInt32 31)).toInt32) &&& (858993459 : Int32))) + (((((a0 - (((a0.toUInt32 >>> ((1 : Int32).toUInt32 &&& Int32.toUInt32 31)).toInt32) &&& (1431655765 : Int32))) &&& (858993459 : Int32)) + ((((a0 - (((a0.toUInt32 >>> ((1 : Int32).toUInt32 &&& Int32.toUInt32 31)).toInt32) &&& (1431655765 : Int32))).toUInt32 >>> ((2 : Int32).toUInt32 &&& Int32.toUInt32 31)).toInt32) &&& (858993459 : Int32))).toUInt32 >>> ((4 : Int32).toUInt32 &&& Int32.toUInt32 31)).toInt32)) &&& (252645135 : Int32)).toUInt32 >>> ((8 : Int32).toUInt32 &&& Int32.toUInt32 31)).toInt32)).toUInt32 >>> ((16 : Int32).toUInt32 &&& Int32.toUInt32 31)).toInt32)) &&& (63 : Int32))
set_option maxHeartbeats 4000000 in
set_option maxRecDepth 20000 in
theorem C_J6_bitCount_0f7a4 {l : Launch}  {a0 : Int32} {u : PM} {x : Int32} (hf : f_J6_bitCount_0f7a4 a0 u = some x) : Ev l mJ6_bitCount_0f7a4 1 0 0 false [vI a0] kC (en u) (some (vI x), kC, en u) := by
  refine Ev_of (by decide +kernel) (le_b rfl) ?_
  unfold f_J6_bitCount_0f7a4 at hf
  show X l mJ6_bitCount_0f7a4 1 0 0 false _ kC 0 0 0 [some (vI a0)] [] (en u)
  refine r_iload_n (x := a0) dJ6_bitCount_0f7a4_0 rfl ?_
  refine r_iload_n (x := a0) dJ6_bitCount_0f7a4_1 rfl ?_
  refine r_iconst (v := 1) dJ6_bitCount_0f7a4_2 rfl ?_
  refine r_iushr dJ6_bitCount_0f7a4_3 ?_
  refine r_ldcw (v := 1431655765) dJ6_bitCount_0f7a4_4 cc_J6_265 ?_
  refine r_iand dJ6_bitCount_0f7a4_7 ?_
  refine r_isub dJ6_bitCount_0f7a4_8 ?_
  refine r_istore_n (L' := [some (vI (a0 - (((a0.toUInt32 >>> ((1 : Int32).toUInt32 &&& Int32.toUInt32 31)).toInt32) &&& (1431655765 : Int32))))]) dJ6_bitCount_0f7a4_9 (by decide) rfl ?_
  refine r_iload_n (x := a0 - (((a0.toUInt32 >>> ((1 : Int32).toUInt32 &&& Int32.toUInt32 31)).toInt32) &&& (1431655765 : Int32))) dJ6_bitCount_0f7a4_10 rfl ?_
  refine r_ldcw (v := 858993459) dJ6_bitCount_0f7a4_11 cc_J6_266 ?_
  refine r_iand dJ6_bitCount_0f7a4_14 ?_
  refine r_iload_n (x := a0 - (((a0.toUInt32 >>> ((1 : Int32).toUInt32 &&& Int32.toUInt32 31)).toInt32) &&& (1431655765 : Int32))) dJ6_bitCount_0f7a4_15 rfl ?_
  refine r_iconst (v := 2) dJ6_bitCount_0f7a4_16 rfl ?_
  refine r_iushr dJ6_bitCount_0f7a4_17 ?_
  refine r_ldcw (v := 858993459) dJ6_bitCount_0f7a4_18 cc_J6_266 ?_
  refine r_iand dJ6_bitCount_0f7a4_21 ?_
  refine r_iadd dJ6_bitCount_0f7a4_22 ?_
  refine r_istore_n (L' := [some (vI (((a0 - (((a0.toUInt32 >>> ((1 : Int32).toUInt32 &&& Int32.toUInt32 31)).toInt32) &&& (1431655765 : Int32))) &&& (858993459 : Int32)) + ((((a0 - (((a0.toUInt32 >>> ((1 : Int32).toUInt32 &&& Int32.toUInt32 31)).toInt32) &&& (1431655765 : Int32))).toUInt32 >>> ((2 : Int32).toUInt32 &&& Int32.toUInt32 31)).toInt32) &&& (858993459 : Int32))))]) dJ6_bitCount_0f7a4_23 (by decide) rfl ?_
  refine r_iload_n (x := ((a0 - (((a0.toUInt32 >>> ((1 : Int32).toUInt32 &&& Int32.toUInt32 31)).toInt32) &&& (1431655765 : Int32))) &&& (858993459 : Int32)) + ((((a0 - (((a0.toUInt32 >>> ((1 : Int32).toUInt32 &&& Int32.toUInt32 31)).toInt32) &&& (1431655765 : Int32))).toUInt32 >>> ((2 : Int32).toUInt32 &&& Int32.toUInt32 31)).toInt32) &&& (858993459 : Int32))) dJ6_bitCount_0f7a4_24 rfl ?_
  refine r_iload_n (x := ((a0 - (((a0.toUInt32 >>> ((1 : Int32).toUInt32 &&& Int32.toUInt32 31)).toInt32) &&& (1431655765 : Int32))) &&& (858993459 : Int32)) + ((((a0 - (((a0.toUInt32 >>> ((1 : Int32).toUInt32 &&& Int32.toUInt32 31)).toInt32) &&& (1431655765 : Int32))).toUInt32 >>> ((2 : Int32).toUInt32 &&& Int32.toUInt32 31)).toInt32) &&& (858993459 : Int32))) dJ6_bitCount_0f7a4_25 rfl ?_
  refine r_iconst (v := 4) dJ6_bitCount_0f7a4_26 rfl ?_
  refine r_iushr dJ6_bitCount_0f7a4_27 ?_
  refine r_iadd dJ6_bitCount_0f7a4_28 ?_
  refine r_ldcw (v := 252645135) dJ6_bitCount_0f7a4_29 cc_J6_267 ?_
  refine r_iand dJ6_bitCount_0f7a4_32 ?_
  refine r_istore_n (L' := [some (vI (((((a0 - (((a0.toUInt32 >>> ((1 : Int32).toUInt32 &&& Int32.toUInt32 31)).toInt32) &&& (1431655765 : Int32))) &&& (858993459 : Int32)) + ((((a0 - (((a0.toUInt32 >>> ((1 : Int32).toUInt32 &&& Int32.toUInt32 31)).toInt32) &&& (1431655765 : Int32))).toUInt32 >>> ((2 : Int32).toUInt32 &&& Int32.toUInt32 31)).toInt32) &&& (858993459 : Int32))) + (((((a0 - (((a0.toUInt32 >>> ((1 : Int32).toUInt32 &&& Int32.toUInt32 31)).toInt32) &&& (1431655765 : Int32))) &&& (858993459 : Int32)) + ((((a0 - (((a0.toUInt32 >>> ((1 : Int32).toUInt32 &&& Int32.toUInt32 31)).toInt32) &&& (1431655765 : Int32))).toUInt32 >>> ((2 : Int32).toUInt32 &&& Int32.toUInt32 31)).toInt32) &&& (858993459 : Int32))).toUInt32 >>> ((4 : Int32).toUInt32 &&& Int32.toUInt32 31)).toInt32)) &&& (252645135 : Int32)))]) dJ6_bitCount_0f7a4_33 (by decide) rfl ?_
  refine r_iload_n (x := ((((a0 - (((a0.toUInt32 >>> ((1 : Int32).toUInt32 &&& Int32.toUInt32 31)).toInt32) &&& (1431655765 : Int32))) &&& (858993459 : Int32)) + ((((a0 - (((a0.toUInt32 >>> ((1 : Int32).toUInt32 &&& Int32.toUInt32 31)).toInt32) &&& (1431655765 : Int32))).toUInt32 >>> ((2 : Int32).toUInt32 &&& Int32.toUInt32 31)).toInt32) &&& (858993459 : Int32))) + (((((a0 - (((a0.toUInt32 >>> ((1 : Int32).toUInt32 &&& Int32.toUInt32 31)).toInt32) &&& (1431655765 : Int32))) &&& (858993459 : Int32)) + ((((a0 - (((a0.toUInt32 >>> ((1 : Int32).toUInt32 &&& Int32.toUInt32 31)).toInt32) &&& (1431655765 : Int32))).toUInt32 >>> ((2 : Int32).toUInt32 &&& Int32.toUInt32 31)).toInt32) &&& (858993459 : Int32))).toUInt32 >>> ((4 : Int32).toUInt32 &&& Int32.toUInt32 31)).toInt32)) &&& (252645135 : Int32)) dJ6_bitCount_0f7a4_34 rfl ?_
  refine r_iload_n (x := ((((a0 - (((a0.toUInt32 >>> ((1 : Int32).toUInt32 &&& Int32.toUInt32 31)).toInt32) &&& (1431655765 : Int32))) &&& (858993459 : Int32)) + ((((a0 - (((a0.toUInt32 >>> ((1 : Int32).toUInt32 &&& Int32.toUInt32 31)).toInt32) &&& (1431655765 : Int32))).toUInt32 >>> ((2 : Int32).toUInt32 &&& Int32.toUInt32 31)).toInt32) &&& (858993459 : Int32))) + (((((a0 - (((a0.toUInt32 >>> ((1 : Int32).toUInt32 &&& Int32.toUInt32 31)).toInt32) &&& (1431655765 : Int32))) &&& (858993459 : Int32)) + ((((a0 - (((a0.toUInt32 >>> ((1 : Int32).toUInt32 &&& Int32.toUInt32 31)).toInt32) &&& (1431655765 : Int32))).toUInt32 >>> ((2 : Int32).toUInt32 &&& Int32.toUInt32 31)).toInt32) &&& (858993459 : Int32))).toUInt32 >>> ((4 : Int32).toUInt32 &&& Int32.toUInt32 31)).toInt32)) &&& (252645135 : Int32)) dJ6_bitCount_0f7a4_35 rfl ?_
  refine r_bipush (v := 8) dJ6_bitCount_0f7a4_36 rfl ?_
  refine r_iushr dJ6_bitCount_0f7a4_38 ?_
  refine r_iadd dJ6_bitCount_0f7a4_39 ?_
  refine r_istore_n (L' := [some (vI ((((((a0 - (((a0.toUInt32 >>> ((1 : Int32).toUInt32 &&& Int32.toUInt32 31)).toInt32) &&& (1431655765 : Int32))) &&& (858993459 : Int32)) + ((((a0 - (((a0.toUInt32 >>> ((1 : Int32).toUInt32 &&& Int32.toUInt32 31)).toInt32) &&& (1431655765 : Int32))).toUInt32 >>> ((2 : Int32).toUInt32 &&& Int32.toUInt32 31)).toInt32) &&& (858993459 : Int32))) + (((((a0 - (((a0.toUInt32 >>> ((1 : Int32).toUInt32 &&& Int32.toUInt32 31)).toInt32) &&& (1431655765 : Int32))) &&& (858993459 : Int32)) + ((((a0 - (((a0.toUInt32 >>> ((1 : Int32).toUInt32 &&& Int32.toUInt32 31)).toInt32) &&& (1431655765 : Int32))).toUInt32 >>> ((2 : Int32).toUInt32 &&& Int32.toUInt32 31)).toInt32) &&& (858993459 : Int32))).toUInt32 >>> ((4 : Int32).toUInt32 &&& Int32.toUInt32 31)).toInt32)) &&& (252645135 : Int32)) + (((((((a0 - (((a0.toUInt32 >>> ((1 : Int32).toUInt32 &&& Int32.toUInt32 31)).toInt32) &&& (1431655765 : Int32))) &&& (858993459 : Int32)) + ((((a0 - (((a0.toUInt32 >>> ((1 : Int32).toUInt32 &&& Int32.toUInt32 31)).toInt32) &&& (1431655765 : Int32))).toUInt32 >>> ((2 : Int32).toUInt32 &&& Int32.toUInt32 31)).toInt32) &&& (858993459 : Int32))) + (((((a0 - (((a0.toUInt32 >>> ((1 : Int32).toUInt32 &&& Int32.toUInt32 31)).toInt32) &&& (1431655765 : Int32))) &&& (858993459 : Int32)) + ((((a0 - (((a0.toUInt32 >>> ((1 : Int32).toUInt32 &&& Int32.toUInt32 31)).toInt32) &&& (1431655765 : Int32))).toUInt32 >>> ((2 : Int32).toUInt32 &&& Int32.toUInt32 31)).toInt32) &&& (858993459 : Int32))).toUInt32 >>> ((4 : Int32).toUInt32 &&& Int32.toUInt32 31)).toInt32)) &&& (252645135 : Int32)).toUInt32 >>> ((8 : Int32).toUInt32 &&& Int32.toUInt32 31)).toInt32)))]) dJ6_bitCount_0f7a4_40 (by decide) rfl ?_
  refine r_iload_n (x := (((((a0 - (((a0.toUInt32 >>> ((1 : Int32).toUInt32 &&& Int32.toUInt32 31)).toInt32) &&& (1431655765 : Int32))) &&& (858993459 : Int32)) + ((((a0 - (((a0.toUInt32 >>> ((1 : Int32).toUInt32 &&& Int32.toUInt32 31)).toInt32) &&& (1431655765 : Int32))).toUInt32 >>> ((2 : Int32).toUInt32 &&& Int32.toUInt32 31)).toInt32) &&& (858993459 : Int32))) + (((((a0 - (((a0.toUInt32 >>> ((1 : Int32).toUInt32 &&& Int32.toUInt32 31)).toInt32) &&& (1431655765 : Int32))) &&& (858993459 : Int32)) + ((((a0 - (((a0.toUInt32 >>> ((1 : Int32).toUInt32 &&& Int32.toUInt32 31)).toInt32) &&& (1431655765 : Int32))).toUInt32 >>> ((2 : Int32).toUInt32 &&& Int32.toUInt32 31)).toInt32) &&& (858993459 : Int32))).toUInt32 >>> ((4 : Int32).toUInt32 &&& Int32.toUInt32 31)).toInt32)) &&& (252645135 : Int32)) + (((((((a0 - (((a0.toUInt32 >>> ((1 : Int32).toUInt32 &&& Int32.toUInt32 31)).toInt32) &&& (1431655765 : Int32))) &&& (858993459 : Int32)) + ((((a0 - (((a0.toUInt32 >>> ((1 : Int32).toUInt32 &&& Int32.toUInt32 31)).toInt32) &&& (1431655765 : Int32))).toUInt32 >>> ((2 : Int32).toUInt32 &&& Int32.toUInt32 31)).toInt32) &&& (858993459 : Int32))) + (((((a0 - (((a0.toUInt32 >>> ((1 : Int32).toUInt32 &&& Int32.toUInt32 31)).toInt32) &&& (1431655765 : Int32))) &&& (858993459 : Int32)) + ((((a0 - (((a0.toUInt32 >>> ((1 : Int32).toUInt32 &&& Int32.toUInt32 31)).toInt32) &&& (1431655765 : Int32))).toUInt32 >>> ((2 : Int32).toUInt32 &&& Int32.toUInt32 31)).toInt32) &&& (858993459 : Int32))).toUInt32 >>> ((4 : Int32).toUInt32 &&& Int32.toUInt32 31)).toInt32)) &&& (252645135 : Int32)).toUInt32 >>> ((8 : Int32).toUInt32 &&& Int32.toUInt32 31)).toInt32)) dJ6_bitCount_0f7a4_41 rfl ?_
  refine r_iload_n (x := (((((a0 - (((a0.toUInt32 >>> ((1 : Int32).toUInt32 &&& Int32.toUInt32 31)).toInt32) &&& (1431655765 : Int32))) &&& (858993459 : Int32)) + ((((a0 - (((a0.toUInt32 >>> ((1 : Int32).toUInt32 &&& Int32.toUInt32 31)).toInt32) &&& (1431655765 : Int32))).toUInt32 >>> ((2 : Int32).toUInt32 &&& Int32.toUInt32 31)).toInt32) &&& (858993459 : Int32))) + (((((a0 - (((a0.toUInt32 >>> ((1 : Int32).toUInt32 &&& Int32.toUInt32 31)).toInt32) &&& (1431655765 : Int32))) &&& (858993459 : Int32)) + ((((a0 - (((a0.toUInt32 >>> ((1 : Int32).toUInt32 &&& Int32.toUInt32 31)).toInt32) &&& (1431655765 : Int32))).toUInt32 >>> ((2 : Int32).toUInt32 &&& Int32.toUInt32 31)).toInt32) &&& (858993459 : Int32))).toUInt32 >>> ((4 : Int32).toUInt32 &&& Int32.toUInt32 31)).toInt32)) &&& (252645135 : Int32)) + (((((((a0 - (((a0.toUInt32 >>> ((1 : Int32).toUInt32 &&& Int32.toUInt32 31)).toInt32) &&& (1431655765 : Int32))) &&& (858993459 : Int32)) + ((((a0 - (((a0.toUInt32 >>> ((1 : Int32).toUInt32 &&& Int32.toUInt32 31)).toInt32) &&& (1431655765 : Int32))).toUInt32 >>> ((2 : Int32).toUInt32 &&& Int32.toUInt32 31)).toInt32) &&& (858993459 : Int32))) + (((((a0 - (((a0.toUInt32 >>> ((1 : Int32).toUInt32 &&& Int32.toUInt32 31)).toInt32) &&& (1431655765 : Int32))) &&& (858993459 : Int32)) + ((((a0 - (((a0.toUInt32 >>> ((1 : Int32).toUInt32 &&& Int32.toUInt32 31)).toInt32) &&& (1431655765 : Int32))).toUInt32 >>> ((2 : Int32).toUInt32 &&& Int32.toUInt32 31)).toInt32) &&& (858993459 : Int32))).toUInt32 >>> ((4 : Int32).toUInt32 &&& Int32.toUInt32 31)).toInt32)) &&& (252645135 : Int32)).toUInt32 >>> ((8 : Int32).toUInt32 &&& Int32.toUInt32 31)).toInt32)) dJ6_bitCount_0f7a4_42 rfl ?_
  refine r_bipush (v := 16) dJ6_bitCount_0f7a4_43 rfl ?_
  refine r_iushr dJ6_bitCount_0f7a4_45 ?_
  refine r_iadd dJ6_bitCount_0f7a4_46 ?_
  refine r_istore_n (L' := [some (vI (((((((a0 - (((a0.toUInt32 >>> ((1 : Int32).toUInt32 &&& Int32.toUInt32 31)).toInt32) &&& (1431655765 : Int32))) &&& (858993459 : Int32)) + ((((a0 - (((a0.toUInt32 >>> ((1 : Int32).toUInt32 &&& Int32.toUInt32 31)).toInt32) &&& (1431655765 : Int32))).toUInt32 >>> ((2 : Int32).toUInt32 &&& Int32.toUInt32 31)).toInt32) &&& (858993459 : Int32))) + (((((a0 - (((a0.toUInt32 >>> ((1 : Int32).toUInt32 &&& Int32.toUInt32 31)).toInt32) &&& (1431655765 : Int32))) &&& (858993459 : Int32)) + ((((a0 - (((a0.toUInt32 >>> ((1 : Int32).toUInt32 &&& Int32.toUInt32 31)).toInt32) &&& (1431655765 : Int32))).toUInt32 >>> ((2 : Int32).toUInt32 &&& Int32.toUInt32 31)).toInt32) &&& (858993459 : Int32))).toUInt32 >>> ((4 : Int32).toUInt32 &&& Int32.toUInt32 31)).toInt32)) &&& (252645135 : Int32)) + (((((((a0 - (((a0.toUInt32 >>> ((1 : Int32).toUInt32 &&& Int32.toUInt32 31)).toInt32) &&& (1431655765 : Int32))) &&& (858993459 : Int32)) + ((((a0 - (((a0.toUInt32 >>> ((1 : Int32).toUInt32 &&& Int32.toUInt32 31)).toInt32) &&& (1431655765 : Int32))).toUInt32 >>> ((2 : Int32).toUInt32 &&& Int32.toUInt32 31)).toInt32) &&& (858993459 : Int32))) + (((((a0 - (((a0.toUInt32 >>> ((1 : Int32).toUInt32 &&& Int32.toUInt32 31)).toInt32) &&& (1431655765 : Int32))) &&& (858993459 : Int32)) + ((((a0 - (((a0.toUInt32 >>> ((1 : Int32).toUInt32 &&& Int32.toUInt32 31)).toInt32) &&& (1431655765 : Int32))).toUInt32 >>> ((2 : Int32).toUInt32 &&& Int32.toUInt32 31)).toInt32) &&& (858993459 : Int32))).toUInt32 >>> ((4 : Int32).toUInt32 &&& Int32.toUInt32 31)).toInt32)) &&& (252645135 : Int32)).toUInt32 >>> ((8 : Int32).toUInt32 &&& Int32.toUInt32 31)).toInt32)) + ((((((((a0 - (((a0.toUInt32 >>> ((1 : Int32).toUInt32 &&& Int32.toUInt32 31)).toInt32) &&& (1431655765 : Int32))) &&& (858993459 : Int32)) + ((((a0 - (((a0.toUInt32 >>> ((1 : Int32).toUInt32 &&& Int32.toUInt32 31)).toInt32) &&& (1431655765 : Int32))).toUInt32 >>> ((2 : Int32).toUInt32 &&& Int32.toUInt32 31)).toInt32) &&& (858993459 : Int32))) + (((((a0 - (((a0.toUInt32 >>> ((1 : Int32).toUInt32 &&& Int32.toUInt32 31)).toInt32) &&& (1431655765 : Int32))) &&& (858993459 : Int32)) + ((((a0 - (((a0.toUInt32 >>> ((1 : Int32).toUInt32 &&& Int32.toUInt32 31)).toInt32) &&& (1431655765 : Int32))).toUInt32 >>> ((2 : Int32).toUInt32 &&& Int32.toUInt32 31)).toInt32) &&& (858993459 : Int32))).toUInt32 >>> ((4 : Int32).toUInt32 &&& Int32.toUInt32 31)).toInt32)) &&& (252645135 : Int32)) + (((((((a0 - (((a0.toUInt32 >>> ((1 : Int32).toUInt32 &&& Int32.toUInt32 31)).toInt32) &&& (1431655765 : Int32))) &&& (858993459 : Int32)) + ((((a0 - (((a0.toUInt32 >>> ((1 : Int32).toUInt32 &&& Int32.toUInt32 31)).toInt32) &&& (1431655765 : Int32))).toUInt32 >>> ((2 : Int32).toUInt32 &&& Int32.toUInt32 31)).toInt32) &&& (858993459 : Int32))) + (((((a0 - (((a0.toUInt32 >>> ((1 : Int32).toUInt32 &&& Int32.toUInt32 31)).toInt32) &&& (1431655765 : Int32))) &&& (858993459 : Int32)) + ((((a0 - (((a0.toUInt32 >>> ((1 : Int32).toUInt32 &&& Int32.toUInt32 31)).toInt32) &&& (1431655765 : Int32))).toUInt32 >>> ((2 : Int32).toUInt32 &&& Int32.toUInt32 31)).toInt32) &&& (858993459 : Int32))).toUInt32 >>> ((4 : Int32).toUInt32 &&& Int32.toUInt32 31)).toInt32)) &&& (252645135 : Int32)).toUInt32 >>> ((8 : Int32).toUInt32 &&& Int32.toUInt32 31)).toInt32)).toUInt32 >>> ((16 : Int32).toUInt32 &&& Int32.toUInt32 31)).toInt32)))]) dJ6_bitCount_0f7a4_47 (by decide) rfl ?_
  refine r_iload_n (x := ((((((a0 - (((a0.toUInt32 >>> ((1 : Int32).toUInt32 &&& Int32.toUInt32 31)).toInt32) &&& (1431655765 : Int32))) &&& (858993459 : Int32)) + ((((a0 - (((a0.toUInt32 >>> ((1 : Int32).toUInt32 &&& Int32.toUInt32 31)).toInt32) &&& (1431655765 : Int32))).toUInt32 >>> ((2 : Int32).toUInt32 &&& Int32.toUInt32 31)).toInt32) &&& (858993459 : Int32))) + (((((a0 - (((a0.toUInt32 >>> ((1 : Int32).toUInt32 &&& Int32.toUInt32 31)).toInt32) &&& (1431655765 : Int32))) &&& (858993459 : Int32)) + ((((a0 - (((a0.toUInt32 >>> ((1 : Int32).toUInt32 &&& Int32.toUInt32 31)).toInt32) &&& (1431655765 : Int32))).toUInt32 >>> ((2 : Int32).toUInt32 &&& Int32.toUInt32 31)).toInt32) &&& (858993459 : Int32))).toUInt32 >>> ((4 : Int32).toUInt32 &&& Int32.toUInt32 31)).toInt32)) &&& (252645135 : Int32)) + (((((((a0 - (((a0.toUInt32 >>> ((1 : Int32).toUInt32 &&& Int32.toUInt32 31)).toInt32) &&& (1431655765 : Int32))) &&& (858993459 : Int32)) + ((((a0 - (((a0.toUInt32 >>> ((1 : Int32).toUInt32 &&& Int32.toUInt32 31)).toInt32) &&& (1431655765 : Int32))).toUInt32 >>> ((2 : Int32).toUInt32 &&& Int32.toUInt32 31)).toInt32) &&& (858993459 : Int32))) + (((((a0 - (((a0.toUInt32 >>> ((1 : Int32).toUInt32 &&& Int32.toUInt32 31)).toInt32) &&& (1431655765 : Int32))) &&& (858993459 : Int32)) + ((((a0 - (((a0.toUInt32 >>> ((1 : Int32).toUInt32 &&& Int32.toUInt32 31)).toInt32) &&& (1431655765 : Int32))).toUInt32 >>> ((2 : Int32).toUInt32 &&& Int32.toUInt32 31)).toInt32) &&& (858993459 : Int32))).toUInt32 >>> ((4 : Int32).toUInt32 &&& Int32.toUInt32 31)).toInt32)) &&& (252645135 : Int32)).toUInt32 >>> ((8 : Int32).toUInt32 &&& Int32.toUInt32 31)).toInt32)) + ((((((((a0 - (((a0.toUInt32 >>> ((1 : Int32).toUInt32 &&& Int32.toUInt32 31)).toInt32) &&& (1431655765 : Int32))) &&& (858993459 : Int32)) + ((((a0 - (((a0.toUInt32 >>> ((1 : Int32).toUInt32 &&& Int32.toUInt32 31)).toInt32) &&& (1431655765 : Int32))).toUInt32 >>> ((2 : Int32).toUInt32 &&& Int32.toUInt32 31)).toInt32) &&& (858993459 : Int32))) + (((((a0 - (((a0.toUInt32 >>> ((1 : Int32).toUInt32 &&& Int32.toUInt32 31)).toInt32) &&& (1431655765 : Int32))) &&& (858993459 : Int32)) + ((((a0 - (((a0.toUInt32 >>> ((1 : Int32).toUInt32 &&& Int32.toUInt32 31)).toInt32) &&& (1431655765 : Int32))).toUInt32 >>> ((2 : Int32).toUInt32 &&& Int32.toUInt32 31)).toInt32) &&& (858993459 : Int32))).toUInt32 >>> ((4 : Int32).toUInt32 &&& Int32.toUInt32 31)).toInt32)) &&& (252645135 : Int32)) + (((((((a0 - (((a0.toUInt32 >>> ((1 : Int32).toUInt32 &&& Int32.toUInt32 31)).toInt32) &&& (1431655765 : Int32))) &&& (858993459 : Int32)) + ((((a0 - (((a0.toUInt32 >>> ((1 : Int32).toUInt32 &&& Int32.toUInt32 31)).toInt32) &&& (1431655765 : Int32))).toUInt32 >>> ((2 : Int32).toUInt32 &&& Int32.toUInt32 31)).toInt32) &&& (858993459 : Int32))) + (((((a0 - (((a0.toUInt32 >>> ((1 : Int32).toUInt32 &&& Int32.toUInt32 31)).toInt32) &&& (1431655765 : Int32))) &&& (858993459 : Int32)) + ((((a0 - (((a0.toUInt32 >>> ((1 : Int32).toUInt32 &&& Int32.toUInt32 31)).toInt32) &&& (1431655765 : Int32))).toUInt32 >>> ((2 : Int32).toUInt32 &&& Int32.toUInt32 31)).toInt32) &&& (858993459 : Int32))).toUInt32 >>> ((4 : Int32).toUInt32 &&& Int32.toUInt32 31)).toInt32)) &&& (252645135 : Int32)).toUInt32 >>> ((8 : Int32).toUInt32 &&& Int32.toUInt32 31)).toInt32)).toUInt32 >>> ((16 : Int32).toUInt32 &&& Int32.toUInt32 31)).toInt32)) dJ6_bitCount_0f7a4_48 rfl ?_
  refine r_bipush (v := 63) dJ6_bitCount_0f7a4_49 rfl ?_
  refine r_iand dJ6_bitCount_0f7a4_51 ?_
  have hx := am_inj hf
  subst hx
  exact r_iret dJ6_bitCount_0f7a4_52 rfl rfl (le_b rfl) (le_b rfl)
/-! FireFromFire$House.setOut -/
theorem dX2_setOut_0 : decode cX2_setOut 0 = .ok (.aload_n 0, 1) := by decide +kernel
theorem dX2_setOut_1 : decode cX2_setOut 1 = .ok (.iload_n 1, 1) := by decide +kernel
theorem dX2_setOut_2 : decode cX2_setOut 2 = .ok (.putfield 28, 3) := by decide +kernel
theorem dX2_setOut_5 : decode cX2_setOut 5 = .ok (.aload_n 0, 1) := by decide +kernel
theorem dX2_setOut_6 : decode cX2_setOut 6 = .ok (.iload_n 2, 1) := by decide +kernel
theorem dX2_setOut_7 : decode cX2_setOut 7 = .ok (.putfield 31, 3) := by decide +kernel
theorem dX2_setOut_10 : decode cX2_setOut 10 = .ok (.aload_n 0, 1) := by decide +kernel
theorem dX2_setOut_11 : decode cX2_setOut 11 = .ok (.iload_n 3, 1) := by decide +kernel
theorem dX2_setOut_12 : decode cX2_setOut 12 = .ok (.putfield 34, 3) := by decide +kernel
theorem dX2_setOut_15 : decode cX2_setOut 15 = .ok (.aload_n 0, 1) := by decide +kernel
theorem dX2_setOut_16 : decode cX2_setOut 16 = .ok (.iconst 0, 1) := by decide +kernel
theorem dX2_setOut_17 : decode cX2_setOut 17 = .ok (.putfield 37, 3) := by decide +kernel
theorem dX2_setOut_20 : decode cX2_setOut 20 = .ok (.return_, 1) := by decide +kernel
def f_X2_setOut (v : Nat) (h : Nat) (a0 : Int32) (a1 : Int32) (a2 : Int32) (u : PM) : Option (PM) :=
  some (pi (pi (pi (pi u (3, v, h) 5 a0) (3, v, h) 6 a1) (3, v, h) 7 a2) (3, v, h) 8 (0 : Int32))
set_option maxHeartbeats 4000000 in
set_option maxRecDepth 20000 in
theorem C_X2_setOut {l : Launch} {v : Nat} (hv : v < 4) {h : Nat} (hh : h < 6) {a0 : Int32} {a1 : Int32} {a2 : Int32} {u : PM} {x : PM} (hf : f_X2_setOut v h a0 a1 a2 u = some x) : Ev l mX2_setOut 1 0 0 false [vR (3, v, h), vI a0, vI a1, vI a2] kC (en u) (none, kC, en x) := by
  refine Ev_of (by decide +kernel) (le_b rfl) ?_
  unfold f_X2_setOut at hf
  show X l mX2_setOut 1 0 0 false _ kC 0 0 0 [some (vR (3, v, h)), some (vI a0), some (vI a1), some (vI a2)] [] (en u)
  refine r_aload_n (x := (3, v, h)) dX2_setOut_0 rfl ?_
  refine r_iload_n (x := a0) dX2_setOut_1 rfl ?_
  refine e_puti fp_X2_28 dX2_setOut_2 (kC_mem (s := 3) (by decide) hv hh) rfl (lt_b rfl) rfl rfl rfl ?_
  refine r_aload_n (x := (3, v, h)) dX2_setOut_5 rfl ?_
  refine r_iload_n (x := a1) dX2_setOut_6 rfl ?_
  refine e_puti fp_X2_31 dX2_setOut_7 (kC_mem (s := 3) (by decide) hv hh) rfl (lt_b rfl) rfl rfl rfl ?_
  refine r_aload_n (x := (3, v, h)) dX2_setOut_10 rfl ?_
  refine r_iload_n (x := a2) dX2_setOut_11 rfl ?_
  refine e_puti fp_X2_34 dX2_setOut_12 (kC_mem (s := 3) (by decide) hv hh) rfl (lt_b rfl) rfl rfl rfl ?_
  refine r_aload_n (x := (3, v, h)) dX2_setOut_15 rfl ?_
  refine r_iconst (v := 0) dX2_setOut_16 rfl ?_
  refine e_puti fp_X2_37 dX2_setOut_17 (kC_mem (s := 3) (by decide) hv hh) rfl (lt_b rfl) rfl rfl rfl ?_
  have hx := am_inj hf
  subst hx
  exact r_vret dX2_setOut_20 rfl (le_b rfl) (le_b rfl)
/-! FireFromFire$House.start -/
theorem dX2_start_0 : decode cX2_start 0 = .ok (.aload_n 0, 1) := by decide +kernel
theorem dX2_start_1 : decode cX2_start 1 = .ok (.iload_n 1, 1) := by decide +kernel
theorem dX2_start_2 : decode cX2_start 2 = .ok (.putfield 9, 3) := by decide +kernel
theorem dX2_start_5 : decode cX2_start 5 = .ok (.aload_n 0, 1) := by decide +kernel
theorem dX2_start_6 : decode cX2_start 6 = .ok (.iload_n 2, 1) := by decide +kernel
theorem dX2_start_7 : decode cX2_start 7 = .ok (.putfield 15, 3) := by decide +kernel
theorem dX2_start_10 : decode cX2_start 10 = .ok (.aload_n 0, 1) := by decide +kernel
theorem dX2_start_11 : decode cX2_start 11 = .ok (.iconst 0, 1) := by decide +kernel
theorem dX2_start_12 : decode cX2_start 12 = .ok (.putfield 19, 3) := by decide +kernel
theorem dX2_start_15 : decode cX2_start 15 = .ok (.aload_n 0, 1) := by decide +kernel
theorem dX2_start_16 : decode cX2_start 16 = .ok (.iconst 0, 1) := by decide +kernel
theorem dX2_start_17 : decode cX2_start 17 = .ok (.putfield 22, 3) := by decide +kernel
theorem dX2_start_20 : decode cX2_start 20 = .ok (.aload_n 0, 1) := by decide +kernel
theorem dX2_start_21 : decode cX2_start 21 = .ok (.iconst 0, 1) := by decide +kernel
theorem dX2_start_22 : decode cX2_start 22 = .ok (.putfield 25, 3) := by decide +kernel
theorem dX2_start_25 : decode cX2_start 25 = .ok (.aload_n 0, 1) := by decide +kernel
theorem dX2_start_26 : decode cX2_start 26 = .ok (.iconst 0, 1) := by decide +kernel
theorem dX2_start_27 : decode cX2_start 27 = .ok (.iconst 0, 1) := by decide +kernel
theorem dX2_start_28 : decode cX2_start 28 = .ok (.iconst 0, 1) := by decide +kernel
theorem dX2_start_29 : decode cX2_start 29 = .ok (.invokevirtual 40, 3) := by decide +kernel
theorem dX2_start_32 : decode cX2_start 32 = .ok (.return_, 1) := by decide +kernel
def f_X2_start (v : Nat) (h : Nat) (a0 : Int32) (a1 : Int32) (u : PM) : Option (PM) :=
  if a1 = 0 ∨ a1 = 1 then
    (f_X2_setOut v h (0 : Int32) (0 : Int32) (0 : Int32) (pi (pi (pi (pi (pi u (3, v, h) 0 a0) (3, v, h) 1 a1) (3, v, h) 2 (0 : Int32)) (3, v, h) 3 (0 : Int32)) (3, v, h) 4 (0 : Int32))).bind fun r2 =>
    some r2
  else none
set_option maxHeartbeats 4000000 in
set_option maxRecDepth 20000 in
theorem C_X2_start {l : Launch} {v : Nat} (hv : v < 4) {h : Nat} (hh : h < 6) {a0 : Int32} {a1 : Int32} {u : PM} {x : PM} (hf : f_X2_start v h a0 a1 u = some x) : Ev l mX2_start 2 0 0 false [vR (3, v, h), vI a0, vI a1] kC (en u) (none, kC, en x) := by
  refine Ev_of (by decide +kernel) (le_b rfl) ?_
  unfold f_X2_start at hf
  show X l mX2_start 2 0 0 false _ kC 0 0 0 [some (vR (3, v, h)), some (vI a0), some (vI a1)] [] (en u)
  refine r_aload_n (x := (3, v, h)) dX2_start_0 rfl ?_
  refine r_iload_n (x := a0) dX2_start_1 rfl ?_
  refine e_puti fp_X2_9 dX2_start_2 (kC_mem (s := 3) (by decide) hv hh) rfl (lt_b rfl) rfl rfl rfl ?_
  refine r_aload_n (x := (3, v, h)) dX2_start_5 rfl ?_
  refine r_iload_n (x := a1) dX2_start_6 rfl ?_
  obtain ⟨h1, hf⟩ := am_chk hf
  refine e_puti fp_X2_15 dX2_start_7 (kC_mem (s := 3) (by decide) hv hh) rfl (lt_b rfl) rfl (am_bool h1).1 (am_bool h1).2 ?_
  refine r_aload_n (x := (3, v, h)) dX2_start_10 rfl ?_
  refine r_iconst (v := 0) dX2_start_11 rfl ?_
  refine e_puti fp_X2_19 dX2_start_12 (kC_mem (s := 3) (by decide) hv hh) rfl (lt_b rfl) rfl rfl rfl ?_
  refine r_aload_n (x := (3, v, h)) dX2_start_15 rfl ?_
  refine r_iconst (v := 0) dX2_start_16 rfl ?_
  refine e_puti fp_X2_22 dX2_start_17 (kC_mem (s := 3) (by decide) hv hh) rfl (lt_b rfl) rfl rfl rfl ?_
  refine r_aload_n (x := (3, v, h)) dX2_start_20 rfl ?_
  refine r_iconst (v := 0) dX2_start_21 rfl ?_
  refine e_puti fp_X2_25 dX2_start_22 (kC_mem (s := 3) (by decide) hv hh) rfl (lt_b rfl) rfl rfl rfl ?_
  refine r_aload_n (x := (3, v, h)) dX2_start_25 rfl ?_
  refine r_iconst (v := 0) dX2_start_26 rfl ?_
  refine r_iconst (v := 0) dX2_start_27 rfl ?_
  refine r_iconst (v := 0) dX2_start_28 rfl ?_
  obtain ⟨r2, hr3, hf⟩ := am_bind hf
  refine r_callV (as := [vI (0 : Int32), vI (0 : Int32), vI (0 : Int32)]) (st := []) (n := 3) mw_X2_40 mv_X2_setOut (C_X2_setOut (l := l) hv hh hr3) (by decide) dX2_start_29 (kC_mem (s := 3) (by decide) hv hh) rfl rfl rfl (le_b rfl) (le_b rfl) (le_b rfl) ?_
  show X l _ _ 0 0 false _ kC 0 0 32 [some (vR (3, v, h)), some (vI a0), some (vI a1)] [] (en r2)
  have hx := am_inj hf
  subst hx
  exact r_vret dX2_start_32 rfl (le_b rfl) (le_b rfl)
/-! FireFromFire$House.copy -/
theorem dX2_copy_0 : decode cX2_copy 0 = .ok (.aload_n 0, 1) := by decide +kernel
theorem dX2_copy_1 : decode cX2_copy 1 = .ok (.aload_n 1, 1) := by decide +kernel
theorem dX2_copy_2 : decode cX2_copy 2 = .ok (.getfield 9, 3) := by decide +kernel
theorem dX2_copy_5 : decode cX2_copy 5 = .ok (.putfield 9, 3) := by decide +kernel
theorem dX2_copy_8 : decode cX2_copy 8 = .ok (.aload_n 0, 1) := by decide +kernel
theorem dX2_copy_9 : decode cX2_copy 9 = .ok (.aload_n 1, 1) := by decide +kernel
theorem dX2_copy_10 : decode cX2_copy 10 = .ok (.getfield 15, 3) := by decide +kernel
theorem dX2_copy_13 : decode cX2_copy 13 = .ok (.putfield 15, 3) := by decide +kernel
theorem dX2_copy_16 : decode cX2_copy 16 = .ok (.aload_n 0, 1) := by decide +kernel
theorem dX2_copy_17 : decode cX2_copy 17 = .ok (.aload_n 1, 1) := by decide +kernel
theorem dX2_copy_18 : decode cX2_copy 18 = .ok (.getfield 19, 3) := by decide +kernel
theorem dX2_copy_21 : decode cX2_copy 21 = .ok (.putfield 19, 3) := by decide +kernel
theorem dX2_copy_24 : decode cX2_copy 24 = .ok (.aload_n 0, 1) := by decide +kernel
theorem dX2_copy_25 : decode cX2_copy 25 = .ok (.aload_n 1, 1) := by decide +kernel
theorem dX2_copy_26 : decode cX2_copy 26 = .ok (.getfield 22, 3) := by decide +kernel
theorem dX2_copy_29 : decode cX2_copy 29 = .ok (.putfield 22, 3) := by decide +kernel
theorem dX2_copy_32 : decode cX2_copy 32 = .ok (.aload_n 0, 1) := by decide +kernel
theorem dX2_copy_33 : decode cX2_copy 33 = .ok (.aload_n 1, 1) := by decide +kernel
theorem dX2_copy_34 : decode cX2_copy 34 = .ok (.getfield 25, 3) := by decide +kernel
theorem dX2_copy_37 : decode cX2_copy 37 = .ok (.putfield 25, 3) := by decide +kernel
theorem dX2_copy_40 : decode cX2_copy 40 = .ok (.aload_n 0, 1) := by decide +kernel
theorem dX2_copy_41 : decode cX2_copy 41 = .ok (.aload_n 1, 1) := by decide +kernel
theorem dX2_copy_42 : decode cX2_copy 42 = .ok (.getfield 28, 3) := by decide +kernel
theorem dX2_copy_45 : decode cX2_copy 45 = .ok (.aload_n 1, 1) := by decide +kernel
theorem dX2_copy_46 : decode cX2_copy 46 = .ok (.getfield 31, 3) := by decide +kernel
theorem dX2_copy_49 : decode cX2_copy 49 = .ok (.aload_n 1, 1) := by decide +kernel
theorem dX2_copy_50 : decode cX2_copy 50 = .ok (.getfield 34, 3) := by decide +kernel
theorem dX2_copy_53 : decode cX2_copy 53 = .ok (.invokevirtual 40, 3) := by decide +kernel
theorem dX2_copy_56 : decode cX2_copy 56 = .ok (.aload_n 0, 1) := by decide +kernel
theorem dX2_copy_57 : decode cX2_copy 57 = .ok (.aload_n 1, 1) := by decide +kernel
theorem dX2_copy_58 : decode cX2_copy 58 = .ok (.getfield 37, 3) := by decide +kernel
theorem dX2_copy_61 : decode cX2_copy 61 = .ok (.putfield 37, 3) := by decide +kernel
theorem dX2_copy_64 : decode cX2_copy 64 = .ok (.return_, 1) := by decide +kernel
def f_X2_copy (v : Nat) (h : Nat) (w : Nat) (g : Nat)  (u : PM) : Option (PM) :=
  if (u.1 (3, w, g) 1) = 0 ∨ (u.1 (3, w, g) 1) = 1 then
    (f_X2_setOut v h (u.1 (3, w, g) 5) (u.1 (3, w, g) 6) (u.1 (3, w, g) 7) (pi (pi (pi (pi (pi u (3, v, h) 0 (u.1 (3, w, g) 0)) (3, v, h) 1 (u.1 (3, w, g) 1)) (3, v, h) 2 (u.1 (3, w, g) 2)) (3, v, h) 3 (u.1 (3, w, g) 3)) (3, v, h) 4 (u.1 (3, w, g) 4))).bind fun r2 =>
    some (pi r2 (3, v, h) 8 (r2.1 (3, w, g) 8))
  else none
set_option maxHeartbeats 4000000 in
set_option maxRecDepth 20000 in
theorem C_X2_copy {l : Launch} {v : Nat} (hv : v < 4) {h : Nat} (hh : h < 6) {w : Nat} (hw : w < 4) {g : Nat} (hg : g < 6)  {u : PM} {x : PM} (hf : f_X2_copy v h w g u = some x) : Ev l mX2_copy 2 0 0 false [vR (3, v, h), vR (3, w, g)] kC (en u) (none, kC, en x) := by
  refine Ev_of (by decide +kernel) (le_b rfl) ?_
  unfold f_X2_copy at hf
  show X l mX2_copy 2 0 0 false _ kC 0 0 0 [some (vR (3, v, h)), some (vR (3, w, g))] [] (en u)
  refine r_aload_n (x := (3, v, h)) dX2_copy_0 rfl ?_
  refine r_aload_n (x := (3, w, g)) dX2_copy_1 rfl ?_
  refine e_geti fw_X2_9 dX2_copy_2 (kC_mem (s := 3) (by decide) hw hg) rfl (lt_b rfl) ?_
  refine e_puti fp_X2_9 dX2_copy_5 (kC_mem (s := 3) (by decide) hv hh) rfl (lt_b rfl) rfl rfl rfl ?_
  refine r_aload_n (x := (3, v, h)) dX2_copy_8 rfl ?_
  refine r_aload_n (x := (3, w, g)) dX2_copy_9 rfl ?_
  refine e_geti_ (x := u.1 (3, w, g) 1) fw_X2_15 dX2_copy_10 (kC_mem (s := 3) (by decide) hw hg) rfl (lt_b rfl) (by simp [pi, pl, pr, pci, pcl]) ?_
  obtain ⟨h1, hf⟩ := am_chk hf
  refine e_puti fp_X2_15 dX2_copy_13 (kC_mem (s := 3) (by decide) hv hh) rfl (lt_b rfl) rfl (am_bool h1).1 (am_bool h1).2 ?_
  refine r_aload_n (x := (3, v, h)) dX2_copy_16 rfl ?_
  refine r_aload_n (x := (3, w, g)) dX2_copy_17 rfl ?_
  refine e_geti_ (x := u.1 (3, w, g) 2) fw_X2_19 dX2_copy_18 (kC_mem (s := 3) (by decide) hw hg) rfl (lt_b rfl) (by simp [pi, pl, pr, pci, pcl]) ?_
  refine e_puti fp_X2_19 dX2_copy_21 (kC_mem (s := 3) (by decide) hv hh) rfl (lt_b rfl) rfl rfl rfl ?_
  refine r_aload_n (x := (3, v, h)) dX2_copy_24 rfl ?_
  refine r_aload_n (x := (3, w, g)) dX2_copy_25 rfl ?_
  refine e_geti_ (x := u.1 (3, w, g) 3) fw_X2_22 dX2_copy_26 (kC_mem (s := 3) (by decide) hw hg) rfl (lt_b rfl) (by simp [pi, pl, pr, pci, pcl]) ?_
  refine e_puti fp_X2_22 dX2_copy_29 (kC_mem (s := 3) (by decide) hv hh) rfl (lt_b rfl) rfl rfl rfl ?_
  refine r_aload_n (x := (3, v, h)) dX2_copy_32 rfl ?_
  refine r_aload_n (x := (3, w, g)) dX2_copy_33 rfl ?_
  refine e_geti_ (x := u.1 (3, w, g) 4) fw_X2_25 dX2_copy_34 (kC_mem (s := 3) (by decide) hw hg) rfl (lt_b rfl) (by simp [pi, pl, pr, pci, pcl]) ?_
  refine e_puti fp_X2_25 dX2_copy_37 (kC_mem (s := 3) (by decide) hv hh) rfl (lt_b rfl) rfl rfl rfl ?_
  refine r_aload_n (x := (3, v, h)) dX2_copy_40 rfl ?_
  refine r_aload_n (x := (3, w, g)) dX2_copy_41 rfl ?_
  refine e_geti_ (x := u.1 (3, w, g) 5) fw_X2_28 dX2_copy_42 (kC_mem (s := 3) (by decide) hw hg) rfl (lt_b rfl) (by simp [pi, pl, pr, pci, pcl]) ?_
  refine r_aload_n (x := (3, w, g)) dX2_copy_45 rfl ?_
  refine e_geti_ (x := u.1 (3, w, g) 6) fw_X2_31 dX2_copy_46 (kC_mem (s := 3) (by decide) hw hg) rfl (lt_b rfl) (by simp [pi, pl, pr, pci, pcl]) ?_
  refine r_aload_n (x := (3, w, g)) dX2_copy_49 rfl ?_
  refine e_geti_ (x := u.1 (3, w, g) 7) fw_X2_34 dX2_copy_50 (kC_mem (s := 3) (by decide) hw hg) rfl (lt_b rfl) (by simp [pi, pl, pr, pci, pcl]) ?_
  obtain ⟨r2, hr3, hf⟩ := am_bind hf
  refine r_callV (as := [vI (u.1 (3, w, g) 5), vI (u.1 (3, w, g) 6), vI (u.1 (3, w, g) 7)]) (st := []) (n := 3) mw_X2_40 mv_X2_setOut (C_X2_setOut (l := l) hv hh hr3) (by decide) dX2_copy_53 (kC_mem (s := 3) (by decide) hv hh) rfl rfl rfl (le_b rfl) (le_b rfl) (le_b rfl) ?_
  show X l _ _ 0 0 false _ kC 0 0 56 [some (vR (3, v, h)), some (vR (3, w, g))] [] (en r2)
  refine r_aload_n (x := (3, v, h)) dX2_copy_56 rfl ?_
  refine r_aload_n (x := (3, w, g)) dX2_copy_57 rfl ?_
  refine e_geti fw_X2_37 dX2_copy_58 (kC_mem (s := 3) (by decide) hw hg) rfl (lt_b rfl) ?_
  refine e_puti fp_X2_37 dX2_copy_61 (kC_mem (s := 3) (by decide) hv hh) rfl (lt_b rfl) rfl rfl rfl ?_
  have hx := am_inj hf
  subst hx
  exact r_vret dX2_copy_64 rfl (le_b rfl) (le_b rfl)
/-! FireFromFire$Land.addClause -/
theorem dX3_addClause_0 : decode cX3_addClause 0 = .ok (.aload_n 0, 1) := by decide +kernel
theorem dX3_addClause_1 : decode cX3_addClause 1 = .ok (.getfield 9, 3) := by decide +kernel
theorem dX3_addClause_4 : decode cX3_addClause 4 = .ok (.ifCond .lt 63, 3) := by decide +kernel
theorem dX3_addClause_7 : decode cX3_addClause 7 = .ok (.aload_n 0, 1) := by decide +kernel
theorem dX3_addClause_8 : decode cX3_addClause 8 = .ok (.getfield 9, 3) := by decide +kernel
theorem dX3_addClause_11 : decode cX3_addClause 11 = .ok (.bipush 10, 2) := by decide +kernel
theorem dX3_addClause_13 : decode cX3_addClause 13 = .ok (.if_icmp .ge 54, 3) := by decide +kernel
theorem dX3_addClause_16 : decode cX3_addClause 16 = .ok (.aload_n 0, 1) := by decide +kernel
theorem dX3_addClause_17 : decode cX3_addClause 17 = .ok (.getfield 18, 3) := by decide +kernel
theorem dX3_addClause_20 : decode cX3_addClause 20 = .ok (.aload_n 0, 1) := by decide +kernel
theorem dX3_addClause_21 : decode cX3_addClause 21 = .ok (.getfield 9, 3) := by decide +kernel
theorem dX3_addClause_24 : decode cX3_addClause 24 = .ok (.iload_n 1, 1) := by decide +kernel
theorem dX3_addClause_25 : decode cX3_addClause 25 = .ok (.iastore, 1) := by decide +kernel
theorem dX3_addClause_26 : decode cX3_addClause 26 = .ok (.aload_n 0, 1) := by decide +kernel
theorem dX3_addClause_27 : decode cX3_addClause 27 = .ok (.getfield 22, 3) := by decide +kernel
theorem dX3_addClause_30 : decode cX3_addClause 30 = .ok (.aload_n 0, 1) := by decide +kernel
theorem dX3_addClause_31 : decode cX3_addClause 31 = .ok (.getfield 9, 3) := by decide +kernel
theorem dX3_addClause_34 : decode cX3_addClause 34 = .ok (.iload_n 2, 1) := by decide +kernel
theorem dX3_addClause_35 : decode cX3_addClause 35 = .ok (.iastore, 1) := by decide +kernel
theorem dX3_addClause_36 : decode cX3_addClause 36 = .ok (.aload_n 0, 1) := by decide +kernel
theorem dX3_addClause_37 : decode cX3_addClause 37 = .ok (.getfield 25, 3) := by decide +kernel
theorem dX3_addClause_40 : decode cX3_addClause 40 = .ok (.aload_n 0, 1) := by decide +kernel
theorem dX3_addClause_41 : decode cX3_addClause 41 = .ok (.getfield 9, 3) := by decide +kernel
theorem dX3_addClause_44 : decode cX3_addClause 44 = .ok (.iload_n 3, 1) := by decide +kernel
theorem dX3_addClause_45 : decode cX3_addClause 45 = .ok (.iastore, 1) := by decide +kernel
theorem dX3_addClause_46 : decode cX3_addClause 46 = .ok (.aload_n 0, 1) := by decide +kernel
theorem dX3_addClause_47 : decode cX3_addClause 47 = .ok (.getfield 28, 3) := by decide +kernel
theorem dX3_addClause_50 : decode cX3_addClause 50 = .ok (.aload_n 0, 1) := by decide +kernel
theorem dX3_addClause_51 : decode cX3_addClause 51 = .ok (.getfield 9, 3) := by decide +kernel
theorem dX3_addClause_54 : decode cX3_addClause 54 = .ok (.iload 4, 2) := by decide +kernel
theorem dX3_addClause_56 : decode cX3_addClause 56 = .ok (.iastore, 1) := by decide +kernel
theorem dX3_addClause_57 : decode cX3_addClause 57 = .ok (.aload_n 0, 1) := by decide +kernel
theorem dX3_addClause_58 : decode cX3_addClause 58 = .ok (.dup, 1) := by decide +kernel
theorem dX3_addClause_59 : decode cX3_addClause 59 = .ok (.getfield 9, 3) := by decide +kernel
theorem dX3_addClause_62 : decode cX3_addClause 62 = .ok (.iconst 1, 1) := by decide +kernel
theorem dX3_addClause_63 : decode cX3_addClause 63 = .ok (.iadd, 1) := by decide +kernel
theorem dX3_addClause_64 : decode cX3_addClause 64 = .ok (.putfield 9, 3) := by decide +kernel
theorem dX3_addClause_67 : decode cX3_addClause 67 = .ok (.return_, 1) := by decide +kernel
def f_X3_addClause (v : Nat) (a0 : Int32) (a1 : Int32) (a2 : Int32) (a3 : Int32) (u : PM) : Option (PM) :=
  if (u.1 (11, v, 0) 0) < 0 then
    some u
  else
  if (10 : Int32) ≤ (u.1 (11, v, 0) 0) then
    some u
  else
  if (u.1 (11, v, 0) 0) < 0 ∨ 10 ≤ (u.1 (11, v, 0) 0).toNatClampNeg then none else
  some (pi (pi (pi (pi (pi u (12, v, 0) ((u.1 (11, v, 0) 0).toNatClampNeg) a0) (13, v, 0) ((u.1 (11, v, 0) 0).toNatClampNeg) a1) (14, v, 0) ((u.1 (11, v, 0) 0).toNatClampNeg) a2) (15, v, 0) ((u.1 (11, v, 0) 0).toNatClampNeg) a3) (11, v, 0) 0 ((u.1 (11, v, 0) 0) + (1 : Int32)))
set_option maxHeartbeats 4000000 in
set_option maxRecDepth 20000 in
theorem C_X3_addClause {l : Launch} {v : Nat} (hv : v < 5) {a0 : Int32} {a1 : Int32} {a2 : Int32} {a3 : Int32} {u : PM} {x : PM} (hf : f_X3_addClause v a0 a1 a2 a3 u = some x) : Ev l mX3_addClause 1 0 0 false [vR (11, v, 0), vI a0, vI a1, vI a2, vI a3] kC (en u) (none, kC, en x) := by
  refine Ev_of (by decide +kernel) (le_b rfl) ?_
  unfold f_X3_addClause at hf
  show X l mX3_addClause 1 0 0 false _ kC 0 0 0 [some (vR (11, v, 0)), some (vI a0), some (vI a1), some (vI a2), some (vI a3)] [] (en u)
  refine r_aload_n (x := (11, v, 0)) dX3_addClause_0 rfl ?_
  refine e_geti fw_X3_9 dX3_addClause_1 (kC_mem (s := 11) (by decide) hv (by decide)) rfl (lt_b rfl) ?_
  refine r_if_lt (tgt := 67) dX3_addClause_4 (by decide) (fun hc => ?_) (fun hc => ?_)
  · have hf := (am_if hf).1 hc
    have hx := am_inj hf
    subst hx
    exact r_vret dX3_addClause_67 rfl (le_b rfl) (le_b rfl)
  · have hf := (am_if hf).2 hc
    refine r_aload_n (x := (11, v, 0)) dX3_addClause_7 rfl ?_
    refine e_geti fw_X3_9 dX3_addClause_8 (kC_mem (s := 11) (by decide) hv (by decide)) rfl (lt_b rfl) ?_
    refine r_bipush (v := 10) dX3_addClause_11 rfl ?_
    refine r_icmp_ge (tgt := 67) dX3_addClause_13 (by decide) (fun hc => ?_) (fun hc => ?_)
    · have hf := (am_if hf).1 hc
      have hx := am_inj hf
      subst hx
      exact r_vret dX3_addClause_67 rfl (le_b rfl) (le_b rfl)
    · have hf := (am_if hf).2 hc
      refine r_aload_n (x := (11, v, 0)) dX3_addClause_16 rfl ?_
      refine e_getr (z := some (12, v, 0)) fw_X3_18 dX3_addClause_17 (kC_mem (s := 11) (by decide) hv (by decide)) rfl (lt_b rfl) rfl ?_
      refine r_aload_n (x := (11, v, 0)) dX3_addClause_20 rfl ?_
      refine e_geti fw_X3_9 dX3_addClause_21 (kC_mem (s := 11) (by decide) hv (by decide)) rfl (lt_b rfl) ?_
      refine r_iload_n (x := a0) dX3_addClause_24 rfl ?_
      obtain ⟨h1, hf⟩ := am_nchk hf
      refine e_iast (n := (u.1 (11, v, 0) 0).toNatClampNeg) dX3_addClause_25 (kC_mem (s := 12) (by decide) hv (by decide)) rfl h1 rfl ?_
      refine r_aload_n (x := (11, v, 0)) dX3_addClause_26 rfl ?_
      refine e_getr (z := some (13, v, 0)) fw_X3_22 dX3_addClause_27 (kC_mem (s := 11) (by decide) hv (by decide)) rfl (lt_b rfl) rfl ?_
      refine r_aload_n (x := (11, v, 0)) dX3_addClause_30 rfl ?_
      refine e_geti_ (x := u.1 (11, v, 0) 0) fw_X3_9 dX3_addClause_31 (kC_mem (s := 11) (by decide) hv (by decide)) rfl (lt_b rfl) (by simp [pi, pl, pr, pci, pcl]) ?_
      refine r_iload_n (x := a1) dX3_addClause_34 rfl ?_
      refine e_iast (n := (u.1 (11, v, 0) 0).toNatClampNeg) dX3_addClause_35 (kC_mem (s := 13) (by decide) hv (by decide)) rfl h1 rfl ?_
      refine r_aload_n (x := (11, v, 0)) dX3_addClause_36 rfl ?_
      refine e_getr (z := some (14, v, 0)) fw_X3_25 dX3_addClause_37 (kC_mem (s := 11) (by decide) hv (by decide)) rfl (lt_b rfl) rfl ?_
      refine r_aload_n (x := (11, v, 0)) dX3_addClause_40 rfl ?_
      refine e_geti_ (x := u.1 (11, v, 0) 0) fw_X3_9 dX3_addClause_41 (kC_mem (s := 11) (by decide) hv (by decide)) rfl (lt_b rfl) (by simp [pi, pl, pr, pci, pcl]) ?_
      refine r_iload_n (x := a2) dX3_addClause_44 rfl ?_
      refine e_iast (n := (u.1 (11, v, 0) 0).toNatClampNeg) dX3_addClause_45 (kC_mem (s := 14) (by decide) hv (by decide)) rfl h1 rfl ?_
      refine r_aload_n (x := (11, v, 0)) dX3_addClause_46 rfl ?_
      refine e_getr (z := some (15, v, 0)) fw_X3_28 dX3_addClause_47 (kC_mem (s := 11) (by decide) hv (by decide)) rfl (lt_b rfl) rfl ?_
      refine r_aload_n (x := (11, v, 0)) dX3_addClause_50 rfl ?_
      refine e_geti_ (x := u.1 (11, v, 0) 0) fw_X3_9 dX3_addClause_51 (kC_mem (s := 11) (by decide) hv (by decide)) rfl (lt_b rfl) (by simp [pi, pl, pr, pci, pcl]) ?_
      refine r_iload (x := a3) dX3_addClause_54 rfl ?_
      refine e_iast (n := (u.1 (11, v, 0) 0).toNatClampNeg) dX3_addClause_56 (kC_mem (s := 15) (by decide) hv (by decide)) rfl h1 rfl ?_
      refine r_aload_n (x := (11, v, 0)) dX3_addClause_57 rfl ?_
      refine r_dup dX3_addClause_58 rfl ?_
      refine e_geti_ (x := u.1 (11, v, 0) 0) fw_X3_9 dX3_addClause_59 (kC_mem (s := 11) (by decide) hv (by decide)) rfl (lt_b rfl) (by simp [pi, pl, pr, pci, pcl]) ?_
      refine r_iconst (v := 1) dX3_addClause_62 rfl ?_
      refine r_iadd dX3_addClause_63 ?_
      refine e_puti fp_X3_9 dX3_addClause_64 (kC_mem (s := 11) (by decide) hv (by decide)) rfl (lt_b rfl) rfl rfl rfl ?_
      have hx := am_inj hf
      subst hx
      exact r_vret dX3_addClause_67 rfl (le_b rfl) (le_b rfl)
/-! FireFromFire$Land.addStep -/
theorem dX3_addStep_0 : decode cX3_addStep 0 = .ok (.aload_n 0, 1) := by decide +kernel
theorem dX3_addStep_1 : decode cX3_addStep 1 = .ok (.getfield 15, 3) := by decide +kernel
theorem dX3_addStep_4 : decode cX3_addStep 4 = .ok (.ifCond .lt 52, 3) := by decide +kernel
theorem dX3_addStep_7 : decode cX3_addStep 7 = .ok (.aload_n 0, 1) := by decide +kernel
theorem dX3_addStep_8 : decode cX3_addStep 8 = .ok (.getfield 15, 3) := by decide +kernel
theorem dX3_addStep_11 : decode cX3_addStep 11 = .ok (.bipush 100, 2) := by decide +kernel
theorem dX3_addStep_13 : decode cX3_addStep 13 = .ok (.if_icmp .ge 43, 3) := by decide +kernel
theorem dX3_addStep_16 : decode cX3_addStep 16 = .ok (.aload_n 0, 1) := by decide +kernel
theorem dX3_addStep_17 : decode cX3_addStep 17 = .ok (.getfield 31, 3) := by decide +kernel
theorem dX3_addStep_20 : decode cX3_addStep 20 = .ok (.aload_n 0, 1) := by decide +kernel
theorem dX3_addStep_21 : decode cX3_addStep 21 = .ok (.getfield 15, 3) := by decide +kernel
theorem dX3_addStep_24 : decode cX3_addStep 24 = .ok (.iload_n 1, 1) := by decide +kernel
theorem dX3_addStep_25 : decode cX3_addStep 25 = .ok (.iastore, 1) := by decide +kernel
theorem dX3_addStep_26 : decode cX3_addStep 26 = .ok (.aload_n 0, 1) := by decide +kernel
theorem dX3_addStep_27 : decode cX3_addStep 27 = .ok (.getfield 34, 3) := by decide +kernel
theorem dX3_addStep_30 : decode cX3_addStep 30 = .ok (.aload_n 0, 1) := by decide +kernel
theorem dX3_addStep_31 : decode cX3_addStep 31 = .ok (.getfield 15, 3) := by decide +kernel
theorem dX3_addStep_34 : decode cX3_addStep 34 = .ok (.iload_n 2, 1) := by decide +kernel
theorem dX3_addStep_35 : decode cX3_addStep 35 = .ok (.iastore, 1) := by decide +kernel
theorem dX3_addStep_36 : decode cX3_addStep 36 = .ok (.aload_n 0, 1) := by decide +kernel
theorem dX3_addStep_37 : decode cX3_addStep 37 = .ok (.getfield 37, 3) := by decide +kernel
theorem dX3_addStep_40 : decode cX3_addStep 40 = .ok (.aload_n 0, 1) := by decide +kernel
theorem dX3_addStep_41 : decode cX3_addStep 41 = .ok (.getfield 15, 3) := by decide +kernel
theorem dX3_addStep_44 : decode cX3_addStep 44 = .ok (.iload_n 3, 1) := by decide +kernel
theorem dX3_addStep_45 : decode cX3_addStep 45 = .ok (.iastore, 1) := by decide +kernel
theorem dX3_addStep_46 : decode cX3_addStep 46 = .ok (.aload_n 0, 1) := by decide +kernel
theorem dX3_addStep_47 : decode cX3_addStep 47 = .ok (.dup, 1) := by decide +kernel
theorem dX3_addStep_48 : decode cX3_addStep 48 = .ok (.getfield 15, 3) := by decide +kernel
theorem dX3_addStep_51 : decode cX3_addStep 51 = .ok (.iconst 1, 1) := by decide +kernel
theorem dX3_addStep_52 : decode cX3_addStep 52 = .ok (.iadd, 1) := by decide +kernel
theorem dX3_addStep_53 : decode cX3_addStep 53 = .ok (.putfield 15, 3) := by decide +kernel
theorem dX3_addStep_56 : decode cX3_addStep 56 = .ok (.return_, 1) := by decide +kernel
def f_X3_addStep (v : Nat) (a0 : Int32) (a1 : Int32) (a2 : Int32) (u : PM) : Option (PM) :=
  if (u.1 (11, v, 0) 1) < 0 then
    some u
  else
  if (100 : Int32) ≤ (u.1 (11, v, 0) 1) then
    some u
  else
  if (u.1 (11, v, 0) 1) < 0 ∨ 100 ≤ (u.1 (11, v, 0) 1).toNatClampNeg then none else
  some (pi (pi (pi (pi u (16, v, 0) ((u.1 (11, v, 0) 1).toNatClampNeg) a0) (17, v, 0) ((u.1 (11, v, 0) 1).toNatClampNeg) a1) (18, v, 0) ((u.1 (11, v, 0) 1).toNatClampNeg) a2) (11, v, 0) 1 ((u.1 (11, v, 0) 1) + (1 : Int32)))
set_option maxHeartbeats 4000000 in
set_option maxRecDepth 20000 in
theorem C_X3_addStep {l : Launch} {v : Nat} (hv : v < 5) {a0 : Int32} {a1 : Int32} {a2 : Int32} {u : PM} {x : PM} (hf : f_X3_addStep v a0 a1 a2 u = some x) : Ev l mX3_addStep 1 0 0 false [vR (11, v, 0), vI a0, vI a1, vI a2] kC (en u) (none, kC, en x) := by
  refine Ev_of (by decide +kernel) (le_b rfl) ?_
  unfold f_X3_addStep at hf
  show X l mX3_addStep 1 0 0 false _ kC 0 0 0 [some (vR (11, v, 0)), some (vI a0), some (vI a1), some (vI a2)] [] (en u)
  refine r_aload_n (x := (11, v, 0)) dX3_addStep_0 rfl ?_
  refine e_geti fw_X3_15 dX3_addStep_1 (kC_mem (s := 11) (by decide) hv (by decide)) rfl (lt_b rfl) ?_
  refine r_if_lt (tgt := 56) dX3_addStep_4 (by decide) (fun hc => ?_) (fun hc => ?_)
  · have hf := (am_if hf).1 hc
    have hx := am_inj hf
    subst hx
    exact r_vret dX3_addStep_56 rfl (le_b rfl) (le_b rfl)
  · have hf := (am_if hf).2 hc
    refine r_aload_n (x := (11, v, 0)) dX3_addStep_7 rfl ?_
    refine e_geti fw_X3_15 dX3_addStep_8 (kC_mem (s := 11) (by decide) hv (by decide)) rfl (lt_b rfl) ?_
    refine r_bipush (v := 100) dX3_addStep_11 rfl ?_
    refine r_icmp_ge (tgt := 56) dX3_addStep_13 (by decide) (fun hc => ?_) (fun hc => ?_)
    · have hf := (am_if hf).1 hc
      have hx := am_inj hf
      subst hx
      exact r_vret dX3_addStep_56 rfl (le_b rfl) (le_b rfl)
    · have hf := (am_if hf).2 hc
      refine r_aload_n (x := (11, v, 0)) dX3_addStep_16 rfl ?_
      refine e_getr (z := some (16, v, 0)) fw_X3_31 dX3_addStep_17 (kC_mem (s := 11) (by decide) hv (by decide)) rfl (lt_b rfl) rfl ?_
      refine r_aload_n (x := (11, v, 0)) dX3_addStep_20 rfl ?_
      refine e_geti fw_X3_15 dX3_addStep_21 (kC_mem (s := 11) (by decide) hv (by decide)) rfl (lt_b rfl) ?_
      refine r_iload_n (x := a0) dX3_addStep_24 rfl ?_
      obtain ⟨h1, hf⟩ := am_nchk hf
      refine e_iast (n := (u.1 (11, v, 0) 1).toNatClampNeg) dX3_addStep_25 (kC_mem (s := 16) (by decide) hv (by decide)) rfl h1 rfl ?_
      refine r_aload_n (x := (11, v, 0)) dX3_addStep_26 rfl ?_
      refine e_getr (z := some (17, v, 0)) fw_X3_34 dX3_addStep_27 (kC_mem (s := 11) (by decide) hv (by decide)) rfl (lt_b rfl) rfl ?_
      refine r_aload_n (x := (11, v, 0)) dX3_addStep_30 rfl ?_
      refine e_geti_ (x := u.1 (11, v, 0) 1) fw_X3_15 dX3_addStep_31 (kC_mem (s := 11) (by decide) hv (by decide)) rfl (lt_b rfl) (by simp [pi, pl, pr, pci, pcl]) ?_
      refine r_iload_n (x := a1) dX3_addStep_34 rfl ?_
      refine e_iast (n := (u.1 (11, v, 0) 1).toNatClampNeg) dX3_addStep_35 (kC_mem (s := 17) (by decide) hv (by decide)) rfl h1 rfl ?_
      refine r_aload_n (x := (11, v, 0)) dX3_addStep_36 rfl ?_
      refine e_getr (z := some (18, v, 0)) fw_X3_37 dX3_addStep_37 (kC_mem (s := 11) (by decide) hv (by decide)) rfl (lt_b rfl) rfl ?_
      refine r_aload_n (x := (11, v, 0)) dX3_addStep_40 rfl ?_
      refine e_geti_ (x := u.1 (11, v, 0) 1) fw_X3_15 dX3_addStep_41 (kC_mem (s := 11) (by decide) hv (by decide)) rfl (lt_b rfl) (by simp [pi, pl, pr, pci, pcl]) ?_
      refine r_iload_n (x := a2) dX3_addStep_44 rfl ?_
      refine e_iast (n := (u.1 (11, v, 0) 1).toNatClampNeg) dX3_addStep_45 (kC_mem (s := 18) (by decide) hv (by decide)) rfl h1 rfl ?_
      refine r_aload_n (x := (11, v, 0)) dX3_addStep_46 rfl ?_
      refine r_dup dX3_addStep_47 rfl ?_
      refine e_geti_ (x := u.1 (11, v, 0) 1) fw_X3_15 dX3_addStep_48 (kC_mem (s := 11) (by decide) hv (by decide)) rfl (lt_b rfl) (by simp [pi, pl, pr, pci, pcl]) ?_
      refine r_iconst (v := 1) dX3_addStep_51 rfl ?_
      refine r_iadd dX3_addStep_52 ?_
      refine e_puti fp_X3_15 dX3_addStep_53 (kC_mem (s := 11) (by decide) hv (by decide)) rfl (lt_b rfl) rfl rfl rfl ?_
      have hx := am_inj hf
      subst hx
      exact r_vret dX3_addStep_56 rfl (le_b rfl) (le_b rfl)
/-! FireFromFire$Land.lastNext -/
theorem dX3_lastNext_0 : decode cX3_lastNext 0 = .ok (.iconst 0, 1) := by decide +kernel
theorem dX3_lastNext_1 : decode cX3_lastNext 1 = .ok (.istore_n 3, 1) := by decide +kernel
theorem dX3_lastNext_2 : decode cX3_lastNext 2 = .ok (.iconst 0, 1) := by decide +kernel
theorem dX3_lastNext_3 : decode cX3_lastNext 3 = .ok (.istore 4, 2) := by decide +kernel
theorem dX3_lastNext_5 : decode cX3_lastNext 5 = .ok (.iload 4, 2) := by decide +kernel
theorem dX3_lastNext_7 : decode cX3_lastNext 7 = .ok (.aload_n 0, 1) := by decide +kernel
theorem dX3_lastNext_8 : decode cX3_lastNext 8 = .ok (.getfield 9, 3) := by decide +kernel
theorem dX3_lastNext_11 : decode cX3_lastNext 11 = .ok (.if_icmp .ge 57, 3) := by decide +kernel
theorem dX3_lastNext_14 : decode cX3_lastNext 14 = .ok (.iload 4, 2) := by decide +kernel
theorem dX3_lastNext_16 : decode cX3_lastNext 16 = .ok (.bipush 10, 2) := by decide +kernel
theorem dX3_lastNext_18 : decode cX3_lastNext 18 = .ok (.if_icmp .ge 50, 3) := by decide +kernel
theorem dX3_lastNext_21 : decode cX3_lastNext 21 = .ok (.aload_n 0, 1) := by decide +kernel
theorem dX3_lastNext_22 : decode cX3_lastNext 22 = .ok (.getfield 18, 3) := by decide +kernel
theorem dX3_lastNext_25 : decode cX3_lastNext 25 = .ok (.iload 4, 2) := by decide +kernel
theorem dX3_lastNext_27 : decode cX3_lastNext 27 = .ok (.iaload, 1) := by decide +kernel
theorem dX3_lastNext_28 : decode cX3_lastNext 28 = .ok (.iconst 4, 1) := by decide +kernel
theorem dX3_lastNext_29 : decode cX3_lastNext 29 = .ok (.if_icmp .ne 33, 3) := by decide +kernel
theorem dX3_lastNext_32 : decode cX3_lastNext 32 = .ok (.aload_n 0, 1) := by decide +kernel
theorem dX3_lastNext_33 : decode cX3_lastNext 33 = .ok (.getfield 25, 3) := by decide +kernel
theorem dX3_lastNext_36 : decode cX3_lastNext 36 = .ok (.iload 4, 2) := by decide +kernel
theorem dX3_lastNext_38 : decode cX3_lastNext 38 = .ok (.iaload, 1) := by decide +kernel
theorem dX3_lastNext_39 : decode cX3_lastNext 39 = .ok (.iload_n 1, 1) := by decide +kernel
theorem dX3_lastNext_40 : decode cX3_lastNext 40 = .ok (.if_icmp .ne 22, 3) := by decide +kernel
theorem dX3_lastNext_43 : decode cX3_lastNext 43 = .ok (.aload_n 0, 1) := by decide +kernel
theorem dX3_lastNext_44 : decode cX3_lastNext 44 = .ok (.getfield 28, 3) := by decide +kernel
theorem dX3_lastNext_47 : decode cX3_lastNext 47 = .ok (.iload 4, 2) := by decide +kernel
theorem dX3_lastNext_49 : decode cX3_lastNext 49 = .ok (.iaload, 1) := by decide +kernel
theorem dX3_lastNext_50 : decode cX3_lastNext 50 = .ok (.iload_n 2, 1) := by decide +kernel
theorem dX3_lastNext_51 : decode cX3_lastNext 51 = .ok (.if_icmp .ne 11, 3) := by decide +kernel
theorem dX3_lastNext_54 : decode cX3_lastNext 54 = .ok (.aload_n 0, 1) := by decide +kernel
theorem dX3_lastNext_55 : decode cX3_lastNext 55 = .ok (.getfield 22, 3) := by decide +kernel
theorem dX3_lastNext_58 : decode cX3_lastNext 58 = .ok (.iload 4, 2) := by decide +kernel
theorem dX3_lastNext_60 : decode cX3_lastNext 60 = .ok (.iaload, 1) := by decide +kernel
theorem dX3_lastNext_61 : decode cX3_lastNext 61 = .ok (.istore_n 3, 1) := by decide +kernel
theorem dX3_lastNext_62 : decode cX3_lastNext 62 = .ok (.iinc 4 1, 3) := by decide +kernel
theorem dX3_lastNext_65 : decode cX3_lastNext 65 = .ok (.goto (-60), 3) := by decide +kernel
theorem dX3_lastNext_68 : decode cX3_lastNext 68 = .ok (.iload_n 3, 1) := by decide +kernel
theorem dX3_lastNext_69 : decode cX3_lastNext 69 = .ok (.ireturn, 1) := by decide +kernel
def f_X3_lastNext_L5 (n0 : Nat) (c1 : Int32) (c2 : Int32) (u : PM) : Int32 × Int32 → Option ((Int32 × Int32) ⊕ (Int32)) := fun (x3 , x4) =>
  if (u.1 (11, n0, 0) 0) ≤ x4 then
    some (.inr (x3))
  else
  if (10 : Int32) ≤ x4 then
    some (.inr (x3))
  else
  if x4 < 0 ∨ 10 ≤ x4.toNatClampNeg then none else
  if (u.1 (12, n0, 0) x4.toNatClampNeg) = (4 : Int32) then
    if (u.1 (14, n0, 0) x4.toNatClampNeg) = c1 then
      if (u.1 (15, n0, 0) x4.toNatClampNeg) = c2 then
        some (.inl (u.1 (13, n0, 0) x4.toNatClampNeg, x4 + (1 : Int32)))
      else
      some (.inl (x3, x4 + (1 : Int32)))
    else
    some (.inl (x3, x4 + (1 : Int32)))
  else
  some (.inl (x3, x4 + (1 : Int32)))
set_option maxHeartbeats 4000000 in
set_option maxRecDepth 20000 in
theorem K_X3_lastNext_L5 {l : Launch} {T : Option AV × List Key × AM} {n0 : Nat} (hn0 : n0 < 5) {c1 : Int32} {c2 : Int32} {u : PM} : ∀ (n : Nat) (s : Int32 × Int32) (e0 : Int32), am_loop (f_X3_lastNext_L5 n0 c1 c2 u) n s = some e0 → (fun e : Int32 => X l mX3_lastNext 1 0 0 false T kC 0 0 68 [none, none, none, some (vI e), none] [] (en u)) e0 → X l mX3_lastNext 1 0 0 false T kC 0 0 5 [some (vR (11, n0, 0)), some (vI c1), some (vI c2), some (vI s.1), some (vI s.2)] [] (en u) := by
  refine am_loop_of ?_
  intro s x hf k1 k2
  obtain ⟨x3 , x4⟩ := s
  unfold f_X3_lastNext_L5 at hf
  show X l mX3_lastNext 1 0 0 false T kC 0 0 5 [some (vR (11, n0, 0)), some (vI c1), some (vI c2), some (vI x3), some (vI x4)] [] (en u)
  refine r_iload (x := x4) dX3_lastNext_5 rfl ?_
  refine r_aload_n (x := (11, n0, 0)) dX3_lastNext_7 rfl ?_
  refine e_geti fw_X3_9 dX3_lastNext_8 (kC_mem (s := 11) (by decide) hn0 (by decide)) rfl (lt_b rfl) ?_
  refine r_icmp_ge (tgt := 68) dX3_lastNext_11 (by decide) (fun hc => ?_) (fun hc => ?_)
  · have hf := (am_if hf).1 hc
    refine r_weak (L' := [none, none, none, some (vI x3), none]) (And.intro rfl trivial) ?_
    exact k2 _ (am_inj hf).symm
  · have hf := (am_if hf).2 hc
    refine r_iload (x := x4) dX3_lastNext_14 rfl ?_
    refine r_bipush (v := 10) dX3_lastNext_16 rfl ?_
    refine r_icmp_ge (tgt := 68) dX3_lastNext_18 (by decide) (fun hc => ?_) (fun hc => ?_)
    · have hf := (am_if hf).1 hc
      refine r_weak (L' := [none, none, none, some (vI x3), none]) (And.intro rfl trivial) ?_
      exact k2 _ (am_inj hf).symm
    · have hf := (am_if hf).2 hc
      refine r_aload_n (x := (11, n0, 0)) dX3_lastNext_21 rfl ?_
      refine e_getr (z := some (12, n0, 0)) fw_X3_18 dX3_lastNext_22 (kC_mem (s := 11) (by decide) hn0 (by decide)) rfl (lt_b rfl) rfl ?_
      refine r_iload (x := x4) dX3_lastNext_25 rfl ?_
      obtain ⟨h1, hf⟩ := am_nchk hf
      refine e_iald (n := x4.toNatClampNeg) dX3_lastNext_27 (kC_mem (s := 12) (by decide) hn0 (by decide)) rfl h1 rfl rfl ?_
      refine r_iconst (v := 4) dX3_lastNext_28 rfl ?_
      refine r_icmp_ne (tgt := 62) dX3_lastNext_29 (by decide) (fun hc => ?_) (fun hc => ?_)
      · have hf := (am_if hf).2 hc
        refine r_iinc (x := x4) (v := x4 + (1 : Int32)) (L' := [some (vR (11, n0, 0)), some (vI c1), some (vI c2), some (vI x3), some (vI (x4 + (1 : Int32)))]) dX3_lastNext_62 rfl rfl (lt_b rfl) rfl ?_
        refine r_goto (tgt := 5) dX3_lastNext_65 (by decide) ?_
        refine r_weak (L' := [some (vR (11, n0, 0)), some (vI c1), some (vI c2), some (vI x3), some (vI (x4 + (1 : Int32)))]) (And.intro rfl (And.intro rfl (And.intro rfl (And.intro rfl (And.intro rfl trivial))))) ?_
        exact k1 _ (am_inj hf).symm
      · have hf := (am_if hf).1 hc
        refine r_aload_n (x := (11, n0, 0)) dX3_lastNext_32 rfl ?_
        refine e_getr (z := some (14, n0, 0)) fw_X3_25 dX3_lastNext_33 (kC_mem (s := 11) (by decide) hn0 (by decide)) rfl (lt_b rfl) rfl ?_
        refine r_iload (x := x4) dX3_lastNext_36 rfl ?_
        refine e_iald (n := x4.toNatClampNeg) dX3_lastNext_38 (kC_mem (s := 14) (by decide) hn0 (by decide)) rfl h1 rfl rfl ?_
        refine r_iload_n (x := c1) dX3_lastNext_39 rfl ?_
        refine r_icmp_ne (tgt := 62) dX3_lastNext_40 (by decide) (fun hc => ?_) (fun hc => ?_)
        · have hf := (am_if hf).2 hc
          refine r_iinc (x := x4) (v := x4 + (1 : Int32)) (L' := [some (vR (11, n0, 0)), some (vI c1), some (vI c2), some (vI x3), some (vI (x4 + (1 : Int32)))]) dX3_lastNext_62 rfl rfl (lt_b rfl) rfl ?_
          refine r_goto (tgt := 5) dX3_lastNext_65 (by decide) ?_
          refine r_weak (L' := [some (vR (11, n0, 0)), some (vI c1), some (vI c2), some (vI x3), some (vI (x4 + (1 : Int32)))]) (And.intro rfl (And.intro rfl (And.intro rfl (And.intro rfl (And.intro rfl trivial))))) ?_
          exact k1 _ (am_inj hf).symm
        · have hf := (am_if hf).1 hc
          refine r_aload_n (x := (11, n0, 0)) dX3_lastNext_43 rfl ?_
          refine e_getr (z := some (15, n0, 0)) fw_X3_28 dX3_lastNext_44 (kC_mem (s := 11) (by decide) hn0 (by decide)) rfl (lt_b rfl) rfl ?_
          refine r_iload (x := x4) dX3_lastNext_47 rfl ?_
          refine e_iald (n := x4.toNatClampNeg) dX3_lastNext_49 (kC_mem (s := 15) (by decide) hn0 (by decide)) rfl h1 rfl rfl ?_
          refine r_iload_n (x := c2) dX3_lastNext_50 rfl ?_
          refine r_icmp_ne (tgt := 62) dX3_lastNext_51 (by decide) (fun hc => ?_) (fun hc => ?_)
          · have hf := (am_if hf).2 hc
            refine r_iinc (x := x4) (v := x4 + (1 : Int32)) (L' := [some (vR (11, n0, 0)), some (vI c1), some (vI c2), some (vI x3), some (vI (x4 + (1 : Int32)))]) dX3_lastNext_62 rfl rfl (lt_b rfl) rfl ?_
            refine r_goto (tgt := 5) dX3_lastNext_65 (by decide) ?_
            refine r_weak (L' := [some (vR (11, n0, 0)), some (vI c1), some (vI c2), some (vI x3), some (vI (x4 + (1 : Int32)))]) (And.intro rfl (And.intro rfl (And.intro rfl (And.intro rfl (And.intro rfl trivial))))) ?_
            exact k1 _ (am_inj hf).symm
          · have hf := (am_if hf).1 hc
            refine r_aload_n (x := (11, n0, 0)) dX3_lastNext_54 rfl ?_
            refine e_getr (z := some (13, n0, 0)) fw_X3_22 dX3_lastNext_55 (kC_mem (s := 11) (by decide) hn0 (by decide)) rfl (lt_b rfl) rfl ?_
            refine r_iload (x := x4) dX3_lastNext_58 rfl ?_
            refine e_iald (n := x4.toNatClampNeg) dX3_lastNext_60 (kC_mem (s := 13) (by decide) hn0 (by decide)) rfl h1 rfl rfl ?_
            refine r_istore_n (L' := [some (vR (11, n0, 0)), some (vI c1), some (vI c2), some (vI (u.1 (13, n0, 0) x4.toNatClampNeg)), some (vI x4)]) dX3_lastNext_61 (by decide) rfl ?_
            refine r_iinc (x := x4) (v := x4 + (1 : Int32)) (L' := [some (vR (11, n0, 0)), some (vI c1), some (vI c2), some (vI (u.1 (13, n0, 0) x4.toNatClampNeg)), some (vI (x4 + (1 : Int32)))]) dX3_lastNext_62 rfl rfl (lt_b rfl) rfl ?_
            refine r_goto (tgt := 5) dX3_lastNext_65 (by decide) ?_
            refine r_weak (L' := [some (vR (11, n0, 0)), some (vI c1), some (vI c2), some (vI (u.1 (13, n0, 0) x4.toNatClampNeg)), some (vI (x4 + (1 : Int32)))]) (And.intro rfl (And.intro rfl (And.intro rfl (And.intro rfl (And.intro rfl trivial))))) ?_
            exact k1 _ (am_inj hf).symm
def f_X3_lastNext (v : Nat) (a0 : Int32) (a1 : Int32) (u : PM) : Option (Int32) :=
  (am_loop (f_X3_lastNext_L5 v a0 a1 u) 2000 ((0 : Int32), (0 : Int32))).bind fun y4 =>
  some y4
set_option maxHeartbeats 4000000 in
set_option maxRecDepth 20000 in
theorem C_X3_lastNext {l : Launch} {v : Nat} (hv : v < 5) {a0 : Int32} {a1 : Int32} {u : PM} {x : Int32} (hf : f_X3_lastNext v a0 a1 u = some x) : Ev l mX3_lastNext 1 0 0 false [vR (11, v, 0), vI a0, vI a1] kC (en u) (some (vI x), kC, en u) := by
  refine Ev_of (by decide +kernel) (le_b rfl) ?_
  unfold f_X3_lastNext at hf
  show X l mX3_lastNext 1 0 0 false _ kC 0 0 0 [some (vR (11, v, 0)), some (vI a0), some (vI a1), none, none] [] (en u)
  refine r_iconst (v := 0) dX3_lastNext_0 rfl ?_
  refine r_istore_n (L' := [some (vR (11, v, 0)), some (vI a0), some (vI a1), some (vI (0 : Int32)), none]) dX3_lastNext_1 (by decide) rfl ?_
  refine r_iconst (v := 0) dX3_lastNext_2 rfl ?_
  refine r_istore (L' := [some (vR (11, v, 0)), some (vI a0), some (vI a1), some (vI (0 : Int32)), some (vI (0 : Int32))]) dX3_lastNext_3 (by decide) rfl ?_
  refine r_weak (L' := [some (vR (11, v, 0)), some (vI a0), some (vI a1), some (vI (0 : Int32)), some (vI (0 : Int32))]) (And.intro rfl (And.intro rfl (And.intro rfl (And.intro rfl (And.intro rfl trivial))))) ?_
  obtain ⟨e2, he3, hf⟩ := am_bind hf
  refine K_X3_lastNext_L5 hv 2000 ((0 : Int32), (0 : Int32)) _ he3 ?_
  obtain ⟨y4, rfl⟩ : ∃ z, z = e2 := ⟨_, rfl⟩
  show X l _ _ 0 0 false _ kC 0 0 68 [none, none, none, some (vI y4), none] [] (en u)
  refine r_iload_n (x := y4) dX3_lastNext_68 rfl ?_
  have hx := am_inj hf
  subst hx
  exact r_iret dX3_lastNext_69 rfl rfl (le_b rfl) (le_b rfl)
/-! FireFromFire$Land.holds -/
theorem dX3_holds_0 : decode cX3_holds 0 = .ok (.iload_n 1, 1) := by decide +kernel
theorem dX3_holds_1 : decode cX3_holds 1 = .ok (.ifCond .lt 9, 3) := by decide +kernel
theorem dX3_holds_4 : decode cX3_holds 4 = .ok (.iload_n 1, 1) := by decide +kernel
theorem dX3_holds_5 : decode cX3_holds 5 = .ok (.bipush 10, 2) := by decide +kernel
theorem dX3_holds_7 : decode cX3_holds 7 = .ok (.if_icmp .lt 5, 3) := by decide +kernel
theorem dX3_holds_10 : decode cX3_holds 10 = .ok (.iconst 0, 1) := by decide +kernel
theorem dX3_holds_11 : decode cX3_holds 11 = .ok (.ireturn, 1) := by decide +kernel
theorem dX3_holds_12 : decode cX3_holds 12 = .ok (.iconst 0, 1) := by decide +kernel
theorem dX3_holds_13 : decode cX3_holds 13 = .ok (.istore_n 3, 1) := by decide +kernel
theorem dX3_holds_14 : decode cX3_holds 14 = .ok (.iconst 0, 1) := by decide +kernel
theorem dX3_holds_15 : decode cX3_holds 15 = .ok (.aload_n 0, 1) := by decide +kernel
theorem dX3_holds_16 : decode cX3_holds 16 = .ok (.getfield 25, 3) := by decide +kernel
theorem dX3_holds_19 : decode cX3_holds 19 = .ok (.iload_n 1, 1) := by decide +kernel
theorem dX3_holds_20 : decode cX3_holds 20 = .ok (.iaload, 1) := by decide +kernel
theorem dX3_holds_21 : decode cX3_holds 21 = .ok (.invokestatic 40, 3) := by decide +kernel
theorem dX3_holds_24 : decode cX3_holds 24 = .ok (.istore 4, 2) := by decide +kernel
theorem dX3_holds_26 : decode cX3_holds 26 = .ok (.iload 4, 2) := by decide +kernel
theorem dX3_holds_28 : decode cX3_holds 28 = .ok (.aload_n 0, 1) := by decide +kernel
theorem dX3_holds_29 : decode cX3_holds 29 = .ok (.getfield 28, 3) := by decide +kernel
theorem dX3_holds_32 : decode cX3_holds 32 = .ok (.iload_n 1, 1) := by decide +kernel
theorem dX3_holds_33 : decode cX3_holds 33 = .ok (.iaload, 1) := by decide +kernel
theorem dX3_holds_34 : decode cX3_holds 34 = .ok (.if_icmp .ge 219, 3) := by decide +kernel
theorem dX3_holds_37 : decode cX3_holds 37 = .ok (.iload 4, 2) := by decide +kernel
theorem dX3_holds_39 : decode cX3_holds 39 = .ok (.bipush 100, 2) := by decide +kernel
theorem dX3_holds_41 : decode cX3_holds 41 = .ok (.if_icmp .ge 212, 3) := by decide +kernel
theorem dX3_holds_44 : decode cX3_holds 44 = .ok (.iload_n 3, 1) := by decide +kernel
theorem dX3_holds_45 : decode cX3_holds 45 = .ok (.iconst 1, 1) := by decide +kernel
theorem dX3_holds_46 : decode cX3_holds 46 = .ok (.iand, 1) := by decide +kernel
theorem dX3_holds_47 : decode cX3_holds 47 = .ok (.istore 5, 2) := by decide +kernel
theorem dX3_holds_49 : decode cX3_holds 49 = .ok (.aload_n 0, 1) := by decide +kernel
theorem dX3_holds_50 : decode cX3_holds 50 = .ok (.getfield 31, 3) := by decide +kernel
theorem dX3_holds_53 : decode cX3_holds 53 = .ok (.iload 4, 2) := by decide +kernel
theorem dX3_holds_55 : decode cX3_holds 55 = .ok (.iaload, 1) := by decide +kernel
theorem dX3_holds_56 : decode cX3_holds 56 = .ok (.bipush 6, 2) := by decide +kernel
theorem dX3_holds_58 : decode cX3_holds 58 = .ok (.if_icmp .ne 10, 3) := by decide +kernel
theorem dX3_holds_61 : decode cX3_holds 61 = .ok (.iload_n 3, 1) := by decide +kernel
theorem dX3_holds_62 : decode cX3_holds 62 = .ok (.iconst 1, 1) := by decide +kernel
theorem dX3_holds_63 : decode cX3_holds 63 = .ok (.ixor, 1) := by decide +kernel
theorem dX3_holds_64 : decode cX3_holds 64 = .ok (.istore_n 3, 1) := by decide +kernel
theorem dX3_holds_65 : decode cX3_holds 65 = .ok (.goto 182, 3) := by decide +kernel
theorem dX3_holds_68 : decode cX3_holds 68 = .ok (.aload_n 0, 1) := by decide +kernel
theorem dX3_holds_69 : decode cX3_holds 69 = .ok (.getfield 31, 3) := by decide +kernel
theorem dX3_holds_72 : decode cX3_holds 72 = .ok (.iload 4, 2) := by decide +kernel
theorem dX3_holds_74 : decode cX3_holds 74 = .ok (.iaload, 1) := by decide +kernel
theorem dX3_holds_75 : decode cX3_holds 75 = .ok (.bipush 7, 2) := by decide +kernel
theorem dX3_holds_77 : decode cX3_holds 77 = .ok (.if_icmp .ne 16, 3) := by decide +kernel
theorem dX3_holds_80 : decode cX3_holds 80 = .ok (.iload_n 3, 1) := by decide +kernel
theorem dX3_holds_81 : decode cX3_holds 81 = .ok (.iconst 1, 1) := by decide +kernel
theorem dX3_holds_82 : decode cX3_holds 82 = .ok (.ishr, 1) := by decide +kernel
theorem dX3_holds_83 : decode cX3_holds 83 = .ok (.iload 5, 2) := by decide +kernel
theorem dX3_holds_85 : decode cX3_holds 85 = .ok (.bipush (-2), 2) := by decide +kernel
theorem dX3_holds_87 : decode cX3_holds 87 = .ok (.ior, 1) := by decide +kernel
theorem dX3_holds_88 : decode cX3_holds 88 = .ok (.iand, 1) := by decide +kernel
theorem dX3_holds_89 : decode cX3_holds 89 = .ok (.istore_n 3, 1) := by decide +kernel
theorem dX3_holds_90 : decode cX3_holds 90 = .ok (.goto 157, 3) := by decide +kernel
theorem dX3_holds_93 : decode cX3_holds 93 = .ok (.aload_n 0, 1) := by decide +kernel
theorem dX3_holds_94 : decode cX3_holds 94 = .ok (.getfield 31, 3) := by decide +kernel
theorem dX3_holds_97 : decode cX3_holds 97 = .ok (.iload 4, 2) := by decide +kernel
theorem dX3_holds_99 : decode cX3_holds 99 = .ok (.iaload, 1) := by decide +kernel
theorem dX3_holds_100 : decode cX3_holds 100 = .ok (.bipush 8, 2) := by decide +kernel
theorem dX3_holds_102 : decode cX3_holds 102 = .ok (.if_icmp .ne 13, 3) := by decide +kernel
theorem dX3_holds_105 : decode cX3_holds 105 = .ok (.iload_n 3, 1) := by decide +kernel
theorem dX3_holds_106 : decode cX3_holds 106 = .ok (.iconst 1, 1) := by decide +kernel
theorem dX3_holds_107 : decode cX3_holds 107 = .ok (.ishr, 1) := by decide +kernel
theorem dX3_holds_108 : decode cX3_holds 108 = .ok (.iload 5, 2) := by decide +kernel
theorem dX3_holds_110 : decode cX3_holds 110 = .ok (.ior, 1) := by decide +kernel
theorem dX3_holds_111 : decode cX3_holds 111 = .ok (.istore_n 3, 1) := by decide +kernel
theorem dX3_holds_112 : decode cX3_holds 112 = .ok (.goto 135, 3) := by decide +kernel
theorem dX3_holds_115 : decode cX3_holds 115 = .ok (.aload_n 0, 1) := by decide +kernel
theorem dX3_holds_116 : decode cX3_holds 116 = .ok (.getfield 31, 3) := by decide +kernel
theorem dX3_holds_119 : decode cX3_holds 119 = .ok (.iload 4, 2) := by decide +kernel
theorem dX3_holds_121 : decode cX3_holds 121 = .ok (.iaload, 1) := by decide +kernel
theorem dX3_holds_122 : decode cX3_holds 122 = .ok (.ifCond .lt 125, 3) := by decide +kernel
theorem dX3_holds_125 : decode cX3_holds 125 = .ok (.aload_n 0, 1) := by decide +kernel
theorem dX3_holds_126 : decode cX3_holds 126 = .ok (.getfield 31, 3) := by decide +kernel
theorem dX3_holds_129 : decode cX3_holds 129 = .ok (.iload 4, 2) := by decide +kernel
theorem dX3_holds_131 : decode cX3_holds 131 = .ok (.iaload, 1) := by decide +kernel
theorem dX3_holds_132 : decode cX3_holds 132 = .ok (.bipush 6, 2) := by decide +kernel
theorem dX3_holds_134 : decode cX3_holds 134 = .ok (.if_icmp .ge 113, 3) := by decide +kernel
theorem dX3_holds_137 : decode cX3_holds 137 = .ok (.aload_n 0, 1) := by decide +kernel
theorem dX3_holds_138 : decode cX3_holds 138 = .ok (.getfield 31, 3) := by decide +kernel
theorem dX3_holds_141 : decode cX3_holds 141 = .ok (.iload 4, 2) := by decide +kernel
theorem dX3_holds_143 : decode cX3_holds 143 = .ok (.iaload, 1) := by decide +kernel
theorem dX3_holds_144 : decode cX3_holds 144 = .ok (.aload_n 2, 1) := by decide +kernel
theorem dX3_holds_145 : decode cX3_holds 145 = .ok (.arraylength, 1) := by decide +kernel
theorem dX3_holds_146 : decode cX3_holds 146 = .ok (.if_icmp .ge 101, 3) := by decide +kernel
theorem dX3_holds_149 : decode cX3_holds 149 = .ok (.aload_n 2, 1) := by decide +kernel
theorem dX3_holds_150 : decode cX3_holds 150 = .ok (.aload_n 0, 1) := by decide +kernel
theorem dX3_holds_151 : decode cX3_holds 151 = .ok (.getfield 31, 3) := by decide +kernel
theorem dX3_holds_154 : decode cX3_holds 154 = .ok (.iload 4, 2) := by decide +kernel
theorem dX3_holds_156 : decode cX3_holds 156 = .ok (.iaload, 1) := by decide +kernel
theorem dX3_holds_157 : decode cX3_holds 157 = .ok (.iaload, 1) := by decide +kernel
theorem dX3_holds_158 : decode cX3_holds 158 = .ok (.aload_n 0, 1) := by decide +kernel
theorem dX3_holds_159 : decode cX3_holds 159 = .ok (.getfield 37, 3) := by decide +kernel
theorem dX3_holds_162 : decode cX3_holds 162 = .ok (.iload 4, 2) := by decide +kernel
theorem dX3_holds_164 : decode cX3_holds 164 = .ok (.iaload, 1) := by decide +kernel
theorem dX3_holds_165 : decode cX3_holds 165 = .ok (.invokestatic 46, 3) := by decide +kernel
theorem dX3_holds_168 : decode cX3_holds 168 = .ok (.istore 6, 2) := by decide +kernel
theorem dX3_holds_170 : decode cX3_holds 170 = .ok (.aload_n 0, 1) := by decide +kernel
theorem dX3_holds_171 : decode cX3_holds 171 = .ok (.getfield 34, 3) := by decide +kernel
theorem dX3_holds_174 : decode cX3_holds 174 = .ok (.iload 4, 2) := by decide +kernel
theorem dX3_holds_176 : decode cX3_holds 176 = .ok (.iaload, 1) := by decide +kernel
theorem dX3_holds_177 : decode cX3_holds 177 = .ok (.bipush 60, 2) := by decide +kernel
theorem dX3_holds_179 : decode cX3_holds 179 = .ok (.if_icmp .ne 16, 3) := by decide +kernel
theorem dX3_holds_182 : decode cX3_holds 182 = .ok (.iload 6, 2) := by decide +kernel
theorem dX3_holds_184 : decode cX3_holds 184 = .ok (.ifCond .ge 7, 3) := by decide +kernel
theorem dX3_holds_187 : decode cX3_holds 187 = .ok (.iconst 1, 1) := by decide +kernel
theorem dX3_holds_188 : decode cX3_holds 188 = .ok (.goto 42, 3) := by decide +kernel
theorem dX3_holds_191 : decode cX3_holds 191 = .ok (.iconst 0, 1) := by decide +kernel
theorem dX3_holds_192 : decode cX3_holds 192 = .ok (.goto 38, 3) := by decide +kernel
theorem dX3_holds_195 : decode cX3_holds 195 = .ok (.aload_n 0, 1) := by decide +kernel
theorem dX3_holds_196 : decode cX3_holds 196 = .ok (.getfield 34, 3) := by decide +kernel
theorem dX3_holds_199 : decode cX3_holds 199 = .ok (.iload 4, 2) := by decide +kernel
theorem dX3_holds_201 : decode cX3_holds 201 = .ok (.iaload, 1) := by decide +kernel
theorem dX3_holds_202 : decode cX3_holds 202 = .ok (.bipush 62, 2) := by decide +kernel
theorem dX3_holds_204 : decode cX3_holds 204 = .ok (.if_icmp .ne 16, 3) := by decide +kernel
theorem dX3_holds_207 : decode cX3_holds 207 = .ok (.iload 6, 2) := by decide +kernel
theorem dX3_holds_209 : decode cX3_holds 209 = .ok (.ifCond .le 7, 3) := by decide +kernel
theorem dX3_holds_212 : decode cX3_holds 212 = .ok (.iconst 1, 1) := by decide +kernel
theorem dX3_holds_213 : decode cX3_holds 213 = .ok (.goto 17, 3) := by decide +kernel
theorem dX3_holds_216 : decode cX3_holds 216 = .ok (.iconst 0, 1) := by decide +kernel
theorem dX3_holds_217 : decode cX3_holds 217 = .ok (.goto 13, 3) := by decide +kernel
theorem dX3_holds_220 : decode cX3_holds 220 = .ok (.iload 6, 2) := by decide +kernel
theorem dX3_holds_222 : decode cX3_holds 222 = .ok (.ifCond .ne 7, 3) := by decide +kernel
theorem dX3_holds_225 : decode cX3_holds 225 = .ok (.iconst 1, 1) := by decide +kernel
theorem dX3_holds_226 : decode cX3_holds 226 = .ok (.goto 4, 3) := by decide +kernel
theorem dX3_holds_229 : decode cX3_holds 229 = .ok (.iconst 0, 1) := by decide +kernel
theorem dX3_holds_230 : decode cX3_holds 230 = .ok (.istore 7, 2) := by decide +kernel
theorem dX3_holds_232 : decode cX3_holds 232 = .ok (.iload_n 3, 1) := by decide +kernel
theorem dX3_holds_233 : decode cX3_holds 233 = .ok (.iconst 1, 1) := by decide +kernel
theorem dX3_holds_234 : decode cX3_holds 234 = .ok (.ishl, 1) := by decide +kernel
theorem dX3_holds_235 : decode cX3_holds 235 = .ok (.iload 7, 2) := by decide +kernel
theorem dX3_holds_237 : decode cX3_holds 237 = .ok (.ifCond .eq 7, 3) := by decide +kernel
theorem dX3_holds_240 : decode cX3_holds 240 = .ok (.iconst 1, 1) := by decide +kernel
theorem dX3_holds_241 : decode cX3_holds 241 = .ok (.goto 4, 3) := by decide +kernel
theorem dX3_holds_244 : decode cX3_holds 244 = .ok (.iconst 0, 1) := by decide +kernel
theorem dX3_holds_245 : decode cX3_holds 245 = .ok (.ior, 1) := by decide +kernel
theorem dX3_holds_246 : decode cX3_holds 246 = .ok (.istore_n 3, 1) := by decide +kernel
theorem dX3_holds_247 : decode cX3_holds 247 = .ok (.iinc 4 1, 3) := by decide +kernel
theorem dX3_holds_250 : decode cX3_holds 250 = .ok (.goto (-224), 3) := by decide +kernel
theorem dX3_holds_253 : decode cX3_holds 253 = .ok (.iload_n 3, 1) := by decide +kernel
theorem dX3_holds_254 : decode cX3_holds 254 = .ok (.iconst 1, 1) := by decide +kernel
theorem dX3_holds_255 : decode cX3_holds 255 = .ok (.iand, 1) := by decide +kernel
theorem dX3_holds_256 : decode cX3_holds 256 = .ok (.ifCond .eq 7, 3) := by decide +kernel
theorem dX3_holds_259 : decode cX3_holds 259 = .ok (.iconst 1, 1) := by decide +kernel
theorem dX3_holds_260 : decode cX3_holds 260 = .ok (.goto 4, 3) := by decide +kernel
theorem dX3_holds_263 : decode cX3_holds 263 = .ok (.iconst 0, 1) := by decide +kernel
theorem dX3_holds_264 : decode cX3_holds 264 = .ok (.ireturn, 1) := by decide +kernel
def f_X3_holds_L26 (n0 : Nat) (n1 : Nat) (c1 : Int32) (u : PM) : Int32 × Int32 → Option ((Int32 × Int32) ⊕ (Int32)) := fun (x3 , x4) =>
  if c1 < 0 ∨ 10 ≤ c1.toNatClampNeg then none else
  if (u.1 (15, n0, 0) c1.toNatClampNeg) ≤ x4 then
    some (.inr (x3))
  else
  if (100 : Int32) ≤ x4 then
    some (.inr (x3))
  else
  if x4 < 0 ∨ 100 ≤ x4.toNatClampNeg then none else
  if (u.1 (16, n0, 0) x4.toNatClampNeg) = (6 : Int32) then
    some (.inl (x3 ^^^ (1 : Int32), x4 + (1 : Int32)))
  else
  if (u.1 (16, n0, 0) x4.toNatClampNeg) = (7 : Int32) then
    some (.inl ((x3 >>> ((1 : Int32) &&& 31)) &&& ((x3 &&& (1 : Int32)) ||| (-2 : Int32)), x4 + (1 : Int32)))
  else
  if (u.1 (16, n0, 0) x4.toNatClampNeg) = (8 : Int32) then
    some (.inl ((x3 >>> ((1 : Int32) &&& 31)) ||| (x3 &&& (1 : Int32)), x4 + (1 : Int32)))
  else
  if (u.1 (16, n0, 0) x4.toNatClampNeg) < 0 then
    some (.inl (x3, x4 + (1 : Int32)))
  else
  if (6 : Int32) ≤ (u.1 (16, n0, 0) x4.toNatClampNeg) then
    some (.inl (x3, x4 + (1 : Int32)))
  else
  if (6 : Int32) ≤ (u.1 (16, n0, 0) x4.toNatClampNeg) then
    some (.inl (x3, x4 + (1 : Int32)))
  else
  if (u.1 (16, n0, 0) x4.toNatClampNeg) < 0 ∨ 6 ≤ (u.1 (16, n0, 0) x4.toNatClampNeg).toNatClampNeg then none else
  (f_J6_compare_7cf53 (u.1 (8, n1, 0) ((u.1 (16, n0, 0) x4.toNatClampNeg).toNatClampNeg)) (u.1 (18, n0, 0) x4.toNatClampNeg) u).bind fun r5 =>
  if (u.1 (17, n0, 0) x4.toNatClampNeg) = (60 : Int32) then
    if 0 ≤ r5 then
      some (.inl ((x3 <<< ((1 : Int32) &&& 31)) ||| (0 : Int32), x4 + (1 : Int32)))
    else
    some (.inl ((x3 <<< ((1 : Int32) &&& 31)) ||| (1 : Int32), x4 + (1 : Int32)))
  else
  if (u.1 (17, n0, 0) x4.toNatClampNeg) = (62 : Int32) then
    if r5 ≤ 0 then
      some (.inl ((x3 <<< ((1 : Int32) &&& 31)) ||| (0 : Int32), x4 + (1 : Int32)))
    else
    some (.inl ((x3 <<< ((1 : Int32) &&& 31)) ||| (1 : Int32), x4 + (1 : Int32)))
  else
  if r5 = 0 then
    some (.inl ((x3 <<< ((1 : Int32) &&& 31)) ||| (1 : Int32), x4 + (1 : Int32)))
  else
  some (.inl ((x3 <<< ((1 : Int32) &&& 31)) ||| (0 : Int32), x4 + (1 : Int32)))
set_option maxHeartbeats 4000000 in
set_option maxRecDepth 20000 in
theorem K_X3_holds_L26 {l : Launch} {T : Option AV × List Key × AM} {n0 : Nat} (hn0 : n0 < 5) {n1 : Nat} (hn1 : n1 < 4) {c1 : Int32} {u : PM} : ∀ (n : Nat) (s : Int32 × Int32) (e0 : Int32), am_loop (f_X3_holds_L26 n0 n1 c1 u) n s = some e0 → (fun e : Int32 => X l mX3_holds 2 0 0 false T kC 0 0 253 [none, none, none, some (vI e), none, none, none, none] [] (en u)) e0 → X l mX3_holds 2 0 0 false T kC 0 0 26 [some (vR (11, n0, 0)), some (vI c1), some (vR (8, n1, 0)), some (vI s.1), some (vI s.2), none, none, none] [] (en u) := by
  refine am_loop_of ?_
  intro s x hf k1 k2
  obtain ⟨x3 , x4⟩ := s
  unfold f_X3_holds_L26 at hf
  show X l mX3_holds 2 0 0 false T kC 0 0 26 [some (vR (11, n0, 0)), some (vI c1), some (vR (8, n1, 0)), some (vI x3), some (vI x4), none, none, none] [] (en u)
  refine r_iload (x := x4) dX3_holds_26 rfl ?_
  refine r_aload_n (x := (11, n0, 0)) dX3_holds_28 rfl ?_
  refine e_getr (z := some (15, n0, 0)) fw_X3_28 dX3_holds_29 (kC_mem (s := 11) (by decide) hn0 (by decide)) rfl (lt_b rfl) rfl ?_
  refine r_iload_n (x := c1) dX3_holds_32 rfl ?_
  obtain ⟨h2, hf⟩ := am_nchk hf
  refine e_iald (n := c1.toNatClampNeg) dX3_holds_33 (kC_mem (s := 15) (by decide) hn0 (by decide)) rfl h2 rfl rfl ?_
  refine r_icmp_ge (tgt := 253) dX3_holds_34 (by decide) (fun hc => ?_) (fun hc => ?_)
  · have hf := (am_if hf).1 hc
    refine r_weak (L' := [none, none, none, some (vI x3), none, none, none, none]) (And.intro rfl trivial) ?_
    exact k2 _ (am_inj hf).symm
  · have hf := (am_if hf).2 hc
    refine r_iload (x := x4) dX3_holds_37 rfl ?_
    refine r_bipush (v := 100) dX3_holds_39 rfl ?_
    refine r_icmp_ge (tgt := 253) dX3_holds_41 (by decide) (fun hc => ?_) (fun hc => ?_)
    · have hf := (am_if hf).1 hc
      refine r_weak (L' := [none, none, none, some (vI x3), none, none, none, none]) (And.intro rfl trivial) ?_
      exact k2 _ (am_inj hf).symm
    · have hf := (am_if hf).2 hc
      refine r_iload_n (x := x3) dX3_holds_44 rfl ?_
      refine r_iconst (v := 1) dX3_holds_45 rfl ?_
      refine r_iand dX3_holds_46 ?_
      refine r_istore (L' := [some (vR (11, n0, 0)), some (vI c1), some (vR (8, n1, 0)), some (vI x3), some (vI x4), some (vI (x3 &&& (1 : Int32))), none, none]) dX3_holds_47 (by decide) rfl ?_
      refine r_aload_n (x := (11, n0, 0)) dX3_holds_49 rfl ?_
      refine e_getr (z := some (16, n0, 0)) fw_X3_31 dX3_holds_50 (kC_mem (s := 11) (by decide) hn0 (by decide)) rfl (lt_b rfl) rfl ?_
      refine r_iload (x := x4) dX3_holds_53 rfl ?_
      obtain ⟨h3, hf⟩ := am_nchk hf
      refine e_iald (n := x4.toNatClampNeg) dX3_holds_55 (kC_mem (s := 16) (by decide) hn0 (by decide)) rfl h3 rfl rfl ?_
      refine r_bipush (v := 6) dX3_holds_56 rfl ?_
      refine r_icmp_ne (tgt := 68) dX3_holds_58 (by decide) (fun hc => ?_) (fun hc => ?_)
      · have hf := (am_if hf).2 hc
        refine r_aload_n (x := (11, n0, 0)) dX3_holds_68 rfl ?_
        refine e_getr (z := some (16, n0, 0)) fw_X3_31 dX3_holds_69 (kC_mem (s := 11) (by decide) hn0 (by decide)) rfl (lt_b rfl) rfl ?_
        refine r_iload (x := x4) dX3_holds_72 rfl ?_
        refine e_iald (n := x4.toNatClampNeg) dX3_holds_74 (kC_mem (s := 16) (by decide) hn0 (by decide)) rfl h3 rfl rfl ?_
        refine r_bipush (v := 7) dX3_holds_75 rfl ?_
        refine r_icmp_ne (tgt := 93) dX3_holds_77 (by decide) (fun hc => ?_) (fun hc => ?_)
        · have hf := (am_if hf).2 hc
          refine r_aload_n (x := (11, n0, 0)) dX3_holds_93 rfl ?_
          refine e_getr (z := some (16, n0, 0)) fw_X3_31 dX3_holds_94 (kC_mem (s := 11) (by decide) hn0 (by decide)) rfl (lt_b rfl) rfl ?_
          refine r_iload (x := x4) dX3_holds_97 rfl ?_
          refine e_iald (n := x4.toNatClampNeg) dX3_holds_99 (kC_mem (s := 16) (by decide) hn0 (by decide)) rfl h3 rfl rfl ?_
          refine r_bipush (v := 8) dX3_holds_100 rfl ?_
          refine r_icmp_ne (tgt := 115) dX3_holds_102 (by decide) (fun hc => ?_) (fun hc => ?_)
          · have hf := (am_if hf).2 hc
            refine r_aload_n (x := (11, n0, 0)) dX3_holds_115 rfl ?_
            refine e_getr (z := some (16, n0, 0)) fw_X3_31 dX3_holds_116 (kC_mem (s := 11) (by decide) hn0 (by decide)) rfl (lt_b rfl) rfl ?_
            refine r_iload (x := x4) dX3_holds_119 rfl ?_
            refine e_iald (n := x4.toNatClampNeg) dX3_holds_121 (kC_mem (s := 16) (by decide) hn0 (by decide)) rfl h3 rfl rfl ?_
            refine r_if_lt (tgt := 247) dX3_holds_122 (by decide) (fun hc => ?_) (fun hc => ?_)
            · have hf := (am_if hf).1 hc
              refine r_iinc (x := x4) (v := x4 + (1 : Int32)) (L' := [some (vR (11, n0, 0)), some (vI c1), some (vR (8, n1, 0)), some (vI x3), some (vI (x4 + (1 : Int32))), some (vI (x3 &&& (1 : Int32))), none, none]) dX3_holds_247 rfl rfl (lt_b rfl) rfl ?_
              refine r_goto (tgt := 26) dX3_holds_250 (by decide) ?_
              refine r_weak (L' := [some (vR (11, n0, 0)), some (vI c1), some (vR (8, n1, 0)), some (vI x3), some (vI (x4 + (1 : Int32))), none, none, none]) (And.intro rfl (And.intro rfl (And.intro rfl (And.intro rfl (And.intro rfl trivial))))) ?_
              exact k1 _ (am_inj hf).symm
            · have hf := (am_if hf).2 hc
              refine r_aload_n (x := (11, n0, 0)) dX3_holds_125 rfl ?_
              refine e_getr (z := some (16, n0, 0)) fw_X3_31 dX3_holds_126 (kC_mem (s := 11) (by decide) hn0 (by decide)) rfl (lt_b rfl) rfl ?_
              refine r_iload (x := x4) dX3_holds_129 rfl ?_
              refine e_iald (n := x4.toNatClampNeg) dX3_holds_131 (kC_mem (s := 16) (by decide) hn0 (by decide)) rfl h3 rfl rfl ?_
              refine r_bipush (v := 6) dX3_holds_132 rfl ?_
              refine r_icmp_ge (tgt := 247) dX3_holds_134 (by decide) (fun hc => ?_) (fun hc => ?_)
              · have hf := (am_if hf).1 hc
                refine r_iinc (x := x4) (v := x4 + (1 : Int32)) (L' := [some (vR (11, n0, 0)), some (vI c1), some (vR (8, n1, 0)), some (vI x3), some (vI (x4 + (1 : Int32))), some (vI (x3 &&& (1 : Int32))), none, none]) dX3_holds_247 rfl rfl (lt_b rfl) rfl ?_
                refine r_goto (tgt := 26) dX3_holds_250 (by decide) ?_
                refine r_weak (L' := [some (vR (11, n0, 0)), some (vI c1), some (vR (8, n1, 0)), some (vI x3), some (vI (x4 + (1 : Int32))), none, none, none]) (And.intro rfl (And.intro rfl (And.intro rfl (And.intro rfl (And.intro rfl trivial))))) ?_
                exact k1 _ (am_inj hf).symm
              · have hf := (am_if hf).2 hc
                refine r_aload_n (x := (11, n0, 0)) dX3_holds_137 rfl ?_
                refine e_getr (z := some (16, n0, 0)) fw_X3_31 dX3_holds_138 (kC_mem (s := 11) (by decide) hn0 (by decide)) rfl (lt_b rfl) rfl ?_
                refine r_iload (x := x4) dX3_holds_141 rfl ?_
                refine e_iald (n := x4.toNatClampNeg) dX3_holds_143 (kC_mem (s := 16) (by decide) hn0 (by decide)) rfl h3 rfl rfl ?_
                refine r_aload_n (x := (8, n1, 0)) dX3_holds_144 rfl ?_
                refine r_alen (v := 6) dX3_holds_145 (kC_mem (s := 8) (by decide) hn1 (by decide)) rfl rfl ?_
                refine r_icmp_ge (tgt := 247) dX3_holds_146 (by decide) (fun hc => ?_) (fun hc => ?_)
                · have hf := (am_if hf).1 hc
                  refine r_iinc (x := x4) (v := x4 + (1 : Int32)) (L' := [some (vR (11, n0, 0)), some (vI c1), some (vR (8, n1, 0)), some (vI x3), some (vI (x4 + (1 : Int32))), some (vI (x3 &&& (1 : Int32))), none, none]) dX3_holds_247 rfl rfl (lt_b rfl) rfl ?_
                  refine r_goto (tgt := 26) dX3_holds_250 (by decide) ?_
                  refine r_weak (L' := [some (vR (11, n0, 0)), some (vI c1), some (vR (8, n1, 0)), some (vI x3), some (vI (x4 + (1 : Int32))), none, none, none]) (And.intro rfl (And.intro rfl (And.intro rfl (And.intro rfl (And.intro rfl trivial))))) ?_
                  exact k1 _ (am_inj hf).symm
                · have hf := (am_if hf).2 hc
                  refine r_aload_n (x := (8, n1, 0)) dX3_holds_149 rfl ?_
                  refine r_aload_n (x := (11, n0, 0)) dX3_holds_150 rfl ?_
                  refine e_getr (z := some (16, n0, 0)) fw_X3_31 dX3_holds_151 (kC_mem (s := 11) (by decide) hn0 (by decide)) rfl (lt_b rfl) rfl ?_
                  refine r_iload (x := x4) dX3_holds_154 rfl ?_
                  refine e_iald (n := x4.toNatClampNeg) dX3_holds_156 (kC_mem (s := 16) (by decide) hn0 (by decide)) rfl h3 rfl rfl ?_
                  obtain ⟨h4, hf⟩ := am_nchk hf
                  refine e_iald (n := (u.1 (16, n0, 0) x4.toNatClampNeg).toNatClampNeg) dX3_holds_157 (kC_mem (s := 8) (by decide) hn1 (by decide)) rfl h4 rfl rfl ?_
                  refine r_aload_n (x := (11, n0, 0)) dX3_holds_158 rfl ?_
                  refine e_getr (z := some (18, n0, 0)) fw_X3_37 dX3_holds_159 (kC_mem (s := 11) (by decide) hn0 (by decide)) rfl (lt_b rfl) rfl ?_
                  refine r_iload (x := x4) dX3_holds_162 rfl ?_
                  refine e_iald (n := x4.toNatClampNeg) dX3_holds_164 (kC_mem (s := 18) (by decide) hn0 (by decide)) rfl h3 rfl rfl ?_
                  obtain ⟨r5, hr6, hf⟩ := am_bind hf
                  refine r_callS (as := [vI (u.1 (8, n1, 0) ((u.1 (16, n0, 0) x4.toNatClampNeg).toNatClampNeg)), vI (u.1 (18, n0, 0) x4.toNatClampNeg)]) (st := []) (n := 2) mw_X3_46 ms_J6_compare_7cf53 (C_J6_compare_7cf53 (l := l) hr6) (by decide) dX3_holds_165 rfl (le_b rfl) (le_b rfl) (le_b rfl) ?_
                  show X l _ _ 0 0 false _ kC 0 0 168 [some (vR (11, n0, 0)), some (vI c1), some (vR (8, n1, 0)), some (vI x3), some (vI x4), some (vI (x3 &&& (1 : Int32))), none, none] [vI r5] (en u)
                  refine r_istore (L' := [some (vR (11, n0, 0)), some (vI c1), some (vR (8, n1, 0)), some (vI x3), some (vI x4), some (vI (x3 &&& (1 : Int32))), some (vI r5), none]) dX3_holds_168 (by decide) rfl ?_
                  refine r_aload_n (x := (11, n0, 0)) dX3_holds_170 rfl ?_
                  refine e_getr (z := some (17, n0, 0)) fw_X3_34 dX3_holds_171 (kC_mem (s := 11) (by decide) hn0 (by decide)) rfl (lt_b rfl) rfl ?_
                  refine r_iload (x := x4) dX3_holds_174 rfl ?_
                  refine e_iald (n := x4.toNatClampNeg) dX3_holds_176 (kC_mem (s := 17) (by decide) hn0 (by decide)) rfl h3 rfl rfl ?_
                  refine r_bipush (v := 60) dX3_holds_177 rfl ?_
                  refine r_icmp_ne (tgt := 195) dX3_holds_179 (by decide) (fun hc => ?_) (fun hc => ?_)
                  · have hf := (am_if hf).2 hc
                    refine r_aload_n (x := (11, n0, 0)) dX3_holds_195 rfl ?_
                    refine e_getr (z := some (17, n0, 0)) fw_X3_34 dX3_holds_196 (kC_mem (s := 11) (by decide) hn0 (by decide)) rfl (lt_b rfl) rfl ?_
                    refine r_iload (x := x4) dX3_holds_199 rfl ?_
                    refine e_iald (n := x4.toNatClampNeg) dX3_holds_201 (kC_mem (s := 17) (by decide) hn0 (by decide)) rfl h3 rfl rfl ?_
                    refine r_bipush (v := 62) dX3_holds_202 rfl ?_
                    refine r_icmp_ne (tgt := 220) dX3_holds_204 (by decide) (fun hc => ?_) (fun hc => ?_)
                    · have hf := (am_if hf).2 hc
                      refine r_iload (x := r5) dX3_holds_220 rfl ?_
                      refine r_if_ne (tgt := 229) dX3_holds_222 (by decide) (fun hc => ?_) (fun hc => ?_)
                      · have hf := (am_if hf).2 hc
                        refine r_iconst (v := 0) dX3_holds_229 rfl ?_
                        refine r_istore (L' := [some (vR (11, n0, 0)), some (vI c1), some (vR (8, n1, 0)), some (vI x3), some (vI x4), some (vI (x3 &&& (1 : Int32))), some (vI r5), some (vI (0 : Int32))]) dX3_holds_230 (by decide) rfl ?_
                        refine r_iload_n (x := x3) dX3_holds_232 rfl ?_
                        refine r_iconst (v := 1) dX3_holds_233 rfl ?_
                        refine r_ishl dX3_holds_234 ?_
                        refine r_iload (x := (0 : Int32)) dX3_holds_235 rfl ?_
                        refine r_if_eq (tgt := 244) dX3_holds_237 (by decide) (fun hc => ?_) (fun hc => absurd hc (by decide))
                        refine r_iconst (v := 0) dX3_holds_244 rfl ?_
                        refine r_ior dX3_holds_245 ?_
                        refine r_istore_n (L' := [some (vR (11, n0, 0)), some (vI c1), some (vR (8, n1, 0)), some (vI ((x3 <<< ((1 : Int32) &&& 31)) ||| (0 : Int32))), some (vI x4), some (vI (x3 &&& (1 : Int32))), some (vI r5), some (vI (0 : Int32))]) dX3_holds_246 (by decide) rfl ?_
                        refine r_iinc (x := x4) (v := x4 + (1 : Int32)) (L' := [some (vR (11, n0, 0)), some (vI c1), some (vR (8, n1, 0)), some (vI ((x3 <<< ((1 : Int32) &&& 31)) ||| (0 : Int32))), some (vI (x4 + (1 : Int32))), some (vI (x3 &&& (1 : Int32))), some (vI r5), some (vI (0 : Int32))]) dX3_holds_247 rfl rfl (lt_b rfl) rfl ?_
                        refine r_goto (tgt := 26) dX3_holds_250 (by decide) ?_
                        refine r_weak (L' := [some (vR (11, n0, 0)), some (vI c1), some (vR (8, n1, 0)), some (vI ((x3 <<< ((1 : Int32) &&& 31)) ||| (0 : Int32))), some (vI (x4 + (1 : Int32))), none, none, none]) (And.intro rfl (And.intro rfl (And.intro rfl (And.intro rfl (And.intro rfl trivial))))) ?_
                        exact k1 _ (am_inj hf).symm
                      · have hf := (am_if hf).1 hc
                        refine r_iconst (v := 1) dX3_holds_225 rfl ?_
                        refine r_goto (tgt := 230) dX3_holds_226 (by decide) ?_
                        refine r_istore (L' := [some (vR (11, n0, 0)), some (vI c1), some (vR (8, n1, 0)), some (vI x3), some (vI x4), some (vI (x3 &&& (1 : Int32))), some (vI r5), some (vI (1 : Int32))]) dX3_holds_230 (by decide) rfl ?_
                        refine r_iload_n (x := x3) dX3_holds_232 rfl ?_
                        refine r_iconst (v := 1) dX3_holds_233 rfl ?_
                        refine r_ishl dX3_holds_234 ?_
                        refine r_iload (x := (1 : Int32)) dX3_holds_235 rfl ?_
                        refine r_if_eq (tgt := 244) dX3_holds_237 (by decide) (fun hc => absurd hc (by decide)) (fun hc => ?_)
                        refine r_iconst (v := 1) dX3_holds_240 rfl ?_
                        refine r_goto (tgt := 245) dX3_holds_241 (by decide) ?_
                        refine r_ior dX3_holds_245 ?_
                        refine r_istore_n (L' := [some (vR (11, n0, 0)), some (vI c1), some (vR (8, n1, 0)), some (vI ((x3 <<< ((1 : Int32) &&& 31)) ||| (1 : Int32))), some (vI x4), some (vI (x3 &&& (1 : Int32))), some (vI r5), some (vI (1 : Int32))]) dX3_holds_246 (by decide) rfl ?_
                        refine r_iinc (x := x4) (v := x4 + (1 : Int32)) (L' := [some (vR (11, n0, 0)), some (vI c1), some (vR (8, n1, 0)), some (vI ((x3 <<< ((1 : Int32) &&& 31)) ||| (1 : Int32))), some (vI (x4 + (1 : Int32))), some (vI (x3 &&& (1 : Int32))), some (vI r5), some (vI (1 : Int32))]) dX3_holds_247 rfl rfl (lt_b rfl) rfl ?_
                        refine r_goto (tgt := 26) dX3_holds_250 (by decide) ?_
                        refine r_weak (L' := [some (vR (11, n0, 0)), some (vI c1), some (vR (8, n1, 0)), some (vI ((x3 <<< ((1 : Int32) &&& 31)) ||| (1 : Int32))), some (vI (x4 + (1 : Int32))), none, none, none]) (And.intro rfl (And.intro rfl (And.intro rfl (And.intro rfl (And.intro rfl trivial))))) ?_
                        exact k1 _ (am_inj hf).symm
                    · have hf := (am_if hf).1 hc
                      refine r_iload (x := r5) dX3_holds_207 rfl ?_
                      refine r_if_le (tgt := 216) dX3_holds_209 (by decide) (fun hc => ?_) (fun hc => ?_)
                      · have hf := (am_if hf).1 hc
                        refine r_iconst (v := 0) dX3_holds_216 rfl ?_
                        refine r_goto (tgt := 230) dX3_holds_217 (by decide) ?_
                        refine r_istore (L' := [some (vR (11, n0, 0)), some (vI c1), some (vR (8, n1, 0)), some (vI x3), some (vI x4), some (vI (x3 &&& (1 : Int32))), some (vI r5), some (vI (0 : Int32))]) dX3_holds_230 (by decide) rfl ?_
                        refine r_iload_n (x := x3) dX3_holds_232 rfl ?_
                        refine r_iconst (v := 1) dX3_holds_233 rfl ?_
                        refine r_ishl dX3_holds_234 ?_
                        refine r_iload (x := (0 : Int32)) dX3_holds_235 rfl ?_
                        refine r_if_eq (tgt := 244) dX3_holds_237 (by decide) (fun hc => ?_) (fun hc => absurd hc (by decide))
                        refine r_iconst (v := 0) dX3_holds_244 rfl ?_
                        refine r_ior dX3_holds_245 ?_
                        refine r_istore_n (L' := [some (vR (11, n0, 0)), some (vI c1), some (vR (8, n1, 0)), some (vI ((x3 <<< ((1 : Int32) &&& 31)) ||| (0 : Int32))), some (vI x4), some (vI (x3 &&& (1 : Int32))), some (vI r5), some (vI (0 : Int32))]) dX3_holds_246 (by decide) rfl ?_
                        refine r_iinc (x := x4) (v := x4 + (1 : Int32)) (L' := [some (vR (11, n0, 0)), some (vI c1), some (vR (8, n1, 0)), some (vI ((x3 <<< ((1 : Int32) &&& 31)) ||| (0 : Int32))), some (vI (x4 + (1 : Int32))), some (vI (x3 &&& (1 : Int32))), some (vI r5), some (vI (0 : Int32))]) dX3_holds_247 rfl rfl (lt_b rfl) rfl ?_
                        refine r_goto (tgt := 26) dX3_holds_250 (by decide) ?_
                        refine r_weak (L' := [some (vR (11, n0, 0)), some (vI c1), some (vR (8, n1, 0)), some (vI ((x3 <<< ((1 : Int32) &&& 31)) ||| (0 : Int32))), some (vI (x4 + (1 : Int32))), none, none, none]) (And.intro rfl (And.intro rfl (And.intro rfl (And.intro rfl (And.intro rfl trivial))))) ?_
                        exact k1 _ (am_inj hf).symm
                      · have hf := (am_if hf).2 hc
                        refine r_iconst (v := 1) dX3_holds_212 rfl ?_
                        refine r_goto (tgt := 230) dX3_holds_213 (by decide) ?_
                        refine r_istore (L' := [some (vR (11, n0, 0)), some (vI c1), some (vR (8, n1, 0)), some (vI x3), some (vI x4), some (vI (x3 &&& (1 : Int32))), some (vI r5), some (vI (1 : Int32))]) dX3_holds_230 (by decide) rfl ?_
                        refine r_iload_n (x := x3) dX3_holds_232 rfl ?_
                        refine r_iconst (v := 1) dX3_holds_233 rfl ?_
                        refine r_ishl dX3_holds_234 ?_
                        refine r_iload (x := (1 : Int32)) dX3_holds_235 rfl ?_
                        refine r_if_eq (tgt := 244) dX3_holds_237 (by decide) (fun hc => absurd hc (by decide)) (fun hc => ?_)
                        refine r_iconst (v := 1) dX3_holds_240 rfl ?_
                        refine r_goto (tgt := 245) dX3_holds_241 (by decide) ?_
                        refine r_ior dX3_holds_245 ?_
                        refine r_istore_n (L' := [some (vR (11, n0, 0)), some (vI c1), some (vR (8, n1, 0)), some (vI ((x3 <<< ((1 : Int32) &&& 31)) ||| (1 : Int32))), some (vI x4), some (vI (x3 &&& (1 : Int32))), some (vI r5), some (vI (1 : Int32))]) dX3_holds_246 (by decide) rfl ?_
                        refine r_iinc (x := x4) (v := x4 + (1 : Int32)) (L' := [some (vR (11, n0, 0)), some (vI c1), some (vR (8, n1, 0)), some (vI ((x3 <<< ((1 : Int32) &&& 31)) ||| (1 : Int32))), some (vI (x4 + (1 : Int32))), some (vI (x3 &&& (1 : Int32))), some (vI r5), some (vI (1 : Int32))]) dX3_holds_247 rfl rfl (lt_b rfl) rfl ?_
                        refine r_goto (tgt := 26) dX3_holds_250 (by decide) ?_
                        refine r_weak (L' := [some (vR (11, n0, 0)), some (vI c1), some (vR (8, n1, 0)), some (vI ((x3 <<< ((1 : Int32) &&& 31)) ||| (1 : Int32))), some (vI (x4 + (1 : Int32))), none, none, none]) (And.intro rfl (And.intro rfl (And.intro rfl (And.intro rfl (And.intro rfl trivial))))) ?_
                        exact k1 _ (am_inj hf).symm
                  · have hf := (am_if hf).1 hc
                    refine r_iload (x := r5) dX3_holds_182 rfl ?_
                    refine r_if_ge (tgt := 191) dX3_holds_184 (by decide) (fun hc => ?_) (fun hc => ?_)
                    · have hf := (am_if hf).1 hc
                      refine r_iconst (v := 0) dX3_holds_191 rfl ?_
                      refine r_goto (tgt := 230) dX3_holds_192 (by decide) ?_
                      refine r_istore (L' := [some (vR (11, n0, 0)), some (vI c1), some (vR (8, n1, 0)), some (vI x3), some (vI x4), some (vI (x3 &&& (1 : Int32))), some (vI r5), some (vI (0 : Int32))]) dX3_holds_230 (by decide) rfl ?_
                      refine r_iload_n (x := x3) dX3_holds_232 rfl ?_
                      refine r_iconst (v := 1) dX3_holds_233 rfl ?_
                      refine r_ishl dX3_holds_234 ?_
                      refine r_iload (x := (0 : Int32)) dX3_holds_235 rfl ?_
                      refine r_if_eq (tgt := 244) dX3_holds_237 (by decide) (fun hc => ?_) (fun hc => absurd hc (by decide))
                      refine r_iconst (v := 0) dX3_holds_244 rfl ?_
                      refine r_ior dX3_holds_245 ?_
                      refine r_istore_n (L' := [some (vR (11, n0, 0)), some (vI c1), some (vR (8, n1, 0)), some (vI ((x3 <<< ((1 : Int32) &&& 31)) ||| (0 : Int32))), some (vI x4), some (vI (x3 &&& (1 : Int32))), some (vI r5), some (vI (0 : Int32))]) dX3_holds_246 (by decide) rfl ?_
                      refine r_iinc (x := x4) (v := x4 + (1 : Int32)) (L' := [some (vR (11, n0, 0)), some (vI c1), some (vR (8, n1, 0)), some (vI ((x3 <<< ((1 : Int32) &&& 31)) ||| (0 : Int32))), some (vI (x4 + (1 : Int32))), some (vI (x3 &&& (1 : Int32))), some (vI r5), some (vI (0 : Int32))]) dX3_holds_247 rfl rfl (lt_b rfl) rfl ?_
                      refine r_goto (tgt := 26) dX3_holds_250 (by decide) ?_
                      refine r_weak (L' := [some (vR (11, n0, 0)), some (vI c1), some (vR (8, n1, 0)), some (vI ((x3 <<< ((1 : Int32) &&& 31)) ||| (0 : Int32))), some (vI (x4 + (1 : Int32))), none, none, none]) (And.intro rfl (And.intro rfl (And.intro rfl (And.intro rfl (And.intro rfl trivial))))) ?_
                      exact k1 _ (am_inj hf).symm
                    · have hf := (am_if hf).2 hc
                      refine r_iconst (v := 1) dX3_holds_187 rfl ?_
                      refine r_goto (tgt := 230) dX3_holds_188 (by decide) ?_
                      refine r_istore (L' := [some (vR (11, n0, 0)), some (vI c1), some (vR (8, n1, 0)), some (vI x3), some (vI x4), some (vI (x3 &&& (1 : Int32))), some (vI r5), some (vI (1 : Int32))]) dX3_holds_230 (by decide) rfl ?_
                      refine r_iload_n (x := x3) dX3_holds_232 rfl ?_
                      refine r_iconst (v := 1) dX3_holds_233 rfl ?_
                      refine r_ishl dX3_holds_234 ?_
                      refine r_iload (x := (1 : Int32)) dX3_holds_235 rfl ?_
                      refine r_if_eq (tgt := 244) dX3_holds_237 (by decide) (fun hc => absurd hc (by decide)) (fun hc => ?_)
                      refine r_iconst (v := 1) dX3_holds_240 rfl ?_
                      refine r_goto (tgt := 245) dX3_holds_241 (by decide) ?_
                      refine r_ior dX3_holds_245 ?_
                      refine r_istore_n (L' := [some (vR (11, n0, 0)), some (vI c1), some (vR (8, n1, 0)), some (vI ((x3 <<< ((1 : Int32) &&& 31)) ||| (1 : Int32))), some (vI x4), some (vI (x3 &&& (1 : Int32))), some (vI r5), some (vI (1 : Int32))]) dX3_holds_246 (by decide) rfl ?_
                      refine r_iinc (x := x4) (v := x4 + (1 : Int32)) (L' := [some (vR (11, n0, 0)), some (vI c1), some (vR (8, n1, 0)), some (vI ((x3 <<< ((1 : Int32) &&& 31)) ||| (1 : Int32))), some (vI (x4 + (1 : Int32))), some (vI (x3 &&& (1 : Int32))), some (vI r5), some (vI (1 : Int32))]) dX3_holds_247 rfl rfl (lt_b rfl) rfl ?_
                      refine r_goto (tgt := 26) dX3_holds_250 (by decide) ?_
                      refine r_weak (L' := [some (vR (11, n0, 0)), some (vI c1), some (vR (8, n1, 0)), some (vI ((x3 <<< ((1 : Int32) &&& 31)) ||| (1 : Int32))), some (vI (x4 + (1 : Int32))), none, none, none]) (And.intro rfl (And.intro rfl (And.intro rfl (And.intro rfl (And.intro rfl trivial))))) ?_
                      exact k1 _ (am_inj hf).symm
          · have hf := (am_if hf).1 hc
            refine r_iload_n (x := x3) dX3_holds_105 rfl ?_
            refine r_iconst (v := 1) dX3_holds_106 rfl ?_
            refine r_ishr dX3_holds_107 ?_
            refine r_iload (x := x3 &&& (1 : Int32)) dX3_holds_108 rfl ?_
            refine r_ior dX3_holds_110 ?_
            refine r_istore_n (L' := [some (vR (11, n0, 0)), some (vI c1), some (vR (8, n1, 0)), some (vI ((x3 >>> ((1 : Int32) &&& 31)) ||| (x3 &&& (1 : Int32)))), some (vI x4), some (vI (x3 &&& (1 : Int32))), none, none]) dX3_holds_111 (by decide) rfl ?_
            refine r_goto (tgt := 247) dX3_holds_112 (by decide) ?_
            refine r_iinc (x := x4) (v := x4 + (1 : Int32)) (L' := [some (vR (11, n0, 0)), some (vI c1), some (vR (8, n1, 0)), some (vI ((x3 >>> ((1 : Int32) &&& 31)) ||| (x3 &&& (1 : Int32)))), some (vI (x4 + (1 : Int32))), some (vI (x3 &&& (1 : Int32))), none, none]) dX3_holds_247 rfl rfl (lt_b rfl) rfl ?_
            refine r_goto (tgt := 26) dX3_holds_250 (by decide) ?_
            refine r_weak (L' := [some (vR (11, n0, 0)), some (vI c1), some (vR (8, n1, 0)), some (vI ((x3 >>> ((1 : Int32) &&& 31)) ||| (x3 &&& (1 : Int32)))), some (vI (x4 + (1 : Int32))), none, none, none]) (And.intro rfl (And.intro rfl (And.intro rfl (And.intro rfl (And.intro rfl trivial))))) ?_
            exact k1 _ (am_inj hf).symm
        · have hf := (am_if hf).1 hc
          refine r_iload_n (x := x3) dX3_holds_80 rfl ?_
          refine r_iconst (v := 1) dX3_holds_81 rfl ?_
          refine r_ishr dX3_holds_82 ?_
          refine r_iload (x := x3 &&& (1 : Int32)) dX3_holds_83 rfl ?_
          refine r_bipush (v := -2) dX3_holds_85 rfl ?_
          refine r_ior dX3_holds_87 ?_
          refine r_iand dX3_holds_88 ?_
          refine r_istore_n (L' := [some (vR (11, n0, 0)), some (vI c1), some (vR (8, n1, 0)), some (vI ((x3 >>> ((1 : Int32) &&& 31)) &&& ((x3 &&& (1 : Int32)) ||| (-2 : Int32)))), some (vI x4), some (vI (x3 &&& (1 : Int32))), none, none]) dX3_holds_89 (by decide) rfl ?_
          refine r_goto (tgt := 247) dX3_holds_90 (by decide) ?_
          refine r_iinc (x := x4) (v := x4 + (1 : Int32)) (L' := [some (vR (11, n0, 0)), some (vI c1), some (vR (8, n1, 0)), some (vI ((x3 >>> ((1 : Int32) &&& 31)) &&& ((x3 &&& (1 : Int32)) ||| (-2 : Int32)))), some (vI (x4 + (1 : Int32))), some (vI (x3 &&& (1 : Int32))), none, none]) dX3_holds_247 rfl rfl (lt_b rfl) rfl ?_
          refine r_goto (tgt := 26) dX3_holds_250 (by decide) ?_
          refine r_weak (L' := [some (vR (11, n0, 0)), some (vI c1), some (vR (8, n1, 0)), some (vI ((x3 >>> ((1 : Int32) &&& 31)) &&& ((x3 &&& (1 : Int32)) ||| (-2 : Int32)))), some (vI (x4 + (1 : Int32))), none, none, none]) (And.intro rfl (And.intro rfl (And.intro rfl (And.intro rfl (And.intro rfl trivial))))) ?_
          exact k1 _ (am_inj hf).symm
      · have hf := (am_if hf).1 hc
        refine r_iload_n (x := x3) dX3_holds_61 rfl ?_
        refine r_iconst (v := 1) dX3_holds_62 rfl ?_
        refine r_ixor dX3_holds_63 ?_
        refine r_istore_n (L' := [some (vR (11, n0, 0)), some (vI c1), some (vR (8, n1, 0)), some (vI (x3 ^^^ (1 : Int32))), some (vI x4), some (vI (x3 &&& (1 : Int32))), none, none]) dX3_holds_64 (by decide) rfl ?_
        refine r_goto (tgt := 247) dX3_holds_65 (by decide) ?_
        refine r_iinc (x := x4) (v := x4 + (1 : Int32)) (L' := [some (vR (11, n0, 0)), some (vI c1), some (vR (8, n1, 0)), some (vI (x3 ^^^ (1 : Int32))), some (vI (x4 + (1 : Int32))), some (vI (x3 &&& (1 : Int32))), none, none]) dX3_holds_247 rfl rfl (lt_b rfl) rfl ?_
        refine r_goto (tgt := 26) dX3_holds_250 (by decide) ?_
        refine r_weak (L' := [some (vR (11, n0, 0)), some (vI c1), some (vR (8, n1, 0)), some (vI (x3 ^^^ (1 : Int32))), some (vI (x4 + (1 : Int32))), none, none, none]) (And.intro rfl (And.intro rfl (And.intro rfl (And.intro rfl (And.intro rfl trivial))))) ?_
        exact k1 _ (am_inj hf).symm
def f_X3_holds (v : Nat) (w : Nat) (a0 : Int32) (u : PM) : Option (Int32) :=
  if a0 < 0 then
    some (0 : Int32)
  else
  if a0 < (10 : Int32) then
    if a0 < 0 ∨ 10 ≤ a0.toNatClampNeg then none else
    (am_loop (f_X3_holds_L26 v w a0 u) 2000 ((0 : Int32), (if (0 : Int32) < (u.1 (14, v, 0) a0.toNatClampNeg) then (u.1 (14, v, 0) a0.toNatClampNeg) else (0 : Int32)))).bind fun y9 =>
    if (y9 &&& (1 : Int32)) = 0 then
      some (0 : Int32)
    else
    some (1 : Int32)
  else
  some (0 : Int32)
set_option maxHeartbeats 4000000 in
set_option maxRecDepth 20000 in
theorem C_X3_holds {l : Launch} {v : Nat} (hv : v < 5) {w : Nat} (hw : w < 4) {a0 : Int32} {u : PM} {x : Int32} (hf : f_X3_holds v w a0 u = some x) : Ev l mX3_holds 2 0 0 false [vR (11, v, 0), vI a0, vR (8, w, 0)] kC (en u) (some (vI x), kC, en u) := by
  refine Ev_of (by decide +kernel) (le_b rfl) ?_
  unfold f_X3_holds at hf
  show X l mX3_holds 2 0 0 false _ kC 0 0 0 [some (vR (11, v, 0)), some (vI a0), some (vR (8, w, 0)), none, none, none, none, none] [] (en u)
  refine r_iload_n (x := a0) dX3_holds_0 rfl ?_
  refine r_if_lt (tgt := 10) dX3_holds_1 (by decide) (fun hc => ?_) (fun hc => ?_)
  · have hf := (am_if hf).1 hc
    refine r_iconst (v := 0) dX3_holds_10 rfl ?_
    have hx := am_inj hf
    subst hx
    exact r_iret dX3_holds_11 rfl (am_bool (x := 0) (by decide)).1 (le_b rfl) (le_b rfl)
  · have hf := (am_if hf).2 hc
    refine r_iload_n (x := a0) dX3_holds_4 rfl ?_
    refine r_bipush (v := 10) dX3_holds_5 rfl ?_
    refine r_icmp_lt (tgt := 12) dX3_holds_7 (by decide) (fun hc => ?_) (fun hc => ?_)
    · have hf := (am_if hf).1 hc
      refine r_iconst (v := 0) dX3_holds_12 rfl ?_
      refine r_istore_n (L' := [some (vR (11, v, 0)), some (vI a0), some (vR (8, w, 0)), some (vI (0 : Int32)), none, none, none, none]) dX3_holds_13 (by decide) rfl ?_
      refine r_iconst (v := 0) dX3_holds_14 rfl ?_
      refine r_aload_n (x := (11, v, 0)) dX3_holds_15 rfl ?_
      refine e_getr (z := some (14, v, 0)) fw_X3_25 dX3_holds_16 (kC_mem (s := 11) (by decide) hv (by decide)) rfl (lt_b rfl) rfl ?_
      refine r_iload_n (x := a0) dX3_holds_19 rfl ?_
      obtain ⟨h1, hf⟩ := am_nchk hf
      refine e_iald (n := a0.toNatClampNeg) dX3_holds_20 (kC_mem (s := 14) (by decide) hv (by decide)) rfl h1 rfl rfl ?_
      refine r_mmax jm_X3_40 js_max.1 js_max.2.1 js_max.2.2 dX3_holds_21 (le_b rfl) (le_b rfl) (le_b rfl) (le_b rfl) ?_
      refine r_istore (L' := [some (vR (11, v, 0)), some (vI a0), some (vR (8, w, 0)), some (vI (0 : Int32)), some (vI (if (0 : Int32) < (u.1 (14, v, 0) a0.toNatClampNeg) then (u.1 (14, v, 0) a0.toNatClampNeg) else (0 : Int32))), none, none, none]) dX3_holds_24 (by decide) rfl ?_
      refine r_weak (L' := [some (vR (11, v, 0)), some (vI a0), some (vR (8, w, 0)), some (vI (0 : Int32)), some (vI (if (0 : Int32) < (u.1 (14, v, 0) a0.toNatClampNeg) then (u.1 (14, v, 0) a0.toNatClampNeg) else (0 : Int32))), none, none, none]) (And.intro rfl (And.intro rfl (And.intro rfl (And.intro rfl (And.intro rfl trivial))))) ?_
      obtain ⟨e7, he8, hf⟩ := am_bind hf
      refine K_X3_holds_L26 hv hw 2000 ((0 : Int32), (if (0 : Int32) < (u.1 (14, v, 0) a0.toNatClampNeg) then (u.1 (14, v, 0) a0.toNatClampNeg) else (0 : Int32))) _ he8 ?_
      obtain ⟨y9, rfl⟩ : ∃ z, z = e7 := ⟨_, rfl⟩
      show X l _ _ 0 0 false _ kC 0 0 253 [none, none, none, some (vI y9), none, none, none, none] [] (en u)
      refine r_iload_n (x := y9) dX3_holds_253 rfl ?_
      refine r_iconst (v := 1) dX3_holds_254 rfl ?_
      refine r_iand dX3_holds_255 ?_
      refine r_if_eq (tgt := 263) dX3_holds_256 (by decide) (fun hc => ?_) (fun hc => ?_)
      · have hf := (am_if hf).1 hc
        refine r_iconst (v := 0) dX3_holds_263 rfl ?_
        have hx := am_inj hf
        subst hx
        exact r_iret dX3_holds_264 rfl (am_bool (x := 0) (by decide)).1 (le_b rfl) (le_b rfl)
      · have hf := (am_if hf).2 hc
        refine r_iconst (v := 1) dX3_holds_259 rfl ?_
        refine r_goto (tgt := 264) dX3_holds_260 (by decide) ?_
        have hx := am_inj hf
        subst hx
        exact r_iret dX3_holds_264 rfl (am_bool (x := 1) (by decide)).1 (le_b rfl) (le_b rfl)
    · have hf := (am_if hf).2 hc
      refine r_iconst (v := 0) dX3_holds_10 rfl ?_
      have hx := am_inj hf
      subst hx
      exact r_iret dX3_holds_11 rfl (am_bool (x := 0) (by decide)).1 (le_b rfl) (le_b rfl)
/-! FireFromFire$Tape.start -/
theorem dX7_start_0 : decode cX7_start 0 = .ok (.aload_n 0, 1) := by decide +kernel
theorem dX7_start_1 : decode cX7_start 1 = .ok (.iload_n 1, 1) := by decide +kernel
theorem dX7_start_2 : decode cX7_start 2 = .ok (.putfield 9, 3) := by decide +kernel
theorem dX7_start_5 : decode cX7_start 5 = .ok (.aload_n 0, 1) := by decide +kernel
theorem dX7_start_6 : decode cX7_start 6 = .ok (.iload_n 2, 1) := by decide +kernel
theorem dX7_start_7 : decode cX7_start 7 = .ok (.putfield 15, 3) := by decide +kernel
theorem dX7_start_10 : decode cX7_start 10 = .ok (.iconst 0, 1) := by decide +kernel
theorem dX7_start_11 : decode cX7_start 11 = .ok (.istore_n 3, 1) := by decide +kernel
theorem dX7_start_12 : decode cX7_start 12 = .ok (.iload_n 3, 1) := by decide +kernel
theorem dX7_start_13 : decode cX7_start 13 = .ok (.bipush 60, 2) := by decide +kernel
theorem dX7_start_15 : decode cX7_start 15 = .ok (.if_icmp .ge 16, 3) := by decide +kernel
theorem dX7_start_18 : decode cX7_start 18 = .ok (.aload_n 0, 1) := by decide +kernel
theorem dX7_start_19 : decode cX7_start 19 = .ok (.getfield 18, 3) := by decide +kernel
theorem dX7_start_22 : decode cX7_start 22 = .ok (.iload_n 3, 1) := by decide +kernel
theorem dX7_start_23 : decode cX7_start 23 = .ok (.lconst 0, 1) := by decide +kernel
theorem dX7_start_24 : decode cX7_start 24 = .ok (.lastore, 1) := by decide +kernel
theorem dX7_start_25 : decode cX7_start 25 = .ok (.iinc 3 1, 3) := by decide +kernel
theorem dX7_start_28 : decode cX7_start 28 = .ok (.goto (-16), 3) := by decide +kernel
theorem dX7_start_31 : decode cX7_start 31 = .ok (.return_, 1) := by decide +kernel
def f_X7_start_L12 (n0 : Nat)  : Int32 × PM → Option ((Int32 × PM) ⊕ (PM)) := fun (x3 , u) =>
  if (60 : Int32) ≤ x3 then
    some (.inr (u))
  else
  if x3 < 0 ∨ 60 ≤ x3.toNatClampNeg then none else
  some (.inl (x3 + (1 : Int32), (pl u (33, n0, 0) x3.toNatClampNeg (0 : Int64))))
set_option maxHeartbeats 4000000 in
set_option maxRecDepth 20000 in
theorem K_X7_start_L12 {l : Launch} {T : Option AV × List Key × AM} {n0 : Nat} (hn0 : n0 < 6)  : ∀ (n : Nat) (s : Int32 × PM) (e0 : PM), am_loop (f_X7_start_L12 n0) n s = some e0 → (fun e : PM => X l mX7_start 1 0 0 false T kC 0 0 31 [none, none, none, none] [] (en e)) e0 → X l mX7_start 1 0 0 false T kC 0 0 12 [some (vR (32, n0, 0)), none, none, some (vI s.1)] [] (en s.2) := by
  refine am_loop_of ?_
  intro s x hf k1 k2
  obtain ⟨x3 , u⟩ := s
  unfold f_X7_start_L12 at hf
  show X l mX7_start 1 0 0 false T kC 0 0 12 [some (vR (32, n0, 0)), none, none, some (vI x3)] [] (en u)
  refine r_iload_n (x := x3) dX7_start_12 rfl ?_
  refine r_bipush (v := 60) dX7_start_13 rfl ?_
  refine r_icmp_ge (tgt := 31) dX7_start_15 (by decide) (fun hc => ?_) (fun hc => ?_)
  · have hf := (am_if hf).1 hc
    refine r_weak (L' := [none, none, none, none]) trivial ?_
    exact k2 _ (am_inj hf).symm
  · have hf := (am_if hf).2 hc
    refine r_aload_n (x := (32, n0, 0)) dX7_start_18 rfl ?_
    refine e_getr (z := some (33, n0, 0)) fw_X7_18 dX7_start_19 (kC_mem (s := 32) (by decide) hn0 (by decide)) rfl (lt_b rfl) rfl ?_
    refine r_iload_n (x := x3) dX7_start_22 rfl ?_
    refine r_lconst (v := 0) dX7_start_23 rfl ?_
    obtain ⟨h1, hf⟩ := am_nchk hf
    refine e_last (n := x3.toNatClampNeg) dX7_start_24 (kC_mem (s := 33) (by decide) hn0 (by decide)) rfl h1 rfl ?_
    refine r_iinc (x := x3) (v := x3 + (1 : Int32)) (L' := [some (vR (32, n0, 0)), none, none, some (vI (x3 + (1 : Int32)))]) dX7_start_25 rfl rfl (lt_b rfl) rfl ?_
    refine r_goto (tgt := 12) dX7_start_28 (by decide) ?_
    refine r_weak (L' := [some (vR (32, n0, 0)), none, none, some (vI (x3 + (1 : Int32)))]) (And.intro rfl (And.intro rfl trivial)) ?_
    exact k1 _ (am_inj hf).symm
def f_X7_start (v : Nat) (a0 : Int32) (a1 : Int32) (u : PM) : Option (PM) :=
  (am_loop (f_X7_start_L12 v) 2000 ((0 : Int32), (pi (pi u (32, v, 0) 0 a0) (32, v, 0) 1 a1))).bind fun u4 =>
  some u4
set_option maxHeartbeats 4000000 in
set_option maxRecDepth 20000 in
theorem C_X7_start {l : Launch} {v : Nat} (hv : v < 6) {a0 : Int32} {a1 : Int32} {u : PM} {x : PM} (hf : f_X7_start v a0 a1 u = some x) : Ev l mX7_start 1 0 0 false [vR (32, v, 0), vI a0, vI a1] kC (en u) (none, kC, en x) := by
  refine Ev_of (by decide +kernel) (le_b rfl) ?_
  unfold f_X7_start at hf
  show X l mX7_start 1 0 0 false _ kC 0 0 0 [some (vR (32, v, 0)), some (vI a0), some (vI a1), none] [] (en u)
  refine r_aload_n (x := (32, v, 0)) dX7_start_0 rfl ?_
  refine r_iload_n (x := a0) dX7_start_1 rfl ?_
  refine e_puti fp_X7_9 dX7_start_2 (kC_mem (s := 32) (by decide) hv (by decide)) rfl (lt_b rfl) rfl rfl rfl ?_
  refine r_aload_n (x := (32, v, 0)) dX7_start_5 rfl ?_
  refine r_iload_n (x := a1) dX7_start_6 rfl ?_
  refine e_puti fp_X7_15 dX7_start_7 (kC_mem (s := 32) (by decide) hv (by decide)) rfl (lt_b rfl) rfl rfl rfl ?_
  refine r_iconst (v := 0) dX7_start_10 rfl ?_
  refine r_istore_n (L' := [some (vR (32, v, 0)), some (vI a0), some (vI a1), some (vI (0 : Int32))]) dX7_start_11 (by decide) rfl ?_
  refine r_weak (L' := [some (vR (32, v, 0)), none, none, some (vI (0 : Int32))]) (And.intro rfl (And.intro rfl trivial)) ?_
  obtain ⟨e2, he3, hf⟩ := am_bind hf
  refine K_X7_start_L12 hv 2000 ((0 : Int32), (pi (pi u (32, v, 0) 0 a0) (32, v, 0) 1 a1)) _ he3 ?_
  obtain ⟨u4, rfl⟩ : ∃ z, z = e2 := ⟨_, rfl⟩
  show X l _ _ 0 0 false _ kC 0 0 31 [none, none, none, none] [] (en u4)
  have hx := am_inj hf
  subst hx
  exact r_vret dX7_start_31 rfl (le_b rfl) (le_b rfl)
/-! FireFromFire$Tape.isRow -/
theorem dX7_isRow_0 : decode cX7_isRow 0 = .ok (.aload_n 0, 1) := by decide +kernel
theorem dX7_isRow_1 : decode cX7_isRow 1 = .ok (.getfield 9, 3) := by decide +kernel
theorem dX7_isRow_4 : decode cX7_isRow 4 = .ok (.ifCond .lt 7, 3) := by decide +kernel
theorem dX7_isRow_7 : decode cX7_isRow 7 = .ok (.iconst 1, 1) := by decide +kernel
theorem dX7_isRow_8 : decode cX7_isRow 8 = .ok (.goto 4, 3) := by decide +kernel
theorem dX7_isRow_11 : decode cX7_isRow 11 = .ok (.iconst 0, 1) := by decide +kernel
theorem dX7_isRow_12 : decode cX7_isRow 12 = .ok (.ireturn, 1) := by decide +kernel
def f_X7_isRow (v : Nat)  (u : PM) : Option (Int32) :=
  if (u.1 (32, v, 0) 0) < 0 then
    some (0 : Int32)
  else
  some (1 : Int32)
set_option maxHeartbeats 4000000 in
set_option maxRecDepth 20000 in
theorem C_X7_isRow {l : Launch} {v : Nat} (hv : v < 6)  {u : PM} {x : Int32} (hf : f_X7_isRow v u = some x) : Ev l mX7_isRow 1 0 0 false [vR (32, v, 0)] kC (en u) (some (vI x), kC, en u) := by
  refine Ev_of (by decide +kernel) (le_b rfl) ?_
  unfold f_X7_isRow at hf
  show X l mX7_isRow 1 0 0 false _ kC 0 0 0 [some (vR (32, v, 0))] [] (en u)
  refine r_aload_n (x := (32, v, 0)) dX7_isRow_0 rfl ?_
  refine e_geti fw_X7_9 dX7_isRow_1 (kC_mem (s := 32) (by decide) hv (by decide)) rfl (lt_b rfl) ?_
  refine r_if_lt (tgt := 11) dX7_isRow_4 (by decide) (fun hc => ?_) (fun hc => ?_)
  · have hf := (am_if hf).1 hc
    refine r_iconst (v := 0) dX7_isRow_11 rfl ?_
    have hx := am_inj hf
    subst hx
    exact r_iret dX7_isRow_12 rfl (am_bool (x := 0) (by decide)).1 (le_b rfl) (le_b rfl)
  · have hf := (am_if hf).2 hc
    refine r_iconst (v := 1) dX7_isRow_7 rfl ?_
    refine r_goto (tgt := 12) dX7_isRow_8 (by decide) ?_
    have hx := am_inj hf
    subst hx
    exact r_iret dX7_isRow_12 rfl (am_bool (x := 1) (by decide)).1 (le_b rfl) (le_b rfl)
/-! FireFromFire$Tape.has -/
theorem dX7_has_0 : decode cX7_has 0 = .ok (.iload_n 2, 1) := by decide +kernel
theorem dX7_has_1 : decode cX7_has 1 = .ok (.ifCond .lt 29, 3) := by decide +kernel
theorem dX7_has_4 : decode cX7_has 4 = .ok (.iload_n 1, 1) := by decide +kernel
theorem dX7_has_5 : decode cX7_has 5 = .ok (.ifCond .lt 25, 3) := by decide +kernel
theorem dX7_has_8 : decode cX7_has 8 = .ok (.iload_n 2, 1) := by decide +kernel
theorem dX7_has_9 : decode cX7_has 9 = .ok (.aload_n 0, 1) := by decide +kernel
theorem dX7_has_10 : decode cX7_has 10 = .ok (.getfield 15, 3) := by decide +kernel
theorem dX7_has_13 : decode cX7_has 13 = .ok (.if_icmp .gt 17, 3) := by decide +kernel
theorem dX7_has_16 : decode cX7_has 16 = .ok (.iload_n 1, 1) := by decide +kernel
theorem dX7_has_17 : decode cX7_has 17 = .ok (.aload_n 0, 1) := by decide +kernel
theorem dX7_has_18 : decode cX7_has 18 = .ok (.getfield 15, 3) := by decide +kernel
theorem dX7_has_21 : decode cX7_has 21 = .ok (.iload_n 2, 1) := by decide +kernel
theorem dX7_has_22 : decode cX7_has 22 = .ok (.isub, 1) := by decide +kernel
theorem dX7_has_23 : decode cX7_has 23 = .ok (.if_icmp .gt 7, 3) := by decide +kernel
theorem dX7_has_26 : decode cX7_has 26 = .ok (.iconst 1, 1) := by decide +kernel
theorem dX7_has_27 : decode cX7_has 27 = .ok (.goto 4, 3) := by decide +kernel
theorem dX7_has_30 : decode cX7_has 30 = .ok (.iconst 0, 1) := by decide +kernel
theorem dX7_has_31 : decode cX7_has 31 = .ok (.ireturn, 1) := by decide +kernel
def f_X7_has (v : Nat) (a0 : Int32) (a1 : Int32) (u : PM) : Option (Int32) :=
  if a1 < 0 then
    some (0 : Int32)
  else
  if a0 < 0 then
    some (0 : Int32)
  else
  if (u.1 (32, v, 0) 1) < a1 then
    some (0 : Int32)
  else
  if ((u.1 (32, v, 0) 1) - a1) < a0 then
    some (0 : Int32)
  else
  some (1 : Int32)
set_option maxHeartbeats 4000000 in
set_option maxRecDepth 20000 in
theorem C_X7_has {l : Launch} {v : Nat} (hv : v < 6) {a0 : Int32} {a1 : Int32} {u : PM} {x : Int32} (hf : f_X7_has v a0 a1 u = some x) : Ev l mX7_has 1 0 0 false [vR (32, v, 0), vI a0, vI a1] kC (en u) (some (vI x), kC, en u) := by
  refine Ev_of (by decide +kernel) (le_b rfl) ?_
  unfold f_X7_has at hf
  show X l mX7_has 1 0 0 false _ kC 0 0 0 [some (vR (32, v, 0)), some (vI a0), some (vI a1)] [] (en u)
  refine r_iload_n (x := a1) dX7_has_0 rfl ?_
  refine r_if_lt (tgt := 30) dX7_has_1 (by decide) (fun hc => ?_) (fun hc => ?_)
  · have hf := (am_if hf).1 hc
    refine r_iconst (v := 0) dX7_has_30 rfl ?_
    have hx := am_inj hf
    subst hx
    exact r_iret dX7_has_31 rfl (am_bool (x := 0) (by decide)).1 (le_b rfl) (le_b rfl)
  · have hf := (am_if hf).2 hc
    refine r_iload_n (x := a0) dX7_has_4 rfl ?_
    refine r_if_lt (tgt := 30) dX7_has_5 (by decide) (fun hc => ?_) (fun hc => ?_)
    · have hf := (am_if hf).1 hc
      refine r_iconst (v := 0) dX7_has_30 rfl ?_
      have hx := am_inj hf
      subst hx
      exact r_iret dX7_has_31 rfl (am_bool (x := 0) (by decide)).1 (le_b rfl) (le_b rfl)
    · have hf := (am_if hf).2 hc
      refine r_iload_n (x := a1) dX7_has_8 rfl ?_
      refine r_aload_n (x := (32, v, 0)) dX7_has_9 rfl ?_
      refine e_geti fw_X7_15 dX7_has_10 (kC_mem (s := 32) (by decide) hv (by decide)) rfl (lt_b rfl) ?_
      refine r_icmp_gt (tgt := 30) dX7_has_13 (by decide) (fun hc => ?_) (fun hc => ?_)
      · have hf := (am_if hf).1 hc
        refine r_iconst (v := 0) dX7_has_30 rfl ?_
        have hx := am_inj hf
        subst hx
        exact r_iret dX7_has_31 rfl (am_bool (x := 0) (by decide)).1 (le_b rfl) (le_b rfl)
      · have hf := (am_if hf).2 hc
        refine r_iload_n (x := a0) dX7_has_16 rfl ?_
        refine r_aload_n (x := (32, v, 0)) dX7_has_17 rfl ?_
        refine e_geti fw_X7_15 dX7_has_18 (kC_mem (s := 32) (by decide) hv (by decide)) rfl (lt_b rfl) ?_
        refine r_iload_n (x := a1) dX7_has_21 rfl ?_
        refine r_isub dX7_has_22 ?_
        refine r_icmp_gt (tgt := 30) dX7_has_23 (by decide) (fun hc => ?_) (fun hc => ?_)
        · have hf := (am_if hf).1 hc
          refine r_iconst (v := 0) dX7_has_30 rfl ?_
          have hx := am_inj hf
          subst hx
          exact r_iret dX7_has_31 rfl (am_bool (x := 0) (by decide)).1 (le_b rfl) (le_b rfl)
        · have hf := (am_if hf).2 hc
          refine r_iconst (v := 1) dX7_has_26 rfl ?_
          refine r_goto (tgt := 31) dX7_has_27 (by decide) ?_
          have hx := am_inj hf
          subst hx
          exact r_iret dX7_has_31 rfl (am_bool (x := 1) (by decide)).1 (le_b rfl) (le_b rfl)
/-! FireFromFire$Tape.get -/
theorem dX7_get_0 : decode cX7_get 0 = .ok (.iload_n 1, 1) := by decide +kernel
theorem dX7_get_1 : decode cX7_get 1 = .ok (.ifCond .lt 26, 3) := by decide +kernel
theorem dX7_get_4 : decode cX7_get 4 = .ok (.iload_n 1, 1) := by decide +kernel
theorem dX7_get_5 : decode cX7_get 5 = .ok (.aload_n 0, 1) := by decide +kernel
theorem dX7_get_6 : decode cX7_get 6 = .ok (.getfield 15, 3) := by decide +kernel
theorem dX7_get_9 : decode cX7_get 9 = .ok (.if_icmp .ge 18, 3) := by decide +kernel
theorem dX7_get_12 : decode cX7_get 12 = .ok (.iload_n 1, 1) := by decide +kernel
theorem dX7_get_13 : decode cX7_get 13 = .ok (.bipush 60, 2) := by decide +kernel
theorem dX7_get_15 : decode cX7_get 15 = .ok (.if_icmp .ge 12, 3) := by decide +kernel
theorem dX7_get_18 : decode cX7_get 18 = .ok (.aload_n 0, 1) := by decide +kernel
theorem dX7_get_19 : decode cX7_get 19 = .ok (.getfield 18, 3) := by decide +kernel
theorem dX7_get_22 : decode cX7_get 22 = .ok (.iload_n 1, 1) := by decide +kernel
theorem dX7_get_23 : decode cX7_get 23 = .ok (.laload, 1) := by decide +kernel
theorem dX7_get_24 : decode cX7_get 24 = .ok (.goto 4, 3) := by decide +kernel
theorem dX7_get_27 : decode cX7_get 27 = .ok (.lconst 0, 1) := by decide +kernel
theorem dX7_get_28 : decode cX7_get 28 = .ok (.lreturn, 1) := by decide +kernel
def f_X7_get (v : Nat) (a0 : Int32) (u : PM) : Option (Int64) :=
  if a0 < 0 then
    some (0 : Int64)
  else
  if (u.1 (32, v, 0) 1) ≤ a0 then
    some (0 : Int64)
  else
  if (60 : Int32) ≤ a0 then
    some (0 : Int64)
  else
  if a0 < 0 ∨ 60 ≤ a0.toNatClampNeg then none else
  some (u.2.1 (33, v, 0) a0.toNatClampNeg)
set_option maxHeartbeats 4000000 in
set_option maxRecDepth 20000 in
theorem C_X7_get {l : Launch} {v : Nat} (hv : v < 6) {a0 : Int32} {u : PM} {x : Int64} (hf : f_X7_get v a0 u = some x) : Ev l mX7_get 1 0 0 false [vR (32, v, 0), vI a0] kC (en u) (some (vJ x), kC, en u) := by
  refine Ev_of (by decide +kernel) (le_b rfl) ?_
  unfold f_X7_get at hf
  show X l mX7_get 1 0 0 false _ kC 0 0 0 [some (vR (32, v, 0)), some (vI a0)] [] (en u)
  refine r_iload_n (x := a0) dX7_get_0 rfl ?_
  refine r_if_lt (tgt := 27) dX7_get_1 (by decide) (fun hc => ?_) (fun hc => ?_)
  · have hf := (am_if hf).1 hc
    refine r_lconst (v := 0) dX7_get_27 rfl ?_
    have hx := am_inj hf
    subst hx
    exact r_lret dX7_get_28 rfl (le_b rfl) (le_b rfl)
  · have hf := (am_if hf).2 hc
    refine r_iload_n (x := a0) dX7_get_4 rfl ?_
    refine r_aload_n (x := (32, v, 0)) dX7_get_5 rfl ?_
    refine e_geti fw_X7_15 dX7_get_6 (kC_mem (s := 32) (by decide) hv (by decide)) rfl (lt_b rfl) ?_
    refine r_icmp_ge (tgt := 27) dX7_get_9 (by decide) (fun hc => ?_) (fun hc => ?_)
    · have hf := (am_if hf).1 hc
      refine r_lconst (v := 0) dX7_get_27 rfl ?_
      have hx := am_inj hf
      subst hx
      exact r_lret dX7_get_28 rfl (le_b rfl) (le_b rfl)
    · have hf := (am_if hf).2 hc
      refine r_iload_n (x := a0) dX7_get_12 rfl ?_
      refine r_bipush (v := 60) dX7_get_13 rfl ?_
      refine r_icmp_ge (tgt := 27) dX7_get_15 (by decide) (fun hc => ?_) (fun hc => ?_)
      · have hf := (am_if hf).1 hc
        refine r_lconst (v := 0) dX7_get_27 rfl ?_
        have hx := am_inj hf
        subst hx
        exact r_lret dX7_get_28 rfl (le_b rfl) (le_b rfl)
      · have hf := (am_if hf).2 hc
        refine r_aload_n (x := (32, v, 0)) dX7_get_18 rfl ?_
        refine e_getr (z := some (33, v, 0)) fw_X7_18 dX7_get_19 (kC_mem (s := 32) (by decide) hv (by decide)) rfl (lt_b rfl) rfl ?_
        refine r_iload_n (x := a0) dX7_get_22 rfl ?_
        obtain ⟨h1, hf⟩ := am_nchk hf
        refine e_lald (n := a0.toNatClampNeg) dX7_get_23 (kC_mem (s := 33) (by decide) hv (by decide)) rfl h1 rfl rfl ?_
        refine r_goto (tgt := 28) dX7_get_24 (by decide) ?_
        have hx := am_inj hf
        subst hx
        exact r_lret dX7_get_28 rfl (le_b rfl) (le_b rfl)
/-! FireFromFire$Tape.cut -/
theorem dX7_cut_0 : decode cX7_cut 0 = .ok (.aload_n 0, 1) := by decide +kernel
theorem dX7_cut_1 : decode cX7_cut 1 = .ok (.getfield 9, 3) := by decide +kernel
theorem dX7_cut_4 : decode cX7_cut 4 = .ok (.tableswitch 62 0 4 #[36, 41, 46, 62, 50], 36) := by decide +kernel
theorem dX7_cut_40 : decode cX7_cut 40 = .ok (.lload_n 1, 1) := by decide +kernel
theorem dX7_cut_41 : decode cX7_cut 41 = .ok (.l2i, 1) := by decide +kernel
theorem dX7_cut_42 : decode cX7_cut 42 = .ok (.i2b, 1) := by decide +kernel
theorem dX7_cut_43 : decode cX7_cut 43 = .ok (.i2l, 1) := by decide +kernel
theorem dX7_cut_44 : decode cX7_cut 44 = .ok (.lreturn, 1) := by decide +kernel
theorem dX7_cut_45 : decode cX7_cut 45 = .ok (.lload_n 1, 1) := by decide +kernel
theorem dX7_cut_46 : decode cX7_cut 46 = .ok (.l2i, 1) := by decide +kernel
theorem dX7_cut_47 : decode cX7_cut 47 = .ok (.i2s, 1) := by decide +kernel
theorem dX7_cut_48 : decode cX7_cut 48 = .ok (.i2l, 1) := by decide +kernel
theorem dX7_cut_49 : decode cX7_cut 49 = .ok (.lreturn, 1) := by decide +kernel
theorem dX7_cut_50 : decode cX7_cut 50 = .ok (.lload_n 1, 1) := by decide +kernel
theorem dX7_cut_51 : decode cX7_cut 51 = .ok (.l2i, 1) := by decide +kernel
theorem dX7_cut_52 : decode cX7_cut 52 = .ok (.i2l, 1) := by decide +kernel
theorem dX7_cut_53 : decode cX7_cut 53 = .ok (.lreturn, 1) := by decide +kernel
theorem dX7_cut_54 : decode cX7_cut 54 = .ok (.lload_n 1, 1) := by decide +kernel
theorem dX7_cut_55 : decode cX7_cut 55 = .ok (.lconst 0, 1) := by decide +kernel
theorem dX7_cut_56 : decode cX7_cut 56 = .ok (.lcmp, 1) := by decide +kernel
theorem dX7_cut_57 : decode cX7_cut 57 = .ok (.ifCond .eq 7, 3) := by decide +kernel
theorem dX7_cut_60 : decode cX7_cut 60 = .ok (.lconst 1, 1) := by decide +kernel
theorem dX7_cut_61 : decode cX7_cut 61 = .ok (.goto 4, 3) := by decide +kernel
theorem dX7_cut_64 : decode cX7_cut 64 = .ok (.lconst 0, 1) := by decide +kernel
theorem dX7_cut_65 : decode cX7_cut 65 = .ok (.lreturn, 1) := by decide +kernel
theorem dX7_cut_66 : decode cX7_cut 66 = .ok (.lload_n 1, 1) := by decide +kernel
theorem dX7_cut_67 : decode cX7_cut 67 = .ok (.lreturn, 1) := by decide +kernel
def f_X7_cut (v : Nat) (a0 : Int64) (u : PM) : Option (Int64) :=
  if (u.1 (32, v, 0) 0) = (0 : Int32) then
    some a0.toInt32.toInt8.toInt32.toInt64
  else if (u.1 (32, v, 0) 0) = (1 : Int32) then
    some a0.toInt32.toInt16.toInt32.toInt64
  else if (u.1 (32, v, 0) 0) = (2 : Int32) then
    some a0.toInt32.toInt64
  else if (u.1 (32, v, 0) 0) = (3 : Int32) then
    some a0
  else if (u.1 (32, v, 0) 0) = (4 : Int32) then
    if (lg_cmp a0 (0 : Int64)) = 0 then
      some (0 : Int64)
    else
    some (1 : Int64)
  else 
  some a0
set_option maxHeartbeats 4000000 in
set_option maxRecDepth 20000 in
theorem C_X7_cut {l : Launch} {v : Nat} (hv : v < 6) {a0 : Int64} {u : PM} {x : Int64} (hf : f_X7_cut v a0 u = some x) : Ev l mX7_cut 1 0 0 false [vR (32, v, 0), vJ a0] kC (en u) (some (vJ x), kC, en u) := by
  refine Ev_of (by decide +kernel) (le_b rfl) ?_
  unfold f_X7_cut at hf
  show X l mX7_cut 1 0 0 false _ kC 0 0 0 [some (vR (32, v, 0)), some (vJ a0), none] [] (en u)
  refine r_aload_n (x := (32, v, 0)) dX7_cut_0 rfl ?_
  refine e_geti fw_X7_9 dX7_cut_1 (kC_mem (s := 32) (by decide) hv (by decide)) rfl (lt_b rfl) ?_
  by_cases hs0 : (u.1 (32, v, 0) 0) = (0 : Int32)
  · have hf := (am_if hf).1 hs0
    refine r_tswIn (x := u.1 (32, v, 0) 0) (kx := 0) (tgt := 40) dX7_cut_4 hs0 (by decide) (by decide) rfl (by decide) ?_
    refine r_lload_n (x := a0) dX7_cut_40 rfl ?_
    refine r_l2i dX7_cut_41 ?_
    refine r_i2b dX7_cut_42 ?_
    refine r_i2l dX7_cut_43 ?_
    have hx := am_inj hf
    subst hx
    exact r_lret dX7_cut_44 rfl (le_b rfl) (le_b rfl)
  have hf := (am_if hf).2 hs0
  by_cases hs1 : (u.1 (32, v, 0) 0) = (1 : Int32)
  · have hf := (am_if hf).1 hs1
    refine r_tswIn (x := u.1 (32, v, 0) 0) (kx := 1) (tgt := 45) dX7_cut_4 hs1 (by decide) (by decide) rfl (by decide) ?_
    refine r_lload_n (x := a0) dX7_cut_45 rfl ?_
    refine r_l2i dX7_cut_46 ?_
    refine r_i2s dX7_cut_47 ?_
    refine r_i2l dX7_cut_48 ?_
    have hx := am_inj hf
    subst hx
    exact r_lret dX7_cut_49 rfl (le_b rfl) (le_b rfl)
  have hf := (am_if hf).2 hs1
  by_cases hs2 : (u.1 (32, v, 0) 0) = (2 : Int32)
  · have hf := (am_if hf).1 hs2
    refine r_tswIn (x := u.1 (32, v, 0) 0) (kx := 2) (tgt := 50) dX7_cut_4 hs2 (by decide) (by decide) rfl (by decide) ?_
    refine r_lload_n (x := a0) dX7_cut_50 rfl ?_
    refine r_l2i dX7_cut_51 ?_
    refine r_i2l dX7_cut_52 ?_
    have hx := am_inj hf
    subst hx
    exact r_lret dX7_cut_53 rfl (le_b rfl) (le_b rfl)
  have hf := (am_if hf).2 hs2
  by_cases hs3 : (u.1 (32, v, 0) 0) = (3 : Int32)
  · have hf := (am_if hf).1 hs3
    refine r_tswIn (x := u.1 (32, v, 0) 0) (kx := 3) (tgt := 66) dX7_cut_4 hs3 (by decide) (by decide) rfl (by decide) ?_
    refine r_lload_n (x := a0) dX7_cut_66 rfl ?_
    have hx := am_inj hf
    subst hx
    exact r_lret dX7_cut_67 rfl (le_b rfl) (le_b rfl)
  have hf := (am_if hf).2 hs3
  by_cases hs4 : (u.1 (32, v, 0) 0) = (4 : Int32)
  · have hf := (am_if hf).1 hs4
    refine r_tswIn (x := u.1 (32, v, 0) 0) (kx := 4) (tgt := 54) dX7_cut_4 hs4 (by decide) (by decide) rfl (by decide) ?_
    refine r_lload_n (x := a0) dX7_cut_54 rfl ?_
    refine r_lconst (v := 0) dX7_cut_55 rfl ?_
    refine r_lcmp dX7_cut_56 ?_
    refine r_if_eq (tgt := 64) dX7_cut_57 (by decide) (fun hc => ?_) (fun hc => ?_)
    · have hf := (am_if hf).1 hc
      refine r_lconst (v := 0) dX7_cut_64 rfl ?_
      have hx := am_inj hf
      subst hx
      exact r_lret dX7_cut_65 rfl (le_b rfl) (le_b rfl)
    · have hf := (am_if hf).2 hc
      refine r_lconst (v := 1) dX7_cut_60 rfl ?_
      refine r_goto (tgt := 65) dX7_cut_61 (by decide) ?_
      have hx := am_inj hf
      subst hx
      exact r_lret dX7_cut_65 rfl (le_b rfl) (le_b rfl)
  have hf := (am_if hf).2 hs4
  refine r_tswOut (x := u.1 (32, v, 0) 0) (tgt := 66) dX7_cut_4 (by have ehs0 := am_neI hs0 (z := 0) rfl; have ehs1 := am_neI hs1 (z := 1) rfl; have ehs2 := am_neI hs2 (z := 2) rfl; have ehs3 := am_neI hs3 (z := 3) rfl; have ehs4 := am_neI hs4 (z := 4) rfl; omega) (by decide) ?_
  refine r_lload_n (x := a0) dX7_cut_66 rfl ?_
  have hx := am_inj hf
  subst hx
  exact r_lret dX7_cut_67 rfl (le_b rfl) (le_b rfl)
/-! FireFromFire$Tape.put -/
theorem dX7_put_0 : decode cX7_put 0 = .ok (.iload_n 1, 1) := by decide +kernel
theorem dX7_put_1 : decode cX7_put 1 = .ok (.ifCond .lt 28, 3) := by decide +kernel
theorem dX7_put_4 : decode cX7_put 4 = .ok (.iload_n 1, 1) := by decide +kernel
theorem dX7_put_5 : decode cX7_put 5 = .ok (.aload_n 0, 1) := by decide +kernel
theorem dX7_put_6 : decode cX7_put 6 = .ok (.getfield 15, 3) := by decide +kernel
theorem dX7_put_9 : decode cX7_put 9 = .ok (.if_icmp .ge 20, 3) := by decide +kernel
theorem dX7_put_12 : decode cX7_put 12 = .ok (.iload_n 1, 1) := by decide +kernel
theorem dX7_put_13 : decode cX7_put 13 = .ok (.bipush 60, 2) := by decide +kernel
theorem dX7_put_15 : decode cX7_put 15 = .ok (.if_icmp .ge 14, 3) := by decide +kernel
theorem dX7_put_18 : decode cX7_put 18 = .ok (.aload_n 0, 1) := by decide +kernel
theorem dX7_put_19 : decode cX7_put 19 = .ok (.getfield 18, 3) := by decide +kernel
theorem dX7_put_22 : decode cX7_put 22 = .ok (.iload_n 1, 1) := by decide +kernel
theorem dX7_put_23 : decode cX7_put 23 = .ok (.aload_n 0, 1) := by decide +kernel
theorem dX7_put_24 : decode cX7_put 24 = .ok (.lload_n 2, 1) := by decide +kernel
theorem dX7_put_25 : decode cX7_put 25 = .ok (.invokevirtual 22, 3) := by decide +kernel
theorem dX7_put_28 : decode cX7_put 28 = .ok (.lastore, 1) := by decide +kernel
theorem dX7_put_29 : decode cX7_put 29 = .ok (.return_, 1) := by decide +kernel
def f_X7_put (v : Nat) (a0 : Int32) (a1 : Int64) (u : PM) : Option (PM) :=
  if a0 < 0 then
    some u
  else
  if (u.1 (32, v, 0) 1) ≤ a0 then
    some u
  else
  if (60 : Int32) ≤ a0 then
    some u
  else
  (f_X7_cut v a1 u).bind fun r1 =>
  if a0 < 0 ∨ 60 ≤ a0.toNatClampNeg then none else
  some (pl u (33, v, 0) a0.toNatClampNeg r1)
set_option maxHeartbeats 4000000 in
set_option maxRecDepth 20000 in
theorem C_X7_put {l : Launch} {v : Nat} (hv : v < 6) {a0 : Int32} {a1 : Int64} {u : PM} {x : PM} (hf : f_X7_put v a0 a1 u = some x) : Ev l mX7_put 2 0 0 false [vR (32, v, 0), vI a0, vJ a1] kC (en u) (none, kC, en x) := by
  refine Ev_of (by decide +kernel) (le_b rfl) ?_
  unfold f_X7_put at hf
  show X l mX7_put 2 0 0 false _ kC 0 0 0 [some (vR (32, v, 0)), some (vI a0), some (vJ a1), none] [] (en u)
  refine r_iload_n (x := a0) dX7_put_0 rfl ?_
  refine r_if_lt (tgt := 29) dX7_put_1 (by decide) (fun hc => ?_) (fun hc => ?_)
  · have hf := (am_if hf).1 hc
    have hx := am_inj hf
    subst hx
    exact r_vret dX7_put_29 rfl (le_b rfl) (le_b rfl)
  · have hf := (am_if hf).2 hc
    refine r_iload_n (x := a0) dX7_put_4 rfl ?_
    refine r_aload_n (x := (32, v, 0)) dX7_put_5 rfl ?_
    refine e_geti fw_X7_15 dX7_put_6 (kC_mem (s := 32) (by decide) hv (by decide)) rfl (lt_b rfl) ?_
    refine r_icmp_ge (tgt := 29) dX7_put_9 (by decide) (fun hc => ?_) (fun hc => ?_)
    · have hf := (am_if hf).1 hc
      have hx := am_inj hf
      subst hx
      exact r_vret dX7_put_29 rfl (le_b rfl) (le_b rfl)
    · have hf := (am_if hf).2 hc
      refine r_iload_n (x := a0) dX7_put_12 rfl ?_
      refine r_bipush (v := 60) dX7_put_13 rfl ?_
      refine r_icmp_ge (tgt := 29) dX7_put_15 (by decide) (fun hc => ?_) (fun hc => ?_)
      · have hf := (am_if hf).1 hc
        have hx := am_inj hf
        subst hx
        exact r_vret dX7_put_29 rfl (le_b rfl) (le_b rfl)
      · have hf := (am_if hf).2 hc
        refine r_aload_n (x := (32, v, 0)) dX7_put_18 rfl ?_
        refine e_getr (z := some (33, v, 0)) fw_X7_18 dX7_put_19 (kC_mem (s := 32) (by decide) hv (by decide)) rfl (lt_b rfl) rfl ?_
        refine r_iload_n (x := a0) dX7_put_22 rfl ?_
        refine r_aload_n (x := (32, v, 0)) dX7_put_23 rfl ?_
        refine r_lload_n (x := a1) dX7_put_24 rfl ?_
        obtain ⟨r1, hr2, hf⟩ := am_bind hf
        refine r_callV (as := [vJ a1]) (st := [vI a0, vR (33, v, 0)]) (n := 1) mw_X7_22 mv_X7_cut (C_X7_cut (l := l) hv hr2) (by decide) dX7_put_25 (kC_mem (s := 32) (by decide) hv (by decide)) rfl rfl rfl (le_b rfl) (le_b rfl) (le_b rfl) ?_
        show X l _ _ 0 0 false _ kC 0 0 28 [some (vR (32, v, 0)), some (vI a0), some (vJ a1), none] [vJ r1, vI a0, vR (33, v, 0)] (en u)
        obtain ⟨h3, hf⟩ := am_nchk hf
        refine e_last (n := a0.toNatClampNeg) dX7_put_28 (kC_mem (s := 33) (by decide) hv (by decide)) rfl h3 rfl ?_
        have hx := am_inj hf
        subst hx
        exact r_vret dX7_put_29 rfl (le_b rfl) (le_b rfl)
/-! FireFromFire$Acts.begin -/
theorem dX0_begin_0 : decode cX0_begin 0 = .ok (.aload_n 0, 1) := by decide +kernel
theorem dX0_begin_1 : decode cX0_begin 1 = .ok (.iconst 0, 1) := by decide +kernel
theorem dX0_begin_2 : decode cX0_begin 2 = .ok (.putfield 9, 3) := by decide +kernel
theorem dX0_begin_5 : decode cX0_begin 5 = .ok (.aload_n 1, 1) := by decide +kernel
theorem dX0_begin_6 : decode cX0_begin 6 = .ok (.ifnull 24, 3) := by decide +kernel
theorem dX0_begin_9 : decode cX0_begin 9 = .ok (.aload_n 0, 1) := by decide +kernel
theorem dX0_begin_10 : decode cX0_begin 10 = .ok (.aload_n 1, 1) := by decide +kernel
theorem dX0_begin_11 : decode cX0_begin 11 = .ok (.getfield 28, 3) := by decide +kernel
theorem dX0_begin_14 : decode cX0_begin 14 = .ok (.putfield 19, 3) := by decide +kernel
theorem dX0_begin_17 : decode cX0_begin 17 = .ok (.aload_n 0, 1) := by decide +kernel
theorem dX0_begin_18 : decode cX0_begin 18 = .ok (.aload_n 1, 1) := by decide +kernel
theorem dX0_begin_19 : decode cX0_begin 19 = .ok (.getfield 31, 3) := by decide +kernel
theorem dX0_begin_22 : decode cX0_begin 22 = .ok (.putfield 22, 3) := by decide +kernel
theorem dX0_begin_25 : decode cX0_begin 25 = .ok (.aload_n 0, 1) := by decide +kernel
theorem dX0_begin_26 : decode cX0_begin 26 = .ok (.iload_n 2, 1) := by decide +kernel
theorem dX0_begin_27 : decode cX0_begin 27 = .ok (.putfield 25, 3) := by decide +kernel
theorem dX0_begin_30 : decode cX0_begin 30 = .ok (.return_, 1) := by decide +kernel
def f_X0_begin (w : Nat) (o : Option Nat) (a1 : Int32) (u : PM) : Option (PM) :=
  match o with
  | none =>
    some (pi u (29, 0, 0) 0 (0 : Int32))
  | some z0 =>
    if z0 < 6 then
      some (pi (pi (pi (pi u (29, 0, 0) 0 (0 : Int32)) (29, 0, 0) 2 (u.1 (3, w, z0) 2)) (29, 0, 0) 3 (u.1 (3, w, z0) 3)) (29, 0, 0) 4 a1)
    else none
set_option maxHeartbeats 4000000 in
set_option maxRecDepth 20000 in
theorem C_X0_begin {l : Launch} {w : Nat} (hw : w < 4) {o : Option Nat} {a1 : Int32} {u : PM} {x : PM} (hf : f_X0_begin w o a1 u = some x) : Ev l mX0_begin 1 0 0 false [vR (29, 0, 0), vO (o.map fun z => (3, w, z)), vI a1] kC (en u) (none, kC, en x) := by
  refine Ev_of (by decide +kernel) (le_b rfl) ?_
  unfold f_X0_begin at hf
  show X l mX0_begin 1 0 0 false _ kC 0 0 0 [some (vR (29, 0, 0)), some (vO (o.map fun z => (3, w, z))), some (vI a1)] [] (en u)
  cases o with
  | none =>
    show X l _ _ 0 0 false _ kC 0 0 0 [some (vR (29, 0, 0)), some (vN), some (vI a1)] [] (en u)
    refine r_aload_n (x := (29, 0, 0)) dX0_begin_0 rfl ?_
    refine r_iconst (v := 0) dX0_begin_1 rfl ?_
    refine e_puti fp_X0_9 dX0_begin_2 (kC_mem (s := 29) (by decide) (by decide) (by decide)) rfl (lt_b rfl) rfl rfl rfl ?_
    refine r_aload_nN dX0_begin_5 rfl ?_
    refine r_ifnullN (tgt := 30) dX0_begin_6 (by decide) ?_
    have hx := am_inj hf
    subst hx
    exact r_vret dX0_begin_30 rfl (le_b rfl) (le_b rfl)
  | some z0 =>
    obtain ⟨ho, hf⟩ := am_chk hf
    show X l _ _ 0 0 false _ kC 0 0 0 [some (vR (29, 0, 0)), some (vR (3, w, z0)), some (vI a1)] [] (en u)
    refine r_aload_n (x := (29, 0, 0)) dX0_begin_0 rfl ?_
    refine r_iconst (v := 0) dX0_begin_1 rfl ?_
    refine e_puti fp_X0_9 dX0_begin_2 (kC_mem (s := 29) (by decide) (by decide) (by decide)) rfl (lt_b rfl) rfl rfl rfl ?_
    refine r_aload_n (x := (3, w, z0)) dX0_begin_5 rfl ?_
    refine r_ifnullR dX0_begin_6 ?_
    refine r_aload_n (x := (29, 0, 0)) dX0_begin_9 rfl ?_
    refine r_aload_n (x := (3, w, z0)) dX0_begin_10 rfl ?_
    refine e_geti_ (x := u.1 (3, w, z0) 2) fw_X0_28 dX0_begin_11 (kC_mem (s := 3) (by decide) hw ho) rfl (lt_b rfl) (by simp [pi, pl, pr, pci, pcl]) ?_
    refine e_puti fp_X0_19 dX0_begin_14 (kC_mem (s := 29) (by decide) (by decide) (by decide)) rfl (lt_b rfl) rfl rfl rfl ?_
    refine r_aload_n (x := (29, 0, 0)) dX0_begin_17 rfl ?_
    refine r_aload_n (x := (3, w, z0)) dX0_begin_18 rfl ?_
    refine e_geti_ (x := u.1 (3, w, z0) 3) fw_X0_31 dX0_begin_19 (kC_mem (s := 3) (by decide) hw ho) rfl (lt_b rfl) (by simp [pi, pl, pr, pci, pcl]) ?_
    refine e_puti fp_X0_22 dX0_begin_22 (kC_mem (s := 29) (by decide) (by decide) (by decide)) rfl (lt_b rfl) rfl rfl rfl ?_
    refine r_aload_n (x := (29, 0, 0)) dX0_begin_25 rfl ?_
    refine r_iload_n (x := a1) dX0_begin_26 rfl ?_
    refine e_puti fp_X0_25 dX0_begin_27 (kC_mem (s := 29) (by decide) (by decide) (by decide)) rfl (lt_b rfl) rfl rfl rfl ?_
    have hx := am_inj hf
    subst hx
    exact r_vret dX0_begin_30 rfl (le_b rfl) (le_b rfl)
/-! FireFromFire$Acts.note -/
theorem dX0_note_0 : decode cX0_note 0 = .ok (.aload_n 0, 1) := by decide +kernel
theorem dX0_note_1 : decode cX0_note 1 = .ok (.getfield 9, 3) := by decide +kernel
theorem dX0_note_4 : decode cX0_note 4 = .ok (.ifCond .lt 22, 3) := by decide +kernel
theorem dX0_note_7 : decode cX0_note 7 = .ok (.aload_n 0, 1) := by decide +kernel
theorem dX0_note_8 : decode cX0_note 8 = .ok (.getfield 9, 3) := by decide +kernel
theorem dX0_note_11 : decode cX0_note 11 = .ok (.bipush 20, 2) := by decide +kernel
theorem dX0_note_13 : decode cX0_note 13 = .ok (.if_icmp .ge 13, 3) := by decide +kernel
theorem dX0_note_16 : decode cX0_note 16 = .ok (.aload_n 0, 1) := by decide +kernel
theorem dX0_note_17 : decode cX0_note 17 = .ok (.getfield 15, 3) := by decide +kernel
theorem dX0_note_20 : decode cX0_note 20 = .ok (.aload_n 0, 1) := by decide +kernel
theorem dX0_note_21 : decode cX0_note 21 = .ok (.getfield 9, 3) := by decide +kernel
theorem dX0_note_24 : decode cX0_note 24 = .ok (.iload_n 1, 1) := by decide +kernel
theorem dX0_note_25 : decode cX0_note 25 = .ok (.iastore, 1) := by decide +kernel
theorem dX0_note_26 : decode cX0_note 26 = .ok (.aload_n 0, 1) := by decide +kernel
theorem dX0_note_27 : decode cX0_note 27 = .ok (.dup, 1) := by decide +kernel
theorem dX0_note_28 : decode cX0_note 28 = .ok (.getfield 9, 3) := by decide +kernel
theorem dX0_note_31 : decode cX0_note 31 = .ok (.iconst 1, 1) := by decide +kernel
theorem dX0_note_32 : decode cX0_note 32 = .ok (.iadd, 1) := by decide +kernel
theorem dX0_note_33 : decode cX0_note 33 = .ok (.putfield 9, 3) := by decide +kernel
theorem dX0_note_36 : decode cX0_note 36 = .ok (.return_, 1) := by decide +kernel
def f_X0_note  (a0 : Int32) (u : PM) : Option (PM) :=
  if (u.1 (29, 0, 0) 0) < 0 then
    some (pi u (29, 0, 0) 0 ((u.1 (29, 0, 0) 0) + (1 : Int32)))
  else
  if (20 : Int32) ≤ (u.1 (29, 0, 0) 0) then
    some (pi u (29, 0, 0) 0 ((u.1 (29, 0, 0) 0) + (1 : Int32)))
  else
  if (u.1 (29, 0, 0) 0) < 0 ∨ 20 ≤ (u.1 (29, 0, 0) 0).toNatClampNeg then none else
  some (pi (pi u (30, 0, 0) ((u.1 (29, 0, 0) 0).toNatClampNeg) a0) (29, 0, 0) 0 ((u.1 (29, 0, 0) 0) + (1 : Int32)))
set_option maxHeartbeats 4000000 in
set_option maxRecDepth 20000 in
theorem C_X0_note {l : Launch}  {a0 : Int32} {u : PM} {x : PM} (hf : f_X0_note a0 u = some x) : Ev l mX0_note 1 0 0 false [vR (29, 0, 0), vI a0] kC (en u) (none, kC, en x) := by
  refine Ev_of (by decide +kernel) (le_b rfl) ?_
  unfold f_X0_note at hf
  show X l mX0_note 1 0 0 false _ kC 0 0 0 [some (vR (29, 0, 0)), some (vI a0)] [] (en u)
  refine r_aload_n (x := (29, 0, 0)) dX0_note_0 rfl ?_
  refine e_geti fw_X0_9 dX0_note_1 (kC_mem (s := 29) (by decide) (by decide) (by decide)) rfl (lt_b rfl) ?_
  refine r_if_lt (tgt := 26) dX0_note_4 (by decide) (fun hc => ?_) (fun hc => ?_)
  · have hf := (am_if hf).1 hc
    refine r_aload_n (x := (29, 0, 0)) dX0_note_26 rfl ?_
    refine r_dup dX0_note_27 rfl ?_
    refine e_geti fw_X0_9 dX0_note_28 (kC_mem (s := 29) (by decide) (by decide) (by decide)) rfl (lt_b rfl) ?_
    refine r_iconst (v := 1) dX0_note_31 rfl ?_
    refine r_iadd dX0_note_32 ?_
    refine e_puti fp_X0_9 dX0_note_33 (kC_mem (s := 29) (by decide) (by decide) (by decide)) rfl (lt_b rfl) rfl rfl rfl ?_
    have hx := am_inj hf
    subst hx
    exact r_vret dX0_note_36 rfl (le_b rfl) (le_b rfl)
  · have hf := (am_if hf).2 hc
    refine r_aload_n (x := (29, 0, 0)) dX0_note_7 rfl ?_
    refine e_geti fw_X0_9 dX0_note_8 (kC_mem (s := 29) (by decide) (by decide) (by decide)) rfl (lt_b rfl) ?_
    refine r_bipush (v := 20) dX0_note_11 rfl ?_
    refine r_icmp_ge (tgt := 26) dX0_note_13 (by decide) (fun hc => ?_) (fun hc => ?_)
    · have hf := (am_if hf).1 hc
      refine r_aload_n (x := (29, 0, 0)) dX0_note_26 rfl ?_
      refine r_dup dX0_note_27 rfl ?_
      refine e_geti fw_X0_9 dX0_note_28 (kC_mem (s := 29) (by decide) (by decide) (by decide)) rfl (lt_b rfl) ?_
      refine r_iconst (v := 1) dX0_note_31 rfl ?_
      refine r_iadd dX0_note_32 ?_
      refine e_puti fp_X0_9 dX0_note_33 (kC_mem (s := 29) (by decide) (by decide) (by decide)) rfl (lt_b rfl) rfl rfl rfl ?_
      have hx := am_inj hf
      subst hx
      exact r_vret dX0_note_36 rfl (le_b rfl) (le_b rfl)
    · have hf := (am_if hf).2 hc
      refine r_aload_n (x := (29, 0, 0)) dX0_note_16 rfl ?_
      refine e_getr (z := some (30, 0, 0)) fw_X0_15 dX0_note_17 (kC_mem (s := 29) (by decide) (by decide) (by decide)) rfl (lt_b rfl) rfl ?_
      refine r_aload_n (x := (29, 0, 0)) dX0_note_20 rfl ?_
      refine e_geti fw_X0_9 dX0_note_21 (kC_mem (s := 29) (by decide) (by decide) (by decide)) rfl (lt_b rfl) ?_
      refine r_iload_n (x := a0) dX0_note_24 rfl ?_
      obtain ⟨h1, hf⟩ := am_nchk hf
      refine e_iast (n := (u.1 (29, 0, 0) 0).toNatClampNeg) dX0_note_25 (kC_mem (s := 30) (by decide) (by decide) (by decide)) rfl h1 rfl ?_
      refine r_aload_n (x := (29, 0, 0)) dX0_note_26 rfl ?_
      refine r_dup dX0_note_27 rfl ?_
      refine e_geti_ (x := u.1 (29, 0, 0) 0) fw_X0_9 dX0_note_28 (kC_mem (s := 29) (by decide) (by decide) (by decide)) rfl (lt_b rfl) (by simp [pi, pl, pr, pci, pcl]) ?_
      refine r_iconst (v := 1) dX0_note_31 rfl ?_
      refine r_iadd dX0_note_32 ?_
      refine e_puti fp_X0_9 dX0_note_33 (kC_mem (s := 29) (by decide) (by decide) (by decide)) rfl (lt_b rfl) rfl rfl rfl ?_
      have hx := am_inj hf
      subst hx
      exact r_vret dX0_note_36 rfl (le_b rfl) (le_b rfl)
/-! FireFromFire$Acts.plainKeeps -/
theorem dX0_plainKeeps_0 : decode cX0_plainKeeps 0 = .ok (.aload_n 0, 1) := by decide +kernel
theorem dX0_plainKeeps_1 : decode cX0_plainKeeps 1 = .ok (.bipush 10, 2) := by decide +kernel
theorem dX0_plainKeeps_3 : decode cX0_plainKeeps 3 = .ok (.invokevirtual 32, 3) := by decide +kernel
theorem dX0_plainKeeps_6 : decode cX0_plainKeeps 6 = .ok (.iload_n 1, 1) := by decide +kernel
theorem dX0_plainKeeps_7 : decode cX0_plainKeeps 7 = .ok (.aload_n 0, 1) := by decide +kernel
theorem dX0_plainKeeps_8 : decode cX0_plainKeeps 8 = .ok (.getfield 25, 3) := by decide +kernel
theorem dX0_plainKeeps_11 : decode cX0_plainKeeps 11 = .ok (.iadd, 1) := by decide +kernel
theorem dX0_plainKeeps_12 : decode cX0_plainKeeps 12 = .ok (.ireturn, 1) := by decide +kernel
def f_X0_plainKeeps  (a0 : Int32) (u : PM) : Option (Int32 × PM) :=
  (f_X0_note (10 : Int32) u).bind fun r1 =>
  some (a0 + (r1.1 (29, 0, 0) 4), r1)
set_option maxHeartbeats 4000000 in
set_option maxRecDepth 20000 in
theorem C_X0_plainKeeps {l : Launch}  {a0 : Int32} {u : PM} {x : Int32 × PM} (hf : f_X0_plainKeeps a0 u = some x) : Ev l mX0_plainKeeps 2 0 0 false [vR (29, 0, 0), vI a0] kC (en u) (some (vI x.1), kC, en x.2) := by
  refine Ev_of (by decide +kernel) (le_b rfl) ?_
  unfold f_X0_plainKeeps at hf
  show X l mX0_plainKeeps 2 0 0 false _ kC 0 0 0 [some (vR (29, 0, 0)), some (vI a0)] [] (en u)
  refine r_aload_n (x := (29, 0, 0)) dX0_plainKeeps_0 rfl ?_
  refine r_bipush (v := 10) dX0_plainKeeps_1 rfl ?_
  obtain ⟨r1, hr2, hf⟩ := am_bind hf
  refine r_callV (as := [vI (10 : Int32)]) (st := []) (n := 1) mw_X0_32 mv_X0_note (C_X0_note (l := l) hr2) (by decide) dX0_plainKeeps_3 (kC_mem (s := 29) (by decide) (by decide) (by decide)) rfl rfl rfl (le_b rfl) (le_b rfl) (le_b rfl) ?_
  show X l _ _ 0 0 false _ kC 0 0 6 [some (vR (29, 0, 0)), some (vI a0)] [] (en r1)
  refine r_iload_n (x := a0) dX0_plainKeeps_6 rfl ?_
  refine r_aload_n (x := (29, 0, 0)) dX0_plainKeeps_7 rfl ?_
  refine e_geti fw_X0_25 dX0_plainKeeps_8 (kC_mem (s := 29) (by decide) (by decide) (by decide)) rfl (lt_b rfl) ?_
  refine r_iadd dX0_plainKeeps_11 ?_
  have hx := am_inj hf
  subst hx
  exact r_iret dX0_plainKeeps_12 rfl rfl (le_b rfl) (le_b rfl)
/-! FireFromFire$Acts.keepsBody -/
theorem dX0_keepsBody_0 : decode cX0_keepsBody 0 = .ok (.aload_n 0, 1) := by decide +kernel
theorem dX0_keepsBody_1 : decode cX0_keepsBody 1 = .ok (.getfield 19, 3) := by decide +kernel
theorem dX0_keepsBody_4 : decode cX0_keepsBody 4 = .ok (.tableswitch 80 2 6 #[36, 80, 50, 36, 63], 36) := by decide +kernel
theorem dX0_keepsBody_40 : decode cX0_keepsBody 40 = .ok (.aload_n 0, 1) := by decide +kernel
theorem dX0_keepsBody_41 : decode cX0_keepsBody 41 = .ok (.bipush 30, 2) := by decide +kernel
theorem dX0_keepsBody_43 : decode cX0_keepsBody 43 = .ok (.invokevirtual 32, 3) := by decide +kernel
theorem dX0_keepsBody_46 : decode cX0_keepsBody 46 = .ok (.aload_n 0, 1) := by decide +kernel
theorem dX0_keepsBody_47 : decode cX0_keepsBody 47 = .ok (.iload_n 1, 1) := by decide +kernel
theorem dX0_keepsBody_48 : decode cX0_keepsBody 48 = .ok (.iconst 3, 1) := by decide +kernel
theorem dX0_keepsBody_49 : decode cX0_keepsBody 49 = .ok (.imul, 1) := by decide +kernel
theorem dX0_keepsBody_50 : decode cX0_keepsBody 50 = .ok (.invokevirtual 36, 3) := by decide +kernel
theorem dX0_keepsBody_53 : decode cX0_keepsBody 53 = .ok (.ireturn, 1) := by decide +kernel
theorem dX0_keepsBody_54 : decode cX0_keepsBody 54 = .ok (.aload_n 0, 1) := by decide +kernel
theorem dX0_keepsBody_55 : decode cX0_keepsBody 55 = .ok (.bipush 50, 2) := by decide +kernel
theorem dX0_keepsBody_57 : decode cX0_keepsBody 57 = .ok (.invokevirtual 32, 3) := by decide +kernel
theorem dX0_keepsBody_60 : decode cX0_keepsBody 60 = .ok (.aload_n 0, 1) := by decide +kernel
theorem dX0_keepsBody_61 : decode cX0_keepsBody 61 = .ok (.iload_n 1, 1) := by decide +kernel
theorem dX0_keepsBody_62 : decode cX0_keepsBody 62 = .ok (.invokevirtual 36, 3) := by decide +kernel
theorem dX0_keepsBody_65 : decode cX0_keepsBody 65 = .ok (.ineg, 1) := by decide +kernel
theorem dX0_keepsBody_66 : decode cX0_keepsBody 66 = .ok (.ireturn, 1) := by decide +kernel
theorem dX0_keepsBody_67 : decode cX0_keepsBody 67 = .ok (.aload_n 0, 1) := by decide +kernel
theorem dX0_keepsBody_68 : decode cX0_keepsBody 68 = .ok (.bipush 71, 2) := by decide +kernel
theorem dX0_keepsBody_70 : decode cX0_keepsBody 70 = .ok (.invokevirtual 32, 3) := by decide +kernel
theorem dX0_keepsBody_73 : decode cX0_keepsBody 73 = .ok (.aload_n 0, 1) := by decide +kernel
theorem dX0_keepsBody_74 : decode cX0_keepsBody 74 = .ok (.iload_n 1, 1) := by decide +kernel
theorem dX0_keepsBody_75 : decode cX0_keepsBody 75 = .ok (.invokevirtual 36, 3) := by decide +kernel
theorem dX0_keepsBody_78 : decode cX0_keepsBody 78 = .ok (.aload_n 0, 1) := by decide +kernel
theorem dX0_keepsBody_79 : decode cX0_keepsBody 79 = .ok (.getfield 22, 3) := by decide +kernel
theorem dX0_keepsBody_82 : decode cX0_keepsBody 82 = .ok (.ixor, 1) := by decide +kernel
theorem dX0_keepsBody_83 : decode cX0_keepsBody 83 = .ok (.ireturn, 1) := by decide +kernel
theorem dX0_keepsBody_84 : decode cX0_keepsBody 84 = .ok (.aload_n 0, 1) := by decide +kernel
theorem dX0_keepsBody_85 : decode cX0_keepsBody 85 = .ok (.iload_n 1, 1) := by decide +kernel
theorem dX0_keepsBody_86 : decode cX0_keepsBody 86 = .ok (.invokevirtual 36, 3) := by decide +kernel
theorem dX0_keepsBody_89 : decode cX0_keepsBody 89 = .ok (.ireturn, 1) := by decide +kernel
def f_X0_keepsBody  (a0 : Int32) (u : PM) : Option (Int32 × PM) :=
  if (u.1 (29, 0, 0) 2) = (2 : Int32) then
    (f_X0_note (30 : Int32) u).bind fun r1 =>
    (f_X0_plainKeeps (a0 * (3 : Int32)) r1).bind fun (r3, u5) =>
    some (r3, u5)
  else if (u.1 (29, 0, 0) 2) = (3 : Int32) then
    (f_X0_plainKeeps a0 u).bind fun (r6, u8) =>
    some (r6, u8)
  else if (u.1 (29, 0, 0) 2) = (4 : Int32) then
    (f_X0_note (50 : Int32) u).bind fun r9 =>
    (f_X0_plainKeeps a0 r9).bind fun (r11, u13) =>
    some (-r11, u13)
  else if (u.1 (29, 0, 0) 2) = (5 : Int32) then
    (f_X0_note (30 : Int32) u).bind fun r14 =>
    (f_X0_plainKeeps (a0 * (3 : Int32)) r14).bind fun (r16, u18) =>
    some (r16, u18)
  else if (u.1 (29, 0, 0) 2) = (6 : Int32) then
    (f_X0_note (71 : Int32) u).bind fun r19 =>
    (f_X0_plainKeeps a0 r19).bind fun (r21, u23) =>
    some (r21 ^^^ (u23.1 (29, 0, 0) 3), u23)
  else 
  (f_X0_plainKeeps a0 u).bind fun (r24, u26) =>
  some (r24, u26)
set_option maxHeartbeats 4000000 in
set_option maxRecDepth 20000 in
theorem C_X0_keepsBody {l : Launch}  {a0 : Int32} {u : PM} {x : Int32 × PM} (hf : f_X0_keepsBody a0 u = some x) : Ev l mX0_keepsBody 3 0 0 false [vR (29, 0, 0), vI a0] kC (en u) (some (vI x.1), kC, en x.2) := by
  refine Ev_of (by decide +kernel) (le_b rfl) ?_
  unfold f_X0_keepsBody at hf
  show X l mX0_keepsBody 3 0 0 false _ kC 0 0 0 [some (vR (29, 0, 0)), some (vI a0)] [] (en u)
  refine r_aload_n (x := (29, 0, 0)) dX0_keepsBody_0 rfl ?_
  refine e_geti fw_X0_19 dX0_keepsBody_1 (kC_mem (s := 29) (by decide) (by decide) (by decide)) rfl (lt_b rfl) ?_
  by_cases hs0 : (u.1 (29, 0, 0) 2) = (2 : Int32)
  · have hf := (am_if hf).1 hs0
    refine r_tswIn (x := u.1 (29, 0, 0) 2) (kx := 2) (tgt := 40) dX0_keepsBody_4 hs0 (by decide) (by decide) rfl (by decide) ?_
    refine r_aload_n (x := (29, 0, 0)) dX0_keepsBody_40 rfl ?_
    refine r_bipush (v := 30) dX0_keepsBody_41 rfl ?_
    obtain ⟨r1, hr2, hf⟩ := am_bind hf
    refine r_callV (as := [vI (30 : Int32)]) (st := []) (n := 1) mw_X0_32 mv_X0_note (C_X0_note (l := l) hr2) (by decide) dX0_keepsBody_43 (kC_mem (s := 29) (by decide) (by decide) (by decide)) rfl rfl rfl (le_b rfl) (le_b rfl) (le_b rfl) ?_
    show X l _ _ 0 0 false _ kC 0 0 46 [some (vR (29, 0, 0)), some (vI a0)] [] (en r1)
    refine r_aload_n (x := (29, 0, 0)) dX0_keepsBody_46 rfl ?_
    refine r_iload_n (x := a0) dX0_keepsBody_47 rfl ?_
    refine r_iconst (v := 3) dX0_keepsBody_48 rfl ?_
    refine r_imul dX0_keepsBody_49 ?_
    obtain ⟨⟨r3, u5⟩, hr4, hf⟩ := am_bind hf
    refine r_callV (as := [vI (a0 * (3 : Int32))]) (st := []) (n := 1) mw_X0_36 mv_X0_plainKeeps (C_X0_plainKeeps (l := l) hr4) (by decide) dX0_keepsBody_50 (kC_mem (s := 29) (by decide) (by decide) (by decide)) rfl rfl rfl (le_b rfl) (le_b rfl) (le_b rfl) ?_
    show X l _ _ 0 0 false _ kC 0 0 53 [some (vR (29, 0, 0)), some (vI a0)] [vI r3] (en u5)
    have hx := am_inj hf
    subst hx
    exact r_iret dX0_keepsBody_53 rfl rfl (le_b rfl) (le_b rfl)
  have hf := (am_if hf).2 hs0
  by_cases hs1 : (u.1 (29, 0, 0) 2) = (3 : Int32)
  · have hf := (am_if hf).1 hs1
    refine r_tswIn (x := u.1 (29, 0, 0) 2) (kx := 3) (tgt := 84) dX0_keepsBody_4 hs1 (by decide) (by decide) rfl (by decide) ?_
    refine r_aload_n (x := (29, 0, 0)) dX0_keepsBody_84 rfl ?_
    refine r_iload_n (x := a0) dX0_keepsBody_85 rfl ?_
    obtain ⟨⟨r6, u8⟩, hr7, hf⟩ := am_bind hf
    refine r_callV (as := [vI a0]) (st := []) (n := 1) mw_X0_36 mv_X0_plainKeeps (C_X0_plainKeeps (l := l) hr7) (by decide) dX0_keepsBody_86 (kC_mem (s := 29) (by decide) (by decide) (by decide)) rfl rfl rfl (le_b rfl) (le_b rfl) (le_b rfl) ?_
    show X l _ _ 0 0 false _ kC 0 0 89 [some (vR (29, 0, 0)), some (vI a0)] [vI r6] (en u8)
    have hx := am_inj hf
    subst hx
    exact r_iret dX0_keepsBody_89 rfl rfl (le_b rfl) (le_b rfl)
  have hf := (am_if hf).2 hs1
  by_cases hs2 : (u.1 (29, 0, 0) 2) = (4 : Int32)
  · have hf := (am_if hf).1 hs2
    refine r_tswIn (x := u.1 (29, 0, 0) 2) (kx := 4) (tgt := 54) dX0_keepsBody_4 hs2 (by decide) (by decide) rfl (by decide) ?_
    refine r_aload_n (x := (29, 0, 0)) dX0_keepsBody_54 rfl ?_
    refine r_bipush (v := 50) dX0_keepsBody_55 rfl ?_
    obtain ⟨r9, hr10, hf⟩ := am_bind hf
    refine r_callV (as := [vI (50 : Int32)]) (st := []) (n := 1) mw_X0_32 mv_X0_note (C_X0_note (l := l) hr10) (by decide) dX0_keepsBody_57 (kC_mem (s := 29) (by decide) (by decide) (by decide)) rfl rfl rfl (le_b rfl) (le_b rfl) (le_b rfl) ?_
    show X l _ _ 0 0 false _ kC 0 0 60 [some (vR (29, 0, 0)), some (vI a0)] [] (en r9)
    refine r_aload_n (x := (29, 0, 0)) dX0_keepsBody_60 rfl ?_
    refine r_iload_n (x := a0) dX0_keepsBody_61 rfl ?_
    obtain ⟨⟨r11, u13⟩, hr12, hf⟩ := am_bind hf
    refine r_callV (as := [vI a0]) (st := []) (n := 1) mw_X0_36 mv_X0_plainKeeps (C_X0_plainKeeps (l := l) hr12) (by decide) dX0_keepsBody_62 (kC_mem (s := 29) (by decide) (by decide) (by decide)) rfl rfl rfl (le_b rfl) (le_b rfl) (le_b rfl) ?_
    show X l _ _ 0 0 false _ kC 0 0 65 [some (vR (29, 0, 0)), some (vI a0)] [vI r11] (en u13)
    refine r_ineg dX0_keepsBody_65 ?_
    have hx := am_inj hf
    subst hx
    exact r_iret dX0_keepsBody_66 rfl rfl (le_b rfl) (le_b rfl)
  have hf := (am_if hf).2 hs2
  by_cases hs3 : (u.1 (29, 0, 0) 2) = (5 : Int32)
  · have hf := (am_if hf).1 hs3
    refine r_tswIn (x := u.1 (29, 0, 0) 2) (kx := 5) (tgt := 40) dX0_keepsBody_4 hs3 (by decide) (by decide) rfl (by decide) ?_
    refine r_aload_n (x := (29, 0, 0)) dX0_keepsBody_40 rfl ?_
    refine r_bipush (v := 30) dX0_keepsBody_41 rfl ?_
    obtain ⟨r14, hr15, hf⟩ := am_bind hf
    refine r_callV (as := [vI (30 : Int32)]) (st := []) (n := 1) mw_X0_32 mv_X0_note (C_X0_note (l := l) hr15) (by decide) dX0_keepsBody_43 (kC_mem (s := 29) (by decide) (by decide) (by decide)) rfl rfl rfl (le_b rfl) (le_b rfl) (le_b rfl) ?_
    show X l _ _ 0 0 false _ kC 0 0 46 [some (vR (29, 0, 0)), some (vI a0)] [] (en r14)
    refine r_aload_n (x := (29, 0, 0)) dX0_keepsBody_46 rfl ?_
    refine r_iload_n (x := a0) dX0_keepsBody_47 rfl ?_
    refine r_iconst (v := 3) dX0_keepsBody_48 rfl ?_
    refine r_imul dX0_keepsBody_49 ?_
    obtain ⟨⟨r16, u18⟩, hr17, hf⟩ := am_bind hf
    refine r_callV (as := [vI (a0 * (3 : Int32))]) (st := []) (n := 1) mw_X0_36 mv_X0_plainKeeps (C_X0_plainKeeps (l := l) hr17) (by decide) dX0_keepsBody_50 (kC_mem (s := 29) (by decide) (by decide) (by decide)) rfl rfl rfl (le_b rfl) (le_b rfl) (le_b rfl) ?_
    show X l _ _ 0 0 false _ kC 0 0 53 [some (vR (29, 0, 0)), some (vI a0)] [vI r16] (en u18)
    have hx := am_inj hf
    subst hx
    exact r_iret dX0_keepsBody_53 rfl rfl (le_b rfl) (le_b rfl)
  have hf := (am_if hf).2 hs3
  by_cases hs4 : (u.1 (29, 0, 0) 2) = (6 : Int32)
  · have hf := (am_if hf).1 hs4
    refine r_tswIn (x := u.1 (29, 0, 0) 2) (kx := 6) (tgt := 67) dX0_keepsBody_4 hs4 (by decide) (by decide) rfl (by decide) ?_
    refine r_aload_n (x := (29, 0, 0)) dX0_keepsBody_67 rfl ?_
    refine r_bipush (v := 71) dX0_keepsBody_68 rfl ?_
    obtain ⟨r19, hr20, hf⟩ := am_bind hf
    refine r_callV (as := [vI (71 : Int32)]) (st := []) (n := 1) mw_X0_32 mv_X0_note (C_X0_note (l := l) hr20) (by decide) dX0_keepsBody_70 (kC_mem (s := 29) (by decide) (by decide) (by decide)) rfl rfl rfl (le_b rfl) (le_b rfl) (le_b rfl) ?_
    show X l _ _ 0 0 false _ kC 0 0 73 [some (vR (29, 0, 0)), some (vI a0)] [] (en r19)
    refine r_aload_n (x := (29, 0, 0)) dX0_keepsBody_73 rfl ?_
    refine r_iload_n (x := a0) dX0_keepsBody_74 rfl ?_
    obtain ⟨⟨r21, u23⟩, hr22, hf⟩ := am_bind hf
    refine r_callV (as := [vI a0]) (st := []) (n := 1) mw_X0_36 mv_X0_plainKeeps (C_X0_plainKeeps (l := l) hr22) (by decide) dX0_keepsBody_75 (kC_mem (s := 29) (by decide) (by decide) (by decide)) rfl rfl rfl (le_b rfl) (le_b rfl) (le_b rfl) ?_
    show X l _ _ 0 0 false _ kC 0 0 78 [some (vR (29, 0, 0)), some (vI a0)] [vI r21] (en u23)
    refine r_aload_n (x := (29, 0, 0)) dX0_keepsBody_78 rfl ?_
    refine e_geti fw_X0_22 dX0_keepsBody_79 (kC_mem (s := 29) (by decide) (by decide) (by decide)) rfl (lt_b rfl) ?_
    refine r_ixor dX0_keepsBody_82 ?_
    have hx := am_inj hf
    subst hx
    exact r_iret dX0_keepsBody_83 rfl rfl (le_b rfl) (le_b rfl)
  have hf := (am_if hf).2 hs4
  refine r_tswOut (x := u.1 (29, 0, 0) 2) (tgt := 84) dX0_keepsBody_4 (by have ehs0 := am_neI hs0 (z := 2) rfl; have ehs1 := am_neI hs1 (z := 3) rfl; have ehs2 := am_neI hs2 (z := 4) rfl; have ehs3 := am_neI hs3 (z := 5) rfl; have ehs4 := am_neI hs4 (z := 6) rfl; omega) (by decide) ?_
  refine r_aload_n (x := (29, 0, 0)) dX0_keepsBody_84 rfl ?_
  refine r_iload_n (x := a0) dX0_keepsBody_85 rfl ?_
  obtain ⟨⟨r24, u26⟩, hr25, hf⟩ := am_bind hf
  refine r_callV (as := [vI a0]) (st := []) (n := 1) mw_X0_36 mv_X0_plainKeeps (C_X0_plainKeeps (l := l) hr25) (by decide) dX0_keepsBody_86 (kC_mem (s := 29) (by decide) (by decide) (by decide)) rfl rfl rfl (le_b rfl) (le_b rfl) (le_b rfl) ?_
  show X l _ _ 0 0 false _ kC 0 0 89 [some (vR (29, 0, 0)), some (vI a0)] [vI r24] (en u26)
  have hx := am_inj hf
  subst hx
  exact r_iret dX0_keepsBody_89 rfl rfl (le_b rfl) (le_b rfl)
/-! FireFromFire$Acts.plainSends -/
theorem dX0_plainSends_0 : decode cX0_plainSends 0 = .ok (.aload_n 0, 1) := by decide +kernel
theorem dX0_plainSends_1 : decode cX0_plainSends 1 = .ok (.bipush 11, 2) := by decide +kernel
theorem dX0_plainSends_3 : decode cX0_plainSends 3 = .ok (.invokevirtual 32, 3) := by decide +kernel
theorem dX0_plainSends_6 : decode cX0_plainSends 6 = .ok (.aload_n 0, 1) := by decide +kernel
theorem dX0_plainSends_7 : decode cX0_plainSends 7 = .ok (.iload_n 1, 1) := by decide +kernel
theorem dX0_plainSends_8 : decode cX0_plainSends 8 = .ok (.invokevirtual 46, 3) := by decide +kernel
theorem dX0_plainSends_11 : decode cX0_plainSends 11 = .ok (.aload_n 0, 1) := by decide +kernel
theorem dX0_plainSends_12 : decode cX0_plainSends 12 = .ok (.getfield 22, 3) := by decide +kernel
theorem dX0_plainSends_15 : decode cX0_plainSends 15 = .ok (.isub, 1) := by decide +kernel
theorem dX0_plainSends_16 : decode cX0_plainSends 16 = .ok (.ireturn, 1) := by decide +kernel
def f_X0_plainSends  (a0 : Int32) (u : PM) : Option (Int32 × PM) :=
  (f_X0_note (11 : Int32) u).bind fun r1 =>
  (f_X0_keepsBody a0 r1).bind fun (r3, u5) =>
  some (r3 - (u5.1 (29, 0, 0) 3), u5)
set_option maxHeartbeats 4000000 in
set_option maxRecDepth 20000 in
theorem C_X0_plainSends {l : Launch}  {a0 : Int32} {u : PM} {x : Int32 × PM} (hf : f_X0_plainSends a0 u = some x) : Ev l mX0_plainSends 4 0 0 false [vR (29, 0, 0), vI a0] kC (en u) (some (vI x.1), kC, en x.2) := by
  refine Ev_of (by decide +kernel) (le_b rfl) ?_
  unfold f_X0_plainSends at hf
  show X l mX0_plainSends 4 0 0 false _ kC 0 0 0 [some (vR (29, 0, 0)), some (vI a0)] [] (en u)
  refine r_aload_n (x := (29, 0, 0)) dX0_plainSends_0 rfl ?_
  refine r_bipush (v := 11) dX0_plainSends_1 rfl ?_
  obtain ⟨r1, hr2, hf⟩ := am_bind hf
  refine r_callV (as := [vI (11 : Int32)]) (st := []) (n := 1) mw_X0_32 mv_X0_note (C_X0_note (l := l) hr2) (by decide) dX0_plainSends_3 (kC_mem (s := 29) (by decide) (by decide) (by decide)) rfl rfl rfl (le_b rfl) (le_b rfl) (le_b rfl) ?_
  show X l _ _ 0 0 false _ kC 0 0 6 [some (vR (29, 0, 0)), some (vI a0)] [] (en r1)
  refine r_aload_n (x := (29, 0, 0)) dX0_plainSends_6 rfl ?_
  refine r_iload_n (x := a0) dX0_plainSends_7 rfl ?_
  obtain ⟨⟨r3, u5⟩, hr4, hf⟩ := am_bind hf
  refine r_callV (as := [vI a0]) (st := []) (n := 1) mw_X0_46 mv_X0_keepsBody (C_X0_keepsBody (l := l) hr4) (by decide) dX0_plainSends_8 (kC_mem (s := 29) (by decide) (by decide) (by decide)) rfl rfl rfl (le_b rfl) (le_b rfl) (le_b rfl) ?_
  show X l _ _ 0 0 false _ kC 0 0 11 [some (vR (29, 0, 0)), some (vI a0)] [vI r3] (en u5)
  refine r_aload_n (x := (29, 0, 0)) dX0_plainSends_11 rfl ?_
  refine e_geti fw_X0_22 dX0_plainSends_12 (kC_mem (s := 29) (by decide) (by decide) (by decide)) rfl (lt_b rfl) ?_
  refine r_isub dX0_plainSends_15 ?_
  have hx := am_inj hf
  subst hx
  exact r_iret dX0_plainSends_16 rfl rfl (le_b rfl) (le_b rfl)
/-! FireFromFire$Acts.sendsBody -/
theorem dX0_sendsBody_0 : decode cX0_sendsBody 0 = .ok (.aload_n 0, 1) := by decide +kernel
theorem dX0_sendsBody_1 : decode cX0_sendsBody 1 = .ok (.getfield 19, 3) := by decide +kernel
theorem dX0_sendsBody_4 : decode cX0_sendsBody 4 = .ok (.lookupswitch 94 #[(1, 36), (4, 51), (6, 74)], 36) := by decide +kernel
theorem dX0_sendsBody_40 : decode cX0_sendsBody 40 = .ok (.aload_n 0, 1) := by decide +kernel
theorem dX0_sendsBody_41 : decode cX0_sendsBody 41 = .ok (.bipush 20, 2) := by decide +kernel
theorem dX0_sendsBody_43 : decode cX0_sendsBody 43 = .ok (.invokevirtual 32, 3) := by decide +kernel
theorem dX0_sendsBody_46 : decode cX0_sendsBody 46 = .ok (.aload_n 0, 1) := by decide +kernel
theorem dX0_sendsBody_47 : decode cX0_sendsBody 47 = .ok (.iload_n 1, 1) := by decide +kernel
theorem dX0_sendsBody_48 : decode cX0_sendsBody 48 = .ok (.invokevirtual 40, 3) := by decide +kernel
theorem dX0_sendsBody_51 : decode cX0_sendsBody 51 = .ok (.bipush 6, 2) := by decide +kernel
theorem dX0_sendsBody_53 : decode cX0_sendsBody 53 = .ok (.ixor, 1) := by decide +kernel
theorem dX0_sendsBody_54 : decode cX0_sendsBody 54 = .ok (.ireturn, 1) := by decide +kernel
theorem dX0_sendsBody_55 : decode cX0_sendsBody 55 = .ok (.aload_n 0, 1) := by decide +kernel
theorem dX0_sendsBody_56 : decode cX0_sendsBody 56 = .ok (.bipush 51, 2) := by decide +kernel
theorem dX0_sendsBody_58 : decode cX0_sendsBody 58 = .ok (.invokevirtual 32, 3) := by decide +kernel
theorem dX0_sendsBody_61 : decode cX0_sendsBody 61 = .ok (.aload_n 0, 1) := by decide +kernel
theorem dX0_sendsBody_62 : decode cX0_sendsBody 62 = .ok (.bipush 20, 2) := by decide +kernel
theorem dX0_sendsBody_64 : decode cX0_sendsBody 64 = .ok (.invokevirtual 32, 3) := by decide +kernel
theorem dX0_sendsBody_67 : decode cX0_sendsBody 67 = .ok (.aload_n 0, 1) := by decide +kernel
theorem dX0_sendsBody_68 : decode cX0_sendsBody 68 = .ok (.iload_n 1, 1) := by decide +kernel
theorem dX0_sendsBody_69 : decode cX0_sendsBody 69 = .ok (.iconst 1, 1) := by decide +kernel
theorem dX0_sendsBody_70 : decode cX0_sendsBody 70 = .ok (.iadd, 1) := by decide +kernel
theorem dX0_sendsBody_71 : decode cX0_sendsBody 71 = .ok (.invokevirtual 40, 3) := by decide +kernel
theorem dX0_sendsBody_74 : decode cX0_sendsBody 74 = .ok (.bipush 6, 2) := by decide +kernel
theorem dX0_sendsBody_76 : decode cX0_sendsBody 76 = .ok (.ixor, 1) := by decide +kernel
theorem dX0_sendsBody_77 : decode cX0_sendsBody 77 = .ok (.ireturn, 1) := by decide +kernel
theorem dX0_sendsBody_78 : decode cX0_sendsBody 78 = .ok (.aload_n 0, 1) := by decide +kernel
theorem dX0_sendsBody_79 : decode cX0_sendsBody 79 = .ok (.bipush 70, 2) := by decide +kernel
theorem dX0_sendsBody_81 : decode cX0_sendsBody 81 = .ok (.invokevirtual 32, 3) := by decide +kernel
theorem dX0_sendsBody_84 : decode cX0_sendsBody 84 = .ok (.aload_n 0, 1) := by decide +kernel
theorem dX0_sendsBody_85 : decode cX0_sendsBody 85 = .ok (.iload_n 1, 1) := by decide +kernel
theorem dX0_sendsBody_86 : decode cX0_sendsBody 86 = .ok (.invokevirtual 40, 3) := by decide +kernel
theorem dX0_sendsBody_89 : decode cX0_sendsBody 89 = .ok (.istore_n 2, 1) := by decide +kernel
theorem dX0_sendsBody_90 : decode cX0_sendsBody 90 = .ok (.iload_n 2, 1) := by decide +kernel
theorem dX0_sendsBody_91 : decode cX0_sendsBody 91 = .ok (.aload_n 0, 1) := by decide +kernel
theorem dX0_sendsBody_92 : decode cX0_sendsBody 92 = .ok (.iconst 2, 1) := by decide +kernel
theorem dX0_sendsBody_93 : decode cX0_sendsBody 93 = .ok (.invokevirtual 36, 3) := by decide +kernel
theorem dX0_sendsBody_96 : decode cX0_sendsBody 96 = .ok (.iadd, 1) := by decide +kernel
theorem dX0_sendsBody_97 : decode cX0_sendsBody 97 = .ok (.ireturn, 1) := by decide +kernel
theorem dX0_sendsBody_98 : decode cX0_sendsBody 98 = .ok (.aload_n 0, 1) := by decide +kernel
theorem dX0_sendsBody_99 : decode cX0_sendsBody 99 = .ok (.iload_n 1, 1) := by decide +kernel
theorem dX0_sendsBody_100 : decode cX0_sendsBody 100 = .ok (.invokevirtual 40, 3) := by decide +kernel
theorem dX0_sendsBody_103 : decode cX0_sendsBody 103 = .ok (.ireturn, 1) := by decide +kernel
def f_X0_sendsBody  (a0 : Int32) (u : PM) : Option (Int32 × PM) :=
  if (u.1 (29, 0, 0) 2) = (1 : Int32) then
    (f_X0_note (20 : Int32) u).bind fun r1 =>
    (f_X0_plainSends a0 r1).bind fun (r3, u5) =>
    some (r3 ^^^ (6 : Int32), u5)
  else if (u.1 (29, 0, 0) 2) = (4 : Int32) then
    (f_X0_note (51 : Int32) u).bind fun r6 =>
    (f_X0_note (20 : Int32) r6).bind fun r8 =>
    (f_X0_plainSends (a0 + (1 : Int32)) r8).bind fun (r10, u12) =>
    some (r10 ^^^ (6 : Int32), u12)
  else if (u.1 (29, 0, 0) 2) = (6 : Int32) then
    (f_X0_note (70 : Int32) u).bind fun r13 =>
    (f_X0_plainSends a0 r13).bind fun (r15, u17) =>
    (f_X0_plainKeeps (2 : Int32) u17).bind fun (r18, u20) =>
    some (r15 + r18, u20)
  else 
  (f_X0_plainSends a0 u).bind fun (r21, u23) =>
  some (r21, u23)
set_option maxHeartbeats 4000000 in
set_option maxRecDepth 20000 in
theorem C_X0_sendsBody {l : Launch}  {a0 : Int32} {u : PM} {x : Int32 × PM} (hf : f_X0_sendsBody a0 u = some x) : Ev l mX0_sendsBody 5 0 0 false [vR (29, 0, 0), vI a0] kC (en u) (some (vI x.1), kC, en x.2) := by
  refine Ev_of (by decide +kernel) (le_b rfl) ?_
  unfold f_X0_sendsBody at hf
  show X l mX0_sendsBody 5 0 0 false _ kC 0 0 0 [some (vR (29, 0, 0)), some (vI a0), none] [] (en u)
  refine r_aload_n (x := (29, 0, 0)) dX0_sendsBody_0 rfl ?_
  refine e_geti fw_X0_19 dX0_sendsBody_1 (kC_mem (s := 29) (by decide) (by decide) (by decide)) rfl (lt_b rfl) ?_
  by_cases hs0 : (u.1 (29, 0, 0) 2) = (1 : Int32)
  · have hf := (am_if hf).1 hs0
    refine r_lookup (x := u.1 (29, 0, 0) 2) (tgt := 40) (off := 36) dX0_sendsBody_4 (by decide) (by rw [hs0]; rfl) (by decide) ?_
    refine r_aload_n (x := (29, 0, 0)) dX0_sendsBody_40 rfl ?_
    refine r_bipush (v := 20) dX0_sendsBody_41 rfl ?_
    obtain ⟨r1, hr2, hf⟩ := am_bind hf
    refine r_callV (as := [vI (20 : Int32)]) (st := []) (n := 1) mw_X0_32 mv_X0_note (C_X0_note (l := l) hr2) (by decide) dX0_sendsBody_43 (kC_mem (s := 29) (by decide) (by decide) (by decide)) rfl rfl rfl (le_b rfl) (le_b rfl) (le_b rfl) ?_
    show X l _ _ 0 0 false _ kC 0 0 46 [some (vR (29, 0, 0)), some (vI a0), none] [] (en r1)
    refine r_aload_n (x := (29, 0, 0)) dX0_sendsBody_46 rfl ?_
    refine r_iload_n (x := a0) dX0_sendsBody_47 rfl ?_
    obtain ⟨⟨r3, u5⟩, hr4, hf⟩ := am_bind hf
    refine r_callV (as := [vI a0]) (st := []) (n := 1) mw_X0_40 mv_X0_plainSends (C_X0_plainSends (l := l) hr4) (by decide) dX0_sendsBody_48 (kC_mem (s := 29) (by decide) (by decide) (by decide)) rfl rfl rfl (le_b rfl) (le_b rfl) (le_b rfl) ?_
    show X l _ _ 0 0 false _ kC 0 0 51 [some (vR (29, 0, 0)), some (vI a0), none] [vI r3] (en u5)
    refine r_bipush (v := 6) dX0_sendsBody_51 rfl ?_
    refine r_ixor dX0_sendsBody_53 ?_
    have hx := am_inj hf
    subst hx
    exact r_iret dX0_sendsBody_54 rfl rfl (le_b rfl) (le_b rfl)
  have hf := (am_if hf).2 hs0
  by_cases hs1 : (u.1 (29, 0, 0) 2) = (4 : Int32)
  · have hf := (am_if hf).1 hs1
    refine r_lookup (x := u.1 (29, 0, 0) 2) (tgt := 55) (off := 51) dX0_sendsBody_4 (by decide) (by rw [hs1]; rfl) (by decide) ?_
    refine r_aload_n (x := (29, 0, 0)) dX0_sendsBody_55 rfl ?_
    refine r_bipush (v := 51) dX0_sendsBody_56 rfl ?_
    obtain ⟨r6, hr7, hf⟩ := am_bind hf
    refine r_callV (as := [vI (51 : Int32)]) (st := []) (n := 1) mw_X0_32 mv_X0_note (C_X0_note (l := l) hr7) (by decide) dX0_sendsBody_58 (kC_mem (s := 29) (by decide) (by decide) (by decide)) rfl rfl rfl (le_b rfl) (le_b rfl) (le_b rfl) ?_
    show X l _ _ 0 0 false _ kC 0 0 61 [some (vR (29, 0, 0)), some (vI a0), none] [] (en r6)
    refine r_aload_n (x := (29, 0, 0)) dX0_sendsBody_61 rfl ?_
    refine r_bipush (v := 20) dX0_sendsBody_62 rfl ?_
    obtain ⟨r8, hr9, hf⟩ := am_bind hf
    refine r_callV (as := [vI (20 : Int32)]) (st := []) (n := 1) mw_X0_32 mv_X0_note (C_X0_note (l := l) hr9) (by decide) dX0_sendsBody_64 (kC_mem (s := 29) (by decide) (by decide) (by decide)) rfl rfl rfl (le_b rfl) (le_b rfl) (le_b rfl) ?_
    show X l _ _ 0 0 false _ kC 0 0 67 [some (vR (29, 0, 0)), some (vI a0), none] [] (en r8)
    refine r_aload_n (x := (29, 0, 0)) dX0_sendsBody_67 rfl ?_
    refine r_iload_n (x := a0) dX0_sendsBody_68 rfl ?_
    refine r_iconst (v := 1) dX0_sendsBody_69 rfl ?_
    refine r_iadd dX0_sendsBody_70 ?_
    obtain ⟨⟨r10, u12⟩, hr11, hf⟩ := am_bind hf
    refine r_callV (as := [vI (a0 + (1 : Int32))]) (st := []) (n := 1) mw_X0_40 mv_X0_plainSends (C_X0_plainSends (l := l) hr11) (by decide) dX0_sendsBody_71 (kC_mem (s := 29) (by decide) (by decide) (by decide)) rfl rfl rfl (le_b rfl) (le_b rfl) (le_b rfl) ?_
    show X l _ _ 0 0 false _ kC 0 0 74 [some (vR (29, 0, 0)), some (vI a0), none] [vI r10] (en u12)
    refine r_bipush (v := 6) dX0_sendsBody_74 rfl ?_
    refine r_ixor dX0_sendsBody_76 ?_
    have hx := am_inj hf
    subst hx
    exact r_iret dX0_sendsBody_77 rfl rfl (le_b rfl) (le_b rfl)
  have hf := (am_if hf).2 hs1
  by_cases hs2 : (u.1 (29, 0, 0) 2) = (6 : Int32)
  · have hf := (am_if hf).1 hs2
    refine r_lookup (x := u.1 (29, 0, 0) 2) (tgt := 78) (off := 74) dX0_sendsBody_4 (by decide) (by rw [hs2]; rfl) (by decide) ?_
    refine r_aload_n (x := (29, 0, 0)) dX0_sendsBody_78 rfl ?_
    refine r_bipush (v := 70) dX0_sendsBody_79 rfl ?_
    obtain ⟨r13, hr14, hf⟩ := am_bind hf
    refine r_callV (as := [vI (70 : Int32)]) (st := []) (n := 1) mw_X0_32 mv_X0_note (C_X0_note (l := l) hr14) (by decide) dX0_sendsBody_81 (kC_mem (s := 29) (by decide) (by decide) (by decide)) rfl rfl rfl (le_b rfl) (le_b rfl) (le_b rfl) ?_
    show X l _ _ 0 0 false _ kC 0 0 84 [some (vR (29, 0, 0)), some (vI a0), none] [] (en r13)
    refine r_aload_n (x := (29, 0, 0)) dX0_sendsBody_84 rfl ?_
    refine r_iload_n (x := a0) dX0_sendsBody_85 rfl ?_
    obtain ⟨⟨r15, u17⟩, hr16, hf⟩ := am_bind hf
    refine r_callV (as := [vI a0]) (st := []) (n := 1) mw_X0_40 mv_X0_plainSends (C_X0_plainSends (l := l) hr16) (by decide) dX0_sendsBody_86 (kC_mem (s := 29) (by decide) (by decide) (by decide)) rfl rfl rfl (le_b rfl) (le_b rfl) (le_b rfl) ?_
    show X l _ _ 0 0 false _ kC 0 0 89 [some (vR (29, 0, 0)), some (vI a0), none] [vI r15] (en u17)
    refine r_istore_n (L' := [some (vR (29, 0, 0)), some (vI a0), some (vI r15)]) dX0_sendsBody_89 (by decide) rfl ?_
    refine r_iload_n (x := r15) dX0_sendsBody_90 rfl ?_
    refine r_aload_n (x := (29, 0, 0)) dX0_sendsBody_91 rfl ?_
    refine r_iconst (v := 2) dX0_sendsBody_92 rfl ?_
    obtain ⟨⟨r18, u20⟩, hr19, hf⟩ := am_bind hf
    refine r_callV (as := [vI (2 : Int32)]) (st := [vI r15]) (n := 1) mw_X0_36 mv_X0_plainKeeps (C_X0_plainKeeps (l := l) hr19) (by decide) dX0_sendsBody_93 (kC_mem (s := 29) (by decide) (by decide) (by decide)) rfl rfl rfl (le_b rfl) (le_b rfl) (le_b rfl) ?_
    show X l _ _ 0 0 false _ kC 0 0 96 [some (vR (29, 0, 0)), some (vI a0), some (vI r15)] [vI r18, vI r15] (en u20)
    refine r_iadd dX0_sendsBody_96 ?_
    have hx := am_inj hf
    subst hx
    exact r_iret dX0_sendsBody_97 rfl rfl (le_b rfl) (le_b rfl)
  have hf := (am_if hf).2 hs2
  refine r_lookup (x := u.1 (29, 0, 0) 2) (tgt := 98) (off := 94) dX0_sendsBody_4 (by decide) (Eq.trans (lv_osw hs0 rfl) (Eq.trans (lv_osw hs1 rfl) (Eq.trans (lv_osw hs2 rfl) rfl))) (by decide) ?_
  refine r_aload_n (x := (29, 0, 0)) dX0_sendsBody_98 rfl ?_
  refine r_iload_n (x := a0) dX0_sendsBody_99 rfl ?_
  obtain ⟨⟨r21, u23⟩, hr22, hf⟩ := am_bind hf
  refine r_callV (as := [vI a0]) (st := []) (n := 1) mw_X0_40 mv_X0_plainSends (C_X0_plainSends (l := l) hr22) (by decide) dX0_sendsBody_100 (kC_mem (s := 29) (by decide) (by decide) (by decide)) rfl rfl rfl (le_b rfl) (le_b rfl) (le_b rfl) ?_
  show X l _ _ 0 0 false _ kC 0 0 103 [some (vR (29, 0, 0)), some (vI a0), none] [vI r21] (en u23)
  have hx := am_inj hf
  subst hx
  exact r_iret dX0_sendsBody_103 rfl rfl (le_b rfl) (le_b rfl)
/-! FireFromFire$Acts.tellsBody -/
theorem dX0_tellsBody_0 : decode cX0_tellsBody 0 = .ok (.aload_n 0, 1) := by decide +kernel
theorem dX0_tellsBody_1 : decode cX0_tellsBody 1 = .ok (.getfield 19, 3) := by decide +kernel
theorem dX0_tellsBody_4 : decode cX0_tellsBody 4 = .ok (.iconst 3, 1) := by decide +kernel
theorem dX0_tellsBody_5 : decode cX0_tellsBody 5 = .ok (.if_icmp .eq 12, 3) := by decide +kernel
theorem dX0_tellsBody_8 : decode cX0_tellsBody 8 = .ok (.aload_n 0, 1) := by decide +kernel
theorem dX0_tellsBody_9 : decode cX0_tellsBody 9 = .ok (.getfield 19, 3) := by decide +kernel
theorem dX0_tellsBody_12 : decode cX0_tellsBody 12 = .ok (.bipush 6, 2) := by decide +kernel
theorem dX0_tellsBody_14 : decode cX0_tellsBody 14 = .ok (.if_icmp .ne 7, 3) := by decide +kernel
theorem dX0_tellsBody_17 : decode cX0_tellsBody 17 = .ok (.iconst 1, 1) := by decide +kernel
theorem dX0_tellsBody_18 : decode cX0_tellsBody 18 = .ok (.goto 4, 3) := by decide +kernel
theorem dX0_tellsBody_21 : decode cX0_tellsBody 21 = .ok (.iconst 0, 1) := by decide +kernel
theorem dX0_tellsBody_22 : decode cX0_tellsBody 22 = .ok (.istore_n 2, 1) := by decide +kernel
theorem dX0_tellsBody_23 : decode cX0_tellsBody 23 = .ok (.iload_n 2, 1) := by decide +kernel
theorem dX0_tellsBody_24 : decode cX0_tellsBody 24 = .ok (.ifCond .eq 12, 3) := by decide +kernel
theorem dX0_tellsBody_27 : decode cX0_tellsBody 27 = .ok (.aload_n 0, 1) := by decide +kernel
theorem dX0_tellsBody_28 : decode cX0_tellsBody 28 = .ok (.bipush 40, 2) := by decide +kernel
theorem dX0_tellsBody_30 : decode cX0_tellsBody 30 = .ok (.invokevirtual 32, 3) := by decide +kernel
theorem dX0_tellsBody_33 : decode cX0_tellsBody 33 = .ok (.goto 17, 3) := by decide +kernel
theorem dX0_tellsBody_36 : decode cX0_tellsBody 36 = .ok (.aload_n 0, 1) := by decide +kernel
theorem dX0_tellsBody_37 : decode cX0_tellsBody 37 = .ok (.getfield 19, 3) := by decide +kernel
theorem dX0_tellsBody_40 : decode cX0_tellsBody 40 = .ok (.iconst 5, 1) := by decide +kernel
theorem dX0_tellsBody_41 : decode cX0_tellsBody 41 = .ok (.if_icmp .ne 9, 3) := by decide +kernel
theorem dX0_tellsBody_44 : decode cX0_tellsBody 44 = .ok (.aload_n 0, 1) := by decide +kernel
theorem dX0_tellsBody_45 : decode cX0_tellsBody 45 = .ok (.bipush 60, 2) := by decide +kernel
theorem dX0_tellsBody_47 : decode cX0_tellsBody 47 = .ok (.invokevirtual 32, 3) := by decide +kernel
theorem dX0_tellsBody_50 : decode cX0_tellsBody 50 = .ok (.aload_n 0, 1) := by decide +kernel
theorem dX0_tellsBody_51 : decode cX0_tellsBody 51 = .ok (.bipush 12, 2) := by decide +kernel
theorem dX0_tellsBody_53 : decode cX0_tellsBody 53 = .ok (.invokevirtual 32, 3) := by decide +kernel
theorem dX0_tellsBody_56 : decode cX0_tellsBody 56 = .ok (.aload_n 0, 1) := by decide +kernel
theorem dX0_tellsBody_57 : decode cX0_tellsBody 57 = .ok (.aload_n 0, 1) := by decide +kernel
theorem dX0_tellsBody_58 : decode cX0_tellsBody 58 = .ok (.getfield 19, 3) := by decide +kernel
theorem dX0_tellsBody_61 : decode cX0_tellsBody 61 = .ok (.iconst 5, 1) := by decide +kernel
theorem dX0_tellsBody_62 : decode cX0_tellsBody 62 = .ok (.if_icmp .ne 12, 3) := by decide +kernel
theorem dX0_tellsBody_65 : decode cX0_tellsBody 65 = .ok (.iload_n 1, 1) := by decide +kernel
theorem dX0_tellsBody_66 : decode cX0_tellsBody 66 = .ok (.aload_n 0, 1) := by decide +kernel
theorem dX0_tellsBody_67 : decode cX0_tellsBody 67 = .ok (.getfield 25, 3) := by decide +kernel
theorem dX0_tellsBody_70 : decode cX0_tellsBody 70 = .ok (.isub, 1) := by decide +kernel
theorem dX0_tellsBody_71 : decode cX0_tellsBody 71 = .ok (.goto 4, 3) := by decide +kernel
theorem dX0_tellsBody_74 : decode cX0_tellsBody 74 = .ok (.iload_n 1, 1) := by decide +kernel
theorem dX0_tellsBody_75 : decode cX0_tellsBody 75 = .ok (.invokevirtual 43, 3) := by decide +kernel
theorem dX0_tellsBody_78 : decode cX0_tellsBody 78 = .ok (.iconst 2, 1) := by decide +kernel
theorem dX0_tellsBody_79 : decode cX0_tellsBody 79 = .ok (.imul, 1) := by decide +kernel
theorem dX0_tellsBody_80 : decode cX0_tellsBody 80 = .ok (.istore_n 3, 1) := by decide +kernel
theorem dX0_tellsBody_81 : decode cX0_tellsBody 81 = .ok (.iload_n 2, 1) := by decide +kernel
theorem dX0_tellsBody_82 : decode cX0_tellsBody 82 = .ok (.ifCond .eq 13, 3) := by decide +kernel
theorem dX0_tellsBody_85 : decode cX0_tellsBody 85 = .ok (.iload_n 3, 1) := by decide +kernel
theorem dX0_tellsBody_86 : decode cX0_tellsBody 86 = .ok (.aload_n 0, 1) := by decide +kernel
theorem dX0_tellsBody_87 : decode cX0_tellsBody 87 = .ok (.iconst 1, 1) := by decide +kernel
theorem dX0_tellsBody_88 : decode cX0_tellsBody 88 = .ok (.invokevirtual 43, 3) := by decide +kernel
theorem dX0_tellsBody_91 : decode cX0_tellsBody 91 = .ok (.iadd, 1) := by decide +kernel
theorem dX0_tellsBody_92 : decode cX0_tellsBody 92 = .ok (.goto 4, 3) := by decide +kernel
theorem dX0_tellsBody_95 : decode cX0_tellsBody 95 = .ok (.iload_n 3, 1) := by decide +kernel
theorem dX0_tellsBody_96 : decode cX0_tellsBody 96 = .ok (.ireturn, 1) := by decide +kernel
def f_X0_tellsBody  (a0 : Int32) (u : PM) : Option (Int32 × PM) :=
  if (u.1 (29, 0, 0) 2) = (3 : Int32) then
    (f_X0_note (40 : Int32) u).bind fun r1 =>
    (f_X0_note (12 : Int32) r1).bind fun r3 =>
    if (r3.1 (29, 0, 0) 2) = (5 : Int32) then
      (f_X0_sendsBody (a0 - (r3.1 (29, 0, 0) 4)) r3).bind fun (r11, u13) =>
      (f_X0_sendsBody (1 : Int32) u13).bind fun (r14, u16) =>
      some ((r11 * (2 : Int32)) + r14, u16)
    else
    (f_X0_sendsBody a0 r3).bind fun (r5, u7) =>
    (f_X0_sendsBody (1 : Int32) u7).bind fun (r8, u10) =>
    some ((r5 * (2 : Int32)) + r8, u10)
  else
  if (u.1 (29, 0, 0) 2) = (6 : Int32) then
    (f_X0_note (40 : Int32) u).bind fun r35 =>
    (f_X0_note (12 : Int32) r35).bind fun r37 =>
    if (r37.1 (29, 0, 0) 2) = (5 : Int32) then
      (f_X0_sendsBody (a0 - (r37.1 (29, 0, 0) 4)) r37).bind fun (r45, u47) =>
      (f_X0_sendsBody (1 : Int32) u47).bind fun (r48, u50) =>
      some ((r45 * (2 : Int32)) + r48, u50)
    else
    (f_X0_sendsBody a0 r37).bind fun (r39, u41) =>
    (f_X0_sendsBody (1 : Int32) u41).bind fun (r42, u44) =>
    some ((r39 * (2 : Int32)) + r42, u44)
  else
  if (u.1 (29, 0, 0) 2) = (5 : Int32) then
    (f_X0_note (60 : Int32) u).bind fun r25 =>
    (f_X0_note (12 : Int32) r25).bind fun r27 =>
    if (r27.1 (29, 0, 0) 2) = (5 : Int32) then
      (f_X0_sendsBody (a0 - (r27.1 (29, 0, 0) 4)) r27).bind fun (r32, u34) =>
      some (r32 * (2 : Int32), u34)
    else
    (f_X0_sendsBody a0 r27).bind fun (r29, u31) =>
    some (r29 * (2 : Int32), u31)
  else
  (f_X0_note (12 : Int32) u).bind fun r17 =>
  if (r17.1 (29, 0, 0) 2) = (5 : Int32) then
    (f_X0_sendsBody (a0 - (r17.1 (29, 0, 0) 4)) r17).bind fun (r22, u24) =>
    some (r22 * (2 : Int32), u24)
  else
  (f_X0_sendsBody a0 r17).bind fun (r19, u21) =>
  some (r19 * (2 : Int32), u21)
set_option maxHeartbeats 4000000 in
set_option maxRecDepth 20000 in
theorem C_X0_tellsBody {l : Launch}  {a0 : Int32} {u : PM} {x : Int32 × PM} (hf : f_X0_tellsBody a0 u = some x) : Ev l mX0_tellsBody 6 0 0 false [vR (29, 0, 0), vI a0] kC (en u) (some (vI x.1), kC, en x.2) := by
  refine Ev_of (by decide +kernel) (le_b rfl) ?_
  unfold f_X0_tellsBody at hf
  show X l mX0_tellsBody 6 0 0 false _ kC 0 0 0 [some (vR (29, 0, 0)), some (vI a0), none, none] [] (en u)
  refine r_aload_n (x := (29, 0, 0)) dX0_tellsBody_0 rfl ?_
  refine e_geti fw_X0_19 dX0_tellsBody_1 (kC_mem (s := 29) (by decide) (by decide) (by decide)) rfl (lt_b rfl) ?_
  refine r_iconst (v := 3) dX0_tellsBody_4 rfl ?_
  refine r_icmp_eq (tgt := 17) dX0_tellsBody_5 (by decide) (fun hc => ?_) (fun hc => ?_)
  · have hf := (am_if hf).1 hc
    refine r_iconst (v := 1) dX0_tellsBody_17 rfl ?_
    refine r_goto (tgt := 22) dX0_tellsBody_18 (by decide) ?_
    refine r_istore_n (L' := [some (vR (29, 0, 0)), some (vI a0), some (vI (1 : Int32)), none]) dX0_tellsBody_22 (by decide) rfl ?_
    refine r_iload_n (x := (1 : Int32)) dX0_tellsBody_23 rfl ?_
    refine r_if_eq (tgt := 36) dX0_tellsBody_24 (by decide) (fun hc => absurd hc (by decide)) (fun hc => ?_)
    refine r_aload_n (x := (29, 0, 0)) dX0_tellsBody_27 rfl ?_
    refine r_bipush (v := 40) dX0_tellsBody_28 rfl ?_
    obtain ⟨r1, hr2, hf⟩ := am_bind hf
    refine r_callV (as := [vI (40 : Int32)]) (st := []) (n := 1) mw_X0_32 mv_X0_note (C_X0_note (l := l) hr2) (by decide) dX0_tellsBody_30 (kC_mem (s := 29) (by decide) (by decide) (by decide)) rfl rfl rfl (le_b rfl) (le_b rfl) (le_b rfl) ?_
    show X l _ _ 0 0 false _ kC 0 0 33 [some (vR (29, 0, 0)), some (vI a0), some (vI (1 : Int32)), none] [] (en r1)
    refine r_goto (tgt := 50) dX0_tellsBody_33 (by decide) ?_
    refine r_aload_n (x := (29, 0, 0)) dX0_tellsBody_50 rfl ?_
    refine r_bipush (v := 12) dX0_tellsBody_51 rfl ?_
    obtain ⟨r3, hr4, hf⟩ := am_bind hf
    refine r_callV (as := [vI (12 : Int32)]) (st := []) (n := 1) mw_X0_32 mv_X0_note (C_X0_note (l := l) hr4) (by decide) dX0_tellsBody_53 (kC_mem (s := 29) (by decide) (by decide) (by decide)) rfl rfl rfl (le_b rfl) (le_b rfl) (le_b rfl) ?_
    show X l _ _ 0 0 false _ kC 0 0 56 [some (vR (29, 0, 0)), some (vI a0), some (vI (1 : Int32)), none] [] (en r3)
    refine r_aload_n (x := (29, 0, 0)) dX0_tellsBody_56 rfl ?_
    refine r_aload_n (x := (29, 0, 0)) dX0_tellsBody_57 rfl ?_
    refine e_geti fw_X0_19 dX0_tellsBody_58 (kC_mem (s := 29) (by decide) (by decide) (by decide)) rfl (lt_b rfl) ?_
    refine r_iconst (v := 5) dX0_tellsBody_61 rfl ?_
    refine r_icmp_ne (tgt := 74) dX0_tellsBody_62 (by decide) (fun hc => ?_) (fun hc => ?_)
    · have hf := (am_if hf).2 hc
      refine r_iload_n (x := a0) dX0_tellsBody_74 rfl ?_
      obtain ⟨⟨r5, u7⟩, hr6, hf⟩ := am_bind hf
      refine r_callV (as := [vI a0]) (st := []) (n := 1) mw_X0_43 mv_X0_sendsBody (C_X0_sendsBody (l := l) hr6) (by decide) dX0_tellsBody_75 (kC_mem (s := 29) (by decide) (by decide) (by decide)) rfl rfl rfl (le_b rfl) (le_b rfl) (le_b rfl) ?_
      show X l _ _ 0 0 false _ kC 0 0 78 [some (vR (29, 0, 0)), some (vI a0), some (vI (1 : Int32)), none] [vI r5] (en u7)
      refine r_iconst (v := 2) dX0_tellsBody_78 rfl ?_
      refine r_imul dX0_tellsBody_79 ?_
      refine r_istore_n (L' := [some (vR (29, 0, 0)), some (vI a0), some (vI (1 : Int32)), some (vI (r5 * (2 : Int32)))]) dX0_tellsBody_80 (by decide) rfl ?_
      refine r_iload_n (x := (1 : Int32)) dX0_tellsBody_81 rfl ?_
      refine r_if_eq (tgt := 95) dX0_tellsBody_82 (by decide) (fun hc => absurd hc (by decide)) (fun hc => ?_)
      refine r_iload_n (x := r5 * (2 : Int32)) dX0_tellsBody_85 rfl ?_
      refine r_aload_n (x := (29, 0, 0)) dX0_tellsBody_86 rfl ?_
      refine r_iconst (v := 1) dX0_tellsBody_87 rfl ?_
      obtain ⟨⟨r8, u10⟩, hr9, hf⟩ := am_bind hf
      refine r_callV (as := [vI (1 : Int32)]) (st := [vI (r5 * (2 : Int32))]) (n := 1) mw_X0_43 mv_X0_sendsBody (C_X0_sendsBody (l := l) hr9) (by decide) dX0_tellsBody_88 (kC_mem (s := 29) (by decide) (by decide) (by decide)) rfl rfl rfl (le_b rfl) (le_b rfl) (le_b rfl) ?_
      show X l _ _ 0 0 false _ kC 0 0 91 [some (vR (29, 0, 0)), some (vI a0), some (vI (1 : Int32)), some (vI (r5 * (2 : Int32)))] [vI r8, vI (r5 * (2 : Int32))] (en u10)
      refine r_iadd dX0_tellsBody_91 ?_
      refine r_goto (tgt := 96) dX0_tellsBody_92 (by decide) ?_
      have hx := am_inj hf
      subst hx
      exact r_iret dX0_tellsBody_96 rfl rfl (le_b rfl) (le_b rfl)
    · have hf := (am_if hf).1 hc
      refine r_iload_n (x := a0) dX0_tellsBody_65 rfl ?_
      refine r_aload_n (x := (29, 0, 0)) dX0_tellsBody_66 rfl ?_
      refine e_geti fw_X0_25 dX0_tellsBody_67 (kC_mem (s := 29) (by decide) (by decide) (by decide)) rfl (lt_b rfl) ?_
      refine r_isub dX0_tellsBody_70 ?_
      refine r_goto (tgt := 75) dX0_tellsBody_71 (by decide) ?_
      obtain ⟨⟨r11, u13⟩, hr12, hf⟩ := am_bind hf
      refine r_callV (as := [vI (a0 - (r3.1 (29, 0, 0) 4))]) (st := []) (n := 1) mw_X0_43 mv_X0_sendsBody (C_X0_sendsBody (l := l) hr12) (by decide) dX0_tellsBody_75 (kC_mem (s := 29) (by decide) (by decide) (by decide)) rfl rfl rfl (le_b rfl) (le_b rfl) (le_b rfl) ?_
      show X l _ _ 0 0 false _ kC 0 0 78 [some (vR (29, 0, 0)), some (vI a0), some (vI (1 : Int32)), none] [vI r11] (en u13)
      refine r_iconst (v := 2) dX0_tellsBody_78 rfl ?_
      refine r_imul dX0_tellsBody_79 ?_
      refine r_istore_n (L' := [some (vR (29, 0, 0)), some (vI a0), some (vI (1 : Int32)), some (vI (r11 * (2 : Int32)))]) dX0_tellsBody_80 (by decide) rfl ?_
      refine r_iload_n (x := (1 : Int32)) dX0_tellsBody_81 rfl ?_
      refine r_if_eq (tgt := 95) dX0_tellsBody_82 (by decide) (fun hc => absurd hc (by decide)) (fun hc => ?_)
      refine r_iload_n (x := r11 * (2 : Int32)) dX0_tellsBody_85 rfl ?_
      refine r_aload_n (x := (29, 0, 0)) dX0_tellsBody_86 rfl ?_
      refine r_iconst (v := 1) dX0_tellsBody_87 rfl ?_
      obtain ⟨⟨r14, u16⟩, hr15, hf⟩ := am_bind hf
      refine r_callV (as := [vI (1 : Int32)]) (st := [vI (r11 * (2 : Int32))]) (n := 1) mw_X0_43 mv_X0_sendsBody (C_X0_sendsBody (l := l) hr15) (by decide) dX0_tellsBody_88 (kC_mem (s := 29) (by decide) (by decide) (by decide)) rfl rfl rfl (le_b rfl) (le_b rfl) (le_b rfl) ?_
      show X l _ _ 0 0 false _ kC 0 0 91 [some (vR (29, 0, 0)), some (vI a0), some (vI (1 : Int32)), some (vI (r11 * (2 : Int32)))] [vI r14, vI (r11 * (2 : Int32))] (en u16)
      refine r_iadd dX0_tellsBody_91 ?_
      refine r_goto (tgt := 96) dX0_tellsBody_92 (by decide) ?_
      have hx := am_inj hf
      subst hx
      exact r_iret dX0_tellsBody_96 rfl rfl (le_b rfl) (le_b rfl)
  · have hf := (am_if hf).2 hc
    refine r_aload_n (x := (29, 0, 0)) dX0_tellsBody_8 rfl ?_
    refine e_geti fw_X0_19 dX0_tellsBody_9 (kC_mem (s := 29) (by decide) (by decide) (by decide)) rfl (lt_b rfl) ?_
    refine r_bipush (v := 6) dX0_tellsBody_12 rfl ?_
    refine r_icmp_ne (tgt := 21) dX0_tellsBody_14 (by decide) (fun hc => ?_) (fun hc => ?_)
    · have hf := (am_if hf).2 hc
      refine r_iconst (v := 0) dX0_tellsBody_21 rfl ?_
      refine r_istore_n (L' := [some (vR (29, 0, 0)), some (vI a0), some (vI (0 : Int32)), none]) dX0_tellsBody_22 (by decide) rfl ?_
      refine r_iload_n (x := (0 : Int32)) dX0_tellsBody_23 rfl ?_
      refine r_if_eq (tgt := 36) dX0_tellsBody_24 (by decide) (fun hc => ?_) (fun hc => absurd hc (by decide))
      refine r_aload_n (x := (29, 0, 0)) dX0_tellsBody_36 rfl ?_
      refine e_geti fw_X0_19 dX0_tellsBody_37 (kC_mem (s := 29) (by decide) (by decide) (by decide)) rfl (lt_b rfl) ?_
      refine r_iconst (v := 5) dX0_tellsBody_40 rfl ?_
      refine r_icmp_ne (tgt := 50) dX0_tellsBody_41 (by decide) (fun hc => ?_) (fun hc => ?_)
      · have hf := (am_if hf).2 hc
        refine r_aload_n (x := (29, 0, 0)) dX0_tellsBody_50 rfl ?_
        refine r_bipush (v := 12) dX0_tellsBody_51 rfl ?_
        obtain ⟨r17, hr18, hf⟩ := am_bind hf
        refine r_callV (as := [vI (12 : Int32)]) (st := []) (n := 1) mw_X0_32 mv_X0_note (C_X0_note (l := l) hr18) (by decide) dX0_tellsBody_53 (kC_mem (s := 29) (by decide) (by decide) (by decide)) rfl rfl rfl (le_b rfl) (le_b rfl) (le_b rfl) ?_
        show X l _ _ 0 0 false _ kC 0 0 56 [some (vR (29, 0, 0)), some (vI a0), some (vI (0 : Int32)), none] [] (en r17)
        refine r_aload_n (x := (29, 0, 0)) dX0_tellsBody_56 rfl ?_
        refine r_aload_n (x := (29, 0, 0)) dX0_tellsBody_57 rfl ?_
        refine e_geti fw_X0_19 dX0_tellsBody_58 (kC_mem (s := 29) (by decide) (by decide) (by decide)) rfl (lt_b rfl) ?_
        refine r_iconst (v := 5) dX0_tellsBody_61 rfl ?_
        refine r_icmp_ne (tgt := 74) dX0_tellsBody_62 (by decide) (fun hc => ?_) (fun hc => ?_)
        · have hf := (am_if hf).2 hc
          refine r_iload_n (x := a0) dX0_tellsBody_74 rfl ?_
          obtain ⟨⟨r19, u21⟩, hr20, hf⟩ := am_bind hf
          refine r_callV (as := [vI a0]) (st := []) (n := 1) mw_X0_43 mv_X0_sendsBody (C_X0_sendsBody (l := l) hr20) (by decide) dX0_tellsBody_75 (kC_mem (s := 29) (by decide) (by decide) (by decide)) rfl rfl rfl (le_b rfl) (le_b rfl) (le_b rfl) ?_
          show X l _ _ 0 0 false _ kC 0 0 78 [some (vR (29, 0, 0)), some (vI a0), some (vI (0 : Int32)), none] [vI r19] (en u21)
          refine r_iconst (v := 2) dX0_tellsBody_78 rfl ?_
          refine r_imul dX0_tellsBody_79 ?_
          refine r_istore_n (L' := [some (vR (29, 0, 0)), some (vI a0), some (vI (0 : Int32)), some (vI (r19 * (2 : Int32)))]) dX0_tellsBody_80 (by decide) rfl ?_
          refine r_iload_n (x := (0 : Int32)) dX0_tellsBody_81 rfl ?_
          refine r_if_eq (tgt := 95) dX0_tellsBody_82 (by decide) (fun hc => ?_) (fun hc => absurd hc (by decide))
          refine r_iload_n (x := r19 * (2 : Int32)) dX0_tellsBody_95 rfl ?_
          have hx := am_inj hf
          subst hx
          exact r_iret dX0_tellsBody_96 rfl rfl (le_b rfl) (le_b rfl)
        · have hf := (am_if hf).1 hc
          refine r_iload_n (x := a0) dX0_tellsBody_65 rfl ?_
          refine r_aload_n (x := (29, 0, 0)) dX0_tellsBody_66 rfl ?_
          refine e_geti fw_X0_25 dX0_tellsBody_67 (kC_mem (s := 29) (by decide) (by decide) (by decide)) rfl (lt_b rfl) ?_
          refine r_isub dX0_tellsBody_70 ?_
          refine r_goto (tgt := 75) dX0_tellsBody_71 (by decide) ?_
          obtain ⟨⟨r22, u24⟩, hr23, hf⟩ := am_bind hf
          refine r_callV (as := [vI (a0 - (r17.1 (29, 0, 0) 4))]) (st := []) (n := 1) mw_X0_43 mv_X0_sendsBody (C_X0_sendsBody (l := l) hr23) (by decide) dX0_tellsBody_75 (kC_mem (s := 29) (by decide) (by decide) (by decide)) rfl rfl rfl (le_b rfl) (le_b rfl) (le_b rfl) ?_
          show X l _ _ 0 0 false _ kC 0 0 78 [some (vR (29, 0, 0)), some (vI a0), some (vI (0 : Int32)), none] [vI r22] (en u24)
          refine r_iconst (v := 2) dX0_tellsBody_78 rfl ?_
          refine r_imul dX0_tellsBody_79 ?_
          refine r_istore_n (L' := [some (vR (29, 0, 0)), some (vI a0), some (vI (0 : Int32)), some (vI (r22 * (2 : Int32)))]) dX0_tellsBody_80 (by decide) rfl ?_
          refine r_iload_n (x := (0 : Int32)) dX0_tellsBody_81 rfl ?_
          refine r_if_eq (tgt := 95) dX0_tellsBody_82 (by decide) (fun hc => ?_) (fun hc => absurd hc (by decide))
          refine r_iload_n (x := r22 * (2 : Int32)) dX0_tellsBody_95 rfl ?_
          have hx := am_inj hf
          subst hx
          exact r_iret dX0_tellsBody_96 rfl rfl (le_b rfl) (le_b rfl)
      · have hf := (am_if hf).1 hc
        refine r_aload_n (x := (29, 0, 0)) dX0_tellsBody_44 rfl ?_
        refine r_bipush (v := 60) dX0_tellsBody_45 rfl ?_
        obtain ⟨r25, hr26, hf⟩ := am_bind hf
        refine r_callV (as := [vI (60 : Int32)]) (st := []) (n := 1) mw_X0_32 mv_X0_note (C_X0_note (l := l) hr26) (by decide) dX0_tellsBody_47 (kC_mem (s := 29) (by decide) (by decide) (by decide)) rfl rfl rfl (le_b rfl) (le_b rfl) (le_b rfl) ?_
        show X l _ _ 0 0 false _ kC 0 0 50 [some (vR (29, 0, 0)), some (vI a0), some (vI (0 : Int32)), none] [] (en r25)
        refine r_aload_n (x := (29, 0, 0)) dX0_tellsBody_50 rfl ?_
        refine r_bipush (v := 12) dX0_tellsBody_51 rfl ?_
        obtain ⟨r27, hr28, hf⟩ := am_bind hf
        refine r_callV (as := [vI (12 : Int32)]) (st := []) (n := 1) mw_X0_32 mv_X0_note (C_X0_note (l := l) hr28) (by decide) dX0_tellsBody_53 (kC_mem (s := 29) (by decide) (by decide) (by decide)) rfl rfl rfl (le_b rfl) (le_b rfl) (le_b rfl) ?_
        show X l _ _ 0 0 false _ kC 0 0 56 [some (vR (29, 0, 0)), some (vI a0), some (vI (0 : Int32)), none] [] (en r27)
        refine r_aload_n (x := (29, 0, 0)) dX0_tellsBody_56 rfl ?_
        refine r_aload_n (x := (29, 0, 0)) dX0_tellsBody_57 rfl ?_
        refine e_geti fw_X0_19 dX0_tellsBody_58 (kC_mem (s := 29) (by decide) (by decide) (by decide)) rfl (lt_b rfl) ?_
        refine r_iconst (v := 5) dX0_tellsBody_61 rfl ?_
        refine r_icmp_ne (tgt := 74) dX0_tellsBody_62 (by decide) (fun hc => ?_) (fun hc => ?_)
        · have hf := (am_if hf).2 hc
          refine r_iload_n (x := a0) dX0_tellsBody_74 rfl ?_
          obtain ⟨⟨r29, u31⟩, hr30, hf⟩ := am_bind hf
          refine r_callV (as := [vI a0]) (st := []) (n := 1) mw_X0_43 mv_X0_sendsBody (C_X0_sendsBody (l := l) hr30) (by decide) dX0_tellsBody_75 (kC_mem (s := 29) (by decide) (by decide) (by decide)) rfl rfl rfl (le_b rfl) (le_b rfl) (le_b rfl) ?_
          show X l _ _ 0 0 false _ kC 0 0 78 [some (vR (29, 0, 0)), some (vI a0), some (vI (0 : Int32)), none] [vI r29] (en u31)
          refine r_iconst (v := 2) dX0_tellsBody_78 rfl ?_
          refine r_imul dX0_tellsBody_79 ?_
          refine r_istore_n (L' := [some (vR (29, 0, 0)), some (vI a0), some (vI (0 : Int32)), some (vI (r29 * (2 : Int32)))]) dX0_tellsBody_80 (by decide) rfl ?_
          refine r_iload_n (x := (0 : Int32)) dX0_tellsBody_81 rfl ?_
          refine r_if_eq (tgt := 95) dX0_tellsBody_82 (by decide) (fun hc => ?_) (fun hc => absurd hc (by decide))
          refine r_iload_n (x := r29 * (2 : Int32)) dX0_tellsBody_95 rfl ?_
          have hx := am_inj hf
          subst hx
          exact r_iret dX0_tellsBody_96 rfl rfl (le_b rfl) (le_b rfl)
        · have hf := (am_if hf).1 hc
          refine r_iload_n (x := a0) dX0_tellsBody_65 rfl ?_
          refine r_aload_n (x := (29, 0, 0)) dX0_tellsBody_66 rfl ?_
          refine e_geti fw_X0_25 dX0_tellsBody_67 (kC_mem (s := 29) (by decide) (by decide) (by decide)) rfl (lt_b rfl) ?_
          refine r_isub dX0_tellsBody_70 ?_
          refine r_goto (tgt := 75) dX0_tellsBody_71 (by decide) ?_
          obtain ⟨⟨r32, u34⟩, hr33, hf⟩ := am_bind hf
          refine r_callV (as := [vI (a0 - (r27.1 (29, 0, 0) 4))]) (st := []) (n := 1) mw_X0_43 mv_X0_sendsBody (C_X0_sendsBody (l := l) hr33) (by decide) dX0_tellsBody_75 (kC_mem (s := 29) (by decide) (by decide) (by decide)) rfl rfl rfl (le_b rfl) (le_b rfl) (le_b rfl) ?_
          show X l _ _ 0 0 false _ kC 0 0 78 [some (vR (29, 0, 0)), some (vI a0), some (vI (0 : Int32)), none] [vI r32] (en u34)
          refine r_iconst (v := 2) dX0_tellsBody_78 rfl ?_
          refine r_imul dX0_tellsBody_79 ?_
          refine r_istore_n (L' := [some (vR (29, 0, 0)), some (vI a0), some (vI (0 : Int32)), some (vI (r32 * (2 : Int32)))]) dX0_tellsBody_80 (by decide) rfl ?_
          refine r_iload_n (x := (0 : Int32)) dX0_tellsBody_81 rfl ?_
          refine r_if_eq (tgt := 95) dX0_tellsBody_82 (by decide) (fun hc => ?_) (fun hc => absurd hc (by decide))
          refine r_iload_n (x := r32 * (2 : Int32)) dX0_tellsBody_95 rfl ?_
          have hx := am_inj hf
          subst hx
          exact r_iret dX0_tellsBody_96 rfl rfl (le_b rfl) (le_b rfl)
    · have hf := (am_if hf).1 hc
      refine r_iconst (v := 1) dX0_tellsBody_17 rfl ?_
      refine r_goto (tgt := 22) dX0_tellsBody_18 (by decide) ?_
      refine r_istore_n (L' := [some (vR (29, 0, 0)), some (vI a0), some (vI (1 : Int32)), none]) dX0_tellsBody_22 (by decide) rfl ?_
      refine r_iload_n (x := (1 : Int32)) dX0_tellsBody_23 rfl ?_
      refine r_if_eq (tgt := 36) dX0_tellsBody_24 (by decide) (fun hc => absurd hc (by decide)) (fun hc => ?_)
      refine r_aload_n (x := (29, 0, 0)) dX0_tellsBody_27 rfl ?_
      refine r_bipush (v := 40) dX0_tellsBody_28 rfl ?_
      obtain ⟨r35, hr36, hf⟩ := am_bind hf
      refine r_callV (as := [vI (40 : Int32)]) (st := []) (n := 1) mw_X0_32 mv_X0_note (C_X0_note (l := l) hr36) (by decide) dX0_tellsBody_30 (kC_mem (s := 29) (by decide) (by decide) (by decide)) rfl rfl rfl (le_b rfl) (le_b rfl) (le_b rfl) ?_
      show X l _ _ 0 0 false _ kC 0 0 33 [some (vR (29, 0, 0)), some (vI a0), some (vI (1 : Int32)), none] [] (en r35)
      refine r_goto (tgt := 50) dX0_tellsBody_33 (by decide) ?_
      refine r_aload_n (x := (29, 0, 0)) dX0_tellsBody_50 rfl ?_
      refine r_bipush (v := 12) dX0_tellsBody_51 rfl ?_
      obtain ⟨r37, hr38, hf⟩ := am_bind hf
      refine r_callV (as := [vI (12 : Int32)]) (st := []) (n := 1) mw_X0_32 mv_X0_note (C_X0_note (l := l) hr38) (by decide) dX0_tellsBody_53 (kC_mem (s := 29) (by decide) (by decide) (by decide)) rfl rfl rfl (le_b rfl) (le_b rfl) (le_b rfl) ?_
      show X l _ _ 0 0 false _ kC 0 0 56 [some (vR (29, 0, 0)), some (vI a0), some (vI (1 : Int32)), none] [] (en r37)
      refine r_aload_n (x := (29, 0, 0)) dX0_tellsBody_56 rfl ?_
      refine r_aload_n (x := (29, 0, 0)) dX0_tellsBody_57 rfl ?_
      refine e_geti fw_X0_19 dX0_tellsBody_58 (kC_mem (s := 29) (by decide) (by decide) (by decide)) rfl (lt_b rfl) ?_
      refine r_iconst (v := 5) dX0_tellsBody_61 rfl ?_
      refine r_icmp_ne (tgt := 74) dX0_tellsBody_62 (by decide) (fun hc => ?_) (fun hc => ?_)
      · have hf := (am_if hf).2 hc
        refine r_iload_n (x := a0) dX0_tellsBody_74 rfl ?_
        obtain ⟨⟨r39, u41⟩, hr40, hf⟩ := am_bind hf
        refine r_callV (as := [vI a0]) (st := []) (n := 1) mw_X0_43 mv_X0_sendsBody (C_X0_sendsBody (l := l) hr40) (by decide) dX0_tellsBody_75 (kC_mem (s := 29) (by decide) (by decide) (by decide)) rfl rfl rfl (le_b rfl) (le_b rfl) (le_b rfl) ?_
        show X l _ _ 0 0 false _ kC 0 0 78 [some (vR (29, 0, 0)), some (vI a0), some (vI (1 : Int32)), none] [vI r39] (en u41)
        refine r_iconst (v := 2) dX0_tellsBody_78 rfl ?_
        refine r_imul dX0_tellsBody_79 ?_
        refine r_istore_n (L' := [some (vR (29, 0, 0)), some (vI a0), some (vI (1 : Int32)), some (vI (r39 * (2 : Int32)))]) dX0_tellsBody_80 (by decide) rfl ?_
        refine r_iload_n (x := (1 : Int32)) dX0_tellsBody_81 rfl ?_
        refine r_if_eq (tgt := 95) dX0_tellsBody_82 (by decide) (fun hc => absurd hc (by decide)) (fun hc => ?_)
        refine r_iload_n (x := r39 * (2 : Int32)) dX0_tellsBody_85 rfl ?_
        refine r_aload_n (x := (29, 0, 0)) dX0_tellsBody_86 rfl ?_
        refine r_iconst (v := 1) dX0_tellsBody_87 rfl ?_
        obtain ⟨⟨r42, u44⟩, hr43, hf⟩ := am_bind hf
        refine r_callV (as := [vI (1 : Int32)]) (st := [vI (r39 * (2 : Int32))]) (n := 1) mw_X0_43 mv_X0_sendsBody (C_X0_sendsBody (l := l) hr43) (by decide) dX0_tellsBody_88 (kC_mem (s := 29) (by decide) (by decide) (by decide)) rfl rfl rfl (le_b rfl) (le_b rfl) (le_b rfl) ?_
        show X l _ _ 0 0 false _ kC 0 0 91 [some (vR (29, 0, 0)), some (vI a0), some (vI (1 : Int32)), some (vI (r39 * (2 : Int32)))] [vI r42, vI (r39 * (2 : Int32))] (en u44)
        refine r_iadd dX0_tellsBody_91 ?_
        refine r_goto (tgt := 96) dX0_tellsBody_92 (by decide) ?_
        have hx := am_inj hf
        subst hx
        exact r_iret dX0_tellsBody_96 rfl rfl (le_b rfl) (le_b rfl)
      · have hf := (am_if hf).1 hc
        refine r_iload_n (x := a0) dX0_tellsBody_65 rfl ?_
        refine r_aload_n (x := (29, 0, 0)) dX0_tellsBody_66 rfl ?_
        refine e_geti fw_X0_25 dX0_tellsBody_67 (kC_mem (s := 29) (by decide) (by decide) (by decide)) rfl (lt_b rfl) ?_
        refine r_isub dX0_tellsBody_70 ?_
        refine r_goto (tgt := 75) dX0_tellsBody_71 (by decide) ?_
        obtain ⟨⟨r45, u47⟩, hr46, hf⟩ := am_bind hf
        refine r_callV (as := [vI (a0 - (r37.1 (29, 0, 0) 4))]) (st := []) (n := 1) mw_X0_43 mv_X0_sendsBody (C_X0_sendsBody (l := l) hr46) (by decide) dX0_tellsBody_75 (kC_mem (s := 29) (by decide) (by decide) (by decide)) rfl rfl rfl (le_b rfl) (le_b rfl) (le_b rfl) ?_
        show X l _ _ 0 0 false _ kC 0 0 78 [some (vR (29, 0, 0)), some (vI a0), some (vI (1 : Int32)), none] [vI r45] (en u47)
        refine r_iconst (v := 2) dX0_tellsBody_78 rfl ?_
        refine r_imul dX0_tellsBody_79 ?_
        refine r_istore_n (L' := [some (vR (29, 0, 0)), some (vI a0), some (vI (1 : Int32)), some (vI (r45 * (2 : Int32)))]) dX0_tellsBody_80 (by decide) rfl ?_
        refine r_iload_n (x := (1 : Int32)) dX0_tellsBody_81 rfl ?_
        refine r_if_eq (tgt := 95) dX0_tellsBody_82 (by decide) (fun hc => absurd hc (by decide)) (fun hc => ?_)
        refine r_iload_n (x := r45 * (2 : Int32)) dX0_tellsBody_85 rfl ?_
        refine r_aload_n (x := (29, 0, 0)) dX0_tellsBody_86 rfl ?_
        refine r_iconst (v := 1) dX0_tellsBody_87 rfl ?_
        obtain ⟨⟨r48, u50⟩, hr49, hf⟩ := am_bind hf
        refine r_callV (as := [vI (1 : Int32)]) (st := [vI (r45 * (2 : Int32))]) (n := 1) mw_X0_43 mv_X0_sendsBody (C_X0_sendsBody (l := l) hr49) (by decide) dX0_tellsBody_88 (kC_mem (s := 29) (by decide) (by decide) (by decide)) rfl rfl rfl (le_b rfl) (le_b rfl) (le_b rfl) ?_
        show X l _ _ 0 0 false _ kC 0 0 91 [some (vR (29, 0, 0)), some (vI a0), some (vI (1 : Int32)), some (vI (r45 * (2 : Int32)))] [vI r48, vI (r45 * (2 : Int32))] (en u50)
        refine r_iadd dX0_tellsBody_91 ?_
        refine r_goto (tgt := 96) dX0_tellsBody_92 (by decide) ?_
        have hx := am_inj hf
        subst hx
        exact r_iret dX0_tellsBody_96 rfl rfl (le_b rfl) (le_b rfl)
end
section
/-! words of the tables, by program -/
abbrev mX8_find : MD := (yX8_find, cX8_find, 2, (some (.object "FireFromFire$House")))
theorem fw_X8_9 : FW RX8 9 8 0 0 := ⟨RX8, TX8, 10, rfl, by decide, inWd8, Wd_of (List.mem_of_getElem? (i := 178) (by decide +kernel)) rfl, rfl⟩
theorem fw_X8_17 : FW RX8 17 8 1 2 := ⟨RX8, TX8, 10, rfl, by decide, inWd8, Wd_of (List.mem_of_getElem? (i := 183) (by decide +kernel)) rfl, rfl⟩
abbrev mX8_copy : MD := (yX8_copy, cX8_copy, 3, none)
theorem fp_X8_9 : FP RX8 9 8 0 .int false := ⟨RX8, TX8, 10, tyX8, rfl, by decide, inWd8, Wd_of (List.mem_of_getElem? (i := 178) (by decide +kernel)) rfl, tyX8_ok, nmX8, rfl, rfl, fun h => by cases h⟩
theorem fw_X8_26 : FW RX8 26 8 3 0 := ⟨RX8, TX8, 10, rfl, by decide, inWd8, Wd_of (List.mem_of_getElem? (i := 189) (by decide +kernel)) rfl, rfl⟩
theorem fp_X8_26 : FP RX8 26 8 3 .int false := ⟨RX8, TX8, 10, tyX8, rfl, by decide, inWd8, Wd_of (List.mem_of_getElem? (i := 189) (by decide +kernel)) rfl, tyX8_ok, nmX8, rfl, rfl, fun h => by cases h⟩
theorem fw_X8_29 : FW RX8 29 8 4 0 := ⟨RX8, TX8, 10, rfl, by decide, inWd8, Wd_of (List.mem_of_getElem? (i := 193) (by decide +kernel)) rfl, rfl⟩
theorem fp_X8_29 : FP RX8 29 8 4 .int false := ⟨RX8, TX8, 10, tyX8, rfl, by decide, inWd8, Wd_of (List.mem_of_getElem? (i := 193) (by decide +kernel)) rfl, tyX8_ok, nmX8, rfl, rfl, fun h => by cases h⟩
theorem fw_X8_32 : FW RX8 32 8 5 2 := ⟨RX8, TX8, 10, rfl, by decide, inWd8, Wd_of (List.mem_of_getElem? (i := 196) (by decide +kernel)) rfl, rfl⟩
theorem fp_X8_32 : FP RX8 32 8 5 (tyX8 5) false := ⟨RX8, TX8, 10, tyX8, rfl, by decide, inWd8, Wd_of (List.mem_of_getElem? (i := 196) (by decide +kernel)) rfl, tyX8_ok, nmX8, rfl, rfl, fun h => by cases h⟩
theorem fw_X8_36 : FW RX8 36 8 6 0 := ⟨RX8, TX8, 10, rfl, by decide, inWd8, Wd_of (List.mem_of_getElem? (i := 198) (by decide +kernel)) rfl, rfl⟩
theorem fp_X8_36 : FP RX8 36 8 6 .int false := ⟨RX8, TX8, 10, tyX8, rfl, by decide, inWd8, Wd_of (List.mem_of_getElem? (i := 198) (by decide +kernel)) rfl, tyX8_ok, nmX8, rfl, rfl, fun h => by cases h⟩
theorem mw_X8_50 : MW RX8 50 mX2_copy 1 := ⟨Wd_of (List.mem_of_getElem? (i := 774) (by decide +kernel)) rfl, Wd_of (List.mem_of_getElem? (i := 84) (by decide +kernel)) rfl, Wd_of (List.mem_of_getElem? (i := 777) (by decide +kernel)) rfl, ⟨by decide, by decide, by decide +kernel⟩, by decide⟩
theorem mv_X2_copy : MV mX2_copy := ⟨Wd_of (List.mem_of_getElem? (i := 775) (by decide +kernel)) rfl, Wd_of (List.mem_of_getElem? (i := 776) (by decide +kernel)) rfl⟩
theorem fw_X8_23 : FW RX8 23 8 2 2 := ⟨RX8, TX8, 10, rfl, by decide, inWd8, Wd_of (List.mem_of_getElem? (i := 187) (by decide +kernel)) rfl, rfl⟩
theorem jc_X8_54 : CP RX8 54 := ⟨Wd_of (List.mem_of_getElem? (i := 778) (by decide +kernel)) rfl, Wd_of (List.mem_of_getElem? (i := 780) (by decide +kernel)) rfl, Wd_of (List.mem_of_getElem? (i := 779) (by decide +kernel)) rfl, Wd_of (List.mem_of_getElem? (i := 100) (by decide +kernel)) rfl⟩
theorem fw_X8_39 : FW RX8 39 8 7 2 := ⟨RX8, TX8, 10, rfl, by decide, inWd8, Wd_of (List.mem_of_getElem? (i := 200) (by decide +kernel)) rfl, rfl⟩
theorem fw_X8_43 : FW RX8 43 8 8 2 := ⟨RX8, TX8, 10, rfl, by decide, inWd8, Wd_of (List.mem_of_getElem? (i := 203) (by decide +kernel)) rfl, rfl⟩
abbrev mX8_hoursBetween : MD := (yX8_hoursBetween, cX8_hoursBetween, 3, (some .int))
abbrev mX8_join : MD := (yX8_join, cX8_join, 4, none)
abbrev mX8_litBits : MD := (yX8_litBits, cX8_litBits, 3, (some .int))
theorem fw_X8_60 : FW RX8 60 2 1 0 := ⟨RX2, TX2, 9, rfl, by decide, inWd2, Wd_of (List.mem_of_getElem? (i := 133) (by decide +kernel)) rfl, rfl⟩
abbrev mX8_litCount : MD := (yX8_litCount, cX8_litCount, 1, (some .int))
theorem mw_X8_64 : MW RX8 64 mX8_litBits 0 := ⟨Wd_of (List.mem_of_getElem? (i := 669) (by decide +kernel)) rfl, Wd_of (List.mem_of_getElem? (i := 83) (by decide +kernel)) rfl, Wd_of (List.mem_of_getElem? (i := 672) (by decide +kernel)) rfl, ⟨by decide, by decide, by decide +kernel⟩, by decide⟩
theorem mv_X8_litBits : MV mX8_litBits := ⟨Wd_of (List.mem_of_getElem? (i := 670) (by decide +kernel)) rfl, Wd_of (List.mem_of_getElem? (i := 671) (by decide +kernel)) rfl⟩
theorem mw_X8_68 : MW RX8 68 mJ6_bitCount_0f7a4 1 := ⟨Wd_of (List.mem_of_getElem? (i := 673) (by decide +kernel)) rfl, Wd_of (List.mem_of_getElem? (i := 99) (by decide +kernel)) rfl, Wd_of (List.mem_of_getElem? (i := 675) (by decide +kernel)) rfl, ⟨by decide, by decide, by decide +kernel⟩, by decide⟩
theorem ms_J6_bitCount_0f7a4 : Cond.static mJ6_bitCount_0f7a4.1 ∈ Wd := Wd_of (List.mem_of_getElem? (i := 674) (by decide +kernel)) rfl
abbrev mX8_payAll : MD := (yX8_payAll, cX8_payAll, 3, none)
theorem fp_X8_74 : FP RX8 74 2 2 .int false := ⟨RX2, TX2, 9, tyX2, rfl, by decide, inWd2, Wd_of (List.mem_of_getElem? (i := 137) (by decide +kernel)) rfl, tyX2_ok, nmX2, rfl, rfl, fun h => by cases h⟩
theorem fp_X8_77 : FP RX8 77 2 3 .int false := ⟨RX2, TX2, 9, tyX2, rfl, by decide, inWd2, Wd_of (List.mem_of_getElem? (i := 141) (by decide +kernel)) rfl, tyX2_ok, nmX2, rfl, rfl, fun h => by cases h⟩
abbrev mX8_sum : MD := (yX8_sum, cX8_sum, 7, (some .int))
theorem mw_X8_80 : MW RX8 80 mX8_find 1 := ⟨Wd_of (List.mem_of_getElem? (i := 668) (by decide +kernel)) rfl, Wd_of (List.mem_of_getElem? (i := 83) (by decide +kernel)) rfl, Wd_of (List.mem_of_getElem? (i := 456) (by decide +kernel)) rfl, ⟨by decide, by decide, by decide +kernel⟩, by decide⟩
theorem mv_X8_find : MV mX8_find := ⟨Wd_of (List.mem_of_getElem? (i := 454) (by decide +kernel)) rfl, Wd_of (List.mem_of_getElem? (i := 455) (by decide +kernel)) rfl⟩
theorem fw_X8_46 : FW RX8 46 8 9 2 := ⟨RX8, TX8, 10, rfl, by decide, inWd8, Wd_of (List.mem_of_getElem? (i := 206) (by decide +kernel)) rfl, rfl⟩
theorem fw_X8_74 : FW RX8 74 2 2 0 := ⟨RX2, TX2, 9, rfl, by decide, inWd2, Wd_of (List.mem_of_getElem? (i := 137) (by decide +kernel)) rfl, rfl⟩
theorem fw_X8_84 : FW RX8 84 2 0 0 := ⟨RX2, TX2, 9, rfl, by decide, inWd2, Wd_of (List.mem_of_getElem? (i := 127) (by decide +kernel)) rfl, rfl⟩
theorem fw_X8_87 : FW RX8 87 3 0 0 := ⟨RX3, TX3, 9, rfl, by decide, inWd3, Wd_of (List.mem_of_getElem? (i := 350) (by decide +kernel)) rfl, rfl⟩
theorem fw_X8_92 : FW RX8 92 3 2 2 := ⟨RX3, TX3, 9, rfl, by decide, inWd3, Wd_of (List.mem_of_getElem? (i := 354) (by decide +kernel)) rfl, rfl⟩
theorem mw_X8_95 : MW RX8 95 mX3_holds 2 := ⟨Wd_of (List.mem_of_getElem? (i := 679) (by decide +kernel)) rfl, Wd_of (List.mem_of_getElem? (i := 90) (by decide +kernel)) rfl, Wd_of (List.mem_of_getElem? (i := 682) (by decide +kernel)) rfl, ⟨by decide, by decide, by decide +kernel⟩, by decide⟩
theorem mv_X3_holds : MV mX3_holds := ⟨Wd_of (List.mem_of_getElem? (i := 680) (by decide +kernel)) rfl, Wd_of (List.mem_of_getElem? (i := 681) (by decide +kernel)) rfl⟩
theorem fw_X8_99 : FW RX8 99 3 3 2 := ⟨RX3, TX3, 9, rfl, by decide, inWd3, Wd_of (List.mem_of_getElem? (i := 356) (by decide +kernel)) rfl, rfl⟩
theorem js_min : Cond.static Lib.Math.min.name ∈ Wd ∧ Cond.initialized "java/lang/Math" ∈ Wd ∧ Cond.code Lib.Math.min.name Lib.Math.min.code 2 (some .int) ∈ Wd := ⟨Wd_of (List.mem_of_getElem? (i := 612) (by decide +kernel)) rfl, Wd_of (List.mem_of_getElem? (i := 97) (by decide +kernel)) rfl, Wd_of (List.mem_of_getElem? (i := 613) (by decide +kernel)) rfl⟩
theorem jm_X8_102 : Cond.methodLink RX8 102 Lib.Math.min.name ∈ Wd := Wd_of (List.mem_of_getElem? (i := 687) (by decide +kernel)) rfl
abbrev mX8_tenthsOf : MD := (yX8_tenthsOf, cX8_tenthsOf, 6, (some .int))
theorem mw_X8_108 : MW RX8 108 mX3_lastNext 2 := ⟨Wd_of (List.mem_of_getElem? (i := 696) (by decide +kernel)) rfl, Wd_of (List.mem_of_getElem? (i := 90) (by decide +kernel)) rfl, Wd_of (List.mem_of_getElem? (i := 699) (by decide +kernel)) rfl, ⟨by decide, by decide, by decide +kernel⟩, by decide⟩
theorem mv_X3_lastNext : MV mX3_lastNext := ⟨Wd_of (List.mem_of_getElem? (i := 697) (by decide +kernel)) rfl, Wd_of (List.mem_of_getElem? (i := 698) (by decide +kernel)) rfl⟩
abbrev mX8_nearestFire : MD := (yX8_nearestFire, cX8_nearestFire, 6, (some .int))
theorem mw_X8_111 : MW RX8 111 mX8_hoursBetween 2 := ⟨Wd_of (List.mem_of_getElem? (i := 725) (by decide +kernel)) rfl, Wd_of (List.mem_of_getElem? (i := 83) (by decide +kernel)) rfl, Wd_of (List.mem_of_getElem? (i := 472) (by decide +kernel)) rfl, ⟨by decide, by decide, by decide +kernel⟩, by decide⟩
theorem mv_X8_hoursBetween : MV mX8_hoursBetween := ⟨Wd_of (List.mem_of_getElem? (i := 470) (by decide +kernel)) rfl, Wd_of (List.mem_of_getElem? (i := 471) (by decide +kernel)) rfl⟩
abbrev mX8_isKeeping : MD := (yX8_isKeeping, cX8_isKeeping, 4, (some .boolean))
theorem mw_X8_127 : MW RX8 127 mX8_sum 3 := ⟨Wd_of (List.mem_of_getElem? (i := 720) (by decide +kernel)) rfl, Wd_of (List.mem_of_getElem? (i := 83) (by decide +kernel)) rfl, Wd_of (List.mem_of_getElem? (i := 667) (by decide +kernel)) rfl, ⟨by decide, by decide, by decide +kernel⟩, by decide⟩
theorem mv_X8_sum : MV mX8_sum := ⟨Wd_of (List.mem_of_getElem? (i := 665) (by decide +kernel)) rfl, Wd_of (List.mem_of_getElem? (i := 666) (by decide +kernel)) rfl⟩
theorem fw_X8_77 : FW RX8 77 2 3 0 := ⟨RX2, TX2, 9, rfl, by decide, inWd2, Wd_of (List.mem_of_getElem? (i := 141) (by decide +kernel)) rfl, rfl⟩
theorem fw_X8_131 : FW RX8 131 2 4 0 := ⟨RX2, TX2, 9, rfl, by decide, inWd2, Wd_of (List.mem_of_getElem? (i := 144) (by decide +kernel)) rfl, rfl⟩
abbrev mX8_isSending : MD := (yX8_isSending, cX8_isSending, 4, (some .boolean))
abbrev mX8_choice : MD := (yX8_choice, cX8_choice, 4, (some .int))
theorem fw_X8_118 : FW RX8 118 2 5 0 := ⟨RX2, TX2, 9, rfl, by decide, inWd2, Wd_of (List.mem_of_getElem? (i := 148) (by decide +kernel)) rfl, rfl⟩
theorem mw_X8_121 : MW RX8 121 mX8_nearestFire 1 := ⟨Wd_of (List.mem_of_getElem? (i := 721) (by decide +kernel)) rfl, Wd_of (List.mem_of_getElem? (i := 83) (by decide +kernel)) rfl, Wd_of (List.mem_of_getElem? (i := 724) (by decide +kernel)) rfl, ⟨by decide, by decide, by decide +kernel⟩, by decide⟩
theorem mv_X8_nearestFire : MV mX8_nearestFire := ⟨Wd_of (List.mem_of_getElem? (i := 722) (by decide +kernel)) rfl, Wd_of (List.mem_of_getElem? (i := 723) (by decide +kernel)) rfl⟩
theorem mw_X8_124 : MW RX8 124 mX8_isSending 3 := ⟨Wd_of (List.mem_of_getElem? (i := 726) (by decide +kernel)) rfl, Wd_of (List.mem_of_getElem? (i := 83) (by decide +kernel)) rfl, Wd_of (List.mem_of_getElem? (i := 729) (by decide +kernel)) rfl, ⟨by decide, by decide, by decide +kernel⟩, by decide⟩
theorem mv_X8_isSending : MV mX8_isSending := ⟨Wd_of (List.mem_of_getElem? (i := 728) (by decide +kernel)) rfl, Wd_of (List.mem_of_getElem? (i := 11) (by decide +kernel)) rfl⟩
theorem mw_X8_114 : MW RX8 114 mX8_isKeeping 3 := ⟨Wd_of (List.mem_of_getElem? (i := 716) (by decide +kernel)) rfl, Wd_of (List.mem_of_getElem? (i := 83) (by decide +kernel)) rfl, Wd_of (List.mem_of_getElem? (i := 719) (by decide +kernel)) rfl, ⟨by decide, by decide, by decide +kernel⟩, by decide⟩
theorem mv_X8_isKeeping : MV mX8_isKeeping := ⟨Wd_of (List.mem_of_getElem? (i := 718) (by decide +kernel)) rfl, Wd_of (List.mem_of_getElem? (i := 10) (by decide +kernel)) rfl⟩
end
section
/-! FireFromFire$Village.find -/
theorem dX8_find_0 : decode cX8_find 0 = .ok (.iload_n 1, 1) := by decide +kernel
theorem dX8_find_1 : decode cX8_find 1 = .ok (.ifCond .lt 26, 3) := by decide +kernel
theorem dX8_find_4 : decode cX8_find 4 = .ok (.iload_n 1, 1) := by decide +kernel
theorem dX8_find_5 : decode cX8_find 5 = .ok (.aload_n 0, 1) := by decide +kernel
theorem dX8_find_6 : decode cX8_find 6 = .ok (.getfield 9, 3) := by decide +kernel
theorem dX8_find_9 : decode cX8_find 9 = .ok (.if_icmp .ge 18, 3) := by decide +kernel
theorem dX8_find_12 : decode cX8_find 12 = .ok (.iload_n 1, 1) := by decide +kernel
theorem dX8_find_13 : decode cX8_find 13 = .ok (.bipush 6, 2) := by decide +kernel
theorem dX8_find_15 : decode cX8_find 15 = .ok (.if_icmp .ge 12, 3) := by decide +kernel
theorem dX8_find_18 : decode cX8_find 18 = .ok (.aload_n 0, 1) := by decide +kernel
theorem dX8_find_19 : decode cX8_find 19 = .ok (.getfield 17, 3) := by decide +kernel
theorem dX8_find_22 : decode cX8_find 22 = .ok (.iload_n 1, 1) := by decide +kernel
theorem dX8_find_23 : decode cX8_find 23 = .ok (.aaload, 1) := by decide +kernel
theorem dX8_find_24 : decode cX8_find 24 = .ok (.goto 4, 3) := by decide +kernel
theorem dX8_find_27 : decode cX8_find 27 = .ok (.aconst_null, 1) := by decide +kernel
theorem dX8_find_28 : decode cX8_find 28 = .ok (.areturn, 1) := by decide +kernel
def f_X8_find (v : Nat) (a0 : Int32) (u : PM) : Option (Option Nat) :=
  if a0 < 0 then
    some none
  else
  if (u.1 (1, v, 0) 0) ≤ a0 then
    some none
  else
  if (6 : Int32) ≤ a0 then
    some none
  else
  if a0 < 0 ∨ 6 ≤ a0.toNatClampNeg then none else
  some (some a0.toNatClampNeg)
set_option maxHeartbeats 4000000 in
set_option maxRecDepth 20000 in
theorem C_X8_find {l : Launch} {v : Nat} (hv : v < 4) {a0 : Int32} {u : PM} {x : Option Nat} (hf : f_X8_find v a0 u = some x) : Ev l mX8_find 1 0 0 false [vR (1, v, 0), vI a0] kC (en u) (some (vO (x.map fun z => (3, v, z))), kC, en u) := by
  refine Ev_of (by decide +kernel) (le_b rfl) ?_
  unfold f_X8_find at hf
  show X l mX8_find 1 0 0 false _ kC 0 0 0 [some (vR (1, v, 0)), some (vI a0)] [] (en u)
  refine r_iload_n (x := a0) dX8_find_0 rfl ?_
  refine r_if_lt (tgt := 27) dX8_find_1 (by decide) (fun hc => ?_) (fun hc => ?_)
  · have hf := (am_if hf).1 hc
    refine r_anull dX8_find_27 ?_
    have hx := am_inj hf
    subst hx
    exact r_aret dX8_find_28 rfl (le_b rfl) (le_b rfl)
  · have hf := (am_if hf).2 hc
    refine r_iload_n (x := a0) dX8_find_4 rfl ?_
    refine r_aload_n (x := (1, v, 0)) dX8_find_5 rfl ?_
    refine e_geti fw_X8_9 dX8_find_6 (kC_mem (s := 1) (by decide) hv (by decide)) rfl (lt_b rfl) ?_
    refine r_icmp_ge (tgt := 27) dX8_find_9 (by decide) (fun hc => ?_) (fun hc => ?_)
    · have hf := (am_if hf).1 hc
      refine r_anull dX8_find_27 ?_
      have hx := am_inj hf
      subst hx
      exact r_aret dX8_find_28 rfl (le_b rfl) (le_b rfl)
    · have hf := (am_if hf).2 hc
      refine r_iload_n (x := a0) dX8_find_12 rfl ?_
      refine r_bipush (v := 6) dX8_find_13 rfl ?_
      refine r_icmp_ge (tgt := 27) dX8_find_15 (by decide) (fun hc => ?_) (fun hc => ?_)
      · have hf := (am_if hf).1 hc
        refine r_anull dX8_find_27 ?_
        have hx := am_inj hf
        subst hx
        exact r_aret dX8_find_28 rfl (le_b rfl) (le_b rfl)
      · have hf := (am_if hf).2 hc
        refine r_aload_n (x := (1, v, 0)) dX8_find_18 rfl ?_
        refine e_getr (z := some (2, v, 0)) fw_X8_17 dX8_find_19 (kC_mem (s := 1) (by decide) hv (by decide)) rfl (lt_b rfl) rfl ?_
        refine r_iload_n (x := a0) dX8_find_22 rfl ?_
        obtain ⟨h1, hf⟩ := am_nchk hf
        refine e_aald (n := a0.toNatClampNeg) (z := some (3, v, a0.toNatClampNeg)) dX8_find_23 (kC_mem (s := 2) (by decide) hv (by decide)) ⟨le_b rfl, lt_b rfl⟩ h1 rfl rfl ?_
        refine r_goto (tgt := 28) dX8_find_24 (by decide) ?_
        have hx := am_inj hf
        subst hx
        exact r_aret dX8_find_28 rfl (le_b rfl) (le_b rfl)
/-! FireFromFire$Village.copy -/
theorem dX8_copy_0 : decode cX8_copy 0 = .ok (.aload_n 0, 1) := by decide +kernel
theorem dX8_copy_1 : decode cX8_copy 1 = .ok (.aload_n 1, 1) := by decide +kernel
theorem dX8_copy_2 : decode cX8_copy 2 = .ok (.getfield 9, 3) := by decide +kernel
theorem dX8_copy_5 : decode cX8_copy 5 = .ok (.putfield 9, 3) := by decide +kernel
theorem dX8_copy_8 : decode cX8_copy 8 = .ok (.aload_n 0, 1) := by decide +kernel
theorem dX8_copy_9 : decode cX8_copy 9 = .ok (.aload_n 1, 1) := by decide +kernel
theorem dX8_copy_10 : decode cX8_copy 10 = .ok (.getfield 26, 3) := by decide +kernel
theorem dX8_copy_13 : decode cX8_copy 13 = .ok (.putfield 26, 3) := by decide +kernel
theorem dX8_copy_16 : decode cX8_copy 16 = .ok (.aload_n 0, 1) := by decide +kernel
theorem dX8_copy_17 : decode cX8_copy 17 = .ok (.aload_n 1, 1) := by decide +kernel
theorem dX8_copy_18 : decode cX8_copy 18 = .ok (.getfield 29, 3) := by decide +kernel
theorem dX8_copy_21 : decode cX8_copy 21 = .ok (.putfield 29, 3) := by decide +kernel
theorem dX8_copy_24 : decode cX8_copy 24 = .ok (.aload_n 0, 1) := by decide +kernel
theorem dX8_copy_25 : decode cX8_copy 25 = .ok (.aload_n 1, 1) := by decide +kernel
theorem dX8_copy_26 : decode cX8_copy 26 = .ok (.getfield 32, 3) := by decide +kernel
theorem dX8_copy_29 : decode cX8_copy 29 = .ok (.putfield 32, 3) := by decide +kernel
theorem dX8_copy_32 : decode cX8_copy 32 = .ok (.aload_n 0, 1) := by decide +kernel
theorem dX8_copy_33 : decode cX8_copy 33 = .ok (.aload_n 1, 1) := by decide +kernel
theorem dX8_copy_34 : decode cX8_copy 34 = .ok (.getfield 36, 3) := by decide +kernel
theorem dX8_copy_37 : decode cX8_copy 37 = .ok (.putfield 36, 3) := by decide +kernel
theorem dX8_copy_40 : decode cX8_copy 40 = .ok (.iconst 0, 1) := by decide +kernel
theorem dX8_copy_41 : decode cX8_copy 41 = .ok (.istore_n 2, 1) := by decide +kernel
theorem dX8_copy_42 : decode cX8_copy 42 = .ok (.iload_n 2, 1) := by decide +kernel
theorem dX8_copy_43 : decode cX8_copy 43 = .ok (.bipush 6, 2) := by decide +kernel
theorem dX8_copy_45 : decode cX8_copy 45 = .ok (.if_icmp .ge 43, 3) := by decide +kernel
theorem dX8_copy_48 : decode cX8_copy 48 = .ok (.aload_n 0, 1) := by decide +kernel
theorem dX8_copy_49 : decode cX8_copy 49 = .ok (.getfield 17, 3) := by decide +kernel
theorem dX8_copy_52 : decode cX8_copy 52 = .ok (.iload_n 2, 1) := by decide +kernel
theorem dX8_copy_53 : decode cX8_copy 53 = .ok (.aaload, 1) := by decide +kernel
theorem dX8_copy_54 : decode cX8_copy 54 = .ok (.aload_n 1, 1) := by decide +kernel
theorem dX8_copy_55 : decode cX8_copy 55 = .ok (.getfield 17, 3) := by decide +kernel
theorem dX8_copy_58 : decode cX8_copy 58 = .ok (.iload_n 2, 1) := by decide +kernel
theorem dX8_copy_59 : decode cX8_copy 59 = .ok (.aaload, 1) := by decide +kernel
theorem dX8_copy_60 : decode cX8_copy 60 = .ok (.invokevirtual 50, 3) := by decide +kernel
theorem dX8_copy_63 : decode cX8_copy 63 = .ok (.aload_n 1, 1) := by decide +kernel
theorem dX8_copy_64 : decode cX8_copy 64 = .ok (.getfield 23, 3) := by decide +kernel
theorem dX8_copy_67 : decode cX8_copy 67 = .ok (.iload_n 2, 1) := by decide +kernel
theorem dX8_copy_68 : decode cX8_copy 68 = .ok (.aaload, 1) := by decide +kernel
theorem dX8_copy_69 : decode cX8_copy 69 = .ok (.iconst 0, 1) := by decide +kernel
theorem dX8_copy_70 : decode cX8_copy 70 = .ok (.aload_n 0, 1) := by decide +kernel
theorem dX8_copy_71 : decode cX8_copy 71 = .ok (.getfield 23, 3) := by decide +kernel
theorem dX8_copy_74 : decode cX8_copy 74 = .ok (.iload_n 2, 1) := by decide +kernel
theorem dX8_copy_75 : decode cX8_copy 75 = .ok (.aaload, 1) := by decide +kernel
theorem dX8_copy_76 : decode cX8_copy 76 = .ok (.iconst 0, 1) := by decide +kernel
theorem dX8_copy_77 : decode cX8_copy 77 = .ok (.bipush 6, 2) := by decide +kernel
theorem dX8_copy_79 : decode cX8_copy 79 = .ok (.invokestatic 54, 3) := by decide +kernel
theorem dX8_copy_82 : decode cX8_copy 82 = .ok (.iinc 2 1, 3) := by decide +kernel
theorem dX8_copy_85 : decode cX8_copy 85 = .ok (.goto (-43), 3) := by decide +kernel
theorem dX8_copy_88 : decode cX8_copy 88 = .ok (.aload_n 1, 1) := by decide +kernel
theorem dX8_copy_89 : decode cX8_copy 89 = .ok (.getfield 39, 3) := by decide +kernel
theorem dX8_copy_92 : decode cX8_copy 92 = .ok (.iconst 0, 1) := by decide +kernel
theorem dX8_copy_93 : decode cX8_copy 93 = .ok (.aload_n 0, 1) := by decide +kernel
theorem dX8_copy_94 : decode cX8_copy 94 = .ok (.getfield 39, 3) := by decide +kernel
theorem dX8_copy_97 : decode cX8_copy 97 = .ok (.iconst 0, 1) := by decide +kernel
theorem dX8_copy_98 : decode cX8_copy 98 = .ok (.bipush 12, 2) := by decide +kernel
theorem dX8_copy_100 : decode cX8_copy 100 = .ok (.invokestatic 54, 3) := by decide +kernel
theorem dX8_copy_103 : decode cX8_copy 103 = .ok (.aload_n 1, 1) := by decide +kernel
theorem dX8_copy_104 : decode cX8_copy 104 = .ok (.getfield 43, 3) := by decide +kernel
theorem dX8_copy_107 : decode cX8_copy 107 = .ok (.iconst 0, 1) := by decide +kernel
theorem dX8_copy_108 : decode cX8_copy 108 = .ok (.aload_n 0, 1) := by decide +kernel
theorem dX8_copy_109 : decode cX8_copy 109 = .ok (.getfield 43, 3) := by decide +kernel
theorem dX8_copy_112 : decode cX8_copy 112 = .ok (.iconst 0, 1) := by decide +kernel
theorem dX8_copy_113 : decode cX8_copy 113 = .ok (.bipush 12, 2) := by decide +kernel
theorem dX8_copy_115 : decode cX8_copy 115 = .ok (.invokestatic 54, 3) := by decide +kernel
theorem dX8_copy_118 : decode cX8_copy 118 = .ok (.return_, 1) := by decide +kernel
def f_X8_copy_L42 (n0 : Nat) (n1 : Nat)  : Int32 × PM → Option ((Int32 × PM) ⊕ (PM)) := fun (x2 , u) =>
  if (6 : Int32) ≤ x2 then
    some (.inr (u))
  else
  if x2 < 0 ∨ 6 ≤ x2.toNatClampNeg then none else
  (f_X2_copy n0 x2.toNatClampNeg n1 x2.toNatClampNeg u).bind fun r5 =>
  some (.inl (x2 + (1 : Int32), (pci r5 (5, n0, x2.toNatClampNeg) (va_cpy (r5.1 (5, n1, x2.toNatClampNeg)) (r5.1 (5, n0, x2.toNatClampNeg)) 0 0 6))))
set_option maxHeartbeats 4000000 in
set_option maxRecDepth 20000 in
theorem K_X8_copy_L42 {l : Launch} {T : Option AV × List Key × AM} {n0 : Nat} (hn0 : n0 < 4) {n1 : Nat} (hn1 : n1 < 4)  : ∀ (n : Nat) (s : Int32 × PM) (e0 : PM), am_loop (f_X8_copy_L42 n0 n1) n s = some e0 → (fun e : PM => X l mX8_copy 3 0 0 false T kC 0 0 88 [some (vR (1, n0, 0)), some (vR (1, n1, 0)), none] [] (en e)) e0 → X l mX8_copy 3 0 0 false T kC 0 0 42 [some (vR (1, n0, 0)), some (vR (1, n1, 0)), some (vI s.1)] [] (en s.2) := by
  refine am_loop_of ?_
  intro s x hf k1 k2
  obtain ⟨x2 , u⟩ := s
  unfold f_X8_copy_L42 at hf
  show X l mX8_copy 3 0 0 false T kC 0 0 42 [some (vR (1, n0, 0)), some (vR (1, n1, 0)), some (vI x2)] [] (en u)
  refine r_iload_n (x := x2) dX8_copy_42 rfl ?_
  refine r_bipush (v := 6) dX8_copy_43 rfl ?_
  refine r_icmp_ge (tgt := 88) dX8_copy_45 (by decide) (fun hc => ?_) (fun hc => ?_)
  · have hf := (am_if hf).1 hc
    refine r_weak (L' := [some (vR (1, n0, 0)), some (vR (1, n1, 0)), none]) (And.intro rfl (And.intro rfl trivial)) ?_
    exact k2 _ (am_inj hf).symm
  · have hf := (am_if hf).2 hc
    refine r_aload_n (x := (1, n0, 0)) dX8_copy_48 rfl ?_
    refine e_getr (z := some (2, n0, 0)) fw_X8_17 dX8_copy_49 (kC_mem (s := 1) (by decide) hn0 (by decide)) rfl (lt_b rfl) rfl ?_
    refine r_iload_n (x := x2) dX8_copy_52 rfl ?_
    obtain ⟨h4, hf⟩ := am_nchk hf
    refine e_aald (n := x2.toNatClampNeg) (z := some (3, n0, x2.toNatClampNeg)) dX8_copy_53 (kC_mem (s := 2) (by decide) hn0 (by decide)) ⟨le_b rfl, lt_b rfl⟩ h4 rfl rfl ?_
    refine r_aload_n (x := (1, n1, 0)) dX8_copy_54 rfl ?_
    refine e_getr (z := some (2, n1, 0)) fw_X8_17 dX8_copy_55 (kC_mem (s := 1) (by decide) hn1 (by decide)) rfl (lt_b rfl) rfl ?_
    refine r_iload_n (x := x2) dX8_copy_58 rfl ?_
    refine e_aald (n := x2.toNatClampNeg) (z := some (3, n1, x2.toNatClampNeg)) dX8_copy_59 (kC_mem (s := 2) (by decide) hn1 (by decide)) ⟨le_b rfl, lt_b rfl⟩ h4 rfl rfl ?_
    obtain ⟨r5, hr6, hf⟩ := am_bind hf
    refine r_callV (as := [vR (3, n1, x2.toNatClampNeg)]) (st := []) (n := 1) mw_X8_50 mv_X2_copy (C_X2_copy (l := l) hn0 (vp_lt h4) hn1 (vp_lt h4) hr6) (by decide) dX8_copy_60 (kC_mem (s := 3) (by decide) hn0 (vp_lt h4)) rfl rfl rfl (le_b rfl) (le_b rfl) (le_b rfl) ?_
    show X l _ _ 0 0 false _ kC 0 0 63 [some (vR (1, n0, 0)), some (vR (1, n1, 0)), some (vI x2)] [] (en r5)
    refine r_aload_n (x := (1, n1, 0)) dX8_copy_63 rfl ?_
    refine e_getr (z := some (4, n1, 0)) fw_X8_23 dX8_copy_64 (kC_mem (s := 1) (by decide) hn1 (by decide)) rfl (lt_b rfl) rfl ?_
    refine r_iload_n (x := x2) dX8_copy_67 rfl ?_
    refine e_aald (n := x2.toNatClampNeg) (z := some (5, n1, x2.toNatClampNeg)) dX8_copy_68 (kC_mem (s := 4) (by decide) hn1 (by decide)) ⟨le_b rfl, lt_b rfl⟩ h4 rfl rfl ?_
    refine r_iconst (v := 0) dX8_copy_69 rfl ?_
    refine r_aload_n (x := (1, n0, 0)) dX8_copy_70 rfl ?_
    refine e_getr (z := some (4, n0, 0)) fw_X8_23 dX8_copy_71 (kC_mem (s := 1) (by decide) hn0 (by decide)) rfl (lt_b rfl) rfl ?_
    refine r_iload_n (x := x2) dX8_copy_74 rfl ?_
    refine e_aald (n := x2.toNatClampNeg) (z := some (5, n0, x2.toNatClampNeg)) dX8_copy_75 (kC_mem (s := 4) (by decide) hn0 (by decide)) ⟨le_b rfl, lt_b rfl⟩ h4 rfl rfl ?_
    refine r_iconst (v := 0) dX8_copy_76 rfl ?_
    refine r_bipush (v := 6) dX8_copy_77 rfl ?_
    refine e_copyi (a := 0) (b := 0) (c := 6) jc_X8_54 dX8_copy_79 (kC_mem (s := 5) (by decide) hn1 (vp_lt h4)) (kC_mem (s := 5) (by decide) hn0 (vp_lt h4)) rfl rfl (by decide) (by decide) (by decide) rfl rfl rfl (le_b rfl) (le_b rfl) (le_b rfl) (le_b rfl) ?_
    refine r_iinc (x := x2) (v := x2 + (1 : Int32)) (L' := [some (vR (1, n0, 0)), some (vR (1, n1, 0)), some (vI (x2 + (1 : Int32)))]) dX8_copy_82 rfl rfl (lt_b rfl) rfl ?_
    refine r_goto (tgt := 42) dX8_copy_85 (by decide) ?_
    refine r_weak (L' := [some (vR (1, n0, 0)), some (vR (1, n1, 0)), some (vI (x2 + (1 : Int32)))]) (And.intro rfl (And.intro rfl (And.intro rfl trivial))) ?_
    exact k1 _ (am_inj hf).symm
def f_X8_copy (v : Nat) (w : Nat)  (u : PM) : Option (PM) :=
  match u.2.2 (w + 1) with
  | none =>
    (am_loop (f_X8_copy_L42 v w) 2000 ((0 : Int32), (pi (pr (pi (pi (pi u (1, v, 0) 0 (u.1 (1, w, 0) 0)) (1, v, 0) 3 (u.1 (1, w, 0) 3)) (1, v, 0) 4 (u.1 (1, w, 0) 4)) (v + 1) none) (1, v, 0) 6 (u.1 (1, w, 0) 6)))).bind fun u9 =>
    some (pci (pci u9 (6, v, 0) (va_cpy (u9.1 (6, w, 0)) (u9.1 (6, v, 0)) 0 0 12)) (7, v, 0) (va_cpy ((pci u9 (6, v, 0) (va_cpy (u9.1 (6, w, 0)) (u9.1 (6, v, 0)) 0 0 12)).1 (7, w, 0)) ((pci u9 (6, v, 0) (va_cpy (u9.1 (6, w, 0)) (u9.1 (6, v, 0)) 0 0 12)).1 (7, v, 0)) 0 0 12))
  | some p1 =>
    if p1 < 5 then
      (am_loop (f_X8_copy_L42 v w) 2000 ((0 : Int32), (pi (pr (pi (pi (pi u (1, v, 0) 0 (u.1 (1, w, 0) 0)) (1, v, 0) 3 (u.1 (1, w, 0) 3)) (1, v, 0) 4 (u.1 (1, w, 0) 4)) (v + 1) (some p1)) (1, v, 0) 6 (u.1 (1, w, 0) 6)))).bind fun u12 =>
      some (pci (pci u12 (6, v, 0) (va_cpy (u12.1 (6, w, 0)) (u12.1 (6, v, 0)) 0 0 12)) (7, v, 0) (va_cpy ((pci u12 (6, v, 0) (va_cpy (u12.1 (6, w, 0)) (u12.1 (6, v, 0)) 0 0 12)).1 (7, w, 0)) ((pci u12 (6, v, 0) (va_cpy (u12.1 (6, w, 0)) (u12.1 (6, v, 0)) 0 0 12)).1 (7, v, 0)) 0 0 12))
    else none
set_option maxHeartbeats 4000000 in
set_option maxRecDepth 20000 in
theorem C_X8_copy {l : Launch} {v : Nat} (hv : v < 4) {w : Nat} (hw : w < 4)  {u : PM} {x : PM} (hf : f_X8_copy v w u = some x) : Ev l mX8_copy 3 0 0 false [vR (1, v, 0), vR (1, w, 0)] kC (en u) (none, kC, en x) := by
  refine Ev_of (by decide +kernel) (le_b rfl) ?_
  unfold f_X8_copy at hf
  show X l mX8_copy 3 0 0 false _ kC 0 0 0 [some (vR (1, v, 0)), some (vR (1, w, 0)), none] [] (en u)
  refine r_aload_n (x := (1, v, 0)) dX8_copy_0 rfl ?_
  refine r_aload_n (x := (1, w, 0)) dX8_copy_1 rfl ?_
  refine e_geti fw_X8_9 dX8_copy_2 (kC_mem (s := 1) (by decide) hw (by decide)) rfl (lt_b rfl) ?_
  refine e_puti fp_X8_9 dX8_copy_5 (kC_mem (s := 1) (by decide) hv (by decide)) rfl (lt_b rfl) rfl rfl rfl ?_
  refine r_aload_n (x := (1, v, 0)) dX8_copy_8 rfl ?_
  refine r_aload_n (x := (1, w, 0)) dX8_copy_9 rfl ?_
  refine e_geti_ (x := u.1 (1, w, 0) 3) fw_X8_26 dX8_copy_10 (kC_mem (s := 1) (by decide) hw (by decide)) rfl (lt_b rfl) (by simp [pi, pl, pr, pci, pcl]) ?_
  refine e_puti fp_X8_26 dX8_copy_13 (kC_mem (s := 1) (by decide) hv (by decide)) rfl (lt_b rfl) rfl rfl rfl ?_
  refine r_aload_n (x := (1, v, 0)) dX8_copy_16 rfl ?_
  refine r_aload_n (x := (1, w, 0)) dX8_copy_17 rfl ?_
  refine e_geti_ (x := u.1 (1, w, 0) 4) fw_X8_29 dX8_copy_18 (kC_mem (s := 1) (by decide) hw (by decide)) rfl (lt_b rfl) (by simp [pi, pl, pr, pci, pcl]) ?_
  refine e_puti fp_X8_29 dX8_copy_21 (kC_mem (s := 1) (by decide) hv (by decide)) rfl (lt_b rfl) rfl rfl rfl ?_
  refine r_aload_n (x := (1, v, 0)) dX8_copy_24 rfl ?_
  refine r_aload_n (x := (1, w, 0)) dX8_copy_25 rfl ?_
  cases he3 : u.2.2 (w + 1) with
  | none =>
    rw [he3] at hf
    refine e_getr (z := none) fw_X8_32 dX8_copy_26 (kC_mem (s := 1) (by decide) hw (by decide)) rfl (lt_b rfl) (by show Option.map _ (u.2.2 (w + 1)) = _; rw [he3]; rfl) ?_
    refine e_put1 (x := none) fp_X8_32 dX8_copy_29 (kC_mem (s := 1) (by decide) hv (by decide)) (fun v => by cases v <;> exact ⟨rfl, rfl⟩) ?_
    refine r_aload_n (x := (1, v, 0)) dX8_copy_32 rfl ?_
    refine r_aload_n (x := (1, w, 0)) dX8_copy_33 rfl ?_
    refine e_geti_ (x := u.1 (1, w, 0) 6) fw_X8_36 dX8_copy_34 (kC_mem (s := 1) (by decide) hw (by decide)) rfl (lt_b rfl) (by simp [pi, pl, pr, pci, pcl]) ?_
    refine e_puti fp_X8_36 dX8_copy_37 (kC_mem (s := 1) (by decide) hv (by decide)) rfl (lt_b rfl) rfl rfl rfl ?_
    refine r_iconst (v := 0) dX8_copy_40 rfl ?_
    refine r_istore_n (L' := [some (vR (1, v, 0)), some (vR (1, w, 0)), some (vI (0 : Int32))]) dX8_copy_41 (by decide) rfl ?_
    refine r_weak (L' := [some (vR (1, v, 0)), some (vR (1, w, 0)), some (vI (0 : Int32))]) (And.intro rfl (And.intro rfl (And.intro rfl trivial))) ?_
    obtain ⟨e7, he8, hf⟩ := am_bind hf
    refine K_X8_copy_L42 hv hw 2000 ((0 : Int32), (pi (pr (pi (pi (pi u (1, v, 0) 0 (u.1 (1, w, 0) 0)) (1, v, 0) 3 (u.1 (1, w, 0) 3)) (1, v, 0) 4 (u.1 (1, w, 0) 4)) (v + 1) none) (1, v, 0) 6 (u.1 (1, w, 0) 6))) _ he8 ?_
    obtain ⟨u9, rfl⟩ : ∃ z, z = e7 := ⟨_, rfl⟩
    show X l _ _ 0 0 false _ kC 0 0 88 [some (vR (1, v, 0)), some (vR (1, w, 0)), none] [] (en u9)
    refine r_aload_n (x := (1, w, 0)) dX8_copy_88 rfl ?_
    refine e_getr (z := some (6, w, 0)) fw_X8_39 dX8_copy_89 (kC_mem (s := 1) (by decide) hw (by decide)) rfl (lt_b rfl) rfl ?_
    refine r_iconst (v := 0) dX8_copy_92 rfl ?_
    refine r_aload_n (x := (1, v, 0)) dX8_copy_93 rfl ?_
    refine e_getr (z := some (6, v, 0)) fw_X8_39 dX8_copy_94 (kC_mem (s := 1) (by decide) hv (by decide)) rfl (lt_b rfl) rfl ?_
    refine r_iconst (v := 0) dX8_copy_97 rfl ?_
    refine r_bipush (v := 12) dX8_copy_98 rfl ?_
    refine e_copyi (a := 0) (b := 0) (c := 12) jc_X8_54 dX8_copy_100 (kC_mem (s := 6) (by decide) hw (by decide)) (kC_mem (s := 6) (by decide) hv (by decide)) rfl rfl (by decide) (by decide) (by decide) rfl rfl rfl (le_b rfl) (le_b rfl) (le_b rfl) (le_b rfl) ?_
    refine r_aload_n (x := (1, w, 0)) dX8_copy_103 rfl ?_
    refine e_getr (z := some (7, w, 0)) fw_X8_43 dX8_copy_104 (kC_mem (s := 1) (by decide) hw (by decide)) rfl (lt_b rfl) rfl ?_
    refine r_iconst (v := 0) dX8_copy_107 rfl ?_
    refine r_aload_n (x := (1, v, 0)) dX8_copy_108 rfl ?_
    refine e_getr (z := some (7, v, 0)) fw_X8_43 dX8_copy_109 (kC_mem (s := 1) (by decide) hv (by decide)) rfl (lt_b rfl) rfl ?_
    refine r_iconst (v := 0) dX8_copy_112 rfl ?_
    refine r_bipush (v := 12) dX8_copy_113 rfl ?_
    refine e_copyi (a := 0) (b := 0) (c := 12) jc_X8_54 dX8_copy_115 (kC_mem (s := 7) (by decide) hw (by decide)) (kC_mem (s := 7) (by decide) hv (by decide)) rfl rfl (by decide) (by decide) (by decide) rfl rfl rfl (le_b rfl) (le_b rfl) (le_b rfl) (le_b rfl) ?_
    have hx := am_inj hf
    subst hx
    exact r_vret dX8_copy_118 rfl (le_b rfl) (le_b rfl)
  | some p1 =>
    rw [he3] at hf
    obtain ⟨h2, hf⟩ := am_chk hf
    refine e_getr (z := some (11, p1, 0)) fw_X8_32 dX8_copy_26 (kC_mem (s := 1) (by decide) hw (by decide)) rfl (lt_b rfl) (by show Option.map _ (u.2.2 (w + 1)) = _; rw [he3]; rfl) ?_
    refine e_put1 (x := some p1) fp_X8_32 dX8_copy_29 (kC_mem (s := 1) (by decide) hv (by decide)) (fun v => by cases v <;> exact ⟨rfl, rfl⟩) ?_
    refine r_aload_n (x := (1, v, 0)) dX8_copy_32 rfl ?_
    refine r_aload_n (x := (1, w, 0)) dX8_copy_33 rfl ?_
    refine e_geti_ (x := u.1 (1, w, 0) 6) fw_X8_36 dX8_copy_34 (kC_mem (s := 1) (by decide) hw (by decide)) rfl (lt_b rfl) (by simp [pi, pl, pr, pci, pcl]) ?_
    refine e_puti fp_X8_36 dX8_copy_37 (kC_mem (s := 1) (by decide) hv (by decide)) rfl (lt_b rfl) rfl rfl rfl ?_
    refine r_iconst (v := 0) dX8_copy_40 rfl ?_
    refine r_istore_n (L' := [some (vR (1, v, 0)), some (vR (1, w, 0)), some (vI (0 : Int32))]) dX8_copy_41 (by decide) rfl ?_
    refine r_weak (L' := [some (vR (1, v, 0)), some (vR (1, w, 0)), some (vI (0 : Int32))]) (And.intro rfl (And.intro rfl (And.intro rfl trivial))) ?_
    obtain ⟨e10, he11, hf⟩ := am_bind hf
    refine K_X8_copy_L42 hv hw 2000 ((0 : Int32), (pi (pr (pi (pi (pi u (1, v, 0) 0 (u.1 (1, w, 0) 0)) (1, v, 0) 3 (u.1 (1, w, 0) 3)) (1, v, 0) 4 (u.1 (1, w, 0) 4)) (v + 1) (some p1)) (1, v, 0) 6 (u.1 (1, w, 0) 6))) _ he11 ?_
    obtain ⟨u12, rfl⟩ : ∃ z, z = e10 := ⟨_, rfl⟩
    show X l _ _ 0 0 false _ kC 0 0 88 [some (vR (1, v, 0)), some (vR (1, w, 0)), none] [] (en u12)
    refine r_aload_n (x := (1, w, 0)) dX8_copy_88 rfl ?_
    refine e_getr (z := some (6, w, 0)) fw_X8_39 dX8_copy_89 (kC_mem (s := 1) (by decide) hw (by decide)) rfl (lt_b rfl) rfl ?_
    refine r_iconst (v := 0) dX8_copy_92 rfl ?_
    refine r_aload_n (x := (1, v, 0)) dX8_copy_93 rfl ?_
    refine e_getr (z := some (6, v, 0)) fw_X8_39 dX8_copy_94 (kC_mem (s := 1) (by decide) hv (by decide)) rfl (lt_b rfl) rfl ?_
    refine r_iconst (v := 0) dX8_copy_97 rfl ?_
    refine r_bipush (v := 12) dX8_copy_98 rfl ?_
    refine e_copyi (a := 0) (b := 0) (c := 12) jc_X8_54 dX8_copy_100 (kC_mem (s := 6) (by decide) hw (by decide)) (kC_mem (s := 6) (by decide) hv (by decide)) rfl rfl (by decide) (by decide) (by decide) rfl rfl rfl (le_b rfl) (le_b rfl) (le_b rfl) (le_b rfl) ?_
    refine r_aload_n (x := (1, w, 0)) dX8_copy_103 rfl ?_
    refine e_getr (z := some (7, w, 0)) fw_X8_43 dX8_copy_104 (kC_mem (s := 1) (by decide) hw (by decide)) rfl (lt_b rfl) rfl ?_
    refine r_iconst (v := 0) dX8_copy_107 rfl ?_
    refine r_aload_n (x := (1, v, 0)) dX8_copy_108 rfl ?_
    refine e_getr (z := some (7, v, 0)) fw_X8_43 dX8_copy_109 (kC_mem (s := 1) (by decide) hv (by decide)) rfl (lt_b rfl) rfl ?_
    refine r_iconst (v := 0) dX8_copy_112 rfl ?_
    refine r_bipush (v := 12) dX8_copy_113 rfl ?_
    refine e_copyi (a := 0) (b := 0) (c := 12) jc_X8_54 dX8_copy_115 (kC_mem (s := 7) (by decide) hw (by decide)) (kC_mem (s := 7) (by decide) hv (by decide)) rfl rfl (by decide) (by decide) (by decide) rfl rfl rfl (le_b rfl) (le_b rfl) (le_b rfl) (le_b rfl) ?_
    have hx := am_inj hf
    subst hx
    exact r_vret dX8_copy_118 rfl (le_b rfl) (le_b rfl)
/-! FireFromFire$Village.hoursBetween -/
theorem dX8_hoursBetween_0 : decode cX8_hoursBetween 0 = .ok (.iload_n 1, 1) := by decide +kernel
theorem dX8_hoursBetween_1 : decode cX8_hoursBetween 1 = .ok (.ifCond .lt 30, 3) := by decide +kernel
theorem dX8_hoursBetween_4 : decode cX8_hoursBetween 4 = .ok (.iload_n 1, 1) := by decide +kernel
theorem dX8_hoursBetween_5 : decode cX8_hoursBetween 5 = .ok (.bipush 6, 2) := by decide +kernel
theorem dX8_hoursBetween_7 : decode cX8_hoursBetween 7 = .ok (.if_icmp .ge 24, 3) := by decide +kernel
theorem dX8_hoursBetween_10 : decode cX8_hoursBetween 10 = .ok (.iload_n 2, 1) := by decide +kernel
theorem dX8_hoursBetween_11 : decode cX8_hoursBetween 11 = .ok (.ifCond .lt 20, 3) := by decide +kernel
theorem dX8_hoursBetween_14 : decode cX8_hoursBetween 14 = .ok (.iload_n 2, 1) := by decide +kernel
theorem dX8_hoursBetween_15 : decode cX8_hoursBetween 15 = .ok (.bipush 6, 2) := by decide +kernel
theorem dX8_hoursBetween_17 : decode cX8_hoursBetween 17 = .ok (.if_icmp .ge 14, 3) := by decide +kernel
theorem dX8_hoursBetween_20 : decode cX8_hoursBetween 20 = .ok (.aload_n 0, 1) := by decide +kernel
theorem dX8_hoursBetween_21 : decode cX8_hoursBetween 21 = .ok (.getfield 23, 3) := by decide +kernel
theorem dX8_hoursBetween_24 : decode cX8_hoursBetween 24 = .ok (.iload_n 1, 1) := by decide +kernel
theorem dX8_hoursBetween_25 : decode cX8_hoursBetween 25 = .ok (.aaload, 1) := by decide +kernel
theorem dX8_hoursBetween_26 : decode cX8_hoursBetween 26 = .ok (.iload_n 2, 1) := by decide +kernel
theorem dX8_hoursBetween_27 : decode cX8_hoursBetween 27 = .ok (.iaload, 1) := by decide +kernel
theorem dX8_hoursBetween_28 : decode cX8_hoursBetween 28 = .ok (.goto 4, 3) := by decide +kernel
theorem dX8_hoursBetween_31 : decode cX8_hoursBetween 31 = .ok (.iconst 0, 1) := by decide +kernel
theorem dX8_hoursBetween_32 : decode cX8_hoursBetween 32 = .ok (.ireturn, 1) := by decide +kernel
def f_X8_hoursBetween (v : Nat) (a0 : Int32) (a1 : Int32) (u : PM) : Option (Int32) :=
  if a0 < 0 then
    some (0 : Int32)
  else
  if (6 : Int32) ≤ a0 then
    some (0 : Int32)
  else
  if a1 < 0 then
    some (0 : Int32)
  else
  if (6 : Int32) ≤ a1 then
    some (0 : Int32)
  else
  if a0 < 0 ∨ 6 ≤ a0.toNatClampNeg then none else
  if a1 < 0 ∨ 6 ≤ a1.toNatClampNeg then none else
  some (u.1 (5, v, a0.toNatClampNeg) a1.toNatClampNeg)
set_option maxHeartbeats 4000000 in
set_option maxRecDepth 20000 in
theorem C_X8_hoursBetween {l : Launch} {v : Nat} (hv : v < 4) {a0 : Int32} {a1 : Int32} {u : PM} {x : Int32} (hf : f_X8_hoursBetween v a0 a1 u = some x) : Ev l mX8_hoursBetween 1 0 0 false [vR (1, v, 0), vI a0, vI a1] kC (en u) (some (vI x), kC, en u) := by
  refine Ev_of (by decide +kernel) (le_b rfl) ?_
  unfold f_X8_hoursBetween at hf
  show X l mX8_hoursBetween 1 0 0 false _ kC 0 0 0 [some (vR (1, v, 0)), some (vI a0), some (vI a1)] [] (en u)
  refine r_iload_n (x := a0) dX8_hoursBetween_0 rfl ?_
  refine r_if_lt (tgt := 31) dX8_hoursBetween_1 (by decide) (fun hc => ?_) (fun hc => ?_)
  · have hf := (am_if hf).1 hc
    refine r_iconst (v := 0) dX8_hoursBetween_31 rfl ?_
    have hx := am_inj hf
    subst hx
    exact r_iret dX8_hoursBetween_32 rfl rfl (le_b rfl) (le_b rfl)
  · have hf := (am_if hf).2 hc
    refine r_iload_n (x := a0) dX8_hoursBetween_4 rfl ?_
    refine r_bipush (v := 6) dX8_hoursBetween_5 rfl ?_
    refine r_icmp_ge (tgt := 31) dX8_hoursBetween_7 (by decide) (fun hc => ?_) (fun hc => ?_)
    · have hf := (am_if hf).1 hc
      refine r_iconst (v := 0) dX8_hoursBetween_31 rfl ?_
      have hx := am_inj hf
      subst hx
      exact r_iret dX8_hoursBetween_32 rfl rfl (le_b rfl) (le_b rfl)
    · have hf := (am_if hf).2 hc
      refine r_iload_n (x := a1) dX8_hoursBetween_10 rfl ?_
      refine r_if_lt (tgt := 31) dX8_hoursBetween_11 (by decide) (fun hc => ?_) (fun hc => ?_)
      · have hf := (am_if hf).1 hc
        refine r_iconst (v := 0) dX8_hoursBetween_31 rfl ?_
        have hx := am_inj hf
        subst hx
        exact r_iret dX8_hoursBetween_32 rfl rfl (le_b rfl) (le_b rfl)
      · have hf := (am_if hf).2 hc
        refine r_iload_n (x := a1) dX8_hoursBetween_14 rfl ?_
        refine r_bipush (v := 6) dX8_hoursBetween_15 rfl ?_
        refine r_icmp_ge (tgt := 31) dX8_hoursBetween_17 (by decide) (fun hc => ?_) (fun hc => ?_)
        · have hf := (am_if hf).1 hc
          refine r_iconst (v := 0) dX8_hoursBetween_31 rfl ?_
          have hx := am_inj hf
          subst hx
          exact r_iret dX8_hoursBetween_32 rfl rfl (le_b rfl) (le_b rfl)
        · have hf := (am_if hf).2 hc
          refine r_aload_n (x := (1, v, 0)) dX8_hoursBetween_20 rfl ?_
          refine e_getr (z := some (4, v, 0)) fw_X8_23 dX8_hoursBetween_21 (kC_mem (s := 1) (by decide) hv (by decide)) rfl (lt_b rfl) rfl ?_
          refine r_iload_n (x := a0) dX8_hoursBetween_24 rfl ?_
          obtain ⟨h1, hf⟩ := am_nchk hf
          refine e_aald (n := a0.toNatClampNeg) (z := some (5, v, a0.toNatClampNeg)) dX8_hoursBetween_25 (kC_mem (s := 4) (by decide) hv (by decide)) ⟨le_b rfl, lt_b rfl⟩ h1 rfl rfl ?_
          refine r_iload_n (x := a1) dX8_hoursBetween_26 rfl ?_
          obtain ⟨h2, hf⟩ := am_nchk hf
          refine e_iald (n := a1.toNatClampNeg) dX8_hoursBetween_27 (kC_mem (s := 5) (by decide) hv (vp_lt h1)) rfl h2 rfl rfl ?_
          refine r_goto (tgt := 32) dX8_hoursBetween_28 (by decide) ?_
          have hx := am_inj hf
          subst hx
          exact r_iret dX8_hoursBetween_32 rfl rfl (le_b rfl) (le_b rfl)
/-! FireFromFire$Village.join -/
theorem dX8_join_0 : decode cX8_join 0 = .ok (.iload_n 1, 1) := by decide +kernel
theorem dX8_join_1 : decode cX8_join 1 = .ok (.ifCond .lt 37, 3) := by decide +kernel
theorem dX8_join_4 : decode cX8_join 4 = .ok (.iload_n 1, 1) := by decide +kernel
theorem dX8_join_5 : decode cX8_join 5 = .ok (.bipush 6, 2) := by decide +kernel
theorem dX8_join_7 : decode cX8_join 7 = .ok (.if_icmp .ge 31, 3) := by decide +kernel
theorem dX8_join_10 : decode cX8_join 10 = .ok (.iload_n 2, 1) := by decide +kernel
theorem dX8_join_11 : decode cX8_join 11 = .ok (.ifCond .lt 27, 3) := by decide +kernel
theorem dX8_join_14 : decode cX8_join 14 = .ok (.iload_n 2, 1) := by decide +kernel
theorem dX8_join_15 : decode cX8_join 15 = .ok (.bipush 6, 2) := by decide +kernel
theorem dX8_join_17 : decode cX8_join 17 = .ok (.if_icmp .ge 21, 3) := by decide +kernel
theorem dX8_join_20 : decode cX8_join 20 = .ok (.aload_n 0, 1) := by decide +kernel
theorem dX8_join_21 : decode cX8_join 21 = .ok (.getfield 23, 3) := by decide +kernel
theorem dX8_join_24 : decode cX8_join 24 = .ok (.iload_n 1, 1) := by decide +kernel
theorem dX8_join_25 : decode cX8_join 25 = .ok (.aaload, 1) := by decide +kernel
theorem dX8_join_26 : decode cX8_join 26 = .ok (.iload_n 2, 1) := by decide +kernel
theorem dX8_join_27 : decode cX8_join 27 = .ok (.iload_n 3, 1) := by decide +kernel
theorem dX8_join_28 : decode cX8_join 28 = .ok (.iastore, 1) := by decide +kernel
theorem dX8_join_29 : decode cX8_join 29 = .ok (.aload_n 0, 1) := by decide +kernel
theorem dX8_join_30 : decode cX8_join 30 = .ok (.getfield 23, 3) := by decide +kernel
theorem dX8_join_33 : decode cX8_join 33 = .ok (.iload_n 2, 1) := by decide +kernel
theorem dX8_join_34 : decode cX8_join 34 = .ok (.aaload, 1) := by decide +kernel
theorem dX8_join_35 : decode cX8_join 35 = .ok (.iload_n 1, 1) := by decide +kernel
theorem dX8_join_36 : decode cX8_join 36 = .ok (.iload_n 3, 1) := by decide +kernel
theorem dX8_join_37 : decode cX8_join 37 = .ok (.iastore, 1) := by decide +kernel
theorem dX8_join_38 : decode cX8_join 38 = .ok (.return_, 1) := by decide +kernel
def f_X8_join (v : Nat) (a0 : Int32) (a1 : Int32) (a2 : Int32) (u : PM) : Option (PM) :=
  if a0 < 0 then
    some u
  else
  if (6 : Int32) ≤ a0 then
    some u
  else
  if a1 < 0 then
    some u
  else
  if (6 : Int32) ≤ a1 then
    some u
  else
  if a0 < 0 ∨ 6 ≤ a0.toNatClampNeg then none else
  if a1 < 0 ∨ 6 ≤ a1.toNatClampNeg then none else
  some (pi (pi u (5, v, a0.toNatClampNeg) a1.toNatClampNeg a2) (5, v, a1.toNatClampNeg) a0.toNatClampNeg a2)
set_option maxHeartbeats 4000000 in
set_option maxRecDepth 20000 in
theorem C_X8_join {l : Launch} {v : Nat} (hv : v < 4) {a0 : Int32} {a1 : Int32} {a2 : Int32} {u : PM} {x : PM} (hf : f_X8_join v a0 a1 a2 u = some x) : Ev l mX8_join 1 0 0 false [vR (1, v, 0), vI a0, vI a1, vI a2] kC (en u) (none, kC, en x) := by
  refine Ev_of (by decide +kernel) (le_b rfl) ?_
  unfold f_X8_join at hf
  show X l mX8_join 1 0 0 false _ kC 0 0 0 [some (vR (1, v, 0)), some (vI a0), some (vI a1), some (vI a2)] [] (en u)
  refine r_iload_n (x := a0) dX8_join_0 rfl ?_
  refine r_if_lt (tgt := 38) dX8_join_1 (by decide) (fun hc => ?_) (fun hc => ?_)
  · have hf := (am_if hf).1 hc
    have hx := am_inj hf
    subst hx
    exact r_vret dX8_join_38 rfl (le_b rfl) (le_b rfl)
  · have hf := (am_if hf).2 hc
    refine r_iload_n (x := a0) dX8_join_4 rfl ?_
    refine r_bipush (v := 6) dX8_join_5 rfl ?_
    refine r_icmp_ge (tgt := 38) dX8_join_7 (by decide) (fun hc => ?_) (fun hc => ?_)
    · have hf := (am_if hf).1 hc
      have hx := am_inj hf
      subst hx
      exact r_vret dX8_join_38 rfl (le_b rfl) (le_b rfl)
    · have hf := (am_if hf).2 hc
      refine r_iload_n (x := a1) dX8_join_10 rfl ?_
      refine r_if_lt (tgt := 38) dX8_join_11 (by decide) (fun hc => ?_) (fun hc => ?_)
      · have hf := (am_if hf).1 hc
        have hx := am_inj hf
        subst hx
        exact r_vret dX8_join_38 rfl (le_b rfl) (le_b rfl)
      · have hf := (am_if hf).2 hc
        refine r_iload_n (x := a1) dX8_join_14 rfl ?_
        refine r_bipush (v := 6) dX8_join_15 rfl ?_
        refine r_icmp_ge (tgt := 38) dX8_join_17 (by decide) (fun hc => ?_) (fun hc => ?_)
        · have hf := (am_if hf).1 hc
          have hx := am_inj hf
          subst hx
          exact r_vret dX8_join_38 rfl (le_b rfl) (le_b rfl)
        · have hf := (am_if hf).2 hc
          refine r_aload_n (x := (1, v, 0)) dX8_join_20 rfl ?_
          refine e_getr (z := some (4, v, 0)) fw_X8_23 dX8_join_21 (kC_mem (s := 1) (by decide) hv (by decide)) rfl (lt_b rfl) rfl ?_
          refine r_iload_n (x := a0) dX8_join_24 rfl ?_
          obtain ⟨h1, hf⟩ := am_nchk hf
          refine e_aald (n := a0.toNatClampNeg) (z := some (5, v, a0.toNatClampNeg)) dX8_join_25 (kC_mem (s := 4) (by decide) hv (by decide)) ⟨le_b rfl, lt_b rfl⟩ h1 rfl rfl ?_
          refine r_iload_n (x := a1) dX8_join_26 rfl ?_
          refine r_iload_n (x := a2) dX8_join_27 rfl ?_
          obtain ⟨h2, hf⟩ := am_nchk hf
          refine e_iast (n := a1.toNatClampNeg) dX8_join_28 (kC_mem (s := 5) (by decide) hv (vp_lt h1)) rfl h2 rfl ?_
          refine r_aload_n (x := (1, v, 0)) dX8_join_29 rfl ?_
          refine e_getr (z := some (4, v, 0)) fw_X8_23 dX8_join_30 (kC_mem (s := 1) (by decide) hv (by decide)) rfl (lt_b rfl) rfl ?_
          refine r_iload_n (x := a1) dX8_join_33 rfl ?_
          refine e_aald (n := a1.toNatClampNeg) (z := some (5, v, a1.toNatClampNeg)) dX8_join_34 (kC_mem (s := 4) (by decide) hv (by decide)) ⟨le_b rfl, lt_b rfl⟩ h2 rfl rfl ?_
          refine r_iload_n (x := a0) dX8_join_35 rfl ?_
          refine r_iload_n (x := a2) dX8_join_36 rfl ?_
          refine e_iast (n := a0.toNatClampNeg) dX8_join_37 (kC_mem (s := 5) (by decide) hv (vp_lt h2)) rfl h1 rfl ?_
          have hx := am_inj hf
          subst hx
          exact r_vret dX8_join_38 rfl (le_b rfl) (le_b rfl)
/-! FireFromFire$Village.litBits -/
theorem dX8_litBits_0 : decode cX8_litBits 0 = .ok (.iconst 0, 1) := by decide +kernel
theorem dX8_litBits_1 : decode cX8_litBits 1 = .ok (.istore_n 1, 1) := by decide +kernel
theorem dX8_litBits_2 : decode cX8_litBits 2 = .ok (.iconst 0, 1) := by decide +kernel
theorem dX8_litBits_3 : decode cX8_litBits 3 = .ok (.istore_n 2, 1) := by decide +kernel
theorem dX8_litBits_4 : decode cX8_litBits 4 = .ok (.iload_n 2, 1) := by decide +kernel
theorem dX8_litBits_5 : decode cX8_litBits 5 = .ok (.aload_n 0, 1) := by decide +kernel
theorem dX8_litBits_6 : decode cX8_litBits 6 = .ok (.getfield 9, 3) := by decide +kernel
theorem dX8_litBits_9 : decode cX8_litBits 9 = .ok (.if_icmp .ge 33, 3) := by decide +kernel
theorem dX8_litBits_12 : decode cX8_litBits 12 = .ok (.iload_n 2, 1) := by decide +kernel
theorem dX8_litBits_13 : decode cX8_litBits 13 = .ok (.bipush 6, 2) := by decide +kernel
theorem dX8_litBits_15 : decode cX8_litBits 15 = .ok (.if_icmp .ge 27, 3) := by decide +kernel
theorem dX8_litBits_18 : decode cX8_litBits 18 = .ok (.aload_n 0, 1) := by decide +kernel
theorem dX8_litBits_19 : decode cX8_litBits 19 = .ok (.getfield 17, 3) := by decide +kernel
theorem dX8_litBits_22 : decode cX8_litBits 22 = .ok (.iload_n 2, 1) := by decide +kernel
theorem dX8_litBits_23 : decode cX8_litBits 23 = .ok (.aaload, 1) := by decide +kernel
theorem dX8_litBits_24 : decode cX8_litBits 24 = .ok (.getfield 60, 3) := by decide +kernel
theorem dX8_litBits_27 : decode cX8_litBits 27 = .ok (.ifCond .eq 9, 3) := by decide +kernel
theorem dX8_litBits_30 : decode cX8_litBits 30 = .ok (.iload_n 1, 1) := by decide +kernel
theorem dX8_litBits_31 : decode cX8_litBits 31 = .ok (.iconst 1, 1) := by decide +kernel
theorem dX8_litBits_32 : decode cX8_litBits 32 = .ok (.iload_n 2, 1) := by decide +kernel
theorem dX8_litBits_33 : decode cX8_litBits 33 = .ok (.ishl, 1) := by decide +kernel
theorem dX8_litBits_34 : decode cX8_litBits 34 = .ok (.ior, 1) := by decide +kernel
theorem dX8_litBits_35 : decode cX8_litBits 35 = .ok (.istore_n 1, 1) := by decide +kernel
theorem dX8_litBits_36 : decode cX8_litBits 36 = .ok (.iinc 2 1, 3) := by decide +kernel
theorem dX8_litBits_39 : decode cX8_litBits 39 = .ok (.goto (-35), 3) := by decide +kernel
theorem dX8_litBits_42 : decode cX8_litBits 42 = .ok (.iload_n 1, 1) := by decide +kernel
theorem dX8_litBits_43 : decode cX8_litBits 43 = .ok (.ireturn, 1) := by decide +kernel
def f_X8_litBits_L4 (n0 : Nat)  (u : PM) : Int32 × Int32 → Option ((Int32 × Int32) ⊕ (Int32)) := fun (x1 , x2) =>
  if (u.1 (1, n0, 0) 0) ≤ x2 then
    some (.inr (x1))
  else
  if (6 : Int32) ≤ x2 then
    some (.inr (x1))
  else
  if x2 < 0 ∨ 6 ≤ x2.toNatClampNeg then none else
  if (u.1 (3, n0, x2.toNatClampNeg) 1) = 0 then
    some (.inl (x1, x2 + (1 : Int32)))
  else
  some (.inl (x1 ||| ((1 : Int32) <<< (x2 &&& 31)), x2 + (1 : Int32)))
set_option maxHeartbeats 4000000 in
set_option maxRecDepth 20000 in
theorem K_X8_litBits_L4 {l : Launch} {T : Option AV × List Key × AM} {n0 : Nat} (hn0 : n0 < 4)  {u : PM} : ∀ (n : Nat) (s : Int32 × Int32) (e0 : Int32), am_loop (f_X8_litBits_L4 n0 u) n s = some e0 → (fun e : Int32 => X l mX8_litBits 1 0 0 false T kC 0 0 42 [none, some (vI e), none] [] (en u)) e0 → X l mX8_litBits 1 0 0 false T kC 0 0 4 [some (vR (1, n0, 0)), some (vI s.1), some (vI s.2)] [] (en u) := by
  refine am_loop_of ?_
  intro s x hf k1 k2
  obtain ⟨x1 , x2⟩ := s
  unfold f_X8_litBits_L4 at hf
  show X l mX8_litBits 1 0 0 false T kC 0 0 4 [some (vR (1, n0, 0)), some (vI x1), some (vI x2)] [] (en u)
  refine r_iload_n (x := x2) dX8_litBits_4 rfl ?_
  refine r_aload_n (x := (1, n0, 0)) dX8_litBits_5 rfl ?_
  refine e_geti fw_X8_9 dX8_litBits_6 (kC_mem (s := 1) (by decide) hn0 (by decide)) rfl (lt_b rfl) ?_
  refine r_icmp_ge (tgt := 42) dX8_litBits_9 (by decide) (fun hc => ?_) (fun hc => ?_)
  · have hf := (am_if hf).1 hc
    refine r_weak (L' := [none, some (vI x1), none]) (And.intro rfl trivial) ?_
    exact k2 _ (am_inj hf).symm
  · have hf := (am_if hf).2 hc
    refine r_iload_n (x := x2) dX8_litBits_12 rfl ?_
    refine r_bipush (v := 6) dX8_litBits_13 rfl ?_
    refine r_icmp_ge (tgt := 42) dX8_litBits_15 (by decide) (fun hc => ?_) (fun hc => ?_)
    · have hf := (am_if hf).1 hc
      refine r_weak (L' := [none, some (vI x1), none]) (And.intro rfl trivial) ?_
      exact k2 _ (am_inj hf).symm
    · have hf := (am_if hf).2 hc
      refine r_aload_n (x := (1, n0, 0)) dX8_litBits_18 rfl ?_
      refine e_getr (z := some (2, n0, 0)) fw_X8_17 dX8_litBits_19 (kC_mem (s := 1) (by decide) hn0 (by decide)) rfl (lt_b rfl) rfl ?_
      refine r_iload_n (x := x2) dX8_litBits_22 rfl ?_
      obtain ⟨h1, hf⟩ := am_nchk hf
      refine e_aald (n := x2.toNatClampNeg) (z := some (3, n0, x2.toNatClampNeg)) dX8_litBits_23 (kC_mem (s := 2) (by decide) hn0 (by decide)) ⟨le_b rfl, lt_b rfl⟩ h1 rfl rfl ?_
      refine e_geti fw_X8_60 dX8_litBits_24 (kC_mem (s := 3) (by decide) hn0 (vp_lt h1)) rfl (lt_b rfl) ?_
      refine r_if_eq (tgt := 36) dX8_litBits_27 (by decide) (fun hc => ?_) (fun hc => ?_)
      · have hf := (am_if hf).1 hc
        refine r_iinc (x := x2) (v := x2 + (1 : Int32)) (L' := [some (vR (1, n0, 0)), some (vI x1), some (vI (x2 + (1 : Int32)))]) dX8_litBits_36 rfl rfl (lt_b rfl) rfl ?_
        refine r_goto (tgt := 4) dX8_litBits_39 (by decide) ?_
        refine r_weak (L' := [some (vR (1, n0, 0)), some (vI x1), some (vI (x2 + (1 : Int32)))]) (And.intro rfl (And.intro rfl (And.intro rfl trivial))) ?_
        exact k1 _ (am_inj hf).symm
      · have hf := (am_if hf).2 hc
        refine r_iload_n (x := x1) dX8_litBits_30 rfl ?_
        refine r_iconst (v := 1) dX8_litBits_31 rfl ?_
        refine r_iload_n (x := x2) dX8_litBits_32 rfl ?_
        refine r_ishl dX8_litBits_33 ?_
        refine r_ior dX8_litBits_34 ?_
        refine r_istore_n (L' := [some (vR (1, n0, 0)), some (vI (x1 ||| ((1 : Int32) <<< (x2 &&& 31)))), some (vI x2)]) dX8_litBits_35 (by decide) rfl ?_
        refine r_iinc (x := x2) (v := x2 + (1 : Int32)) (L' := [some (vR (1, n0, 0)), some (vI (x1 ||| ((1 : Int32) <<< (x2 &&& 31)))), some (vI (x2 + (1 : Int32)))]) dX8_litBits_36 rfl rfl (lt_b rfl) rfl ?_
        refine r_goto (tgt := 4) dX8_litBits_39 (by decide) ?_
        refine r_weak (L' := [some (vR (1, n0, 0)), some (vI (x1 ||| ((1 : Int32) <<< (x2 &&& 31)))), some (vI (x2 + (1 : Int32)))]) (And.intro rfl (And.intro rfl (And.intro rfl trivial))) ?_
        exact k1 _ (am_inj hf).symm
def f_X8_litBits (v : Nat)  (u : PM) : Option (Int32) :=
  (am_loop (f_X8_litBits_L4 v u) 2000 ((0 : Int32), (0 : Int32))).bind fun y4 =>
  some y4
set_option maxHeartbeats 4000000 in
set_option maxRecDepth 20000 in
theorem C_X8_litBits {l : Launch} {v : Nat} (hv : v < 4)  {u : PM} {x : Int32} (hf : f_X8_litBits v u = some x) : Ev l mX8_litBits 1 0 0 false [vR (1, v, 0)] kC (en u) (some (vI x), kC, en u) := by
  refine Ev_of (by decide +kernel) (le_b rfl) ?_
  unfold f_X8_litBits at hf
  show X l mX8_litBits 1 0 0 false _ kC 0 0 0 [some (vR (1, v, 0)), none, none] [] (en u)
  refine r_iconst (v := 0) dX8_litBits_0 rfl ?_
  refine r_istore_n (L' := [some (vR (1, v, 0)), some (vI (0 : Int32)), none]) dX8_litBits_1 (by decide) rfl ?_
  refine r_iconst (v := 0) dX8_litBits_2 rfl ?_
  refine r_istore_n (L' := [some (vR (1, v, 0)), some (vI (0 : Int32)), some (vI (0 : Int32))]) dX8_litBits_3 (by decide) rfl ?_
  refine r_weak (L' := [some (vR (1, v, 0)), some (vI (0 : Int32)), some (vI (0 : Int32))]) (And.intro rfl (And.intro rfl (And.intro rfl trivial))) ?_
  obtain ⟨e2, he3, hf⟩ := am_bind hf
  refine K_X8_litBits_L4 hv 2000 ((0 : Int32), (0 : Int32)) _ he3 ?_
  obtain ⟨y4, rfl⟩ : ∃ z, z = e2 := ⟨_, rfl⟩
  show X l _ _ 0 0 false _ kC 0 0 42 [none, some (vI y4), none] [] (en u)
  refine r_iload_n (x := y4) dX8_litBits_42 rfl ?_
  have hx := am_inj hf
  subst hx
  exact r_iret dX8_litBits_43 rfl rfl (le_b rfl) (le_b rfl)
/-! FireFromFire$Village.litCount -/
theorem dX8_litCount_0 : decode cX8_litCount 0 = .ok (.aload_n 0, 1) := by decide +kernel
theorem dX8_litCount_1 : decode cX8_litCount 1 = .ok (.invokevirtual 64, 3) := by decide +kernel
theorem dX8_litCount_4 : decode cX8_litCount 4 = .ok (.invokestatic 68, 3) := by decide +kernel
theorem dX8_litCount_7 : decode cX8_litCount 7 = .ok (.ireturn, 1) := by decide +kernel
def f_X8_litCount (v : Nat)  (u : PM) : Option (Int32) :=
  (f_X8_litBits v u).bind fun r1 =>
  (f_J6_bitCount_0f7a4 r1 u).bind fun r3 =>
  some r3
set_option maxHeartbeats 4000000 in
set_option maxRecDepth 20000 in
theorem C_X8_litCount {l : Launch} {v : Nat} (hv : v < 4)  {u : PM} {x : Int32} (hf : f_X8_litCount v u = some x) : Ev l mX8_litCount 2 0 0 false [vR (1, v, 0)] kC (en u) (some (vI x), kC, en u) := by
  refine Ev_of (by decide +kernel) (le_b rfl) ?_
  unfold f_X8_litCount at hf
  show X l mX8_litCount 2 0 0 false _ kC 0 0 0 [some (vR (1, v, 0))] [] (en u)
  refine r_aload_n (x := (1, v, 0)) dX8_litCount_0 rfl ?_
  obtain ⟨r1, hr2, hf⟩ := am_bind hf
  refine r_callV (as := []) (st := []) (n := 0) mw_X8_64 mv_X8_litBits (C_X8_litBits (l := l) hv hr2) (by decide) dX8_litCount_1 (kC_mem (s := 1) (by decide) hv (by decide)) rfl rfl rfl (le_b rfl) (le_b rfl) (le_b rfl) ?_
  show X l _ _ 0 0 false _ kC 0 0 4 [some (vR (1, v, 0))] [vI r1] (en u)
  obtain ⟨r3, hr4, hf⟩ := am_bind hf
  refine r_callS (as := [vI r1]) (st := []) (n := 1) mw_X8_68 ms_J6_bitCount_0f7a4 (C_J6_bitCount_0f7a4 (l := l) hr4) (by decide) dX8_litCount_4 rfl (le_b rfl) (le_b rfl) (le_b rfl) ?_
  show X l _ _ 0 0 false _ kC 0 0 7 [some (vR (1, v, 0))] [vI r3] (en u)
  have hx := am_inj hf
  subst hx
  exact r_iret dX8_litCount_7 rfl rfl (le_b rfl) (le_b rfl)
/-! FireFromFire$Village.payAll -/
theorem dX8_payAll_0 : decode cX8_payAll 0 = .ok (.iconst 0, 1) := by decide +kernel
theorem dX8_payAll_1 : decode cX8_payAll 1 = .ok (.istore_n 2, 1) := by decide +kernel
theorem dX8_payAll_2 : decode cX8_payAll 2 = .ok (.iload_n 2, 1) := by decide +kernel
theorem dX8_payAll_3 : decode cX8_payAll 3 = .ok (.aload_n 0, 1) := by decide +kernel
theorem dX8_payAll_4 : decode cX8_payAll 4 = .ok (.getfield 9, 3) := by decide +kernel
theorem dX8_payAll_7 : decode cX8_payAll 7 = .ok (.if_icmp .ge 35, 3) := by decide +kernel
theorem dX8_payAll_10 : decode cX8_payAll 10 = .ok (.iload_n 2, 1) := by decide +kernel
theorem dX8_payAll_11 : decode cX8_payAll 11 = .ok (.bipush 6, 2) := by decide +kernel
theorem dX8_payAll_13 : decode cX8_payAll 13 = .ok (.if_icmp .ge 29, 3) := by decide +kernel
theorem dX8_payAll_16 : decode cX8_payAll 16 = .ok (.aload_n 0, 1) := by decide +kernel
theorem dX8_payAll_17 : decode cX8_payAll 17 = .ok (.getfield 17, 3) := by decide +kernel
theorem dX8_payAll_20 : decode cX8_payAll 20 = .ok (.iload_n 2, 1) := by decide +kernel
theorem dX8_payAll_21 : decode cX8_payAll 21 = .ok (.aaload, 1) := by decide +kernel
theorem dX8_payAll_22 : decode cX8_payAll 22 = .ok (.iconst 4, 1) := by decide +kernel
theorem dX8_payAll_23 : decode cX8_payAll 23 = .ok (.putfield 74, 3) := by decide +kernel
theorem dX8_payAll_26 : decode cX8_payAll 26 = .ok (.aload_n 0, 1) := by decide +kernel
theorem dX8_payAll_27 : decode cX8_payAll 27 = .ok (.getfield 17, 3) := by decide +kernel
theorem dX8_payAll_30 : decode cX8_payAll 30 = .ok (.iload_n 2, 1) := by decide +kernel
theorem dX8_payAll_31 : decode cX8_payAll 31 = .ok (.aaload, 1) := by decide +kernel
theorem dX8_payAll_32 : decode cX8_payAll 32 = .ok (.iload_n 1, 1) := by decide +kernel
theorem dX8_payAll_33 : decode cX8_payAll 33 = .ok (.putfield 77, 3) := by decide +kernel
theorem dX8_payAll_36 : decode cX8_payAll 36 = .ok (.iinc 2 1, 3) := by decide +kernel
theorem dX8_payAll_39 : decode cX8_payAll 39 = .ok (.goto (-37), 3) := by decide +kernel
theorem dX8_payAll_42 : decode cX8_payAll 42 = .ok (.return_, 1) := by decide +kernel
def f_X8_payAll_L2 (n0 : Nat) (c1 : Int32) : Int32 × PM → Option ((Int32 × PM) ⊕ (PM)) := fun (x2 , u) =>
  if (u.1 (1, n0, 0) 0) ≤ x2 then
    some (.inr (u))
  else
  if (6 : Int32) ≤ x2 then
    some (.inr (u))
  else
  if x2 < 0 ∨ 6 ≤ x2.toNatClampNeg then none else
  some (.inl (x2 + (1 : Int32), (pi (pi u (3, n0, x2.toNatClampNeg) 2 (4 : Int32)) (3, n0, x2.toNatClampNeg) 3 c1)))
set_option maxHeartbeats 4000000 in
set_option maxRecDepth 20000 in
theorem K_X8_payAll_L2 {l : Launch} {T : Option AV × List Key × AM} {n0 : Nat} (hn0 : n0 < 4) {c1 : Int32} : ∀ (n : Nat) (s : Int32 × PM) (e0 : PM), am_loop (f_X8_payAll_L2 n0 c1) n s = some e0 → (fun e : PM => X l mX8_payAll 1 0 0 false T kC 0 0 42 [none, none, none] [] (en e)) e0 → X l mX8_payAll 1 0 0 false T kC 0 0 2 [some (vR (1, n0, 0)), some (vI c1), some (vI s.1)] [] (en s.2) := by
  refine am_loop_of ?_
  intro s x hf k1 k2
  obtain ⟨x2 , u⟩ := s
  unfold f_X8_payAll_L2 at hf
  show X l mX8_payAll 1 0 0 false T kC 0 0 2 [some (vR (1, n0, 0)), some (vI c1), some (vI x2)] [] (en u)
  refine r_iload_n (x := x2) dX8_payAll_2 rfl ?_
  refine r_aload_n (x := (1, n0, 0)) dX8_payAll_3 rfl ?_
  refine e_geti fw_X8_9 dX8_payAll_4 (kC_mem (s := 1) (by decide) hn0 (by decide)) rfl (lt_b rfl) ?_
  refine r_icmp_ge (tgt := 42) dX8_payAll_7 (by decide) (fun hc => ?_) (fun hc => ?_)
  · have hf := (am_if hf).1 hc
    refine r_weak (L' := [none, none, none]) trivial ?_
    exact k2 _ (am_inj hf).symm
  · have hf := (am_if hf).2 hc
    refine r_iload_n (x := x2) dX8_payAll_10 rfl ?_
    refine r_bipush (v := 6) dX8_payAll_11 rfl ?_
    refine r_icmp_ge (tgt := 42) dX8_payAll_13 (by decide) (fun hc => ?_) (fun hc => ?_)
    · have hf := (am_if hf).1 hc
      refine r_weak (L' := [none, none, none]) trivial ?_
      exact k2 _ (am_inj hf).symm
    · have hf := (am_if hf).2 hc
      refine r_aload_n (x := (1, n0, 0)) dX8_payAll_16 rfl ?_
      refine e_getr (z := some (2, n0, 0)) fw_X8_17 dX8_payAll_17 (kC_mem (s := 1) (by decide) hn0 (by decide)) rfl (lt_b rfl) rfl ?_
      refine r_iload_n (x := x2) dX8_payAll_20 rfl ?_
      obtain ⟨h1, hf⟩ := am_nchk hf
      refine e_aald (n := x2.toNatClampNeg) (z := some (3, n0, x2.toNatClampNeg)) dX8_payAll_21 (kC_mem (s := 2) (by decide) hn0 (by decide)) ⟨le_b rfl, lt_b rfl⟩ h1 rfl rfl ?_
      refine r_iconst (v := 4) dX8_payAll_22 rfl ?_
      refine e_puti fp_X8_74 dX8_payAll_23 (kC_mem (s := 3) (by decide) hn0 (vp_lt h1)) rfl (lt_b rfl) rfl rfl rfl ?_
      refine r_aload_n (x := (1, n0, 0)) dX8_payAll_26 rfl ?_
      refine e_getr (z := some (2, n0, 0)) fw_X8_17 dX8_payAll_27 (kC_mem (s := 1) (by decide) hn0 (by decide)) rfl (lt_b rfl) rfl ?_
      refine r_iload_n (x := x2) dX8_payAll_30 rfl ?_
      refine e_aald (n := x2.toNatClampNeg) (z := some (3, n0, x2.toNatClampNeg)) dX8_payAll_31 (kC_mem (s := 2) (by decide) hn0 (by decide)) ⟨le_b rfl, lt_b rfl⟩ h1 rfl rfl ?_
      refine r_iload_n (x := c1) dX8_payAll_32 rfl ?_
      refine e_puti fp_X8_77 dX8_payAll_33 (kC_mem (s := 3) (by decide) hn0 (vp_lt h1)) rfl (lt_b rfl) rfl rfl rfl ?_
      refine r_iinc (x := x2) (v := x2 + (1 : Int32)) (L' := [some (vR (1, n0, 0)), some (vI c1), some (vI (x2 + (1 : Int32)))]) dX8_payAll_36 rfl rfl (lt_b rfl) rfl ?_
      refine r_goto (tgt := 2) dX8_payAll_39 (by decide) ?_
      refine r_weak (L' := [some (vR (1, n0, 0)), some (vI c1), some (vI (x2 + (1 : Int32)))]) (And.intro rfl (And.intro rfl (And.intro rfl trivial))) ?_
      exact k1 _ (am_inj hf).symm
def f_X8_payAll (v : Nat) (a0 : Int32) (u : PM) : Option (PM) :=
  (am_loop (f_X8_payAll_L2 v a0) 2000 ((0 : Int32), u)).bind fun u4 =>
  some u4
set_option maxHeartbeats 4000000 in
set_option maxRecDepth 20000 in
theorem C_X8_payAll {l : Launch} {v : Nat} (hv : v < 4) {a0 : Int32} {u : PM} {x : PM} (hf : f_X8_payAll v a0 u = some x) : Ev l mX8_payAll 1 0 0 false [vR (1, v, 0), vI a0] kC (en u) (none, kC, en x) := by
  refine Ev_of (by decide +kernel) (le_b rfl) ?_
  unfold f_X8_payAll at hf
  show X l mX8_payAll 1 0 0 false _ kC 0 0 0 [some (vR (1, v, 0)), some (vI a0), none] [] (en u)
  refine r_iconst (v := 0) dX8_payAll_0 rfl ?_
  refine r_istore_n (L' := [some (vR (1, v, 0)), some (vI a0), some (vI (0 : Int32))]) dX8_payAll_1 (by decide) rfl ?_
  refine r_weak (L' := [some (vR (1, v, 0)), some (vI a0), some (vI (0 : Int32))]) (And.intro rfl (And.intro rfl (And.intro rfl trivial))) ?_
  obtain ⟨e2, he3, hf⟩ := am_bind hf
  refine K_X8_payAll_L2 hv 2000 ((0 : Int32), u) _ he3 ?_
  obtain ⟨u4, rfl⟩ : ∃ z, z = e2 := ⟨_, rfl⟩
  show X l _ _ 0 0 false _ kC 0 0 42 [none, none, none] [] (en u4)
  have hx := am_inj hf
  subst hx
  exact r_vret dX8_payAll_42 rfl (le_b rfl) (le_b rfl)
/-! FireFromFire$Village.sum -/
theorem dX8_sum_0 : decode cX8_sum 0 = .ok (.aload_n 0, 1) := by decide +kernel
theorem dX8_sum_1 : decode cX8_sum 1 = .ok (.iload_n 2, 1) := by decide +kernel
theorem dX8_sum_2 : decode cX8_sum 2 = .ok (.invokevirtual 80, 3) := by decide +kernel
theorem dX8_sum_5 : decode cX8_sum 5 = .ok (.astore 4, 2) := by decide +kernel
theorem dX8_sum_7 : decode cX8_sum 7 = .ok (.aload_n 0, 1) := by decide +kernel
theorem dX8_sum_8 : decode cX8_sum 8 = .ok (.getfield 32, 3) := by decide +kernel
theorem dX8_sum_11 : decode cX8_sum 11 = .ok (.ifnull 8, 3) := by decide +kernel
theorem dX8_sum_14 : decode cX8_sum 14 = .ok (.aload 4, 2) := by decide +kernel
theorem dX8_sum_16 : decode cX8_sum 16 = .ok (.ifnonnull 5, 3) := by decide +kernel
theorem dX8_sum_19 : decode cX8_sum 19 = .ok (.iconst 0, 1) := by decide +kernel
theorem dX8_sum_20 : decode cX8_sum 20 = .ok (.ireturn, 1) := by decide +kernel
theorem dX8_sum_21 : decode cX8_sum 21 = .ok (.aload_n 0, 1) := by decide +kernel
theorem dX8_sum_22 : decode cX8_sum 22 = .ok (.getfield 46, 3) := by decide +kernel
theorem dX8_sum_25 : decode cX8_sum 25 = .ok (.iconst 0, 1) := by decide +kernel
theorem dX8_sum_26 : decode cX8_sum 26 = .ok (.iload_n 3, 1) := by decide +kernel
theorem dX8_sum_27 : decode cX8_sum 27 = .ok (.iastore, 1) := by decide +kernel
theorem dX8_sum_28 : decode cX8_sum 28 = .ok (.aload_n 0, 1) := by decide +kernel
theorem dX8_sum_29 : decode cX8_sum 29 = .ok (.getfield 46, 3) := by decide +kernel
theorem dX8_sum_32 : decode cX8_sum 32 = .ok (.iconst 1, 1) := by decide +kernel
theorem dX8_sum_33 : decode cX8_sum 33 = .ok (.aload_n 0, 1) := by decide +kernel
theorem dX8_sum_34 : decode cX8_sum 34 = .ok (.getfield 29, 3) := by decide +kernel
theorem dX8_sum_37 : decode cX8_sum 37 = .ok (.bipush 24, 2) := by decide +kernel
theorem dX8_sum_39 : decode cX8_sum 39 = .ok (.irem, 1) := by decide +kernel
theorem dX8_sum_40 : decode cX8_sum 40 = .ok (.iastore, 1) := by decide +kernel
theorem dX8_sum_41 : decode cX8_sum 41 = .ok (.aload_n 0, 1) := by decide +kernel
theorem dX8_sum_42 : decode cX8_sum 42 = .ok (.getfield 46, 3) := by decide +kernel
theorem dX8_sum_45 : decode cX8_sum 45 = .ok (.iconst 2, 1) := by decide +kernel
theorem dX8_sum_46 : decode cX8_sum 46 = .ok (.iload_n 2, 1) := by decide +kernel
theorem dX8_sum_47 : decode cX8_sum 47 = .ok (.iastore, 1) := by decide +kernel
theorem dX8_sum_48 : decode cX8_sum 48 = .ok (.aload_n 0, 1) := by decide +kernel
theorem dX8_sum_49 : decode cX8_sum 49 = .ok (.getfield 46, 3) := by decide +kernel
theorem dX8_sum_52 : decode cX8_sum 52 = .ok (.iconst 3, 1) := by decide +kernel
theorem dX8_sum_53 : decode cX8_sum 53 = .ok (.aload 4, 2) := by decide +kernel
theorem dX8_sum_55 : decode cX8_sum 55 = .ok (.getfield 74, 3) := by decide +kernel
theorem dX8_sum_58 : decode cX8_sum 58 = .ok (.iastore, 1) := by decide +kernel
theorem dX8_sum_59 : decode cX8_sum 59 = .ok (.aload_n 0, 1) := by decide +kernel
theorem dX8_sum_60 : decode cX8_sum 60 = .ok (.getfield 46, 3) := by decide +kernel
theorem dX8_sum_63 : decode cX8_sum 63 = .ok (.iconst 4, 1) := by decide +kernel
theorem dX8_sum_64 : decode cX8_sum 64 = .ok (.aload 4, 2) := by decide +kernel
theorem dX8_sum_66 : decode cX8_sum 66 = .ok (.getfield 84, 3) := by decide +kernel
theorem dX8_sum_69 : decode cX8_sum 69 = .ok (.iastore, 1) := by decide +kernel
theorem dX8_sum_70 : decode cX8_sum 70 = .ok (.aload_n 0, 1) := by decide +kernel
theorem dX8_sum_71 : decode cX8_sum 71 = .ok (.getfield 46, 3) := by decide +kernel
theorem dX8_sum_74 : decode cX8_sum 74 = .ok (.iconst 5, 1) := by decide +kernel
theorem dX8_sum_75 : decode cX8_sum 75 = .ok (.aload_n 0, 1) := by decide +kernel
theorem dX8_sum_76 : decode cX8_sum 76 = .ok (.invokevirtual 64, 3) := by decide +kernel
theorem dX8_sum_79 : decode cX8_sum 79 = .ok (.invokestatic 68, 3) := by decide +kernel
theorem dX8_sum_82 : decode cX8_sum 82 = .ok (.iastore, 1) := by decide +kernel
theorem dX8_sum_83 : decode cX8_sum 83 = .ok (.iconst 0, 1) := by decide +kernel
theorem dX8_sum_84 : decode cX8_sum 84 = .ok (.istore 5, 2) := by decide +kernel
theorem dX8_sum_86 : decode cX8_sum 86 = .ok (.iconst 0, 1) := by decide +kernel
theorem dX8_sum_87 : decode cX8_sum 87 = .ok (.istore 6, 2) := by decide +kernel
theorem dX8_sum_89 : decode cX8_sum 89 = .ok (.iload 6, 2) := by decide +kernel
theorem dX8_sum_91 : decode cX8_sum 91 = .ok (.aload_n 0, 1) := by decide +kernel
theorem dX8_sum_92 : decode cX8_sum 92 = .ok (.getfield 32, 3) := by decide +kernel
theorem dX8_sum_95 : decode cX8_sum 95 = .ok (.getfield 87, 3) := by decide +kernel
theorem dX8_sum_98 : decode cX8_sum 98 = .ok (.if_icmp .ge 61, 3) := by decide +kernel
theorem dX8_sum_101 : decode cX8_sum 101 = .ok (.iload 6, 2) := by decide +kernel
theorem dX8_sum_103 : decode cX8_sum 103 = .ok (.bipush 10, 2) := by decide +kernel
theorem dX8_sum_105 : decode cX8_sum 105 = .ok (.if_icmp .ge 54, 3) := by decide +kernel
theorem dX8_sum_108 : decode cX8_sum 108 = .ok (.aload_n 0, 1) := by decide +kernel
theorem dX8_sum_109 : decode cX8_sum 109 = .ok (.getfield 32, 3) := by decide +kernel
theorem dX8_sum_112 : decode cX8_sum 112 = .ok (.getfield 92, 3) := by decide +kernel
theorem dX8_sum_115 : decode cX8_sum 115 = .ok (.iload 6, 2) := by decide +kernel
theorem dX8_sum_117 : decode cX8_sum 117 = .ok (.iaload, 1) := by decide +kernel
theorem dX8_sum_118 : decode cX8_sum 118 = .ok (.iload_n 1, 1) := by decide +kernel
theorem dX8_sum_119 : decode cX8_sum 119 = .ok (.if_icmp .ne 34, 3) := by decide +kernel
theorem dX8_sum_122 : decode cX8_sum 122 = .ok (.aload_n 0, 1) := by decide +kernel
theorem dX8_sum_123 : decode cX8_sum 123 = .ok (.getfield 32, 3) := by decide +kernel
theorem dX8_sum_126 : decode cX8_sum 126 = .ok (.iload 6, 2) := by decide +kernel
theorem dX8_sum_128 : decode cX8_sum 128 = .ok (.aload_n 0, 1) := by decide +kernel
theorem dX8_sum_129 : decode cX8_sum 129 = .ok (.getfield 46, 3) := by decide +kernel
theorem dX8_sum_132 : decode cX8_sum 132 = .ok (.invokevirtual 95, 3) := by decide +kernel
theorem dX8_sum_135 : decode cX8_sum 135 = .ok (.ifCond .eq 18, 3) := by decide +kernel
theorem dX8_sum_138 : decode cX8_sum 138 = .ok (.iload 5, 2) := by decide +kernel
theorem dX8_sum_140 : decode cX8_sum 140 = .ok (.aload_n 0, 1) := by decide +kernel
theorem dX8_sum_141 : decode cX8_sum 141 = .ok (.getfield 32, 3) := by decide +kernel
theorem dX8_sum_144 : decode cX8_sum 144 = .ok (.getfield 99, 3) := by decide +kernel
theorem dX8_sum_147 : decode cX8_sum 147 = .ok (.iload 6, 2) := by decide +kernel
theorem dX8_sum_149 : decode cX8_sum 149 = .ok (.iaload, 1) := by decide +kernel
theorem dX8_sum_150 : decode cX8_sum 150 = .ok (.iadd, 1) := by decide +kernel
theorem dX8_sum_151 : decode cX8_sum 151 = .ok (.istore 5, 2) := by decide +kernel
theorem dX8_sum_153 : decode cX8_sum 153 = .ok (.iinc 6 1, 3) := by decide +kernel
theorem dX8_sum_156 : decode cX8_sum 156 = .ok (.goto (-67), 3) := by decide +kernel
theorem dX8_sum_159 : decode cX8_sum 159 = .ok (.iload 5, 2) := by decide +kernel
theorem dX8_sum_161 : decode cX8_sum 161 = .ok (.iload_n 1, 1) := by decide +kernel
theorem dX8_sum_162 : decode cX8_sum 162 = .ok (.ifCond .ne 8, 3) := by decide +kernel
theorem dX8_sum_165 : decode cX8_sum 165 = .ok (.bipush 100, 2) := by decide +kernel
theorem dX8_sum_167 : decode cX8_sum 167 = .ok (.goto 5, 3) := by decide +kernel
theorem dX8_sum_170 : decode cX8_sum 170 = .ok (.bipush 99, 2) := by decide +kernel
theorem dX8_sum_172 : decode cX8_sum 172 = .ok (.invokestatic 102, 3) := by decide +kernel
theorem dX8_sum_175 : decode cX8_sum 175 = .ok (.ireturn, 1) := by decide +kernel
def f_X8_sum_L89 (n0 : Nat) (c1 : Int32) (u : PM) : Int32 × Int32 → Option ((Int32 × Int32) ⊕ (Int32)) := fun (x5 , x6) =>
  match u.2.2 (n0 + 1) with
  | none =>
    none
  | some p15 =>
    if p15 < 5 then
      if (u.1 (11, p15, 0) 0) ≤ x6 then
        some (.inr (x5))
      else
      if (10 : Int32) ≤ x6 then
        some (.inr (x5))
      else
      if x6 < 0 ∨ 10 ≤ x6.toNatClampNeg then none else
      if (u.1 (12, p15, 0) x6.toNatClampNeg) = c1 then
        (f_X3_holds p15 n0 x6 u).bind fun r19 =>
        if r19 = 0 then
          some (.inl (x5, x6 + (1 : Int32)))
        else
        some (.inl (x5 + (u.1 (13, p15, 0) x6.toNatClampNeg), x6 + (1 : Int32)))
      else
      some (.inl (x5, x6 + (1 : Int32)))
    else none
set_option maxHeartbeats 4000000 in
set_option maxRecDepth 20000 in
theorem K_X8_sum_L89 {l : Launch} {T : Option AV × List Key × AM} {n0 : Nat} (hn0 : n0 < 4) {c1 : Int32} {u : PM} : ∀ (n : Nat) (s : Int32 × Int32) (e0 : Int32), am_loop (f_X8_sum_L89 n0 c1 u) n s = some e0 → (fun e : Int32 => X l mX8_sum 3 0 0 false T kC 0 0 159 [none, some (vI c1), none, none, none, some (vI e), none] [] (en u)) e0 → X l mX8_sum 3 0 0 false T kC 0 0 89 [some (vR (1, n0, 0)), some (vI c1), none, none, none, some (vI s.1), some (vI s.2)] [] (en u) := by
  refine am_loop_of ?_
  intro s x hf k1 k2
  obtain ⟨x5 , x6⟩ := s
  unfold f_X8_sum_L89 at hf
  show X l mX8_sum 3 0 0 false T kC 0 0 89 [some (vR (1, n0, 0)), some (vI c1), none, none, none, some (vI x5), some (vI x6)] [] (en u)
  refine r_iload (x := x6) dX8_sum_89 rfl ?_
  refine r_aload_n (x := (1, n0, 0)) dX8_sum_91 rfl ?_
  cases he17 : u.2.2 (n0 + 1) with
  | none =>
    rw [he17] at hf
    refine e_getr (z := none) fw_X8_32 dX8_sum_92 (kC_mem (s := 1) (by decide) hn0 (by decide)) rfl (lt_b rfl) (by show Option.map _ (u.2.2 (n0 + 1)) = _; rw [he17]; rfl) ?_
    cases hf
  | some p15 =>
    rw [he17] at hf
    obtain ⟨h16, hf⟩ := am_chk hf
    refine e_getr (z := some (11, p15, 0)) fw_X8_32 dX8_sum_92 (kC_mem (s := 1) (by decide) hn0 (by decide)) rfl (lt_b rfl) (by show Option.map _ (u.2.2 (n0 + 1)) = _; rw [he17]; rfl) ?_
    refine e_geti fw_X8_87 dX8_sum_95 (kC_mem (s := 11) (by decide) h16 (by decide)) rfl (lt_b rfl) ?_
    refine r_icmp_ge (tgt := 159) dX8_sum_98 (by decide) (fun hc => ?_) (fun hc => ?_)
    · have hf := (am_if hf).1 hc
      refine r_weak (L' := [none, some (vI c1), none, none, none, some (vI x5), none]) (And.intro rfl (And.intro rfl trivial)) ?_
      exact k2 _ (am_inj hf).symm
    · have hf := (am_if hf).2 hc
      refine r_iload (x := x6) dX8_sum_101 rfl ?_
      refine r_bipush (v := 10) dX8_sum_103 rfl ?_
      refine r_icmp_ge (tgt := 159) dX8_sum_105 (by decide) (fun hc => ?_) (fun hc => ?_)
      · have hf := (am_if hf).1 hc
        refine r_weak (L' := [none, some (vI c1), none, none, none, some (vI x5), none]) (And.intro rfl (And.intro rfl trivial)) ?_
        exact k2 _ (am_inj hf).symm
      · have hf := (am_if hf).2 hc
        refine r_aload_n (x := (1, n0, 0)) dX8_sum_108 rfl ?_
        refine e_getr (z := some (11, p15, 0)) fw_X8_32 dX8_sum_109 (kC_mem (s := 1) (by decide) hn0 (by decide)) rfl (lt_b rfl) (by show Option.map _ (u.2.2 (n0 + 1)) = _; rw [he17]; rfl) ?_
        refine e_getr (z := some (12, p15, 0)) fw_X8_92 dX8_sum_112 (kC_mem (s := 11) (by decide) h16 (by decide)) rfl (lt_b rfl) rfl ?_
        refine r_iload (x := x6) dX8_sum_115 rfl ?_
        obtain ⟨h18, hf⟩ := am_nchk hf
        refine e_iald (n := x6.toNatClampNeg) dX8_sum_117 (kC_mem (s := 12) (by decide) h16 (by decide)) rfl h18 rfl rfl ?_
        refine r_iload_n (x := c1) dX8_sum_118 rfl ?_
        refine r_icmp_ne (tgt := 153) dX8_sum_119 (by decide) (fun hc => ?_) (fun hc => ?_)
        · have hf := (am_if hf).2 hc
          refine r_iinc (x := x6) (v := x6 + (1 : Int32)) (L' := [some (vR (1, n0, 0)), some (vI c1), none, none, none, some (vI x5), some (vI (x6 + (1 : Int32)))]) dX8_sum_153 rfl rfl (lt_b rfl) rfl ?_
          refine r_goto (tgt := 89) dX8_sum_156 (by decide) ?_
          refine r_weak (L' := [some (vR (1, n0, 0)), some (vI c1), none, none, none, some (vI x5), some (vI (x6 + (1 : Int32)))]) (And.intro rfl (And.intro rfl (And.intro rfl (And.intro rfl trivial)))) ?_
          exact k1 _ (am_inj hf).symm
        · have hf := (am_if hf).1 hc
          refine r_aload_n (x := (1, n0, 0)) dX8_sum_122 rfl ?_
          refine e_getr (z := some (11, p15, 0)) fw_X8_32 dX8_sum_123 (kC_mem (s := 1) (by decide) hn0 (by decide)) rfl (lt_b rfl) (by show Option.map _ (u.2.2 (n0 + 1)) = _; rw [he17]; rfl) ?_
          refine r_iload (x := x6) dX8_sum_126 rfl ?_
          refine r_aload_n (x := (1, n0, 0)) dX8_sum_128 rfl ?_
          refine e_getr (z := some (8, n0, 0)) fw_X8_46 dX8_sum_129 (kC_mem (s := 1) (by decide) hn0 (by decide)) rfl (lt_b rfl) rfl ?_
          obtain ⟨r19, hr20, hf⟩ := am_bind hf
          refine r_callV (as := [vI x6, vR (8, n0, 0)]) (st := []) (n := 2) mw_X8_95 mv_X3_holds (C_X3_holds (l := l) h16 hn0 hr20) (by decide) dX8_sum_132 (kC_mem (s := 11) (by decide) h16 (by decide)) rfl rfl rfl (le_b rfl) (le_b rfl) (le_b rfl) ?_
          show X l _ _ 0 0 false _ kC 0 0 135 [some (vR (1, n0, 0)), some (vI c1), none, none, none, some (vI x5), some (vI x6)] [vI r19] (en u)
          refine r_if_eq (tgt := 153) dX8_sum_135 (by decide) (fun hc => ?_) (fun hc => ?_)
          · have hf := (am_if hf).1 hc
            refine r_iinc (x := x6) (v := x6 + (1 : Int32)) (L' := [some (vR (1, n0, 0)), some (vI c1), none, none, none, some (vI x5), some (vI (x6 + (1 : Int32)))]) dX8_sum_153 rfl rfl (lt_b rfl) rfl ?_
            refine r_goto (tgt := 89) dX8_sum_156 (by decide) ?_
            refine r_weak (L' := [some (vR (1, n0, 0)), some (vI c1), none, none, none, some (vI x5), some (vI (x6 + (1 : Int32)))]) (And.intro rfl (And.intro rfl (And.intro rfl (And.intro rfl trivial)))) ?_
            exact k1 _ (am_inj hf).symm
          · have hf := (am_if hf).2 hc
            refine r_iload (x := x5) dX8_sum_138 rfl ?_
            refine r_aload_n (x := (1, n0, 0)) dX8_sum_140 rfl ?_
            refine e_getr (z := some (11, p15, 0)) fw_X8_32 dX8_sum_141 (kC_mem (s := 1) (by decide) hn0 (by decide)) rfl (lt_b rfl) (by show Option.map _ (u.2.2 (n0 + 1)) = _; rw [he17]; rfl) ?_
            refine e_getr (z := some (13, p15, 0)) fw_X8_99 dX8_sum_144 (kC_mem (s := 11) (by decide) h16 (by decide)) rfl (lt_b rfl) rfl ?_
            refine r_iload (x := x6) dX8_sum_147 rfl ?_
            refine e_iald (n := x6.toNatClampNeg) dX8_sum_149 (kC_mem (s := 13) (by decide) h16 (by decide)) rfl h18 rfl rfl ?_
            refine r_iadd dX8_sum_150 ?_
            refine r_istore (L' := [some (vR (1, n0, 0)), some (vI c1), none, none, none, some (vI (x5 + (u.1 (13, p15, 0) x6.toNatClampNeg))), some (vI x6)]) dX8_sum_151 (by decide) rfl ?_
            refine r_iinc (x := x6) (v := x6 + (1 : Int32)) (L' := [some (vR (1, n0, 0)), some (vI c1), none, none, none, some (vI (x5 + (u.1 (13, p15, 0) x6.toNatClampNeg))), some (vI (x6 + (1 : Int32)))]) dX8_sum_153 rfl rfl (lt_b rfl) rfl ?_
            refine r_goto (tgt := 89) dX8_sum_156 (by decide) ?_
            refine r_weak (L' := [some (vR (1, n0, 0)), some (vI c1), none, none, none, some (vI (x5 + (u.1 (13, p15, 0) x6.toNatClampNeg))), some (vI (x6 + (1 : Int32)))]) (And.intro rfl (And.intro rfl (And.intro rfl (And.intro rfl trivial)))) ?_
            exact k1 _ (am_inj hf).symm
def f_X8_sum (v : Nat) (a0 : Int32) (a1 : Int32) (a2 : Int32) (u : PM) : Option (Int32 × PM) :=
  (f_X8_find v a1 u).bind fun r1 =>
  match r1 with
  | none =>
    match u.2.2 (v + 1) with
    | none =>
      some ((0 : Int32), u)
    | some p5 =>
      if p5 < 5 then
        some ((0 : Int32), u)
      else none
  | some p3 =>
    if p3 < 6 then
      match u.2.2 (v + 1) with
      | none =>
        some ((0 : Int32), u)
      | some p8 =>
        if p8 < 5 then
          (f_X8_litBits v (pi (pi (pi (pi (pi u (8, v, 0) 0 a2) (8, v, 0) 1 ((u.1 (1, v, 0) 4) - (u.1 (1, v, 0) 4) / (24 : Int32) * (24 : Int32))) (8, v, 0) 2 a1) (8, v, 0) 3 (u.1 (3, v, p3) 2)) (8, v, 0) 4 (u.1 (3, v, p3) 0))).bind fun r11 =>
          (f_J6_bitCount_0f7a4 r11 (pi (pi (pi (pi (pi u (8, v, 0) 0 a2) (8, v, 0) 1 ((u.1 (1, v, 0) 4) - (u.1 (1, v, 0) 4) / (24 : Int32) * (24 : Int32))) (8, v, 0) 2 a1) (8, v, 0) 3 (u.1 (3, v, p3) 2)) (8, v, 0) 4 (u.1 (3, v, p3) 0))).bind fun r13 =>
          (am_loop (f_X8_sum_L89 v a0 (pi (pi (pi (pi (pi (pi u (8, v, 0) 0 a2) (8, v, 0) 1 ((u.1 (1, v, 0) 4) - (u.1 (1, v, 0) 4) / (24 : Int32) * (24 : Int32))) (8, v, 0) 2 a1) (8, v, 0) 3 (u.1 (3, v, p3) 2)) (8, v, 0) 4 (u.1 (3, v, p3) 0)) (8, v, 0) 5 r13)) 2000 ((0 : Int32), (0 : Int32))).bind fun y23 =>
          if a0 = 0 then
            some ((if (100 : Int32) < y23 then (100 : Int32) else y23), (pi (pi (pi (pi (pi (pi u (8, v, 0) 0 a2) (8, v, 0) 1 ((u.1 (1, v, 0) 4) - (u.1 (1, v, 0) 4) / (24 : Int32) * (24 : Int32))) (8, v, 0) 2 a1) (8, v, 0) 3 (u.1 (3, v, p3) 2)) (8, v, 0) 4 (u.1 (3, v, p3) 0)) (8, v, 0) 5 r13))
          else
          some ((if (99 : Int32) < y23 then (99 : Int32) else y23), (pi (pi (pi (pi (pi (pi u (8, v, 0) 0 a2) (8, v, 0) 1 ((u.1 (1, v, 0) 4) - (u.1 (1, v, 0) 4) / (24 : Int32) * (24 : Int32))) (8, v, 0) 2 a1) (8, v, 0) 3 (u.1 (3, v, p3) 2)) (8, v, 0) 4 (u.1 (3, v, p3) 0)) (8, v, 0) 5 r13))
        else none
    else none
set_option maxHeartbeats 4000000 in
set_option maxRecDepth 20000 in
theorem C_X8_sum {l : Launch} {v : Nat} (hv : v < 4) {a0 : Int32} {a1 : Int32} {a2 : Int32} {u : PM} {x : Int32 × PM} (hf : f_X8_sum v a0 a1 a2 u = some x) : Ev l mX8_sum 3 0 0 false [vR (1, v, 0), vI a0, vI a1, vI a2] kC (en u) (some (vI x.1), kC, en x.2) := by
  refine Ev_of (by decide +kernel) (le_b rfl) ?_
  unfold f_X8_sum at hf
  show X l mX8_sum 3 0 0 false _ kC 0 0 0 [some (vR (1, v, 0)), some (vI a0), some (vI a1), some (vI a2), none, none, none] [] (en u)
  refine r_aload_n (x := (1, v, 0)) dX8_sum_0 rfl ?_
  refine r_iload_n (x := a1) dX8_sum_1 rfl ?_
  obtain ⟨r1, hr2, hf⟩ := am_bind hf
  refine r_callV (as := [vI a1]) (st := []) (n := 1) mw_X8_80 mv_X8_find (C_X8_find (l := l) hv hr2) (by decide) dX8_sum_2 (kC_mem (s := 1) (by decide) hv (by decide)) rfl rfl rfl (le_b rfl) (le_b rfl) (le_b rfl) ?_
  cases r1 with
  | none =>
    show X l _ _ 0 0 false _ kC 0 0 5 [some (vR (1, v, 0)), some (vI a0), some (vI a1), some (vI a2), none, none, none] [vN] (en u)
    refine r_astoreN (L' := [some (vR (1, v, 0)), some (vI a0), some (vI a1), some (vI a2), some (vN), none, none]) dX8_sum_5 (by decide) rfl ?_
    refine r_aload_n (x := (1, v, 0)) dX8_sum_7 rfl ?_
    cases he7 : u.2.2 (v + 1) with
    | none =>
      rw [he7] at hf
      refine e_getr (z := none) fw_X8_32 dX8_sum_8 (kC_mem (s := 1) (by decide) hv (by decide)) rfl (lt_b rfl) (by show Option.map _ (u.2.2 (v + 1)) = _; rw [he7]; rfl) ?_
      refine r_ifnullN (tgt := 19) dX8_sum_11 (by decide) ?_
      refine r_iconst (v := 0) dX8_sum_19 rfl ?_
      have hx := am_inj hf
      subst hx
      exact r_iret dX8_sum_20 rfl rfl (le_b rfl) (le_b rfl)
    | some p5 =>
      rw [he7] at hf
      obtain ⟨h6, hf⟩ := am_chk hf
      refine e_getr (z := some (11, p5, 0)) fw_X8_32 dX8_sum_8 (kC_mem (s := 1) (by decide) hv (by decide)) rfl (lt_b rfl) (by show Option.map _ (u.2.2 (v + 1)) = _; rw [he7]; rfl) ?_
      refine r_ifnullR dX8_sum_11 ?_
      refine r_aloadN dX8_sum_14 rfl ?_
      refine r_ifnonnullN dX8_sum_16 ?_
      refine r_iconst (v := 0) dX8_sum_19 rfl ?_
      have hx := am_inj hf
      subst hx
      exact r_iret dX8_sum_20 rfl rfl (le_b rfl) (le_b rfl)
  | some p3 =>
    obtain ⟨h4, hf⟩ := am_chk hf
    show X l _ _ 0 0 false _ kC 0 0 5 [some (vR (1, v, 0)), some (vI a0), some (vI a1), some (vI a2), none, none, none] [vR (3, v, p3)] (en u)
    refine r_astore (L' := [some (vR (1, v, 0)), some (vI a0), some (vI a1), some (vI a2), some (vR (3, v, p3)), none, none]) dX8_sum_5 (by decide) rfl ?_
    refine r_aload_n (x := (1, v, 0)) dX8_sum_7 rfl ?_
    cases he10 : u.2.2 (v + 1) with
    | none =>
      rw [he10] at hf
      refine e_getr (z := none) fw_X8_32 dX8_sum_8 (kC_mem (s := 1) (by decide) hv (by decide)) rfl (lt_b rfl) (by show Option.map _ (u.2.2 (v + 1)) = _; rw [he10]; rfl) ?_
      refine r_ifnullN (tgt := 19) dX8_sum_11 (by decide) ?_
      refine r_iconst (v := 0) dX8_sum_19 rfl ?_
      have hx := am_inj hf
      subst hx
      exact r_iret dX8_sum_20 rfl rfl (le_b rfl) (le_b rfl)
    | some p8 =>
      rw [he10] at hf
      obtain ⟨h9, hf⟩ := am_chk hf
      refine e_getr (z := some (11, p8, 0)) fw_X8_32 dX8_sum_8 (kC_mem (s := 1) (by decide) hv (by decide)) rfl (lt_b rfl) (by show Option.map _ (u.2.2 (v + 1)) = _; rw [he10]; rfl) ?_
      refine r_ifnullR dX8_sum_11 ?_
      refine r_aload (x := (3, v, p3)) dX8_sum_14 rfl ?_
      refine r_ifnonnullR (tgt := 21) dX8_sum_16 (by decide) ?_
      refine r_aload_n (x := (1, v, 0)) dX8_sum_21 rfl ?_
      refine e_getr (z := some (8, v, 0)) fw_X8_46 dX8_sum_22 (kC_mem (s := 1) (by decide) hv (by decide)) rfl (lt_b rfl) rfl ?_
      refine r_iconst (v := 0) dX8_sum_25 rfl ?_
      refine r_iload_n (x := a2) dX8_sum_26 rfl ?_
      refine e_iast (n := 0) dX8_sum_27 (kC_mem (s := 8) (by decide) hv (by decide)) rfl (vp_lit (i := 0) (n := 6) rfl) rfl ?_
      refine r_aload_n (x := (1, v, 0)) dX8_sum_28 rfl ?_
      refine e_getr (z := some (8, v, 0)) fw_X8_46 dX8_sum_29 (kC_mem (s := 1) (by decide) hv (by decide)) rfl (lt_b rfl) rfl ?_
      refine r_iconst (v := 1) dX8_sum_32 rfl ?_
      refine r_aload_n (x := (1, v, 0)) dX8_sum_33 rfl ?_
      refine e_geti_ (x := u.1 (1, v, 0) 4) fw_X8_29 dX8_sum_34 (kC_mem (s := 1) (by decide) hv (by decide)) rfl (lt_b rfl) (by simp [pi, pl, pr, pci, pcl]) ?_
      refine r_bipush (v := 24) dX8_sum_37 rfl ?_
      refine r_irem dX8_sum_39 (by decide) ?_
      refine e_iast (n := 1) dX8_sum_40 (kC_mem (s := 8) (by decide) hv (by decide)) rfl (vp_lit (i := 1) (n := 6) rfl) rfl ?_
      refine r_aload_n (x := (1, v, 0)) dX8_sum_41 rfl ?_
      refine e_getr (z := some (8, v, 0)) fw_X8_46 dX8_sum_42 (kC_mem (s := 1) (by decide) hv (by decide)) rfl (lt_b rfl) rfl ?_
      refine r_iconst (v := 2) dX8_sum_45 rfl ?_
      refine r_iload_n (x := a1) dX8_sum_46 rfl ?_
      refine e_iast (n := 2) dX8_sum_47 (kC_mem (s := 8) (by decide) hv (by decide)) rfl (vp_lit (i := 2) (n := 6) rfl) rfl ?_
      refine r_aload_n (x := (1, v, 0)) dX8_sum_48 rfl ?_
      refine e_getr (z := some (8, v, 0)) fw_X8_46 dX8_sum_49 (kC_mem (s := 1) (by decide) hv (by decide)) rfl (lt_b rfl) rfl ?_
      refine r_iconst (v := 3) dX8_sum_52 rfl ?_
      refine r_aload (x := (3, v, p3)) dX8_sum_53 rfl ?_
      refine e_geti_ (x := u.1 (3, v, p3) 2) fw_X8_74 dX8_sum_55 (kC_mem (s := 3) (by decide) hv h4) rfl (lt_b rfl) (by simp [pi, pl, pr, pci, pcl]) ?_
      refine e_iast (n := 3) dX8_sum_58 (kC_mem (s := 8) (by decide) hv (by decide)) rfl (vp_lit (i := 3) (n := 6) rfl) rfl ?_
      refine r_aload_n (x := (1, v, 0)) dX8_sum_59 rfl ?_
      refine e_getr (z := some (8, v, 0)) fw_X8_46 dX8_sum_60 (kC_mem (s := 1) (by decide) hv (by decide)) rfl (lt_b rfl) rfl ?_
      refine r_iconst (v := 4) dX8_sum_63 rfl ?_
      refine r_aload (x := (3, v, p3)) dX8_sum_64 rfl ?_
      refine e_geti_ (x := u.1 (3, v, p3) 0) fw_X8_84 dX8_sum_66 (kC_mem (s := 3) (by decide) hv h4) rfl (lt_b rfl) (by simp [pi, pl, pr, pci, pcl]) ?_
      refine e_iast (n := 4) dX8_sum_69 (kC_mem (s := 8) (by decide) hv (by decide)) rfl (vp_lit (i := 4) (n := 6) rfl) rfl ?_
      refine r_aload_n (x := (1, v, 0)) dX8_sum_70 rfl ?_
      refine e_getr (z := some (8, v, 0)) fw_X8_46 dX8_sum_71 (kC_mem (s := 1) (by decide) hv (by decide)) rfl (lt_b rfl) rfl ?_
      refine r_iconst (v := 5) dX8_sum_74 rfl ?_
      refine r_aload_n (x := (1, v, 0)) dX8_sum_75 rfl ?_
      obtain ⟨r11, hr12, hf⟩ := am_bind hf
      refine r_callV (as := []) (st := [vI (5 : Int32), vR (8, v, 0)]) (n := 0) mw_X8_64 mv_X8_litBits (C_X8_litBits (l := l) hv hr12) (by decide) dX8_sum_76 (kC_mem (s := 1) (by decide) hv (by decide)) rfl rfl rfl (le_b rfl) (le_b rfl) (le_b rfl) ?_
      show X l _ _ 0 0 false _ kC 0 0 79 [some (vR (1, v, 0)), some (vI a0), some (vI a1), some (vI a2), some (vR (3, v, p3)), none, none] [vI r11, vI (5 : Int32), vR (8, v, 0)] (en (pi (pi (pi (pi (pi u (8, v, 0) 0 a2) (8, v, 0) 1 ((u.1 (1, v, 0) 4) - (u.1 (1, v, 0) 4) / (24 : Int32) * (24 : Int32))) (8, v, 0) 2 a1) (8, v, 0) 3 (u.1 (3, v, p3) 2)) (8, v, 0) 4 (u.1 (3, v, p3) 0)))
      obtain ⟨r13, hr14, hf⟩ := am_bind hf
      refine r_callS (as := [vI r11]) (st := [vI (5 : Int32), vR (8, v, 0)]) (n := 1) mw_X8_68 ms_J6_bitCount_0f7a4 (C_J6_bitCount_0f7a4 (l := l) hr14) (by decide) dX8_sum_79 rfl (le_b rfl) (le_b rfl) (le_b rfl) ?_
      show X l _ _ 0 0 false _ kC 0 0 82 [some (vR (1, v, 0)), some (vI a0), some (vI a1), some (vI a2), some (vR (3, v, p3)), none, none] [vI r13, vI (5 : Int32), vR (8, v, 0)] (en (pi (pi (pi (pi (pi u (8, v, 0) 0 a2) (8, v, 0) 1 ((u.1 (1, v, 0) 4) - (u.1 (1, v, 0) 4) / (24 : Int32) * (24 : Int32))) (8, v, 0) 2 a1) (8, v, 0) 3 (u.1 (3, v, p3) 2)) (8, v, 0) 4 (u.1 (3, v, p3) 0)))
      refine e_iast (n := 5) dX8_sum_82 (kC_mem (s := 8) (by decide) hv (by decide)) rfl (vp_lit (i := 5) (n := 6) rfl) rfl ?_
      refine r_iconst (v := 0) dX8_sum_83 rfl ?_
      refine r_istore (L' := [some (vR (1, v, 0)), some (vI a0), some (vI a1), some (vI a2), some (vR (3, v, p3)), some (vI (0 : Int32)), none]) dX8_sum_84 (by decide) rfl ?_
      refine r_iconst (v := 0) dX8_sum_86 rfl ?_
      refine r_istore (L' := [some (vR (1, v, 0)), some (vI a0), some (vI a1), some (vI a2), some (vR (3, v, p3)), some (vI (0 : Int32)), some (vI (0 : Int32))]) dX8_sum_87 (by decide) rfl ?_
      refine r_weak (L' := [some (vR (1, v, 0)), some (vI a0), none, none, none, some (vI (0 : Int32)), some (vI (0 : Int32))]) (And.intro rfl (And.intro rfl (And.intro rfl (And.intro rfl trivial)))) ?_
      obtain ⟨e21, he22, hf⟩ := am_bind hf
      refine K_X8_sum_L89 hv 2000 ((0 : Int32), (0 : Int32)) _ he22 ?_
      obtain ⟨y23, rfl⟩ : ∃ z, z = e21 := ⟨_, rfl⟩
      show X l _ _ 0 0 false _ kC 0 0 159 [none, some (vI a0), none, none, none, some (vI y23), none] [] (en (pi (pi (pi (pi (pi (pi u (8, v, 0) 0 a2) (8, v, 0) 1 ((u.1 (1, v, 0) 4) - (u.1 (1, v, 0) 4) / (24 : Int32) * (24 : Int32))) (8, v, 0) 2 a1) (8, v, 0) 3 (u.1 (3, v, p3) 2)) (8, v, 0) 4 (u.1 (3, v, p3) 0)) (8, v, 0) 5 r13))
      refine r_iload (x := y23) dX8_sum_159 rfl ?_
      refine r_iload_n (x := a0) dX8_sum_161 rfl ?_
      refine r_if_ne (tgt := 170) dX8_sum_162 (by decide) (fun hc => ?_) (fun hc => ?_)
      · have hf := (am_if hf).2 hc
        refine r_bipush (v := 99) dX8_sum_170 rfl ?_
        refine r_mmin jm_X8_102 js_min.1 js_min.2.1 js_min.2.2 dX8_sum_172 (le_b rfl) (le_b rfl) (le_b rfl) (le_b rfl) ?_
        have hx := am_inj hf
        subst hx
        exact r_iret dX8_sum_175 rfl rfl (le_b rfl) (le_b rfl)
      · have hf := (am_if hf).1 hc
        refine r_bipush (v := 100) dX8_sum_165 rfl ?_
        refine r_goto (tgt := 172) dX8_sum_167 (by decide) ?_
        refine r_mmin jm_X8_102 js_min.1 js_min.2.1 js_min.2.2 dX8_sum_172 (le_b rfl) (le_b rfl) (le_b rfl) (le_b rfl) ?_
        have hx := am_inj hf
        subst hx
        exact r_iret dX8_sum_175 rfl rfl (le_b rfl) (le_b rfl)
/-! FireFromFire$Village.tenthsOf -/
theorem dX8_tenthsOf_0 : decode cX8_tenthsOf 0 = .ok (.bipush 10, 2) := by decide +kernel
theorem dX8_tenthsOf_2 : decode cX8_tenthsOf 2 = .ok (.istore_n 3, 1) := by decide +kernel
theorem dX8_tenthsOf_3 : decode cX8_tenthsOf 3 = .ok (.iconst 0, 1) := by decide +kernel
theorem dX8_tenthsOf_4 : decode cX8_tenthsOf 4 = .ok (.istore 4, 2) := by decide +kernel
theorem dX8_tenthsOf_6 : decode cX8_tenthsOf 6 = .ok (.iload 4, 2) := by decide +kernel
theorem dX8_tenthsOf_8 : decode cX8_tenthsOf 8 = .ok (.iconst 3, 1) := by decide +kernel
theorem dX8_tenthsOf_9 : decode cX8_tenthsOf 9 = .ok (.if_icmp .ge 56, 3) := by decide +kernel
theorem dX8_tenthsOf_12 : decode cX8_tenthsOf 12 = .ok (.iload 4, 2) := by decide +kernel
theorem dX8_tenthsOf_14 : decode cX8_tenthsOf 14 = .ok (.iload_n 1, 1) := by decide +kernel
theorem dX8_tenthsOf_15 : decode cX8_tenthsOf 15 = .ok (.if_icmp .eq 44, 3) := by decide +kernel
theorem dX8_tenthsOf_18 : decode cX8_tenthsOf 18 = .ok (.aload_n 0, 1) := by decide +kernel
theorem dX8_tenthsOf_19 : decode cX8_tenthsOf 19 = .ok (.getfield 32, 3) := by decide +kernel
theorem dX8_tenthsOf_22 : decode cX8_tenthsOf 22 = .ok (.ifnonnull 7, 3) := by decide +kernel
theorem dX8_tenthsOf_25 : decode cX8_tenthsOf 25 = .ok (.iconst 0, 1) := by decide +kernel
theorem dX8_tenthsOf_26 : decode cX8_tenthsOf 26 = .ok (.goto 17, 3) := by decide +kernel
theorem dX8_tenthsOf_29 : decode cX8_tenthsOf 29 = .ok (.iload_n 3, 1) := by decide +kernel
theorem dX8_tenthsOf_30 : decode cX8_tenthsOf 30 = .ok (.aload_n 0, 1) := by decide +kernel
theorem dX8_tenthsOf_31 : decode cX8_tenthsOf 31 = .ok (.getfield 32, 3) := by decide +kernel
theorem dX8_tenthsOf_34 : decode cX8_tenthsOf 34 = .ok (.iload_n 1, 1) := by decide +kernel
theorem dX8_tenthsOf_35 : decode cX8_tenthsOf 35 = .ok (.iload 4, 2) := by decide +kernel
theorem dX8_tenthsOf_37 : decode cX8_tenthsOf 37 = .ok (.invokevirtual 108, 3) := by decide +kernel
theorem dX8_tenthsOf_40 : decode cX8_tenthsOf 40 = .ok (.invokestatic 102, 3) := by decide +kernel
theorem dX8_tenthsOf_43 : decode cX8_tenthsOf 43 = .ok (.istore 5, 2) := by decide +kernel
theorem dX8_tenthsOf_45 : decode cX8_tenthsOf 45 = .ok (.iload 4, 2) := by decide +kernel
theorem dX8_tenthsOf_47 : decode cX8_tenthsOf 47 = .ok (.iload_n 2, 1) := by decide +kernel
theorem dX8_tenthsOf_48 : decode cX8_tenthsOf 48 = .ok (.if_icmp .ne 6, 3) := by decide +kernel
theorem dX8_tenthsOf_51 : decode cX8_tenthsOf 51 = .ok (.iload 5, 2) := by decide +kernel
theorem dX8_tenthsOf_53 : decode cX8_tenthsOf 53 = .ok (.ireturn, 1) := by decide +kernel
theorem dX8_tenthsOf_54 : decode cX8_tenthsOf 54 = .ok (.iload_n 3, 1) := by decide +kernel
theorem dX8_tenthsOf_55 : decode cX8_tenthsOf 55 = .ok (.iload 5, 2) := by decide +kernel
theorem dX8_tenthsOf_57 : decode cX8_tenthsOf 57 = .ok (.isub, 1) := by decide +kernel
theorem dX8_tenthsOf_58 : decode cX8_tenthsOf 58 = .ok (.istore_n 3, 1) := by decide +kernel
theorem dX8_tenthsOf_59 : decode cX8_tenthsOf 59 = .ok (.iinc 4 1, 3) := by decide +kernel
theorem dX8_tenthsOf_62 : decode cX8_tenthsOf 62 = .ok (.goto (-56), 3) := by decide +kernel
theorem dX8_tenthsOf_65 : decode cX8_tenthsOf 65 = .ok (.iload_n 3, 1) := by decide +kernel
theorem dX8_tenthsOf_66 : decode cX8_tenthsOf 66 = .ok (.ireturn, 1) := by decide +kernel
def f_X8_tenthsOf_L6 (n0 : Nat) (c1 : Int32) (c2 : Int32) (u : PM) : Int32 × Int32 → Option ((Int32 × Int32) ⊕ ((Int32) ⊕ (Int32))) := fun (x3 , x4) =>
  if (3 : Int32) ≤ x4 then
    some (.inr (.inr (x3)))
  else
  if x4 = c1 then
    some (.inl (x3, x4 + (1 : Int32)))
  else
  match u.2.2 (n0 + 1) with
  | none =>
    if x4 = c2 then
      some (.inr (.inl (0 : Int32)))
    else
    some (.inl (x3 - (0 : Int32), x4 + (1 : Int32)))
  | some p1 =>
    if p1 < 5 then
      (f_X3_lastNext p1 c1 x4 u).bind fun r4 =>
      if x4 = c2 then
        some (.inr (.inl (if r4 < x3 then r4 else x3)))
      else
      some (.inl (x3 - (if r4 < x3 then r4 else x3), x4 + (1 : Int32)))
    else none
set_option maxHeartbeats 4000000 in
set_option maxRecDepth 20000 in
theorem K_X8_tenthsOf_L6 {l : Launch} {T : Option AV × List Key × AM} {n0 : Nat} (hn0 : n0 < 4) {c1 : Int32} {c2 : Int32} {u : PM} : ∀ (n : Nat) (s : Int32 × Int32) (e0 : (Int32) ⊕ (Int32)), am_loop (f_X8_tenthsOf_L6 n0 c1 c2 u) n s = some e0 → Sum.elim (fun r : Int32 => T = (some (vI r), kC, en u)) (fun e : Int32 => X l mX8_tenthsOf 2 0 0 false T kC 0 0 65 [none, none, none, some (vI e), none, none] [] (en u)) e0 → X l mX8_tenthsOf 2 0 0 false T kC 0 0 6 [some (vR (1, n0, 0)), some (vI c1), some (vI c2), some (vI s.1), some (vI s.2), none] [] (en u) := by
  refine am_loop_of ?_
  intro s x hf k1 k2
  obtain ⟨x3 , x4⟩ := s
  unfold f_X8_tenthsOf_L6 at hf
  show X l mX8_tenthsOf 2 0 0 false T kC 0 0 6 [some (vR (1, n0, 0)), some (vI c1), some (vI c2), some (vI x3), some (vI x4), none] [] (en u)
  refine r_iload (x := x4) dX8_tenthsOf_6 rfl ?_
  refine r_iconst (v := 3) dX8_tenthsOf_8 rfl ?_
  refine r_icmp_ge (tgt := 65) dX8_tenthsOf_9 (by decide) (fun hc => ?_) (fun hc => ?_)
  · have hf := (am_if hf).1 hc
    refine r_weak (L' := [none, none, none, some (vI x3), none, none]) (And.intro rfl trivial) ?_
    exact k2 _ (am_inj hf).symm
  · have hf := (am_if hf).2 hc
    refine r_iload (x := x4) dX8_tenthsOf_12 rfl ?_
    refine r_iload_n (x := c1) dX8_tenthsOf_14 rfl ?_
    refine r_icmp_eq (tgt := 59) dX8_tenthsOf_15 (by decide) (fun hc => ?_) (fun hc => ?_)
    · have hf := (am_if hf).1 hc
      refine r_iinc (x := x4) (v := x4 + (1 : Int32)) (L' := [some (vR (1, n0, 0)), some (vI c1), some (vI c2), some (vI x3), some (vI (x4 + (1 : Int32))), none]) dX8_tenthsOf_59 rfl rfl (lt_b rfl) rfl ?_
      refine r_goto (tgt := 6) dX8_tenthsOf_62 (by decide) ?_
      refine r_weak (L' := [some (vR (1, n0, 0)), some (vI c1), some (vI c2), some (vI x3), some (vI (x4 + (1 : Int32))), none]) (And.intro rfl (And.intro rfl (And.intro rfl (And.intro rfl (And.intro rfl trivial))))) ?_
      exact k1 _ (am_inj hf).symm
    · have hf := (am_if hf).2 hc
      refine r_aload_n (x := (1, n0, 0)) dX8_tenthsOf_18 rfl ?_
      cases he3 : u.2.2 (n0 + 1) with
      | none =>
        rw [he3] at hf
        refine e_getr (z := none) fw_X8_32 dX8_tenthsOf_19 (kC_mem (s := 1) (by decide) hn0 (by decide)) rfl (lt_b rfl) (by show Option.map _ (u.2.2 (n0 + 1)) = _; rw [he3]; rfl) ?_
        refine r_ifnonnullN dX8_tenthsOf_22 ?_
        refine r_iconst (v := 0) dX8_tenthsOf_25 rfl ?_
        refine r_goto (tgt := 43) dX8_tenthsOf_26 (by decide) ?_
        refine r_istore (L' := [some (vR (1, n0, 0)), some (vI c1), some (vI c2), some (vI x3), some (vI x4), some (vI (0 : Int32))]) dX8_tenthsOf_43 (by decide) rfl ?_
        refine r_iload (x := x4) dX8_tenthsOf_45 rfl ?_
        refine r_iload_n (x := c2) dX8_tenthsOf_47 rfl ?_
        refine r_icmp_ne (tgt := 54) dX8_tenthsOf_48 (by decide) (fun hc => ?_) (fun hc => ?_)
        · have hf := (am_if hf).2 hc
          refine r_iload_n (x := x3) dX8_tenthsOf_54 rfl ?_
          refine r_iload (x := (0 : Int32)) dX8_tenthsOf_55 rfl ?_
          refine r_isub dX8_tenthsOf_57 ?_
          refine r_istore_n (L' := [some (vR (1, n0, 0)), some (vI c1), some (vI c2), some (vI (x3 - (0 : Int32))), some (vI x4), some (vI (0 : Int32))]) dX8_tenthsOf_58 (by decide) rfl ?_
          refine r_iinc (x := x4) (v := x4 + (1 : Int32)) (L' := [some (vR (1, n0, 0)), some (vI c1), some (vI c2), some (vI (x3 - (0 : Int32))), some (vI (x4 + (1 : Int32))), some (vI (0 : Int32))]) dX8_tenthsOf_59 rfl rfl (lt_b rfl) rfl ?_
          refine r_goto (tgt := 6) dX8_tenthsOf_62 (by decide) ?_
          refine r_weak (L' := [some (vR (1, n0, 0)), some (vI c1), some (vI c2), some (vI (x3 - (0 : Int32))), some (vI (x4 + (1 : Int32))), none]) (And.intro rfl (And.intro rfl (And.intro rfl (And.intro rfl (And.intro rfl trivial))))) ?_
          exact k1 _ (am_inj hf).symm
        · have hf := (am_if hf).1 hc
          refine r_iload (x := (0 : Int32)) dX8_tenthsOf_51 rfl ?_
          have hT := k2 _ (am_inj hf).symm
          replace hT : T = (some (vI (0 : Int32)), kC, en u) := hT
          subst hT
          exact r_iret dX8_tenthsOf_53 rfl rfl (le_b rfl) (le_b rfl)
      | some p1 =>
        rw [he3] at hf
        obtain ⟨h2, hf⟩ := am_chk hf
        refine e_getr (z := some (11, p1, 0)) fw_X8_32 dX8_tenthsOf_19 (kC_mem (s := 1) (by decide) hn0 (by decide)) rfl (lt_b rfl) (by show Option.map _ (u.2.2 (n0 + 1)) = _; rw [he3]; rfl) ?_
        refine r_ifnonnullR (tgt := 29) dX8_tenthsOf_22 (by decide) ?_
        refine r_iload_n (x := x3) dX8_tenthsOf_29 rfl ?_
        refine r_aload_n (x := (1, n0, 0)) dX8_tenthsOf_30 rfl ?_
        refine e_getr (z := some (11, p1, 0)) fw_X8_32 dX8_tenthsOf_31 (kC_mem (s := 1) (by decide) hn0 (by decide)) rfl (lt_b rfl) (by show Option.map _ (u.2.2 (n0 + 1)) = _; rw [he3]; rfl) ?_
        refine r_iload_n (x := c1) dX8_tenthsOf_34 rfl ?_
        refine r_iload (x := x4) dX8_tenthsOf_35 rfl ?_
        obtain ⟨r4, hr5, hf⟩ := am_bind hf
        refine r_callV (as := [vI c1, vI x4]) (st := [vI x3]) (n := 2) mw_X8_108 mv_X3_lastNext (C_X3_lastNext (l := l) h2 hr5) (by decide) dX8_tenthsOf_37 (kC_mem (s := 11) (by decide) h2 (by decide)) rfl rfl rfl (le_b rfl) (le_b rfl) (le_b rfl) ?_
        show X l _ _ 0 0 false _ kC 0 0 40 [some (vR (1, n0, 0)), some (vI c1), some (vI c2), some (vI x3), some (vI x4), none] [vI r4, vI x3] (en u)
        refine r_mmin jm_X8_102 js_min.1 js_min.2.1 js_min.2.2 dX8_tenthsOf_40 (le_b rfl) (le_b rfl) (le_b rfl) (le_b rfl) ?_
        refine r_istore (L' := [some (vR (1, n0, 0)), some (vI c1), some (vI c2), some (vI x3), some (vI x4), some (vI (if r4 < x3 then r4 else x3))]) dX8_tenthsOf_43 (by decide) rfl ?_
        refine r_iload (x := x4) dX8_tenthsOf_45 rfl ?_
        refine r_iload_n (x := c2) dX8_tenthsOf_47 rfl ?_
        refine r_icmp_ne (tgt := 54) dX8_tenthsOf_48 (by decide) (fun hc => ?_) (fun hc => ?_)
        · have hf := (am_if hf).2 hc
          refine r_iload_n (x := x3) dX8_tenthsOf_54 rfl ?_
          refine r_iload (x := (if r4 < x3 then r4 else x3)) dX8_tenthsOf_55 rfl ?_
          refine r_isub dX8_tenthsOf_57 ?_
          refine r_istore_n (L' := [some (vR (1, n0, 0)), some (vI c1), some (vI c2), some (vI (x3 - (if r4 < x3 then r4 else x3))), some (vI x4), some (vI (if r4 < x3 then r4 else x3))]) dX8_tenthsOf_58 (by decide) rfl ?_
          refine r_iinc (x := x4) (v := x4 + (1 : Int32)) (L' := [some (vR (1, n0, 0)), some (vI c1), some (vI c2), some (vI (x3 - (if r4 < x3 then r4 else x3))), some (vI (x4 + (1 : Int32))), some (vI (if r4 < x3 then r4 else x3))]) dX8_tenthsOf_59 rfl rfl (lt_b rfl) rfl ?_
          refine r_goto (tgt := 6) dX8_tenthsOf_62 (by decide) ?_
          refine r_weak (L' := [some (vR (1, n0, 0)), some (vI c1), some (vI c2), some (vI (x3 - (if r4 < x3 then r4 else x3))), some (vI (x4 + (1 : Int32))), none]) (And.intro rfl (And.intro rfl (And.intro rfl (And.intro rfl (And.intro rfl trivial))))) ?_
          exact k1 _ (am_inj hf).symm
        · have hf := (am_if hf).1 hc
          refine r_iload (x := (if r4 < x3 then r4 else x3)) dX8_tenthsOf_51 rfl ?_
          have hT := k2 _ (am_inj hf).symm
          replace hT : T = (some (vI (if r4 < x3 then r4 else x3)), kC, en u) := hT
          subst hT
          exact r_iret dX8_tenthsOf_53 rfl rfl (le_b rfl) (le_b rfl)
def f_X8_tenthsOf (v : Nat) (a0 : Int32) (a1 : Int32) (u : PM) : Option (Int32) :=
  (am_loop (f_X8_tenthsOf_L6 v a0 a1 u) 2000 ((10 : Int32), (0 : Int32))).bind fun e6 =>
  match e6 with
  | .inl q9 => some q9
  | .inr y8 =>
    some y8
set_option maxHeartbeats 4000000 in
set_option maxRecDepth 20000 in
theorem C_X8_tenthsOf {l : Launch} {v : Nat} (hv : v < 4) {a0 : Int32} {a1 : Int32} {u : PM} {x : Int32} (hf : f_X8_tenthsOf v a0 a1 u = some x) : Ev l mX8_tenthsOf 2 0 0 false [vR (1, v, 0), vI a0, vI a1] kC (en u) (some (vI x), kC, en u) := by
  refine Ev_of (by decide +kernel) (le_b rfl) ?_
  unfold f_X8_tenthsOf at hf
  show X l mX8_tenthsOf 2 0 0 false _ kC 0 0 0 [some (vR (1, v, 0)), some (vI a0), some (vI a1), none, none, none] [] (en u)
  refine r_bipush (v := 10) dX8_tenthsOf_0 rfl ?_
  refine r_istore_n (L' := [some (vR (1, v, 0)), some (vI a0), some (vI a1), some (vI (10 : Int32)), none, none]) dX8_tenthsOf_2 (by decide) rfl ?_
  refine r_iconst (v := 0) dX8_tenthsOf_3 rfl ?_
  refine r_istore (L' := [some (vR (1, v, 0)), some (vI a0), some (vI a1), some (vI (10 : Int32)), some (vI (0 : Int32)), none]) dX8_tenthsOf_4 (by decide) rfl ?_
  refine r_weak (L' := [some (vR (1, v, 0)), some (vI a0), some (vI a1), some (vI (10 : Int32)), some (vI (0 : Int32)), none]) (And.intro rfl (And.intro rfl (And.intro rfl (And.intro rfl (And.intro rfl trivial))))) ?_
  obtain ⟨e6, he7, hf⟩ := am_bind hf
  refine K_X8_tenthsOf_L6 hv 2000 ((10 : Int32), (0 : Int32)) _ he7 ?_
  rcases e6 with q9 | e6
  · have hx := am_inj hf
    subst hx
    rfl
  · obtain ⟨y8, rfl⟩ : ∃ z, z = e6 := ⟨_, rfl⟩
    show X l _ _ 0 0 false _ kC 0 0 65 [none, none, none, some (vI y8), none, none] [] (en u)
    refine r_iload_n (x := y8) dX8_tenthsOf_65 rfl ?_
    have hx := am_inj hf
    subst hx
    exact r_iret dX8_tenthsOf_66 rfl rfl (le_b rfl) (le_b rfl)
/-! FireFromFire$Village.nearestFire -/
theorem dX8_nearestFire_0 : decode cX8_nearestFire 0 = .ok (.iconst (-1), 1) := by decide +kernel
theorem dX8_nearestFire_1 : decode cX8_nearestFire 1 = .ok (.istore_n 2, 1) := by decide +kernel
theorem dX8_nearestFire_2 : decode cX8_nearestFire 2 = .ok (.bipush 10, 2) := by decide +kernel
theorem dX8_nearestFire_4 : decode cX8_nearestFire 4 = .ok (.istore_n 3, 1) := by decide +kernel
theorem dX8_nearestFire_5 : decode cX8_nearestFire 5 = .ok (.iconst 0, 1) := by decide +kernel
theorem dX8_nearestFire_6 : decode cX8_nearestFire 6 = .ok (.istore 4, 2) := by decide +kernel
theorem dX8_nearestFire_8 : decode cX8_nearestFire 8 = .ok (.iload 4, 2) := by decide +kernel
theorem dX8_nearestFire_10 : decode cX8_nearestFire 10 = .ok (.aload_n 0, 1) := by decide +kernel
theorem dX8_nearestFire_11 : decode cX8_nearestFire 11 = .ok (.getfield 9, 3) := by decide +kernel
theorem dX8_nearestFire_14 : decode cX8_nearestFire 14 = .ok (.if_icmp .ge 55, 3) := by decide +kernel
theorem dX8_nearestFire_17 : decode cX8_nearestFire 17 = .ok (.iload 4, 2) := by decide +kernel
theorem dX8_nearestFire_19 : decode cX8_nearestFire 19 = .ok (.bipush 6, 2) := by decide +kernel
theorem dX8_nearestFire_21 : decode cX8_nearestFire 21 = .ok (.if_icmp .ge 48, 3) := by decide +kernel
theorem dX8_nearestFire_24 : decode cX8_nearestFire 24 = .ok (.aload_n 0, 1) := by decide +kernel
theorem dX8_nearestFire_25 : decode cX8_nearestFire 25 = .ok (.iload_n 1, 1) := by decide +kernel
theorem dX8_nearestFire_26 : decode cX8_nearestFire 26 = .ok (.iload 4, 2) := by decide +kernel
theorem dX8_nearestFire_28 : decode cX8_nearestFire 28 = .ok (.invokevirtual 111, 3) := by decide +kernel
theorem dX8_nearestFire_31 : decode cX8_nearestFire 31 = .ok (.istore 5, 2) := by decide +kernel
theorem dX8_nearestFire_33 : decode cX8_nearestFire 33 = .ok (.aload_n 0, 1) := by decide +kernel
theorem dX8_nearestFire_34 : decode cX8_nearestFire 34 = .ok (.getfield 17, 3) := by decide +kernel
theorem dX8_nearestFire_37 : decode cX8_nearestFire 37 = .ok (.iload 4, 2) := by decide +kernel
theorem dX8_nearestFire_39 : decode cX8_nearestFire 39 = .ok (.aaload, 1) := by decide +kernel
theorem dX8_nearestFire_40 : decode cX8_nearestFire 40 = .ok (.getfield 60, 3) := by decide +kernel
theorem dX8_nearestFire_43 : decode cX8_nearestFire 43 = .ok (.ifCond .eq 20, 3) := by decide +kernel
theorem dX8_nearestFire_46 : decode cX8_nearestFire 46 = .ok (.iload 5, 2) := by decide +kernel
theorem dX8_nearestFire_48 : decode cX8_nearestFire 48 = .ok (.ifCond .le 15, 3) := by decide +kernel
theorem dX8_nearestFire_51 : decode cX8_nearestFire 51 = .ok (.iload 5, 2) := by decide +kernel
theorem dX8_nearestFire_53 : decode cX8_nearestFire 53 = .ok (.iload_n 3, 1) := by decide +kernel
theorem dX8_nearestFire_54 : decode cX8_nearestFire 54 = .ok (.if_icmp .ge 9, 3) := by decide +kernel
theorem dX8_nearestFire_57 : decode cX8_nearestFire 57 = .ok (.iload 5, 2) := by decide +kernel
theorem dX8_nearestFire_59 : decode cX8_nearestFire 59 = .ok (.istore_n 3, 1) := by decide +kernel
theorem dX8_nearestFire_60 : decode cX8_nearestFire 60 = .ok (.iload 4, 2) := by decide +kernel
theorem dX8_nearestFire_62 : decode cX8_nearestFire 62 = .ok (.istore_n 2, 1) := by decide +kernel
theorem dX8_nearestFire_63 : decode cX8_nearestFire 63 = .ok (.iinc 4 1, 3) := by decide +kernel
theorem dX8_nearestFire_66 : decode cX8_nearestFire 66 = .ok (.goto (-58), 3) := by decide +kernel
theorem dX8_nearestFire_69 : decode cX8_nearestFire 69 = .ok (.iload_n 2, 1) := by decide +kernel
theorem dX8_nearestFire_70 : decode cX8_nearestFire 70 = .ok (.ireturn, 1) := by decide +kernel
def f_X8_nearestFire_L8 (n0 : Nat) (c1 : Int32) (u : PM) : Int32 × Int32 × Int32 → Option ((Int32 × Int32 × Int32) ⊕ (Int32)) := fun (x2 , x3 , x4) =>
  if (u.1 (1, n0, 0) 0) ≤ x4 then
    some (.inr (x2))
  else
  if (6 : Int32) ≤ x4 then
    some (.inr (x2))
  else
  (f_X8_hoursBetween n0 c1 x4 u).bind fun r1 =>
  if x4 < 0 ∨ 6 ≤ x4.toNatClampNeg then none else
  if (u.1 (3, n0, x4.toNatClampNeg) 1) = 0 then
    some (.inl (x2, x3, x4 + (1 : Int32)))
  else
  if r1 ≤ 0 then
    some (.inl (x2, x3, x4 + (1 : Int32)))
  else
  if x3 ≤ r1 then
    some (.inl (x2, x3, x4 + (1 : Int32)))
  else
  some (.inl (x4, r1, x4 + (1 : Int32)))
set_option maxHeartbeats 4000000 in
set_option maxRecDepth 20000 in
theorem K_X8_nearestFire_L8 {l : Launch} {T : Option AV × List Key × AM} {n0 : Nat} (hn0 : n0 < 4) {c1 : Int32} {u : PM} : ∀ (n : Nat) (s : Int32 × Int32 × Int32) (e0 : Int32), am_loop (f_X8_nearestFire_L8 n0 c1 u) n s = some e0 → (fun e : Int32 => X l mX8_nearestFire 2 0 0 false T kC 0 0 69 [none, none, some (vI e), none, none, none] [] (en u)) e0 → X l mX8_nearestFire 2 0 0 false T kC 0 0 8 [some (vR (1, n0, 0)), some (vI c1), some (vI s.1), some (vI s.2.1), some (vI s.2.2), none] [] (en u) := by
  refine am_loop_of ?_
  intro s x hf k1 k2
  obtain ⟨x2 , x3 , x4⟩ := s
  unfold f_X8_nearestFire_L8 at hf
  show X l mX8_nearestFire 2 0 0 false T kC 0 0 8 [some (vR (1, n0, 0)), some (vI c1), some (vI x2), some (vI x3), some (vI x4), none] [] (en u)
  refine r_iload (x := x4) dX8_nearestFire_8 rfl ?_
  refine r_aload_n (x := (1, n0, 0)) dX8_nearestFire_10 rfl ?_
  refine e_geti fw_X8_9 dX8_nearestFire_11 (kC_mem (s := 1) (by decide) hn0 (by decide)) rfl (lt_b rfl) ?_
  refine r_icmp_ge (tgt := 69) dX8_nearestFire_14 (by decide) (fun hc => ?_) (fun hc => ?_)
  · have hf := (am_if hf).1 hc
    refine r_weak (L' := [none, none, some (vI x2), none, none, none]) (And.intro rfl trivial) ?_
    exact k2 _ (am_inj hf).symm
  · have hf := (am_if hf).2 hc
    refine r_iload (x := x4) dX8_nearestFire_17 rfl ?_
    refine r_bipush (v := 6) dX8_nearestFire_19 rfl ?_
    refine r_icmp_ge (tgt := 69) dX8_nearestFire_21 (by decide) (fun hc => ?_) (fun hc => ?_)
    · have hf := (am_if hf).1 hc
      refine r_weak (L' := [none, none, some (vI x2), none, none, none]) (And.intro rfl trivial) ?_
      exact k2 _ (am_inj hf).symm
    · have hf := (am_if hf).2 hc
      refine r_aload_n (x := (1, n0, 0)) dX8_nearestFire_24 rfl ?_
      refine r_iload_n (x := c1) dX8_nearestFire_25 rfl ?_
      refine r_iload (x := x4) dX8_nearestFire_26 rfl ?_
      obtain ⟨r1, hr2, hf⟩ := am_bind hf
      refine r_callV (as := [vI c1, vI x4]) (st := []) (n := 2) mw_X8_111 mv_X8_hoursBetween (C_X8_hoursBetween (l := l) hn0 hr2) (by decide) dX8_nearestFire_28 (kC_mem (s := 1) (by decide) hn0 (by decide)) rfl rfl rfl (le_b rfl) (le_b rfl) (le_b rfl) ?_
      show X l _ _ 0 0 false _ kC 0 0 31 [some (vR (1, n0, 0)), some (vI c1), some (vI x2), some (vI x3), some (vI x4), none] [vI r1] (en u)
      refine r_istore (L' := [some (vR (1, n0, 0)), some (vI c1), some (vI x2), some (vI x3), some (vI x4), some (vI r1)]) dX8_nearestFire_31 (by decide) rfl ?_
      refine r_aload_n (x := (1, n0, 0)) dX8_nearestFire_33 rfl ?_
      refine e_getr (z := some (2, n0, 0)) fw_X8_17 dX8_nearestFire_34 (kC_mem (s := 1) (by decide) hn0 (by decide)) rfl (lt_b rfl) rfl ?_
      refine r_iload (x := x4) dX8_nearestFire_37 rfl ?_
      obtain ⟨h3, hf⟩ := am_nchk hf
      refine e_aald (n := x4.toNatClampNeg) (z := some (3, n0, x4.toNatClampNeg)) dX8_nearestFire_39 (kC_mem (s := 2) (by decide) hn0 (by decide)) ⟨le_b rfl, lt_b rfl⟩ h3 rfl rfl ?_
      refine e_geti fw_X8_60 dX8_nearestFire_40 (kC_mem (s := 3) (by decide) hn0 (vp_lt h3)) rfl (lt_b rfl) ?_
      refine r_if_eq (tgt := 63) dX8_nearestFire_43 (by decide) (fun hc => ?_) (fun hc => ?_)
      · have hf := (am_if hf).1 hc
        refine r_iinc (x := x4) (v := x4 + (1 : Int32)) (L' := [some (vR (1, n0, 0)), some (vI c1), some (vI x2), some (vI x3), some (vI (x4 + (1 : Int32))), some (vI r1)]) dX8_nearestFire_63 rfl rfl (lt_b rfl) rfl ?_
        refine r_goto (tgt := 8) dX8_nearestFire_66 (by decide) ?_
        refine r_weak (L' := [some (vR (1, n0, 0)), some (vI c1), some (vI x2), some (vI x3), some (vI (x4 + (1 : Int32))), none]) (And.intro rfl (And.intro rfl (And.intro rfl (And.intro rfl (And.intro rfl trivial))))) ?_
        exact k1 _ (am_inj hf).symm
      · have hf := (am_if hf).2 hc
        refine r_iload (x := r1) dX8_nearestFire_46 rfl ?_
        refine r_if_le (tgt := 63) dX8_nearestFire_48 (by decide) (fun hc => ?_) (fun hc => ?_)
        · have hf := (am_if hf).1 hc
          refine r_iinc (x := x4) (v := x4 + (1 : Int32)) (L' := [some (vR (1, n0, 0)), some (vI c1), some (vI x2), some (vI x3), some (vI (x4 + (1 : Int32))), some (vI r1)]) dX8_nearestFire_63 rfl rfl (lt_b rfl) rfl ?_
          refine r_goto (tgt := 8) dX8_nearestFire_66 (by decide) ?_
          refine r_weak (L' := [some (vR (1, n0, 0)), some (vI c1), some (vI x2), some (vI x3), some (vI (x4 + (1 : Int32))), none]) (And.intro rfl (And.intro rfl (And.intro rfl (And.intro rfl (And.intro rfl trivial))))) ?_
          exact k1 _ (am_inj hf).symm
        · have hf := (am_if hf).2 hc
          refine r_iload (x := r1) dX8_nearestFire_51 rfl ?_
          refine r_iload_n (x := x3) dX8_nearestFire_53 rfl ?_
          refine r_icmp_ge (tgt := 63) dX8_nearestFire_54 (by decide) (fun hc => ?_) (fun hc => ?_)
          · have hf := (am_if hf).1 hc
            refine r_iinc (x := x4) (v := x4 + (1 : Int32)) (L' := [some (vR (1, n0, 0)), some (vI c1), some (vI x2), some (vI x3), some (vI (x4 + (1 : Int32))), some (vI r1)]) dX8_nearestFire_63 rfl rfl (lt_b rfl) rfl ?_
            refine r_goto (tgt := 8) dX8_nearestFire_66 (by decide) ?_
            refine r_weak (L' := [some (vR (1, n0, 0)), some (vI c1), some (vI x2), some (vI x3), some (vI (x4 + (1 : Int32))), none]) (And.intro rfl (And.intro rfl (And.intro rfl (And.intro rfl (And.intro rfl trivial))))) ?_
            exact k1 _ (am_inj hf).symm
          · have hf := (am_if hf).2 hc
            refine r_iload (x := r1) dX8_nearestFire_57 rfl ?_
            refine r_istore_n (L' := [some (vR (1, n0, 0)), some (vI c1), some (vI x2), some (vI r1), some (vI x4), some (vI r1)]) dX8_nearestFire_59 (by decide) rfl ?_
            refine r_iload (x := x4) dX8_nearestFire_60 rfl ?_
            refine r_istore_n (L' := [some (vR (1, n0, 0)), some (vI c1), some (vI x4), some (vI r1), some (vI x4), some (vI r1)]) dX8_nearestFire_62 (by decide) rfl ?_
            refine r_iinc (x := x4) (v := x4 + (1 : Int32)) (L' := [some (vR (1, n0, 0)), some (vI c1), some (vI x4), some (vI r1), some (vI (x4 + (1 : Int32))), some (vI r1)]) dX8_nearestFire_63 rfl rfl (lt_b rfl) rfl ?_
            refine r_goto (tgt := 8) dX8_nearestFire_66 (by decide) ?_
            refine r_weak (L' := [some (vR (1, n0, 0)), some (vI c1), some (vI x4), some (vI r1), some (vI (x4 + (1 : Int32))), none]) (And.intro rfl (And.intro rfl (And.intro rfl (And.intro rfl (And.intro rfl trivial))))) ?_
            exact k1 _ (am_inj hf).symm
def f_X8_nearestFire (v : Nat) (a0 : Int32) (u : PM) : Option (Int32) :=
  (am_loop (f_X8_nearestFire_L8 v a0 u) 2000 ((-1 : Int32), (10 : Int32), (0 : Int32))).bind fun y6 =>
  some y6
set_option maxHeartbeats 4000000 in
set_option maxRecDepth 20000 in
theorem C_X8_nearestFire {l : Launch} {v : Nat} (hv : v < 4) {a0 : Int32} {u : PM} {x : Int32} (hf : f_X8_nearestFire v a0 u = some x) : Ev l mX8_nearestFire 2 0 0 false [vR (1, v, 0), vI a0] kC (en u) (some (vI x), kC, en u) := by
  refine Ev_of (by decide +kernel) (le_b rfl) ?_
  unfold f_X8_nearestFire at hf
  show X l mX8_nearestFire 2 0 0 false _ kC 0 0 0 [some (vR (1, v, 0)), some (vI a0), none, none, none, none] [] (en u)
  refine r_iconst (v := -1) dX8_nearestFire_0 rfl ?_
  refine r_istore_n (L' := [some (vR (1, v, 0)), some (vI a0), some (vI (-1 : Int32)), none, none, none]) dX8_nearestFire_1 (by decide) rfl ?_
  refine r_bipush (v := 10) dX8_nearestFire_2 rfl ?_
  refine r_istore_n (L' := [some (vR (1, v, 0)), some (vI a0), some (vI (-1 : Int32)), some (vI (10 : Int32)), none, none]) dX8_nearestFire_4 (by decide) rfl ?_
  refine r_iconst (v := 0) dX8_nearestFire_5 rfl ?_
  refine r_istore (L' := [some (vR (1, v, 0)), some (vI a0), some (vI (-1 : Int32)), some (vI (10 : Int32)), some (vI (0 : Int32)), none]) dX8_nearestFire_6 (by decide) rfl ?_
  refine r_weak (L' := [some (vR (1, v, 0)), some (vI a0), some (vI (-1 : Int32)), some (vI (10 : Int32)), some (vI (0 : Int32)), none]) (And.intro rfl (And.intro rfl (And.intro rfl (And.intro rfl (And.intro rfl trivial))))) ?_
  obtain ⟨e4, he5, hf⟩ := am_bind hf
  refine K_X8_nearestFire_L8 hv 2000 ((-1 : Int32), (10 : Int32), (0 : Int32)) _ he5 ?_
  obtain ⟨y6, rfl⟩ : ∃ z, z = e4 := ⟨_, rfl⟩
  show X l _ _ 0 0 false _ kC 0 0 69 [none, none, some (vI y6), none, none, none] [] (en u)
  refine r_iload_n (x := y6) dX8_nearestFire_69 rfl ?_
  have hx := am_inj hf
  subst hx
  exact r_iret dX8_nearestFire_70 rfl rfl (le_b rfl) (le_b rfl)
/-! FireFromFire$Village.isKeeping -/
theorem dX8_isKeeping_0 : decode cX8_isKeeping 0 = .ok (.aload_n 1, 1) := by decide +kernel
theorem dX8_isKeeping_1 : decode cX8_isKeeping 1 = .ok (.getfield 74, 3) := by decide +kernel
theorem dX8_isKeeping_4 : decode cX8_isKeeping 4 = .ok (.tableswitch 141 2 6 #[36, 55, 75, 92, 115], 36) := by decide +kernel
theorem dX8_isKeeping_40 : decode cX8_isKeeping 40 = .ok (.aload_n 0, 1) := by decide +kernel
theorem dX8_isKeeping_41 : decode cX8_isKeeping 41 = .ok (.invokevirtual 64, 3) := by decide +kernel
theorem dX8_isKeeping_44 : decode cX8_isKeeping 44 = .ok (.iconst 1, 1) := by decide +kernel
theorem dX8_isKeeping_45 : decode cX8_isKeeping 45 = .ok (.iload_n 2, 1) := by decide +kernel
theorem dX8_isKeeping_46 : decode cX8_isKeeping 46 = .ok (.ishl, 1) := by decide +kernel
theorem dX8_isKeeping_47 : decode cX8_isKeeping 47 = .ok (.iconst 1, 1) := by decide +kernel
theorem dX8_isKeeping_48 : decode cX8_isKeeping 48 = .ok (.isub, 1) := by decide +kernel
theorem dX8_isKeeping_49 : decode cX8_isKeeping 49 = .ok (.iand, 1) := by decide +kernel
theorem dX8_isKeeping_50 : decode cX8_isKeeping 50 = .ok (.ifCond .ne 7, 3) := by decide +kernel
theorem dX8_isKeeping_53 : decode cX8_isKeeping 53 = .ok (.iconst 1, 1) := by decide +kernel
theorem dX8_isKeeping_54 : decode cX8_isKeeping 54 = .ok (.goto 4, 3) := by decide +kernel
theorem dX8_isKeeping_57 : decode cX8_isKeeping 57 = .ok (.iconst 0, 1) := by decide +kernel
theorem dX8_isKeeping_58 : decode cX8_isKeeping 58 = .ok (.ireturn, 1) := by decide +kernel
theorem dX8_isKeeping_59 : decode cX8_isKeeping 59 = .ok (.aload_n 0, 1) := by decide +kernel
theorem dX8_isKeeping_60 : decode cX8_isKeeping 60 = .ok (.iconst 3, 1) := by decide +kernel
theorem dX8_isKeeping_61 : decode cX8_isKeeping 61 = .ok (.iload_n 2, 1) := by decide +kernel
theorem dX8_isKeeping_62 : decode cX8_isKeeping 62 = .ok (.iload_n 3, 1) := by decide +kernel
theorem dX8_isKeeping_63 : decode cX8_isKeeping 63 = .ok (.invokevirtual 127, 3) := by decide +kernel
theorem dX8_isKeeping_66 : decode cX8_isKeeping 66 = .ok (.aload_n 1, 1) := by decide +kernel
theorem dX8_isKeeping_67 : decode cX8_isKeeping 67 = .ok (.getfield 77, 3) := by decide +kernel
theorem dX8_isKeeping_70 : decode cX8_isKeeping 70 = .ok (.if_icmp .lt 7, 3) := by decide +kernel
theorem dX8_isKeeping_73 : decode cX8_isKeeping 73 = .ok (.iconst 1, 1) := by decide +kernel
theorem dX8_isKeeping_74 : decode cX8_isKeeping 74 = .ok (.goto 4, 3) := by decide +kernel
theorem dX8_isKeeping_77 : decode cX8_isKeeping 77 = .ok (.iconst 0, 1) := by decide +kernel
theorem dX8_isKeeping_78 : decode cX8_isKeeping 78 = .ok (.ireturn, 1) := by decide +kernel
theorem dX8_isKeeping_79 : decode cX8_isKeeping 79 = .ok (.aload_n 1, 1) := by decide +kernel
theorem dX8_isKeeping_80 : decode cX8_isKeeping 80 = .ok (.getfield 84, 3) := by decide +kernel
theorem dX8_isKeeping_83 : decode cX8_isKeeping 83 = .ok (.aload_n 1, 1) := by decide +kernel
theorem dX8_isKeeping_84 : decode cX8_isKeeping 84 = .ok (.getfield 77, 3) := by decide +kernel
theorem dX8_isKeeping_87 : decode cX8_isKeeping 87 = .ok (.if_icmp .lt 7, 3) := by decide +kernel
theorem dX8_isKeeping_90 : decode cX8_isKeeping 90 = .ok (.iconst 1, 1) := by decide +kernel
theorem dX8_isKeeping_91 : decode cX8_isKeeping 91 = .ok (.goto 4, 3) := by decide +kernel
theorem dX8_isKeeping_94 : decode cX8_isKeeping 94 = .ok (.iconst 0, 1) := by decide +kernel
theorem dX8_isKeeping_95 : decode cX8_isKeeping 95 = .ok (.ireturn, 1) := by decide +kernel
theorem dX8_isKeeping_96 : decode cX8_isKeeping 96 = .ok (.aload_n 1, 1) := by decide +kernel
theorem dX8_isKeeping_97 : decode cX8_isKeeping 97 = .ok (.getfield 131, 3) := by decide +kernel
theorem dX8_isKeeping_100 : decode cX8_isKeeping 100 = .ok (.aload_n 0, 1) := by decide +kernel
theorem dX8_isKeeping_101 : decode cX8_isKeeping 101 = .ok (.getfield 29, 3) := by decide +kernel
theorem dX8_isKeeping_104 : decode cX8_isKeeping 104 = .ok (.bipush 24, 2) := by decide +kernel
theorem dX8_isKeeping_106 : decode cX8_isKeeping 106 = .ok (.irem, 1) := by decide +kernel
theorem dX8_isKeeping_107 : decode cX8_isKeeping 107 = .ok (.ishr, 1) := by decide +kernel
theorem dX8_isKeeping_108 : decode cX8_isKeeping 108 = .ok (.iconst 1, 1) := by decide +kernel
theorem dX8_isKeeping_109 : decode cX8_isKeeping 109 = .ok (.iand, 1) := by decide +kernel
theorem dX8_isKeeping_110 : decode cX8_isKeeping 110 = .ok (.ifCond .eq 7, 3) := by decide +kernel
theorem dX8_isKeeping_113 : decode cX8_isKeeping 113 = .ok (.iconst 1, 1) := by decide +kernel
theorem dX8_isKeeping_114 : decode cX8_isKeeping 114 = .ok (.goto 4, 3) := by decide +kernel
theorem dX8_isKeeping_117 : decode cX8_isKeeping 117 = .ok (.iconst 0, 1) := by decide +kernel
theorem dX8_isKeeping_118 : decode cX8_isKeeping 118 = .ok (.ireturn, 1) := by decide +kernel
theorem dX8_isKeeping_119 : decode cX8_isKeeping 119 = .ok (.aload_n 0, 1) := by decide +kernel
theorem dX8_isKeeping_120 : decode cX8_isKeeping 120 = .ok (.invokevirtual 64, 3) := by decide +kernel
theorem dX8_isKeeping_123 : decode cX8_isKeeping 123 = .ok (.iconst 1, 1) := by decide +kernel
theorem dX8_isKeeping_124 : decode cX8_isKeeping 124 = .ok (.iload_n 2, 1) := by decide +kernel
theorem dX8_isKeeping_125 : decode cX8_isKeeping 125 = .ok (.ishl, 1) := by decide +kernel
theorem dX8_isKeeping_126 : decode cX8_isKeeping 126 = .ok (.iconst (-1), 1) := by decide +kernel
theorem dX8_isKeeping_127 : decode cX8_isKeeping 127 = .ok (.ixor, 1) := by decide +kernel
theorem dX8_isKeeping_128 : decode cX8_isKeeping 128 = .ok (.iand, 1) := by decide +kernel
theorem dX8_isKeeping_129 : decode cX8_isKeeping 129 = .ok (.invokestatic 68, 3) := by decide +kernel
theorem dX8_isKeeping_132 : decode cX8_isKeeping 132 = .ok (.aload_n 1, 1) := by decide +kernel
theorem dX8_isKeeping_133 : decode cX8_isKeeping 133 = .ok (.getfield 77, 3) := by decide +kernel
theorem dX8_isKeeping_136 : decode cX8_isKeeping 136 = .ok (.if_icmp .ge 7, 3) := by decide +kernel
theorem dX8_isKeeping_139 : decode cX8_isKeeping 139 = .ok (.iconst 1, 1) := by decide +kernel
theorem dX8_isKeeping_140 : decode cX8_isKeeping 140 = .ok (.goto 4, 3) := by decide +kernel
theorem dX8_isKeeping_143 : decode cX8_isKeeping 143 = .ok (.iconst 0, 1) := by decide +kernel
theorem dX8_isKeeping_144 : decode cX8_isKeeping 144 = .ok (.ireturn, 1) := by decide +kernel
theorem dX8_isKeeping_145 : decode cX8_isKeeping 145 = .ok (.iconst 1, 1) := by decide +kernel
theorem dX8_isKeeping_146 : decode cX8_isKeeping 146 = .ok (.ireturn, 1) := by decide +kernel
def f_X8_isKeeping (v : Nat) (g : Nat) (a1 : Int32) (a2 : Int32) (u : PM) : Option (Int32 × PM) :=
  if (u.1 (3, v, g) 2) = (2 : Int32) then
    (f_X8_litBits v u).bind fun r1 =>
    if (r1 &&& (((1 : Int32) <<< (a1 &&& 31)) - (1 : Int32))) = 0 then
      some ((1 : Int32), u)
    else
    some ((0 : Int32), u)
  else if (u.1 (3, v, g) 2) = (3 : Int32) then
    (f_X8_sum v (3 : Int32) a1 a2 u).bind fun (r3, u5) =>
    if r3 < (u5.1 (3, v, g) 3) then
      some ((0 : Int32), u5)
    else
    some ((1 : Int32), u5)
  else if (u.1 (3, v, g) 2) = (4 : Int32) then
    if (u.1 (3, v, g) 0) < (u.1 (3, v, g) 3) then
      some ((0 : Int32), u)
    else
    some ((1 : Int32), u)
  else if (u.1 (3, v, g) 2) = (5 : Int32) then
    if (((u.1 (3, v, g) 4) >>> (((u.1 (1, v, 0) 4) - (u.1 (1, v, 0) 4) / (24 : Int32) * (24 : Int32)) &&& 31)) &&& (1 : Int32)) = 0 then
      some ((0 : Int32), u)
    else
    some ((1 : Int32), u)
  else if (u.1 (3, v, g) 2) = (6 : Int32) then
    (f_X8_litBits v u).bind fun r6 =>
    (f_J6_bitCount_0f7a4 (r6 &&& (((1 : Int32) <<< (a1 &&& 31)) ^^^ (-1 : Int32))) u).bind fun r8 =>
    if (u.1 (3, v, g) 3) ≤ r8 then
      some ((0 : Int32), u)
    else
    some ((1 : Int32), u)
  else 
  some ((1 : Int32), u)
set_option maxHeartbeats 4000000 in
set_option maxRecDepth 20000 in
theorem C_X8_isKeeping {l : Launch} {v : Nat} (hv : v < 4) {g : Nat} (hg : g < 6) {a1 : Int32} {a2 : Int32} {u : PM} {x : Int32 × PM} (hf : f_X8_isKeeping v g a1 a2 u = some x) : Ev l mX8_isKeeping 4 0 0 false [vR (1, v, 0), vR (3, v, g), vI a1, vI a2] kC (en u) (some (vI x.1), kC, en x.2) := by
  refine Ev_of (by decide +kernel) (le_b rfl) ?_
  unfold f_X8_isKeeping at hf
  show X l mX8_isKeeping 4 0 0 false _ kC 0 0 0 [some (vR (1, v, 0)), some (vR (3, v, g)), some (vI a1), some (vI a2)] [] (en u)
  refine r_aload_n (x := (3, v, g)) dX8_isKeeping_0 rfl ?_
  refine e_geti fw_X8_74 dX8_isKeeping_1 (kC_mem (s := 3) (by decide) hv hg) rfl (lt_b rfl) ?_
  by_cases hs0 : (u.1 (3, v, g) 2) = (2 : Int32)
  · have hf := (am_if hf).1 hs0
    refine r_tswIn (x := u.1 (3, v, g) 2) (kx := 2) (tgt := 40) dX8_isKeeping_4 hs0 (by decide) (by decide) rfl (by decide) ?_
    refine r_aload_n (x := (1, v, 0)) dX8_isKeeping_40 rfl ?_
    obtain ⟨r1, hr2, hf⟩ := am_bind hf
    refine r_callV (as := []) (st := []) (n := 0) mw_X8_64 mv_X8_litBits (C_X8_litBits (l := l) hv hr2) (by decide) dX8_isKeeping_41 (kC_mem (s := 1) (by decide) hv (by decide)) rfl rfl rfl (le_b rfl) (le_b rfl) (le_b rfl) ?_
    show X l _ _ 0 0 false _ kC 0 0 44 [some (vR (1, v, 0)), some (vR (3, v, g)), some (vI a1), some (vI a2)] [vI r1] (en u)
    refine r_iconst (v := 1) dX8_isKeeping_44 rfl ?_
    refine r_iload_n (x := a1) dX8_isKeeping_45 rfl ?_
    refine r_ishl dX8_isKeeping_46 ?_
    refine r_iconst (v := 1) dX8_isKeeping_47 rfl ?_
    refine r_isub dX8_isKeeping_48 ?_
    refine r_iand dX8_isKeeping_49 ?_
    refine r_if_ne (tgt := 57) dX8_isKeeping_50 (by decide) (fun hc => ?_) (fun hc => ?_)
    · have hf := (am_if hf).2 hc
      refine r_iconst (v := 0) dX8_isKeeping_57 rfl ?_
      have hx := am_inj hf
      subst hx
      exact r_iret dX8_isKeeping_58 rfl (am_bool (x := 0) (by decide)).1 (le_b rfl) (le_b rfl)
    · have hf := (am_if hf).1 hc
      refine r_iconst (v := 1) dX8_isKeeping_53 rfl ?_
      refine r_goto (tgt := 58) dX8_isKeeping_54 (by decide) ?_
      have hx := am_inj hf
      subst hx
      exact r_iret dX8_isKeeping_58 rfl (am_bool (x := 1) (by decide)).1 (le_b rfl) (le_b rfl)
  have hf := (am_if hf).2 hs0
  by_cases hs1 : (u.1 (3, v, g) 2) = (3 : Int32)
  · have hf := (am_if hf).1 hs1
    refine r_tswIn (x := u.1 (3, v, g) 2) (kx := 3) (tgt := 59) dX8_isKeeping_4 hs1 (by decide) (by decide) rfl (by decide) ?_
    refine r_aload_n (x := (1, v, 0)) dX8_isKeeping_59 rfl ?_
    refine r_iconst (v := 3) dX8_isKeeping_60 rfl ?_
    refine r_iload_n (x := a1) dX8_isKeeping_61 rfl ?_
    refine r_iload_n (x := a2) dX8_isKeeping_62 rfl ?_
    obtain ⟨⟨r3, u5⟩, hr4, hf⟩ := am_bind hf
    refine r_callV (as := [vI (3 : Int32), vI a1, vI a2]) (st := []) (n := 3) mw_X8_127 mv_X8_sum (C_X8_sum (l := l) hv hr4) (by decide) dX8_isKeeping_63 (kC_mem (s := 1) (by decide) hv (by decide)) rfl rfl rfl (le_b rfl) (le_b rfl) (le_b rfl) ?_
    show X l _ _ 0 0 false _ kC 0 0 66 [some (vR (1, v, 0)), some (vR (3, v, g)), some (vI a1), some (vI a2)] [vI r3] (en u5)
    refine r_aload_n (x := (3, v, g)) dX8_isKeeping_66 rfl ?_
    refine e_geti fw_X8_77 dX8_isKeeping_67 (kC_mem (s := 3) (by decide) hv hg) rfl (lt_b rfl) ?_
    refine r_icmp_lt (tgt := 77) dX8_isKeeping_70 (by decide) (fun hc => ?_) (fun hc => ?_)
    · have hf := (am_if hf).1 hc
      refine r_iconst (v := 0) dX8_isKeeping_77 rfl ?_
      have hx := am_inj hf
      subst hx
      exact r_iret dX8_isKeeping_78 rfl (am_bool (x := 0) (by decide)).1 (le_b rfl) (le_b rfl)
    · have hf := (am_if hf).2 hc
      refine r_iconst (v := 1) dX8_isKeeping_73 rfl ?_
      refine r_goto (tgt := 78) dX8_isKeeping_74 (by decide) ?_
      have hx := am_inj hf
      subst hx
      exact r_iret dX8_isKeeping_78 rfl (am_bool (x := 1) (by decide)).1 (le_b rfl) (le_b rfl)
  have hf := (am_if hf).2 hs1
  by_cases hs2 : (u.1 (3, v, g) 2) = (4 : Int32)
  · have hf := (am_if hf).1 hs2
    refine r_tswIn (x := u.1 (3, v, g) 2) (kx := 4) (tgt := 79) dX8_isKeeping_4 hs2 (by decide) (by decide) rfl (by decide) ?_
    refine r_aload_n (x := (3, v, g)) dX8_isKeeping_79 rfl ?_
    refine e_geti fw_X8_84 dX8_isKeeping_80 (kC_mem (s := 3) (by decide) hv hg) rfl (lt_b rfl) ?_
    refine r_aload_n (x := (3, v, g)) dX8_isKeeping_83 rfl ?_
    refine e_geti fw_X8_77 dX8_isKeeping_84 (kC_mem (s := 3) (by decide) hv hg) rfl (lt_b rfl) ?_
    refine r_icmp_lt (tgt := 94) dX8_isKeeping_87 (by decide) (fun hc => ?_) (fun hc => ?_)
    · have hf := (am_if hf).1 hc
      refine r_iconst (v := 0) dX8_isKeeping_94 rfl ?_
      have hx := am_inj hf
      subst hx
      exact r_iret dX8_isKeeping_95 rfl (am_bool (x := 0) (by decide)).1 (le_b rfl) (le_b rfl)
    · have hf := (am_if hf).2 hc
      refine r_iconst (v := 1) dX8_isKeeping_90 rfl ?_
      refine r_goto (tgt := 95) dX8_isKeeping_91 (by decide) ?_
      have hx := am_inj hf
      subst hx
      exact r_iret dX8_isKeeping_95 rfl (am_bool (x := 1) (by decide)).1 (le_b rfl) (le_b rfl)
  have hf := (am_if hf).2 hs2
  by_cases hs3 : (u.1 (3, v, g) 2) = (5 : Int32)
  · have hf := (am_if hf).1 hs3
    refine r_tswIn (x := u.1 (3, v, g) 2) (kx := 5) (tgt := 96) dX8_isKeeping_4 hs3 (by decide) (by decide) rfl (by decide) ?_
    refine r_aload_n (x := (3, v, g)) dX8_isKeeping_96 rfl ?_
    refine e_geti fw_X8_131 dX8_isKeeping_97 (kC_mem (s := 3) (by decide) hv hg) rfl (lt_b rfl) ?_
    refine r_aload_n (x := (1, v, 0)) dX8_isKeeping_100 rfl ?_
    refine e_geti fw_X8_29 dX8_isKeeping_101 (kC_mem (s := 1) (by decide) hv (by decide)) rfl (lt_b rfl) ?_
    refine r_bipush (v := 24) dX8_isKeeping_104 rfl ?_
    refine r_irem dX8_isKeeping_106 (by decide) ?_
    refine r_ishr dX8_isKeeping_107 ?_
    refine r_iconst (v := 1) dX8_isKeeping_108 rfl ?_
    refine r_iand dX8_isKeeping_109 ?_
    refine r_if_eq (tgt := 117) dX8_isKeeping_110 (by decide) (fun hc => ?_) (fun hc => ?_)
    · have hf := (am_if hf).1 hc
      refine r_iconst (v := 0) dX8_isKeeping_117 rfl ?_
      have hx := am_inj hf
      subst hx
      exact r_iret dX8_isKeeping_118 rfl (am_bool (x := 0) (by decide)).1 (le_b rfl) (le_b rfl)
    · have hf := (am_if hf).2 hc
      refine r_iconst (v := 1) dX8_isKeeping_113 rfl ?_
      refine r_goto (tgt := 118) dX8_isKeeping_114 (by decide) ?_
      have hx := am_inj hf
      subst hx
      exact r_iret dX8_isKeeping_118 rfl (am_bool (x := 1) (by decide)).1 (le_b rfl) (le_b rfl)
  have hf := (am_if hf).2 hs3
  by_cases hs4 : (u.1 (3, v, g) 2) = (6 : Int32)
  · have hf := (am_if hf).1 hs4
    refine r_tswIn (x := u.1 (3, v, g) 2) (kx := 6) (tgt := 119) dX8_isKeeping_4 hs4 (by decide) (by decide) rfl (by decide) ?_
    refine r_aload_n (x := (1, v, 0)) dX8_isKeeping_119 rfl ?_
    obtain ⟨r6, hr7, hf⟩ := am_bind hf
    refine r_callV (as := []) (st := []) (n := 0) mw_X8_64 mv_X8_litBits (C_X8_litBits (l := l) hv hr7) (by decide) dX8_isKeeping_120 (kC_mem (s := 1) (by decide) hv (by decide)) rfl rfl rfl (le_b rfl) (le_b rfl) (le_b rfl) ?_
    show X l _ _ 0 0 false _ kC 0 0 123 [some (vR (1, v, 0)), some (vR (3, v, g)), some (vI a1), some (vI a2)] [vI r6] (en u)
    refine r_iconst (v := 1) dX8_isKeeping_123 rfl ?_
    refine r_iload_n (x := a1) dX8_isKeeping_124 rfl ?_
    refine r_ishl dX8_isKeeping_125 ?_
    refine r_iconst (v := -1) dX8_isKeeping_126 rfl ?_
    refine r_ixor dX8_isKeeping_127 ?_
    refine r_iand dX8_isKeeping_128 ?_
    obtain ⟨r8, hr9, hf⟩ := am_bind hf
    refine r_callS (as := [vI (r6 &&& (((1 : Int32) <<< (a1 &&& 31)) ^^^ (-1 : Int32)))]) (st := []) (n := 1) mw_X8_68 ms_J6_bitCount_0f7a4 (C_J6_bitCount_0f7a4 (l := l) hr9) (by decide) dX8_isKeeping_129 rfl (le_b rfl) (le_b rfl) (le_b rfl) ?_
    show X l _ _ 0 0 false _ kC 0 0 132 [some (vR (1, v, 0)), some (vR (3, v, g)), some (vI a1), some (vI a2)] [vI r8] (en u)
    refine r_aload_n (x := (3, v, g)) dX8_isKeeping_132 rfl ?_
    refine e_geti fw_X8_77 dX8_isKeeping_133 (kC_mem (s := 3) (by decide) hv hg) rfl (lt_b rfl) ?_
    refine r_icmp_ge (tgt := 143) dX8_isKeeping_136 (by decide) (fun hc => ?_) (fun hc => ?_)
    · have hf := (am_if hf).1 hc
      refine r_iconst (v := 0) dX8_isKeeping_143 rfl ?_
      have hx := am_inj hf
      subst hx
      exact r_iret dX8_isKeeping_144 rfl (am_bool (x := 0) (by decide)).1 (le_b rfl) (le_b rfl)
    · have hf := (am_if hf).2 hc
      refine r_iconst (v := 1) dX8_isKeeping_139 rfl ?_
      refine r_goto (tgt := 144) dX8_isKeeping_140 (by decide) ?_
      have hx := am_inj hf
      subst hx
      exact r_iret dX8_isKeeping_144 rfl (am_bool (x := 1) (by decide)).1 (le_b rfl) (le_b rfl)
  have hf := (am_if hf).2 hs4
  refine r_tswOut (x := u.1 (3, v, g) 2) (tgt := 145) dX8_isKeeping_4 (by have ehs0 := am_neI hs0 (z := 2) rfl; have ehs1 := am_neI hs1 (z := 3) rfl; have ehs2 := am_neI hs2 (z := 4) rfl; have ehs3 := am_neI hs3 (z := 5) rfl; have ehs4 := am_neI hs4 (z := 6) rfl; omega) (by decide) ?_
  refine r_iconst (v := 1) dX8_isKeeping_145 rfl ?_
  have hx := am_inj hf
  subst hx
  exact r_iret dX8_isKeeping_146 rfl (am_bool (x := 1) (by decide)).1 (le_b rfl) (le_b rfl)
/-! FireFromFire$Village.isSending -/
theorem dX8_isSending_0 : decode cX8_isSending 0 = .ok (.aload_n 1, 1) := by decide +kernel
theorem dX8_isSending_1 : decode cX8_isSending 1 = .ok (.getfield 74, 3) := by decide +kernel
theorem dX8_isSending_4 : decode cX8_isSending 4 = .ok (.tableswitch 81 1 6 #[40, 42, 61, 40, 42, 61], 40) := by decide +kernel
theorem dX8_isSending_44 : decode cX8_isSending 44 = .ok (.iconst 1, 1) := by decide +kernel
theorem dX8_isSending_45 : decode cX8_isSending 45 = .ok (.ireturn, 1) := by decide +kernel
theorem dX8_isSending_46 : decode cX8_isSending 46 = .ok (.aload_n 0, 1) := by decide +kernel
theorem dX8_isSending_47 : decode cX8_isSending 47 = .ok (.invokevirtual 64, 3) := by decide +kernel
theorem dX8_isSending_50 : decode cX8_isSending 50 = .ok (.iconst 1, 1) := by decide +kernel
theorem dX8_isSending_51 : decode cX8_isSending 51 = .ok (.iload_n 2, 1) := by decide +kernel
theorem dX8_isSending_52 : decode cX8_isSending 52 = .ok (.ishl, 1) := by decide +kernel
theorem dX8_isSending_53 : decode cX8_isSending 53 = .ok (.iconst 1, 1) := by decide +kernel
theorem dX8_isSending_54 : decode cX8_isSending 54 = .ok (.isub, 1) := by decide +kernel
theorem dX8_isSending_55 : decode cX8_isSending 55 = .ok (.iand, 1) := by decide +kernel
theorem dX8_isSending_56 : decode cX8_isSending 56 = .ok (.ifCond .ne 7, 3) := by decide +kernel
theorem dX8_isSending_59 : decode cX8_isSending 59 = .ok (.iconst 1, 1) := by decide +kernel
theorem dX8_isSending_60 : decode cX8_isSending 60 = .ok (.goto 4, 3) := by decide +kernel
theorem dX8_isSending_63 : decode cX8_isSending 63 = .ok (.iconst 0, 1) := by decide +kernel
theorem dX8_isSending_64 : decode cX8_isSending 64 = .ok (.ireturn, 1) := by decide +kernel
theorem dX8_isSending_65 : decode cX8_isSending 65 = .ok (.aload_n 0, 1) := by decide +kernel
theorem dX8_isSending_66 : decode cX8_isSending 66 = .ok (.iconst 3, 1) := by decide +kernel
theorem dX8_isSending_67 : decode cX8_isSending 67 = .ok (.iload_n 2, 1) := by decide +kernel
theorem dX8_isSending_68 : decode cX8_isSending 68 = .ok (.iload_n 3, 1) := by decide +kernel
theorem dX8_isSending_69 : decode cX8_isSending 69 = .ok (.invokevirtual 127, 3) := by decide +kernel
theorem dX8_isSending_72 : decode cX8_isSending 72 = .ok (.aload_n 1, 1) := by decide +kernel
theorem dX8_isSending_73 : decode cX8_isSending 73 = .ok (.getfield 77, 3) := by decide +kernel
theorem dX8_isSending_76 : decode cX8_isSending 76 = .ok (.if_icmp .lt 7, 3) := by decide +kernel
theorem dX8_isSending_79 : decode cX8_isSending 79 = .ok (.iconst 1, 1) := by decide +kernel
theorem dX8_isSending_80 : decode cX8_isSending 80 = .ok (.goto 4, 3) := by decide +kernel
theorem dX8_isSending_83 : decode cX8_isSending 83 = .ok (.iconst 0, 1) := by decide +kernel
theorem dX8_isSending_84 : decode cX8_isSending 84 = .ok (.ireturn, 1) := by decide +kernel
theorem dX8_isSending_85 : decode cX8_isSending 85 = .ok (.iconst 0, 1) := by decide +kernel
theorem dX8_isSending_86 : decode cX8_isSending 86 = .ok (.ireturn, 1) := by decide +kernel
def f_X8_isSending (v : Nat) (g : Nat) (a1 : Int32) (a2 : Int32) (u : PM) : Option (Int32 × PM) :=
  if (u.1 (3, v, g) 2) = (1 : Int32) then
    some ((1 : Int32), u)
  else if (u.1 (3, v, g) 2) = (2 : Int32) then
    (f_X8_litBits v u).bind fun r1 =>
    if (r1 &&& (((1 : Int32) <<< (a1 &&& 31)) - (1 : Int32))) = 0 then
      some ((1 : Int32), u)
    else
    some ((0 : Int32), u)
  else if (u.1 (3, v, g) 2) = (3 : Int32) then
    (f_X8_sum v (3 : Int32) a1 a2 u).bind fun (r3, u5) =>
    if r3 < (u5.1 (3, v, g) 3) then
      some ((0 : Int32), u5)
    else
    some ((1 : Int32), u5)
  else if (u.1 (3, v, g) 2) = (4 : Int32) then
    some ((1 : Int32), u)
  else if (u.1 (3, v, g) 2) = (5 : Int32) then
    (f_X8_litBits v u).bind fun r6 =>
    if (r6 &&& (((1 : Int32) <<< (a1 &&& 31)) - (1 : Int32))) = 0 then
      some ((1 : Int32), u)
    else
    some ((0 : Int32), u)
  else if (u.1 (3, v, g) 2) = (6 : Int32) then
    (f_X8_sum v (3 : Int32) a1 a2 u).bind fun (r8, u10) =>
    if r8 < (u10.1 (3, v, g) 3) then
      some ((0 : Int32), u10)
    else
    some ((1 : Int32), u10)
  else 
  some ((0 : Int32), u)
set_option maxHeartbeats 4000000 in
set_option maxRecDepth 20000 in
theorem C_X8_isSending {l : Launch} {v : Nat} (hv : v < 4) {g : Nat} (hg : g < 6) {a1 : Int32} {a2 : Int32} {u : PM} {x : Int32 × PM} (hf : f_X8_isSending v g a1 a2 u = some x) : Ev l mX8_isSending 4 0 0 false [vR (1, v, 0), vR (3, v, g), vI a1, vI a2] kC (en u) (some (vI x.1), kC, en x.2) := by
  refine Ev_of (by decide +kernel) (le_b rfl) ?_
  unfold f_X8_isSending at hf
  show X l mX8_isSending 4 0 0 false _ kC 0 0 0 [some (vR (1, v, 0)), some (vR (3, v, g)), some (vI a1), some (vI a2)] [] (en u)
  refine r_aload_n (x := (3, v, g)) dX8_isSending_0 rfl ?_
  refine e_geti fw_X8_74 dX8_isSending_1 (kC_mem (s := 3) (by decide) hv hg) rfl (lt_b rfl) ?_
  by_cases hs0 : (u.1 (3, v, g) 2) = (1 : Int32)
  · have hf := (am_if hf).1 hs0
    refine r_tswIn (x := u.1 (3, v, g) 2) (kx := 1) (tgt := 44) dX8_isSending_4 hs0 (by decide) (by decide) rfl (by decide) ?_
    refine r_iconst (v := 1) dX8_isSending_44 rfl ?_
    have hx := am_inj hf
    subst hx
    exact r_iret dX8_isSending_45 rfl (am_bool (x := 1) (by decide)).1 (le_b rfl) (le_b rfl)
  have hf := (am_if hf).2 hs0
  by_cases hs1 : (u.1 (3, v, g) 2) = (2 : Int32)
  · have hf := (am_if hf).1 hs1
    refine r_tswIn (x := u.1 (3, v, g) 2) (kx := 2) (tgt := 46) dX8_isSending_4 hs1 (by decide) (by decide) rfl (by decide) ?_
    refine r_aload_n (x := (1, v, 0)) dX8_isSending_46 rfl ?_
    obtain ⟨r1, hr2, hf⟩ := am_bind hf
    refine r_callV (as := []) (st := []) (n := 0) mw_X8_64 mv_X8_litBits (C_X8_litBits (l := l) hv hr2) (by decide) dX8_isSending_47 (kC_mem (s := 1) (by decide) hv (by decide)) rfl rfl rfl (le_b rfl) (le_b rfl) (le_b rfl) ?_
    show X l _ _ 0 0 false _ kC 0 0 50 [some (vR (1, v, 0)), some (vR (3, v, g)), some (vI a1), some (vI a2)] [vI r1] (en u)
    refine r_iconst (v := 1) dX8_isSending_50 rfl ?_
    refine r_iload_n (x := a1) dX8_isSending_51 rfl ?_
    refine r_ishl dX8_isSending_52 ?_
    refine r_iconst (v := 1) dX8_isSending_53 rfl ?_
    refine r_isub dX8_isSending_54 ?_
    refine r_iand dX8_isSending_55 ?_
    refine r_if_ne (tgt := 63) dX8_isSending_56 (by decide) (fun hc => ?_) (fun hc => ?_)
    · have hf := (am_if hf).2 hc
      refine r_iconst (v := 0) dX8_isSending_63 rfl ?_
      have hx := am_inj hf
      subst hx
      exact r_iret dX8_isSending_64 rfl (am_bool (x := 0) (by decide)).1 (le_b rfl) (le_b rfl)
    · have hf := (am_if hf).1 hc
      refine r_iconst (v := 1) dX8_isSending_59 rfl ?_
      refine r_goto (tgt := 64) dX8_isSending_60 (by decide) ?_
      have hx := am_inj hf
      subst hx
      exact r_iret dX8_isSending_64 rfl (am_bool (x := 1) (by decide)).1 (le_b rfl) (le_b rfl)
  have hf := (am_if hf).2 hs1
  by_cases hs2 : (u.1 (3, v, g) 2) = (3 : Int32)
  · have hf := (am_if hf).1 hs2
    refine r_tswIn (x := u.1 (3, v, g) 2) (kx := 3) (tgt := 65) dX8_isSending_4 hs2 (by decide) (by decide) rfl (by decide) ?_
    refine r_aload_n (x := (1, v, 0)) dX8_isSending_65 rfl ?_
    refine r_iconst (v := 3) dX8_isSending_66 rfl ?_
    refine r_iload_n (x := a1) dX8_isSending_67 rfl ?_
    refine r_iload_n (x := a2) dX8_isSending_68 rfl ?_
    obtain ⟨⟨r3, u5⟩, hr4, hf⟩ := am_bind hf
    refine r_callV (as := [vI (3 : Int32), vI a1, vI a2]) (st := []) (n := 3) mw_X8_127 mv_X8_sum (C_X8_sum (l := l) hv hr4) (by decide) dX8_isSending_69 (kC_mem (s := 1) (by decide) hv (by decide)) rfl rfl rfl (le_b rfl) (le_b rfl) (le_b rfl) ?_
    show X l _ _ 0 0 false _ kC 0 0 72 [some (vR (1, v, 0)), some (vR (3, v, g)), some (vI a1), some (vI a2)] [vI r3] (en u5)
    refine r_aload_n (x := (3, v, g)) dX8_isSending_72 rfl ?_
    refine e_geti fw_X8_77 dX8_isSending_73 (kC_mem (s := 3) (by decide) hv hg) rfl (lt_b rfl) ?_
    refine r_icmp_lt (tgt := 83) dX8_isSending_76 (by decide) (fun hc => ?_) (fun hc => ?_)
    · have hf := (am_if hf).1 hc
      refine r_iconst (v := 0) dX8_isSending_83 rfl ?_
      have hx := am_inj hf
      subst hx
      exact r_iret dX8_isSending_84 rfl (am_bool (x := 0) (by decide)).1 (le_b rfl) (le_b rfl)
    · have hf := (am_if hf).2 hc
      refine r_iconst (v := 1) dX8_isSending_79 rfl ?_
      refine r_goto (tgt := 84) dX8_isSending_80 (by decide) ?_
      have hx := am_inj hf
      subst hx
      exact r_iret dX8_isSending_84 rfl (am_bool (x := 1) (by decide)).1 (le_b rfl) (le_b rfl)
  have hf := (am_if hf).2 hs2
  by_cases hs3 : (u.1 (3, v, g) 2) = (4 : Int32)
  · have hf := (am_if hf).1 hs3
    refine r_tswIn (x := u.1 (3, v, g) 2) (kx := 4) (tgt := 44) dX8_isSending_4 hs3 (by decide) (by decide) rfl (by decide) ?_
    refine r_iconst (v := 1) dX8_isSending_44 rfl ?_
    have hx := am_inj hf
    subst hx
    exact r_iret dX8_isSending_45 rfl (am_bool (x := 1) (by decide)).1 (le_b rfl) (le_b rfl)
  have hf := (am_if hf).2 hs3
  by_cases hs4 : (u.1 (3, v, g) 2) = (5 : Int32)
  · have hf := (am_if hf).1 hs4
    refine r_tswIn (x := u.1 (3, v, g) 2) (kx := 5) (tgt := 46) dX8_isSending_4 hs4 (by decide) (by decide) rfl (by decide) ?_
    refine r_aload_n (x := (1, v, 0)) dX8_isSending_46 rfl ?_
    obtain ⟨r6, hr7, hf⟩ := am_bind hf
    refine r_callV (as := []) (st := []) (n := 0) mw_X8_64 mv_X8_litBits (C_X8_litBits (l := l) hv hr7) (by decide) dX8_isSending_47 (kC_mem (s := 1) (by decide) hv (by decide)) rfl rfl rfl (le_b rfl) (le_b rfl) (le_b rfl) ?_
    show X l _ _ 0 0 false _ kC 0 0 50 [some (vR (1, v, 0)), some (vR (3, v, g)), some (vI a1), some (vI a2)] [vI r6] (en u)
    refine r_iconst (v := 1) dX8_isSending_50 rfl ?_
    refine r_iload_n (x := a1) dX8_isSending_51 rfl ?_
    refine r_ishl dX8_isSending_52 ?_
    refine r_iconst (v := 1) dX8_isSending_53 rfl ?_
    refine r_isub dX8_isSending_54 ?_
    refine r_iand dX8_isSending_55 ?_
    refine r_if_ne (tgt := 63) dX8_isSending_56 (by decide) (fun hc => ?_) (fun hc => ?_)
    · have hf := (am_if hf).2 hc
      refine r_iconst (v := 0) dX8_isSending_63 rfl ?_
      have hx := am_inj hf
      subst hx
      exact r_iret dX8_isSending_64 rfl (am_bool (x := 0) (by decide)).1 (le_b rfl) (le_b rfl)
    · have hf := (am_if hf).1 hc
      refine r_iconst (v := 1) dX8_isSending_59 rfl ?_
      refine r_goto (tgt := 64) dX8_isSending_60 (by decide) ?_
      have hx := am_inj hf
      subst hx
      exact r_iret dX8_isSending_64 rfl (am_bool (x := 1) (by decide)).1 (le_b rfl) (le_b rfl)
  have hf := (am_if hf).2 hs4
  by_cases hs5 : (u.1 (3, v, g) 2) = (6 : Int32)
  · have hf := (am_if hf).1 hs5
    refine r_tswIn (x := u.1 (3, v, g) 2) (kx := 6) (tgt := 65) dX8_isSending_4 hs5 (by decide) (by decide) rfl (by decide) ?_
    refine r_aload_n (x := (1, v, 0)) dX8_isSending_65 rfl ?_
    refine r_iconst (v := 3) dX8_isSending_66 rfl ?_
    refine r_iload_n (x := a1) dX8_isSending_67 rfl ?_
    refine r_iload_n (x := a2) dX8_isSending_68 rfl ?_
    obtain ⟨⟨r8, u10⟩, hr9, hf⟩ := am_bind hf
    refine r_callV (as := [vI (3 : Int32), vI a1, vI a2]) (st := []) (n := 3) mw_X8_127 mv_X8_sum (C_X8_sum (l := l) hv hr9) (by decide) dX8_isSending_69 (kC_mem (s := 1) (by decide) hv (by decide)) rfl rfl rfl (le_b rfl) (le_b rfl) (le_b rfl) ?_
    show X l _ _ 0 0 false _ kC 0 0 72 [some (vR (1, v, 0)), some (vR (3, v, g)), some (vI a1), some (vI a2)] [vI r8] (en u10)
    refine r_aload_n (x := (3, v, g)) dX8_isSending_72 rfl ?_
    refine e_geti fw_X8_77 dX8_isSending_73 (kC_mem (s := 3) (by decide) hv hg) rfl (lt_b rfl) ?_
    refine r_icmp_lt (tgt := 83) dX8_isSending_76 (by decide) (fun hc => ?_) (fun hc => ?_)
    · have hf := (am_if hf).1 hc
      refine r_iconst (v := 0) dX8_isSending_83 rfl ?_
      have hx := am_inj hf
      subst hx
      exact r_iret dX8_isSending_84 rfl (am_bool (x := 0) (by decide)).1 (le_b rfl) (le_b rfl)
    · have hf := (am_if hf).2 hc
      refine r_iconst (v := 1) dX8_isSending_79 rfl ?_
      refine r_goto (tgt := 84) dX8_isSending_80 (by decide) ?_
      have hx := am_inj hf
      subst hx
      exact r_iret dX8_isSending_84 rfl (am_bool (x := 1) (by decide)).1 (le_b rfl) (le_b rfl)
  have hf := (am_if hf).2 hs5
  refine r_tswOut (x := u.1 (3, v, g) 2) (tgt := 85) dX8_isSending_4 (by have ehs0 := am_neI hs0 (z := 1) rfl; have ehs1 := am_neI hs1 (z := 2) rfl; have ehs2 := am_neI hs2 (z := 3) rfl; have ehs3 := am_neI hs3 (z := 4) rfl; have ehs4 := am_neI hs4 (z := 5) rfl; have ehs5 := am_neI hs5 (z := 6) rfl; omega) (by decide) ?_
  refine r_iconst (v := 0) dX8_isSending_85 rfl ?_
  have hx := am_inj hf
  subst hx
  exact r_iret dX8_isSending_86 rfl (am_bool (x := 0) (by decide)).1 (le_b rfl) (le_b rfl)
/-! FireFromFire$Village.choice -/
theorem dX8_choice_0 : decode cX8_choice 0 = .ok (.aload_n 0, 1) := by decide +kernel
theorem dX8_choice_1 : decode cX8_choice 1 = .ok (.iload_n 1, 1) := by decide +kernel
theorem dX8_choice_2 : decode cX8_choice 2 = .ok (.invokevirtual 80, 3) := by decide +kernel
theorem dX8_choice_5 : decode cX8_choice 5 = .ok (.astore_n 3, 1) := by decide +kernel
theorem dX8_choice_6 : decode cX8_choice 6 = .ok (.aload_n 3, 1) := by decide +kernel
theorem dX8_choice_7 : decode cX8_choice 7 = .ok (.ifnonnull 5, 3) := by decide +kernel
theorem dX8_choice_10 : decode cX8_choice 10 = .ok (.iconst 0, 1) := by decide +kernel
theorem dX8_choice_11 : decode cX8_choice 11 = .ok (.ireturn, 1) := by decide +kernel
theorem dX8_choice_12 : decode cX8_choice 12 = .ok (.aload_n 3, 1) := by decide +kernel
theorem dX8_choice_13 : decode cX8_choice 13 = .ok (.getfield 60, 3) := by decide +kernel
theorem dX8_choice_16 : decode cX8_choice 16 = .ok (.ifCond .eq 19, 3) := by decide +kernel
theorem dX8_choice_19 : decode cX8_choice 19 = .ok (.aload_n 0, 1) := by decide +kernel
theorem dX8_choice_20 : decode cX8_choice 20 = .ok (.aload_n 3, 1) := by decide +kernel
theorem dX8_choice_21 : decode cX8_choice 21 = .ok (.iload_n 1, 1) := by decide +kernel
theorem dX8_choice_22 : decode cX8_choice 22 = .ok (.iload_n 2, 1) := by decide +kernel
theorem dX8_choice_23 : decode cX8_choice 23 = .ok (.invokevirtual 114, 3) := by decide +kernel
theorem dX8_choice_26 : decode cX8_choice 26 = .ok (.ifCond .eq 7, 3) := by decide +kernel
theorem dX8_choice_29 : decode cX8_choice 29 = .ok (.iconst 1, 1) := by decide +kernel
theorem dX8_choice_30 : decode cX8_choice 30 = .ok (.goto 4, 3) := by decide +kernel
theorem dX8_choice_33 : decode cX8_choice 33 = .ok (.iconst 2, 1) := by decide +kernel
theorem dX8_choice_34 : decode cX8_choice 34 = .ok (.ireturn, 1) := by decide +kernel
theorem dX8_choice_35 : decode cX8_choice 35 = .ok (.aload_n 3, 1) := by decide +kernel
theorem dX8_choice_36 : decode cX8_choice 36 = .ok (.getfield 118, 3) := by decide +kernel
theorem dX8_choice_39 : decode cX8_choice 39 = .ok (.ifCond .ne 11, 3) := by decide +kernel
theorem dX8_choice_42 : decode cX8_choice 42 = .ok (.aload_n 0, 1) := by decide +kernel
theorem dX8_choice_43 : decode cX8_choice 43 = .ok (.iload_n 1, 1) := by decide +kernel
theorem dX8_choice_44 : decode cX8_choice 44 = .ok (.invokevirtual 121, 3) := by decide +kernel
theorem dX8_choice_47 : decode cX8_choice 47 = .ok (.ifCond .ge 5, 3) := by decide +kernel
theorem dX8_choice_50 : decode cX8_choice 50 = .ok (.iconst 0, 1) := by decide +kernel
theorem dX8_choice_51 : decode cX8_choice 51 = .ok (.ireturn, 1) := by decide +kernel
theorem dX8_choice_52 : decode cX8_choice 52 = .ok (.aload_n 0, 1) := by decide +kernel
theorem dX8_choice_53 : decode cX8_choice 53 = .ok (.aload_n 3, 1) := by decide +kernel
theorem dX8_choice_54 : decode cX8_choice 54 = .ok (.iload_n 1, 1) := by decide +kernel
theorem dX8_choice_55 : decode cX8_choice 55 = .ok (.iload_n 2, 1) := by decide +kernel
theorem dX8_choice_56 : decode cX8_choice 56 = .ok (.invokevirtual 124, 3) := by decide +kernel
theorem dX8_choice_59 : decode cX8_choice 59 = .ok (.ifCond .eq 7, 3) := by decide +kernel
theorem dX8_choice_62 : decode cX8_choice 62 = .ok (.iconst 3, 1) := by decide +kernel
theorem dX8_choice_63 : decode cX8_choice 63 = .ok (.goto 4, 3) := by decide +kernel
theorem dX8_choice_66 : decode cX8_choice 66 = .ok (.iconst 0, 1) := by decide +kernel
theorem dX8_choice_67 : decode cX8_choice 67 = .ok (.ireturn, 1) := by decide +kernel
def f_X8_choice (v : Nat) (a0 : Int32) (a1 : Int32) (u : PM) : Option (Int32 × PM) :=
  (f_X8_find v a0 u).bind fun r1 =>
  match r1 with
  | none =>
    some ((0 : Int32), u)
  | some p3 =>
    if p3 < 6 then
      if (u.1 (3, v, p3) 1) = 0 then
        if (u.1 (3, v, p3) 5) = 0 then
          (f_X8_nearestFire v a0 u).bind fun r5 =>
          if 0 ≤ r5 then
            (f_X8_isSending v p3 a0 a1 u).bind fun (r7, u9) =>
            if r7 = 0 then
              some ((0 : Int32), u9)
            else
            some ((3 : Int32), u9)
          else
          some ((0 : Int32), u)
        else
        some ((0 : Int32), u)
      else
      (f_X8_isKeeping v p3 a0 a1 u).bind fun (r10, u12) =>
      if r10 = 0 then
        some ((2 : Int32), u12)
      else
      some ((1 : Int32), u12)
    else none
set_option maxHeartbeats 4000000 in
set_option maxRecDepth 20000 in
theorem C_X8_choice {l : Launch} {v : Nat} (hv : v < 4) {a0 : Int32} {a1 : Int32} {u : PM} {x : Int32 × PM} (hf : f_X8_choice v a0 a1 u = some x) : Ev l mX8_choice 5 0 0 false [vR (1, v, 0), vI a0, vI a1] kC (en u) (some (vI x.1), kC, en x.2) := by
  refine Ev_of (by decide +kernel) (le_b rfl) ?_
  unfold f_X8_choice at hf
  show X l mX8_choice 5 0 0 false _ kC 0 0 0 [some (vR (1, v, 0)), some (vI a0), some (vI a1), none] [] (en u)
  refine r_aload_n (x := (1, v, 0)) dX8_choice_0 rfl ?_
  refine r_iload_n (x := a0) dX8_choice_1 rfl ?_
  obtain ⟨r1, hr2, hf⟩ := am_bind hf
  refine r_callV (as := [vI a0]) (st := []) (n := 1) mw_X8_80 mv_X8_find (C_X8_find (l := l) hv hr2) (by decide) dX8_choice_2 (kC_mem (s := 1) (by decide) hv (by decide)) rfl rfl rfl (le_b rfl) (le_b rfl) (le_b rfl) ?_
  cases r1 with
  | none =>
    show X l _ _ 0 0 false _ kC 0 0 5 [some (vR (1, v, 0)), some (vI a0), some (vI a1), none] [vN] (en u)
    refine r_astore_nN (L' := [some (vR (1, v, 0)), some (vI a0), some (vI a1), some (vN)]) dX8_choice_5 (by decide) rfl ?_
    refine r_aload_nN dX8_choice_6 rfl ?_
    refine r_ifnonnullN dX8_choice_7 ?_
    refine r_iconst (v := 0) dX8_choice_10 rfl ?_
    have hx := am_inj hf
    subst hx
    exact r_iret dX8_choice_11 rfl rfl (le_b rfl) (le_b rfl)
  | some p3 =>
    obtain ⟨h4, hf⟩ := am_chk hf
    show X l _ _ 0 0 false _ kC 0 0 5 [some (vR (1, v, 0)), some (vI a0), some (vI a1), none] [vR (3, v, p3)] (en u)
    refine r_astore_n (L' := [some (vR (1, v, 0)), some (vI a0), some (vI a1), some (vR (3, v, p3))]) dX8_choice_5 (by decide) rfl ?_
    refine r_aload_n (x := (3, v, p3)) dX8_choice_6 rfl ?_
    refine r_ifnonnullR (tgt := 12) dX8_choice_7 (by decide) ?_
    refine r_aload_n (x := (3, v, p3)) dX8_choice_12 rfl ?_
    refine e_geti fw_X8_60 dX8_choice_13 (kC_mem (s := 3) (by decide) hv h4) rfl (lt_b rfl) ?_
    refine r_if_eq (tgt := 35) dX8_choice_16 (by decide) (fun hc => ?_) (fun hc => ?_)
    · have hf := (am_if hf).1 hc
      refine r_aload_n (x := (3, v, p3)) dX8_choice_35 rfl ?_
      refine e_geti fw_X8_118 dX8_choice_36 (kC_mem (s := 3) (by decide) hv h4) rfl (lt_b rfl) ?_
      refine r_if_ne (tgt := 50) dX8_choice_39 (by decide) (fun hc => ?_) (fun hc => ?_)
      · have hf := (am_if hf).2 hc
        refine r_iconst (v := 0) dX8_choice_50 rfl ?_
        have hx := am_inj hf
        subst hx
        exact r_iret dX8_choice_51 rfl rfl (le_b rfl) (le_b rfl)
      · have hf := (am_if hf).1 hc
        refine r_aload_n (x := (1, v, 0)) dX8_choice_42 rfl ?_
        refine r_iload_n (x := a0) dX8_choice_43 rfl ?_
        obtain ⟨r5, hr6, hf⟩ := am_bind hf
        refine r_callV (as := [vI a0]) (st := []) (n := 1) mw_X8_121 mv_X8_nearestFire (C_X8_nearestFire (l := l) hv hr6) (by decide) dX8_choice_44 (kC_mem (s := 1) (by decide) hv (by decide)) rfl rfl rfl (le_b rfl) (le_b rfl) (le_b rfl) ?_
        show X l _ _ 0 0 false _ kC 0 0 47 [some (vR (1, v, 0)), some (vI a0), some (vI a1), some (vR (3, v, p3))] [vI r5] (en u)
        refine r_if_ge (tgt := 52) dX8_choice_47 (by decide) (fun hc => ?_) (fun hc => ?_)
        · have hf := (am_if hf).1 hc
          refine r_aload_n (x := (1, v, 0)) dX8_choice_52 rfl ?_
          refine r_aload_n (x := (3, v, p3)) dX8_choice_53 rfl ?_
          refine r_iload_n (x := a0) dX8_choice_54 rfl ?_
          refine r_iload_n (x := a1) dX8_choice_55 rfl ?_
          obtain ⟨⟨r7, u9⟩, hr8, hf⟩ := am_bind hf
          refine r_callV (as := [vR (3, v, p3), vI a0, vI a1]) (st := []) (n := 3) mw_X8_124 mv_X8_isSending (C_X8_isSending (l := l) hv h4 hr8) (by decide) dX8_choice_56 (kC_mem (s := 1) (by decide) hv (by decide)) rfl rfl rfl (le_b rfl) (le_b rfl) (le_b rfl) ?_
          show X l _ _ 0 0 false _ kC 0 0 59 [some (vR (1, v, 0)), some (vI a0), some (vI a1), some (vR (3, v, p3))] [vI r7] (en u9)
          refine r_if_eq (tgt := 66) dX8_choice_59 (by decide) (fun hc => ?_) (fun hc => ?_)
          · have hf := (am_if hf).1 hc
            refine r_iconst (v := 0) dX8_choice_66 rfl ?_
            have hx := am_inj hf
            subst hx
            exact r_iret dX8_choice_67 rfl rfl (le_b rfl) (le_b rfl)
          · have hf := (am_if hf).2 hc
            refine r_iconst (v := 3) dX8_choice_62 rfl ?_
            refine r_goto (tgt := 67) dX8_choice_63 (by decide) ?_
            have hx := am_inj hf
            subst hx
            exact r_iret dX8_choice_67 rfl rfl (le_b rfl) (le_b rfl)
        · have hf := (am_if hf).2 hc
          refine r_iconst (v := 0) dX8_choice_50 rfl ?_
          have hx := am_inj hf
          subst hx
          exact r_iret dX8_choice_51 rfl rfl (le_b rfl) (le_b rfl)
    · have hf := (am_if hf).2 hc
      refine r_aload_n (x := (1, v, 0)) dX8_choice_19 rfl ?_
      refine r_aload_n (x := (3, v, p3)) dX8_choice_20 rfl ?_
      refine r_iload_n (x := a0) dX8_choice_21 rfl ?_
      refine r_iload_n (x := a1) dX8_choice_22 rfl ?_
      obtain ⟨⟨r10, u12⟩, hr11, hf⟩ := am_bind hf
      refine r_callV (as := [vR (3, v, p3), vI a0, vI a1]) (st := []) (n := 3) mw_X8_114 mv_X8_isKeeping (C_X8_isKeeping (l := l) hv h4 hr11) (by decide) dX8_choice_23 (kC_mem (s := 1) (by decide) hv (by decide)) rfl rfl rfl (le_b rfl) (le_b rfl) (le_b rfl) ?_
      show X l _ _ 0 0 false _ kC 0 0 26 [some (vR (1, v, 0)), some (vI a0), some (vI a1), some (vR (3, v, p3))] [vI r10] (en u12)
      refine r_if_eq (tgt := 33) dX8_choice_26 (by decide) (fun hc => ?_) (fun hc => ?_)
      · have hf := (am_if hf).1 hc
        refine r_iconst (v := 2) dX8_choice_33 rfl ?_
        have hx := am_inj hf
        subst hx
        exact r_iret dX8_choice_34 rfl rfl (le_b rfl) (le_b rfl)
      · have hf := (am_if hf).2 hc
        refine r_iconst (v := 1) dX8_choice_29 rfl ?_
        refine r_goto (tgt := 34) dX8_choice_30 (by decide) ?_
        have hx := am_inj hf
        subst hx
        exact r_iret dX8_choice_34 rfl rfl (le_b rfl) (le_b rfl)
end
section
/-! words of the tables, by program -/
abbrev mX1_begin : MD := (yX1_begin, cX1_begin, 1, none)
theorem fp_X1_9 : FP RX1 9 1 0 .int false := ⟨RX1, TX1, 6, tyX1, rfl, by decide, inWd1, Wd_of (List.mem_of_getElem? (i := 257) (by decide +kernel)) rfl, tyX1_ok, nmX1, rfl, rfl, fun h => by cases h⟩
theorem fp_X1_15 : FP RX1 15 1 1 .int false := ⟨RX1, TX1, 6, tyX1, rfl, by decide, inWd1, Wd_of (List.mem_of_getElem? (i := 260) (by decide +kernel)) rfl, tyX1_ok, nmX1, rfl, rfl, fun h => by cases h⟩
abbrev mX1_weigh : MD := (yX1_weigh, cX1_weigh, 5, none)
theorem fw_X1_31 : FW RX1 31 8 0 0 := ⟨RX8, TX8, 10, rfl, by decide, inWd8, Wd_of (List.mem_of_getElem? (i := 181) (by decide +kernel)) rfl, rfl⟩
theorem mw_X1_36 : MW RX1 36 mX8_sum 3 := ⟨Wd_of (List.mem_of_getElem? (i := 739) (by decide +kernel)) rfl, Wd_of (List.mem_of_getElem? (i := 83) (by decide +kernel)) rfl, Wd_of (List.mem_of_getElem? (i := 667) (by decide +kernel)) rfl, ⟨by decide, by decide, by decide +kernel⟩, by decide⟩
theorem fw_X1_40 : FW RX1 40 8 1 2 := ⟨RX8, TX8, 10, rfl, by decide, inWd8, Wd_of (List.mem_of_getElem? (i := 185) (by decide +kernel)) rfl, rfl⟩
theorem fw_X1_44 : FW RX1 44 2 1 0 := ⟨RX2, TX2, 9, rfl, by decide, inWd2, Wd_of (List.mem_of_getElem? (i := 129) (by decide +kernel)) rfl, rfl⟩
theorem fw_X1_15 : FW RX1 15 1 1 0 := ⟨RX1, TX1, 6, rfl, by decide, inWd1, Wd_of (List.mem_of_getElem? (i := 260) (by decide +kernel)) rfl, rfl⟩
theorem fw_X1_9 : FW RX1 9 1 0 0 := ⟨RX1, TX1, 6, rfl, by decide, inWd1, Wd_of (List.mem_of_getElem? (i := 257) (by decide +kernel)) rfl, rfl⟩
abbrev mX1_burn : MD := (yX1_burn, cX1_burn, 4, none)
theorem fw_X1_18 : FW RX1 18 1 2 2 := ⟨RX1, TX1, 6, rfl, by decide, inWd1, Wd_of (List.mem_of_getElem? (i := 262) (by decide +kernel)) rfl, rfl⟩
theorem fp_X1_44 : FP RX1 44 2 1 .boolean false := ⟨RX2, TX2, 9, tyX2, rfl, by decide, inWd2, Wd_of (List.mem_of_getElem? (i := 129) (by decide +kernel)) rfl, tyX2_ok, nmX2, rfl, rfl, fun h => by cases h⟩
theorem fw_X1_86 : FW RX1 86 2 0 0 := ⟨RX2, TX2, 9, rfl, by decide, inWd2, Wd_of (List.mem_of_getElem? (i := 126) (by decide +kernel)) rfl, rfl⟩
theorem fw_X1_22 : FW RX1 22 1 3 2 := ⟨RX1, TX1, 6, rfl, by decide, inWd1, Wd_of (List.mem_of_getElem? (i := 263) (by decide +kernel)) rfl, rfl⟩
theorem fp_X1_86 : FP RX1 86 2 0 .int false := ⟨RX2, TX2, 9, tyX2, rfl, by decide, inWd2, Wd_of (List.mem_of_getElem? (i := 126) (by decide +kernel)) rfl, tyX2_ok, nmX2, rfl, rfl, fun h => by cases h⟩
abbrev mX1_goNearer : MD := (yX1_goNearer, cX1_goNearer, 5, none)
theorem fw_X1_89 : FW RX1 89 2 6 0 := ⟨RX2, TX2, 9, rfl, by decide, inWd2, Wd_of (List.mem_of_getElem? (i := 151) (by decide +kernel)) rfl, rfl⟩
theorem fp_X1_89 : FP RX1 89 2 6 .int false := ⟨RX2, TX2, 9, tyX2, rfl, by decide, inWd2, Wd_of (List.mem_of_getElem? (i := 151) (by decide +kernel)) rfl, tyX2_ok, nmX2, rfl, rfl, fun h => by cases h⟩
theorem fw_X1_92 : FW RX1 92 2 7 0 := ⟨RX2, TX2, 9, rfl, by decide, inWd2, Wd_of (List.mem_of_getElem? (i := 154) (by decide +kernel)) rfl, rfl⟩
theorem mw_X1_95 : MW RX1 95 mX8_find 1 := ⟨Wd_of (List.mem_of_getElem? (i := 751) (by decide +kernel)) rfl, Wd_of (List.mem_of_getElem? (i := 83) (by decide +kernel)) rfl, Wd_of (List.mem_of_getElem? (i := 456) (by decide +kernel)) rfl, ⟨by decide, by decide, by decide +kernel⟩, by decide⟩
theorem mw_X1_64 : MW RX1 64 mX2_setOut 3 := ⟨Wd_of (List.mem_of_getElem? (i := 742) (by decide +kernel)) rfl, Wd_of (List.mem_of_getElem? (i := 84) (by decide +kernel)) rfl, Wd_of (List.mem_of_getElem? (i := 448) (by decide +kernel)) rfl, ⟨by decide, by decide, by decide +kernel⟩, by decide⟩
theorem mw_X1_61 : MW RX1 61 mX8_hoursBetween 2 := ⟨Wd_of (List.mem_of_getElem? (i := 741) (by decide +kernel)) rfl, Wd_of (List.mem_of_getElem? (i := 83) (by decide +kernel)) rfl, Wd_of (List.mem_of_getElem? (i := 472) (by decide +kernel)) rfl, ⟨by decide, by decide, by decide +kernel⟩, by decide⟩
theorem jm_X1_99 : Cond.methodLink RX1 99 Lib.Math.max.name ∈ Wd := Wd_of (List.mem_of_getElem? (i := 752) (by decide +kernel)) rfl
abbrev mX1_bringNearer : MD := (yX1_bringNearer, cX1_bringNearer, 3, none)
theorem fw_X1_104 : FW RX1 104 2 8 0 := ⟨RX2, TX2, 9, rfl, by decide, inWd2, Wd_of (List.mem_of_getElem? (i := 157) (by decide +kernel)) rfl, rfl⟩
theorem fp_X1_104 : FP RX1 104 2 8 .int false := ⟨RX2, TX2, 9, tyX2, rfl, by decide, inWd2, Wd_of (List.mem_of_getElem? (i := 157) (by decide +kernel)) rfl, tyX2_ok, nmX2, rfl, rfl, fun h => by cases h⟩
theorem fw_X1_25 : FW RX1 25 1 4 2 := ⟨RX1, TX1, 6, rfl, by decide, inWd1, Wd_of (List.mem_of_getElem? (i := 264) (by decide +kernel)) rfl, rfl⟩
abbrev mX1_pass : MD := (yX1_pass, cX1_pass, 6, none)
theorem mw_X1_50 : MW RX1 50 mX8_choice 2 := ⟨Wd_of (List.mem_of_getElem? (i := 738) (by decide +kernel)) rfl, Wd_of (List.mem_of_getElem? (i := 83) (by decide +kernel)) rfl, Wd_of (List.mem_of_getElem? (i := 715) (by decide +kernel)) rfl, ⟨by decide, by decide, by decide +kernel⟩, by decide⟩
theorem mv_X8_choice : MV mX8_choice := ⟨Wd_of (List.mem_of_getElem? (i := 713) (by decide +kernel)) rfl, Wd_of (List.mem_of_getElem? (i := 714) (by decide +kernel)) rfl⟩
theorem fw_X1_54 : FW RX1 54 2 5 0 := ⟨RX2, TX2, 9, rfl, by decide, inWd2, Wd_of (List.mem_of_getElem? (i := 147) (by decide +kernel)) rfl, rfl⟩
theorem fw_X1_28 : FW RX1 28 1 5 2 := ⟨RX1, TX1, 6, rfl, by decide, inWd1, Wd_of (List.mem_of_getElem? (i := 265) (by decide +kernel)) rfl, rfl⟩
theorem mw_X1_57 : MW RX1 57 mX8_nearestFire 1 := ⟨Wd_of (List.mem_of_getElem? (i := 740) (by decide +kernel)) rfl, Wd_of (List.mem_of_getElem? (i := 83) (by decide +kernel)) rfl, Wd_of (List.mem_of_getElem? (i := 724) (by decide +kernel)) rfl, ⟨by decide, by decide, by decide +kernel⟩, by decide⟩
theorem mw_X1_68 : MW RX1 68 mX1_burn 3 := ⟨Wd_of (List.mem_of_getElem? (i := 743) (by decide +kernel)) rfl, Wd_of (List.mem_of_getElem? (i := 86) (by decide +kernel)) rfl, Wd_of (List.mem_of_getElem? (i := 746) (by decide +kernel)) rfl, ⟨by decide, by decide, by decide +kernel⟩, by decide⟩
theorem mv_X1_burn : MV mX1_burn := ⟨Wd_of (List.mem_of_getElem? (i := 745) (by decide +kernel)) rfl, Wd_of (List.mem_of_getElem? (i := 12) (by decide +kernel)) rfl⟩
theorem mw_X1_76 : MW RX1 76 mX1_bringNearer 2 := ⟨Wd_of (List.mem_of_getElem? (i := 753) (by decide +kernel)) rfl, Wd_of (List.mem_of_getElem? (i := 86) (by decide +kernel)) rfl, Wd_of (List.mem_of_getElem? (i := 756) (by decide +kernel)) rfl, ⟨by decide, by decide, by decide +kernel⟩, by decide⟩
theorem mv_X1_bringNearer : MV mX1_bringNearer := ⟨Wd_of (List.mem_of_getElem? (i := 755) (by decide +kernel)) rfl, Wd_of (List.mem_of_getElem? (i := 14) (by decide +kernel)) rfl⟩
theorem mw_X1_72 : MW RX1 72 mX1_goNearer 3 := ⟨Wd_of (List.mem_of_getElem? (i := 747) (by decide +kernel)) rfl, Wd_of (List.mem_of_getElem? (i := 86) (by decide +kernel)) rfl, Wd_of (List.mem_of_getElem? (i := 750) (by decide +kernel)) rfl, ⟨by decide, by decide, by decide +kernel⟩, by decide⟩
theorem mv_X1_goNearer : MV mX1_goNearer := ⟨Wd_of (List.mem_of_getElem? (i := 749) (by decide +kernel)) rfl, Wd_of (List.mem_of_getElem? (i := 13) (by decide +kernel)) rfl⟩
theorem fp_X1_80 : FP RX1 80 8 3 .int false := ⟨RX8, TX8, 10, tyX8, rfl, by decide, inWd8, Wd_of (List.mem_of_getElem? (i := 191) (by decide +kernel)) rfl, tyX8_ok, nmX8, rfl, rfl, fun h => by cases h⟩
theorem fw_X1_83 : FW RX1 83 8 4 0 := ⟨RX8, TX8, 10, rfl, by decide, inWd8, Wd_of (List.mem_of_getElem? (i := 194) (by decide +kernel)) rfl, rfl⟩
theorem fp_X1_83 : FP RX1 83 8 4 .int false := ⟨RX8, TX8, 10, tyX8, rfl, by decide, inWd8, Wd_of (List.mem_of_getElem? (i := 194) (by decide +kernel)) rfl, tyX8_ok, nmX8, rfl, rfl, fun h => by cases h⟩
abbrev mX1_passNights : MD := (yX1_passNights, cX1_passNights, 5, none)
theorem mw_X1_107 : MW RX1 107 mX8_copy 1 := ⟨Wd_of (List.mem_of_getElem? (i := 770) (by decide +kernel)) rfl, Wd_of (List.mem_of_getElem? (i := 83) (by decide +kernel)) rfl, Wd_of (List.mem_of_getElem? (i := 773) (by decide +kernel)) rfl, ⟨by decide, by decide, by decide +kernel⟩, by decide⟩
theorem mv_X8_copy : MV mX8_copy := ⟨Wd_of (List.mem_of_getElem? (i := 771) (by decide +kernel)) rfl, Wd_of (List.mem_of_getElem? (i := 772) (by decide +kernel)) rfl⟩
theorem mw_X1_111 : MW RX1 111 mX1_begin 0 := ⟨Wd_of (List.mem_of_getElem? (i := 781) (by decide +kernel)) rfl, Wd_of (List.mem_of_getElem? (i := 86) (by decide +kernel)) rfl, Wd_of (List.mem_of_getElem? (i := 784) (by decide +kernel)) rfl, ⟨by decide, by decide, by decide +kernel⟩, by decide⟩
theorem mv_X1_begin : MV mX1_begin := ⟨Wd_of (List.mem_of_getElem? (i := 782) (by decide +kernel)) rfl, Wd_of (List.mem_of_getElem? (i := 783) (by decide +kernel)) rfl⟩
theorem fw_X1_114 : FW RX1 114 8 7 2 := ⟨RX8, TX8, 10, rfl, by decide, inWd8, Wd_of (List.mem_of_getElem? (i := 201) (by decide +kernel)) rfl, rfl⟩
theorem mw_X1_117 : MW RX1 117 mX1_weigh 2 := ⟨Wd_of (List.mem_of_getElem? (i := 785) (by decide +kernel)) rfl, Wd_of (List.mem_of_getElem? (i := 86) (by decide +kernel)) rfl, Wd_of (List.mem_of_getElem? (i := 788) (by decide +kernel)) rfl, ⟨by decide, by decide, by decide +kernel⟩, by decide⟩
theorem mv_X1_weigh : MV mX1_weigh := ⟨Wd_of (List.mem_of_getElem? (i := 786) (by decide +kernel)) rfl, Wd_of (List.mem_of_getElem? (i := 787) (by decide +kernel)) rfl⟩
theorem fw_X1_121 : FW RX1 121 8 8 2 := ⟨RX8, TX8, 10, rfl, by decide, inWd8, Wd_of (List.mem_of_getElem? (i := 204) (by decide +kernel)) rfl, rfl⟩
theorem mw_X1_124 : MW RX1 124 mX1_pass 3 := ⟨Wd_of (List.mem_of_getElem? (i := 789) (by decide +kernel)) rfl, Wd_of (List.mem_of_getElem? (i := 86) (by decide +kernel)) rfl, Wd_of (List.mem_of_getElem? (i := 737) (by decide +kernel)) rfl, ⟨by decide, by decide, by decide +kernel⟩, by decide⟩
theorem mv_X1_pass : MV mX1_pass := ⟨Wd_of (List.mem_of_getElem? (i := 735) (by decide +kernel)) rfl, Wd_of (List.mem_of_getElem? (i := 736) (by decide +kernel)) rfl⟩
abbrev mX1_gain : MD := (yX1_gain, cX1_gain, 9, (some .int))
theorem fw_X1_80 : FW RX1 80 8 3 0 := ⟨RX8, TX8, 10, rfl, by decide, inWd8, Wd_of (List.mem_of_getElem? (i := 191) (by decide +kernel)) rfl, rfl⟩
abbrev mX5_measure : MD := (yX5_measure, cX5_measure, 5, none)
theorem fw_X5_20 : FW RX5 20 8 0 0 := ⟨RX8, TX8, 10, rfl, by decide, inWd8, Wd_of (List.mem_of_getElem? (i := 179) (by decide +kernel)) rfl, rfl⟩
theorem jm_X5_23 : Cond.methodLink RX5 23 Lib.Math.min.name ∈ Wd := Wd_of (List.mem_of_getElem? (i := 798) (by decide +kernel)) rfl
theorem fp_X5_16 : FP RX5 16 5 1 .int false := ⟨RX5, TX5, 2, tyX5, rfl, by decide, inWd5, Wd_of (List.mem_of_getElem? (i := 287) (by decide +kernel)) rfl, tyX5_ok, nmX5, rfl, rfl, fun h => by cases h⟩
theorem fw_X5_16 : FW RX5 16 5 1 0 := ⟨RX5, TX5, 2, rfl, by decide, inWd5, Wd_of (List.mem_of_getElem? (i := 287) (by decide +kernel)) rfl, rfl⟩
theorem fw_X5_29 : FW RX5 29 8 2 2 := ⟨RX8, TX8, 10, rfl, by decide, inWd8, Wd_of (List.mem_of_getElem? (i := 188) (by decide +kernel)) rfl, rfl⟩
theorem fw_X5_11 : FW RX5 11 5 0 2 := ⟨RX5, TX5, 2, rfl, by decide, inWd5, Wd_of (List.mem_of_getElem? (i := 286) (by decide +kernel)) rfl, rfl⟩
theorem cc_X5_32 : Cond.constant RX5 32 (1000000) ∈ Wd := Wd_of (List.mem_of_getElem? (i := 799) (by decide +kernel)) rfl
abbrev mX5_toFire : MD := (yX5_toFire, cX5_toFire, 6, (some .int))
theorem mw_X5_33 : MW RX5 33 mX8_find 1 := ⟨Wd_of (List.mem_of_getElem? (i := 804) (by decide +kernel)) rfl, Wd_of (List.mem_of_getElem? (i := 83) (by decide +kernel)) rfl, Wd_of (List.mem_of_getElem? (i := 456) (by decide +kernel)) rfl, ⟨by decide, by decide, by decide +kernel⟩, by decide⟩
theorem fw_X5_37 : FW RX5 37 2 1 0 := ⟨RX2, TX2, 9, rfl, by decide, inWd2, Wd_of (List.mem_of_getElem? (i := 130) (by decide +kernel)) rfl, rfl⟩
abbrev mX5_widest : MD := (yX5_widest, cX5_widest, 4, (some .int))
theorem jm_X5_43 : Cond.methodLink RX5 43 Lib.Math.max.name ∈ Wd := Wd_of (List.mem_of_getElem? (i := 826) (by decide +kernel)) rfl
abbrev mX5_isReached : MD := (yX5_isReached, cX5_isReached, 6, (some .boolean))
abbrev mX5_fewest : MD := (yX5_fewest, cX5_fewest, 5, (some .int))
theorem mw_X5_46 : MW RX5 46 mJ6_bitCount_0f7a4 1 := ⟨Wd_of (List.mem_of_getElem? (i := 813) (by decide +kernel)) rfl, Wd_of (List.mem_of_getElem? (i := 99) (by decide +kernel)) rfl, Wd_of (List.mem_of_getElem? (i := 675) (by decide +kernel)) rfl, ⟨by decide, by decide, by decide +kernel⟩, by decide⟩
theorem mw_X5_52 : MW RX5 52 mX5_isReached 2 := ⟨Wd_of (List.mem_of_getElem? (i := 814) (by decide +kernel)) rfl, Wd_of (List.mem_of_getElem? (i := 87) (by decide +kernel)) rfl, Wd_of (List.mem_of_getElem? (i := 817) (by decide +kernel)) rfl, ⟨by decide, by decide, by decide +kernel⟩, by decide⟩
theorem mv_X5_isReached : MV mX5_isReached := ⟨Wd_of (List.mem_of_getElem? (i := 816) (by decide +kernel)) rfl, Wd_of (List.mem_of_getElem? (i := 15) (by decide +kernel)) rfl⟩
abbrev mX4_begin : MD := (yX4_begin, cX4_begin, 6, (some .int))
theorem fp_X4_11 : FP RX4 11 4 0 .long false := ⟨RX4, TX4, 4, tyX4, rfl, by decide, inWd4, Wd_of (List.mem_of_getElem? (i := 301) (by decide +kernel)) rfl, tyX4_ok, nmX4, rfl, rfl, fun h => by cases h⟩
theorem fp_X4_15 : FP RX4 15 4 1 .long false := ⟨RX4, TX4, 4, tyX4, rfl, by decide, inWd4, Wd_of (List.mem_of_getElem? (i := 303) (by decide +kernel)) rfl, tyX4_ok, nmX4, rfl, rfl, fun h => by cases h⟩
theorem fp_X4_18 : FP RX4 18 4 2 .long false := ⟨RX4, TX4, 4, tyX4, rfl, by decide, inWd4, Wd_of (List.mem_of_getElem? (i := 305) (by decide +kernel)) rfl, tyX4_ok, nmX4, rfl, rfl, fun h => by cases h⟩
theorem fw_X4_18 : FW RX4 18 4 2 1 := ⟨RX4, TX4, 4, rfl, by decide, inWd4, Wd_of (List.mem_of_getElem? (i := 305) (by decide +kernel)) rfl, rfl⟩
theorem cc_X4_28 : Cond.constantLong RX4 28 (10) ∈ Wd := Wd_of (List.mem_of_getElem? (i := 836) (by decide +kernel)) rfl
theorem cc_X4_30 : Cond.constantLong RX4 30 (100) ∈ Wd := Wd_of (List.mem_of_getElem? (i := 837) (by decide +kernel)) rfl
abbrev mX4_shareOf : MD := (yX4_shareOf, cX4_shareOf, 7, (some .long))
theorem fw_X4_24 : FW RX4 24 4 3 2 := ⟨RX4, TX4, 4, rfl, by decide, inWd4, Wd_of (List.mem_of_getElem? (i := 307) (by decide +kernel)) rfl, rfl⟩
theorem fw_X4_67 : FW RX4 67 8 0 0 := ⟨RX8, TX8, 10, rfl, by decide, inWd8, Wd_of (List.mem_of_getElem? (i := 182) (by decide +kernel)) rfl, rfl⟩
theorem fw_X4_70 : FW RX4 70 8 1 2 := ⟨RX8, TX8, 10, rfl, by decide, inWd8, Wd_of (List.mem_of_getElem? (i := 186) (by decide +kernel)) rfl, rfl⟩
theorem fw_X4_74 : FW RX4 74 2 1 0 := ⟨RX2, TX2, 9, rfl, by decide, inWd2, Wd_of (List.mem_of_getElem? (i := 132) (by decide +kernel)) rfl, rfl⟩
theorem mw_X4_80 : MW RX4 80 mX8_sum 3 := ⟨Wd_of (List.mem_of_getElem? (i := 849) (by decide +kernel)) rfl, Wd_of (List.mem_of_getElem? (i := 83) (by decide +kernel)) rfl, Wd_of (List.mem_of_getElem? (i := 667) (by decide +kernel)) rfl, ⟨by decide, by decide, by decide +kernel⟩, by decide⟩
abbrev mX4_follow : MD := (yX4_follow, cX4_follow, 11, none)
theorem mw_X4_32 : MW RX4 32 mX8_copy 1 := ⟨Wd_of (List.mem_of_getElem? (i := 842) (by decide +kernel)) rfl, Wd_of (List.mem_of_getElem? (i := 83) (by decide +kernel)) rfl, Wd_of (List.mem_of_getElem? (i := 773) (by decide +kernel)) rfl, ⟨by decide, by decide, by decide +kernel⟩, by decide⟩
theorem mw_X4_36 : MW RX4 36 mX1_begin 0 := ⟨Wd_of (List.mem_of_getElem? (i := 843) (by decide +kernel)) rfl, Wd_of (List.mem_of_getElem? (i := 86) (by decide +kernel)) rfl, Wd_of (List.mem_of_getElem? (i := 784) (by decide +kernel)) rfl, ⟨by decide, by decide, by decide +kernel⟩, by decide⟩
theorem fw_X4_41 : FW RX4 41 8 3 0 := ⟨RX8, TX8, 10, rfl, by decide, inWd8, Wd_of (List.mem_of_getElem? (i := 190) (by decide +kernel)) rfl, rfl⟩
theorem mw_X4_45 : MW RX4 45 mX8_tenthsOf 2 := ⟨Wd_of (List.mem_of_getElem? (i := 844) (by decide +kernel)) rfl, Wd_of (List.mem_of_getElem? (i := 83) (by decide +kernel)) rfl, Wd_of (List.mem_of_getElem? (i := 695) (by decide +kernel)) rfl, ⟨by decide, by decide, by decide +kernel⟩, by decide⟩
theorem mv_X8_tenthsOf : MV mX8_tenthsOf := ⟨Wd_of (List.mem_of_getElem? (i := 693) (by decide +kernel)) rfl, Wd_of (List.mem_of_getElem? (i := 694) (by decide +kernel)) rfl⟩
theorem mw_X4_49 : MW RX4 49 mX4_shareOf 2 := ⟨Wd_of (List.mem_of_getElem? (i := 845) (by decide +kernel)) rfl, Wd_of (List.mem_of_getElem? (i := 88) (by decide +kernel)) rfl, Wd_of (List.mem_of_getElem? (i := 848) (by decide +kernel)) rfl, ⟨by decide, by decide, by decide +kernel⟩, by decide⟩
theorem mv_X4_shareOf : MV mX4_shareOf := ⟨Wd_of (List.mem_of_getElem? (i := 847) (by decide +kernel)) rfl, Wd_of (List.mem_of_getElem? (i := 16) (by decide +kernel)) rfl⟩
theorem mw_X4_53 : MW RX4 53 mX1_weigh 2 := ⟨Wd_of (List.mem_of_getElem? (i := 850) (by decide +kernel)) rfl, Wd_of (List.mem_of_getElem? (i := 86) (by decide +kernel)) rfl, Wd_of (List.mem_of_getElem? (i := 788) (by decide +kernel)) rfl, ⟨by decide, by decide, by decide +kernel⟩, by decide⟩
theorem mw_X4_57 : MW RX4 57 mX1_pass 3 := ⟨Wd_of (List.mem_of_getElem? (i := 851) (by decide +kernel)) rfl, Wd_of (List.mem_of_getElem? (i := 86) (by decide +kernel)) rfl, Wd_of (List.mem_of_getElem? (i := 737) (by decide +kernel)) rfl, ⟨by decide, by decide, by decide +kernel⟩, by decide⟩
theorem fw_X4_15 : FW RX4 15 4 1 1 := ⟨RX4, TX4, 4, rfl, by decide, inWd4, Wd_of (List.mem_of_getElem? (i := 303) (by decide +kernel)) rfl, rfl⟩
theorem fw_X4_61 : FW RX4 61 1 0 0 := ⟨RX1, TX1, 6, rfl, by decide, inWd1, Wd_of (List.mem_of_getElem? (i := 258) (by decide +kernel)) rfl, rfl⟩
theorem mw_X4_63 : MW RX4 63 mX8_litCount 0 := ⟨Wd_of (List.mem_of_getElem? (i := 852) (by decide +kernel)) rfl, Wd_of (List.mem_of_getElem? (i := 83) (by decide +kernel)) rfl, Wd_of (List.mem_of_getElem? (i := 855) (by decide +kernel)) rfl, ⟨by decide, by decide, by decide +kernel⟩, by decide⟩
theorem mv_X8_litCount : MV mX8_litCount := ⟨Wd_of (List.mem_of_getElem? (i := 853) (by decide +kernel)) rfl, Wd_of (List.mem_of_getElem? (i := 854) (by decide +kernel)) rfl⟩
theorem fw_X4_11 : FW RX4 11 4 0 1 := ⟨RX4, TX4, 4, rfl, by decide, inWd4, Wd_of (List.mem_of_getElem? (i := 301) (by decide +kernel)) rfl, rfl⟩
abbrev mX4_commonDivisor : MD := (yX4_commonDivisor, cX4_commonDivisor, 11, (some .long))
end
section
/-! FireFromFire$Hours.begin -/
theorem dX1_begin_0 : decode cX1_begin 0 = .ok (.aload_n 0, 1) := by decide +kernel
theorem dX1_begin_1 : decode cX1_begin 1 = .ok (.iconst 0, 1) := by decide +kernel
theorem dX1_begin_2 : decode cX1_begin 2 = .ok (.putfield 9, 3) := by decide +kernel
theorem dX1_begin_5 : decode cX1_begin 5 = .ok (.aload_n 0, 1) := by decide +kernel
theorem dX1_begin_6 : decode cX1_begin 6 = .ok (.iconst 0, 1) := by decide +kernel
theorem dX1_begin_7 : decode cX1_begin 7 = .ok (.putfield 15, 3) := by decide +kernel
theorem dX1_begin_10 : decode cX1_begin 10 = .ok (.return_, 1) := by decide +kernel
def f_X1_begin   (u : PM) : Option (PM) :=
  some (pi (pi u (20, 0, 0) 0 (0 : Int32)) (20, 0, 0) 1 (0 : Int32))
set_option maxHeartbeats 4000000 in
set_option maxRecDepth 20000 in
theorem C_X1_begin {l : Launch}   {u : PM} {x : PM} (hf : f_X1_begin u = some x) : Ev l mX1_begin 1 0 0 false [vR (20, 0, 0)] kC (en u) (none, kC, en x) := by
  refine Ev_of (by decide +kernel) (le_b rfl) ?_
  unfold f_X1_begin at hf
  show X l mX1_begin 1 0 0 false _ kC 0 0 0 [some (vR (20, 0, 0))] [] (en u)
  refine r_aload_n (x := (20, 0, 0)) dX1_begin_0 rfl ?_
  refine r_iconst (v := 0) dX1_begin_1 rfl ?_
  refine e_puti fp_X1_9 dX1_begin_2 (kC_mem (s := 20) (by decide) (by decide) (by decide)) rfl (lt_b rfl) rfl rfl rfl ?_
  refine r_aload_n (x := (20, 0, 0)) dX1_begin_5 rfl ?_
  refine r_iconst (v := 0) dX1_begin_6 rfl ?_
  refine e_puti fp_X1_15 dX1_begin_7 (kC_mem (s := 20) (by decide) (by decide) (by decide)) rfl (lt_b rfl) rfl rfl rfl ?_
  have hx := am_inj hf
  subst hx
  exact r_vret dX1_begin_10 rfl (le_b rfl) (le_b rfl)
/-! FireFromFire$Hours.weigh -/
theorem dX1_weigh_0 : decode cX1_weigh 0 = .ok (.iconst 0, 1) := by decide +kernel
theorem dX1_weigh_1 : decode cX1_weigh 1 = .ok (.istore_n 3, 1) := by decide +kernel
theorem dX1_weigh_2 : decode cX1_weigh 2 = .ok (.iload_n 3, 1) := by decide +kernel
theorem dX1_weigh_3 : decode cX1_weigh 3 = .ok (.aload_n 1, 1) := by decide +kernel
theorem dX1_weigh_4 : decode cX1_weigh 4 = .ok (.getfield 31, 3) := by decide +kernel
theorem dX1_weigh_7 : decode cX1_weigh 7 = .ok (.if_icmp .ge 65, 3) := by decide +kernel
theorem dX1_weigh_10 : decode cX1_weigh 10 = .ok (.iload_n 3, 1) := by decide +kernel
theorem dX1_weigh_11 : decode cX1_weigh 11 = .ok (.bipush 6, 2) := by decide +kernel
theorem dX1_weigh_13 : decode cX1_weigh 13 = .ok (.if_icmp .ge 59, 3) := by decide +kernel
theorem dX1_weigh_16 : decode cX1_weigh 16 = .ok (.aload_n 1, 1) := by decide +kernel
theorem dX1_weigh_17 : decode cX1_weigh 17 = .ok (.iconst 3, 1) := by decide +kernel
theorem dX1_weigh_18 : decode cX1_weigh 18 = .ok (.iload_n 3, 1) := by decide +kernel
theorem dX1_weigh_19 : decode cX1_weigh 19 = .ok (.iload_n 2, 1) := by decide +kernel
theorem dX1_weigh_20 : decode cX1_weigh 20 = .ok (.invokevirtual 36, 3) := by decide +kernel
theorem dX1_weigh_23 : decode cX1_weigh 23 = .ok (.istore 4, 2) := by decide +kernel
theorem dX1_weigh_25 : decode cX1_weigh 25 = .ok (.aload_n 1, 1) := by decide +kernel
theorem dX1_weigh_26 : decode cX1_weigh 26 = .ok (.getfield 40, 3) := by decide +kernel
theorem dX1_weigh_29 : decode cX1_weigh 29 = .ok (.iload_n 3, 1) := by decide +kernel
theorem dX1_weigh_30 : decode cX1_weigh 30 = .ok (.aaload, 1) := by decide +kernel
theorem dX1_weigh_31 : decode cX1_weigh 31 = .ok (.getfield 44, 3) := by decide +kernel
theorem dX1_weigh_34 : decode cX1_weigh 34 = .ok (.ifCond .eq 17, 3) := by decide +kernel
theorem dX1_weigh_37 : decode cX1_weigh 37 = .ok (.aload_n 0, 1) := by decide +kernel
theorem dX1_weigh_38 : decode cX1_weigh 38 = .ok (.dup, 1) := by decide +kernel
theorem dX1_weigh_39 : decode cX1_weigh 39 = .ok (.getfield 9, 3) := by decide +kernel
theorem dX1_weigh_42 : decode cX1_weigh 42 = .ok (.iload 4, 2) := by decide +kernel
theorem dX1_weigh_44 : decode cX1_weigh 44 = .ok (.iadd, 1) := by decide +kernel
theorem dX1_weigh_45 : decode cX1_weigh 45 = .ok (.putfield 9, 3) := by decide +kernel
theorem dX1_weigh_48 : decode cX1_weigh 48 = .ok (.goto 18, 3) := by decide +kernel
theorem dX1_weigh_51 : decode cX1_weigh 51 = .ok (.iload 4, 2) := by decide +kernel
theorem dX1_weigh_53 : decode cX1_weigh 53 = .ok (.ifCond .le 13, 3) := by decide +kernel
theorem dX1_weigh_56 : decode cX1_weigh 56 = .ok (.aload_n 0, 1) := by decide +kernel
theorem dX1_weigh_57 : decode cX1_weigh 57 = .ok (.dup, 1) := by decide +kernel
theorem dX1_weigh_58 : decode cX1_weigh 58 = .ok (.getfield 15, 3) := by decide +kernel
theorem dX1_weigh_61 : decode cX1_weigh 61 = .ok (.iconst 1, 1) := by decide +kernel
theorem dX1_weigh_62 : decode cX1_weigh 62 = .ok (.iadd, 1) := by decide +kernel
theorem dX1_weigh_63 : decode cX1_weigh 63 = .ok (.putfield 15, 3) := by decide +kernel
theorem dX1_weigh_66 : decode cX1_weigh 66 = .ok (.iinc 3 1, 3) := by decide +kernel
theorem dX1_weigh_69 : decode cX1_weigh 69 = .ok (.goto (-67), 3) := by decide +kernel
theorem dX1_weigh_72 : decode cX1_weigh 72 = .ok (.return_, 1) := by decide +kernel
def f_X1_weigh_L2 (n0 : Nat) (c2 : Int32) : Int32 × PM → Option ((Int32 × PM) ⊕ (PM)) := fun (x3 , u) =>
  if (u.1 (1, n0, 0) 0) ≤ x3 then
    some (.inr (u))
  else
  if (6 : Int32) ≤ x3 then
    some (.inr (u))
  else
  (f_X8_sum n0 (3 : Int32) x3 c2 u).bind fun (r1, u3) =>
  if x3 < 0 ∨ 6 ≤ x3.toNatClampNeg then none else
  if (u3.1 (3, n0, x3.toNatClampNeg) 1) = 0 then
    if r1 ≤ 0 then
      some (.inl (x3 + (1 : Int32), u3))
    else
    some (.inl (x3 + (1 : Int32), (pi u3 (20, 0, 0) 1 ((u3.1 (20, 0, 0) 1) + (1 : Int32)))))
  else
  some (.inl (x3 + (1 : Int32), (pi u3 (20, 0, 0) 0 ((u3.1 (20, 0, 0) 0) + r1))))
set_option maxHeartbeats 4000000 in
set_option maxRecDepth 20000 in
theorem K_X1_weigh_L2 {l : Launch} {T : Option AV × List Key × AM} {n0 : Nat} (hn0 : n0 < 4) {c2 : Int32} : ∀ (n : Nat) (s : Int32 × PM) (e0 : PM), am_loop (f_X1_weigh_L2 n0 c2) n s = some e0 → (fun e : PM => X l mX1_weigh 4 0 0 false T kC 0 0 72 [none, none, none, none, none] [] (en e)) e0 → X l mX1_weigh 4 0 0 false T kC 0 0 2 [some (vR (20, 0, 0)), some (vR (1, n0, 0)), some (vI c2), some (vI s.1), none] [] (en s.2) := by
  refine am_loop_of ?_
  intro s x hf k1 k2
  obtain ⟨x3 , u⟩ := s
  unfold f_X1_weigh_L2 at hf
  show X l mX1_weigh 4 0 0 false T kC 0 0 2 [some (vR (20, 0, 0)), some (vR (1, n0, 0)), some (vI c2), some (vI x3), none] [] (en u)
  refine r_iload_n (x := x3) dX1_weigh_2 rfl ?_
  refine r_aload_n (x := (1, n0, 0)) dX1_weigh_3 rfl ?_
  refine e_geti fw_X1_31 dX1_weigh_4 (kC_mem (s := 1) (by decide) hn0 (by decide)) rfl (lt_b rfl) ?_
  refine r_icmp_ge (tgt := 72) dX1_weigh_7 (by decide) (fun hc => ?_) (fun hc => ?_)
  · have hf := (am_if hf).1 hc
    refine r_weak (L' := [none, none, none, none, none]) trivial ?_
    exact k2 _ (am_inj hf).symm
  · have hf := (am_if hf).2 hc
    refine r_iload_n (x := x3) dX1_weigh_10 rfl ?_
    refine r_bipush (v := 6) dX1_weigh_11 rfl ?_
    refine r_icmp_ge (tgt := 72) dX1_weigh_13 (by decide) (fun hc => ?_) (fun hc => ?_)
    · have hf := (am_if hf).1 hc
      refine r_weak (L' := [none, none, none, none, none]) trivial ?_
      exact k2 _ (am_inj hf).symm
    · have hf := (am_if hf).2 hc
      refine r_aload_n (x := (1, n0, 0)) dX1_weigh_16 rfl ?_
      refine r_iconst (v := 3) dX1_weigh_17 rfl ?_
      refine r_iload_n (x := x3) dX1_weigh_18 rfl ?_
      refine r_iload_n (x := c2) dX1_weigh_19 rfl ?_
      obtain ⟨⟨r1, u3⟩, hr2, hf⟩ := am_bind hf
      refine r_callV (as := [vI (3 : Int32), vI x3, vI c2]) (st := []) (n := 3) mw_X1_36 mv_X8_sum (C_X8_sum (l := l) hn0 hr2) (by decide) dX1_weigh_20 (kC_mem (s := 1) (by decide) hn0 (by decide)) rfl rfl rfl (le_b rfl) (le_b rfl) (le_b rfl) ?_
      show X l _ _ 0 0 false _ kC 0 0 23 [some (vR (20, 0, 0)), some (vR (1, n0, 0)), some (vI c2), some (vI x3), none] [vI r1] (en u3)
      refine r_istore (L' := [some (vR (20, 0, 0)), some (vR (1, n0, 0)), some (vI c2), some (vI x3), some (vI r1)]) dX1_weigh_23 (by decide) rfl ?_
      refine r_aload_n (x := (1, n0, 0)) dX1_weigh_25 rfl ?_
      refine e_getr (z := some (2, n0, 0)) fw_X1_40 dX1_weigh_26 (kC_mem (s := 1) (by decide) hn0 (by decide)) rfl (lt_b rfl) rfl ?_
      refine r_iload_n (x := x3) dX1_weigh_29 rfl ?_
      obtain ⟨h4, hf⟩ := am_nchk hf
      refine e_aald (n := x3.toNatClampNeg) (z := some (3, n0, x3.toNatClampNeg)) dX1_weigh_30 (kC_mem (s := 2) (by decide) hn0 (by decide)) ⟨le_b rfl, lt_b rfl⟩ h4 rfl rfl ?_
      refine e_geti fw_X1_44 dX1_weigh_31 (kC_mem (s := 3) (by decide) hn0 (vp_lt h4)) rfl (lt_b rfl) ?_
      refine r_if_eq (tgt := 51) dX1_weigh_34 (by decide) (fun hc => ?_) (fun hc => ?_)
      · have hf := (am_if hf).1 hc
        refine r_iload (x := r1) dX1_weigh_51 rfl ?_
        refine r_if_le (tgt := 66) dX1_weigh_53 (by decide) (fun hc => ?_) (fun hc => ?_)
        · have hf := (am_if hf).1 hc
          refine r_iinc (x := x3) (v := x3 + (1 : Int32)) (L' := [some (vR (20, 0, 0)), some (vR (1, n0, 0)), some (vI c2), some (vI (x3 + (1 : Int32))), some (vI r1)]) dX1_weigh_66 rfl rfl (lt_b rfl) rfl ?_
          refine r_goto (tgt := 2) dX1_weigh_69 (by decide) ?_
          refine r_weak (L' := [some (vR (20, 0, 0)), some (vR (1, n0, 0)), some (vI c2), some (vI (x3 + (1 : Int32))), none]) (And.intro rfl (And.intro rfl (And.intro rfl (And.intro rfl trivial)))) ?_
          exact k1 _ (am_inj hf).symm
        · have hf := (am_if hf).2 hc
          refine r_aload_n (x := (20, 0, 0)) dX1_weigh_56 rfl ?_
          refine r_dup dX1_weigh_57 rfl ?_
          refine e_geti fw_X1_15 dX1_weigh_58 (kC_mem (s := 20) (by decide) (by decide) (by decide)) rfl (lt_b rfl) ?_
          refine r_iconst (v := 1) dX1_weigh_61 rfl ?_
          refine r_iadd dX1_weigh_62 ?_
          refine e_puti fp_X1_15 dX1_weigh_63 (kC_mem (s := 20) (by decide) (by decide) (by decide)) rfl (lt_b rfl) rfl rfl rfl ?_
          refine r_iinc (x := x3) (v := x3 + (1 : Int32)) (L' := [some (vR (20, 0, 0)), some (vR (1, n0, 0)), some (vI c2), some (vI (x3 + (1 : Int32))), some (vI r1)]) dX1_weigh_66 rfl rfl (lt_b rfl) rfl ?_
          refine r_goto (tgt := 2) dX1_weigh_69 (by decide) ?_
          refine r_weak (L' := [some (vR (20, 0, 0)), some (vR (1, n0, 0)), some (vI c2), some (vI (x3 + (1 : Int32))), none]) (And.intro rfl (And.intro rfl (And.intro rfl (And.intro rfl trivial)))) ?_
          exact k1 _ (am_inj hf).symm
      · have hf := (am_if hf).2 hc
        refine r_aload_n (x := (20, 0, 0)) dX1_weigh_37 rfl ?_
        refine r_dup dX1_weigh_38 rfl ?_
        refine e_geti fw_X1_9 dX1_weigh_39 (kC_mem (s := 20) (by decide) (by decide) (by decide)) rfl (lt_b rfl) ?_
        refine r_iload (x := r1) dX1_weigh_42 rfl ?_
        refine r_iadd dX1_weigh_44 ?_
        refine e_puti fp_X1_9 dX1_weigh_45 (kC_mem (s := 20) (by decide) (by decide) (by decide)) rfl (lt_b rfl) rfl rfl rfl ?_
        refine r_goto (tgt := 66) dX1_weigh_48 (by decide) ?_
        refine r_iinc (x := x3) (v := x3 + (1 : Int32)) (L' := [some (vR (20, 0, 0)), some (vR (1, n0, 0)), some (vI c2), some (vI (x3 + (1 : Int32))), some (vI r1)]) dX1_weigh_66 rfl rfl (lt_b rfl) rfl ?_
        refine r_goto (tgt := 2) dX1_weigh_69 (by decide) ?_
        refine r_weak (L' := [some (vR (20, 0, 0)), some (vR (1, n0, 0)), some (vI c2), some (vI (x3 + (1 : Int32))), none]) (And.intro rfl (And.intro rfl (And.intro rfl (And.intro rfl trivial)))) ?_
        exact k1 _ (am_inj hf).symm
def f_X1_weigh (w : Nat) (a1 : Int32) (u : PM) : Option (PM) :=
  (am_loop (f_X1_weigh_L2 w a1) 2000 ((0 : Int32), u)).bind fun u7 =>
  some u7
set_option maxHeartbeats 4000000 in
set_option maxRecDepth 20000 in
theorem C_X1_weigh {l : Launch} {w : Nat} (hw : w < 4) {a1 : Int32} {u : PM} {x : PM} (hf : f_X1_weigh w a1 u = some x) : Ev l mX1_weigh 4 0 0 false [vR (20, 0, 0), vR (1, w, 0), vI a1] kC (en u) (none, kC, en x) := by
  refine Ev_of (by decide +kernel) (le_b rfl) ?_
  unfold f_X1_weigh at hf
  show X l mX1_weigh 4 0 0 false _ kC 0 0 0 [some (vR (20, 0, 0)), some (vR (1, w, 0)), some (vI a1), none, none] [] (en u)
  refine r_iconst (v := 0) dX1_weigh_0 rfl ?_
  refine r_istore_n (L' := [some (vR (20, 0, 0)), some (vR (1, w, 0)), some (vI a1), some (vI (0 : Int32)), none]) dX1_weigh_1 (by decide) rfl ?_
  refine r_weak (L' := [some (vR (20, 0, 0)), some (vR (1, w, 0)), some (vI a1), some (vI (0 : Int32)), none]) (And.intro rfl (And.intro rfl (And.intro rfl (And.intro rfl trivial)))) ?_
  obtain ⟨e5, he6, hf⟩ := am_bind hf
  refine K_X1_weigh_L2 hw 2000 ((0 : Int32), u) _ he6 ?_
  obtain ⟨u7, rfl⟩ : ∃ z, z = e5 := ⟨_, rfl⟩
  show X l _ _ 0 0 false _ kC 0 0 72 [none, none, none, none, none] [] (en u7)
  have hx := am_inj hf
  subst hx
  exact r_vret dX1_weigh_72 rfl (le_b rfl) (le_b rfl)
/-! FireFromFire$Hours.burn -/
theorem dX1_burn_0 : decode cX1_burn 0 = .ok (.iload_n 2, 1) := by decide +kernel
theorem dX1_burn_1 : decode cX1_burn 1 = .ok (.ifCond .lt 9, 3) := by decide +kernel
theorem dX1_burn_4 : decode cX1_burn 4 = .ok (.iload_n 2, 1) := by decide +kernel
theorem dX1_burn_5 : decode cX1_burn 5 = .ok (.bipush 6, 2) := by decide +kernel
theorem dX1_burn_7 : decode cX1_burn 7 = .ok (.if_icmp .lt 4, 3) := by decide +kernel
theorem dX1_burn_10 : decode cX1_burn 10 = .ok (.return_, 1) := by decide +kernel
theorem dX1_burn_11 : decode cX1_burn 11 = .ok (.aload_n 0, 1) := by decide +kernel
theorem dX1_burn_12 : decode cX1_burn 12 = .ok (.getfield 18, 3) := by decide +kernel
theorem dX1_burn_15 : decode cX1_burn 15 = .ok (.iload_n 2, 1) := by decide +kernel
theorem dX1_burn_16 : decode cX1_burn 16 = .ok (.iaload, 1) := by decide +kernel
theorem dX1_burn_17 : decode cX1_burn 17 = .ok (.iconst 1, 1) := by decide +kernel
theorem dX1_burn_18 : decode cX1_burn 18 = .ok (.if_icmp .ne 24, 3) := by decide +kernel
theorem dX1_burn_21 : decode cX1_burn 21 = .ok (.aload_n 1, 1) := by decide +kernel
theorem dX1_burn_22 : decode cX1_burn 22 = .ok (.getfield 86, 3) := by decide +kernel
theorem dX1_burn_25 : decode cX1_burn 25 = .ok (.aload_n 0, 1) := by decide +kernel
theorem dX1_burn_26 : decode cX1_burn 26 = .ok (.getfield 22, 3) := by decide +kernel
theorem dX1_burn_29 : decode cX1_burn 29 = .ok (.iload_n 2, 1) := by decide +kernel
theorem dX1_burn_30 : decode cX1_burn 30 = .ok (.iaload, 1) := by decide +kernel
theorem dX1_burn_31 : decode cX1_burn 31 = .ok (.if_icmp .lt 11, 3) := by decide +kernel
theorem dX1_burn_34 : decode cX1_burn 34 = .ok (.iload_n 3, 1) := by decide +kernel
theorem dX1_burn_35 : decode cX1_burn 35 = .ok (.iload_n 2, 1) := by decide +kernel
theorem dX1_burn_36 : decode cX1_burn 36 = .ok (.ishr, 1) := by decide +kernel
theorem dX1_burn_37 : decode cX1_burn 37 = .ok (.iconst 1, 1) := by decide +kernel
theorem dX1_burn_38 : decode cX1_burn 38 = .ok (.iand, 1) := by decide +kernel
theorem dX1_burn_39 : decode cX1_burn 39 = .ok (.ifCond .eq 11, 3) := by decide +kernel
theorem dX1_burn_42 : decode cX1_burn 42 = .ok (.aload_n 1, 1) := by decide +kernel
theorem dX1_burn_43 : decode cX1_burn 43 = .ok (.iconst 0, 1) := by decide +kernel
theorem dX1_burn_44 : decode cX1_burn 44 = .ok (.putfield 44, 3) := by decide +kernel
theorem dX1_burn_47 : decode cX1_burn 47 = .ok (.goto 18, 3) := by decide +kernel
theorem dX1_burn_50 : decode cX1_burn 50 = .ok (.aload_n 1, 1) := by decide +kernel
theorem dX1_burn_51 : decode cX1_burn 51 = .ok (.dup, 1) := by decide +kernel
theorem dX1_burn_52 : decode cX1_burn 52 = .ok (.getfield 86, 3) := by decide +kernel
theorem dX1_burn_55 : decode cX1_burn 55 = .ok (.aload_n 0, 1) := by decide +kernel
theorem dX1_burn_56 : decode cX1_burn 56 = .ok (.getfield 22, 3) := by decide +kernel
theorem dX1_burn_59 : decode cX1_burn 59 = .ok (.iload_n 2, 1) := by decide +kernel
theorem dX1_burn_60 : decode cX1_burn 60 = .ok (.iaload, 1) := by decide +kernel
theorem dX1_burn_61 : decode cX1_burn 61 = .ok (.isub, 1) := by decide +kernel
theorem dX1_burn_62 : decode cX1_burn 62 = .ok (.putfield 86, 3) := by decide +kernel
theorem dX1_burn_65 : decode cX1_burn 65 = .ok (.return_, 1) := by decide +kernel
def f_X1_burn (w : Nat) (g : Nat) (a1 : Int32) (a2 : Int32) (u : PM) : Option (PM) :=
  if a1 < 0 then
    some u
  else
  if a1 < (6 : Int32) then
    if a1 < 0 ∨ 6 ≤ a1.toNatClampNeg then none else
    if (u.1 (21, 0, 0) a1.toNatClampNeg) = (1 : Int32) then
      if (u.1 (3, w, g) 0) < (u.1 (22, 0, 0) a1.toNatClampNeg) then
        some (pi u (3, w, g) 1 (0 : Int32))
      else
      if ((a2 >>> (a1 &&& 31)) &&& (1 : Int32)) = 0 then
        some (pi u (3, w, g) 0 ((u.1 (3, w, g) 0) - (u.1 (22, 0, 0) a1.toNatClampNeg)))
      else
      some (pi u (3, w, g) 1 (0 : Int32))
    else
    some (pi u (3, w, g) 1 (0 : Int32))
  else
  some u
set_option maxHeartbeats 4000000 in
set_option maxRecDepth 20000 in
theorem C_X1_burn {l : Launch} {w : Nat} (hw : w < 4) {g : Nat} (hg : g < 6) {a1 : Int32} {a2 : Int32} {u : PM} {x : PM} (hf : f_X1_burn w g a1 a2 u = some x) : Ev l mX1_burn 1 0 0 false [vR (20, 0, 0), vR (3, w, g), vI a1, vI a2] kC (en u) (none, kC, en x) := by
  refine Ev_of (by decide +kernel) (le_b rfl) ?_
  unfold f_X1_burn at hf
  show X l mX1_burn 1 0 0 false _ kC 0 0 0 [some (vR (20, 0, 0)), some (vR (3, w, g)), some (vI a1), some (vI a2)] [] (en u)
  refine r_iload_n (x := a1) dX1_burn_0 rfl ?_
  refine r_if_lt (tgt := 10) dX1_burn_1 (by decide) (fun hc => ?_) (fun hc => ?_)
  · have hf := (am_if hf).1 hc
    have hx := am_inj hf
    subst hx
    exact r_vret dX1_burn_10 rfl (le_b rfl) (le_b rfl)
  · have hf := (am_if hf).2 hc
    refine r_iload_n (x := a1) dX1_burn_4 rfl ?_
    refine r_bipush (v := 6) dX1_burn_5 rfl ?_
    refine r_icmp_lt (tgt := 11) dX1_burn_7 (by decide) (fun hc => ?_) (fun hc => ?_)
    · have hf := (am_if hf).1 hc
      refine r_aload_n (x := (20, 0, 0)) dX1_burn_11 rfl ?_
      refine e_getr (z := some (21, 0, 0)) fw_X1_18 dX1_burn_12 (kC_mem (s := 20) (by decide) (by decide) (by decide)) rfl (lt_b rfl) rfl ?_
      refine r_iload_n (x := a1) dX1_burn_15 rfl ?_
      obtain ⟨h1, hf⟩ := am_nchk hf
      refine e_iald (n := a1.toNatClampNeg) dX1_burn_16 (kC_mem (s := 21) (by decide) (by decide) (by decide)) rfl h1 rfl rfl ?_
      refine r_iconst (v := 1) dX1_burn_17 rfl ?_
      refine r_icmp_ne (tgt := 42) dX1_burn_18 (by decide) (fun hc => ?_) (fun hc => ?_)
      · have hf := (am_if hf).2 hc
        refine r_aload_n (x := (3, w, g)) dX1_burn_42 rfl ?_
        refine r_iconst (v := 0) dX1_burn_43 rfl ?_
        refine e_puti fp_X1_44 dX1_burn_44 (kC_mem (s := 3) (by decide) hw hg) rfl (lt_b rfl) rfl (am_bool (x := 0) (by decide)).1 (am_bool (x := 0) (by decide)).2 ?_
        refine r_goto (tgt := 65) dX1_burn_47 (by decide) ?_
        have hx := am_inj hf
        subst hx
        exact r_vret dX1_burn_65 rfl (le_b rfl) (le_b rfl)
      · have hf := (am_if hf).1 hc
        refine r_aload_n (x := (3, w, g)) dX1_burn_21 rfl ?_
        refine e_geti fw_X1_86 dX1_burn_22 (kC_mem (s := 3) (by decide) hw hg) rfl (lt_b rfl) ?_
        refine r_aload_n (x := (20, 0, 0)) dX1_burn_25 rfl ?_
        refine e_getr (z := some (22, 0, 0)) fw_X1_22 dX1_burn_26 (kC_mem (s := 20) (by decide) (by decide) (by decide)) rfl (lt_b rfl) rfl ?_
        refine r_iload_n (x := a1) dX1_burn_29 rfl ?_
        refine e_iald (n := a1.toNatClampNeg) dX1_burn_30 (kC_mem (s := 22) (by decide) (by decide) (by decide)) rfl h1 rfl rfl ?_
        refine r_icmp_lt (tgt := 42) dX1_burn_31 (by decide) (fun hc => ?_) (fun hc => ?_)
        · have hf := (am_if hf).1 hc
          refine r_aload_n (x := (3, w, g)) dX1_burn_42 rfl ?_
          refine r_iconst (v := 0) dX1_burn_43 rfl ?_
          refine e_puti fp_X1_44 dX1_burn_44 (kC_mem (s := 3) (by decide) hw hg) rfl (lt_b rfl) rfl (am_bool (x := 0) (by decide)).1 (am_bool (x := 0) (by decide)).2 ?_
          refine r_goto (tgt := 65) dX1_burn_47 (by decide) ?_
          have hx := am_inj hf
          subst hx
          exact r_vret dX1_burn_65 rfl (le_b rfl) (le_b rfl)
        · have hf := (am_if hf).2 hc
          refine r_iload_n (x := a2) dX1_burn_34 rfl ?_
          refine r_iload_n (x := a1) dX1_burn_35 rfl ?_
          refine r_ishr dX1_burn_36 ?_
          refine r_iconst (v := 1) dX1_burn_37 rfl ?_
          refine r_iand dX1_burn_38 ?_
          refine r_if_eq (tgt := 50) dX1_burn_39 (by decide) (fun hc => ?_) (fun hc => ?_)
          · have hf := (am_if hf).1 hc
            refine r_aload_n (x := (3, w, g)) dX1_burn_50 rfl ?_
            refine r_dup dX1_burn_51 rfl ?_
            refine e_geti fw_X1_86 dX1_burn_52 (kC_mem (s := 3) (by decide) hw hg) rfl (lt_b rfl) ?_
            refine r_aload_n (x := (20, 0, 0)) dX1_burn_55 rfl ?_
            refine e_getr (z := some (22, 0, 0)) fw_X1_22 dX1_burn_56 (kC_mem (s := 20) (by decide) (by decide) (by decide)) rfl (lt_b rfl) rfl ?_
            refine r_iload_n (x := a1) dX1_burn_59 rfl ?_
            refine e_iald (n := a1.toNatClampNeg) dX1_burn_60 (kC_mem (s := 22) (by decide) (by decide) (by decide)) rfl h1 rfl rfl ?_
            refine r_isub dX1_burn_61 ?_
            refine e_puti fp_X1_86 dX1_burn_62 (kC_mem (s := 3) (by decide) hw hg) rfl (lt_b rfl) rfl rfl rfl ?_
            have hx := am_inj hf
            subst hx
            exact r_vret dX1_burn_65 rfl (le_b rfl) (le_b rfl)
          · have hf := (am_if hf).2 hc
            refine r_aload_n (x := (3, w, g)) dX1_burn_42 rfl ?_
            refine r_iconst (v := 0) dX1_burn_43 rfl ?_
            refine e_puti fp_X1_44 dX1_burn_44 (kC_mem (s := 3) (by decide) hw hg) rfl (lt_b rfl) rfl (am_bool (x := 0) (by decide)).1 (am_bool (x := 0) (by decide)).2 ?_
            refine r_goto (tgt := 65) dX1_burn_47 (by decide) ?_
            have hx := am_inj hf
            subst hx
            exact r_vret dX1_burn_65 rfl (le_b rfl) (le_b rfl)
    · have hf := (am_if hf).2 hc
      have hx := am_inj hf
      subst hx
      exact r_vret dX1_burn_10 rfl (le_b rfl) (le_b rfl)
/-! FireFromFire$Hours.goNearer -/
theorem dX1_goNearer_0 : decode cX1_goNearer 0 = .ok (.aload_n 2, 1) := by decide +kernel
theorem dX1_goNearer_1 : decode cX1_goNearer 1 = .ok (.dup, 1) := by decide +kernel
theorem dX1_goNearer_2 : decode cX1_goNearer 2 = .ok (.getfield 89, 3) := by decide +kernel
theorem dX1_goNearer_5 : decode cX1_goNearer 5 = .ok (.iconst 1, 1) := by decide +kernel
theorem dX1_goNearer_6 : decode cX1_goNearer 6 = .ok (.isub, 1) := by decide +kernel
theorem dX1_goNearer_7 : decode cX1_goNearer 7 = .ok (.putfield 89, 3) := by decide +kernel
theorem dX1_goNearer_10 : decode cX1_goNearer 10 = .ok (.aload_n 2, 1) := by decide +kernel
theorem dX1_goNearer_11 : decode cX1_goNearer 11 = .ok (.getfield 89, 3) := by decide +kernel
theorem dX1_goNearer_14 : decode cX1_goNearer 14 = .ok (.ifCond .le 4, 3) := by decide +kernel
theorem dX1_goNearer_17 : decode cX1_goNearer 17 = .ok (.return_, 1) := by decide +kernel
theorem dX1_goNearer_18 : decode cX1_goNearer 18 = .ok (.aload_n 1, 1) := by decide +kernel
theorem dX1_goNearer_19 : decode cX1_goNearer 19 = .ok (.aload_n 2, 1) := by decide +kernel
theorem dX1_goNearer_20 : decode cX1_goNearer 20 = .ok (.getfield 92, 3) := by decide +kernel
theorem dX1_goNearer_23 : decode cX1_goNearer 23 = .ok (.invokevirtual 95, 3) := by decide +kernel
theorem dX1_goNearer_26 : decode cX1_goNearer 26 = .ok (.astore 4, 2) := by decide +kernel
theorem dX1_goNearer_28 : decode cX1_goNearer 28 = .ok (.aload 4, 2) := by decide +kernel
theorem dX1_goNearer_30 : decode cX1_goNearer 30 = .ok (.ifnull 36, 3) := by decide +kernel
theorem dX1_goNearer_33 : decode cX1_goNearer 33 = .ok (.aload 4, 2) := by decide +kernel
theorem dX1_goNearer_35 : decode cX1_goNearer 35 = .ok (.getfield 44, 3) := by decide +kernel
theorem dX1_goNearer_38 : decode cX1_goNearer 38 = .ok (.ifCond .eq 28, 3) := by decide +kernel
theorem dX1_goNearer_41 : decode cX1_goNearer 41 = .ok (.aload_n 2, 1) := by decide +kernel
theorem dX1_goNearer_42 : decode cX1_goNearer 42 = .ok (.iconst 2, 1) := by decide +kernel
theorem dX1_goNearer_43 : decode cX1_goNearer 43 = .ok (.iconst 1, 1) := by decide +kernel
theorem dX1_goNearer_44 : decode cX1_goNearer 44 = .ok (.aload_n 1, 1) := by decide +kernel
theorem dX1_goNearer_45 : decode cX1_goNearer 45 = .ok (.iload_n 3, 1) := by decide +kernel
theorem dX1_goNearer_46 : decode cX1_goNearer 46 = .ok (.aload_n 2, 1) := by decide +kernel
theorem dX1_goNearer_47 : decode cX1_goNearer 47 = .ok (.getfield 92, 3) := by decide +kernel
theorem dX1_goNearer_50 : decode cX1_goNearer 50 = .ok (.invokevirtual 61, 3) := by decide +kernel
theorem dX1_goNearer_53 : decode cX1_goNearer 53 = .ok (.invokestatic 99, 3) := by decide +kernel
theorem dX1_goNearer_56 : decode cX1_goNearer 56 = .ok (.aload_n 2, 1) := by decide +kernel
theorem dX1_goNearer_57 : decode cX1_goNearer 57 = .ok (.getfield 92, 3) := by decide +kernel
theorem dX1_goNearer_60 : decode cX1_goNearer 60 = .ok (.invokevirtual 64, 3) := by decide +kernel
theorem dX1_goNearer_63 : decode cX1_goNearer 63 = .ok (.goto 10, 3) := by decide +kernel
theorem dX1_goNearer_66 : decode cX1_goNearer 66 = .ok (.aload_n 2, 1) := by decide +kernel
theorem dX1_goNearer_67 : decode cX1_goNearer 67 = .ok (.iconst 0, 1) := by decide +kernel
theorem dX1_goNearer_68 : decode cX1_goNearer 68 = .ok (.iconst 0, 1) := by decide +kernel
theorem dX1_goNearer_69 : decode cX1_goNearer 69 = .ok (.iconst 0, 1) := by decide +kernel
theorem dX1_goNearer_70 : decode cX1_goNearer 70 = .ok (.invokevirtual 64, 3) := by decide +kernel
theorem dX1_goNearer_73 : decode cX1_goNearer 73 = .ok (.return_, 1) := by decide +kernel
def f_X1_goNearer (w : Nat) (g : Nat) (a2 : Int32) (u : PM) : Option (PM) :=
  if ((u.1 (3, w, g) 6) - (1 : Int32)) ≤ 0 then
    (f_X8_find w (u.1 (3, w, g) 7) (pi u (3, w, g) 6 ((u.1 (3, w, g) 6) - (1 : Int32)))).bind fun r1 =>
    match r1 with
    | none =>
      (f_X2_setOut w g (0 : Int32) (0 : Int32) (0 : Int32) (pi u (3, w, g) 6 ((u.1 (3, w, g) 6) - (1 : Int32)))).bind fun r5 =>
      some r5
    | some p3 =>
      if p3 < 6 then
        if (u.1 (3, w, p3) 1) = 0 then
          (f_X2_setOut w g (0 : Int32) (0 : Int32) (0 : Int32) (pi u (3, w, g) 6 ((u.1 (3, w, g) 6) - (1 : Int32)))).bind fun r7 =>
          some r7
        else
        (f_X8_hoursBetween w a2 (u.1 (3, w, g) 7) (pi u (3, w, g) 6 ((u.1 (3, w, g) 6) - (1 : Int32)))).bind fun r9 =>
        (f_X2_setOut w g (2 : Int32) (if (1 : Int32) < r9 then r9 else (1 : Int32)) (u.1 (3, w, g) 7) (pi u (3, w, g) 6 ((u.1 (3, w, g) 6) - (1 : Int32)))).bind fun r11 =>
        some r11
      else none
  else
  some (pi u (3, w, g) 6 ((u.1 (3, w, g) 6) - (1 : Int32)))
set_option maxHeartbeats 4000000 in
set_option maxRecDepth 20000 in
theorem C_X1_goNearer {l : Launch} {w : Nat} (hw : w < 4) {g : Nat} (hg : g < 6) {a2 : Int32} {u : PM} {x : PM} (hf : f_X1_goNearer w g a2 u = some x) : Ev l mX1_goNearer 2 0 0 false [vR (20, 0, 0), vR (1, w, 0), vR (3, w, g), vI a2] kC (en u) (none, kC, en x) := by
  refine Ev_of (by decide +kernel) (le_b rfl) ?_
  unfold f_X1_goNearer at hf
  show X l mX1_goNearer 2 0 0 false _ kC 0 0 0 [some (vR (20, 0, 0)), some (vR (1, w, 0)), some (vR (3, w, g)), some (vI a2), none] [] (en u)
  refine r_aload_n (x := (3, w, g)) dX1_goNearer_0 rfl ?_
  refine r_dup dX1_goNearer_1 rfl ?_
  refine e_geti fw_X1_89 dX1_goNearer_2 (kC_mem (s := 3) (by decide) hw hg) rfl (lt_b rfl) ?_
  refine r_iconst (v := 1) dX1_goNearer_5 rfl ?_
  refine r_isub dX1_goNearer_6 ?_
  refine e_puti fp_X1_89 dX1_goNearer_7 (kC_mem (s := 3) (by decide) hw hg) rfl (lt_b rfl) rfl rfl rfl ?_
  refine r_aload_n (x := (3, w, g)) dX1_goNearer_10 rfl ?_
  refine e_geti_ (x := (u.1 (3, w, g) 6) - (1 : Int32)) fw_X1_89 dX1_goNearer_11 (kC_mem (s := 3) (by decide) hw hg) rfl (lt_b rfl) (by simp [pi, pl, pr, pci, pcl]) ?_
  refine r_if_le (tgt := 18) dX1_goNearer_14 (by decide) (fun hc => ?_) (fun hc => ?_)
  · have hf := (am_if hf).1 hc
    refine r_aload_n (x := (1, w, 0)) dX1_goNearer_18 rfl ?_
    refine r_aload_n (x := (3, w, g)) dX1_goNearer_19 rfl ?_
    refine e_geti_ (x := u.1 (3, w, g) 7) fw_X1_92 dX1_goNearer_20 (kC_mem (s := 3) (by decide) hw hg) rfl (lt_b rfl) (by simp [pi, pl, pr, pci, pcl]) ?_
    obtain ⟨r1, hr2, hf⟩ := am_bind hf
    refine r_callV (as := [vI (u.1 (3, w, g) 7)]) (st := []) (n := 1) mw_X1_95 mv_X8_find (C_X8_find (l := l) hw hr2) (by decide) dX1_goNearer_23 (kC_mem (s := 1) (by decide) hw (by decide)) rfl rfl rfl (le_b rfl) (le_b rfl) (le_b rfl) ?_
    cases r1 with
    | none =>
      show X l _ _ 0 0 false _ kC 0 0 26 [some (vR (20, 0, 0)), some (vR (1, w, 0)), some (vR (3, w, g)), some (vI a2), none] [vN] (en (pi u (3, w, g) 6 ((u.1 (3, w, g) 6) - (1 : Int32))))
      refine r_astoreN (L' := [some (vR (20, 0, 0)), some (vR (1, w, 0)), some (vR (3, w, g)), some (vI a2), some (vN)]) dX1_goNearer_26 (by decide) rfl ?_
      refine r_aloadN dX1_goNearer_28 rfl ?_
      refine r_ifnullN (tgt := 66) dX1_goNearer_30 (by decide) ?_
      refine r_aload_n (x := (3, w, g)) dX1_goNearer_66 rfl ?_
      refine r_iconst (v := 0) dX1_goNearer_67 rfl ?_
      refine r_iconst (v := 0) dX1_goNearer_68 rfl ?_
      refine r_iconst (v := 0) dX1_goNearer_69 rfl ?_
      obtain ⟨r5, hr6, hf⟩ := am_bind hf
      refine r_callV (as := [vI (0 : Int32), vI (0 : Int32), vI (0 : Int32)]) (st := []) (n := 3) mw_X1_64 mv_X2_setOut (C_X2_setOut (l := l) hw hg hr6) (by decide) dX1_goNearer_70 (kC_mem (s := 3) (by decide) hw hg) rfl rfl rfl (le_b rfl) (le_b rfl) (le_b rfl) ?_
      show X l _ _ 0 0 false _ kC 0 0 73 [some (vR (20, 0, 0)), some (vR (1, w, 0)), some (vR (3, w, g)), some (vI a2), some (vN)] [] (en r5)
      have hx := am_inj hf
      subst hx
      exact r_vret dX1_goNearer_73 rfl (le_b rfl) (le_b rfl)
    | some p3 =>
      obtain ⟨h4, hf⟩ := am_chk hf
      show X l _ _ 0 0 false _ kC 0 0 26 [some (vR (20, 0, 0)), some (vR (1, w, 0)), some (vR (3, w, g)), some (vI a2), none] [vR (3, w, p3)] (en (pi u (3, w, g) 6 ((u.1 (3, w, g) 6) - (1 : Int32))))
      refine r_astore (L' := [some (vR (20, 0, 0)), some (vR (1, w, 0)), some (vR (3, w, g)), some (vI a2), some (vR (3, w, p3))]) dX1_goNearer_26 (by decide) rfl ?_
      refine r_aload (x := (3, w, p3)) dX1_goNearer_28 rfl ?_
      refine r_ifnullR dX1_goNearer_30 ?_
      refine r_aload (x := (3, w, p3)) dX1_goNearer_33 rfl ?_
      refine e_geti_ (x := u.1 (3, w, p3) 1) fw_X1_44 dX1_goNearer_35 (kC_mem (s := 3) (by decide) hw h4) rfl (lt_b rfl) (by simp [pi, pl, pr, pci, pcl]) ?_
      refine r_if_eq (tgt := 66) dX1_goNearer_38 (by decide) (fun hc => ?_) (fun hc => ?_)
      · have hf := (am_if hf).1 hc
        refine r_aload_n (x := (3, w, g)) dX1_goNearer_66 rfl ?_
        refine r_iconst (v := 0) dX1_goNearer_67 rfl ?_
        refine r_iconst (v := 0) dX1_goNearer_68 rfl ?_
        refine r_iconst (v := 0) dX1_goNearer_69 rfl ?_
        obtain ⟨r7, hr8, hf⟩ := am_bind hf
        refine r_callV (as := [vI (0 : Int32), vI (0 : Int32), vI (0 : Int32)]) (st := []) (n := 3) mw_X1_64 mv_X2_setOut (C_X2_setOut (l := l) hw hg hr8) (by decide) dX1_goNearer_70 (kC_mem (s := 3) (by decide) hw hg) rfl rfl rfl (le_b rfl) (le_b rfl) (le_b rfl) ?_
        show X l _ _ 0 0 false _ kC 0 0 73 [some (vR (20, 0, 0)), some (vR (1, w, 0)), some (vR (3, w, g)), some (vI a2), some (vR (3, w, p3))] [] (en r7)
        have hx := am_inj hf
        subst hx
        exact r_vret dX1_goNearer_73 rfl (le_b rfl) (le_b rfl)
      · have hf := (am_if hf).2 hc
        refine r_aload_n (x := (3, w, g)) dX1_goNearer_41 rfl ?_
        refine r_iconst (v := 2) dX1_goNearer_42 rfl ?_
        refine r_iconst (v := 1) dX1_goNearer_43 rfl ?_
        refine r_aload_n (x := (1, w, 0)) dX1_goNearer_44 rfl ?_
        refine r_iload_n (x := a2) dX1_goNearer_45 rfl ?_
        refine r_aload_n (x := (3, w, g)) dX1_goNearer_46 rfl ?_
        refine e_geti_ (x := u.1 (3, w, g) 7) fw_X1_92 dX1_goNearer_47 (kC_mem (s := 3) (by decide) hw hg) rfl (lt_b rfl) (by simp [pi, pl, pr, pci, pcl]) ?_
        obtain ⟨r9, hr10, hf⟩ := am_bind hf
        refine r_callV (as := [vI a2, vI (u.1 (3, w, g) 7)]) (st := [vI (1 : Int32), vI (2 : Int32), vR (3, w, g)]) (n := 2) mw_X1_61 mv_X8_hoursBetween (C_X8_hoursBetween (l := l) hw hr10) (by decide) dX1_goNearer_50 (kC_mem (s := 1) (by decide) hw (by decide)) rfl rfl rfl (le_b rfl) (le_b rfl) (le_b rfl) ?_
        show X l _ _ 0 0 false _ kC 0 0 53 [some (vR (20, 0, 0)), some (vR (1, w, 0)), some (vR (3, w, g)), some (vI a2), some (vR (3, w, p3))] [vI r9, vI (1 : Int32), vI (2 : Int32), vR (3, w, g)] (en (pi u (3, w, g) 6 ((u.1 (3, w, g) 6) - (1 : Int32))))
        refine r_mmax jm_X1_99 js_max.1 js_max.2.1 js_max.2.2 dX1_goNearer_53 (le_b rfl) (le_b rfl) (le_b rfl) (le_b rfl) ?_
        refine r_aload_n (x := (3, w, g)) dX1_goNearer_56 rfl ?_
        refine e_geti_ (x := u.1 (3, w, g) 7) fw_X1_92 dX1_goNearer_57 (kC_mem (s := 3) (by decide) hw hg) rfl (lt_b rfl) (by simp [pi, pl, pr, pci, pcl]) ?_
        obtain ⟨r11, hr12, hf⟩ := am_bind hf
        refine r_callV (as := [vI (2 : Int32), vI (if (1 : Int32) < r9 then r9 else (1 : Int32)), vI (u.1 (3, w, g) 7)]) (st := []) (n := 3) mw_X1_64 mv_X2_setOut (C_X2_setOut (l := l) hw hg hr12) (by decide) dX1_goNearer_60 (kC_mem (s := 3) (by decide) hw hg) rfl rfl rfl (le_b rfl) (le_b rfl) (le_b rfl) ?_
        show X l _ _ 0 0 false _ kC 0 0 63 [some (vR (20, 0, 0)), some (vR (1, w, 0)), some (vR (3, w, g)), some (vI a2), some (vR (3, w, p3))] [] (en r11)
        refine r_goto (tgt := 73) dX1_goNearer_63 (by decide) ?_
        have hx := am_inj hf
        subst hx
        exact r_vret dX1_goNearer_73 rfl (le_b rfl) (le_b rfl)
  · have hf := (am_if hf).2 hc
    have hx := am_inj hf
    subst hx
    exact r_vret dX1_goNearer_17 rfl (le_b rfl) (le_b rfl)
/-! FireFromFire$Hours.bringNearer -/
theorem dX1_bringNearer_0 : decode cX1_bringNearer 0 = .ok (.aload_n 1, 1) := by decide +kernel
theorem dX1_bringNearer_1 : decode cX1_bringNearer 1 = .ok (.dup, 1) := by decide +kernel
theorem dX1_bringNearer_2 : decode cX1_bringNearer 2 = .ok (.getfield 89, 3) := by decide +kernel
theorem dX1_bringNearer_5 : decode cX1_bringNearer 5 = .ok (.iconst 1, 1) := by decide +kernel
theorem dX1_bringNearer_6 : decode cX1_bringNearer 6 = .ok (.isub, 1) := by decide +kernel
theorem dX1_bringNearer_7 : decode cX1_bringNearer 7 = .ok (.putfield 89, 3) := by decide +kernel
theorem dX1_bringNearer_10 : decode cX1_bringNearer 10 = .ok (.aload_n 1, 1) := by decide +kernel
theorem dX1_bringNearer_11 : decode cX1_bringNearer 11 = .ok (.dup, 1) := by decide +kernel
theorem dX1_bringNearer_12 : decode cX1_bringNearer 12 = .ok (.getfield 104, 3) := by decide +kernel
theorem dX1_bringNearer_15 : decode cX1_bringNearer 15 = .ok (.iconst 1, 1) := by decide +kernel
theorem dX1_bringNearer_16 : decode cX1_bringNearer 16 = .ok (.iadd, 1) := by decide +kernel
theorem dX1_bringNearer_17 : decode cX1_bringNearer 17 = .ok (.putfield 104, 3) := by decide +kernel
theorem dX1_bringNearer_20 : decode cX1_bringNearer 20 = .ok (.iload_n 2, 1) := by decide +kernel
theorem dX1_bringNearer_21 : decode cX1_bringNearer 21 = .ok (.ifCond .lt 22, 3) := by decide +kernel
theorem dX1_bringNearer_24 : decode cX1_bringNearer 24 = .ok (.iload_n 2, 1) := by decide +kernel
theorem dX1_bringNearer_25 : decode cX1_bringNearer 25 = .ok (.bipush 6, 2) := by decide +kernel
theorem dX1_bringNearer_27 : decode cX1_bringNearer 27 = .ok (.if_icmp .ge 16, 3) := by decide +kernel
theorem dX1_bringNearer_30 : decode cX1_bringNearer 30 = .ok (.aload_n 1, 1) := by decide +kernel
theorem dX1_bringNearer_31 : decode cX1_bringNearer 31 = .ok (.getfield 104, 3) := by decide +kernel
theorem dX1_bringNearer_34 : decode cX1_bringNearer 34 = .ok (.aload_n 0, 1) := by decide +kernel
theorem dX1_bringNearer_35 : decode cX1_bringNearer 35 = .ok (.getfield 25, 3) := by decide +kernel
theorem dX1_bringNearer_38 : decode cX1_bringNearer 38 = .ok (.iload_n 2, 1) := by decide +kernel
theorem dX1_bringNearer_39 : decode cX1_bringNearer 39 = .ok (.iaload, 1) := by decide +kernel
theorem dX1_bringNearer_40 : decode cX1_bringNearer 40 = .ok (.if_icmp .le 13, 3) := by decide +kernel
theorem dX1_bringNearer_43 : decode cX1_bringNearer 43 = .ok (.aload_n 1, 1) := by decide +kernel
theorem dX1_bringNearer_44 : decode cX1_bringNearer 44 = .ok (.iconst 0, 1) := by decide +kernel
theorem dX1_bringNearer_45 : decode cX1_bringNearer 45 = .ok (.iconst 0, 1) := by decide +kernel
theorem dX1_bringNearer_46 : decode cX1_bringNearer 46 = .ok (.iconst 0, 1) := by decide +kernel
theorem dX1_bringNearer_47 : decode cX1_bringNearer 47 = .ok (.invokevirtual 64, 3) := by decide +kernel
theorem dX1_bringNearer_50 : decode cX1_bringNearer 50 = .ok (.goto 22, 3) := by decide +kernel
theorem dX1_bringNearer_53 : decode cX1_bringNearer 53 = .ok (.aload_n 1, 1) := by decide +kernel
theorem dX1_bringNearer_54 : decode cX1_bringNearer 54 = .ok (.getfield 89, 3) := by decide +kernel
theorem dX1_bringNearer_57 : decode cX1_bringNearer 57 = .ok (.ifCond .gt 15, 3) := by decide +kernel
theorem dX1_bringNearer_60 : decode cX1_bringNearer 60 = .ok (.aload_n 1, 1) := by decide +kernel
theorem dX1_bringNearer_61 : decode cX1_bringNearer 61 = .ok (.iconst 1, 1) := by decide +kernel
theorem dX1_bringNearer_62 : decode cX1_bringNearer 62 = .ok (.putfield 44, 3) := by decide +kernel
theorem dX1_bringNearer_65 : decode cX1_bringNearer 65 = .ok (.aload_n 1, 1) := by decide +kernel
theorem dX1_bringNearer_66 : decode cX1_bringNearer 66 = .ok (.iconst 0, 1) := by decide +kernel
theorem dX1_bringNearer_67 : decode cX1_bringNearer 67 = .ok (.iconst 0, 1) := by decide +kernel
theorem dX1_bringNearer_68 : decode cX1_bringNearer 68 = .ok (.iconst 0, 1) := by decide +kernel
theorem dX1_bringNearer_69 : decode cX1_bringNearer 69 = .ok (.invokevirtual 64, 3) := by decide +kernel
theorem dX1_bringNearer_72 : decode cX1_bringNearer 72 = .ok (.return_, 1) := by decide +kernel
def f_X1_bringNearer (w : Nat) (g : Nat) (a1 : Int32) (u : PM) : Option (PM) :=
  if a1 < 0 then
    (f_X2_setOut w g (0 : Int32) (0 : Int32) (0 : Int32) (pi (pi u (3, w, g) 6 ((u.1 (3, w, g) 6) - (1 : Int32))) (3, w, g) 8 ((u.1 (3, w, g) 8) + (1 : Int32)))).bind fun r1 =>
    some r1
  else
  if (6 : Int32) ≤ a1 then
    (f_X2_setOut w g (0 : Int32) (0 : Int32) (0 : Int32) (pi (pi u (3, w, g) 6 ((u.1 (3, w, g) 6) - (1 : Int32))) (3, w, g) 8 ((u.1 (3, w, g) 8) + (1 : Int32)))).bind fun r3 =>
    some r3
  else
  if a1 < 0 ∨ 6 ≤ a1.toNatClampNeg then none else
  if ((u.1 (3, w, g) 8) + (1 : Int32)) ≤ (u.1 (23, 0, 0) a1.toNatClampNeg) then
    if 0 < ((u.1 (3, w, g) 6) - (1 : Int32)) then
      some (pi (pi u (3, w, g) 6 ((u.1 (3, w, g) 6) - (1 : Int32))) (3, w, g) 8 ((u.1 (3, w, g) 8) + (1 : Int32)))
    else
    (f_X2_setOut w g (0 : Int32) (0 : Int32) (0 : Int32) (pi (pi (pi u (3, w, g) 6 ((u.1 (3, w, g) 6) - (1 : Int32))) (3, w, g) 8 ((u.1 (3, w, g) 8) + (1 : Int32))) (3, w, g) 1 (1 : Int32))).bind fun r6 =>
    some r6
  else
  (f_X2_setOut w g (0 : Int32) (0 : Int32) (0 : Int32) (pi (pi u (3, w, g) 6 ((u.1 (3, w, g) 6) - (1 : Int32))) (3, w, g) 8 ((u.1 (3, w, g) 8) + (1 : Int32)))).bind fun r8 =>
  some r8
set_option maxHeartbeats 4000000 in
set_option maxRecDepth 20000 in
theorem C_X1_bringNearer {l : Launch} {w : Nat} (hw : w < 4) {g : Nat} (hg : g < 6) {a1 : Int32} {u : PM} {x : PM} (hf : f_X1_bringNearer w g a1 u = some x) : Ev l mX1_bringNearer 2 0 0 false [vR (20, 0, 0), vR (3, w, g), vI a1] kC (en u) (none, kC, en x) := by
  refine Ev_of (by decide +kernel) (le_b rfl) ?_
  unfold f_X1_bringNearer at hf
  show X l mX1_bringNearer 2 0 0 false _ kC 0 0 0 [some (vR (20, 0, 0)), some (vR (3, w, g)), some (vI a1)] [] (en u)
  refine r_aload_n (x := (3, w, g)) dX1_bringNearer_0 rfl ?_
  refine r_dup dX1_bringNearer_1 rfl ?_
  refine e_geti fw_X1_89 dX1_bringNearer_2 (kC_mem (s := 3) (by decide) hw hg) rfl (lt_b rfl) ?_
  refine r_iconst (v := 1) dX1_bringNearer_5 rfl ?_
  refine r_isub dX1_bringNearer_6 ?_
  refine e_puti fp_X1_89 dX1_bringNearer_7 (kC_mem (s := 3) (by decide) hw hg) rfl (lt_b rfl) rfl rfl rfl ?_
  refine r_aload_n (x := (3, w, g)) dX1_bringNearer_10 rfl ?_
  refine r_dup dX1_bringNearer_11 rfl ?_
  refine e_geti_ (x := u.1 (3, w, g) 8) fw_X1_104 dX1_bringNearer_12 (kC_mem (s := 3) (by decide) hw hg) rfl (lt_b rfl) (by simp [pi, pl, pr, pci, pcl]) ?_
  refine r_iconst (v := 1) dX1_bringNearer_15 rfl ?_
  refine r_iadd dX1_bringNearer_16 ?_
  refine e_puti fp_X1_104 dX1_bringNearer_17 (kC_mem (s := 3) (by decide) hw hg) rfl (lt_b rfl) rfl rfl rfl ?_
  refine r_iload_n (x := a1) dX1_bringNearer_20 rfl ?_
  refine r_if_lt (tgt := 43) dX1_bringNearer_21 (by decide) (fun hc => ?_) (fun hc => ?_)
  · have hf := (am_if hf).1 hc
    refine r_aload_n (x := (3, w, g)) dX1_bringNearer_43 rfl ?_
    refine r_iconst (v := 0) dX1_bringNearer_44 rfl ?_
    refine r_iconst (v := 0) dX1_bringNearer_45 rfl ?_
    refine r_iconst (v := 0) dX1_bringNearer_46 rfl ?_
    obtain ⟨r1, hr2, hf⟩ := am_bind hf
    refine r_callV (as := [vI (0 : Int32), vI (0 : Int32), vI (0 : Int32)]) (st := []) (n := 3) mw_X1_64 mv_X2_setOut (C_X2_setOut (l := l) hw hg hr2) (by decide) dX1_bringNearer_47 (kC_mem (s := 3) (by decide) hw hg) rfl rfl rfl (le_b rfl) (le_b rfl) (le_b rfl) ?_
    show X l _ _ 0 0 false _ kC 0 0 50 [some (vR (20, 0, 0)), some (vR (3, w, g)), some (vI a1)] [] (en r1)
    refine r_goto (tgt := 72) dX1_bringNearer_50 (by decide) ?_
    have hx := am_inj hf
    subst hx
    exact r_vret dX1_bringNearer_72 rfl (le_b rfl) (le_b rfl)
  · have hf := (am_if hf).2 hc
    refine r_iload_n (x := a1) dX1_bringNearer_24 rfl ?_
    refine r_bipush (v := 6) dX1_bringNearer_25 rfl ?_
    refine r_icmp_ge (tgt := 43) dX1_bringNearer_27 (by decide) (fun hc => ?_) (fun hc => ?_)
    · have hf := (am_if hf).1 hc
      refine r_aload_n (x := (3, w, g)) dX1_bringNearer_43 rfl ?_
      refine r_iconst (v := 0) dX1_bringNearer_44 rfl ?_
      refine r_iconst (v := 0) dX1_bringNearer_45 rfl ?_
      refine r_iconst (v := 0) dX1_bringNearer_46 rfl ?_
      obtain ⟨r3, hr4, hf⟩ := am_bind hf
      refine r_callV (as := [vI (0 : Int32), vI (0 : Int32), vI (0 : Int32)]) (st := []) (n := 3) mw_X1_64 mv_X2_setOut (C_X2_setOut (l := l) hw hg hr4) (by decide) dX1_bringNearer_47 (kC_mem (s := 3) (by decide) hw hg) rfl rfl rfl (le_b rfl) (le_b rfl) (le_b rfl) ?_
      show X l _ _ 0 0 false _ kC 0 0 50 [some (vR (20, 0, 0)), some (vR (3, w, g)), some (vI a1)] [] (en r3)
      refine r_goto (tgt := 72) dX1_bringNearer_50 (by decide) ?_
      have hx := am_inj hf
      subst hx
      exact r_vret dX1_bringNearer_72 rfl (le_b rfl) (le_b rfl)
    · have hf := (am_if hf).2 hc
      refine r_aload_n (x := (3, w, g)) dX1_bringNearer_30 rfl ?_
      refine e_geti_ (x := (u.1 (3, w, g) 8) + (1 : Int32)) fw_X1_104 dX1_bringNearer_31 (kC_mem (s := 3) (by decide) hw hg) rfl (lt_b rfl) (by simp [pi, pl, pr, pci, pcl]) ?_
      refine r_aload_n (x := (20, 0, 0)) dX1_bringNearer_34 rfl ?_
      refine e_getr (z := some (23, 0, 0)) fw_X1_25 dX1_bringNearer_35 (kC_mem (s := 20) (by decide) (by decide) (by decide)) rfl (lt_b rfl) rfl ?_
      refine r_iload_n (x := a1) dX1_bringNearer_38 rfl ?_
      obtain ⟨h5, hf⟩ := am_nchk hf
      refine e_iald (n := a1.toNatClampNeg) (x := u.1 (23, 0, 0) a1.toNatClampNeg) dX1_bringNearer_39 (kC_mem (s := 23) (by decide) (by decide) (by decide)) rfl h5 rfl (by simp [pi, pl, pr, pci, pcl]) ?_
      refine r_icmp_le (tgt := 53) dX1_bringNearer_40 (by decide) (fun hc => ?_) (fun hc => ?_)
      · have hf := (am_if hf).1 hc
        refine r_aload_n (x := (3, w, g)) dX1_bringNearer_53 rfl ?_
        refine e_geti_ (x := (u.1 (3, w, g) 6) - (1 : Int32)) fw_X1_89 dX1_bringNearer_54 (kC_mem (s := 3) (by decide) hw hg) rfl (lt_b rfl) (by simp [pi, pl, pr, pci, pcl]) ?_
        refine r_if_gt (tgt := 72) dX1_bringNearer_57 (by decide) (fun hc => ?_) (fun hc => ?_)
        · have hf := (am_if hf).1 hc
          have hx := am_inj hf
          subst hx
          exact r_vret dX1_bringNearer_72 rfl (le_b rfl) (le_b rfl)
        · have hf := (am_if hf).2 hc
          refine r_aload_n (x := (3, w, g)) dX1_bringNearer_60 rfl ?_
          refine r_iconst (v := 1) dX1_bringNearer_61 rfl ?_
          refine e_puti fp_X1_44 dX1_bringNearer_62 (kC_mem (s := 3) (by decide) hw hg) rfl (lt_b rfl) rfl (am_bool (x := 1) (by decide)).1 (am_bool (x := 1) (by decide)).2 ?_
          refine r_aload_n (x := (3, w, g)) dX1_bringNearer_65 rfl ?_
          refine r_iconst (v := 0) dX1_bringNearer_66 rfl ?_
          refine r_iconst (v := 0) dX1_bringNearer_67 rfl ?_
          refine r_iconst (v := 0) dX1_bringNearer_68 rfl ?_
          obtain ⟨r6, hr7, hf⟩ := am_bind hf
          refine r_callV (as := [vI (0 : Int32), vI (0 : Int32), vI (0 : Int32)]) (st := []) (n := 3) mw_X1_64 mv_X2_setOut (C_X2_setOut (l := l) hw hg hr7) (by decide) dX1_bringNearer_69 (kC_mem (s := 3) (by decide) hw hg) rfl rfl rfl (le_b rfl) (le_b rfl) (le_b rfl) ?_
          show X l _ _ 0 0 false _ kC 0 0 72 [some (vR (20, 0, 0)), some (vR (3, w, g)), some (vI a1)] [] (en r6)
          have hx := am_inj hf
          subst hx
          exact r_vret dX1_bringNearer_72 rfl (le_b rfl) (le_b rfl)
      · have hf := (am_if hf).2 hc
        refine r_aload_n (x := (3, w, g)) dX1_bringNearer_43 rfl ?_
        refine r_iconst (v := 0) dX1_bringNearer_44 rfl ?_
        refine r_iconst (v := 0) dX1_bringNearer_45 rfl ?_
        refine r_iconst (v := 0) dX1_bringNearer_46 rfl ?_
        obtain ⟨r8, hr9, hf⟩ := am_bind hf
        refine r_callV (as := [vI (0 : Int32), vI (0 : Int32), vI (0 : Int32)]) (st := []) (n := 3) mw_X1_64 mv_X2_setOut (C_X2_setOut (l := l) hw hg hr9) (by decide) dX1_bringNearer_47 (kC_mem (s := 3) (by decide) hw hg) rfl rfl rfl (le_b rfl) (le_b rfl) (le_b rfl) ?_
        show X l _ _ 0 0 false _ kC 0 0 50 [some (vR (20, 0, 0)), some (vR (3, w, g)), some (vI a1)] [] (en r8)
        refine r_goto (tgt := 72) dX1_bringNearer_50 (by decide) ?_
        have hx := am_inj hf
        subst hx
        exact r_vret dX1_bringNearer_72 rfl (le_b rfl) (le_b rfl)
/-! FireFromFire$Hours.pass -/
theorem dX1_pass_0 : decode cX1_pass 0 = .ok (.iconst 0, 1) := by decide +kernel
theorem dX1_pass_1 : decode cX1_pass 1 = .ok (.istore 4, 2) := by decide +kernel
theorem dX1_pass_3 : decode cX1_pass 3 = .ok (.iload 4, 2) := by decide +kernel
theorem dX1_pass_5 : decode cX1_pass 5 = .ok (.aload_n 1, 1) := by decide +kernel
theorem dX1_pass_6 : decode cX1_pass 6 = .ok (.getfield 31, 3) := by decide +kernel
theorem dX1_pass_9 : decode cX1_pass 9 = .ok (.if_icmp .ge 121, 3) := by decide +kernel
theorem dX1_pass_12 : decode cX1_pass 12 = .ok (.iload 4, 2) := by decide +kernel
theorem dX1_pass_14 : decode cX1_pass 14 = .ok (.bipush 6, 2) := by decide +kernel
theorem dX1_pass_16 : decode cX1_pass 16 = .ok (.if_icmp .ge 114, 3) := by decide +kernel
theorem dX1_pass_19 : decode cX1_pass 19 = .ok (.aload_n 0, 1) := by decide +kernel
theorem dX1_pass_20 : decode cX1_pass 20 = .ok (.getfield 18, 3) := by decide +kernel
theorem dX1_pass_23 : decode cX1_pass 23 = .ok (.iload 4, 2) := by decide +kernel
theorem dX1_pass_25 : decode cX1_pass 25 = .ok (.aload_n 1, 1) := by decide +kernel
theorem dX1_pass_26 : decode cX1_pass 26 = .ok (.iload 4, 2) := by decide +kernel
theorem dX1_pass_28 : decode cX1_pass 28 = .ok (.iload_n 2, 1) := by decide +kernel
theorem dX1_pass_29 : decode cX1_pass 29 = .ok (.invokevirtual 50, 3) := by decide +kernel
theorem dX1_pass_32 : decode cX1_pass 32 = .ok (.iastore, 1) := by decide +kernel
theorem dX1_pass_33 : decode cX1_pass 33 = .ok (.aload_n 0, 1) := by decide +kernel
theorem dX1_pass_34 : decode cX1_pass 34 = .ok (.getfield 22, 3) := by decide +kernel
theorem dX1_pass_37 : decode cX1_pass 37 = .ok (.iload 4, 2) := by decide +kernel
theorem dX1_pass_39 : decode cX1_pass 39 = .ok (.aload_n 0, 1) := by decide +kernel
theorem dX1_pass_40 : decode cX1_pass 40 = .ok (.getfield 18, 3) := by decide +kernel
theorem dX1_pass_43 : decode cX1_pass 43 = .ok (.iload 4, 2) := by decide +kernel
theorem dX1_pass_45 : decode cX1_pass 45 = .ok (.iaload, 1) := by decide +kernel
theorem dX1_pass_46 : decode cX1_pass 46 = .ok (.iconst 1, 1) := by decide +kernel
theorem dX1_pass_47 : decode cX1_pass 47 = .ok (.if_icmp .ne 14, 3) := by decide +kernel
theorem dX1_pass_50 : decode cX1_pass 50 = .ok (.aload_n 1, 1) := by decide +kernel
theorem dX1_pass_51 : decode cX1_pass 51 = .ok (.iconst 1, 1) := by decide +kernel
theorem dX1_pass_52 : decode cX1_pass 52 = .ok (.iload 4, 2) := by decide +kernel
theorem dX1_pass_54 : decode cX1_pass 54 = .ok (.iload_n 2, 1) := by decide +kernel
theorem dX1_pass_55 : decode cX1_pass 55 = .ok (.invokevirtual 36, 3) := by decide +kernel
theorem dX1_pass_58 : decode cX1_pass 58 = .ok (.goto 4, 3) := by decide +kernel
theorem dX1_pass_61 : decode cX1_pass 61 = .ok (.iconst 0, 1) := by decide +kernel
theorem dX1_pass_62 : decode cX1_pass 62 = .ok (.iastore, 1) := by decide +kernel
theorem dX1_pass_63 : decode cX1_pass 63 = .ok (.aload_n 0, 1) := by decide +kernel
theorem dX1_pass_64 : decode cX1_pass 64 = .ok (.getfield 25, 3) := by decide +kernel
theorem dX1_pass_67 : decode cX1_pass 67 = .ok (.iload 4, 2) := by decide +kernel
theorem dX1_pass_69 : decode cX1_pass 69 = .ok (.aload_n 1, 1) := by decide +kernel
theorem dX1_pass_70 : decode cX1_pass 70 = .ok (.getfield 40, 3) := by decide +kernel
theorem dX1_pass_73 : decode cX1_pass 73 = .ok (.iload 4, 2) := by decide +kernel
theorem dX1_pass_75 : decode cX1_pass 75 = .ok (.aaload, 1) := by decide +kernel
theorem dX1_pass_76 : decode cX1_pass 76 = .ok (.getfield 54, 3) := by decide +kernel
theorem dX1_pass_79 : decode cX1_pass 79 = .ok (.iconst 2, 1) := by decide +kernel
theorem dX1_pass_80 : decode cX1_pass 80 = .ok (.if_icmp .ne 14, 3) := by decide +kernel
theorem dX1_pass_83 : decode cX1_pass 83 = .ok (.aload_n 1, 1) := by decide +kernel
theorem dX1_pass_84 : decode cX1_pass 84 = .ok (.iconst 2, 1) := by decide +kernel
theorem dX1_pass_85 : decode cX1_pass 85 = .ok (.iload 4, 2) := by decide +kernel
theorem dX1_pass_87 : decode cX1_pass 87 = .ok (.iload_n 2, 1) := by decide +kernel
theorem dX1_pass_88 : decode cX1_pass 88 = .ok (.invokevirtual 36, 3) := by decide +kernel
theorem dX1_pass_91 : decode cX1_pass 91 = .ok (.goto 4, 3) := by decide +kernel
theorem dX1_pass_94 : decode cX1_pass 94 = .ok (.iconst 0, 1) := by decide +kernel
theorem dX1_pass_95 : decode cX1_pass 95 = .ok (.iastore, 1) := by decide +kernel
theorem dX1_pass_96 : decode cX1_pass 96 = .ok (.aload_n 0, 1) := by decide +kernel
theorem dX1_pass_97 : decode cX1_pass 97 = .ok (.getfield 28, 3) := by decide +kernel
theorem dX1_pass_100 : decode cX1_pass 100 = .ok (.iload 4, 2) := by decide +kernel
theorem dX1_pass_102 : decode cX1_pass 102 = .ok (.aload_n 0, 1) := by decide +kernel
theorem dX1_pass_103 : decode cX1_pass 103 = .ok (.getfield 18, 3) := by decide +kernel
theorem dX1_pass_106 : decode cX1_pass 106 = .ok (.iload 4, 2) := by decide +kernel
theorem dX1_pass_108 : decode cX1_pass 108 = .ok (.iaload, 1) := by decide +kernel
theorem dX1_pass_109 : decode cX1_pass 109 = .ok (.iconst 3, 1) := by decide +kernel
theorem dX1_pass_110 : decode cX1_pass 110 = .ok (.if_icmp .ne 12, 3) := by decide +kernel
theorem dX1_pass_113 : decode cX1_pass 113 = .ok (.aload_n 1, 1) := by decide +kernel
theorem dX1_pass_114 : decode cX1_pass 114 = .ok (.iload 4, 2) := by decide +kernel
theorem dX1_pass_116 : decode cX1_pass 116 = .ok (.invokevirtual 57, 3) := by decide +kernel
theorem dX1_pass_119 : decode cX1_pass 119 = .ok (.goto 4, 3) := by decide +kernel
theorem dX1_pass_122 : decode cX1_pass 122 = .ok (.iconst (-1), 1) := by decide +kernel
theorem dX1_pass_123 : decode cX1_pass 123 = .ok (.iastore, 1) := by decide +kernel
theorem dX1_pass_124 : decode cX1_pass 124 = .ok (.iinc 4 1, 3) := by decide +kernel
theorem dX1_pass_127 : decode cX1_pass 127 = .ok (.goto (-124), 3) := by decide +kernel
theorem dX1_pass_130 : decode cX1_pass 130 = .ok (.iconst 0, 1) := by decide +kernel
theorem dX1_pass_131 : decode cX1_pass 131 = .ok (.istore 4, 2) := by decide +kernel
theorem dX1_pass_133 : decode cX1_pass 133 = .ok (.iload 4, 2) := by decide +kernel
theorem dX1_pass_135 : decode cX1_pass 135 = .ok (.aload_n 1, 1) := by decide +kernel
theorem dX1_pass_136 : decode cX1_pass 136 = .ok (.getfield 31, 3) := by decide +kernel
theorem dX1_pass_139 : decode cX1_pass 139 = .ok (.if_icmp .ge 82, 3) := by decide +kernel
theorem dX1_pass_142 : decode cX1_pass 142 = .ok (.iload 4, 2) := by decide +kernel
theorem dX1_pass_144 : decode cX1_pass 144 = .ok (.bipush 6, 2) := by decide +kernel
theorem dX1_pass_146 : decode cX1_pass 146 = .ok (.if_icmp .ge 75, 3) := by decide +kernel
theorem dX1_pass_149 : decode cX1_pass 149 = .ok (.aload_n 1, 1) := by decide +kernel
theorem dX1_pass_150 : decode cX1_pass 150 = .ok (.getfield 40, 3) := by decide +kernel
theorem dX1_pass_153 : decode cX1_pass 153 = .ok (.iload 4, 2) := by decide +kernel
theorem dX1_pass_155 : decode cX1_pass 155 = .ok (.aaload, 1) := by decide +kernel
theorem dX1_pass_156 : decode cX1_pass 156 = .ok (.astore 5, 2) := by decide +kernel
theorem dX1_pass_158 : decode cX1_pass 158 = .ok (.aload_n 0, 1) := by decide +kernel
theorem dX1_pass_159 : decode cX1_pass 159 = .ok (.getfield 18, 3) := by decide +kernel
theorem dX1_pass_162 : decode cX1_pass 162 = .ok (.iload 4, 2) := by decide +kernel
theorem dX1_pass_164 : decode cX1_pass 164 = .ok (.iaload, 1) := by decide +kernel
theorem dX1_pass_165 : decode cX1_pass 165 = .ok (.iconst 3, 1) := by decide +kernel
theorem dX1_pass_166 : decode cX1_pass 166 = .ok (.if_icmp .ne 32, 3) := by decide +kernel
theorem dX1_pass_169 : decode cX1_pass 169 = .ok (.aload 5, 2) := by decide +kernel
theorem dX1_pass_171 : decode cX1_pass 171 = .ok (.iconst 1, 1) := by decide +kernel
theorem dX1_pass_172 : decode cX1_pass 172 = .ok (.aload_n 1, 1) := by decide +kernel
theorem dX1_pass_173 : decode cX1_pass 173 = .ok (.iload 4, 2) := by decide +kernel
theorem dX1_pass_175 : decode cX1_pass 175 = .ok (.aload_n 0, 1) := by decide +kernel
theorem dX1_pass_176 : decode cX1_pass 176 = .ok (.getfield 28, 3) := by decide +kernel
theorem dX1_pass_179 : decode cX1_pass 179 = .ok (.iload 4, 2) := by decide +kernel
theorem dX1_pass_181 : decode cX1_pass 181 = .ok (.iaload, 1) := by decide +kernel
theorem dX1_pass_182 : decode cX1_pass 182 = .ok (.invokevirtual 61, 3) := by decide +kernel
theorem dX1_pass_185 : decode cX1_pass 185 = .ok (.aload_n 0, 1) := by decide +kernel
theorem dX1_pass_186 : decode cX1_pass 186 = .ok (.getfield 28, 3) := by decide +kernel
theorem dX1_pass_189 : decode cX1_pass 189 = .ok (.iload 4, 2) := by decide +kernel
theorem dX1_pass_191 : decode cX1_pass 191 = .ok (.iaload, 1) := by decide +kernel
theorem dX1_pass_192 : decode cX1_pass 192 = .ok (.invokevirtual 64, 3) := by decide +kernel
theorem dX1_pass_195 : decode cX1_pass 195 = .ok (.goto 20, 3) := by decide +kernel
theorem dX1_pass_198 : decode cX1_pass 198 = .ok (.aload 5, 2) := by decide +kernel
theorem dX1_pass_200 : decode cX1_pass 200 = .ok (.getfield 44, 3) := by decide +kernel
theorem dX1_pass_203 : decode cX1_pass 203 = .ok (.ifCond .eq 12, 3) := by decide +kernel
theorem dX1_pass_206 : decode cX1_pass 206 = .ok (.aload_n 0, 1) := by decide +kernel
theorem dX1_pass_207 : decode cX1_pass 207 = .ok (.aload 5, 2) := by decide +kernel
theorem dX1_pass_209 : decode cX1_pass 209 = .ok (.iload 4, 2) := by decide +kernel
theorem dX1_pass_211 : decode cX1_pass 211 = .ok (.iload_n 3, 1) := by decide +kernel
theorem dX1_pass_212 : decode cX1_pass 212 = .ok (.invokevirtual 68, 3) := by decide +kernel
theorem dX1_pass_215 : decode cX1_pass 215 = .ok (.iinc 4 1, 3) := by decide +kernel
theorem dX1_pass_218 : decode cX1_pass 218 = .ok (.goto (-85), 3) := by decide +kernel
theorem dX1_pass_221 : decode cX1_pass 221 = .ok (.iconst 0, 1) := by decide +kernel
theorem dX1_pass_222 : decode cX1_pass 222 = .ok (.istore 4, 2) := by decide +kernel
theorem dX1_pass_224 : decode cX1_pass 224 = .ok (.iload 4, 2) := by decide +kernel
theorem dX1_pass_226 : decode cX1_pass 226 = .ok (.aload_n 1, 1) := by decide +kernel
theorem dX1_pass_227 : decode cX1_pass 227 = .ok (.getfield 31, 3) := by decide +kernel
theorem dX1_pass_230 : decode cX1_pass 230 = .ok (.if_icmp .ge 63, 3) := by decide +kernel
theorem dX1_pass_233 : decode cX1_pass 233 = .ok (.iload 4, 2) := by decide +kernel
theorem dX1_pass_235 : decode cX1_pass 235 = .ok (.bipush 6, 2) := by decide +kernel
theorem dX1_pass_237 : decode cX1_pass 237 = .ok (.if_icmp .ge 56, 3) := by decide +kernel
theorem dX1_pass_240 : decode cX1_pass 240 = .ok (.aload_n 1, 1) := by decide +kernel
theorem dX1_pass_241 : decode cX1_pass 241 = .ok (.getfield 40, 3) := by decide +kernel
theorem dX1_pass_244 : decode cX1_pass 244 = .ok (.iload 4, 2) := by decide +kernel
theorem dX1_pass_246 : decode cX1_pass 246 = .ok (.aaload, 1) := by decide +kernel
theorem dX1_pass_247 : decode cX1_pass 247 = .ok (.astore 5, 2) := by decide +kernel
theorem dX1_pass_249 : decode cX1_pass 249 = .ok (.aload 5, 2) := by decide +kernel
theorem dX1_pass_251 : decode cX1_pass 251 = .ok (.getfield 54, 3) := by decide +kernel
theorem dX1_pass_254 : decode cX1_pass 254 = .ok (.iconst 1, 1) := by decide +kernel
theorem dX1_pass_255 : decode cX1_pass 255 = .ok (.if_icmp .ne 15, 3) := by decide +kernel
theorem dX1_pass_258 : decode cX1_pass 258 = .ok (.aload_n 0, 1) := by decide +kernel
theorem dX1_pass_259 : decode cX1_pass 259 = .ok (.aload_n 1, 1) := by decide +kernel
theorem dX1_pass_260 : decode cX1_pass 260 = .ok (.aload 5, 2) := by decide +kernel
theorem dX1_pass_262 : decode cX1_pass 262 = .ok (.iload 4, 2) := by decide +kernel
theorem dX1_pass_264 : decode cX1_pass 264 = .ok (.invokevirtual 72, 3) := by decide +kernel
theorem dX1_pass_267 : decode cX1_pass 267 = .ok (.goto 20, 3) := by decide +kernel
theorem dX1_pass_270 : decode cX1_pass 270 = .ok (.aload 5, 2) := by decide +kernel
theorem dX1_pass_272 : decode cX1_pass 272 = .ok (.getfield 54, 3) := by decide +kernel
theorem dX1_pass_275 : decode cX1_pass 275 = .ok (.iconst 2, 1) := by decide +kernel
theorem dX1_pass_276 : decode cX1_pass 276 = .ok (.if_icmp .ne 11, 3) := by decide +kernel
theorem dX1_pass_279 : decode cX1_pass 279 = .ok (.aload_n 0, 1) := by decide +kernel
theorem dX1_pass_280 : decode cX1_pass 280 = .ok (.aload 5, 2) := by decide +kernel
theorem dX1_pass_282 : decode cX1_pass 282 = .ok (.iload 4, 2) := by decide +kernel
theorem dX1_pass_284 : decode cX1_pass 284 = .ok (.invokevirtual 76, 3) := by decide +kernel
theorem dX1_pass_287 : decode cX1_pass 287 = .ok (.iinc 4 1, 3) := by decide +kernel
theorem dX1_pass_290 : decode cX1_pass 290 = .ok (.goto (-66), 3) := by decide +kernel
theorem dX1_pass_293 : decode cX1_pass 293 = .ok (.aload_n 1, 1) := by decide +kernel
theorem dX1_pass_294 : decode cX1_pass 294 = .ok (.iload_n 2, 1) := by decide +kernel
theorem dX1_pass_295 : decode cX1_pass 295 = .ok (.putfield 80, 3) := by decide +kernel
theorem dX1_pass_298 : decode cX1_pass 298 = .ok (.aload_n 1, 1) := by decide +kernel
theorem dX1_pass_299 : decode cX1_pass 299 = .ok (.dup, 1) := by decide +kernel
theorem dX1_pass_300 : decode cX1_pass 300 = .ok (.getfield 83, 3) := by decide +kernel
theorem dX1_pass_303 : decode cX1_pass 303 = .ok (.iconst 1, 1) := by decide +kernel
theorem dX1_pass_304 : decode cX1_pass 304 = .ok (.iadd, 1) := by decide +kernel
theorem dX1_pass_305 : decode cX1_pass 305 = .ok (.putfield 83, 3) := by decide +kernel
theorem dX1_pass_308 : decode cX1_pass 308 = .ok (.return_, 1) := by decide +kernel
def f_X1_pass_L3 (n0 : Nat) (c2 : Int32) (c3 : Int32) : Int32 × PM → Option ((Int32 × PM) ⊕ (PM)) := fun (x4 , u) =>
  if (u.1 (1, n0, 0) 0) ≤ x4 then
    some (.inr (u))
  else
  if (6 : Int32) ≤ x4 then
    some (.inr (u))
  else
  (f_X8_choice n0 x4 c2 u).bind fun (r1, u3) =>
  if x4 < 0 ∨ 6 ≤ x4.toNatClampNeg then none else
  if r1 = (1 : Int32) then
    (f_X8_sum n0 (1 : Int32) x4 c2 (pi u3 (21, 0, 0) x4.toNatClampNeg r1)).bind fun (r12, u14) =>
    if (u14.1 (3, n0, x4.toNatClampNeg) 5) = (2 : Int32) then
      (f_X8_sum n0 (2 : Int32) x4 c2 (pi u14 (22, 0, 0) x4.toNatClampNeg r12)).bind fun (r17, u19) =>
      if (u19.1 (21, 0, 0) x4.toNatClampNeg) = (3 : Int32) then
        (f_X8_nearestFire n0 x4 (pi u19 (23, 0, 0) x4.toNatClampNeg r17)).bind fun r20 =>
        some (.inl (x4 + (1 : Int32), (pi (pi u19 (23, 0, 0) x4.toNatClampNeg r17) (24, 0, 0) x4.toNatClampNeg r20)))
      else
      some (.inl (x4 + (1 : Int32), (pi (pi u19 (23, 0, 0) x4.toNatClampNeg r17) (24, 0, 0) x4.toNatClampNeg (-1 : Int32))))
    else
    if (u14.1 (21, 0, 0) x4.toNatClampNeg) = (3 : Int32) then
      (f_X8_nearestFire n0 x4 (pi (pi u14 (22, 0, 0) x4.toNatClampNeg r12) (23, 0, 0) x4.toNatClampNeg (0 : Int32))).bind fun r15 =>
      some (.inl (x4 + (1 : Int32), (pi (pi (pi u14 (22, 0, 0) x4.toNatClampNeg r12) (23, 0, 0) x4.toNatClampNeg (0 : Int32)) (24, 0, 0) x4.toNatClampNeg r15)))
    else
    some (.inl (x4 + (1 : Int32), (pi (pi (pi u14 (22, 0, 0) x4.toNatClampNeg r12) (23, 0, 0) x4.toNatClampNeg (0 : Int32)) (24, 0, 0) x4.toNatClampNeg (-1 : Int32))))
  else
  if (u3.1 (3, n0, x4.toNatClampNeg) 5) = (2 : Int32) then
    (f_X8_sum n0 (2 : Int32) x4 c2 (pi (pi u3 (21, 0, 0) x4.toNatClampNeg r1) (22, 0, 0) x4.toNatClampNeg (0 : Int32))).bind fun (r7, u9) =>
    if (u9.1 (21, 0, 0) x4.toNatClampNeg) = (3 : Int32) then
      (f_X8_nearestFire n0 x4 (pi u9 (23, 0, 0) x4.toNatClampNeg r7)).bind fun r10 =>
      some (.inl (x4 + (1 : Int32), (pi (pi u9 (23, 0, 0) x4.toNatClampNeg r7) (24, 0, 0) x4.toNatClampNeg r10)))
    else
    some (.inl (x4 + (1 : Int32), (pi (pi u9 (23, 0, 0) x4.toNatClampNeg r7) (24, 0, 0) x4.toNatClampNeg (-1 : Int32))))
  else
  if r1 = (3 : Int32) then
    (f_X8_nearestFire n0 x4 (pi (pi (pi u3 (21, 0, 0) x4.toNatClampNeg r1) (22, 0, 0) x4.toNatClampNeg (0 : Int32)) (23, 0, 0) x4.toNatClampNeg (0 : Int32))).bind fun r5 =>
    some (.inl (x4 + (1 : Int32), (pi (pi (pi (pi u3 (21, 0, 0) x4.toNatClampNeg r1) (22, 0, 0) x4.toNatClampNeg (0 : Int32)) (23, 0, 0) x4.toNatClampNeg (0 : Int32)) (24, 0, 0) x4.toNatClampNeg r5)))
  else
  some (.inl (x4 + (1 : Int32), (pi (pi (pi (pi u3 (21, 0, 0) x4.toNatClampNeg r1) (22, 0, 0) x4.toNatClampNeg (0 : Int32)) (23, 0, 0) x4.toNatClampNeg (0 : Int32)) (24, 0, 0) x4.toNatClampNeg (-1 : Int32))))
set_option maxHeartbeats 4000000 in
set_option maxRecDepth 20000 in
theorem K_X1_pass_L3 {l : Launch} {T : Option AV × List Key × AM} {n0 : Nat} (hn0 : n0 < 4) {c2 : Int32} {c3 : Int32} : ∀ (n : Nat) (s : Int32 × PM) (e0 : PM), am_loop (f_X1_pass_L3 n0 c2 c3) n s = some e0 → (fun e : PM => X l mX1_pass 6 0 0 false T kC 0 0 130 [some (vR (20, 0, 0)), some (vR (1, n0, 0)), some (vI c2), some (vI c3), none, none] [] (en e)) e0 → X l mX1_pass 6 0 0 false T kC 0 0 3 [some (vR (20, 0, 0)), some (vR (1, n0, 0)), some (vI c2), some (vI c3), some (vI s.1), none] [] (en s.2) := by
  refine am_loop_of ?_
  intro s x hf k1 k2
  obtain ⟨x4 , u⟩ := s
  unfold f_X1_pass_L3 at hf
  show X l mX1_pass 6 0 0 false T kC 0 0 3 [some (vR (20, 0, 0)), some (vR (1, n0, 0)), some (vI c2), some (vI c3), some (vI x4), none] [] (en u)
  refine r_iload (x := x4) dX1_pass_3 rfl ?_
  refine r_aload_n (x := (1, n0, 0)) dX1_pass_5 rfl ?_
  refine e_geti fw_X1_31 dX1_pass_6 (kC_mem (s := 1) (by decide) hn0 (by decide)) rfl (lt_b rfl) ?_
  refine r_icmp_ge (tgt := 130) dX1_pass_9 (by decide) (fun hc => ?_) (fun hc => ?_)
  · have hf := (am_if hf).1 hc
    refine r_weak (L' := [some (vR (20, 0, 0)), some (vR (1, n0, 0)), some (vI c2), some (vI c3), none, none]) (And.intro rfl (And.intro rfl (And.intro rfl (And.intro rfl trivial)))) ?_
    exact k2 _ (am_inj hf).symm
  · have hf := (am_if hf).2 hc
    refine r_iload (x := x4) dX1_pass_12 rfl ?_
    refine r_bipush (v := 6) dX1_pass_14 rfl ?_
    refine r_icmp_ge (tgt := 130) dX1_pass_16 (by decide) (fun hc => ?_) (fun hc => ?_)
    · have hf := (am_if hf).1 hc
      refine r_weak (L' := [some (vR (20, 0, 0)), some (vR (1, n0, 0)), some (vI c2), some (vI c3), none, none]) (And.intro rfl (And.intro rfl (And.intro rfl (And.intro rfl trivial)))) ?_
      exact k2 _ (am_inj hf).symm
    · have hf := (am_if hf).2 hc
      refine r_aload_n (x := (20, 0, 0)) dX1_pass_19 rfl ?_
      refine e_getr (z := some (21, 0, 0)) fw_X1_18 dX1_pass_20 (kC_mem (s := 20) (by decide) (by decide) (by decide)) rfl (lt_b rfl) rfl ?_
      refine r_iload (x := x4) dX1_pass_23 rfl ?_
      refine r_aload_n (x := (1, n0, 0)) dX1_pass_25 rfl ?_
      refine r_iload (x := x4) dX1_pass_26 rfl ?_
      refine r_iload_n (x := c2) dX1_pass_28 rfl ?_
      obtain ⟨⟨r1, u3⟩, hr2, hf⟩ := am_bind hf
      refine r_callV (as := [vI x4, vI c2]) (st := [vI x4, vR (21, 0, 0)]) (n := 2) mw_X1_50 mv_X8_choice (C_X8_choice (l := l) hn0 hr2) (by decide) dX1_pass_29 (kC_mem (s := 1) (by decide) hn0 (by decide)) rfl rfl rfl (le_b rfl) (le_b rfl) (le_b rfl) ?_
      show X l _ _ 0 0 false _ kC 0 0 32 [some (vR (20, 0, 0)), some (vR (1, n0, 0)), some (vI c2), some (vI c3), some (vI x4), none] [vI r1, vI x4, vR (21, 0, 0)] (en u3)
      obtain ⟨h4, hf⟩ := am_nchk hf
      refine e_iast (n := x4.toNatClampNeg) dX1_pass_32 (kC_mem (s := 21) (by decide) (by decide) (by decide)) rfl h4 rfl ?_
      refine r_aload_n (x := (20, 0, 0)) dX1_pass_33 rfl ?_
      refine e_getr (z := some (22, 0, 0)) fw_X1_22 dX1_pass_34 (kC_mem (s := 20) (by decide) (by decide) (by decide)) rfl (lt_b rfl) rfl ?_
      refine r_iload (x := x4) dX1_pass_37 rfl ?_
      refine r_aload_n (x := (20, 0, 0)) dX1_pass_39 rfl ?_
      refine e_getr (z := some (21, 0, 0)) fw_X1_18 dX1_pass_40 (kC_mem (s := 20) (by decide) (by decide) (by decide)) rfl (lt_b rfl) rfl ?_
      refine r_iload (x := x4) dX1_pass_43 rfl ?_
      refine e_iald (n := x4.toNatClampNeg) (x := r1) dX1_pass_45 (kC_mem (s := 21) (by decide) (by decide) (by decide)) rfl h4 rfl (by simp [pi, pl, pr, pci, pcl]) ?_
      refine r_iconst (v := 1) dX1_pass_46 rfl ?_
      refine r_icmp_ne (tgt := 61) dX1_pass_47 (by decide) (fun hc => ?_) (fun hc => ?_)
      · have hf := (am_if hf).2 hc
        refine r_iconst (v := 0) dX1_pass_61 rfl ?_
        refine e_iast (n := x4.toNatClampNeg) dX1_pass_62 (kC_mem (s := 22) (by decide) (by decide) (by decide)) rfl h4 rfl ?_
        refine r_aload_n (x := (20, 0, 0)) dX1_pass_63 rfl ?_
        refine e_getr (z := some (23, 0, 0)) fw_X1_25 dX1_pass_64 (kC_mem (s := 20) (by decide) (by decide) (by decide)) rfl (lt_b rfl) rfl ?_
        refine r_iload (x := x4) dX1_pass_67 rfl ?_
        refine r_aload_n (x := (1, n0, 0)) dX1_pass_69 rfl ?_
        refine e_getr (z := some (2, n0, 0)) fw_X1_40 dX1_pass_70 (kC_mem (s := 1) (by decide) hn0 (by decide)) rfl (lt_b rfl) rfl ?_
        refine r_iload (x := x4) dX1_pass_73 rfl ?_
        refine e_aald (n := x4.toNatClampNeg) (z := some (3, n0, x4.toNatClampNeg)) dX1_pass_75 (kC_mem (s := 2) (by decide) hn0 (by decide)) ⟨le_b rfl, lt_b rfl⟩ h4 rfl rfl ?_
        refine e_geti_ (x := u3.1 (3, n0, x4.toNatClampNeg) 5) fw_X1_54 dX1_pass_76 (kC_mem (s := 3) (by decide) hn0 (vp_lt h4)) rfl (lt_b rfl) (by simp [pi, pl, pr, pci, pcl]) ?_
        refine r_iconst (v := 2) dX1_pass_79 rfl ?_
        refine r_icmp_ne (tgt := 94) dX1_pass_80 (by decide) (fun hc => ?_) (fun hc => ?_)
        · have hf := (am_if hf).2 hc
          refine r_iconst (v := 0) dX1_pass_94 rfl ?_
          refine e_iast (n := x4.toNatClampNeg) dX1_pass_95 (kC_mem (s := 23) (by decide) (by decide) (by decide)) rfl h4 rfl ?_
          refine r_aload_n (x := (20, 0, 0)) dX1_pass_96 rfl ?_
          refine e_getr (z := some (24, 0, 0)) fw_X1_28 dX1_pass_97 (kC_mem (s := 20) (by decide) (by decide) (by decide)) rfl (lt_b rfl) rfl ?_
          refine r_iload (x := x4) dX1_pass_100 rfl ?_
          refine r_aload_n (x := (20, 0, 0)) dX1_pass_102 rfl ?_
          refine e_getr (z := some (21, 0, 0)) fw_X1_18 dX1_pass_103 (kC_mem (s := 20) (by decide) (by decide) (by decide)) rfl (lt_b rfl) rfl ?_
          refine r_iload (x := x4) dX1_pass_106 rfl ?_
          refine e_iald (n := x4.toNatClampNeg) (x := r1) dX1_pass_108 (kC_mem (s := 21) (by decide) (by decide) (by decide)) rfl h4 rfl (by simp [pi, pl, pr, pci, pcl]) ?_
          refine r_iconst (v := 3) dX1_pass_109 rfl ?_
          refine r_icmp_ne (tgt := 122) dX1_pass_110 (by decide) (fun hc => ?_) (fun hc => ?_)
          · have hf := (am_if hf).2 hc
            refine r_iconst (v := -1) dX1_pass_122 rfl ?_
            refine e_iast (n := x4.toNatClampNeg) dX1_pass_123 (kC_mem (s := 24) (by decide) (by decide) (by decide)) rfl h4 rfl ?_
            refine r_iinc (x := x4) (v := x4 + (1 : Int32)) (L' := [some (vR (20, 0, 0)), some (vR (1, n0, 0)), some (vI c2), some (vI c3), some (vI (x4 + (1 : Int32))), none]) dX1_pass_124 rfl rfl (lt_b rfl) rfl ?_
            refine r_goto (tgt := 3) dX1_pass_127 (by decide) ?_
            refine r_weak (L' := [some (vR (20, 0, 0)), some (vR (1, n0, 0)), some (vI c2), some (vI c3), some (vI (x4 + (1 : Int32))), none]) (And.intro rfl (And.intro rfl (And.intro rfl (And.intro rfl (And.intro rfl trivial))))) ?_
            exact k1 _ (am_inj hf).symm
          · have hf := (am_if hf).1 hc
            refine r_aload_n (x := (1, n0, 0)) dX1_pass_113 rfl ?_
            refine r_iload (x := x4) dX1_pass_114 rfl ?_
            obtain ⟨r5, hr6, hf⟩ := am_bind hf
            refine r_callV (as := [vI x4]) (st := [vI x4, vR (24, 0, 0)]) (n := 1) mw_X1_57 mv_X8_nearestFire (C_X8_nearestFire (l := l) hn0 hr6) (by decide) dX1_pass_116 (kC_mem (s := 1) (by decide) hn0 (by decide)) rfl rfl rfl (le_b rfl) (le_b rfl) (le_b rfl) ?_
            show X l _ _ 0 0 false _ kC 0 0 119 [some (vR (20, 0, 0)), some (vR (1, n0, 0)), some (vI c2), some (vI c3), some (vI x4), none] [vI r5, vI x4, vR (24, 0, 0)] (en (pi (pi (pi u3 (21, 0, 0) x4.toNatClampNeg r1) (22, 0, 0) x4.toNatClampNeg (0 : Int32)) (23, 0, 0) x4.toNatClampNeg (0 : Int32)))
            refine r_goto (tgt := 123) dX1_pass_119 (by decide) ?_
            refine e_iast (n := x4.toNatClampNeg) dX1_pass_123 (kC_mem (s := 24) (by decide) (by decide) (by decide)) rfl h4 rfl ?_
            refine r_iinc (x := x4) (v := x4 + (1 : Int32)) (L' := [some (vR (20, 0, 0)), some (vR (1, n0, 0)), some (vI c2), some (vI c3), some (vI (x4 + (1 : Int32))), none]) dX1_pass_124 rfl rfl (lt_b rfl) rfl ?_
            refine r_goto (tgt := 3) dX1_pass_127 (by decide) ?_
            refine r_weak (L' := [some (vR (20, 0, 0)), some (vR (1, n0, 0)), some (vI c2), some (vI c3), some (vI (x4 + (1 : Int32))), none]) (And.intro rfl (And.intro rfl (And.intro rfl (And.intro rfl (And.intro rfl trivial))))) ?_
            exact k1 _ (am_inj hf).symm
        · have hf := (am_if hf).1 hc
          refine r_aload_n (x := (1, n0, 0)) dX1_pass_83 rfl ?_
          refine r_iconst (v := 2) dX1_pass_84 rfl ?_
          refine r_iload (x := x4) dX1_pass_85 rfl ?_
          refine r_iload_n (x := c2) dX1_pass_87 rfl ?_
          obtain ⟨⟨r7, u9⟩, hr8, hf⟩ := am_bind hf
          refine r_callV (as := [vI (2 : Int32), vI x4, vI c2]) (st := [vI x4, vR (23, 0, 0)]) (n := 3) mw_X1_36 mv_X8_sum (C_X8_sum (l := l) hn0 hr8) (by decide) dX1_pass_88 (kC_mem (s := 1) (by decide) hn0 (by decide)) rfl rfl rfl (le_b rfl) (le_b rfl) (le_b rfl) ?_
          show X l _ _ 0 0 false _ kC 0 0 91 [some (vR (20, 0, 0)), some (vR (1, n0, 0)), some (vI c2), some (vI c3), some (vI x4), none] [vI r7, vI x4, vR (23, 0, 0)] (en u9)
          refine r_goto (tgt := 95) dX1_pass_91 (by decide) ?_
          refine e_iast (n := x4.toNatClampNeg) dX1_pass_95 (kC_mem (s := 23) (by decide) (by decide) (by decide)) rfl h4 rfl ?_
          refine r_aload_n (x := (20, 0, 0)) dX1_pass_96 rfl ?_
          refine e_getr (z := some (24, 0, 0)) fw_X1_28 dX1_pass_97 (kC_mem (s := 20) (by decide) (by decide) (by decide)) rfl (lt_b rfl) rfl ?_
          refine r_iload (x := x4) dX1_pass_100 rfl ?_
          refine r_aload_n (x := (20, 0, 0)) dX1_pass_102 rfl ?_
          refine e_getr (z := some (21, 0, 0)) fw_X1_18 dX1_pass_103 (kC_mem (s := 20) (by decide) (by decide) (by decide)) rfl (lt_b rfl) rfl ?_
          refine r_iload (x := x4) dX1_pass_106 rfl ?_
          refine e_iald (n := x4.toNatClampNeg) (x := u9.1 (21, 0, 0) x4.toNatClampNeg) dX1_pass_108 (kC_mem (s := 21) (by decide) (by decide) (by decide)) rfl h4 rfl (by simp [pi, pl, pr, pci, pcl]) ?_
          refine r_iconst (v := 3) dX1_pass_109 rfl ?_
          refine r_icmp_ne (tgt := 122) dX1_pass_110 (by decide) (fun hc => ?_) (fun hc => ?_)
          · have hf := (am_if hf).2 hc
            refine r_iconst (v := -1) dX1_pass_122 rfl ?_
            refine e_iast (n := x4.toNatClampNeg) dX1_pass_123 (kC_mem (s := 24) (by decide) (by decide) (by decide)) rfl h4 rfl ?_
            refine r_iinc (x := x4) (v := x4 + (1 : Int32)) (L' := [some (vR (20, 0, 0)), some (vR (1, n0, 0)), some (vI c2), some (vI c3), some (vI (x4 + (1 : Int32))), none]) dX1_pass_124 rfl rfl (lt_b rfl) rfl ?_
            refine r_goto (tgt := 3) dX1_pass_127 (by decide) ?_
            refine r_weak (L' := [some (vR (20, 0, 0)), some (vR (1, n0, 0)), some (vI c2), some (vI c3), some (vI (x4 + (1 : Int32))), none]) (And.intro rfl (And.intro rfl (And.intro rfl (And.intro rfl (And.intro rfl trivial))))) ?_
            exact k1 _ (am_inj hf).symm
          · have hf := (am_if hf).1 hc
            refine r_aload_n (x := (1, n0, 0)) dX1_pass_113 rfl ?_
            refine r_iload (x := x4) dX1_pass_114 rfl ?_
            obtain ⟨r10, hr11, hf⟩ := am_bind hf
            refine r_callV (as := [vI x4]) (st := [vI x4, vR (24, 0, 0)]) (n := 1) mw_X1_57 mv_X8_nearestFire (C_X8_nearestFire (l := l) hn0 hr11) (by decide) dX1_pass_116 (kC_mem (s := 1) (by decide) hn0 (by decide)) rfl rfl rfl (le_b rfl) (le_b rfl) (le_b rfl) ?_
            show X l _ _ 0 0 false _ kC 0 0 119 [some (vR (20, 0, 0)), some (vR (1, n0, 0)), some (vI c2), some (vI c3), some (vI x4), none] [vI r10, vI x4, vR (24, 0, 0)] (en (pi u9 (23, 0, 0) x4.toNatClampNeg r7))
            refine r_goto (tgt := 123) dX1_pass_119 (by decide) ?_
            refine e_iast (n := x4.toNatClampNeg) dX1_pass_123 (kC_mem (s := 24) (by decide) (by decide) (by decide)) rfl h4 rfl ?_
            refine r_iinc (x := x4) (v := x4 + (1 : Int32)) (L' := [some (vR (20, 0, 0)), some (vR (1, n0, 0)), some (vI c2), some (vI c3), some (vI (x4 + (1 : Int32))), none]) dX1_pass_124 rfl rfl (lt_b rfl) rfl ?_
            refine r_goto (tgt := 3) dX1_pass_127 (by decide) ?_
            refine r_weak (L' := [some (vR (20, 0, 0)), some (vR (1, n0, 0)), some (vI c2), some (vI c3), some (vI (x4 + (1 : Int32))), none]) (And.intro rfl (And.intro rfl (And.intro rfl (And.intro rfl (And.intro rfl trivial))))) ?_
            exact k1 _ (am_inj hf).symm
      · have hf := (am_if hf).1 hc
        refine r_aload_n (x := (1, n0, 0)) dX1_pass_50 rfl ?_
        refine r_iconst (v := 1) dX1_pass_51 rfl ?_
        refine r_iload (x := x4) dX1_pass_52 rfl ?_
        refine r_iload_n (x := c2) dX1_pass_54 rfl ?_
        obtain ⟨⟨r12, u14⟩, hr13, hf⟩ := am_bind hf
        refine r_callV (as := [vI (1 : Int32), vI x4, vI c2]) (st := [vI x4, vR (22, 0, 0)]) (n := 3) mw_X1_36 mv_X8_sum (C_X8_sum (l := l) hn0 hr13) (by decide) dX1_pass_55 (kC_mem (s := 1) (by decide) hn0 (by decide)) rfl rfl rfl (le_b rfl) (le_b rfl) (le_b rfl) ?_
        show X l _ _ 0 0 false _ kC 0 0 58 [some (vR (20, 0, 0)), some (vR (1, n0, 0)), some (vI c2), some (vI c3), some (vI x4), none] [vI r12, vI x4, vR (22, 0, 0)] (en u14)
        refine r_goto (tgt := 62) dX1_pass_58 (by decide) ?_
        refine e_iast (n := x4.toNatClampNeg) dX1_pass_62 (kC_mem (s := 22) (by decide) (by decide) (by decide)) rfl h4 rfl ?_
        refine r_aload_n (x := (20, 0, 0)) dX1_pass_63 rfl ?_
        refine e_getr (z := some (23, 0, 0)) fw_X1_25 dX1_pass_64 (kC_mem (s := 20) (by decide) (by decide) (by decide)) rfl (lt_b rfl) rfl ?_
        refine r_iload (x := x4) dX1_pass_67 rfl ?_
        refine r_aload_n (x := (1, n0, 0)) dX1_pass_69 rfl ?_
        refine e_getr (z := some (2, n0, 0)) fw_X1_40 dX1_pass_70 (kC_mem (s := 1) (by decide) hn0 (by decide)) rfl (lt_b rfl) rfl ?_
        refine r_iload (x := x4) dX1_pass_73 rfl ?_
        refine e_aald (n := x4.toNatClampNeg) (z := some (3, n0, x4.toNatClampNeg)) dX1_pass_75 (kC_mem (s := 2) (by decide) hn0 (by decide)) ⟨le_b rfl, lt_b rfl⟩ h4 rfl rfl ?_
        refine e_geti_ (x := u14.1 (3, n0, x4.toNatClampNeg) 5) fw_X1_54 dX1_pass_76 (kC_mem (s := 3) (by decide) hn0 (vp_lt h4)) rfl (lt_b rfl) (by simp [pi, pl, pr, pci, pcl]) ?_
        refine r_iconst (v := 2) dX1_pass_79 rfl ?_
        refine r_icmp_ne (tgt := 94) dX1_pass_80 (by decide) (fun hc => ?_) (fun hc => ?_)
        · have hf := (am_if hf).2 hc
          refine r_iconst (v := 0) dX1_pass_94 rfl ?_
          refine e_iast (n := x4.toNatClampNeg) dX1_pass_95 (kC_mem (s := 23) (by decide) (by decide) (by decide)) rfl h4 rfl ?_
          refine r_aload_n (x := (20, 0, 0)) dX1_pass_96 rfl ?_
          refine e_getr (z := some (24, 0, 0)) fw_X1_28 dX1_pass_97 (kC_mem (s := 20) (by decide) (by decide) (by decide)) rfl (lt_b rfl) rfl ?_
          refine r_iload (x := x4) dX1_pass_100 rfl ?_
          refine r_aload_n (x := (20, 0, 0)) dX1_pass_102 rfl ?_
          refine e_getr (z := some (21, 0, 0)) fw_X1_18 dX1_pass_103 (kC_mem (s := 20) (by decide) (by decide) (by decide)) rfl (lt_b rfl) rfl ?_
          refine r_iload (x := x4) dX1_pass_106 rfl ?_
          refine e_iald (n := x4.toNatClampNeg) (x := u14.1 (21, 0, 0) x4.toNatClampNeg) dX1_pass_108 (kC_mem (s := 21) (by decide) (by decide) (by decide)) rfl h4 rfl (by simp [pi, pl, pr, pci, pcl]) ?_
          refine r_iconst (v := 3) dX1_pass_109 rfl ?_
          refine r_icmp_ne (tgt := 122) dX1_pass_110 (by decide) (fun hc => ?_) (fun hc => ?_)
          · have hf := (am_if hf).2 hc
            refine r_iconst (v := -1) dX1_pass_122 rfl ?_
            refine e_iast (n := x4.toNatClampNeg) dX1_pass_123 (kC_mem (s := 24) (by decide) (by decide) (by decide)) rfl h4 rfl ?_
            refine r_iinc (x := x4) (v := x4 + (1 : Int32)) (L' := [some (vR (20, 0, 0)), some (vR (1, n0, 0)), some (vI c2), some (vI c3), some (vI (x4 + (1 : Int32))), none]) dX1_pass_124 rfl rfl (lt_b rfl) rfl ?_
            refine r_goto (tgt := 3) dX1_pass_127 (by decide) ?_
            refine r_weak (L' := [some (vR (20, 0, 0)), some (vR (1, n0, 0)), some (vI c2), some (vI c3), some (vI (x4 + (1 : Int32))), none]) (And.intro rfl (And.intro rfl (And.intro rfl (And.intro rfl (And.intro rfl trivial))))) ?_
            exact k1 _ (am_inj hf).symm
          · have hf := (am_if hf).1 hc
            refine r_aload_n (x := (1, n0, 0)) dX1_pass_113 rfl ?_
            refine r_iload (x := x4) dX1_pass_114 rfl ?_
            obtain ⟨r15, hr16, hf⟩ := am_bind hf
            refine r_callV (as := [vI x4]) (st := [vI x4, vR (24, 0, 0)]) (n := 1) mw_X1_57 mv_X8_nearestFire (C_X8_nearestFire (l := l) hn0 hr16) (by decide) dX1_pass_116 (kC_mem (s := 1) (by decide) hn0 (by decide)) rfl rfl rfl (le_b rfl) (le_b rfl) (le_b rfl) ?_
            show X l _ _ 0 0 false _ kC 0 0 119 [some (vR (20, 0, 0)), some (vR (1, n0, 0)), some (vI c2), some (vI c3), some (vI x4), none] [vI r15, vI x4, vR (24, 0, 0)] (en (pi (pi u14 (22, 0, 0) x4.toNatClampNeg r12) (23, 0, 0) x4.toNatClampNeg (0 : Int32)))
            refine r_goto (tgt := 123) dX1_pass_119 (by decide) ?_
            refine e_iast (n := x4.toNatClampNeg) dX1_pass_123 (kC_mem (s := 24) (by decide) (by decide) (by decide)) rfl h4 rfl ?_
            refine r_iinc (x := x4) (v := x4 + (1 : Int32)) (L' := [some (vR (20, 0, 0)), some (vR (1, n0, 0)), some (vI c2), some (vI c3), some (vI (x4 + (1 : Int32))), none]) dX1_pass_124 rfl rfl (lt_b rfl) rfl ?_
            refine r_goto (tgt := 3) dX1_pass_127 (by decide) ?_
            refine r_weak (L' := [some (vR (20, 0, 0)), some (vR (1, n0, 0)), some (vI c2), some (vI c3), some (vI (x4 + (1 : Int32))), none]) (And.intro rfl (And.intro rfl (And.intro rfl (And.intro rfl (And.intro rfl trivial))))) ?_
            exact k1 _ (am_inj hf).symm
        · have hf := (am_if hf).1 hc
          refine r_aload_n (x := (1, n0, 0)) dX1_pass_83 rfl ?_
          refine r_iconst (v := 2) dX1_pass_84 rfl ?_
          refine r_iload (x := x4) dX1_pass_85 rfl ?_
          refine r_iload_n (x := c2) dX1_pass_87 rfl ?_
          obtain ⟨⟨r17, u19⟩, hr18, hf⟩ := am_bind hf
          refine r_callV (as := [vI (2 : Int32), vI x4, vI c2]) (st := [vI x4, vR (23, 0, 0)]) (n := 3) mw_X1_36 mv_X8_sum (C_X8_sum (l := l) hn0 hr18) (by decide) dX1_pass_88 (kC_mem (s := 1) (by decide) hn0 (by decide)) rfl rfl rfl (le_b rfl) (le_b rfl) (le_b rfl) ?_
          show X l _ _ 0 0 false _ kC 0 0 91 [some (vR (20, 0, 0)), some (vR (1, n0, 0)), some (vI c2), some (vI c3), some (vI x4), none] [vI r17, vI x4, vR (23, 0, 0)] (en u19)
          refine r_goto (tgt := 95) dX1_pass_91 (by decide) ?_
          refine e_iast (n := x4.toNatClampNeg) dX1_pass_95 (kC_mem (s := 23) (by decide) (by decide) (by decide)) rfl h4 rfl ?_
          refine r_aload_n (x := (20, 0, 0)) dX1_pass_96 rfl ?_
          refine e_getr (z := some (24, 0, 0)) fw_X1_28 dX1_pass_97 (kC_mem (s := 20) (by decide) (by decide) (by decide)) rfl (lt_b rfl) rfl ?_
          refine r_iload (x := x4) dX1_pass_100 rfl ?_
          refine r_aload_n (x := (20, 0, 0)) dX1_pass_102 rfl ?_
          refine e_getr (z := some (21, 0, 0)) fw_X1_18 dX1_pass_103 (kC_mem (s := 20) (by decide) (by decide) (by decide)) rfl (lt_b rfl) rfl ?_
          refine r_iload (x := x4) dX1_pass_106 rfl ?_
          refine e_iald (n := x4.toNatClampNeg) (x := u19.1 (21, 0, 0) x4.toNatClampNeg) dX1_pass_108 (kC_mem (s := 21) (by decide) (by decide) (by decide)) rfl h4 rfl (by simp [pi, pl, pr, pci, pcl]) ?_
          refine r_iconst (v := 3) dX1_pass_109 rfl ?_
          refine r_icmp_ne (tgt := 122) dX1_pass_110 (by decide) (fun hc => ?_) (fun hc => ?_)
          · have hf := (am_if hf).2 hc
            refine r_iconst (v := -1) dX1_pass_122 rfl ?_
            refine e_iast (n := x4.toNatClampNeg) dX1_pass_123 (kC_mem (s := 24) (by decide) (by decide) (by decide)) rfl h4 rfl ?_
            refine r_iinc (x := x4) (v := x4 + (1 : Int32)) (L' := [some (vR (20, 0, 0)), some (vR (1, n0, 0)), some (vI c2), some (vI c3), some (vI (x4 + (1 : Int32))), none]) dX1_pass_124 rfl rfl (lt_b rfl) rfl ?_
            refine r_goto (tgt := 3) dX1_pass_127 (by decide) ?_
            refine r_weak (L' := [some (vR (20, 0, 0)), some (vR (1, n0, 0)), some (vI c2), some (vI c3), some (vI (x4 + (1 : Int32))), none]) (And.intro rfl (And.intro rfl (And.intro rfl (And.intro rfl (And.intro rfl trivial))))) ?_
            exact k1 _ (am_inj hf).symm
          · have hf := (am_if hf).1 hc
            refine r_aload_n (x := (1, n0, 0)) dX1_pass_113 rfl ?_
            refine r_iload (x := x4) dX1_pass_114 rfl ?_
            obtain ⟨r20, hr21, hf⟩ := am_bind hf
            refine r_callV (as := [vI x4]) (st := [vI x4, vR (24, 0, 0)]) (n := 1) mw_X1_57 mv_X8_nearestFire (C_X8_nearestFire (l := l) hn0 hr21) (by decide) dX1_pass_116 (kC_mem (s := 1) (by decide) hn0 (by decide)) rfl rfl rfl (le_b rfl) (le_b rfl) (le_b rfl) ?_
            show X l _ _ 0 0 false _ kC 0 0 119 [some (vR (20, 0, 0)), some (vR (1, n0, 0)), some (vI c2), some (vI c3), some (vI x4), none] [vI r20, vI x4, vR (24, 0, 0)] (en (pi u19 (23, 0, 0) x4.toNatClampNeg r17))
            refine r_goto (tgt := 123) dX1_pass_119 (by decide) ?_
            refine e_iast (n := x4.toNatClampNeg) dX1_pass_123 (kC_mem (s := 24) (by decide) (by decide) (by decide)) rfl h4 rfl ?_
            refine r_iinc (x := x4) (v := x4 + (1 : Int32)) (L' := [some (vR (20, 0, 0)), some (vR (1, n0, 0)), some (vI c2), some (vI c3), some (vI (x4 + (1 : Int32))), none]) dX1_pass_124 rfl rfl (lt_b rfl) rfl ?_
            refine r_goto (tgt := 3) dX1_pass_127 (by decide) ?_
            refine r_weak (L' := [some (vR (20, 0, 0)), some (vR (1, n0, 0)), some (vI c2), some (vI c3), some (vI (x4 + (1 : Int32))), none]) (And.intro rfl (And.intro rfl (And.intro rfl (And.intro rfl (And.intro rfl trivial))))) ?_
            exact k1 _ (am_inj hf).symm
def f_X1_pass_L133 (n0 : Nat) (c2 : Int32) (c3 : Int32) : Int32 × PM → Option ((Int32 × PM) ⊕ (PM)) := fun (x4 , u) =>
  if (u.1 (1, n0, 0) 0) ≤ x4 then
    some (.inr (u))
  else
  if (6 : Int32) ≤ x4 then
    some (.inr (u))
  else
  if x4 < 0 ∨ 6 ≤ x4.toNatClampNeg then none else
  if (u.1 (21, 0, 0) x4.toNatClampNeg) = (3 : Int32) then
    (f_X8_hoursBetween n0 x4 (u.1 (24, 0, 0) x4.toNatClampNeg) u).bind fun r28 =>
    (f_X2_setOut n0 x4.toNatClampNeg (1 : Int32) r28 (u.1 (24, 0, 0) x4.toNatClampNeg) u).bind fun r30 =>
    some (.inl (x4 + (1 : Int32), r30))
  else
  if (u.1 (3, n0, x4.toNatClampNeg) 1) = 0 then
    some (.inl (x4 + (1 : Int32), u))
  else
  (f_X1_burn n0 x4.toNatClampNeg x4 c3 u).bind fun r26 =>
  some (.inl (x4 + (1 : Int32), r26))
set_option maxHeartbeats 4000000 in
set_option maxRecDepth 20000 in
theorem K_X1_pass_L133 {l : Launch} {T : Option AV × List Key × AM} {n0 : Nat} (hn0 : n0 < 4) {c2 : Int32} {c3 : Int32} : ∀ (n : Nat) (s : Int32 × PM) (e0 : PM), am_loop (f_X1_pass_L133 n0 c2 c3) n s = some e0 → (fun e : PM => X l mX1_pass 6 0 0 false T kC 0 0 221 [some (vR (20, 0, 0)), some (vR (1, n0, 0)), some (vI c2), none, none, none] [] (en e)) e0 → X l mX1_pass 6 0 0 false T kC 0 0 133 [some (vR (20, 0, 0)), some (vR (1, n0, 0)), some (vI c2), some (vI c3), some (vI s.1), none] [] (en s.2) := by
  refine am_loop_of ?_
  intro s x hf k1 k2
  obtain ⟨x4 , u⟩ := s
  unfold f_X1_pass_L133 at hf
  show X l mX1_pass 6 0 0 false T kC 0 0 133 [some (vR (20, 0, 0)), some (vR (1, n0, 0)), some (vI c2), some (vI c3), some (vI x4), none] [] (en u)
  refine r_iload (x := x4) dX1_pass_133 rfl ?_
  refine r_aload_n (x := (1, n0, 0)) dX1_pass_135 rfl ?_
  refine e_geti fw_X1_31 dX1_pass_136 (kC_mem (s := 1) (by decide) hn0 (by decide)) rfl (lt_b rfl) ?_
  refine r_icmp_ge (tgt := 221) dX1_pass_139 (by decide) (fun hc => ?_) (fun hc => ?_)
  · have hf := (am_if hf).1 hc
    refine r_weak (L' := [some (vR (20, 0, 0)), some (vR (1, n0, 0)), some (vI c2), none, none, none]) (And.intro rfl (And.intro rfl (And.intro rfl trivial))) ?_
    exact k2 _ (am_inj hf).symm
  · have hf := (am_if hf).2 hc
    refine r_iload (x := x4) dX1_pass_142 rfl ?_
    refine r_bipush (v := 6) dX1_pass_144 rfl ?_
    refine r_icmp_ge (tgt := 221) dX1_pass_146 (by decide) (fun hc => ?_) (fun hc => ?_)
    · have hf := (am_if hf).1 hc
      refine r_weak (L' := [some (vR (20, 0, 0)), some (vR (1, n0, 0)), some (vI c2), none, none, none]) (And.intro rfl (And.intro rfl (And.intro rfl trivial))) ?_
      exact k2 _ (am_inj hf).symm
    · have hf := (am_if hf).2 hc
      refine r_aload_n (x := (1, n0, 0)) dX1_pass_149 rfl ?_
      refine e_getr (z := some (2, n0, 0)) fw_X1_40 dX1_pass_150 (kC_mem (s := 1) (by decide) hn0 (by decide)) rfl (lt_b rfl) rfl ?_
      refine r_iload (x := x4) dX1_pass_153 rfl ?_
      obtain ⟨h25, hf⟩ := am_nchk hf
      refine e_aald (n := x4.toNatClampNeg) (z := some (3, n0, x4.toNatClampNeg)) dX1_pass_155 (kC_mem (s := 2) (by decide) hn0 (by decide)) ⟨le_b rfl, lt_b rfl⟩ h25 rfl rfl ?_
      refine r_astore (L' := [some (vR (20, 0, 0)), some (vR (1, n0, 0)), some (vI c2), some (vI c3), some (vI x4), some (vR (3, n0, x4.toNatClampNeg))]) dX1_pass_156 (by decide) rfl ?_
      refine r_aload_n (x := (20, 0, 0)) dX1_pass_158 rfl ?_
      refine e_getr (z := some (21, 0, 0)) fw_X1_18 dX1_pass_159 (kC_mem (s := 20) (by decide) (by decide) (by decide)) rfl (lt_b rfl) rfl ?_
      refine r_iload (x := x4) dX1_pass_162 rfl ?_
      refine e_iald (n := x4.toNatClampNeg) dX1_pass_164 (kC_mem (s := 21) (by decide) (by decide) (by decide)) rfl h25 rfl rfl ?_
      refine r_iconst (v := 3) dX1_pass_165 rfl ?_
      refine r_icmp_ne (tgt := 198) dX1_pass_166 (by decide) (fun hc => ?_) (fun hc => ?_)
      · have hf := (am_if hf).2 hc
        refine r_aload (x := (3, n0, x4.toNatClampNeg)) dX1_pass_198 rfl ?_
        refine e_geti fw_X1_44 dX1_pass_200 (kC_mem (s := 3) (by decide) hn0 (vp_lt h25)) rfl (lt_b rfl) ?_
        refine r_if_eq (tgt := 215) dX1_pass_203 (by decide) (fun hc => ?_) (fun hc => ?_)
        · have hf := (am_if hf).1 hc
          refine r_iinc (x := x4) (v := x4 + (1 : Int32)) (L' := [some (vR (20, 0, 0)), some (vR (1, n0, 0)), some (vI c2), some (vI c3), some (vI (x4 + (1 : Int32))), some (vR (3, n0, x4.toNatClampNeg))]) dX1_pass_215 rfl rfl (lt_b rfl) rfl ?_
          refine r_goto (tgt := 133) dX1_pass_218 (by decide) ?_
          refine r_weak (L' := [some (vR (20, 0, 0)), some (vR (1, n0, 0)), some (vI c2), some (vI c3), some (vI (x4 + (1 : Int32))), none]) (And.intro rfl (And.intro rfl (And.intro rfl (And.intro rfl (And.intro rfl trivial))))) ?_
          exact k1 _ (am_inj hf).symm
        · have hf := (am_if hf).2 hc
          refine r_aload_n (x := (20, 0, 0)) dX1_pass_206 rfl ?_
          refine r_aload (x := (3, n0, x4.toNatClampNeg)) dX1_pass_207 rfl ?_
          refine r_iload (x := x4) dX1_pass_209 rfl ?_
          refine r_iload_n (x := c3) dX1_pass_211 rfl ?_
          obtain ⟨r26, hr27, hf⟩ := am_bind hf
          refine r_callV (as := [vR (3, n0, x4.toNatClampNeg), vI x4, vI c3]) (st := []) (n := 3) mw_X1_68 mv_X1_burn (C_X1_burn (l := l) hn0 (vp_lt h25) hr27) (by decide) dX1_pass_212 (kC_mem (s := 20) (by decide) (by decide) (by decide)) rfl rfl rfl (le_b rfl) (le_b rfl) (le_b rfl) ?_
          show X l _ _ 0 0 false _ kC 0 0 215 [some (vR (20, 0, 0)), some (vR (1, n0, 0)), some (vI c2), some (vI c3), some (vI x4), some (vR (3, n0, x4.toNatClampNeg))] [] (en r26)
          refine r_iinc (x := x4) (v := x4 + (1 : Int32)) (L' := [some (vR (20, 0, 0)), some (vR (1, n0, 0)), some (vI c2), some (vI c3), some (vI (x4 + (1 : Int32))), some (vR (3, n0, x4.toNatClampNeg))]) dX1_pass_215 rfl rfl (lt_b rfl) rfl ?_
          refine r_goto (tgt := 133) dX1_pass_218 (by decide) ?_
          refine r_weak (L' := [some (vR (20, 0, 0)), some (vR (1, n0, 0)), some (vI c2), some (vI c3), some (vI (x4 + (1 : Int32))), none]) (And.intro rfl (And.intro rfl (And.intro rfl (And.intro rfl (And.intro rfl trivial))))) ?_
          exact k1 _ (am_inj hf).symm
      · have hf := (am_if hf).1 hc
        refine r_aload (x := (3, n0, x4.toNatClampNeg)) dX1_pass_169 rfl ?_
        refine r_iconst (v := 1) dX1_pass_171 rfl ?_
        refine r_aload_n (x := (1, n0, 0)) dX1_pass_172 rfl ?_
        refine r_iload (x := x4) dX1_pass_173 rfl ?_
        refine r_aload_n (x := (20, 0, 0)) dX1_pass_175 rfl ?_
        refine e_getr (z := some (24, 0, 0)) fw_X1_28 dX1_pass_176 (kC_mem (s := 20) (by decide) (by decide) (by decide)) rfl (lt_b rfl) rfl ?_
        refine r_iload (x := x4) dX1_pass_179 rfl ?_
        refine e_iald (n := x4.toNatClampNeg) dX1_pass_181 (kC_mem (s := 24) (by decide) (by decide) (by decide)) rfl h25 rfl rfl ?_
        obtain ⟨r28, hr29, hf⟩ := am_bind hf
        refine r_callV (as := [vI x4, vI (u.1 (24, 0, 0) x4.toNatClampNeg)]) (st := [vI (1 : Int32), vR (3, n0, x4.toNatClampNeg)]) (n := 2) mw_X1_61 mv_X8_hoursBetween (C_X8_hoursBetween (l := l) hn0 hr29) (by decide) dX1_pass_182 (kC_mem (s := 1) (by decide) hn0 (by decide)) rfl rfl rfl (le_b rfl) (le_b rfl) (le_b rfl) ?_
        show X l _ _ 0 0 false _ kC 0 0 185 [some (vR (20, 0, 0)), some (vR (1, n0, 0)), some (vI c2), some (vI c3), some (vI x4), some (vR (3, n0, x4.toNatClampNeg))] [vI r28, vI (1 : Int32), vR (3, n0, x4.toNatClampNeg)] (en u)
        refine r_aload_n (x := (20, 0, 0)) dX1_pass_185 rfl ?_
        refine e_getr (z := some (24, 0, 0)) fw_X1_28 dX1_pass_186 (kC_mem (s := 20) (by decide) (by decide) (by decide)) rfl (lt_b rfl) rfl ?_
        refine r_iload (x := x4) dX1_pass_189 rfl ?_
        refine e_iald (n := x4.toNatClampNeg) dX1_pass_191 (kC_mem (s := 24) (by decide) (by decide) (by decide)) rfl h25 rfl rfl ?_
        obtain ⟨r30, hr31, hf⟩ := am_bind hf
        refine r_callV (as := [vI (1 : Int32), vI r28, vI (u.1 (24, 0, 0) x4.toNatClampNeg)]) (st := []) (n := 3) mw_X1_64 mv_X2_setOut (C_X2_setOut (l := l) hn0 (vp_lt h25) hr31) (by decide) dX1_pass_192 (kC_mem (s := 3) (by decide) hn0 (vp_lt h25)) rfl rfl rfl (le_b rfl) (le_b rfl) (le_b rfl) ?_
        show X l _ _ 0 0 false _ kC 0 0 195 [some (vR (20, 0, 0)), some (vR (1, n0, 0)), some (vI c2), some (vI c3), some (vI x4), some (vR (3, n0, x4.toNatClampNeg))] [] (en r30)
        refine r_goto (tgt := 215) dX1_pass_195 (by decide) ?_
        refine r_iinc (x := x4) (v := x4 + (1 : Int32)) (L' := [some (vR (20, 0, 0)), some (vR (1, n0, 0)), some (vI c2), some (vI c3), some (vI (x4 + (1 : Int32))), some (vR (3, n0, x4.toNatClampNeg))]) dX1_pass_215 rfl rfl (lt_b rfl) rfl ?_
        refine r_goto (tgt := 133) dX1_pass_218 (by decide) ?_
        refine r_weak (L' := [some (vR (20, 0, 0)), some (vR (1, n0, 0)), some (vI c2), some (vI c3), some (vI (x4 + (1 : Int32))), none]) (And.intro rfl (And.intro rfl (And.intro rfl (And.intro rfl (And.intro rfl trivial))))) ?_
        exact k1 _ (am_inj hf).symm
def f_X1_pass_L224 (n0 : Nat) (c2 : Int32) : Int32 × PM → Option ((Int32 × PM) ⊕ (PM)) := fun (x4 , u) =>
  if (u.1 (1, n0, 0) 0) ≤ x4 then
    some (.inr (u))
  else
  if (6 : Int32) ≤ x4 then
    some (.inr (u))
  else
  if x4 < 0 ∨ 6 ≤ x4.toNatClampNeg then none else
  if (u.1 (3, n0, x4.toNatClampNeg) 5) = (1 : Int32) then
    (f_X1_goNearer n0 x4.toNatClampNeg x4 u).bind fun r38 =>
    some (.inl (x4 + (1 : Int32), r38))
  else
  if (u.1 (3, n0, x4.toNatClampNeg) 5) = (2 : Int32) then
    (f_X1_bringNearer n0 x4.toNatClampNeg x4 u).bind fun r36 =>
    some (.inl (x4 + (1 : Int32), r36))
  else
  some (.inl (x4 + (1 : Int32), u))
set_option maxHeartbeats 4000000 in
set_option maxRecDepth 20000 in
theorem K_X1_pass_L224 {l : Launch} {T : Option AV × List Key × AM} {n0 : Nat} (hn0 : n0 < 4) {c2 : Int32} : ∀ (n : Nat) (s : Int32 × PM) (e0 : PM), am_loop (f_X1_pass_L224 n0 c2) n s = some e0 → (fun e : PM => X l mX1_pass 6 0 0 false T kC 0 0 293 [none, some (vR (1, n0, 0)), some (vI c2), none, none, none] [] (en e)) e0 → X l mX1_pass 6 0 0 false T kC 0 0 224 [some (vR (20, 0, 0)), some (vR (1, n0, 0)), some (vI c2), none, some (vI s.1), none] [] (en s.2) := by
  refine am_loop_of ?_
  intro s x hf k1 k2
  obtain ⟨x4 , u⟩ := s
  unfold f_X1_pass_L224 at hf
  show X l mX1_pass 6 0 0 false T kC 0 0 224 [some (vR (20, 0, 0)), some (vR (1, n0, 0)), some (vI c2), none, some (vI x4), none] [] (en u)
  refine r_iload (x := x4) dX1_pass_224 rfl ?_
  refine r_aload_n (x := (1, n0, 0)) dX1_pass_226 rfl ?_
  refine e_geti fw_X1_31 dX1_pass_227 (kC_mem (s := 1) (by decide) hn0 (by decide)) rfl (lt_b rfl) ?_
  refine r_icmp_ge (tgt := 293) dX1_pass_230 (by decide) (fun hc => ?_) (fun hc => ?_)
  · have hf := (am_if hf).1 hc
    refine r_weak (L' := [none, some (vR (1, n0, 0)), some (vI c2), none, none, none]) (And.intro rfl (And.intro rfl trivial)) ?_
    exact k2 _ (am_inj hf).symm
  · have hf := (am_if hf).2 hc
    refine r_iload (x := x4) dX1_pass_233 rfl ?_
    refine r_bipush (v := 6) dX1_pass_235 rfl ?_
    refine r_icmp_ge (tgt := 293) dX1_pass_237 (by decide) (fun hc => ?_) (fun hc => ?_)
    · have hf := (am_if hf).1 hc
      refine r_weak (L' := [none, some (vR (1, n0, 0)), some (vI c2), none, none, none]) (And.intro rfl (And.intro rfl trivial)) ?_
      exact k2 _ (am_inj hf).symm
    · have hf := (am_if hf).2 hc
      refine r_aload_n (x := (1, n0, 0)) dX1_pass_240 rfl ?_
      refine e_getr (z := some (2, n0, 0)) fw_X1_40 dX1_pass_241 (kC_mem (s := 1) (by decide) hn0 (by decide)) rfl (lt_b rfl) rfl ?_
      refine r_iload (x := x4) dX1_pass_244 rfl ?_
      obtain ⟨h35, hf⟩ := am_nchk hf
      refine e_aald (n := x4.toNatClampNeg) (z := some (3, n0, x4.toNatClampNeg)) dX1_pass_246 (kC_mem (s := 2) (by decide) hn0 (by decide)) ⟨le_b rfl, lt_b rfl⟩ h35 rfl rfl ?_
      refine r_astore (L' := [some (vR (20, 0, 0)), some (vR (1, n0, 0)), some (vI c2), none, some (vI x4), some (vR (3, n0, x4.toNatClampNeg))]) dX1_pass_247 (by decide) rfl ?_
      refine r_aload (x := (3, n0, x4.toNatClampNeg)) dX1_pass_249 rfl ?_
      refine e_geti fw_X1_54 dX1_pass_251 (kC_mem (s := 3) (by decide) hn0 (vp_lt h35)) rfl (lt_b rfl) ?_
      refine r_iconst (v := 1) dX1_pass_254 rfl ?_
      refine r_icmp_ne (tgt := 270) dX1_pass_255 (by decide) (fun hc => ?_) (fun hc => ?_)
      · have hf := (am_if hf).2 hc
        refine r_aload (x := (3, n0, x4.toNatClampNeg)) dX1_pass_270 rfl ?_
        refine e_geti fw_X1_54 dX1_pass_272 (kC_mem (s := 3) (by decide) hn0 (vp_lt h35)) rfl (lt_b rfl) ?_
        refine r_iconst (v := 2) dX1_pass_275 rfl ?_
        refine r_icmp_ne (tgt := 287) dX1_pass_276 (by decide) (fun hc => ?_) (fun hc => ?_)
        · have hf := (am_if hf).2 hc
          refine r_iinc (x := x4) (v := x4 + (1 : Int32)) (L' := [some (vR (20, 0, 0)), some (vR (1, n0, 0)), some (vI c2), none, some (vI (x4 + (1 : Int32))), some (vR (3, n0, x4.toNatClampNeg))]) dX1_pass_287 rfl rfl (lt_b rfl) rfl ?_
          refine r_goto (tgt := 224) dX1_pass_290 (by decide) ?_
          refine r_weak (L' := [some (vR (20, 0, 0)), some (vR (1, n0, 0)), some (vI c2), none, some (vI (x4 + (1 : Int32))), none]) (And.intro rfl (And.intro rfl (And.intro rfl (And.intro rfl trivial)))) ?_
          exact k1 _ (am_inj hf).symm
        · have hf := (am_if hf).1 hc
          refine r_aload_n (x := (20, 0, 0)) dX1_pass_279 rfl ?_
          refine r_aload (x := (3, n0, x4.toNatClampNeg)) dX1_pass_280 rfl ?_
          refine r_iload (x := x4) dX1_pass_282 rfl ?_
          obtain ⟨r36, hr37, hf⟩ := am_bind hf
          refine r_callV (as := [vR (3, n0, x4.toNatClampNeg), vI x4]) (st := []) (n := 2) mw_X1_76 mv_X1_bringNearer (C_X1_bringNearer (l := l) hn0 (vp_lt h35) hr37) (by decide) dX1_pass_284 (kC_mem (s := 20) (by decide) (by decide) (by decide)) rfl rfl rfl (le_b rfl) (le_b rfl) (le_b rfl) ?_
          show X l _ _ 0 0 false _ kC 0 0 287 [some (vR (20, 0, 0)), some (vR (1, n0, 0)), some (vI c2), none, some (vI x4), some (vR (3, n0, x4.toNatClampNeg))] [] (en r36)
          refine r_iinc (x := x4) (v := x4 + (1 : Int32)) (L' := [some (vR (20, 0, 0)), some (vR (1, n0, 0)), some (vI c2), none, some (vI (x4 + (1 : Int32))), some (vR (3, n0, x4.toNatClampNeg))]) dX1_pass_287 rfl rfl (lt_b rfl) rfl ?_
          refine r_goto (tgt := 224) dX1_pass_290 (by decide) ?_
          refine r_weak (L' := [some (vR (20, 0, 0)), some (vR (1, n0, 0)), some (vI c2), none, some (vI (x4 + (1 : Int32))), none]) (And.intro rfl (And.intro rfl (And.intro rfl (And.intro rfl trivial)))) ?_
          exact k1 _ (am_inj hf).symm
      · have hf := (am_if hf).1 hc
        refine r_aload_n (x := (20, 0, 0)) dX1_pass_258 rfl ?_
        refine r_aload_n (x := (1, n0, 0)) dX1_pass_259 rfl ?_
        refine r_aload (x := (3, n0, x4.toNatClampNeg)) dX1_pass_260 rfl ?_
        refine r_iload (x := x4) dX1_pass_262 rfl ?_
        obtain ⟨r38, hr39, hf⟩ := am_bind hf
        refine r_callV (as := [vR (1, n0, 0), vR (3, n0, x4.toNatClampNeg), vI x4]) (st := []) (n := 3) mw_X1_72 mv_X1_goNearer (C_X1_goNearer (l := l) hn0 (vp_lt h35) hr39) (by decide) dX1_pass_264 (kC_mem (s := 20) (by decide) (by decide) (by decide)) rfl rfl rfl (le_b rfl) (le_b rfl) (le_b rfl) ?_
        show X l _ _ 0 0 false _ kC 0 0 267 [some (vR (20, 0, 0)), some (vR (1, n0, 0)), some (vI c2), none, some (vI x4), some (vR (3, n0, x4.toNatClampNeg))] [] (en r38)
        refine r_goto (tgt := 287) dX1_pass_267 (by decide) ?_
        refine r_iinc (x := x4) (v := x4 + (1 : Int32)) (L' := [some (vR (20, 0, 0)), some (vR (1, n0, 0)), some (vI c2), none, some (vI (x4 + (1 : Int32))), some (vR (3, n0, x4.toNatClampNeg))]) dX1_pass_287 rfl rfl (lt_b rfl) rfl ?_
        refine r_goto (tgt := 224) dX1_pass_290 (by decide) ?_
        refine r_weak (L' := [some (vR (20, 0, 0)), some (vR (1, n0, 0)), some (vI c2), none, some (vI (x4 + (1 : Int32))), none]) (And.intro rfl (And.intro rfl (And.intro rfl (And.intro rfl trivial)))) ?_
        exact k1 _ (am_inj hf).symm
def f_X1_pass (w : Nat) (a1 : Int32) (a2 : Int32) (u : PM) : Option (PM) :=
  (am_loop (f_X1_pass_L3 w a1 a2) 2000 ((0 : Int32), u)).bind fun u24 =>
  (am_loop (f_X1_pass_L133 w a1 a2) 2000 ((0 : Int32), u24)).bind fun u34 =>
  (am_loop (f_X1_pass_L224 w a1) 2000 ((0 : Int32), u34)).bind fun u42 =>
  some (pi (pi u42 (1, w, 0) 3 a1) (1, w, 0) 4 ((u42.1 (1, w, 0) 4) + (1 : Int32)))
set_option maxHeartbeats 4000000 in
set_option maxRecDepth 20000 in
theorem C_X1_pass {l : Launch} {w : Nat} (hw : w < 4) {a1 : Int32} {a2 : Int32} {u : PM} {x : PM} (hf : f_X1_pass w a1 a2 u = some x) : Ev l mX1_pass 6 0 0 false [vR (20, 0, 0), vR (1, w, 0), vI a1, vI a2] kC (en u) (none, kC, en x) := by
  refine Ev_of (by decide +kernel) (le_b rfl) ?_
  unfold f_X1_pass at hf
  show X l mX1_pass 6 0 0 false _ kC 0 0 0 [some (vR (20, 0, 0)), some (vR (1, w, 0)), some (vI a1), some (vI a2), none, none] [] (en u)
  refine r_iconst (v := 0) dX1_pass_0 rfl ?_
  refine r_istore (L' := [some (vR (20, 0, 0)), some (vR (1, w, 0)), some (vI a1), some (vI a2), some (vI (0 : Int32)), none]) dX1_pass_1 (by decide) rfl ?_
  refine r_weak (L' := [some (vR (20, 0, 0)), some (vR (1, w, 0)), some (vI a1), some (vI a2), some (vI (0 : Int32)), none]) (And.intro rfl (And.intro rfl (And.intro rfl (And.intro rfl (And.intro rfl trivial))))) ?_
  obtain ⟨e22, he23, hf⟩ := am_bind hf
  refine K_X1_pass_L3 hw 2000 ((0 : Int32), u) _ he23 ?_
  obtain ⟨u24, rfl⟩ : ∃ z, z = e22 := ⟨_, rfl⟩
  show X l _ _ 0 0 false _ kC 0 0 130 [some (vR (20, 0, 0)), some (vR (1, w, 0)), some (vI a1), some (vI a2), none, none] [] (en u24)
  refine r_iconst (v := 0) dX1_pass_130 rfl ?_
  refine r_istore (L' := [some (vR (20, 0, 0)), some (vR (1, w, 0)), some (vI a1), some (vI a2), some (vI (0 : Int32)), none]) dX1_pass_131 (by decide) rfl ?_
  refine r_weak (L' := [some (vR (20, 0, 0)), some (vR (1, w, 0)), some (vI a1), some (vI a2), some (vI (0 : Int32)), none]) (And.intro rfl (And.intro rfl (And.intro rfl (And.intro rfl (And.intro rfl trivial))))) ?_
  obtain ⟨e32, he33, hf⟩ := am_bind hf
  refine K_X1_pass_L133 hw 2000 ((0 : Int32), u24) _ he33 ?_
  obtain ⟨u34, rfl⟩ : ∃ z, z = e32 := ⟨_, rfl⟩
  show X l _ _ 0 0 false _ kC 0 0 221 [some (vR (20, 0, 0)), some (vR (1, w, 0)), some (vI a1), none, none, none] [] (en u34)
  refine r_iconst (v := 0) dX1_pass_221 rfl ?_
  refine r_istore (L' := [some (vR (20, 0, 0)), some (vR (1, w, 0)), some (vI a1), none, some (vI (0 : Int32)), none]) dX1_pass_222 (by decide) rfl ?_
  refine r_weak (L' := [some (vR (20, 0, 0)), some (vR (1, w, 0)), some (vI a1), none, some (vI (0 : Int32)), none]) (And.intro rfl (And.intro rfl (And.intro rfl (And.intro rfl trivial)))) ?_
  obtain ⟨e40, he41, hf⟩ := am_bind hf
  refine K_X1_pass_L224 hw 2000 ((0 : Int32), u34) _ he41 ?_
  obtain ⟨u42, rfl⟩ : ∃ z, z = e40 := ⟨_, rfl⟩
  show X l _ _ 0 0 false _ kC 0 0 293 [none, some (vR (1, w, 0)), some (vI a1), none, none, none] [] (en u42)
  refine r_aload_n (x := (1, w, 0)) dX1_pass_293 rfl ?_
  refine r_iload_n (x := a1) dX1_pass_294 rfl ?_
  refine e_puti fp_X1_80 dX1_pass_295 (kC_mem (s := 1) (by decide) hw (by decide)) rfl (lt_b rfl) rfl rfl rfl ?_
  refine r_aload_n (x := (1, w, 0)) dX1_pass_298 rfl ?_
  refine r_dup dX1_pass_299 rfl ?_
  refine e_geti_ (x := u42.1 (1, w, 0) 4) fw_X1_83 dX1_pass_300 (kC_mem (s := 1) (by decide) hw (by decide)) rfl (lt_b rfl) (by simp [pi, pl, pr, pci, pcl]) ?_
  refine r_iconst (v := 1) dX1_pass_303 rfl ?_
  refine r_iadd dX1_pass_304 ?_
  refine e_puti fp_X1_83 dX1_pass_305 (kC_mem (s := 1) (by decide) hw (by decide)) rfl (lt_b rfl) rfl rfl rfl ?_
  have hx := am_inj hf
  subst hx
  exact r_vret dX1_pass_308 rfl (le_b rfl) (le_b rfl)
/-! FireFromFire$Hours.passNights -/
theorem dX1_passNights_0 : decode cX1_passNights 0 = .ok (.aload_n 2, 1) := by decide +kernel
theorem dX1_passNights_1 : decode cX1_passNights 1 = .ok (.aload_n 1, 1) := by decide +kernel
theorem dX1_passNights_2 : decode cX1_passNights 2 = .ok (.invokevirtual 107, 3) := by decide +kernel
theorem dX1_passNights_5 : decode cX1_passNights 5 = .ok (.aload_n 0, 1) := by decide +kernel
theorem dX1_passNights_6 : decode cX1_passNights 6 = .ok (.invokevirtual 111, 3) := by decide +kernel
theorem dX1_passNights_9 : decode cX1_passNights 9 = .ok (.iconst 0, 1) := by decide +kernel
theorem dX1_passNights_10 : decode cX1_passNights 10 = .ok (.istore 4, 2) := by decide +kernel
theorem dX1_passNights_12 : decode cX1_passNights 12 = .ok (.iload 4, 2) := by decide +kernel
theorem dX1_passNights_14 : decode cX1_passNights 14 = .ok (.iload_n 3, 1) := by decide +kernel
theorem dX1_passNights_15 : decode cX1_passNights 15 = .ok (.if_icmp .ge 47, 3) := by decide +kernel
theorem dX1_passNights_18 : decode cX1_passNights 18 = .ok (.iload 4, 2) := by decide +kernel
theorem dX1_passNights_20 : decode cX1_passNights 20 = .ok (.bipush 12, 2) := by decide +kernel
theorem dX1_passNights_22 : decode cX1_passNights 22 = .ok (.if_icmp .ge 40, 3) := by decide +kernel
theorem dX1_passNights_25 : decode cX1_passNights 25 = .ok (.aload_n 0, 1) := by decide +kernel
theorem dX1_passNights_26 : decode cX1_passNights 26 = .ok (.aload_n 2, 1) := by decide +kernel
theorem dX1_passNights_27 : decode cX1_passNights 27 = .ok (.aload_n 1, 1) := by decide +kernel
theorem dX1_passNights_28 : decode cX1_passNights 28 = .ok (.getfield 114, 3) := by decide +kernel
theorem dX1_passNights_31 : decode cX1_passNights 31 = .ok (.iload 4, 2) := by decide +kernel
theorem dX1_passNights_33 : decode cX1_passNights 33 = .ok (.iaload, 1) := by decide +kernel
theorem dX1_passNights_34 : decode cX1_passNights 34 = .ok (.invokevirtual 117, 3) := by decide +kernel
theorem dX1_passNights_37 : decode cX1_passNights 37 = .ok (.aload_n 0, 1) := by decide +kernel
theorem dX1_passNights_38 : decode cX1_passNights 38 = .ok (.aload_n 2, 1) := by decide +kernel
theorem dX1_passNights_39 : decode cX1_passNights 39 = .ok (.aload_n 1, 1) := by decide +kernel
theorem dX1_passNights_40 : decode cX1_passNights 40 = .ok (.getfield 114, 3) := by decide +kernel
theorem dX1_passNights_43 : decode cX1_passNights 43 = .ok (.iload 4, 2) := by decide +kernel
theorem dX1_passNights_45 : decode cX1_passNights 45 = .ok (.iaload, 1) := by decide +kernel
theorem dX1_passNights_46 : decode cX1_passNights 46 = .ok (.aload_n 1, 1) := by decide +kernel
theorem dX1_passNights_47 : decode cX1_passNights 47 = .ok (.getfield 121, 3) := by decide +kernel
theorem dX1_passNights_50 : decode cX1_passNights 50 = .ok (.iload 4, 2) := by decide +kernel
theorem dX1_passNights_52 : decode cX1_passNights 52 = .ok (.iaload, 1) := by decide +kernel
theorem dX1_passNights_53 : decode cX1_passNights 53 = .ok (.invokevirtual 124, 3) := by decide +kernel
theorem dX1_passNights_56 : decode cX1_passNights 56 = .ok (.iinc 4 1, 3) := by decide +kernel
theorem dX1_passNights_59 : decode cX1_passNights 59 = .ok (.goto (-47), 3) := by decide +kernel
theorem dX1_passNights_62 : decode cX1_passNights 62 = .ok (.return_, 1) := by decide +kernel
def f_X1_passNights_L12 (n0 : Nat) (n1 : Nat) (c3 : Int32) : Int32 × PM → Option ((Int32 × PM) ⊕ (PM)) := fun (x4 , u) =>
  if c3 ≤ x4 then
    some (.inr (u))
  else
  if (12 : Int32) ≤ x4 then
    some (.inr (u))
  else
  if x4 < 0 ∨ 12 ≤ x4.toNatClampNeg then none else
  (f_X1_weigh n1 (u.1 (6, n0, 0) x4.toNatClampNeg) u).bind fun r6 =>
  (f_X1_pass n1 (r6.1 (6, n0, 0) x4.toNatClampNeg) (r6.1 (7, n0, 0) x4.toNatClampNeg) r6).bind fun r8 =>
  some (.inl (x4 + (1 : Int32), r8))
set_option maxHeartbeats 4000000 in
set_option maxRecDepth 20000 in
theorem K_X1_passNights_L12 {l : Launch} {T : Option AV × List Key × AM} {n0 : Nat} (hn0 : n0 < 4) {n1 : Nat} (hn1 : n1 < 4) {c3 : Int32} : ∀ (n : Nat) (s : Int32 × PM) (e0 : PM), am_loop (f_X1_passNights_L12 n0 n1 c3) n s = some e0 → (fun e : PM => X l mX1_passNights 7 0 0 false T kC 0 0 62 [none, none, none, none, none] [] (en e)) e0 → X l mX1_passNights 7 0 0 false T kC 0 0 12 [some (vR (20, 0, 0)), some (vR (1, n0, 0)), some (vR (1, n1, 0)), some (vI c3), some (vI s.1)] [] (en s.2) := by
  refine am_loop_of ?_
  intro s x hf k1 k2
  obtain ⟨x4 , u⟩ := s
  unfold f_X1_passNights_L12 at hf
  show X l mX1_passNights 7 0 0 false T kC 0 0 12 [some (vR (20, 0, 0)), some (vR (1, n0, 0)), some (vR (1, n1, 0)), some (vI c3), some (vI x4)] [] (en u)
  refine r_iload (x := x4) dX1_passNights_12 rfl ?_
  refine r_iload_n (x := c3) dX1_passNights_14 rfl ?_
  refine r_icmp_ge (tgt := 62) dX1_passNights_15 (by decide) (fun hc => ?_) (fun hc => ?_)
  · have hf := (am_if hf).1 hc
    refine r_weak (L' := [none, none, none, none, none]) trivial ?_
    exact k2 _ (am_inj hf).symm
  · have hf := (am_if hf).2 hc
    refine r_iload (x := x4) dX1_passNights_18 rfl ?_
    refine r_bipush (v := 12) dX1_passNights_20 rfl ?_
    refine r_icmp_ge (tgt := 62) dX1_passNights_22 (by decide) (fun hc => ?_) (fun hc => ?_)
    · have hf := (am_if hf).1 hc
      refine r_weak (L' := [none, none, none, none, none]) trivial ?_
      exact k2 _ (am_inj hf).symm
    · have hf := (am_if hf).2 hc
      refine r_aload_n (x := (20, 0, 0)) dX1_passNights_25 rfl ?_
      refine r_aload_n (x := (1, n1, 0)) dX1_passNights_26 rfl ?_
      refine r_aload_n (x := (1, n0, 0)) dX1_passNights_27 rfl ?_
      refine e_getr (z := some (6, n0, 0)) fw_X1_114 dX1_passNights_28 (kC_mem (s := 1) (by decide) hn0 (by decide)) rfl (lt_b rfl) rfl ?_
      refine r_iload (x := x4) dX1_passNights_31 rfl ?_
      obtain ⟨h5, hf⟩ := am_nchk hf
      refine e_iald (n := x4.toNatClampNeg) dX1_passNights_33 (kC_mem (s := 6) (by decide) hn0 (by decide)) rfl h5 rfl rfl ?_
      obtain ⟨r6, hr7, hf⟩ := am_bind hf
      refine r_callV (as := [vR (1, n1, 0), vI (u.1 (6, n0, 0) x4.toNatClampNeg)]) (st := []) (n := 2) mw_X1_117 mv_X1_weigh (C_X1_weigh (l := l) hn1 hr7) (by decide) dX1_passNights_34 (kC_mem (s := 20) (by decide) (by decide) (by decide)) rfl rfl rfl (le_b rfl) (le_b rfl) (le_b rfl) ?_
      show X l _ _ 0 0 false _ kC 0 0 37 [some (vR (20, 0, 0)), some (vR (1, n0, 0)), some (vR (1, n1, 0)), some (vI c3), some (vI x4)] [] (en r6)
      refine r_aload_n (x := (20, 0, 0)) dX1_passNights_37 rfl ?_
      refine r_aload_n (x := (1, n1, 0)) dX1_passNights_38 rfl ?_
      refine r_aload_n (x := (1, n0, 0)) dX1_passNights_39 rfl ?_
      refine e_getr (z := some (6, n0, 0)) fw_X1_114 dX1_passNights_40 (kC_mem (s := 1) (by decide) hn0 (by decide)) rfl (lt_b rfl) rfl ?_
      refine r_iload (x := x4) dX1_passNights_43 rfl ?_
      refine e_iald (n := x4.toNatClampNeg) dX1_passNights_45 (kC_mem (s := 6) (by decide) hn0 (by decide)) rfl h5 rfl rfl ?_
      refine r_aload_n (x := (1, n0, 0)) dX1_passNights_46 rfl ?_
      refine e_getr (z := some (7, n0, 0)) fw_X1_121 dX1_passNights_47 (kC_mem (s := 1) (by decide) hn0 (by decide)) rfl (lt_b rfl) rfl ?_
      refine r_iload (x := x4) dX1_passNights_50 rfl ?_
      refine e_iald (n := x4.toNatClampNeg) dX1_passNights_52 (kC_mem (s := 7) (by decide) hn0 (by decide)) rfl h5 rfl rfl ?_
      obtain ⟨r8, hr9, hf⟩ := am_bind hf
      refine r_callV (as := [vR (1, n1, 0), vI (r6.1 (6, n0, 0) x4.toNatClampNeg), vI (r6.1 (7, n0, 0) x4.toNatClampNeg)]) (st := []) (n := 3) mw_X1_124 mv_X1_pass (C_X1_pass (l := l) hn1 hr9) (by decide) dX1_passNights_53 (kC_mem (s := 20) (by decide) (by decide) (by decide)) rfl rfl rfl (le_b rfl) (le_b rfl) (le_b rfl) ?_
      show X l _ _ 0 0 false _ kC 0 0 56 [some (vR (20, 0, 0)), some (vR (1, n0, 0)), some (vR (1, n1, 0)), some (vI c3), some (vI x4)] [] (en r8)
      refine r_iinc (x := x4) (v := x4 + (1 : Int32)) (L' := [some (vR (20, 0, 0)), some (vR (1, n0, 0)), some (vR (1, n1, 0)), some (vI c3), some (vI (x4 + (1 : Int32)))]) dX1_passNights_56 rfl rfl (lt_b rfl) rfl ?_
      refine r_goto (tgt := 12) dX1_passNights_59 (by decide) ?_
      refine r_weak (L' := [some (vR (20, 0, 0)), some (vR (1, n0, 0)), some (vR (1, n1, 0)), some (vI c3), some (vI (x4 + (1 : Int32)))]) (And.intro rfl (And.intro rfl (And.intro rfl (And.intro rfl (And.intro rfl trivial))))) ?_
      exact k1 _ (am_inj hf).symm
def f_X1_passNights (w : Nat) (w2 : Nat) (a2 : Int32) (u : PM) : Option (PM) :=
  (f_X8_copy w2 w u).bind fun r1 =>
  (f_X1_begin r1).bind fun r3 =>
  (am_loop (f_X1_passNights_L12 w w2 a2) 2000 ((0 : Int32), r3)).bind fun u12 =>
  some u12
set_option maxHeartbeats 4000000 in
set_option maxRecDepth 20000 in
theorem C_X1_passNights {l : Launch} {w : Nat} (hw : w < 4) {w2 : Nat} (hw2 : w2 < 4) {a2 : Int32} {u : PM} {x : PM} (hf : f_X1_passNights w w2 a2 u = some x) : Ev l mX1_passNights 7 0 0 false [vR (20, 0, 0), vR (1, w, 0), vR (1, w2, 0), vI a2] kC (en u) (none, kC, en x) := by
  refine Ev_of (by decide +kernel) (le_b rfl) ?_
  unfold f_X1_passNights at hf
  show X l mX1_passNights 7 0 0 false _ kC 0 0 0 [some (vR (20, 0, 0)), some (vR (1, w, 0)), some (vR (1, w2, 0)), some (vI a2), none] [] (en u)
  refine r_aload_n (x := (1, w2, 0)) dX1_passNights_0 rfl ?_
  refine r_aload_n (x := (1, w, 0)) dX1_passNights_1 rfl ?_
  obtain ⟨r1, hr2, hf⟩ := am_bind hf
  refine r_callV (as := [vR (1, w, 0)]) (st := []) (n := 1) mw_X1_107 mv_X8_copy (C_X8_copy (l := l) hw2 hw hr2) (by decide) dX1_passNights_2 (kC_mem (s := 1) (by decide) hw2 (by decide)) rfl rfl rfl (le_b rfl) (le_b rfl) (le_b rfl) ?_
  show X l _ _ 0 0 false _ kC 0 0 5 [some (vR (20, 0, 0)), some (vR (1, w, 0)), some (vR (1, w2, 0)), some (vI a2), none] [] (en r1)
  refine r_aload_n (x := (20, 0, 0)) dX1_passNights_5 rfl ?_
  obtain ⟨r3, hr4, hf⟩ := am_bind hf
  refine r_callV (as := []) (st := []) (n := 0) mw_X1_111 mv_X1_begin (C_X1_begin (l := l) hr4) (by decide) dX1_passNights_6 (kC_mem (s := 20) (by decide) (by decide) (by decide)) rfl rfl rfl (le_b rfl) (le_b rfl) (le_b rfl) ?_
  show X l _ _ 0 0 false _ kC 0 0 9 [some (vR (20, 0, 0)), some (vR (1, w, 0)), some (vR (1, w2, 0)), some (vI a2), none] [] (en r3)
  refine r_iconst (v := 0) dX1_passNights_9 rfl ?_
  refine r_istore (L' := [some (vR (20, 0, 0)), some (vR (1, w, 0)), some (vR (1, w2, 0)), some (vI a2), some (vI (0 : Int32))]) dX1_passNights_10 (by decide) rfl ?_
  refine r_weak (L' := [some (vR (20, 0, 0)), some (vR (1, w, 0)), some (vR (1, w2, 0)), some (vI a2), some (vI (0 : Int32))]) (And.intro rfl (And.intro rfl (And.intro rfl (And.intro rfl (And.intro rfl trivial))))) ?_
  obtain ⟨e10, he11, hf⟩ := am_bind hf
  refine K_X1_passNights_L12 hw hw2 2000 ((0 : Int32), r3) _ he11 ?_
  obtain ⟨u12, rfl⟩ : ∃ z, z = e10 := ⟨_, rfl⟩
  show X l _ _ 0 0 false _ kC 0 0 62 [none, none, none, none, none] [] (en u12)
  have hx := am_inj hf
  subst hx
  exact r_vret dX1_passNights_62 rfl (le_b rfl) (le_b rfl)
/-! FireFromFire$Hours.gain -/
theorem dX1_gain_0 : decode cX1_gain 0 = .ok (.iconst 0, 1) := by decide +kernel
theorem dX1_gain_1 : decode cX1_gain 1 = .ok (.istore 5, 2) := by decide +kernel
theorem dX1_gain_3 : decode cX1_gain 3 = .ok (.iconst 0, 1) := by decide +kernel
theorem dX1_gain_4 : decode cX1_gain 4 = .ok (.istore 6, 2) := by decide +kernel
theorem dX1_gain_6 : decode cX1_gain 6 = .ok (.iload 6, 2) := by decide +kernel
theorem dX1_gain_8 : decode cX1_gain 8 = .ok (.iconst 2, 1) := by decide +kernel
theorem dX1_gain_9 : decode cX1_gain 9 = .ok (.if_icmp .ge 88, 3) := by decide +kernel
theorem dX1_gain_12 : decode cX1_gain 12 = .ok (.aload_n 2, 1) := by decide +kernel
theorem dX1_gain_13 : decode cX1_gain 13 = .ok (.aload_n 1, 1) := by decide +kernel
theorem dX1_gain_14 : decode cX1_gain 14 = .ok (.invokevirtual 107, 3) := by decide +kernel
theorem dX1_gain_17 : decode cX1_gain 17 = .ok (.aload_n 2, 1) := by decide +kernel
theorem dX1_gain_18 : decode cX1_gain 18 = .ok (.iload_n 3, 1) := by decide +kernel
theorem dX1_gain_19 : decode cX1_gain 19 = .ok (.invokevirtual 95, 3) := by decide +kernel
theorem dX1_gain_22 : decode cX1_gain 22 = .ok (.astore 7, 2) := by decide +kernel
theorem dX1_gain_24 : decode cX1_gain 24 = .ok (.iload 6, 2) := by decide +kernel
theorem dX1_gain_26 : decode cX1_gain 26 = .ok (.iconst 1, 1) := by decide +kernel
theorem dX1_gain_27 : decode cX1_gain 27 = .ok (.if_icmp .ne 14, 3) := by decide +kernel
theorem dX1_gain_30 : decode cX1_gain 30 = .ok (.aload 7, 2) := by decide +kernel
theorem dX1_gain_32 : decode cX1_gain 32 = .ok (.ifnull 9, 3) := by decide +kernel
theorem dX1_gain_35 : decode cX1_gain 35 = .ok (.aload 7, 2) := by decide +kernel
theorem dX1_gain_37 : decode cX1_gain 37 = .ok (.iconst 1, 1) := by decide +kernel
theorem dX1_gain_38 : decode cX1_gain 38 = .ok (.putfield 44, 3) := by decide +kernel
theorem dX1_gain_41 : decode cX1_gain 41 = .ok (.aload_n 0, 1) := by decide +kernel
theorem dX1_gain_42 : decode cX1_gain 42 = .ok (.invokevirtual 111, 3) := by decide +kernel
theorem dX1_gain_45 : decode cX1_gain 45 = .ok (.iconst 0, 1) := by decide +kernel
theorem dX1_gain_46 : decode cX1_gain 46 = .ok (.istore 8, 2) := by decide +kernel
theorem dX1_gain_48 : decode cX1_gain 48 = .ok (.iload 8, 2) := by decide +kernel
theorem dX1_gain_50 : decode cX1_gain 50 = .ok (.iload 4, 2) := by decide +kernel
theorem dX1_gain_52 : decode cX1_gain 52 = .ok (.if_icmp .ge 28, 3) := by decide +kernel
theorem dX1_gain_55 : decode cX1_gain 55 = .ok (.aload_n 0, 1) := by decide +kernel
theorem dX1_gain_56 : decode cX1_gain 56 = .ok (.aload_n 2, 1) := by decide +kernel
theorem dX1_gain_57 : decode cX1_gain 57 = .ok (.aload_n 1, 1) := by decide +kernel
theorem dX1_gain_58 : decode cX1_gain 58 = .ok (.getfield 80, 3) := by decide +kernel
theorem dX1_gain_61 : decode cX1_gain 61 = .ok (.invokevirtual 117, 3) := by decide +kernel
theorem dX1_gain_64 : decode cX1_gain 64 = .ok (.aload_n 0, 1) := by decide +kernel
theorem dX1_gain_65 : decode cX1_gain 65 = .ok (.aload_n 2, 1) := by decide +kernel
theorem dX1_gain_66 : decode cX1_gain 66 = .ok (.aload_n 1, 1) := by decide +kernel
theorem dX1_gain_67 : decode cX1_gain 67 = .ok (.getfield 80, 3) := by decide +kernel
theorem dX1_gain_70 : decode cX1_gain 70 = .ok (.iconst 0, 1) := by decide +kernel
theorem dX1_gain_71 : decode cX1_gain 71 = .ok (.invokevirtual 124, 3) := by decide +kernel
theorem dX1_gain_74 : decode cX1_gain 74 = .ok (.iinc 8 1, 3) := by decide +kernel
theorem dX1_gain_77 : decode cX1_gain 77 = .ok (.goto (-29), 3) := by decide +kernel
theorem dX1_gain_80 : decode cX1_gain 80 = .ok (.iload 6, 2) := by decide +kernel
theorem dX1_gain_82 : decode cX1_gain 82 = .ok (.ifCond .ne 9, 3) := by decide +kernel
theorem dX1_gain_85 : decode cX1_gain 85 = .ok (.aload_n 0, 1) := by decide +kernel
theorem dX1_gain_86 : decode cX1_gain 86 = .ok (.getfield 9, 3) := by decide +kernel
theorem dX1_gain_89 : decode cX1_gain 89 = .ok (.istore 5, 2) := by decide +kernel
theorem dX1_gain_91 : decode cX1_gain 91 = .ok (.iinc 6 1, 3) := by decide +kernel
theorem dX1_gain_94 : decode cX1_gain 94 = .ok (.goto (-88), 3) := by decide +kernel
theorem dX1_gain_97 : decode cX1_gain 97 = .ok (.aload_n 0, 1) := by decide +kernel
theorem dX1_gain_98 : decode cX1_gain 98 = .ok (.getfield 9, 3) := by decide +kernel
theorem dX1_gain_101 : decode cX1_gain 101 = .ok (.iload 5, 2) := by decide +kernel
theorem dX1_gain_103 : decode cX1_gain 103 = .ok (.isub, 1) := by decide +kernel
theorem dX1_gain_104 : decode cX1_gain 104 = .ok (.ireturn, 1) := by decide +kernel
def f_X1_gain_L48 (n0 : Nat) (n1 : Nat) (c3 : Int32) (c4 : Int32) (c5 : Int32) (c6 : Int32) : Int32 × PM → Option ((Int32 × PM) ⊕ (PM)) := fun (x8 , u) =>
  if c4 ≤ x8 then
    some (.inr (u))
  else
  (f_X1_weigh n1 (u.1 (1, n0, 0) 3) u).bind fun r9 =>
  (f_X1_pass n1 (r9.1 (1, n0, 0) 3) (0 : Int32) r9).bind fun r11 =>
  some (.inl (x8 + (1 : Int32), r11))
set_option maxHeartbeats 4000000 in
set_option maxRecDepth 20000 in
theorem K_X1_gain_L48 {l : Launch} {T : Option AV × List Key × AM} {n0 : Nat} (hn0 : n0 < 4) {n1 : Nat} (hn1 : n1 < 4) {c3 : Int32} {c4 : Int32} {c5 : Int32} {c6 : Int32} : ∀ (n : Nat) (s : Int32 × PM) (e0 : PM), am_loop (f_X1_gain_L48 n0 n1 c3 c4 c5 c6) n s = some e0 → (fun e : PM => X l mX1_gain 7 0 0 false T kC 0 0 80 [some (vR (20, 0, 0)), some (vR (1, n0, 0)), some (vR (1, n1, 0)), some (vI c3), some (vI c4), some (vI c5), some (vI c6), none, none] [] (en e)) e0 → X l mX1_gain 7 0 0 false T kC 0 0 48 [some (vR (20, 0, 0)), some (vR (1, n0, 0)), some (vR (1, n1, 0)), some (vI c3), some (vI c4), some (vI c5), some (vI c6), none, some (vI s.1)] [] (en s.2) := by
  refine am_loop_of ?_
  intro s x hf k1 k2
  obtain ⟨x8 , u⟩ := s
  unfold f_X1_gain_L48 at hf
  show X l mX1_gain 7 0 0 false T kC 0 0 48 [some (vR (20, 0, 0)), some (vR (1, n0, 0)), some (vR (1, n1, 0)), some (vI c3), some (vI c4), some (vI c5), some (vI c6), none, some (vI x8)] [] (en u)
  refine r_iload (x := x8) dX1_gain_48 rfl ?_
  refine r_iload (x := c4) dX1_gain_50 rfl ?_
  refine r_icmp_ge (tgt := 80) dX1_gain_52 (by decide) (fun hc => ?_) (fun hc => ?_)
  · have hf := (am_if hf).1 hc
    refine r_weak (L' := [some (vR (20, 0, 0)), some (vR (1, n0, 0)), some (vR (1, n1, 0)), some (vI c3), some (vI c4), some (vI c5), some (vI c6), none, none]) (And.intro rfl (And.intro rfl (And.intro rfl (And.intro rfl (And.intro rfl (And.intro rfl (And.intro rfl trivial))))))) ?_
    exact k2 _ (am_inj hf).symm
  · have hf := (am_if hf).2 hc
    refine r_aload_n (x := (20, 0, 0)) dX1_gain_55 rfl ?_
    refine r_aload_n (x := (1, n1, 0)) dX1_gain_56 rfl ?_
    refine r_aload_n (x := (1, n0, 0)) dX1_gain_57 rfl ?_
    refine e_geti fw_X1_80 dX1_gain_58 (kC_mem (s := 1) (by decide) hn0 (by decide)) rfl (lt_b rfl) ?_
    obtain ⟨r9, hr10, hf⟩ := am_bind hf
    refine r_callV (as := [vR (1, n1, 0), vI (u.1 (1, n0, 0) 3)]) (st := []) (n := 2) mw_X1_117 mv_X1_weigh (C_X1_weigh (l := l) hn1 hr10) (by decide) dX1_gain_61 (kC_mem (s := 20) (by decide) (by decide) (by decide)) rfl rfl rfl (le_b rfl) (le_b rfl) (le_b rfl) ?_
    show X l _ _ 0 0 false _ kC 0 0 64 [some (vR (20, 0, 0)), some (vR (1, n0, 0)), some (vR (1, n1, 0)), some (vI c3), some (vI c4), some (vI c5), some (vI c6), none, some (vI x8)] [] (en r9)
    refine r_aload_n (x := (20, 0, 0)) dX1_gain_64 rfl ?_
    refine r_aload_n (x := (1, n1, 0)) dX1_gain_65 rfl ?_
    refine r_aload_n (x := (1, n0, 0)) dX1_gain_66 rfl ?_
    refine e_geti fw_X1_80 dX1_gain_67 (kC_mem (s := 1) (by decide) hn0 (by decide)) rfl (lt_b rfl) ?_
    refine r_iconst (v := 0) dX1_gain_70 rfl ?_
    obtain ⟨r11, hr12, hf⟩ := am_bind hf
    refine r_callV (as := [vR (1, n1, 0), vI (r9.1 (1, n0, 0) 3), vI (0 : Int32)]) (st := []) (n := 3) mw_X1_124 mv_X1_pass (C_X1_pass (l := l) hn1 hr12) (by decide) dX1_gain_71 (kC_mem (s := 20) (by decide) (by decide) (by decide)) rfl rfl rfl (le_b rfl) (le_b rfl) (le_b rfl) ?_
    show X l _ _ 0 0 false _ kC 0 0 74 [some (vR (20, 0, 0)), some (vR (1, n0, 0)), some (vR (1, n1, 0)), some (vI c3), some (vI c4), some (vI c5), some (vI c6), none, some (vI x8)] [] (en r11)
    refine r_iinc (x := x8) (v := x8 + (1 : Int32)) (L' := [some (vR (20, 0, 0)), some (vR (1, n0, 0)), some (vR (1, n1, 0)), some (vI c3), some (vI c4), some (vI c5), some (vI c6), none, some (vI (x8 + (1 : Int32)))]) dX1_gain_74 rfl rfl (lt_b rfl) rfl ?_
    refine r_goto (tgt := 48) dX1_gain_77 (by decide) ?_
    refine r_weak (L' := [some (vR (20, 0, 0)), some (vR (1, n0, 0)), some (vR (1, n1, 0)), some (vI c3), some (vI c4), some (vI c5), some (vI c6), none, some (vI (x8 + (1 : Int32)))]) (And.intro rfl (And.intro rfl (And.intro rfl (And.intro rfl (And.intro rfl (And.intro rfl (And.intro rfl (And.intro rfl trivial)))))))) ?_
    exact k1 _ (am_inj hf).symm
def f_X1_gain_L6 (n0 : Nat) (n1 : Nat) (c3 : Int32) (c4 : Int32) : Int32 × Int32 × PM → Option ((Int32 × Int32 × PM) ⊕ (Int32 × PM)) := fun (x5 , x6 , u) =>
  if (2 : Int32) ≤ x6 then
    some (.inr (x5, u))
  else
  (f_X8_copy n1 n0 u).bind fun r1 =>
  (f_X8_find n1 c3 r1).bind fun r3 =>
  match r3 with
  | none =>
    if x6 = (1 : Int32) then
      (f_X1_begin r1).bind fun r16 =>
      (am_loop (f_X1_gain_L48 n0 n1 c3 c4 x5 x6) 2000 ((0 : Int32), r16)).bind fun u20 =>
      if x6 = 0 then
        some (.inl (u20.1 (20, 0, 0) 0, x6 + (1 : Int32), u20))
      else
      some (.inl (x5, x6 + (1 : Int32), u20))
    else
    (f_X1_begin r1).bind fun r7 =>
    (am_loop (f_X1_gain_L48 n0 n1 c3 c4 x5 x6) 2000 ((0 : Int32), r7)).bind fun u15 =>
    if x6 = 0 then
      some (.inl (u15.1 (20, 0, 0) 0, x6 + (1 : Int32), u15))
    else
    some (.inl (x5, x6 + (1 : Int32), u15))
  | some p5 =>
    if p5 < 6 then
      if x6 = (1 : Int32) then
        (f_X1_begin (pi r1 (3, n1, p5) 1 (1 : Int32))).bind fun r26 =>
        (am_loop (f_X1_gain_L48 n0 n1 c3 c4 x5 x6) 2000 ((0 : Int32), r26)).bind fun u30 =>
        if x6 = 0 then
          some (.inl (u30.1 (20, 0, 0) 0, x6 + (1 : Int32), u30))
        else
        some (.inl (x5, x6 + (1 : Int32), u30))
      else
      (f_X1_begin r1).bind fun r21 =>
      (am_loop (f_X1_gain_L48 n0 n1 c3 c4 x5 x6) 2000 ((0 : Int32), r21)).bind fun u25 =>
      if x6 = 0 then
        some (.inl (u25.1 (20, 0, 0) 0, x6 + (1 : Int32), u25))
      else
      some (.inl (x5, x6 + (1 : Int32), u25))
    else none
set_option maxHeartbeats 4000000 in
set_option maxRecDepth 20000 in
theorem K_X1_gain_L6 {l : Launch} {T : Option AV × List Key × AM} {n0 : Nat} (hn0 : n0 < 4) {n1 : Nat} (hn1 : n1 < 4) {c3 : Int32} {c4 : Int32} : ∀ (n : Nat) (s : Int32 × Int32 × PM) (e0 : Int32 × PM), am_loop (f_X1_gain_L6 n0 n1 c3 c4) n s = some e0 → (fun e : Int32 × PM => X l mX1_gain 7 0 0 false T kC 0 0 97 [some (vR (20, 0, 0)), none, none, none, none, some (vI e.1), none, none, none] [] (en e.2)) e0 → X l mX1_gain 7 0 0 false T kC 0 0 6 [some (vR (20, 0, 0)), some (vR (1, n0, 0)), some (vR (1, n1, 0)), some (vI c3), some (vI c4), some (vI s.1), some (vI s.2.1), none, none] [] (en s.2.2) := by
  refine am_loop_of ?_
  intro s x hf k1 k2
  obtain ⟨x5 , x6 , u⟩ := s
  unfold f_X1_gain_L6 at hf
  show X l mX1_gain 7 0 0 false T kC 0 0 6 [some (vR (20, 0, 0)), some (vR (1, n0, 0)), some (vR (1, n1, 0)), some (vI c3), some (vI c4), some (vI x5), some (vI x6), none, none] [] (en u)
  refine r_iload (x := x6) dX1_gain_6 rfl ?_
  refine r_iconst (v := 2) dX1_gain_8 rfl ?_
  refine r_icmp_ge (tgt := 97) dX1_gain_9 (by decide) (fun hc => ?_) (fun hc => ?_)
  · have hf := (am_if hf).1 hc
    refine r_weak (L' := [some (vR (20, 0, 0)), none, none, none, none, some (vI x5), none, none, none]) (And.intro rfl (And.intro rfl trivial)) ?_
    exact k2 _ (am_inj hf).symm
  · have hf := (am_if hf).2 hc
    refine r_aload_n (x := (1, n1, 0)) dX1_gain_12 rfl ?_
    refine r_aload_n (x := (1, n0, 0)) dX1_gain_13 rfl ?_
    obtain ⟨r1, hr2, hf⟩ := am_bind hf
    refine r_callV (as := [vR (1, n0, 0)]) (st := []) (n := 1) mw_X1_107 mv_X8_copy (C_X8_copy (l := l) hn1 hn0 hr2) (by decide) dX1_gain_14 (kC_mem (s := 1) (by decide) hn1 (by decide)) rfl rfl rfl (le_b rfl) (le_b rfl) (le_b rfl) ?_
    show X l _ _ 0 0 false _ kC 0 0 17 [some (vR (20, 0, 0)), some (vR (1, n0, 0)), some (vR (1, n1, 0)), some (vI c3), some (vI c4), some (vI x5), some (vI x6), none, none] [] (en r1)
    refine r_aload_n (x := (1, n1, 0)) dX1_gain_17 rfl ?_
    refine r_iload_n (x := c3) dX1_gain_18 rfl ?_
    obtain ⟨r3, hr4, hf⟩ := am_bind hf
    refine r_callV (as := [vI c3]) (st := []) (n := 1) mw_X1_95 mv_X8_find (C_X8_find (l := l) hn1 hr4) (by decide) dX1_gain_19 (kC_mem (s := 1) (by decide) hn1 (by decide)) rfl rfl rfl (le_b rfl) (le_b rfl) (le_b rfl) ?_
    cases r3 with
    | none =>
      show X l _ _ 0 0 false _ kC 0 0 22 [some (vR (20, 0, 0)), some (vR (1, n0, 0)), some (vR (1, n1, 0)), some (vI c3), some (vI c4), some (vI x5), some (vI x6), none, none] [vN] (en r1)
      refine r_astoreN (L' := [some (vR (20, 0, 0)), some (vR (1, n0, 0)), some (vR (1, n1, 0)), some (vI c3), some (vI c4), some (vI x5), some (vI x6), some (vN), none]) dX1_gain_22 (by decide) rfl ?_
      refine r_iload (x := x6) dX1_gain_24 rfl ?_
      refine r_iconst (v := 1) dX1_gain_26 rfl ?_
      refine r_icmp_ne (tgt := 41) dX1_gain_27 (by decide) (fun hc => ?_) (fun hc => ?_)
      · have hf := (am_if hf).2 hc
        refine r_aload_n (x := (20, 0, 0)) dX1_gain_41 rfl ?_
        obtain ⟨r7, hr8, hf⟩ := am_bind hf
        refine r_callV (as := []) (st := []) (n := 0) mw_X1_111 mv_X1_begin (C_X1_begin (l := l) hr8) (by decide) dX1_gain_42 (kC_mem (s := 20) (by decide) (by decide) (by decide)) rfl rfl rfl (le_b rfl) (le_b rfl) (le_b rfl) ?_
        show X l _ _ 0 0 false _ kC 0 0 45 [some (vR (20, 0, 0)), some (vR (1, n0, 0)), some (vR (1, n1, 0)), some (vI c3), some (vI c4), some (vI x5), some (vI x6), some (vN), none] [] (en r7)
        refine r_iconst (v := 0) dX1_gain_45 rfl ?_
        refine r_istore (L' := [some (vR (20, 0, 0)), some (vR (1, n0, 0)), some (vR (1, n1, 0)), some (vI c3), some (vI c4), some (vI x5), some (vI x6), some (vN), some (vI (0 : Int32))]) dX1_gain_46 (by decide) rfl ?_
        refine r_weak (L' := [some (vR (20, 0, 0)), some (vR (1, n0, 0)), some (vR (1, n1, 0)), some (vI c3), some (vI c4), some (vI x5), some (vI x6), none, some (vI (0 : Int32))]) (And.intro rfl (And.intro rfl (And.intro rfl (And.intro rfl (And.intro rfl (And.intro rfl (And.intro rfl (And.intro rfl trivial)))))))) ?_
        obtain ⟨e13, he14, hf⟩ := am_bind hf
        refine K_X1_gain_L48 hn0 hn1 2000 ((0 : Int32), r7) _ he14 ?_
        obtain ⟨u15, rfl⟩ : ∃ z, z = e13 := ⟨_, rfl⟩
        show X l _ _ 0 0 false _ kC 0 0 80 [some (vR (20, 0, 0)), some (vR (1, n0, 0)), some (vR (1, n1, 0)), some (vI c3), some (vI c4), some (vI x5), some (vI x6), none, none] [] (en u15)
        refine r_iload (x := x6) dX1_gain_80 rfl ?_
        refine r_if_ne (tgt := 91) dX1_gain_82 (by decide) (fun hc => ?_) (fun hc => ?_)
        · have hf := (am_if hf).2 hc
          refine r_iinc (x := x6) (v := x6 + (1 : Int32)) (L' := [some (vR (20, 0, 0)), some (vR (1, n0, 0)), some (vR (1, n1, 0)), some (vI c3), some (vI c4), some (vI x5), some (vI (x6 + (1 : Int32))), none, none]) dX1_gain_91 rfl rfl (lt_b rfl) rfl ?_
          refine r_goto (tgt := 6) dX1_gain_94 (by decide) ?_
          refine r_weak (L' := [some (vR (20, 0, 0)), some (vR (1, n0, 0)), some (vR (1, n1, 0)), some (vI c3), some (vI c4), some (vI x5), some (vI (x6 + (1 : Int32))), none, none]) (And.intro rfl (And.intro rfl (And.intro rfl (And.intro rfl (And.intro rfl (And.intro rfl (And.intro rfl trivial))))))) ?_
          exact k1 _ (am_inj hf).symm
        · have hf := (am_if hf).1 hc
          refine r_aload_n (x := (20, 0, 0)) dX1_gain_85 rfl ?_
          refine e_geti fw_X1_9 dX1_gain_86 (kC_mem (s := 20) (by decide) (by decide) (by decide)) rfl (lt_b rfl) ?_
          refine r_istore (L' := [some (vR (20, 0, 0)), some (vR (1, n0, 0)), some (vR (1, n1, 0)), some (vI c3), some (vI c4), some (vI (u15.1 (20, 0, 0) 0)), some (vI x6), none, none]) dX1_gain_89 (by decide) rfl ?_
          refine r_iinc (x := x6) (v := x6 + (1 : Int32)) (L' := [some (vR (20, 0, 0)), some (vR (1, n0, 0)), some (vR (1, n1, 0)), some (vI c3), some (vI c4), some (vI (u15.1 (20, 0, 0) 0)), some (vI (x6 + (1 : Int32))), none, none]) dX1_gain_91 rfl rfl (lt_b rfl) rfl ?_
          refine r_goto (tgt := 6) dX1_gain_94 (by decide) ?_
          refine r_weak (L' := [some (vR (20, 0, 0)), some (vR (1, n0, 0)), some (vR (1, n1, 0)), some (vI c3), some (vI c4), some (vI (u15.1 (20, 0, 0) 0)), some (vI (x6 + (1 : Int32))), none, none]) (And.intro rfl (And.intro rfl (And.intro rfl (And.intro rfl (And.intro rfl (And.intro rfl (And.intro rfl trivial))))))) ?_
          exact k1 _ (am_inj hf).symm
      · have hf := (am_if hf).1 hc
        refine r_aloadN dX1_gain_30 rfl ?_
        refine r_ifnullN (tgt := 41) dX1_gain_32 (by decide) ?_
        refine r_aload_n (x := (20, 0, 0)) dX1_gain_41 rfl ?_
        obtain ⟨r16, hr17, hf⟩ := am_bind hf
        refine r_callV (as := []) (st := []) (n := 0) mw_X1_111 mv_X1_begin (C_X1_begin (l := l) hr17) (by decide) dX1_gain_42 (kC_mem (s := 20) (by decide) (by decide) (by decide)) rfl rfl rfl (le_b rfl) (le_b rfl) (le_b rfl) ?_
        show X l _ _ 0 0 false _ kC 0 0 45 [some (vR (20, 0, 0)), some (vR (1, n0, 0)), some (vR (1, n1, 0)), some (vI c3), some (vI c4), some (vI x5), some (vI x6), some (vN), none] [] (en r16)
        refine r_iconst (v := 0) dX1_gain_45 rfl ?_
        refine r_istore (L' := [some (vR (20, 0, 0)), some (vR (1, n0, 0)), some (vR (1, n1, 0)), some (vI c3), some (vI c4), some (vI x5), some (vI x6), some (vN), some (vI (0 : Int32))]) dX1_gain_46 (by decide) rfl ?_
        refine r_weak (L' := [some (vR (20, 0, 0)), some (vR (1, n0, 0)), some (vR (1, n1, 0)), some (vI c3), some (vI c4), some (vI x5), some (vI x6), none, some (vI (0 : Int32))]) (And.intro rfl (And.intro rfl (And.intro rfl (And.intro rfl (And.intro rfl (And.intro rfl (And.intro rfl (And.intro rfl trivial)))))))) ?_
        obtain ⟨e18, he19, hf⟩ := am_bind hf
        refine K_X1_gain_L48 hn0 hn1 2000 ((0 : Int32), r16) _ he19 ?_
        obtain ⟨u20, rfl⟩ : ∃ z, z = e18 := ⟨_, rfl⟩
        show X l _ _ 0 0 false _ kC 0 0 80 [some (vR (20, 0, 0)), some (vR (1, n0, 0)), some (vR (1, n1, 0)), some (vI c3), some (vI c4), some (vI x5), some (vI x6), none, none] [] (en u20)
        refine r_iload (x := x6) dX1_gain_80 rfl ?_
        refine r_if_ne (tgt := 91) dX1_gain_82 (by decide) (fun hc => ?_) (fun hc => ?_)
        · have hf := (am_if hf).2 hc
          refine r_iinc (x := x6) (v := x6 + (1 : Int32)) (L' := [some (vR (20, 0, 0)), some (vR (1, n0, 0)), some (vR (1, n1, 0)), some (vI c3), some (vI c4), some (vI x5), some (vI (x6 + (1 : Int32))), none, none]) dX1_gain_91 rfl rfl (lt_b rfl) rfl ?_
          refine r_goto (tgt := 6) dX1_gain_94 (by decide) ?_
          refine r_weak (L' := [some (vR (20, 0, 0)), some (vR (1, n0, 0)), some (vR (1, n1, 0)), some (vI c3), some (vI c4), some (vI x5), some (vI (x6 + (1 : Int32))), none, none]) (And.intro rfl (And.intro rfl (And.intro rfl (And.intro rfl (And.intro rfl (And.intro rfl (And.intro rfl trivial))))))) ?_
          exact k1 _ (am_inj hf).symm
        · have hf := (am_if hf).1 hc
          refine r_aload_n (x := (20, 0, 0)) dX1_gain_85 rfl ?_
          refine e_geti fw_X1_9 dX1_gain_86 (kC_mem (s := 20) (by decide) (by decide) (by decide)) rfl (lt_b rfl) ?_
          refine r_istore (L' := [some (vR (20, 0, 0)), some (vR (1, n0, 0)), some (vR (1, n1, 0)), some (vI c3), some (vI c4), some (vI (u20.1 (20, 0, 0) 0)), some (vI x6), none, none]) dX1_gain_89 (by decide) rfl ?_
          refine r_iinc (x := x6) (v := x6 + (1 : Int32)) (L' := [some (vR (20, 0, 0)), some (vR (1, n0, 0)), some (vR (1, n1, 0)), some (vI c3), some (vI c4), some (vI (u20.1 (20, 0, 0) 0)), some (vI (x6 + (1 : Int32))), none, none]) dX1_gain_91 rfl rfl (lt_b rfl) rfl ?_
          refine r_goto (tgt := 6) dX1_gain_94 (by decide) ?_
          refine r_weak (L' := [some (vR (20, 0, 0)), some (vR (1, n0, 0)), some (vR (1, n1, 0)), some (vI c3), some (vI c4), some (vI (u20.1 (20, 0, 0) 0)), some (vI (x6 + (1 : Int32))), none, none]) (And.intro rfl (And.intro rfl (And.intro rfl (And.intro rfl (And.intro rfl (And.intro rfl (And.intro rfl trivial))))))) ?_
          exact k1 _ (am_inj hf).symm
    | some p5 =>
      obtain ⟨h6, hf⟩ := am_chk hf
      show X l _ _ 0 0 false _ kC 0 0 22 [some (vR (20, 0, 0)), some (vR (1, n0, 0)), some (vR (1, n1, 0)), some (vI c3), some (vI c4), some (vI x5), some (vI x6), none, none] [vR (3, n1, p5)] (en r1)
      refine r_astore (L' := [some (vR (20, 0, 0)), some (vR (1, n0, 0)), some (vR (1, n1, 0)), some (vI c3), some (vI c4), some (vI x5), some (vI x6), some (vR (3, n1, p5)), none]) dX1_gain_22 (by decide) rfl ?_
      refine r_iload (x := x6) dX1_gain_24 rfl ?_
      refine r_iconst (v := 1) dX1_gain_26 rfl ?_
      refine r_icmp_ne (tgt := 41) dX1_gain_27 (by decide) (fun hc => ?_) (fun hc => ?_)
      · have hf := (am_if hf).2 hc
        refine r_aload_n (x := (20, 0, 0)) dX1_gain_41 rfl ?_
        obtain ⟨r21, hr22, hf⟩ := am_bind hf
        refine r_callV (as := []) (st := []) (n := 0) mw_X1_111 mv_X1_begin (C_X1_begin (l := l) hr22) (by decide) dX1_gain_42 (kC_mem (s := 20) (by decide) (by decide) (by decide)) rfl rfl rfl (le_b rfl) (le_b rfl) (le_b rfl) ?_
        show X l _ _ 0 0 false _ kC 0 0 45 [some (vR (20, 0, 0)), some (vR (1, n0, 0)), some (vR (1, n1, 0)), some (vI c3), some (vI c4), some (vI x5), some (vI x6), some (vR (3, n1, p5)), none] [] (en r21)
        refine r_iconst (v := 0) dX1_gain_45 rfl ?_
        refine r_istore (L' := [some (vR (20, 0, 0)), some (vR (1, n0, 0)), some (vR (1, n1, 0)), some (vI c3), some (vI c4), some (vI x5), some (vI x6), some (vR (3, n1, p5)), some (vI (0 : Int32))]) dX1_gain_46 (by decide) rfl ?_
        refine r_weak (L' := [some (vR (20, 0, 0)), some (vR (1, n0, 0)), some (vR (1, n1, 0)), some (vI c3), some (vI c4), some (vI x5), some (vI x6), none, some (vI (0 : Int32))]) (And.intro rfl (And.intro rfl (And.intro rfl (And.intro rfl (And.intro rfl (And.intro rfl (And.intro rfl (And.intro rfl trivial)))))))) ?_
        obtain ⟨e23, he24, hf⟩ := am_bind hf
        refine K_X1_gain_L48 hn0 hn1 2000 ((0 : Int32), r21) _ he24 ?_
        obtain ⟨u25, rfl⟩ : ∃ z, z = e23 := ⟨_, rfl⟩
        show X l _ _ 0 0 false _ kC 0 0 80 [some (vR (20, 0, 0)), some (vR (1, n0, 0)), some (vR (1, n1, 0)), some (vI c3), some (vI c4), some (vI x5), some (vI x6), none, none] [] (en u25)
        refine r_iload (x := x6) dX1_gain_80 rfl ?_
        refine r_if_ne (tgt := 91) dX1_gain_82 (by decide) (fun hc => ?_) (fun hc => ?_)
        · have hf := (am_if hf).2 hc
          refine r_iinc (x := x6) (v := x6 + (1 : Int32)) (L' := [some (vR (20, 0, 0)), some (vR (1, n0, 0)), some (vR (1, n1, 0)), some (vI c3), some (vI c4), some (vI x5), some (vI (x6 + (1 : Int32))), none, none]) dX1_gain_91 rfl rfl (lt_b rfl) rfl ?_
          refine r_goto (tgt := 6) dX1_gain_94 (by decide) ?_
          refine r_weak (L' := [some (vR (20, 0, 0)), some (vR (1, n0, 0)), some (vR (1, n1, 0)), some (vI c3), some (vI c4), some (vI x5), some (vI (x6 + (1 : Int32))), none, none]) (And.intro rfl (And.intro rfl (And.intro rfl (And.intro rfl (And.intro rfl (And.intro rfl (And.intro rfl trivial))))))) ?_
          exact k1 _ (am_inj hf).symm
        · have hf := (am_if hf).1 hc
          refine r_aload_n (x := (20, 0, 0)) dX1_gain_85 rfl ?_
          refine e_geti fw_X1_9 dX1_gain_86 (kC_mem (s := 20) (by decide) (by decide) (by decide)) rfl (lt_b rfl) ?_
          refine r_istore (L' := [some (vR (20, 0, 0)), some (vR (1, n0, 0)), some (vR (1, n1, 0)), some (vI c3), some (vI c4), some (vI (u25.1 (20, 0, 0) 0)), some (vI x6), none, none]) dX1_gain_89 (by decide) rfl ?_
          refine r_iinc (x := x6) (v := x6 + (1 : Int32)) (L' := [some (vR (20, 0, 0)), some (vR (1, n0, 0)), some (vR (1, n1, 0)), some (vI c3), some (vI c4), some (vI (u25.1 (20, 0, 0) 0)), some (vI (x6 + (1 : Int32))), none, none]) dX1_gain_91 rfl rfl (lt_b rfl) rfl ?_
          refine r_goto (tgt := 6) dX1_gain_94 (by decide) ?_
          refine r_weak (L' := [some (vR (20, 0, 0)), some (vR (1, n0, 0)), some (vR (1, n1, 0)), some (vI c3), some (vI c4), some (vI (u25.1 (20, 0, 0) 0)), some (vI (x6 + (1 : Int32))), none, none]) (And.intro rfl (And.intro rfl (And.intro rfl (And.intro rfl (And.intro rfl (And.intro rfl (And.intro rfl trivial))))))) ?_
          exact k1 _ (am_inj hf).symm
      · have hf := (am_if hf).1 hc
        refine r_aload (x := (3, n1, p5)) dX1_gain_30 rfl ?_
        refine r_ifnullR dX1_gain_32 ?_
        refine r_aload (x := (3, n1, p5)) dX1_gain_35 rfl ?_
        refine r_iconst (v := 1) dX1_gain_37 rfl ?_
        refine e_puti fp_X1_44 dX1_gain_38 (kC_mem (s := 3) (by decide) hn1 h6) rfl (lt_b rfl) rfl (am_bool (x := 1) (by decide)).1 (am_bool (x := 1) (by decide)).2 ?_
        refine r_aload_n (x := (20, 0, 0)) dX1_gain_41 rfl ?_
        obtain ⟨r26, hr27, hf⟩ := am_bind hf
        refine r_callV (as := []) (st := []) (n := 0) mw_X1_111 mv_X1_begin (C_X1_begin (l := l) hr27) (by decide) dX1_gain_42 (kC_mem (s := 20) (by decide) (by decide) (by decide)) rfl rfl rfl (le_b rfl) (le_b rfl) (le_b rfl) ?_
        show X l _ _ 0 0 false _ kC 0 0 45 [some (vR (20, 0, 0)), some (vR (1, n0, 0)), some (vR (1, n1, 0)), some (vI c3), some (vI c4), some (vI x5), some (vI x6), some (vR (3, n1, p5)), none] [] (en r26)
        refine r_iconst (v := 0) dX1_gain_45 rfl ?_
        refine r_istore (L' := [some (vR (20, 0, 0)), some (vR (1, n0, 0)), some (vR (1, n1, 0)), some (vI c3), some (vI c4), some (vI x5), some (vI x6), some (vR (3, n1, p5)), some (vI (0 : Int32))]) dX1_gain_46 (by decide) rfl ?_
        refine r_weak (L' := [some (vR (20, 0, 0)), some (vR (1, n0, 0)), some (vR (1, n1, 0)), some (vI c3), some (vI c4), some (vI x5), some (vI x6), none, some (vI (0 : Int32))]) (And.intro rfl (And.intro rfl (And.intro rfl (And.intro rfl (And.intro rfl (And.intro rfl (And.intro rfl (And.intro rfl trivial)))))))) ?_
        obtain ⟨e28, he29, hf⟩ := am_bind hf
        refine K_X1_gain_L48 hn0 hn1 2000 ((0 : Int32), r26) _ he29 ?_
        obtain ⟨u30, rfl⟩ : ∃ z, z = e28 := ⟨_, rfl⟩
        show X l _ _ 0 0 false _ kC 0 0 80 [some (vR (20, 0, 0)), some (vR (1, n0, 0)), some (vR (1, n1, 0)), some (vI c3), some (vI c4), some (vI x5), some (vI x6), none, none] [] (en u30)
        refine r_iload (x := x6) dX1_gain_80 rfl ?_
        refine r_if_ne (tgt := 91) dX1_gain_82 (by decide) (fun hc => ?_) (fun hc => ?_)
        · have hf := (am_if hf).2 hc
          refine r_iinc (x := x6) (v := x6 + (1 : Int32)) (L' := [some (vR (20, 0, 0)), some (vR (1, n0, 0)), some (vR (1, n1, 0)), some (vI c3), some (vI c4), some (vI x5), some (vI (x6 + (1 : Int32))), none, none]) dX1_gain_91 rfl rfl (lt_b rfl) rfl ?_
          refine r_goto (tgt := 6) dX1_gain_94 (by decide) ?_
          refine r_weak (L' := [some (vR (20, 0, 0)), some (vR (1, n0, 0)), some (vR (1, n1, 0)), some (vI c3), some (vI c4), some (vI x5), some (vI (x6 + (1 : Int32))), none, none]) (And.intro rfl (And.intro rfl (And.intro rfl (And.intro rfl (And.intro rfl (And.intro rfl (And.intro rfl trivial))))))) ?_
          exact k1 _ (am_inj hf).symm
        · have hf := (am_if hf).1 hc
          refine r_aload_n (x := (20, 0, 0)) dX1_gain_85 rfl ?_
          refine e_geti fw_X1_9 dX1_gain_86 (kC_mem (s := 20) (by decide) (by decide) (by decide)) rfl (lt_b rfl) ?_
          refine r_istore (L' := [some (vR (20, 0, 0)), some (vR (1, n0, 0)), some (vR (1, n1, 0)), some (vI c3), some (vI c4), some (vI (u30.1 (20, 0, 0) 0)), some (vI x6), none, none]) dX1_gain_89 (by decide) rfl ?_
          refine r_iinc (x := x6) (v := x6 + (1 : Int32)) (L' := [some (vR (20, 0, 0)), some (vR (1, n0, 0)), some (vR (1, n1, 0)), some (vI c3), some (vI c4), some (vI (u30.1 (20, 0, 0) 0)), some (vI (x6 + (1 : Int32))), none, none]) dX1_gain_91 rfl rfl (lt_b rfl) rfl ?_
          refine r_goto (tgt := 6) dX1_gain_94 (by decide) ?_
          refine r_weak (L' := [some (vR (20, 0, 0)), some (vR (1, n0, 0)), some (vR (1, n1, 0)), some (vI c3), some (vI c4), some (vI (u30.1 (20, 0, 0) 0)), some (vI (x6 + (1 : Int32))), none, none]) (And.intro rfl (And.intro rfl (And.intro rfl (And.intro rfl (And.intro rfl (And.intro rfl (And.intro rfl trivial))))))) ?_
          exact k1 _ (am_inj hf).symm
def f_X1_gain (w : Nat) (w2 : Nat) (a2 : Int32) (a3 : Int32) (u : PM) : Option (Int32 × PM) :=
  (am_loop (f_X1_gain_L6 w w2 a2 a3) 2000 ((0 : Int32), (0 : Int32), u)).bind fun (y33, u34) =>
  some ((u34.1 (20, 0, 0) 0) - y33, u34)
set_option maxHeartbeats 4000000 in
set_option maxRecDepth 20000 in
theorem C_X1_gain {l : Launch} {w : Nat} (hw : w < 4) {w2 : Nat} (hw2 : w2 < 4) {a2 : Int32} {a3 : Int32} {u : PM} {x : Int32 × PM} (hf : f_X1_gain w w2 a2 a3 u = some x) : Ev l mX1_gain 7 0 0 false [vR (20, 0, 0), vR (1, w, 0), vR (1, w2, 0), vI a2, vI a3] kC (en u) (some (vI x.1), kC, en x.2) := by
  refine Ev_of (by decide +kernel) (le_b rfl) ?_
  unfold f_X1_gain at hf
  show X l mX1_gain 7 0 0 false _ kC 0 0 0 [some (vR (20, 0, 0)), some (vR (1, w, 0)), some (vR (1, w2, 0)), some (vI a2), some (vI a3), none, none, none, none] [] (en u)
  refine r_iconst (v := 0) dX1_gain_0 rfl ?_
  refine r_istore (L' := [some (vR (20, 0, 0)), some (vR (1, w, 0)), some (vR (1, w2, 0)), some (vI a2), some (vI a3), some (vI (0 : Int32)), none, none, none]) dX1_gain_1 (by decide) rfl ?_
  refine r_iconst (v := 0) dX1_gain_3 rfl ?_
  refine r_istore (L' := [some (vR (20, 0, 0)), some (vR (1, w, 0)), some (vR (1, w2, 0)), some (vI a2), some (vI a3), some (vI (0 : Int32)), some (vI (0 : Int32)), none, none]) dX1_gain_4 (by decide) rfl ?_
  refine r_weak (L' := [some (vR (20, 0, 0)), some (vR (1, w, 0)), some (vR (1, w2, 0)), some (vI a2), some (vI a3), some (vI (0 : Int32)), some (vI (0 : Int32)), none, none]) (And.intro rfl (And.intro rfl (And.intro rfl (And.intro rfl (And.intro rfl (And.intro rfl (And.intro rfl trivial))))))) ?_
  obtain ⟨e31, he32, hf⟩ := am_bind hf
  refine K_X1_gain_L6 hw hw2 2000 ((0 : Int32), (0 : Int32), u) _ he32 ?_
  obtain ⟨y33, u34⟩ := e31
  show X l _ _ 0 0 false _ kC 0 0 97 [some (vR (20, 0, 0)), none, none, none, none, some (vI y33), none, none, none] [] (en u34)
  refine r_aload_n (x := (20, 0, 0)) dX1_gain_97 rfl ?_
  refine e_geti fw_X1_9 dX1_gain_98 (kC_mem (s := 20) (by decide) (by decide) (by decide)) rfl (lt_b rfl) ?_
  refine r_iload (x := y33) dX1_gain_101 rfl ?_
  refine r_isub dX1_gain_103 ?_
  have hx := am_inj hf
  subst hx
  exact r_iret dX1_gain_104 rfl rfl (le_b rfl) (le_b rfl)
/-! FireFromFire$Paths.measure -/
theorem dX5_measure_0 : decode cX5_measure 0 = .ok (.aload_n 0, 1) := by decide +kernel
theorem dX5_measure_1 : decode cX5_measure 1 = .ok (.aload_n 1, 1) := by decide +kernel
theorem dX5_measure_2 : decode cX5_measure 2 = .ok (.getfield 20, 3) := by decide +kernel
theorem dX5_measure_5 : decode cX5_measure 5 = .ok (.bipush 6, 2) := by decide +kernel
theorem dX5_measure_7 : decode cX5_measure 7 = .ok (.invokestatic 23, 3) := by decide +kernel
theorem dX5_measure_10 : decode cX5_measure 10 = .ok (.putfield 16, 3) := by decide +kernel
theorem dX5_measure_13 : decode cX5_measure 13 = .ok (.iconst 0, 1) := by decide +kernel
theorem dX5_measure_14 : decode cX5_measure 14 = .ok (.istore_n 2, 1) := by decide +kernel
theorem dX5_measure_15 : decode cX5_measure 15 = .ok (.iload_n 2, 1) := by decide +kernel
theorem dX5_measure_16 : decode cX5_measure 16 = .ok (.aload_n 0, 1) := by decide +kernel
theorem dX5_measure_17 : decode cX5_measure 17 = .ok (.getfield 16, 3) := by decide +kernel
theorem dX5_measure_20 : decode cX5_measure 20 = .ok (.if_icmp .ge 64, 3) := by decide +kernel
theorem dX5_measure_23 : decode cX5_measure 23 = .ok (.iconst 0, 1) := by decide +kernel
theorem dX5_measure_24 : decode cX5_measure 24 = .ok (.istore_n 3, 1) := by decide +kernel
theorem dX5_measure_25 : decode cX5_measure 25 = .ok (.iload_n 3, 1) := by decide +kernel
theorem dX5_measure_26 : decode cX5_measure 26 = .ok (.aload_n 0, 1) := by decide +kernel
theorem dX5_measure_27 : decode cX5_measure 27 = .ok (.getfield 16, 3) := by decide +kernel
theorem dX5_measure_30 : decode cX5_measure 30 = .ok (.if_icmp .ge 48, 3) := by decide +kernel
theorem dX5_measure_33 : decode cX5_measure 33 = .ok (.aload_n 1, 1) := by decide +kernel
theorem dX5_measure_34 : decode cX5_measure 34 = .ok (.getfield 29, 3) := by decide +kernel
theorem dX5_measure_37 : decode cX5_measure 37 = .ok (.iload_n 2, 1) := by decide +kernel
theorem dX5_measure_38 : decode cX5_measure 38 = .ok (.aaload, 1) := by decide +kernel
theorem dX5_measure_39 : decode cX5_measure 39 = .ok (.iload_n 3, 1) := by decide +kernel
theorem dX5_measure_40 : decode cX5_measure 40 = .ok (.iaload, 1) := by decide +kernel
theorem dX5_measure_41 : decode cX5_measure 41 = .ok (.istore 4, 2) := by decide +kernel
theorem dX5_measure_43 : decode cX5_measure 43 = .ok (.aload_n 0, 1) := by decide +kernel
theorem dX5_measure_44 : decode cX5_measure 44 = .ok (.getfield 11, 3) := by decide +kernel
theorem dX5_measure_47 : decode cX5_measure 47 = .ok (.iload_n 2, 1) := by decide +kernel
theorem dX5_measure_48 : decode cX5_measure 48 = .ok (.aaload, 1) := by decide +kernel
theorem dX5_measure_49 : decode cX5_measure 49 = .ok (.iload_n 3, 1) := by decide +kernel
theorem dX5_measure_50 : decode cX5_measure 50 = .ok (.iload_n 2, 1) := by decide +kernel
theorem dX5_measure_51 : decode cX5_measure 51 = .ok (.iload_n 3, 1) := by decide +kernel
theorem dX5_measure_52 : decode cX5_measure 52 = .ok (.if_icmp .ne 7, 3) := by decide +kernel
theorem dX5_measure_55 : decode cX5_measure 55 = .ok (.iconst 0, 1) := by decide +kernel
theorem dX5_measure_56 : decode cX5_measure 56 = .ok (.goto 15, 3) := by decide +kernel
theorem dX5_measure_59 : decode cX5_measure 59 = .ok (.iload 4, 2) := by decide +kernel
theorem dX5_measure_61 : decode cX5_measure 61 = .ok (.ifCond .le 8, 3) := by decide +kernel
theorem dX5_measure_64 : decode cX5_measure 64 = .ok (.iload 4, 2) := by decide +kernel
theorem dX5_measure_66 : decode cX5_measure 66 = .ok (.goto 5, 3) := by decide +kernel
theorem dX5_measure_69 : decode cX5_measure 69 = .ok (.ldc 32, 2) := by decide +kernel
theorem dX5_measure_71 : decode cX5_measure 71 = .ok (.iastore, 1) := by decide +kernel
theorem dX5_measure_72 : decode cX5_measure 72 = .ok (.iinc 3 1, 3) := by decide +kernel
theorem dX5_measure_75 : decode cX5_measure 75 = .ok (.goto (-50), 3) := by decide +kernel
theorem dX5_measure_78 : decode cX5_measure 78 = .ok (.iinc 2 1, 3) := by decide +kernel
theorem dX5_measure_81 : decode cX5_measure 81 = .ok (.goto (-66), 3) := by decide +kernel
theorem dX5_measure_84 : decode cX5_measure 84 = .ok (.iconst 0, 1) := by decide +kernel
theorem dX5_measure_85 : decode cX5_measure 85 = .ok (.istore_n 2, 1) := by decide +kernel
theorem dX5_measure_86 : decode cX5_measure 86 = .ok (.iload_n 2, 1) := by decide +kernel
theorem dX5_measure_87 : decode cX5_measure 87 = .ok (.aload_n 0, 1) := by decide +kernel
theorem dX5_measure_88 : decode cX5_measure 88 = .ok (.getfield 16, 3) := by decide +kernel
theorem dX5_measure_91 : decode cX5_measure 91 = .ok (.if_icmp .ge 82, 3) := by decide +kernel
theorem dX5_measure_94 : decode cX5_measure 94 = .ok (.iconst 0, 1) := by decide +kernel
theorem dX5_measure_95 : decode cX5_measure 95 = .ok (.istore_n 3, 1) := by decide +kernel
theorem dX5_measure_96 : decode cX5_measure 96 = .ok (.iload_n 3, 1) := by decide +kernel
theorem dX5_measure_97 : decode cX5_measure 97 = .ok (.aload_n 0, 1) := by decide +kernel
theorem dX5_measure_98 : decode cX5_measure 98 = .ok (.getfield 16, 3) := by decide +kernel
theorem dX5_measure_101 : decode cX5_measure 101 = .ok (.if_icmp .ge 66, 3) := by decide +kernel
theorem dX5_measure_104 : decode cX5_measure 104 = .ok (.iconst 0, 1) := by decide +kernel
theorem dX5_measure_105 : decode cX5_measure 105 = .ok (.istore 4, 2) := by decide +kernel
theorem dX5_measure_107 : decode cX5_measure 107 = .ok (.iload 4, 2) := by decide +kernel
theorem dX5_measure_109 : decode cX5_measure 109 = .ok (.aload_n 0, 1) := by decide +kernel
theorem dX5_measure_110 : decode cX5_measure 110 = .ok (.getfield 16, 3) := by decide +kernel
theorem dX5_measure_113 : decode cX5_measure 113 = .ok (.if_icmp .ge 48, 3) := by decide +kernel
theorem dX5_measure_116 : decode cX5_measure 116 = .ok (.aload_n 0, 1) := by decide +kernel
theorem dX5_measure_117 : decode cX5_measure 117 = .ok (.getfield 11, 3) := by decide +kernel
theorem dX5_measure_120 : decode cX5_measure 120 = .ok (.iload_n 3, 1) := by decide +kernel
theorem dX5_measure_121 : decode cX5_measure 121 = .ok (.aaload, 1) := by decide +kernel
theorem dX5_measure_122 : decode cX5_measure 122 = .ok (.iload 4, 2) := by decide +kernel
theorem dX5_measure_124 : decode cX5_measure 124 = .ok (.aload_n 0, 1) := by decide +kernel
theorem dX5_measure_125 : decode cX5_measure 125 = .ok (.getfield 11, 3) := by decide +kernel
theorem dX5_measure_128 : decode cX5_measure 128 = .ok (.iload_n 3, 1) := by decide +kernel
theorem dX5_measure_129 : decode cX5_measure 129 = .ok (.aaload, 1) := by decide +kernel
theorem dX5_measure_130 : decode cX5_measure 130 = .ok (.iload 4, 2) := by decide +kernel
theorem dX5_measure_132 : decode cX5_measure 132 = .ok (.iaload, 1) := by decide +kernel
theorem dX5_measure_133 : decode cX5_measure 133 = .ok (.aload_n 0, 1) := by decide +kernel
theorem dX5_measure_134 : decode cX5_measure 134 = .ok (.getfield 11, 3) := by decide +kernel
theorem dX5_measure_137 : decode cX5_measure 137 = .ok (.iload_n 3, 1) := by decide +kernel
theorem dX5_measure_138 : decode cX5_measure 138 = .ok (.aaload, 1) := by decide +kernel
theorem dX5_measure_139 : decode cX5_measure 139 = .ok (.iload_n 2, 1) := by decide +kernel
theorem dX5_measure_140 : decode cX5_measure 140 = .ok (.iaload, 1) := by decide +kernel
theorem dX5_measure_141 : decode cX5_measure 141 = .ok (.aload_n 0, 1) := by decide +kernel
theorem dX5_measure_142 : decode cX5_measure 142 = .ok (.getfield 11, 3) := by decide +kernel
theorem dX5_measure_145 : decode cX5_measure 145 = .ok (.iload_n 2, 1) := by decide +kernel
theorem dX5_measure_146 : decode cX5_measure 146 = .ok (.aaload, 1) := by decide +kernel
theorem dX5_measure_147 : decode cX5_measure 147 = .ok (.iload 4, 2) := by decide +kernel
theorem dX5_measure_149 : decode cX5_measure 149 = .ok (.iaload, 1) := by decide +kernel
theorem dX5_measure_150 : decode cX5_measure 150 = .ok (.iadd, 1) := by decide +kernel
theorem dX5_measure_151 : decode cX5_measure 151 = .ok (.invokestatic 23, 3) := by decide +kernel
theorem dX5_measure_154 : decode cX5_measure 154 = .ok (.iastore, 1) := by decide +kernel
theorem dX5_measure_155 : decode cX5_measure 155 = .ok (.iinc 4 1, 3) := by decide +kernel
theorem dX5_measure_158 : decode cX5_measure 158 = .ok (.goto (-51), 3) := by decide +kernel
theorem dX5_measure_161 : decode cX5_measure 161 = .ok (.iinc 3 1, 3) := by decide +kernel
theorem dX5_measure_164 : decode cX5_measure 164 = .ok (.goto (-68), 3) := by decide +kernel
theorem dX5_measure_167 : decode cX5_measure 167 = .ok (.iinc 2 1, 3) := by decide +kernel
theorem dX5_measure_170 : decode cX5_measure 170 = .ok (.goto (-84), 3) := by decide +kernel
theorem dX5_measure_173 : decode cX5_measure 173 = .ok (.return_, 1) := by decide +kernel
def f_X5_measure_L25 (n0 : Nat) (c2 : Int32) : Int32 × PM → Option ((Int32 × PM) ⊕ (PM)) := fun (x3 , u) =>
  if (u.1 (25, 0, 0) 1) ≤ x3 then
    some (.inr (u))
  else
  if c2 < 0 ∨ 6 ≤ c2.toNatClampNeg then none else
  if x3 < 0 ∨ 6 ≤ x3.toNatClampNeg then none else
  if c2 = x3 then
    some (.inl (x3 + (1 : Int32), (pi u (27, 0, c2.toNatClampNeg) x3.toNatClampNeg (0 : Int32))))
  else
  if (u.1 (5, n0, c2.toNatClampNeg) x3.toNatClampNeg) ≤ 0 then
    some (.inl (x3 + (1 : Int32), (pi u (27, 0, c2.toNatClampNeg) x3.toNatClampNeg (1000000 : Int32))))
  else
  some (.inl (x3 + (1 : Int32), (pi u (27, 0, c2.toNatClampNeg) x3.toNatClampNeg (u.1 (5, n0, c2.toNatClampNeg) x3.toNatClampNeg))))
set_option maxHeartbeats 4000000 in
set_option maxRecDepth 20000 in
theorem K_X5_measure_L25 {l : Launch} {T : Option AV × List Key × AM} {n0 : Nat} (hn0 : n0 < 4) {c2 : Int32} : ∀ (n : Nat) (s : Int32 × PM) (e0 : PM), am_loop (f_X5_measure_L25 n0 c2) n s = some e0 → (fun e : PM => X l mX5_measure 2 0 0 false T kC 0 0 78 [some (vR (25, 0, 0)), some (vR (1, n0, 0)), some (vI c2), none, none] [] (en e)) e0 → X l mX5_measure 2 0 0 false T kC 0 0 25 [some (vR (25, 0, 0)), some (vR (1, n0, 0)), some (vI c2), some (vI s.1), none] [] (en s.2) := by
  refine am_loop_of ?_
  intro s x hf k1 k2
  obtain ⟨x3 , u⟩ := s
  unfold f_X5_measure_L25 at hf
  show X l mX5_measure 2 0 0 false T kC 0 0 25 [some (vR (25, 0, 0)), some (vR (1, n0, 0)), some (vI c2), some (vI x3), none] [] (en u)
  refine r_iload_n (x := x3) dX5_measure_25 rfl ?_
  refine r_aload_n (x := (25, 0, 0)) dX5_measure_26 rfl ?_
  refine e_geti fw_X5_16 dX5_measure_27 (kC_mem (s := 25) (by decide) (by decide) (by decide)) rfl (lt_b rfl) ?_
  refine r_icmp_ge (tgt := 78) dX5_measure_30 (by decide) (fun hc => ?_) (fun hc => ?_)
  · have hf := (am_if hf).1 hc
    refine r_weak (L' := [some (vR (25, 0, 0)), some (vR (1, n0, 0)), some (vI c2), none, none]) (And.intro rfl (And.intro rfl (And.intro rfl trivial))) ?_
    exact k2 _ (am_inj hf).symm
  · have hf := (am_if hf).2 hc
    refine r_aload_n (x := (1, n0, 0)) dX5_measure_33 rfl ?_
    refine e_getr (z := some (4, n0, 0)) fw_X5_29 dX5_measure_34 (kC_mem (s := 1) (by decide) hn0 (by decide)) rfl (lt_b rfl) rfl ?_
    refine r_iload_n (x := c2) dX5_measure_37 rfl ?_
    obtain ⟨h1, hf⟩ := am_nchk hf
    refine e_aald (n := c2.toNatClampNeg) (z := some (5, n0, c2.toNatClampNeg)) dX5_measure_38 (kC_mem (s := 4) (by decide) hn0 (by decide)) ⟨le_b rfl, lt_b rfl⟩ h1 rfl rfl ?_
    refine r_iload_n (x := x3) dX5_measure_39 rfl ?_
    obtain ⟨h2, hf⟩ := am_nchk hf
    refine e_iald (n := x3.toNatClampNeg) dX5_measure_40 (kC_mem (s := 5) (by decide) hn0 (vp_lt h1)) rfl h2 rfl rfl ?_
    refine r_istore (L' := [some (vR (25, 0, 0)), some (vR (1, n0, 0)), some (vI c2), some (vI x3), some (vI (u.1 (5, n0, c2.toNatClampNeg) x3.toNatClampNeg))]) dX5_measure_41 (by decide) rfl ?_
    refine r_aload_n (x := (25, 0, 0)) dX5_measure_43 rfl ?_
    refine e_getr (z := some (26, 0, 0)) fw_X5_11 dX5_measure_44 (kC_mem (s := 25) (by decide) (by decide) (by decide)) rfl (lt_b rfl) rfl ?_
    refine r_iload_n (x := c2) dX5_measure_47 rfl ?_
    refine e_aald (n := c2.toNatClampNeg) (z := some (27, 0, c2.toNatClampNeg)) dX5_measure_48 (kC_mem (s := 26) (by decide) (by decide) (by decide)) ⟨le_b rfl, lt_b rfl⟩ h1 rfl rfl ?_
    refine r_iload_n (x := x3) dX5_measure_49 rfl ?_
    refine r_iload_n (x := c2) dX5_measure_50 rfl ?_
    refine r_iload_n (x := x3) dX5_measure_51 rfl ?_
    refine r_icmp_ne (tgt := 59) dX5_measure_52 (by decide) (fun hc => ?_) (fun hc => ?_)
    · have hf := (am_if hf).2 hc
      refine r_iload (x := u.1 (5, n0, c2.toNatClampNeg) x3.toNatClampNeg) dX5_measure_59 rfl ?_
      refine r_if_le (tgt := 69) dX5_measure_61 (by decide) (fun hc => ?_) (fun hc => ?_)
      · have hf := (am_if hf).1 hc
        refine r_ldc (v := 1000000) dX5_measure_69 cc_X5_32 ?_
        refine e_iast (n := x3.toNatClampNeg) dX5_measure_71 (kC_mem (s := 27) (by decide) (by decide) (vp_lt h1)) rfl h2 rfl ?_
        refine r_iinc (x := x3) (v := x3 + (1 : Int32)) (L' := [some (vR (25, 0, 0)), some (vR (1, n0, 0)), some (vI c2), some (vI (x3 + (1 : Int32))), some (vI (u.1 (5, n0, c2.toNatClampNeg) x3.toNatClampNeg))]) dX5_measure_72 rfl rfl (lt_b rfl) rfl ?_
        refine r_goto (tgt := 25) dX5_measure_75 (by decide) ?_
        refine r_weak (L' := [some (vR (25, 0, 0)), some (vR (1, n0, 0)), some (vI c2), some (vI (x3 + (1 : Int32))), none]) (And.intro rfl (And.intro rfl (And.intro rfl (And.intro rfl trivial)))) ?_
        exact k1 _ (am_inj hf).symm
      · have hf := (am_if hf).2 hc
        refine r_iload (x := u.1 (5, n0, c2.toNatClampNeg) x3.toNatClampNeg) dX5_measure_64 rfl ?_
        refine r_goto (tgt := 71) dX5_measure_66 (by decide) ?_
        refine e_iast (n := x3.toNatClampNeg) dX5_measure_71 (kC_mem (s := 27) (by decide) (by decide) (vp_lt h1)) rfl h2 rfl ?_
        refine r_iinc (x := x3) (v := x3 + (1 : Int32)) (L' := [some (vR (25, 0, 0)), some (vR (1, n0, 0)), some (vI c2), some (vI (x3 + (1 : Int32))), some (vI (u.1 (5, n0, c2.toNatClampNeg) x3.toNatClampNeg))]) dX5_measure_72 rfl rfl (lt_b rfl) rfl ?_
        refine r_goto (tgt := 25) dX5_measure_75 (by decide) ?_
        refine r_weak (L' := [some (vR (25, 0, 0)), some (vR (1, n0, 0)), some (vI c2), some (vI (x3 + (1 : Int32))), none]) (And.intro rfl (And.intro rfl (And.intro rfl (And.intro rfl trivial)))) ?_
        exact k1 _ (am_inj hf).symm
    · have hf := (am_if hf).1 hc
      refine r_iconst (v := 0) dX5_measure_55 rfl ?_
      refine r_goto (tgt := 71) dX5_measure_56 (by decide) ?_
      refine e_iast (n := x3.toNatClampNeg) dX5_measure_71 (kC_mem (s := 27) (by decide) (by decide) (vp_lt h1)) rfl h2 rfl ?_
      refine r_iinc (x := x3) (v := x3 + (1 : Int32)) (L' := [some (vR (25, 0, 0)), some (vR (1, n0, 0)), some (vI c2), some (vI (x3 + (1 : Int32))), some (vI (u.1 (5, n0, c2.toNatClampNeg) x3.toNatClampNeg))]) dX5_measure_72 rfl rfl (lt_b rfl) rfl ?_
      refine r_goto (tgt := 25) dX5_measure_75 (by decide) ?_
      refine r_weak (L' := [some (vR (25, 0, 0)), some (vR (1, n0, 0)), some (vI c2), some (vI (x3 + (1 : Int32))), none]) (And.intro rfl (And.intro rfl (And.intro rfl (And.intro rfl trivial)))) ?_
      exact k1 _ (am_inj hf).symm
def f_X5_measure_L15 (n0 : Nat)  : Int32 × PM → Option ((Int32 × PM) ⊕ (PM)) := fun (x2 , u) =>
  if (u.1 (25, 0, 0) 1) ≤ x2 then
    some (.inr (u))
  else
  (am_loop (f_X5_measure_L25 n0 x2) 2000 ((0 : Int32), u)).bind fun u5 =>
  some (.inl (x2 + (1 : Int32), u5))
set_option maxHeartbeats 4000000 in
set_option maxRecDepth 20000 in
theorem K_X5_measure_L15 {l : Launch} {T : Option AV × List Key × AM} {n0 : Nat} (hn0 : n0 < 4)  : ∀ (n : Nat) (s : Int32 × PM) (e0 : PM), am_loop (f_X5_measure_L15 n0) n s = some e0 → (fun e : PM => X l mX5_measure 2 0 0 false T kC 0 0 84 [some (vR (25, 0, 0)), none, none, none, none] [] (en e)) e0 → X l mX5_measure 2 0 0 false T kC 0 0 15 [some (vR (25, 0, 0)), some (vR (1, n0, 0)), some (vI s.1), none, none] [] (en s.2) := by
  refine am_loop_of ?_
  intro s x hf k1 k2
  obtain ⟨x2 , u⟩ := s
  unfold f_X5_measure_L15 at hf
  show X l mX5_measure 2 0 0 false T kC 0 0 15 [some (vR (25, 0, 0)), some (vR (1, n0, 0)), some (vI x2), none, none] [] (en u)
  refine r_iload_n (x := x2) dX5_measure_15 rfl ?_
  refine r_aload_n (x := (25, 0, 0)) dX5_measure_16 rfl ?_
  refine e_geti fw_X5_16 dX5_measure_17 (kC_mem (s := 25) (by decide) (by decide) (by decide)) rfl (lt_b rfl) ?_
  refine r_icmp_ge (tgt := 84) dX5_measure_20 (by decide) (fun hc => ?_) (fun hc => ?_)
  · have hf := (am_if hf).1 hc
    refine r_weak (L' := [some (vR (25, 0, 0)), none, none, none, none]) (And.intro rfl trivial) ?_
    exact k2 _ (am_inj hf).symm
  · have hf := (am_if hf).2 hc
    refine r_iconst (v := 0) dX5_measure_23 rfl ?_
    refine r_istore_n (L' := [some (vR (25, 0, 0)), some (vR (1, n0, 0)), some (vI x2), some (vI (0 : Int32)), none]) dX5_measure_24 (by decide) rfl ?_
    refine r_weak (L' := [some (vR (25, 0, 0)), some (vR (1, n0, 0)), some (vI x2), some (vI (0 : Int32)), none]) (And.intro rfl (And.intro rfl (And.intro rfl (And.intro rfl trivial)))) ?_
    obtain ⟨e3, he4, hf⟩ := am_bind hf
    refine K_X5_measure_L25 hn0 2000 ((0 : Int32), u) _ he4 ?_
    obtain ⟨u5, rfl⟩ : ∃ z, z = e3 := ⟨_, rfl⟩
    show X l _ _ 0 0 false _ kC 0 0 78 [some (vR (25, 0, 0)), some (vR (1, n0, 0)), some (vI x2), none, none] [] (en u5)
    refine r_iinc (x := x2) (v := x2 + (1 : Int32)) (L' := [some (vR (25, 0, 0)), some (vR (1, n0, 0)), some (vI (x2 + (1 : Int32))), none, none]) dX5_measure_78 rfl rfl (lt_b rfl) rfl ?_
    refine r_goto (tgt := 15) dX5_measure_81 (by decide) ?_
    refine r_weak (L' := [some (vR (25, 0, 0)), some (vR (1, n0, 0)), some (vI (x2 + (1 : Int32))), none, none]) (And.intro rfl (And.intro rfl (And.intro rfl trivial))) ?_
    exact k1 _ (am_inj hf).symm
def f_X5_measure_L107  (c2 : Int32) (c3 : Int32) : Int32 × PM → Option ((Int32 × PM) ⊕ (PM)) := fun (x4 , u) =>
  if (u.1 (25, 0, 0) 1) ≤ x4 then
    some (.inr (u))
  else
  if c3 < 0 ∨ 6 ≤ c3.toNatClampNeg then none else
  if x4 < 0 ∨ 6 ≤ x4.toNatClampNeg then none else
  if c2 < 0 ∨ 6 ≤ c2.toNatClampNeg then none else
  some (.inl (x4 + (1 : Int32), (pi u (27, 0, c3.toNatClampNeg) x4.toNatClampNeg (if ((u.1 (27, 0, c3.toNatClampNeg) c2.toNatClampNeg) + (u.1 (27, 0, c2.toNatClampNeg) x4.toNatClampNeg)) < (u.1 (27, 0, c3.toNatClampNeg) x4.toNatClampNeg) then ((u.1 (27, 0, c3.toNatClampNeg) c2.toNatClampNeg) + (u.1 (27, 0, c2.toNatClampNeg) x4.toNatClampNeg)) else (u.1 (27, 0, c3.toNatClampNeg) x4.toNatClampNeg)))))
set_option maxHeartbeats 4000000 in
set_option maxRecDepth 20000 in
theorem K_X5_measure_L107 {l : Launch} {T : Option AV × List Key × AM}  {c2 : Int32} {c3 : Int32} : ∀ (n : Nat) (s : Int32 × PM) (e0 : PM), am_loop (f_X5_measure_L107 c2 c3) n s = some e0 → (fun e : PM => X l mX5_measure 2 0 0 false T kC 0 0 161 [some (vR (25, 0, 0)), none, some (vI c2), some (vI c3), none] [] (en e)) e0 → X l mX5_measure 2 0 0 false T kC 0 0 107 [some (vR (25, 0, 0)), none, some (vI c2), some (vI c3), some (vI s.1)] [] (en s.2) := by
  refine am_loop_of ?_
  intro s x hf k1 k2
  obtain ⟨x4 , u⟩ := s
  unfold f_X5_measure_L107 at hf
  show X l mX5_measure 2 0 0 false T kC 0 0 107 [some (vR (25, 0, 0)), none, some (vI c2), some (vI c3), some (vI x4)] [] (en u)
  refine r_iload (x := x4) dX5_measure_107 rfl ?_
  refine r_aload_n (x := (25, 0, 0)) dX5_measure_109 rfl ?_
  refine e_geti fw_X5_16 dX5_measure_110 (kC_mem (s := 25) (by decide) (by decide) (by decide)) rfl (lt_b rfl) ?_
  refine r_icmp_ge (tgt := 161) dX5_measure_113 (by decide) (fun hc => ?_) (fun hc => ?_)
  · have hf := (am_if hf).1 hc
    refine r_weak (L' := [some (vR (25, 0, 0)), none, some (vI c2), some (vI c3), none]) (And.intro rfl (And.intro rfl (And.intro rfl trivial))) ?_
    exact k2 _ (am_inj hf).symm
  · have hf := (am_if hf).2 hc
    refine r_aload_n (x := (25, 0, 0)) dX5_measure_116 rfl ?_
    refine e_getr (z := some (26, 0, 0)) fw_X5_11 dX5_measure_117 (kC_mem (s := 25) (by decide) (by decide) (by decide)) rfl (lt_b rfl) rfl ?_
    refine r_iload_n (x := c3) dX5_measure_120 rfl ?_
    obtain ⟨h9, hf⟩ := am_nchk hf
    refine e_aald (n := c3.toNatClampNeg) (z := some (27, 0, c3.toNatClampNeg)) dX5_measure_121 (kC_mem (s := 26) (by decide) (by decide) (by decide)) ⟨le_b rfl, lt_b rfl⟩ h9 rfl rfl ?_
    refine r_iload (x := x4) dX5_measure_122 rfl ?_
    refine r_aload_n (x := (25, 0, 0)) dX5_measure_124 rfl ?_
    refine e_getr (z := some (26, 0, 0)) fw_X5_11 dX5_measure_125 (kC_mem (s := 25) (by decide) (by decide) (by decide)) rfl (lt_b rfl) rfl ?_
    refine r_iload_n (x := c3) dX5_measure_128 rfl ?_
    refine e_aald (n := c3.toNatClampNeg) (z := some (27, 0, c3.toNatClampNeg)) dX5_measure_129 (kC_mem (s := 26) (by decide) (by decide) (by decide)) ⟨le_b rfl, lt_b rfl⟩ h9 rfl rfl ?_
    refine r_iload (x := x4) dX5_measure_130 rfl ?_
    obtain ⟨h10, hf⟩ := am_nchk hf
    refine e_iald (n := x4.toNatClampNeg) dX5_measure_132 (kC_mem (s := 27) (by decide) (by decide) (vp_lt h9)) rfl h10 rfl rfl ?_
    refine r_aload_n (x := (25, 0, 0)) dX5_measure_133 rfl ?_
    refine e_getr (z := some (26, 0, 0)) fw_X5_11 dX5_measure_134 (kC_mem (s := 25) (by decide) (by decide) (by decide)) rfl (lt_b rfl) rfl ?_
    refine r_iload_n (x := c3) dX5_measure_137 rfl ?_
    refine e_aald (n := c3.toNatClampNeg) (z := some (27, 0, c3.toNatClampNeg)) dX5_measure_138 (kC_mem (s := 26) (by decide) (by decide) (by decide)) ⟨le_b rfl, lt_b rfl⟩ h9 rfl rfl ?_
    refine r_iload_n (x := c2) dX5_measure_139 rfl ?_
    obtain ⟨h11, hf⟩ := am_nchk hf
    refine e_iald (n := c2.toNatClampNeg) dX5_measure_140 (kC_mem (s := 27) (by decide) (by decide) (vp_lt h9)) rfl h11 rfl rfl ?_
    refine r_aload_n (x := (25, 0, 0)) dX5_measure_141 rfl ?_
    refine e_getr (z := some (26, 0, 0)) fw_X5_11 dX5_measure_142 (kC_mem (s := 25) (by decide) (by decide) (by decide)) rfl (lt_b rfl) rfl ?_
    refine r_iload_n (x := c2) dX5_measure_145 rfl ?_
    refine e_aald (n := c2.toNatClampNeg) (z := some (27, 0, c2.toNatClampNeg)) dX5_measure_146 (kC_mem (s := 26) (by decide) (by decide) (by decide)) ⟨le_b rfl, lt_b rfl⟩ h11 rfl rfl ?_
    refine r_iload (x := x4) dX5_measure_147 rfl ?_
    refine e_iald (n := x4.toNatClampNeg) dX5_measure_149 (kC_mem (s := 27) (by decide) (by decide) (vp_lt h11)) rfl h10 rfl rfl ?_
    refine r_iadd dX5_measure_150 ?_
    refine r_mmin jm_X5_23 js_min.1 js_min.2.1 js_min.2.2 dX5_measure_151 (le_b rfl) (le_b rfl) (le_b rfl) (le_b rfl) ?_
    refine e_iast (n := x4.toNatClampNeg) dX5_measure_154 (kC_mem (s := 27) (by decide) (by decide) (vp_lt h9)) rfl h10 rfl ?_
    refine r_iinc (x := x4) (v := x4 + (1 : Int32)) (L' := [some (vR (25, 0, 0)), none, some (vI c2), some (vI c3), some (vI (x4 + (1 : Int32)))]) dX5_measure_155 rfl rfl (lt_b rfl) rfl ?_
    refine r_goto (tgt := 107) dX5_measure_158 (by decide) ?_
    refine r_weak (L' := [some (vR (25, 0, 0)), none, some (vI c2), some (vI c3), some (vI (x4 + (1 : Int32)))]) (And.intro rfl (And.intro rfl (And.intro rfl (And.intro rfl trivial)))) ?_
    exact k1 _ (am_inj hf).symm
def f_X5_measure_L96  (c2 : Int32) : Int32 × PM → Option ((Int32 × PM) ⊕ (PM)) := fun (x3 , u) =>
  if (u.1 (25, 0, 0) 1) ≤ x3 then
    some (.inr (u))
  else
  (am_loop (f_X5_measure_L107 c2 x3) 2000 ((0 : Int32), u)).bind fun u14 =>
  some (.inl (x3 + (1 : Int32), u14))
set_option maxHeartbeats 4000000 in
set_option maxRecDepth 20000 in
theorem K_X5_measure_L96 {l : Launch} {T : Option AV × List Key × AM}  {c2 : Int32} : ∀ (n : Nat) (s : Int32 × PM) (e0 : PM), am_loop (f_X5_measure_L96 c2) n s = some e0 → (fun e : PM => X l mX5_measure 2 0 0 false T kC 0 0 167 [some (vR (25, 0, 0)), none, some (vI c2), none, none] [] (en e)) e0 → X l mX5_measure 2 0 0 false T kC 0 0 96 [some (vR (25, 0, 0)), none, some (vI c2), some (vI s.1), none] [] (en s.2) := by
  refine am_loop_of ?_
  intro s x hf k1 k2
  obtain ⟨x3 , u⟩ := s
  unfold f_X5_measure_L96 at hf
  show X l mX5_measure 2 0 0 false T kC 0 0 96 [some (vR (25, 0, 0)), none, some (vI c2), some (vI x3), none] [] (en u)
  refine r_iload_n (x := x3) dX5_measure_96 rfl ?_
  refine r_aload_n (x := (25, 0, 0)) dX5_measure_97 rfl ?_
  refine e_geti fw_X5_16 dX5_measure_98 (kC_mem (s := 25) (by decide) (by decide) (by decide)) rfl (lt_b rfl) ?_
  refine r_icmp_ge (tgt := 167) dX5_measure_101 (by decide) (fun hc => ?_) (fun hc => ?_)
  · have hf := (am_if hf).1 hc
    refine r_weak (L' := [some (vR (25, 0, 0)), none, some (vI c2), none, none]) (And.intro rfl (And.intro rfl trivial)) ?_
    exact k2 _ (am_inj hf).symm
  · have hf := (am_if hf).2 hc
    refine r_iconst (v := 0) dX5_measure_104 rfl ?_
    refine r_istore (L' := [some (vR (25, 0, 0)), none, some (vI c2), some (vI x3), some (vI (0 : Int32))]) dX5_measure_105 (by decide) rfl ?_
    refine r_weak (L' := [some (vR (25, 0, 0)), none, some (vI c2), some (vI x3), some (vI (0 : Int32))]) (And.intro rfl (And.intro rfl (And.intro rfl (And.intro rfl trivial)))) ?_
    obtain ⟨e12, he13, hf⟩ := am_bind hf
    refine K_X5_measure_L107  2000 ((0 : Int32), u) _ he13 ?_
    obtain ⟨u14, rfl⟩ : ∃ z, z = e12 := ⟨_, rfl⟩
    show X l _ _ 0 0 false _ kC 0 0 161 [some (vR (25, 0, 0)), none, some (vI c2), some (vI x3), none] [] (en u14)
    refine r_iinc (x := x3) (v := x3 + (1 : Int32)) (L' := [some (vR (25, 0, 0)), none, some (vI c2), some (vI (x3 + (1 : Int32))), none]) dX5_measure_161 rfl rfl (lt_b rfl) rfl ?_
    refine r_goto (tgt := 96) dX5_measure_164 (by decide) ?_
    refine r_weak (L' := [some (vR (25, 0, 0)), none, some (vI c2), some (vI (x3 + (1 : Int32))), none]) (And.intro rfl (And.intro rfl (And.intro rfl trivial))) ?_
    exact k1 _ (am_inj hf).symm
def f_X5_measure_L86   : Int32 × PM → Option ((Int32 × PM) ⊕ (PM)) := fun (x2 , u) =>
  if (u.1 (25, 0, 0) 1) ≤ x2 then
    some (.inr (u))
  else
  (am_loop (f_X5_measure_L96 x2) 2000 ((0 : Int32), u)).bind fun u17 =>
  some (.inl (x2 + (1 : Int32), u17))
set_option maxHeartbeats 4000000 in
set_option maxRecDepth 20000 in
theorem K_X5_measure_L86 {l : Launch} {T : Option AV × List Key × AM}   : ∀ (n : Nat) (s : Int32 × PM) (e0 : PM), am_loop (f_X5_measure_L86) n s = some e0 → (fun e : PM => X l mX5_measure 2 0 0 false T kC 0 0 173 [none, none, none, none, none] [] (en e)) e0 → X l mX5_measure 2 0 0 false T kC 0 0 86 [some (vR (25, 0, 0)), none, some (vI s.1), none, none] [] (en s.2) := by
  refine am_loop_of ?_
  intro s x hf k1 k2
  obtain ⟨x2 , u⟩ := s
  unfold f_X5_measure_L86 at hf
  show X l mX5_measure 2 0 0 false T kC 0 0 86 [some (vR (25, 0, 0)), none, some (vI x2), none, none] [] (en u)
  refine r_iload_n (x := x2) dX5_measure_86 rfl ?_
  refine r_aload_n (x := (25, 0, 0)) dX5_measure_87 rfl ?_
  refine e_geti fw_X5_16 dX5_measure_88 (kC_mem (s := 25) (by decide) (by decide) (by decide)) rfl (lt_b rfl) ?_
  refine r_icmp_ge (tgt := 173) dX5_measure_91 (by decide) (fun hc => ?_) (fun hc => ?_)
  · have hf := (am_if hf).1 hc
    refine r_weak (L' := [none, none, none, none, none]) trivial ?_
    exact k2 _ (am_inj hf).symm
  · have hf := (am_if hf).2 hc
    refine r_iconst (v := 0) dX5_measure_94 rfl ?_
    refine r_istore_n (L' := [some (vR (25, 0, 0)), none, some (vI x2), some (vI (0 : Int32)), none]) dX5_measure_95 (by decide) rfl ?_
    refine r_weak (L' := [some (vR (25, 0, 0)), none, some (vI x2), some (vI (0 : Int32)), none]) (And.intro rfl (And.intro rfl (And.intro rfl trivial))) ?_
    obtain ⟨e15, he16, hf⟩ := am_bind hf
    refine K_X5_measure_L96  2000 ((0 : Int32), u) _ he16 ?_
    obtain ⟨u17, rfl⟩ : ∃ z, z = e15 := ⟨_, rfl⟩
    show X l _ _ 0 0 false _ kC 0 0 167 [some (vR (25, 0, 0)), none, some (vI x2), none, none] [] (en u17)
    refine r_iinc (x := x2) (v := x2 + (1 : Int32)) (L' := [some (vR (25, 0, 0)), none, some (vI (x2 + (1 : Int32))), none, none]) dX5_measure_167 rfl rfl (lt_b rfl) rfl ?_
    refine r_goto (tgt := 86) dX5_measure_170 (by decide) ?_
    refine r_weak (L' := [some (vR (25, 0, 0)), none, some (vI (x2 + (1 : Int32))), none, none]) (And.intro rfl (And.intro rfl trivial)) ?_
    exact k1 _ (am_inj hf).symm
def f_X5_measure (w : Nat)  (u : PM) : Option (PM) :=
  (am_loop (f_X5_measure_L15 w) 2000 ((0 : Int32), (pi u (25, 0, 0) 1 (if (6 : Int32) < (u.1 (1, w, 0) 0) then (6 : Int32) else (u.1 (1, w, 0) 0))))).bind fun u8 =>
  (am_loop (f_X5_measure_L86) 2000 ((0 : Int32), u8)).bind fun u20 =>
  some u20
set_option maxHeartbeats 4000000 in
set_option maxRecDepth 20000 in
theorem C_X5_measure {l : Launch} {w : Nat} (hw : w < 4)  {u : PM} {x : PM} (hf : f_X5_measure w u = some x) : Ev l mX5_measure 2 0 0 false [vR (25, 0, 0), vR (1, w, 0)] kC (en u) (none, kC, en x) := by
  refine Ev_of (by decide +kernel) (le_b rfl) ?_
  unfold f_X5_measure at hf
  show X l mX5_measure 2 0 0 false _ kC 0 0 0 [some (vR (25, 0, 0)), some (vR (1, w, 0)), none, none, none] [] (en u)
  refine r_aload_n (x := (25, 0, 0)) dX5_measure_0 rfl ?_
  refine r_aload_n (x := (1, w, 0)) dX5_measure_1 rfl ?_
  refine e_geti fw_X5_20 dX5_measure_2 (kC_mem (s := 1) (by decide) hw (by decide)) rfl (lt_b rfl) ?_
  refine r_bipush (v := 6) dX5_measure_5 rfl ?_
  refine r_mmin jm_X5_23 js_min.1 js_min.2.1 js_min.2.2 dX5_measure_7 (le_b rfl) (le_b rfl) (le_b rfl) (le_b rfl) ?_
  refine e_puti fp_X5_16 dX5_measure_10 (kC_mem (s := 25) (by decide) (by decide) (by decide)) rfl (lt_b rfl) rfl rfl rfl ?_
  refine r_iconst (v := 0) dX5_measure_13 rfl ?_
  refine r_istore_n (L' := [some (vR (25, 0, 0)), some (vR (1, w, 0)), some (vI (0 : Int32)), none, none]) dX5_measure_14 (by decide) rfl ?_
  refine r_weak (L' := [some (vR (25, 0, 0)), some (vR (1, w, 0)), some (vI (0 : Int32)), none, none]) (And.intro rfl (And.intro rfl (And.intro rfl trivial))) ?_
  obtain ⟨e6, he7, hf⟩ := am_bind hf
  refine K_X5_measure_L15 hw 2000 ((0 : Int32), (pi u (25, 0, 0) 1 (if (6 : Int32) < (u.1 (1, w, 0) 0) then (6 : Int32) else (u.1 (1, w, 0) 0)))) _ he7 ?_
  obtain ⟨u8, rfl⟩ : ∃ z, z = e6 := ⟨_, rfl⟩
  show X l _ _ 0 0 false _ kC 0 0 84 [some (vR (25, 0, 0)), none, none, none, none] [] (en u8)
  refine r_iconst (v := 0) dX5_measure_84 rfl ?_
  refine r_istore_n (L' := [some (vR (25, 0, 0)), none, some (vI (0 : Int32)), none, none]) dX5_measure_85 (by decide) rfl ?_
  refine r_weak (L' := [some (vR (25, 0, 0)), none, some (vI (0 : Int32)), none, none]) (And.intro rfl (And.intro rfl trivial)) ?_
  obtain ⟨e18, he19, hf⟩ := am_bind hf
  refine K_X5_measure_L86  2000 ((0 : Int32), u8) _ he19 ?_
  obtain ⟨u20, rfl⟩ : ∃ z, z = e18 := ⟨_, rfl⟩
  show X l _ _ 0 0 false _ kC 0 0 173 [none, none, none, none, none] [] (en u20)
  have hx := am_inj hf
  subst hx
  exact r_vret dX5_measure_173 rfl (le_b rfl) (le_b rfl)
/-! FireFromFire$Paths.toFire -/
theorem dX5_toFire_0 : decode cX5_toFire 0 = .ok (.ldc 32, 2) := by decide +kernel
theorem dX5_toFire_2 : decode cX5_toFire 2 = .ok (.istore_n 3, 1) := by decide +kernel
theorem dX5_toFire_3 : decode cX5_toFire 3 = .ok (.iconst 0, 1) := by decide +kernel
theorem dX5_toFire_4 : decode cX5_toFire 4 = .ok (.istore 4, 2) := by decide +kernel
theorem dX5_toFire_6 : decode cX5_toFire 6 = .ok (.iload 4, 2) := by decide +kernel
theorem dX5_toFire_8 : decode cX5_toFire 8 = .ok (.aload_n 0, 1) := by decide +kernel
theorem dX5_toFire_9 : decode cX5_toFire 9 = .ok (.getfield 16, 3) := by decide +kernel
theorem dX5_toFire_12 : decode cX5_toFire 12 = .ok (.if_icmp .ge 56, 3) := by decide +kernel
theorem dX5_toFire_15 : decode cX5_toFire 15 = .ok (.aload_n 1, 1) := by decide +kernel
theorem dX5_toFire_16 : decode cX5_toFire 16 = .ok (.iload 4, 2) := by decide +kernel
theorem dX5_toFire_18 : decode cX5_toFire 18 = .ok (.invokevirtual 33, 3) := by decide +kernel
theorem dX5_toFire_21 : decode cX5_toFire 21 = .ok (.astore 5, 2) := by decide +kernel
theorem dX5_toFire_23 : decode cX5_toFire 23 = .ok (.iload_n 2, 1) := by decide +kernel
theorem dX5_toFire_24 : decode cX5_toFire 24 = .ok (.ifCond .lt 38, 3) := by decide +kernel
theorem dX5_toFire_27 : decode cX5_toFire 27 = .ok (.iload_n 2, 1) := by decide +kernel
theorem dX5_toFire_28 : decode cX5_toFire 28 = .ok (.aload_n 0, 1) := by decide +kernel
theorem dX5_toFire_29 : decode cX5_toFire 29 = .ok (.getfield 16, 3) := by decide +kernel
theorem dX5_toFire_32 : decode cX5_toFire 32 = .ok (.if_icmp .ge 30, 3) := by decide +kernel
theorem dX5_toFire_35 : decode cX5_toFire 35 = .ok (.aload 5, 2) := by decide +kernel
theorem dX5_toFire_37 : decode cX5_toFire 37 = .ok (.ifnull 25, 3) := by decide +kernel
theorem dX5_toFire_40 : decode cX5_toFire 40 = .ok (.aload 5, 2) := by decide +kernel
theorem dX5_toFire_42 : decode cX5_toFire 42 = .ok (.getfield 37, 3) := by decide +kernel
theorem dX5_toFire_45 : decode cX5_toFire 45 = .ok (.ifCond .eq 17, 3) := by decide +kernel
theorem dX5_toFire_48 : decode cX5_toFire 48 = .ok (.iload_n 3, 1) := by decide +kernel
theorem dX5_toFire_49 : decode cX5_toFire 49 = .ok (.aload_n 0, 1) := by decide +kernel
theorem dX5_toFire_50 : decode cX5_toFire 50 = .ok (.getfield 11, 3) := by decide +kernel
theorem dX5_toFire_53 : decode cX5_toFire 53 = .ok (.iload 4, 2) := by decide +kernel
theorem dX5_toFire_55 : decode cX5_toFire 55 = .ok (.aaload, 1) := by decide +kernel
theorem dX5_toFire_56 : decode cX5_toFire 56 = .ok (.iload_n 2, 1) := by decide +kernel
theorem dX5_toFire_57 : decode cX5_toFire 57 = .ok (.iaload, 1) := by decide +kernel
theorem dX5_toFire_58 : decode cX5_toFire 58 = .ok (.invokestatic 23, 3) := by decide +kernel
theorem dX5_toFire_61 : decode cX5_toFire 61 = .ok (.istore_n 3, 1) := by decide +kernel
theorem dX5_toFire_62 : decode cX5_toFire 62 = .ok (.iinc 4 1, 3) := by decide +kernel
theorem dX5_toFire_65 : decode cX5_toFire 65 = .ok (.goto (-59), 3) := by decide +kernel
theorem dX5_toFire_68 : decode cX5_toFire 68 = .ok (.iload_n 3, 1) := by decide +kernel
theorem dX5_toFire_69 : decode cX5_toFire 69 = .ok (.ldc 32, 2) := by decide +kernel
theorem dX5_toFire_71 : decode cX5_toFire 71 = .ok (.if_icmp .ge 7, 3) := by decide +kernel
theorem dX5_toFire_74 : decode cX5_toFire 74 = .ok (.iload_n 3, 1) := by decide +kernel
theorem dX5_toFire_75 : decode cX5_toFire 75 = .ok (.goto 5, 3) := by decide +kernel
theorem dX5_toFire_78 : decode cX5_toFire 78 = .ok (.bipush (-5), 2) := by decide +kernel
theorem dX5_toFire_80 : decode cX5_toFire 80 = .ok (.ireturn, 1) := by decide +kernel
def f_X5_toFire_L6 (n0 : Nat) (c2 : Int32) (u : PM) : Int32 × Int32 → Option ((Int32 × Int32) ⊕ (Int32)) := fun (x3 , x4) =>
  if (u.1 (25, 0, 0) 1) ≤ x4 then
    some (.inr (x3))
  else
  (f_X8_find n0 x4 u).bind fun r1 =>
  match r1 with
  | none =>
    if c2 < 0 then
      some (.inl (x3, x4 + (1 : Int32)))
    else
    if (u.1 (25, 0, 0) 1) ≤ c2 then
      some (.inl (x3, x4 + (1 : Int32)))
    else
    some (.inl (x3, x4 + (1 : Int32)))
  | some p3 =>
    if p3 < 6 then
      if c2 < 0 then
        some (.inl (x3, x4 + (1 : Int32)))
      else
      if (u.1 (25, 0, 0) 1) ≤ c2 then
        some (.inl (x3, x4 + (1 : Int32)))
      else
      if (u.1 (3, n0, p3) 1) = 0 then
        some (.inl (x3, x4 + (1 : Int32)))
      else
      if x4 < 0 ∨ 6 ≤ x4.toNatClampNeg then none else
      if c2 < 0 ∨ 6 ≤ c2.toNatClampNeg then none else
      some (.inl ((if (u.1 (27, 0, x4.toNatClampNeg) c2.toNatClampNeg) < x3 then (u.1 (27, 0, x4.toNatClampNeg) c2.toNatClampNeg) else x3), x4 + (1 : Int32)))
    else none
set_option maxHeartbeats 4000000 in
set_option maxRecDepth 20000 in
theorem K_X5_toFire_L6 {l : Launch} {T : Option AV × List Key × AM} {n0 : Nat} (hn0 : n0 < 4) {c2 : Int32} {u : PM} : ∀ (n : Nat) (s : Int32 × Int32) (e0 : Int32), am_loop (f_X5_toFire_L6 n0 c2 u) n s = some e0 → (fun e : Int32 => X l mX5_toFire 2 0 0 false T kC 0 0 68 [none, none, none, some (vI e), none, none] [] (en u)) e0 → X l mX5_toFire 2 0 0 false T kC 0 0 6 [some (vR (25, 0, 0)), some (vR (1, n0, 0)), some (vI c2), some (vI s.1), some (vI s.2), none] [] (en u) := by
  refine am_loop_of ?_
  intro s x hf k1 k2
  obtain ⟨x3 , x4⟩ := s
  unfold f_X5_toFire_L6 at hf
  show X l mX5_toFire 2 0 0 false T kC 0 0 6 [some (vR (25, 0, 0)), some (vR (1, n0, 0)), some (vI c2), some (vI x3), some (vI x4), none] [] (en u)
  refine r_iload (x := x4) dX5_toFire_6 rfl ?_
  refine r_aload_n (x := (25, 0, 0)) dX5_toFire_8 rfl ?_
  refine e_geti fw_X5_16 dX5_toFire_9 (kC_mem (s := 25) (by decide) (by decide) (by decide)) rfl (lt_b rfl) ?_
  refine r_icmp_ge (tgt := 68) dX5_toFire_12 (by decide) (fun hc => ?_) (fun hc => ?_)
  · have hf := (am_if hf).1 hc
    refine r_weak (L' := [none, none, none, some (vI x3), none, none]) (And.intro rfl trivial) ?_
    exact k2 _ (am_inj hf).symm
  · have hf := (am_if hf).2 hc
    refine r_aload_n (x := (1, n0, 0)) dX5_toFire_15 rfl ?_
    refine r_iload (x := x4) dX5_toFire_16 rfl ?_
    obtain ⟨r1, hr2, hf⟩ := am_bind hf
    refine r_callV (as := [vI x4]) (st := []) (n := 1) mw_X5_33 mv_X8_find (C_X8_find (l := l) hn0 hr2) (by decide) dX5_toFire_18 (kC_mem (s := 1) (by decide) hn0 (by decide)) rfl rfl rfl (le_b rfl) (le_b rfl) (le_b rfl) ?_
    cases r1 with
    | none =>
      show X l _ _ 0 0 false _ kC 0 0 21 [some (vR (25, 0, 0)), some (vR (1, n0, 0)), some (vI c2), some (vI x3), some (vI x4), none] [vN] (en u)
      refine r_astoreN (L' := [some (vR (25, 0, 0)), some (vR (1, n0, 0)), some (vI c2), some (vI x3), some (vI x4), some (vN)]) dX5_toFire_21 (by decide) rfl ?_
      refine r_iload_n (x := c2) dX5_toFire_23 rfl ?_
      refine r_if_lt (tgt := 62) dX5_toFire_24 (by decide) (fun hc => ?_) (fun hc => ?_)
      · have hf := (am_if hf).1 hc
        refine r_iinc (x := x4) (v := x4 + (1 : Int32)) (L' := [some (vR (25, 0, 0)), some (vR (1, n0, 0)), some (vI c2), some (vI x3), some (vI (x4 + (1 : Int32))), some (vN)]) dX5_toFire_62 rfl rfl (lt_b rfl) rfl ?_
        refine r_goto (tgt := 6) dX5_toFire_65 (by decide) ?_
        refine r_weak (L' := [some (vR (25, 0, 0)), some (vR (1, n0, 0)), some (vI c2), some (vI x3), some (vI (x4 + (1 : Int32))), none]) (And.intro rfl (And.intro rfl (And.intro rfl (And.intro rfl (And.intro rfl trivial))))) ?_
        exact k1 _ (am_inj hf).symm
      · have hf := (am_if hf).2 hc
        refine r_iload_n (x := c2) dX5_toFire_27 rfl ?_
        refine r_aload_n (x := (25, 0, 0)) dX5_toFire_28 rfl ?_
        refine e_geti fw_X5_16 dX5_toFire_29 (kC_mem (s := 25) (by decide) (by decide) (by decide)) rfl (lt_b rfl) ?_
        refine r_icmp_ge (tgt := 62) dX5_toFire_32 (by decide) (fun hc => ?_) (fun hc => ?_)
        · have hf := (am_if hf).1 hc
          refine r_iinc (x := x4) (v := x4 + (1 : Int32)) (L' := [some (vR (25, 0, 0)), some (vR (1, n0, 0)), some (vI c2), some (vI x3), some (vI (x4 + (1 : Int32))), some (vN)]) dX5_toFire_62 rfl rfl (lt_b rfl) rfl ?_
          refine r_goto (tgt := 6) dX5_toFire_65 (by decide) ?_
          refine r_weak (L' := [some (vR (25, 0, 0)), some (vR (1, n0, 0)), some (vI c2), some (vI x3), some (vI (x4 + (1 : Int32))), none]) (And.intro rfl (And.intro rfl (And.intro rfl (And.intro rfl (And.intro rfl trivial))))) ?_
          exact k1 _ (am_inj hf).symm
        · have hf := (am_if hf).2 hc
          refine r_aloadN dX5_toFire_35 rfl ?_
          refine r_ifnullN (tgt := 62) dX5_toFire_37 (by decide) ?_
          refine r_iinc (x := x4) (v := x4 + (1 : Int32)) (L' := [some (vR (25, 0, 0)), some (vR (1, n0, 0)), some (vI c2), some (vI x3), some (vI (x4 + (1 : Int32))), some (vN)]) dX5_toFire_62 rfl rfl (lt_b rfl) rfl ?_
          refine r_goto (tgt := 6) dX5_toFire_65 (by decide) ?_
          refine r_weak (L' := [some (vR (25, 0, 0)), some (vR (1, n0, 0)), some (vI c2), some (vI x3), some (vI (x4 + (1 : Int32))), none]) (And.intro rfl (And.intro rfl (And.intro rfl (And.intro rfl (And.intro rfl trivial))))) ?_
          exact k1 _ (am_inj hf).symm
    | some p3 =>
      obtain ⟨h4, hf⟩ := am_chk hf
      show X l _ _ 0 0 false _ kC 0 0 21 [some (vR (25, 0, 0)), some (vR (1, n0, 0)), some (vI c2), some (vI x3), some (vI x4), none] [vR (3, n0, p3)] (en u)
      refine r_astore (L' := [some (vR (25, 0, 0)), some (vR (1, n0, 0)), some (vI c2), some (vI x3), some (vI x4), some (vR (3, n0, p3))]) dX5_toFire_21 (by decide) rfl ?_
      refine r_iload_n (x := c2) dX5_toFire_23 rfl ?_
      refine r_if_lt (tgt := 62) dX5_toFire_24 (by decide) (fun hc => ?_) (fun hc => ?_)
      · have hf := (am_if hf).1 hc
        refine r_iinc (x := x4) (v := x4 + (1 : Int32)) (L' := [some (vR (25, 0, 0)), some (vR (1, n0, 0)), some (vI c2), some (vI x3), some (vI (x4 + (1 : Int32))), some (vR (3, n0, p3))]) dX5_toFire_62 rfl rfl (lt_b rfl) rfl ?_
        refine r_goto (tgt := 6) dX5_toFire_65 (by decide) ?_
        refine r_weak (L' := [some (vR (25, 0, 0)), some (vR (1, n0, 0)), some (vI c2), some (vI x3), some (vI (x4 + (1 : Int32))), none]) (And.intro rfl (And.intro rfl (And.intro rfl (And.intro rfl (And.intro rfl trivial))))) ?_
        exact k1 _ (am_inj hf).symm
      · have hf := (am_if hf).2 hc
        refine r_iload_n (x := c2) dX5_toFire_27 rfl ?_
        refine r_aload_n (x := (25, 0, 0)) dX5_toFire_28 rfl ?_
        refine e_geti fw_X5_16 dX5_toFire_29 (kC_mem (s := 25) (by decide) (by decide) (by decide)) rfl (lt_b rfl) ?_
        refine r_icmp_ge (tgt := 62) dX5_toFire_32 (by decide) (fun hc => ?_) (fun hc => ?_)
        · have hf := (am_if hf).1 hc
          refine r_iinc (x := x4) (v := x4 + (1 : Int32)) (L' := [some (vR (25, 0, 0)), some (vR (1, n0, 0)), some (vI c2), some (vI x3), some (vI (x4 + (1 : Int32))), some (vR (3, n0, p3))]) dX5_toFire_62 rfl rfl (lt_b rfl) rfl ?_
          refine r_goto (tgt := 6) dX5_toFire_65 (by decide) ?_
          refine r_weak (L' := [some (vR (25, 0, 0)), some (vR (1, n0, 0)), some (vI c2), some (vI x3), some (vI (x4 + (1 : Int32))), none]) (And.intro rfl (And.intro rfl (And.intro rfl (And.intro rfl (And.intro rfl trivial))))) ?_
          exact k1 _ (am_inj hf).symm
        · have hf := (am_if hf).2 hc
          refine r_aload (x := (3, n0, p3)) dX5_toFire_35 rfl ?_
          refine r_ifnullR dX5_toFire_37 ?_
          refine r_aload (x := (3, n0, p3)) dX5_toFire_40 rfl ?_
          refine e_geti fw_X5_37 dX5_toFire_42 (kC_mem (s := 3) (by decide) hn0 h4) rfl (lt_b rfl) ?_
          refine r_if_eq (tgt := 62) dX5_toFire_45 (by decide) (fun hc => ?_) (fun hc => ?_)
          · have hf := (am_if hf).1 hc
            refine r_iinc (x := x4) (v := x4 + (1 : Int32)) (L' := [some (vR (25, 0, 0)), some (vR (1, n0, 0)), some (vI c2), some (vI x3), some (vI (x4 + (1 : Int32))), some (vR (3, n0, p3))]) dX5_toFire_62 rfl rfl (lt_b rfl) rfl ?_
            refine r_goto (tgt := 6) dX5_toFire_65 (by decide) ?_
            refine r_weak (L' := [some (vR (25, 0, 0)), some (vR (1, n0, 0)), some (vI c2), some (vI x3), some (vI (x4 + (1 : Int32))), none]) (And.intro rfl (And.intro rfl (And.intro rfl (And.intro rfl (And.intro rfl trivial))))) ?_
            exact k1 _ (am_inj hf).symm
          · have hf := (am_if hf).2 hc
            refine r_iload_n (x := x3) dX5_toFire_48 rfl ?_
            refine r_aload_n (x := (25, 0, 0)) dX5_toFire_49 rfl ?_
            refine e_getr (z := some (26, 0, 0)) fw_X5_11 dX5_toFire_50 (kC_mem (s := 25) (by decide) (by decide) (by decide)) rfl (lt_b rfl) rfl ?_
            refine r_iload (x := x4) dX5_toFire_53 rfl ?_
            obtain ⟨h5, hf⟩ := am_nchk hf
            refine e_aald (n := x4.toNatClampNeg) (z := some (27, 0, x4.toNatClampNeg)) dX5_toFire_55 (kC_mem (s := 26) (by decide) (by decide) (by decide)) ⟨le_b rfl, lt_b rfl⟩ h5 rfl rfl ?_
            refine r_iload_n (x := c2) dX5_toFire_56 rfl ?_
            obtain ⟨h6, hf⟩ := am_nchk hf
            refine e_iald (n := c2.toNatClampNeg) dX5_toFire_57 (kC_mem (s := 27) (by decide) (by decide) (vp_lt h5)) rfl h6 rfl rfl ?_
            refine r_mmin jm_X5_23 js_min.1 js_min.2.1 js_min.2.2 dX5_toFire_58 (le_b rfl) (le_b rfl) (le_b rfl) (le_b rfl) ?_
            refine r_istore_n (L' := [some (vR (25, 0, 0)), some (vR (1, n0, 0)), some (vI c2), some (vI (if (u.1 (27, 0, x4.toNatClampNeg) c2.toNatClampNeg) < x3 then (u.1 (27, 0, x4.toNatClampNeg) c2.toNatClampNeg) else x3)), some (vI x4), some (vR (3, n0, p3))]) dX5_toFire_61 (by decide) rfl ?_
            refine r_iinc (x := x4) (v := x4 + (1 : Int32)) (L' := [some (vR (25, 0, 0)), some (vR (1, n0, 0)), some (vI c2), some (vI (if (u.1 (27, 0, x4.toNatClampNeg) c2.toNatClampNeg) < x3 then (u.1 (27, 0, x4.toNatClampNeg) c2.toNatClampNeg) else x3)), some (vI (x4 + (1 : Int32))), some (vR (3, n0, p3))]) dX5_toFire_62 rfl rfl (lt_b rfl) rfl ?_
            refine r_goto (tgt := 6) dX5_toFire_65 (by decide) ?_
            refine r_weak (L' := [some (vR (25, 0, 0)), some (vR (1, n0, 0)), some (vI c2), some (vI (if (u.1 (27, 0, x4.toNatClampNeg) c2.toNatClampNeg) < x3 then (u.1 (27, 0, x4.toNatClampNeg) c2.toNatClampNeg) else x3)), some (vI (x4 + (1 : Int32))), none]) (And.intro rfl (And.intro rfl (And.intro rfl (And.intro rfl (And.intro rfl trivial))))) ?_
            exact k1 _ (am_inj hf).symm
def f_X5_toFire (w : Nat) (a1 : Int32) (u : PM) : Option (Int32) :=
  (am_loop (f_X5_toFire_L6 w a1 u) 2000 ((1000000 : Int32), (0 : Int32))).bind fun y9 =>
  if (1000000 : Int32) ≤ y9 then
    some (-5 : Int32)
  else
  some y9
set_option maxHeartbeats 4000000 in
set_option maxRecDepth 20000 in
theorem C_X5_toFire {l : Launch} {w : Nat} (hw : w < 4) {a1 : Int32} {u : PM} {x : Int32} (hf : f_X5_toFire w a1 u = some x) : Ev l mX5_toFire 2 0 0 false [vR (25, 0, 0), vR (1, w, 0), vI a1] kC (en u) (some (vI x), kC, en u) := by
  refine Ev_of (by decide +kernel) (le_b rfl) ?_
  unfold f_X5_toFire at hf
  show X l mX5_toFire 2 0 0 false _ kC 0 0 0 [some (vR (25, 0, 0)), some (vR (1, w, 0)), some (vI a1), none, none, none] [] (en u)
  refine r_ldc (v := 1000000) dX5_toFire_0 cc_X5_32 ?_
  refine r_istore_n (L' := [some (vR (25, 0, 0)), some (vR (1, w, 0)), some (vI a1), some (vI (1000000 : Int32)), none, none]) dX5_toFire_2 (by decide) rfl ?_
  refine r_iconst (v := 0) dX5_toFire_3 rfl ?_
  refine r_istore (L' := [some (vR (25, 0, 0)), some (vR (1, w, 0)), some (vI a1), some (vI (1000000 : Int32)), some (vI (0 : Int32)), none]) dX5_toFire_4 (by decide) rfl ?_
  refine r_weak (L' := [some (vR (25, 0, 0)), some (vR (1, w, 0)), some (vI a1), some (vI (1000000 : Int32)), some (vI (0 : Int32)), none]) (And.intro rfl (And.intro rfl (And.intro rfl (And.intro rfl (And.intro rfl trivial))))) ?_
  obtain ⟨e7, he8, hf⟩ := am_bind hf
  refine K_X5_toFire_L6 hw 2000 ((1000000 : Int32), (0 : Int32)) _ he8 ?_
  obtain ⟨y9, rfl⟩ : ∃ z, z = e7 := ⟨_, rfl⟩
  show X l _ _ 0 0 false _ kC 0 0 68 [none, none, none, some (vI y9), none, none] [] (en u)
  refine r_iload_n (x := y9) dX5_toFire_68 rfl ?_
  refine r_ldc (v := 1000000) dX5_toFire_69 cc_X5_32 ?_
  refine r_icmp_ge (tgt := 78) dX5_toFire_71 (by decide) (fun hc => ?_) (fun hc => ?_)
  · have hf := (am_if hf).1 hc
    refine r_bipush (v := -5) dX5_toFire_78 rfl ?_
    have hx := am_inj hf
    subst hx
    exact r_iret dX5_toFire_80 rfl rfl (le_b rfl) (le_b rfl)
  · have hf := (am_if hf).2 hc
    refine r_iload_n (x := y9) dX5_toFire_74 rfl ?_
    refine r_goto (tgt := 80) dX5_toFire_75 (by decide) ?_
    have hx := am_inj hf
    subst hx
    exact r_iret dX5_toFire_80 rfl rfl (le_b rfl) (le_b rfl)
/-! FireFromFire$Paths.widest -/
theorem dX5_widest_0 : decode cX5_widest 0 = .ok (.iconst 0, 1) := by decide +kernel
theorem dX5_widest_1 : decode cX5_widest 1 = .ok (.istore_n 1, 1) := by decide +kernel
theorem dX5_widest_2 : decode cX5_widest 2 = .ok (.iconst 0, 1) := by decide +kernel
theorem dX5_widest_3 : decode cX5_widest 3 = .ok (.istore_n 2, 1) := by decide +kernel
theorem dX5_widest_4 : decode cX5_widest 4 = .ok (.iload_n 2, 1) := by decide +kernel
theorem dX5_widest_5 : decode cX5_widest 5 = .ok (.aload_n 0, 1) := by decide +kernel
theorem dX5_widest_6 : decode cX5_widest 6 = .ok (.getfield 16, 3) := by decide +kernel
theorem dX5_widest_9 : decode cX5_widest 9 = .ok (.if_icmp .ge 38, 3) := by decide +kernel
theorem dX5_widest_12 : decode cX5_widest 12 = .ok (.iconst 0, 1) := by decide +kernel
theorem dX5_widest_13 : decode cX5_widest 13 = .ok (.istore_n 3, 1) := by decide +kernel
theorem dX5_widest_14 : decode cX5_widest 14 = .ok (.iload_n 3, 1) := by decide +kernel
theorem dX5_widest_15 : decode cX5_widest 15 = .ok (.aload_n 0, 1) := by decide +kernel
theorem dX5_widest_16 : decode cX5_widest 16 = .ok (.getfield 16, 3) := by decide +kernel
theorem dX5_widest_19 : decode cX5_widest 19 = .ok (.if_icmp .ge 22, 3) := by decide +kernel
theorem dX5_widest_22 : decode cX5_widest 22 = .ok (.iload_n 1, 1) := by decide +kernel
theorem dX5_widest_23 : decode cX5_widest 23 = .ok (.aload_n 0, 1) := by decide +kernel
theorem dX5_widest_24 : decode cX5_widest 24 = .ok (.getfield 11, 3) := by decide +kernel
theorem dX5_widest_27 : decode cX5_widest 27 = .ok (.iload_n 2, 1) := by decide +kernel
theorem dX5_widest_28 : decode cX5_widest 28 = .ok (.aaload, 1) := by decide +kernel
theorem dX5_widest_29 : decode cX5_widest 29 = .ok (.iload_n 3, 1) := by decide +kernel
theorem dX5_widest_30 : decode cX5_widest 30 = .ok (.iaload, 1) := by decide +kernel
theorem dX5_widest_31 : decode cX5_widest 31 = .ok (.invokestatic 43, 3) := by decide +kernel
theorem dX5_widest_34 : decode cX5_widest 34 = .ok (.istore_n 1, 1) := by decide +kernel
theorem dX5_widest_35 : decode cX5_widest 35 = .ok (.iinc 3 1, 3) := by decide +kernel
theorem dX5_widest_38 : decode cX5_widest 38 = .ok (.goto (-24), 3) := by decide +kernel
theorem dX5_widest_41 : decode cX5_widest 41 = .ok (.iinc 2 1, 3) := by decide +kernel
theorem dX5_widest_44 : decode cX5_widest 44 = .ok (.goto (-40), 3) := by decide +kernel
theorem dX5_widest_47 : decode cX5_widest 47 = .ok (.iload_n 1, 1) := by decide +kernel
theorem dX5_widest_48 : decode cX5_widest 48 = .ok (.ldc 32, 2) := by decide +kernel
theorem dX5_widest_50 : decode cX5_widest 50 = .ok (.if_icmp .ge 7, 3) := by decide +kernel
theorem dX5_widest_53 : decode cX5_widest 53 = .ok (.iload_n 1, 1) := by decide +kernel
theorem dX5_widest_54 : decode cX5_widest 54 = .ok (.goto 5, 3) := by decide +kernel
theorem dX5_widest_57 : decode cX5_widest 57 = .ok (.bipush (-5), 2) := by decide +kernel
theorem dX5_widest_59 : decode cX5_widest 59 = .ok (.ireturn, 1) := by decide +kernel
def f_X5_widest_L14  (c2 : Int32) (u : PM) : Int32 × Int32 → Option ((Int32 × Int32) ⊕ (Int32)) := fun (x1 , x3) =>
  if (u.1 (25, 0, 0) 1) ≤ x3 then
    some (.inr (x1))
  else
  if c2 < 0 ∨ 6 ≤ c2.toNatClampNeg then none else
  if x3 < 0 ∨ 6 ≤ x3.toNatClampNeg then none else
  some (.inl ((if x1 < (u.1 (27, 0, c2.toNatClampNeg) x3.toNatClampNeg) then (u.1 (27, 0, c2.toNatClampNeg) x3.toNatClampNeg) else x1), x3 + (1 : Int32)))
set_option maxHeartbeats 4000000 in
set_option maxRecDepth 20000 in
theorem K_X5_widest_L14 {l : Launch} {T : Option AV × List Key × AM}  {c2 : Int32} {u : PM} : ∀ (n : Nat) (s : Int32 × Int32) (e0 : Int32), am_loop (f_X5_widest_L14 c2 u) n s = some e0 → (fun e : Int32 => X l mX5_widest 2 0 0 false T kC 0 0 41 [some (vR (25, 0, 0)), some (vI e), some (vI c2), none] [] (en u)) e0 → X l mX5_widest 2 0 0 false T kC 0 0 14 [some (vR (25, 0, 0)), some (vI s.1), some (vI c2), some (vI s.2)] [] (en u) := by
  refine am_loop_of ?_
  intro s x hf k1 k2
  obtain ⟨x1 , x3⟩ := s
  unfold f_X5_widest_L14 at hf
  show X l mX5_widest 2 0 0 false T kC 0 0 14 [some (vR (25, 0, 0)), some (vI x1), some (vI c2), some (vI x3)] [] (en u)
  refine r_iload_n (x := x3) dX5_widest_14 rfl ?_
  refine r_aload_n (x := (25, 0, 0)) dX5_widest_15 rfl ?_
  refine e_geti fw_X5_16 dX5_widest_16 (kC_mem (s := 25) (by decide) (by decide) (by decide)) rfl (lt_b rfl) ?_
  refine r_icmp_ge (tgt := 41) dX5_widest_19 (by decide) (fun hc => ?_) (fun hc => ?_)
  · have hf := (am_if hf).1 hc
    refine r_weak (L' := [some (vR (25, 0, 0)), some (vI x1), some (vI c2), none]) (And.intro rfl (And.intro rfl (And.intro rfl trivial))) ?_
    exact k2 _ (am_inj hf).symm
  · have hf := (am_if hf).2 hc
    refine r_iload_n (x := x1) dX5_widest_22 rfl ?_
    refine r_aload_n (x := (25, 0, 0)) dX5_widest_23 rfl ?_
    refine e_getr (z := some (26, 0, 0)) fw_X5_11 dX5_widest_24 (kC_mem (s := 25) (by decide) (by decide) (by decide)) rfl (lt_b rfl) rfl ?_
    refine r_iload_n (x := c2) dX5_widest_27 rfl ?_
    obtain ⟨h1, hf⟩ := am_nchk hf
    refine e_aald (n := c2.toNatClampNeg) (z := some (27, 0, c2.toNatClampNeg)) dX5_widest_28 (kC_mem (s := 26) (by decide) (by decide) (by decide)) ⟨le_b rfl, lt_b rfl⟩ h1 rfl rfl ?_
    refine r_iload_n (x := x3) dX5_widest_29 rfl ?_
    obtain ⟨h2, hf⟩ := am_nchk hf
    refine e_iald (n := x3.toNatClampNeg) dX5_widest_30 (kC_mem (s := 27) (by decide) (by decide) (vp_lt h1)) rfl h2 rfl rfl ?_
    refine r_mmax jm_X5_43 js_max.1 js_max.2.1 js_max.2.2 dX5_widest_31 (le_b rfl) (le_b rfl) (le_b rfl) (le_b rfl) ?_
    refine r_istore_n (L' := [some (vR (25, 0, 0)), some (vI (if x1 < (u.1 (27, 0, c2.toNatClampNeg) x3.toNatClampNeg) then (u.1 (27, 0, c2.toNatClampNeg) x3.toNatClampNeg) else x1)), some (vI c2), some (vI x3)]) dX5_widest_34 (by decide) rfl ?_
    refine r_iinc (x := x3) (v := x3 + (1 : Int32)) (L' := [some (vR (25, 0, 0)), some (vI (if x1 < (u.1 (27, 0, c2.toNatClampNeg) x3.toNatClampNeg) then (u.1 (27, 0, c2.toNatClampNeg) x3.toNatClampNeg) else x1)), some (vI c2), some (vI (x3 + (1 : Int32)))]) dX5_widest_35 rfl rfl (lt_b rfl) rfl ?_
    refine r_goto (tgt := 14) dX5_widest_38 (by decide) ?_
    refine r_weak (L' := [some (vR (25, 0, 0)), some (vI (if x1 < (u.1 (27, 0, c2.toNatClampNeg) x3.toNatClampNeg) then (u.1 (27, 0, c2.toNatClampNeg) x3.toNatClampNeg) else x1)), some (vI c2), some (vI (x3 + (1 : Int32)))]) (And.intro rfl (And.intro rfl (And.intro rfl (And.intro rfl trivial)))) ?_
    exact k1 _ (am_inj hf).symm
def f_X5_widest_L4   (u : PM) : Int32 × Int32 → Option ((Int32 × Int32) ⊕ (Int32)) := fun (x1 , x2) =>
  if (u.1 (25, 0, 0) 1) ≤ x2 then
    some (.inr (x1))
  else
  (am_loop (f_X5_widest_L14 x2 u) 2000 (x1, (0 : Int32))).bind fun y5 =>
  some (.inl (y5, x2 + (1 : Int32)))
set_option maxHeartbeats 4000000 in
set_option maxRecDepth 20000 in
theorem K_X5_widest_L4 {l : Launch} {T : Option AV × List Key × AM}   {u : PM} : ∀ (n : Nat) (s : Int32 × Int32) (e0 : Int32), am_loop (f_X5_widest_L4 u) n s = some e0 → (fun e : Int32 => X l mX5_widest 2 0 0 false T kC 0 0 47 [none, some (vI e), none, none] [] (en u)) e0 → X l mX5_widest 2 0 0 false T kC 0 0 4 [some (vR (25, 0, 0)), some (vI s.1), some (vI s.2), none] [] (en u) := by
  refine am_loop_of ?_
  intro s x hf k1 k2
  obtain ⟨x1 , x2⟩ := s
  unfold f_X5_widest_L4 at hf
  show X l mX5_widest 2 0 0 false T kC 0 0 4 [some (vR (25, 0, 0)), some (vI x1), some (vI x2), none] [] (en u)
  refine r_iload_n (x := x2) dX5_widest_4 rfl ?_
  refine r_aload_n (x := (25, 0, 0)) dX5_widest_5 rfl ?_
  refine e_geti fw_X5_16 dX5_widest_6 (kC_mem (s := 25) (by decide) (by decide) (by decide)) rfl (lt_b rfl) ?_
  refine r_icmp_ge (tgt := 47) dX5_widest_9 (by decide) (fun hc => ?_) (fun hc => ?_)
  · have hf := (am_if hf).1 hc
    refine r_weak (L' := [none, some (vI x1), none, none]) (And.intro rfl trivial) ?_
    exact k2 _ (am_inj hf).symm
  · have hf := (am_if hf).2 hc
    refine r_iconst (v := 0) dX5_widest_12 rfl ?_
    refine r_istore_n (L' := [some (vR (25, 0, 0)), some (vI x1), some (vI x2), some (vI (0 : Int32))]) dX5_widest_13 (by decide) rfl ?_
    refine r_weak (L' := [some (vR (25, 0, 0)), some (vI x1), some (vI x2), some (vI (0 : Int32))]) (And.intro rfl (And.intro rfl (And.intro rfl (And.intro rfl trivial)))) ?_
    obtain ⟨e3, he4, hf⟩ := am_bind hf
    refine K_X5_widest_L14  2000 (x1, (0 : Int32)) _ he4 ?_
    obtain ⟨y5, rfl⟩ : ∃ z, z = e3 := ⟨_, rfl⟩
    show X l _ _ 0 0 false _ kC 0 0 41 [some (vR (25, 0, 0)), some (vI y5), some (vI x2), none] [] (en u)
    refine r_iinc (x := x2) (v := x2 + (1 : Int32)) (L' := [some (vR (25, 0, 0)), some (vI y5), some (vI (x2 + (1 : Int32))), none]) dX5_widest_41 rfl rfl (lt_b rfl) rfl ?_
    refine r_goto (tgt := 4) dX5_widest_44 (by decide) ?_
    refine r_weak (L' := [some (vR (25, 0, 0)), some (vI y5), some (vI (x2 + (1 : Int32))), none]) (And.intro rfl (And.intro rfl (And.intro rfl trivial))) ?_
    exact k1 _ (am_inj hf).symm
def f_X5_widest   (u : PM) : Option (Int32) :=
  (am_loop (f_X5_widest_L4 u) 2000 ((0 : Int32), (0 : Int32))).bind fun y8 =>
  if (1000000 : Int32) ≤ y8 then
    some (-5 : Int32)
  else
  some y8
set_option maxHeartbeats 4000000 in
set_option maxRecDepth 20000 in
theorem C_X5_widest {l : Launch}   {u : PM} {x : Int32} (hf : f_X5_widest u = some x) : Ev l mX5_widest 2 0 0 false [vR (25, 0, 0)] kC (en u) (some (vI x), kC, en u) := by
  refine Ev_of (by decide +kernel) (le_b rfl) ?_
  unfold f_X5_widest at hf
  show X l mX5_widest 2 0 0 false _ kC 0 0 0 [some (vR (25, 0, 0)), none, none, none] [] (en u)
  refine r_iconst (v := 0) dX5_widest_0 rfl ?_
  refine r_istore_n (L' := [some (vR (25, 0, 0)), some (vI (0 : Int32)), none, none]) dX5_widest_1 (by decide) rfl ?_
  refine r_iconst (v := 0) dX5_widest_2 rfl ?_
  refine r_istore_n (L' := [some (vR (25, 0, 0)), some (vI (0 : Int32)), some (vI (0 : Int32)), none]) dX5_widest_3 (by decide) rfl ?_
  refine r_weak (L' := [some (vR (25, 0, 0)), some (vI (0 : Int32)), some (vI (0 : Int32)), none]) (And.intro rfl (And.intro rfl (And.intro rfl trivial))) ?_
  obtain ⟨e6, he7, hf⟩ := am_bind hf
  refine K_X5_widest_L4  2000 ((0 : Int32), (0 : Int32)) _ he7 ?_
  obtain ⟨y8, rfl⟩ : ∃ z, z = e6 := ⟨_, rfl⟩
  show X l _ _ 0 0 false _ kC 0 0 47 [none, some (vI y8), none, none] [] (en u)
  refine r_iload_n (x := y8) dX5_widest_47 rfl ?_
  refine r_ldc (v := 1000000) dX5_widest_48 cc_X5_32 ?_
  refine r_icmp_ge (tgt := 57) dX5_widest_50 (by decide) (fun hc => ?_) (fun hc => ?_)
  · have hf := (am_if hf).1 hc
    refine r_bipush (v := -5) dX5_widest_57 rfl ?_
    have hx := am_inj hf
    subst hx
    exact r_iret dX5_widest_59 rfl rfl (le_b rfl) (le_b rfl)
  · have hf := (am_if hf).2 hc
    refine r_iload_n (x := y8) dX5_widest_53 rfl ?_
    refine r_goto (tgt := 59) dX5_widest_54 (by decide) ?_
    have hx := am_inj hf
    subst hx
    exact r_iret dX5_widest_59 rfl rfl (le_b rfl) (le_b rfl)
/-! FireFromFire$Paths.isReached -/
theorem dX5_isReached_0 : decode cX5_isReached 0 = .ok (.iconst 0, 1) := by decide +kernel
theorem dX5_isReached_1 : decode cX5_isReached 1 = .ok (.istore_n 3, 1) := by decide +kernel
theorem dX5_isReached_2 : decode cX5_isReached 2 = .ok (.iload_n 3, 1) := by decide +kernel
theorem dX5_isReached_3 : decode cX5_isReached 3 = .ok (.aload_n 0, 1) := by decide +kernel
theorem dX5_isReached_4 : decode cX5_isReached 4 = .ok (.getfield 16, 3) := by decide +kernel
theorem dX5_isReached_7 : decode cX5_isReached 7 = .ok (.if_icmp .ge 71, 3) := by decide +kernel
theorem dX5_isReached_10 : decode cX5_isReached 10 = .ok (.iconst 0, 1) := by decide +kernel
theorem dX5_isReached_11 : decode cX5_isReached 11 = .ok (.istore 4, 2) := by decide +kernel
theorem dX5_isReached_13 : decode cX5_isReached 13 = .ok (.iconst 0, 1) := by decide +kernel
theorem dX5_isReached_14 : decode cX5_isReached 14 = .ok (.istore 5, 2) := by decide +kernel
theorem dX5_isReached_16 : decode cX5_isReached 16 = .ok (.iload 5, 2) := by decide +kernel
theorem dX5_isReached_18 : decode cX5_isReached 18 = .ok (.aload_n 0, 1) := by decide +kernel
theorem dX5_isReached_19 : decode cX5_isReached 19 = .ok (.getfield 16, 3) := by decide +kernel
theorem dX5_isReached_22 : decode cX5_isReached 22 = .ok (.if_icmp .ge 43, 3) := by decide +kernel
theorem dX5_isReached_25 : decode cX5_isReached 25 = .ok (.iload 4, 2) := by decide +kernel
theorem dX5_isReached_27 : decode cX5_isReached 27 = .ok (.ifCond .ne 25, 3) := by decide +kernel
theorem dX5_isReached_30 : decode cX5_isReached 30 = .ok (.iload_n 1, 1) := by decide +kernel
theorem dX5_isReached_31 : decode cX5_isReached 31 = .ok (.iload 5, 2) := by decide +kernel
theorem dX5_isReached_33 : decode cX5_isReached 33 = .ok (.ishr, 1) := by decide +kernel
theorem dX5_isReached_34 : decode cX5_isReached 34 = .ok (.iconst 1, 1) := by decide +kernel
theorem dX5_isReached_35 : decode cX5_isReached 35 = .ok (.iand, 1) := by decide +kernel
theorem dX5_isReached_36 : decode cX5_isReached 36 = .ok (.ifCond .eq 20, 3) := by decide +kernel
theorem dX5_isReached_39 : decode cX5_isReached 39 = .ok (.aload_n 0, 1) := by decide +kernel
theorem dX5_isReached_40 : decode cX5_isReached 40 = .ok (.getfield 11, 3) := by decide +kernel
theorem dX5_isReached_43 : decode cX5_isReached 43 = .ok (.iload 5, 2) := by decide +kernel
theorem dX5_isReached_45 : decode cX5_isReached 45 = .ok (.aaload, 1) := by decide +kernel
theorem dX5_isReached_46 : decode cX5_isReached 46 = .ok (.iload_n 3, 1) := by decide +kernel
theorem dX5_isReached_47 : decode cX5_isReached 47 = .ok (.iaload, 1) := by decide +kernel
theorem dX5_isReached_48 : decode cX5_isReached 48 = .ok (.iload_n 2, 1) := by decide +kernel
theorem dX5_isReached_49 : decode cX5_isReached 49 = .ok (.if_icmp .gt 7, 3) := by decide +kernel
theorem dX5_isReached_52 : decode cX5_isReached 52 = .ok (.iconst 1, 1) := by decide +kernel
theorem dX5_isReached_53 : decode cX5_isReached 53 = .ok (.goto 4, 3) := by decide +kernel
theorem dX5_isReached_56 : decode cX5_isReached 56 = .ok (.iconst 0, 1) := by decide +kernel
theorem dX5_isReached_57 : decode cX5_isReached 57 = .ok (.istore 4, 2) := by decide +kernel
theorem dX5_isReached_59 : decode cX5_isReached 59 = .ok (.iinc 5 1, 3) := by decide +kernel
theorem dX5_isReached_62 : decode cX5_isReached 62 = .ok (.goto (-46), 3) := by decide +kernel
theorem dX5_isReached_65 : decode cX5_isReached 65 = .ok (.iload 4, 2) := by decide +kernel
theorem dX5_isReached_67 : decode cX5_isReached 67 = .ok (.ifCond .ne 5, 3) := by decide +kernel
theorem dX5_isReached_70 : decode cX5_isReached 70 = .ok (.iconst 0, 1) := by decide +kernel
theorem dX5_isReached_71 : decode cX5_isReached 71 = .ok (.ireturn, 1) := by decide +kernel
theorem dX5_isReached_72 : decode cX5_isReached 72 = .ok (.iinc 3 1, 3) := by decide +kernel
theorem dX5_isReached_75 : decode cX5_isReached 75 = .ok (.goto (-73), 3) := by decide +kernel
theorem dX5_isReached_78 : decode cX5_isReached 78 = .ok (.iconst 1, 1) := by decide +kernel
theorem dX5_isReached_79 : decode cX5_isReached 79 = .ok (.ireturn, 1) := by decide +kernel
def f_X5_isReached_L16  (c1 : Int32) (c2 : Int32) (c3 : Int32) (u : PM) : Int32 × Int32 → Option ((Int32 × Int32) ⊕ (Int32)) := fun (x4 , x5) =>
  if (u.1 (25, 0, 0) 1) ≤ x5 then
    some (.inr (x4))
  else
  if x4 = 0 then
    if ((c1 >>> (x5 &&& 31)) &&& (1 : Int32)) = 0 then
      some (.inl ((0 : Int32), x5 + (1 : Int32)))
    else
    if x5 < 0 ∨ 6 ≤ x5.toNatClampNeg then none else
    if c3 < 0 ∨ 6 ≤ c3.toNatClampNeg then none else
    if c2 < (u.1 (27, 0, x5.toNatClampNeg) c3.toNatClampNeg) then
      some (.inl ((0 : Int32), x5 + (1 : Int32)))
    else
    some (.inl ((1 : Int32), x5 + (1 : Int32)))
  else
  some (.inl ((1 : Int32), x5 + (1 : Int32)))
set_option maxHeartbeats 4000000 in
set_option maxRecDepth 20000 in
theorem K_X5_isReached_L16 {l : Launch} {T : Option AV × List Key × AM}  {c1 : Int32} {c2 : Int32} {c3 : Int32} {u : PM} : ∀ (n : Nat) (s : Int32 × Int32) (e0 : Int32), am_loop (f_X5_isReached_L16 c1 c2 c3 u) n s = some e0 → (fun e : Int32 => X l mX5_isReached 1 0 0 false T kC 0 0 65 [some (vR (25, 0, 0)), some (vI c1), some (vI c2), some (vI c3), some (vI e), none] [] (en u)) e0 → X l mX5_isReached 1 0 0 false T kC 0 0 16 [some (vR (25, 0, 0)), some (vI c1), some (vI c2), some (vI c3), some (vI s.1), some (vI s.2)] [] (en u) := by
  refine am_loop_of ?_
  intro s x hf k1 k2
  obtain ⟨x4 , x5⟩ := s
  unfold f_X5_isReached_L16 at hf
  show X l mX5_isReached 1 0 0 false T kC 0 0 16 [some (vR (25, 0, 0)), some (vI c1), some (vI c2), some (vI c3), some (vI x4), some (vI x5)] [] (en u)
  refine r_iload (x := x5) dX5_isReached_16 rfl ?_
  refine r_aload_n (x := (25, 0, 0)) dX5_isReached_18 rfl ?_
  refine e_geti fw_X5_16 dX5_isReached_19 (kC_mem (s := 25) (by decide) (by decide) (by decide)) rfl (lt_b rfl) ?_
  refine r_icmp_ge (tgt := 65) dX5_isReached_22 (by decide) (fun hc => ?_) (fun hc => ?_)
  · have hf := (am_if hf).1 hc
    refine r_weak (L' := [some (vR (25, 0, 0)), some (vI c1), some (vI c2), some (vI c3), some (vI x4), none]) (And.intro rfl (And.intro rfl (And.intro rfl (And.intro rfl (And.intro rfl trivial))))) ?_
    exact k2 _ (am_inj hf).symm
  · have hf := (am_if hf).2 hc
    refine r_iload (x := x4) dX5_isReached_25 rfl ?_
    refine r_if_ne (tgt := 52) dX5_isReached_27 (by decide) (fun hc => ?_) (fun hc => ?_)
    · have hf := (am_if hf).2 hc
      refine r_iconst (v := 1) dX5_isReached_52 rfl ?_
      refine r_goto (tgt := 57) dX5_isReached_53 (by decide) ?_
      refine r_istore (L' := [some (vR (25, 0, 0)), some (vI c1), some (vI c2), some (vI c3), some (vI (1 : Int32)), some (vI x5)]) dX5_isReached_57 (by decide) rfl ?_
      refine r_iinc (x := x5) (v := x5 + (1 : Int32)) (L' := [some (vR (25, 0, 0)), some (vI c1), some (vI c2), some (vI c3), some (vI (1 : Int32)), some (vI (x5 + (1 : Int32)))]) dX5_isReached_59 rfl rfl (lt_b rfl) rfl ?_
      refine r_goto (tgt := 16) dX5_isReached_62 (by decide) ?_
      refine r_weak (L' := [some (vR (25, 0, 0)), some (vI c1), some (vI c2), some (vI c3), some (vI (1 : Int32)), some (vI (x5 + (1 : Int32)))]) (And.intro rfl (And.intro rfl (And.intro rfl (And.intro rfl (And.intro rfl (And.intro rfl trivial)))))) ?_
      exact k1 _ (am_inj hf).symm
    · have hf := (am_if hf).1 hc
      refine r_iload_n (x := c1) dX5_isReached_30 rfl ?_
      refine r_iload (x := x5) dX5_isReached_31 rfl ?_
      refine r_ishr dX5_isReached_33 ?_
      refine r_iconst (v := 1) dX5_isReached_34 rfl ?_
      refine r_iand dX5_isReached_35 ?_
      refine r_if_eq (tgt := 56) dX5_isReached_36 (by decide) (fun hc => ?_) (fun hc => ?_)
      · have hf := (am_if hf).1 hc
        refine r_iconst (v := 0) dX5_isReached_56 rfl ?_
        refine r_istore (L' := [some (vR (25, 0, 0)), some (vI c1), some (vI c2), some (vI c3), some (vI (0 : Int32)), some (vI x5)]) dX5_isReached_57 (by decide) rfl ?_
        refine r_iinc (x := x5) (v := x5 + (1 : Int32)) (L' := [some (vR (25, 0, 0)), some (vI c1), some (vI c2), some (vI c3), some (vI (0 : Int32)), some (vI (x5 + (1 : Int32)))]) dX5_isReached_59 rfl rfl (lt_b rfl) rfl ?_
        refine r_goto (tgt := 16) dX5_isReached_62 (by decide) ?_
        refine r_weak (L' := [some (vR (25, 0, 0)), some (vI c1), some (vI c2), some (vI c3), some (vI (0 : Int32)), some (vI (x5 + (1 : Int32)))]) (And.intro rfl (And.intro rfl (And.intro rfl (And.intro rfl (And.intro rfl (And.intro rfl trivial)))))) ?_
        exact k1 _ (am_inj hf).symm
      · have hf := (am_if hf).2 hc
        refine r_aload_n (x := (25, 0, 0)) dX5_isReached_39 rfl ?_
        refine e_getr (z := some (26, 0, 0)) fw_X5_11 dX5_isReached_40 (kC_mem (s := 25) (by decide) (by decide) (by decide)) rfl (lt_b rfl) rfl ?_
        refine r_iload (x := x5) dX5_isReached_43 rfl ?_
        obtain ⟨h1, hf⟩ := am_nchk hf
        refine e_aald (n := x5.toNatClampNeg) (z := some (27, 0, x5.toNatClampNeg)) dX5_isReached_45 (kC_mem (s := 26) (by decide) (by decide) (by decide)) ⟨le_b rfl, lt_b rfl⟩ h1 rfl rfl ?_
        refine r_iload_n (x := c3) dX5_isReached_46 rfl ?_
        obtain ⟨h2, hf⟩ := am_nchk hf
        refine e_iald (n := c3.toNatClampNeg) dX5_isReached_47 (kC_mem (s := 27) (by decide) (by decide) (vp_lt h1)) rfl h2 rfl rfl ?_
        refine r_iload_n (x := c2) dX5_isReached_48 rfl ?_
        refine r_icmp_gt (tgt := 56) dX5_isReached_49 (by decide) (fun hc => ?_) (fun hc => ?_)
        · have hf := (am_if hf).1 hc
          refine r_iconst (v := 0) dX5_isReached_56 rfl ?_
          refine r_istore (L' := [some (vR (25, 0, 0)), some (vI c1), some (vI c2), some (vI c3), some (vI (0 : Int32)), some (vI x5)]) dX5_isReached_57 (by decide) rfl ?_
          refine r_iinc (x := x5) (v := x5 + (1 : Int32)) (L' := [some (vR (25, 0, 0)), some (vI c1), some (vI c2), some (vI c3), some (vI (0 : Int32)), some (vI (x5 + (1 : Int32)))]) dX5_isReached_59 rfl rfl (lt_b rfl) rfl ?_
          refine r_goto (tgt := 16) dX5_isReached_62 (by decide) ?_
          refine r_weak (L' := [some (vR (25, 0, 0)), some (vI c1), some (vI c2), some (vI c3), some (vI (0 : Int32)), some (vI (x5 + (1 : Int32)))]) (And.intro rfl (And.intro rfl (And.intro rfl (And.intro rfl (And.intro rfl (And.intro rfl trivial)))))) ?_
          exact k1 _ (am_inj hf).symm
        · have hf := (am_if hf).2 hc
          refine r_iconst (v := 1) dX5_isReached_52 rfl ?_
          refine r_goto (tgt := 57) dX5_isReached_53 (by decide) ?_
          refine r_istore (L' := [some (vR (25, 0, 0)), some (vI c1), some (vI c2), some (vI c3), some (vI (1 : Int32)), some (vI x5)]) dX5_isReached_57 (by decide) rfl ?_
          refine r_iinc (x := x5) (v := x5 + (1 : Int32)) (L' := [some (vR (25, 0, 0)), some (vI c1), some (vI c2), some (vI c3), some (vI (1 : Int32)), some (vI (x5 + (1 : Int32)))]) dX5_isReached_59 rfl rfl (lt_b rfl) rfl ?_
          refine r_goto (tgt := 16) dX5_isReached_62 (by decide) ?_
          refine r_weak (L' := [some (vR (25, 0, 0)), some (vI c1), some (vI c2), some (vI c3), some (vI (1 : Int32)), some (vI (x5 + (1 : Int32)))]) (And.intro rfl (And.intro rfl (And.intro rfl (And.intro rfl (And.intro rfl (And.intro rfl trivial)))))) ?_
          exact k1 _ (am_inj hf).symm
def f_X5_isReached_L2  (c1 : Int32) (c2 : Int32) (u : PM) : Int32 → Option ((Int32) ⊕ ((Int32) ⊕ (Unit))) := fun x3 =>
  if (u.1 (25, 0, 0) 1) ≤ x3 then
    some (.inr (.inr ()))
  else
  (am_loop (f_X5_isReached_L16 c1 c2 x3 u) 2000 ((0 : Int32), (0 : Int32))).bind fun y5 =>
  if y5 = 0 then
    some (.inr (.inl (0 : Int32)))
  else
  some (.inl (x3 + (1 : Int32)))
set_option maxHeartbeats 4000000 in
set_option maxRecDepth 20000 in
theorem K_X5_isReached_L2 {l : Launch} {T : Option AV × List Key × AM}  {c1 : Int32} {c2 : Int32} {u : PM} : ∀ (n : Nat) (s : Int32) (e0 : (Int32) ⊕ (Unit)), am_loop (f_X5_isReached_L2 c1 c2 u) n s = some e0 → Sum.elim (fun r : Int32 => T = (some (vI r), kC, en u)) (fun e : Unit => X l mX5_isReached 1 0 0 false T kC 0 0 78 [none, none, none, none, none, none] [] (en u)) e0 → X l mX5_isReached 1 0 0 false T kC 0 0 2 [some (vR (25, 0, 0)), some (vI c1), some (vI c2), some (vI s), none, none] [] (en u) := by
  refine am_loop_of ?_
  intro s x hf k1 k2
  obtain ⟨x3, rfl⟩ : ∃ z, z = s := ⟨_, rfl⟩
  unfold f_X5_isReached_L2 at hf
  show X l mX5_isReached 1 0 0 false T kC 0 0 2 [some (vR (25, 0, 0)), some (vI c1), some (vI c2), some (vI x3), none, none] [] (en u)
  refine r_iload_n (x := x3) dX5_isReached_2 rfl ?_
  refine r_aload_n (x := (25, 0, 0)) dX5_isReached_3 rfl ?_
  refine e_geti fw_X5_16 dX5_isReached_4 (kC_mem (s := 25) (by decide) (by decide) (by decide)) rfl (lt_b rfl) ?_
  refine r_icmp_ge (tgt := 78) dX5_isReached_7 (by decide) (fun hc => ?_) (fun hc => ?_)
  · have hf := (am_if hf).1 hc
    refine r_weak (L' := [none, none, none, none, none, none]) trivial ?_
    exact k2 _ (am_inj hf).symm
  · have hf := (am_if hf).2 hc
    refine r_iconst (v := 0) dX5_isReached_10 rfl ?_
    refine r_istore (L' := [some (vR (25, 0, 0)), some (vI c1), some (vI c2), some (vI x3), some (vI (0 : Int32)), none]) dX5_isReached_11 (by decide) rfl ?_
    refine r_iconst (v := 0) dX5_isReached_13 rfl ?_
    refine r_istore (L' := [some (vR (25, 0, 0)), some (vI c1), some (vI c2), some (vI x3), some (vI (0 : Int32)), some (vI (0 : Int32))]) dX5_isReached_14 (by decide) rfl ?_
    refine r_weak (L' := [some (vR (25, 0, 0)), some (vI c1), some (vI c2), some (vI x3), some (vI (0 : Int32)), some (vI (0 : Int32))]) (And.intro rfl (And.intro rfl (And.intro rfl (And.intro rfl (And.intro rfl (And.intro rfl trivial)))))) ?_
    obtain ⟨e3, he4, hf⟩ := am_bind hf
    refine K_X5_isReached_L16  2000 ((0 : Int32), (0 : Int32)) _ he4 ?_
    obtain ⟨y5, rfl⟩ : ∃ z, z = e3 := ⟨_, rfl⟩
    show X l _ _ 0 0 false _ kC 0 0 65 [some (vR (25, 0, 0)), some (vI c1), some (vI c2), some (vI x3), some (vI y5), none] [] (en u)
    refine r_iload (x := y5) dX5_isReached_65 rfl ?_
    refine r_if_ne (tgt := 72) dX5_isReached_67 (by decide) (fun hc => ?_) (fun hc => ?_)
    · have hf := (am_if hf).2 hc
      refine r_iinc (x := x3) (v := x3 + (1 : Int32)) (L' := [some (vR (25, 0, 0)), some (vI c1), some (vI c2), some (vI (x3 + (1 : Int32))), some (vI y5), none]) dX5_isReached_72 rfl rfl (lt_b rfl) rfl ?_
      refine r_goto (tgt := 2) dX5_isReached_75 (by decide) ?_
      refine r_weak (L' := [some (vR (25, 0, 0)), some (vI c1), some (vI c2), some (vI (x3 + (1 : Int32))), none, none]) (And.intro rfl (And.intro rfl (And.intro rfl (And.intro rfl trivial)))) ?_
      exact k1 _ (am_inj hf).symm
    · have hf := (am_if hf).1 hc
      refine r_iconst (v := 0) dX5_isReached_70 rfl ?_
      have hT := k2 _ (am_inj hf).symm
      replace hT : T = (some (vI (0 : Int32)), kC, en u) := hT
      subst hT
      exact r_iret dX5_isReached_71 rfl (am_bool (x := 0) (by decide)).1 (le_b rfl) (le_b rfl)
def f_X5_isReached  (a0 : Int32) (a1 : Int32) (u : PM) : Option (Int32) :=
  (am_loop (f_X5_isReached_L2 a0 a1 u) 2000 ((0 : Int32))).bind fun e6 =>
  match e6 with
  | .inl q8 => some q8
  | .inr _ =>
    some (1 : Int32)
set_option maxHeartbeats 4000000 in
set_option maxRecDepth 20000 in
theorem C_X5_isReached {l : Launch}  {a0 : Int32} {a1 : Int32} {u : PM} {x : Int32} (hf : f_X5_isReached a0 a1 u = some x) : Ev l mX5_isReached 1 0 0 false [vR (25, 0, 0), vI a0, vI a1] kC (en u) (some (vI x), kC, en u) := by
  refine Ev_of (by decide +kernel) (le_b rfl) ?_
  unfold f_X5_isReached at hf
  show X l mX5_isReached 1 0 0 false _ kC 0 0 0 [some (vR (25, 0, 0)), some (vI a0), some (vI a1), none, none, none] [] (en u)
  refine r_iconst (v := 0) dX5_isReached_0 rfl ?_
  refine r_istore_n (L' := [some (vR (25, 0, 0)), some (vI a0), some (vI a1), some (vI (0 : Int32)), none, none]) dX5_isReached_1 (by decide) rfl ?_
  refine r_weak (L' := [some (vR (25, 0, 0)), some (vI a0), some (vI a1), some (vI (0 : Int32)), none, none]) (And.intro rfl (And.intro rfl (And.intro rfl (And.intro rfl trivial)))) ?_
  obtain ⟨e6, he7, hf⟩ := am_bind hf
  refine K_X5_isReached_L2  2000 ((0 : Int32)) _ he7 ?_
  rcases e6 with q8 | e6
  · have hx := am_inj hf
    subst hx
    rfl
  · show X l _ _ 0 0 false _ kC 0 0 78 [none, none, none, none, none, none] [] (en u)
    refine r_iconst (v := 1) dX5_isReached_78 rfl ?_
    have hx := am_inj hf
    subst hx
    exact r_iret dX5_isReached_79 rfl (am_bool (x := 1) (by decide)).1 (le_b rfl) (le_b rfl)
/-! FireFromFire$Paths.fewest -/
theorem dX5_fewest_0 : decode cX5_fewest 0 = .ok (.bipush (-5), 2) := by decide +kernel
theorem dX5_fewest_2 : decode cX5_fewest 2 = .ok (.istore_n 2, 1) := by decide +kernel
theorem dX5_fewest_3 : decode cX5_fewest 3 = .ok (.bipush 7, 2) := by decide +kernel
theorem dX5_fewest_5 : decode cX5_fewest 5 = .ok (.istore_n 3, 1) := by decide +kernel
theorem dX5_fewest_6 : decode cX5_fewest 6 = .ok (.iconst 0, 1) := by decide +kernel
theorem dX5_fewest_7 : decode cX5_fewest 7 = .ok (.istore 4, 2) := by decide +kernel
theorem dX5_fewest_9 : decode cX5_fewest 9 = .ok (.iload 4, 2) := by decide +kernel
theorem dX5_fewest_11 : decode cX5_fewest 11 = .ok (.iconst 1, 1) := by decide +kernel
theorem dX5_fewest_12 : decode cX5_fewest 12 = .ok (.aload_n 0, 1) := by decide +kernel
theorem dX5_fewest_13 : decode cX5_fewest 13 = .ok (.getfield 16, 3) := by decide +kernel
theorem dX5_fewest_16 : decode cX5_fewest 16 = .ok (.ishl, 1) := by decide +kernel
theorem dX5_fewest_17 : decode cX5_fewest 17 = .ok (.if_icmp .ge 37, 3) := by decide +kernel
theorem dX5_fewest_20 : decode cX5_fewest 20 = .ok (.iload 4, 2) := by decide +kernel
theorem dX5_fewest_22 : decode cX5_fewest 22 = .ok (.invokestatic 46, 3) := by decide +kernel
theorem dX5_fewest_25 : decode cX5_fewest 25 = .ok (.iload_n 3, 1) := by decide +kernel
theorem dX5_fewest_26 : decode cX5_fewest 26 = .ok (.if_icmp .ge 22, 3) := by decide +kernel
theorem dX5_fewest_29 : decode cX5_fewest 29 = .ok (.aload_n 0, 1) := by decide +kernel
theorem dX5_fewest_30 : decode cX5_fewest 30 = .ok (.iload 4, 2) := by decide +kernel
theorem dX5_fewest_32 : decode cX5_fewest 32 = .ok (.iload_n 1, 1) := by decide +kernel
theorem dX5_fewest_33 : decode cX5_fewest 33 = .ok (.invokevirtual 52, 3) := by decide +kernel
theorem dX5_fewest_36 : decode cX5_fewest 36 = .ok (.ifCond .eq 12, 3) := by decide +kernel
theorem dX5_fewest_39 : decode cX5_fewest 39 = .ok (.iload 4, 2) := by decide +kernel
theorem dX5_fewest_41 : decode cX5_fewest 41 = .ok (.invokestatic 46, 3) := by decide +kernel
theorem dX5_fewest_44 : decode cX5_fewest 44 = .ok (.istore_n 3, 1) := by decide +kernel
theorem dX5_fewest_45 : decode cX5_fewest 45 = .ok (.iload 4, 2) := by decide +kernel
theorem dX5_fewest_47 : decode cX5_fewest 47 = .ok (.istore_n 2, 1) := by decide +kernel
theorem dX5_fewest_48 : decode cX5_fewest 48 = .ok (.iinc 4 1, 3) := by decide +kernel
theorem dX5_fewest_51 : decode cX5_fewest 51 = .ok (.goto (-42), 3) := by decide +kernel
theorem dX5_fewest_54 : decode cX5_fewest 54 = .ok (.iload_n 2, 1) := by decide +kernel
theorem dX5_fewest_55 : decode cX5_fewest 55 = .ok (.ireturn, 1) := by decide +kernel
def f_X5_fewest_L9  (c1 : Int32) (u : PM) : Int32 × Int32 × Int32 → Option ((Int32 × Int32 × Int32) ⊕ (Int32)) := fun (x2 , x3 , x4) =>
  if ((1 : Int32) <<< ((u.1 (25, 0, 0) 1) &&& 31)) ≤ x4 then
    some (.inr (x2))
  else
  (f_J6_bitCount_0f7a4 x4 u).bind fun r1 =>
  if x3 ≤ r1 then
    some (.inl (x2, x3, x4 + (1 : Int32)))
  else
  (f_X5_isReached x4 c1 u).bind fun r3 =>
  if r3 = 0 then
    some (.inl (x2, x3, x4 + (1 : Int32)))
  else
  (f_J6_bitCount_0f7a4 x4 u).bind fun r5 =>
  some (.inl (x4, r5, x4 + (1 : Int32)))
set_option maxHeartbeats 4000000 in
set_option maxRecDepth 20000 in
theorem K_X5_fewest_L9 {l : Launch} {T : Option AV × List Key × AM}  {c1 : Int32} {u : PM} : ∀ (n : Nat) (s : Int32 × Int32 × Int32) (e0 : Int32), am_loop (f_X5_fewest_L9 c1 u) n s = some e0 → (fun e : Int32 => X l mX5_fewest 2 0 0 false T kC 0 0 54 [none, none, some (vI e), none, none] [] (en u)) e0 → X l mX5_fewest 2 0 0 false T kC 0 0 9 [some (vR (25, 0, 0)), some (vI c1), some (vI s.1), some (vI s.2.1), some (vI s.2.2)] [] (en u) := by
  refine am_loop_of ?_
  intro s x hf k1 k2
  obtain ⟨x2 , x3 , x4⟩ := s
  unfold f_X5_fewest_L9 at hf
  show X l mX5_fewest 2 0 0 false T kC 0 0 9 [some (vR (25, 0, 0)), some (vI c1), some (vI x2), some (vI x3), some (vI x4)] [] (en u)
  refine r_iload (x := x4) dX5_fewest_9 rfl ?_
  refine r_iconst (v := 1) dX5_fewest_11 rfl ?_
  refine r_aload_n (x := (25, 0, 0)) dX5_fewest_12 rfl ?_
  refine e_geti fw_X5_16 dX5_fewest_13 (kC_mem (s := 25) (by decide) (by decide) (by decide)) rfl (lt_b rfl) ?_
  refine r_ishl dX5_fewest_16 ?_
  refine r_icmp_ge (tgt := 54) dX5_fewest_17 (by decide) (fun hc => ?_) (fun hc => ?_)
  · have hf := (am_if hf).1 hc
    refine r_weak (L' := [none, none, some (vI x2), none, none]) (And.intro rfl trivial) ?_
    exact k2 _ (am_inj hf).symm
  · have hf := (am_if hf).2 hc
    refine r_iload (x := x4) dX5_fewest_20 rfl ?_
    obtain ⟨r1, hr2, hf⟩ := am_bind hf
    refine r_callS (as := [vI x4]) (st := []) (n := 1) mw_X5_46 ms_J6_bitCount_0f7a4 (C_J6_bitCount_0f7a4 (l := l) hr2) (by decide) dX5_fewest_22 rfl (le_b rfl) (le_b rfl) (le_b rfl) ?_
    show X l _ _ 0 0 false _ kC 0 0 25 [some (vR (25, 0, 0)), some (vI c1), some (vI x2), some (vI x3), some (vI x4)] [vI r1] (en u)
    refine r_iload_n (x := x3) dX5_fewest_25 rfl ?_
    refine r_icmp_ge (tgt := 48) dX5_fewest_26 (by decide) (fun hc => ?_) (fun hc => ?_)
    · have hf := (am_if hf).1 hc
      refine r_iinc (x := x4) (v := x4 + (1 : Int32)) (L' := [some (vR (25, 0, 0)), some (vI c1), some (vI x2), some (vI x3), some (vI (x4 + (1 : Int32)))]) dX5_fewest_48 rfl rfl (lt_b rfl) rfl ?_
      refine r_goto (tgt := 9) dX5_fewest_51 (by decide) ?_
      refine r_weak (L' := [some (vR (25, 0, 0)), some (vI c1), some (vI x2), some (vI x3), some (vI (x4 + (1 : Int32)))]) (And.intro rfl (And.intro rfl (And.intro rfl (And.intro rfl (And.intro rfl trivial))))) ?_
      exact k1 _ (am_inj hf).symm
    · have hf := (am_if hf).2 hc
      refine r_aload_n (x := (25, 0, 0)) dX5_fewest_29 rfl ?_
      refine r_iload (x := x4) dX5_fewest_30 rfl ?_
      refine r_iload_n (x := c1) dX5_fewest_32 rfl ?_
      obtain ⟨r3, hr4, hf⟩ := am_bind hf
      refine r_callV (as := [vI x4, vI c1]) (st := []) (n := 2) mw_X5_52 mv_X5_isReached (C_X5_isReached (l := l) hr4) (by decide) dX5_fewest_33 (kC_mem (s := 25) (by decide) (by decide) (by decide)) rfl rfl rfl (le_b rfl) (le_b rfl) (le_b rfl) ?_
      show X l _ _ 0 0 false _ kC 0 0 36 [some (vR (25, 0, 0)), some (vI c1), some (vI x2), some (vI x3), some (vI x4)] [vI r3] (en u)
      refine r_if_eq (tgt := 48) dX5_fewest_36 (by decide) (fun hc => ?_) (fun hc => ?_)
      · have hf := (am_if hf).1 hc
        refine r_iinc (x := x4) (v := x4 + (1 : Int32)) (L' := [some (vR (25, 0, 0)), some (vI c1), some (vI x2), some (vI x3), some (vI (x4 + (1 : Int32)))]) dX5_fewest_48 rfl rfl (lt_b rfl) rfl ?_
        refine r_goto (tgt := 9) dX5_fewest_51 (by decide) ?_
        refine r_weak (L' := [some (vR (25, 0, 0)), some (vI c1), some (vI x2), some (vI x3), some (vI (x4 + (1 : Int32)))]) (And.intro rfl (And.intro rfl (And.intro rfl (And.intro rfl (And.intro rfl trivial))))) ?_
        exact k1 _ (am_inj hf).symm
      · have hf := (am_if hf).2 hc
        refine r_iload (x := x4) dX5_fewest_39 rfl ?_
        obtain ⟨r5, hr6, hf⟩ := am_bind hf
        refine r_callS (as := [vI x4]) (st := []) (n := 1) mw_X5_46 ms_J6_bitCount_0f7a4 (C_J6_bitCount_0f7a4 (l := l) hr6) (by decide) dX5_fewest_41 rfl (le_b rfl) (le_b rfl) (le_b rfl) ?_
        show X l _ _ 0 0 false _ kC 0 0 44 [some (vR (25, 0, 0)), some (vI c1), some (vI x2), some (vI x3), some (vI x4)] [vI r5] (en u)
        refine r_istore_n (L' := [some (vR (25, 0, 0)), some (vI c1), some (vI x2), some (vI r5), some (vI x4)]) dX5_fewest_44 (by decide) rfl ?_
        refine r_iload (x := x4) dX5_fewest_45 rfl ?_
        refine r_istore_n (L' := [some (vR (25, 0, 0)), some (vI c1), some (vI x4), some (vI r5), some (vI x4)]) dX5_fewest_47 (by decide) rfl ?_
        refine r_iinc (x := x4) (v := x4 + (1 : Int32)) (L' := [some (vR (25, 0, 0)), some (vI c1), some (vI x4), some (vI r5), some (vI (x4 + (1 : Int32)))]) dX5_fewest_48 rfl rfl (lt_b rfl) rfl ?_
        refine r_goto (tgt := 9) dX5_fewest_51 (by decide) ?_
        refine r_weak (L' := [some (vR (25, 0, 0)), some (vI c1), some (vI x4), some (vI r5), some (vI (x4 + (1 : Int32)))]) (And.intro rfl (And.intro rfl (And.intro rfl (And.intro rfl (And.intro rfl trivial))))) ?_
        exact k1 _ (am_inj hf).symm
def f_X5_fewest  (a0 : Int32) (u : PM) : Option (Int32) :=
  (am_loop (f_X5_fewest_L9 a0 u) 2000 ((-5 : Int32), (7 : Int32), (0 : Int32))).bind fun y9 =>
  some y9
set_option maxHeartbeats 4000000 in
set_option maxRecDepth 20000 in
theorem C_X5_fewest {l : Launch}  {a0 : Int32} {u : PM} {x : Int32} (hf : f_X5_fewest a0 u = some x) : Ev l mX5_fewest 2 0 0 false [vR (25, 0, 0), vI a0] kC (en u) (some (vI x), kC, en u) := by
  refine Ev_of (by decide +kernel) (le_b rfl) ?_
  unfold f_X5_fewest at hf
  show X l mX5_fewest 2 0 0 false _ kC 0 0 0 [some (vR (25, 0, 0)), some (vI a0), none, none, none] [] (en u)
  refine r_bipush (v := -5) dX5_fewest_0 rfl ?_
  refine r_istore_n (L' := [some (vR (25, 0, 0)), some (vI a0), some (vI (-5 : Int32)), none, none]) dX5_fewest_2 (by decide) rfl ?_
  refine r_bipush (v := 7) dX5_fewest_3 rfl ?_
  refine r_istore_n (L' := [some (vR (25, 0, 0)), some (vI a0), some (vI (-5 : Int32)), some (vI (7 : Int32)), none]) dX5_fewest_5 (by decide) rfl ?_
  refine r_iconst (v := 0) dX5_fewest_6 rfl ?_
  refine r_istore (L' := [some (vR (25, 0, 0)), some (vI a0), some (vI (-5 : Int32)), some (vI (7 : Int32)), some (vI (0 : Int32))]) dX5_fewest_7 (by decide) rfl ?_
  refine r_weak (L' := [some (vR (25, 0, 0)), some (vI a0), some (vI (-5 : Int32)), some (vI (7 : Int32)), some (vI (0 : Int32))]) (And.intro rfl (And.intro rfl (And.intro rfl (And.intro rfl (And.intro rfl trivial))))) ?_
  obtain ⟨e7, he8, hf⟩ := am_bind hf
  refine K_X5_fewest_L9  2000 ((-5 : Int32), (7 : Int32), (0 : Int32)) _ he8 ?_
  obtain ⟨y9, rfl⟩ : ∃ z, z = e7 := ⟨_, rfl⟩
  show X l _ _ 0 0 false _ kC 0 0 54 [none, none, some (vI y9), none, none] [] (en u)
  refine r_iload_n (x := y9) dX5_fewest_54 rfl ?_
  have hx := am_inj hf
  subst hx
  exact r_iret dX5_fewest_55 rfl rfl (le_b rfl) (le_b rfl)
/-! FireFromFire$Odds.begin -/
theorem dX4_begin_0 : decode cX4_begin 0 = .ok (.aload_n 0, 1) := by decide +kernel
theorem dX4_begin_1 : decode cX4_begin 1 = .ok (.lconst 0, 1) := by decide +kernel
theorem dX4_begin_2 : decode cX4_begin 2 = .ok (.putfield 11, 3) := by decide +kernel
theorem dX4_begin_5 : decode cX4_begin 5 = .ok (.aload_n 0, 1) := by decide +kernel
theorem dX4_begin_6 : decode cX4_begin 6 = .ok (.lconst 0, 1) := by decide +kernel
theorem dX4_begin_7 : decode cX4_begin 7 = .ok (.putfield 15, 3) := by decide +kernel
theorem dX4_begin_10 : decode cX4_begin 10 = .ok (.aload_n 0, 1) := by decide +kernel
theorem dX4_begin_11 : decode cX4_begin 11 = .ok (.lconst 1, 1) := by decide +kernel
theorem dX4_begin_12 : decode cX4_begin 12 = .ok (.putfield 18, 3) := by decide +kernel
theorem dX4_begin_15 : decode cX4_begin 15 = .ok (.iconst 1, 1) := by decide +kernel
theorem dX4_begin_16 : decode cX4_begin 16 = .ok (.istore_n 3, 1) := by decide +kernel
theorem dX4_begin_17 : decode cX4_begin 17 = .ok (.iconst 0, 1) := by decide +kernel
theorem dX4_begin_18 : decode cX4_begin 18 = .ok (.istore 4, 2) := by decide +kernel
theorem dX4_begin_20 : decode cX4_begin 20 = .ok (.iload 4, 2) := by decide +kernel
theorem dX4_begin_22 : decode cX4_begin 22 = .ok (.iload_n 2, 1) := by decide +kernel
theorem dX4_begin_23 : decode cX4_begin 23 = .ok (.if_icmp .ge 65, 3) := by decide +kernel
theorem dX4_begin_26 : decode cX4_begin 26 = .ok (.iload 4, 2) := by decide +kernel
theorem dX4_begin_28 : decode cX4_begin 28 = .ok (.iconst 2, 1) := by decide +kernel
theorem dX4_begin_29 : decode cX4_begin 29 = .ok (.if_icmp .ge 59, 3) := by decide +kernel
theorem dX4_begin_32 : decode cX4_begin 32 = .ok (.iload_n 3, 1) := by decide +kernel
theorem dX4_begin_33 : decode cX4_begin 33 = .ok (.bipush 24, 2) := by decide +kernel
theorem dX4_begin_35 : decode cX4_begin 35 = .ok (.imul, 1) := by decide +kernel
theorem dX4_begin_36 : decode cX4_begin 36 = .ok (.istore_n 3, 1) := by decide +kernel
theorem dX4_begin_37 : decode cX4_begin 37 = .ok (.aload_n 0, 1) := by decide +kernel
theorem dX4_begin_38 : decode cX4_begin 38 = .ok (.dup, 1) := by decide +kernel
theorem dX4_begin_39 : decode cX4_begin 39 = .ok (.getfield 18, 3) := by decide +kernel
theorem dX4_begin_42 : decode cX4_begin 42 = .ok (.ldc2_w 28, 3) := by decide +kernel
theorem dX4_begin_45 : decode cX4_begin 45 = .ok (.lmul, 1) := by decide +kernel
theorem dX4_begin_46 : decode cX4_begin 46 = .ok (.putfield 18, 3) := by decide +kernel
theorem dX4_begin_49 : decode cX4_begin 49 = .ok (.iconst 0, 1) := by decide +kernel
theorem dX4_begin_50 : decode cX4_begin 50 = .ok (.istore 5, 2) := by decide +kernel
theorem dX4_begin_52 : decode cX4_begin 52 = .ok (.iload 5, 2) := by decide +kernel
theorem dX4_begin_54 : decode cX4_begin 54 = .ok (.iload_n 1, 1) := by decide +kernel
theorem dX4_begin_55 : decode cX4_begin 55 = .ok (.if_icmp .ge 27, 3) := by decide +kernel
theorem dX4_begin_58 : decode cX4_begin 58 = .ok (.iload 5, 2) := by decide +kernel
theorem dX4_begin_60 : decode cX4_begin 60 = .ok (.iconst 3, 1) := by decide +kernel
theorem dX4_begin_61 : decode cX4_begin 61 = .ok (.if_icmp .ge 21, 3) := by decide +kernel
theorem dX4_begin_64 : decode cX4_begin 64 = .ok (.aload_n 0, 1) := by decide +kernel
theorem dX4_begin_65 : decode cX4_begin 65 = .ok (.dup, 1) := by decide +kernel
theorem dX4_begin_66 : decode cX4_begin 66 = .ok (.getfield 18, 3) := by decide +kernel
theorem dX4_begin_69 : decode cX4_begin 69 = .ok (.ldc2_w 30, 3) := by decide +kernel
theorem dX4_begin_72 : decode cX4_begin 72 = .ok (.lmul, 1) := by decide +kernel
theorem dX4_begin_73 : decode cX4_begin 73 = .ok (.putfield 18, 3) := by decide +kernel
theorem dX4_begin_76 : decode cX4_begin 76 = .ok (.iinc 5 1, 3) := by decide +kernel
theorem dX4_begin_79 : decode cX4_begin 79 = .ok (.goto (-27), 3) := by decide +kernel
theorem dX4_begin_82 : decode cX4_begin 82 = .ok (.iinc 4 1, 3) := by decide +kernel
theorem dX4_begin_85 : decode cX4_begin 85 = .ok (.goto (-65), 3) := by decide +kernel
theorem dX4_begin_88 : decode cX4_begin 88 = .ok (.iload_n 3, 1) := by decide +kernel
theorem dX4_begin_89 : decode cX4_begin 89 = .ok (.ireturn, 1) := by decide +kernel
def f_X4_begin_L52  (c1 : Int32) (c2 : Int32) (c3 : Int32) (c4 : Int32) : Int32 × PM → Option ((Int32 × PM) ⊕ (PM)) := fun (x5 , u) =>
  if c1 ≤ x5 then
    some (.inr (u))
  else
  if (3 : Int32) ≤ x5 then
    some (.inr (u))
  else
  some (.inl (x5 + (1 : Int32), (pl u (28, 0, 0) 2 ((u.2.1 (28, 0, 0) 2) * (100 : Int64)))))
set_option maxHeartbeats 4000000 in
set_option maxRecDepth 20000 in
theorem K_X4_begin_L52 {l : Launch} {T : Option AV × List Key × AM}  {c1 : Int32} {c2 : Int32} {c3 : Int32} {c4 : Int32} : ∀ (n : Nat) (s : Int32 × PM) (e0 : PM), am_loop (f_X4_begin_L52 c1 c2 c3 c4) n s = some e0 → (fun e : PM => X l mX4_begin 1 0 0 false T kC 0 0 82 [some (vR (28, 0, 0)), some (vI c1), some (vI c2), some (vI c3), some (vI c4), none] [] (en e)) e0 → X l mX4_begin 1 0 0 false T kC 0 0 52 [some (vR (28, 0, 0)), some (vI c1), some (vI c2), some (vI c3), some (vI c4), some (vI s.1)] [] (en s.2) := by
  refine am_loop_of ?_
  intro s x hf k1 k2
  obtain ⟨x5 , u⟩ := s
  unfold f_X4_begin_L52 at hf
  show X l mX4_begin 1 0 0 false T kC 0 0 52 [some (vR (28, 0, 0)), some (vI c1), some (vI c2), some (vI c3), some (vI c4), some (vI x5)] [] (en u)
  refine r_iload (x := x5) dX4_begin_52 rfl ?_
  refine r_iload_n (x := c1) dX4_begin_54 rfl ?_
  refine r_icmp_ge (tgt := 82) dX4_begin_55 (by decide) (fun hc => ?_) (fun hc => ?_)
  · have hf := (am_if hf).1 hc
    refine r_weak (L' := [some (vR (28, 0, 0)), some (vI c1), some (vI c2), some (vI c3), some (vI c4), none]) (And.intro rfl (And.intro rfl (And.intro rfl (And.intro rfl (And.intro rfl trivial))))) ?_
    exact k2 _ (am_inj hf).symm
  · have hf := (am_if hf).2 hc
    refine r_iload (x := x5) dX4_begin_58 rfl ?_
    refine r_iconst (v := 3) dX4_begin_60 rfl ?_
    refine r_icmp_ge (tgt := 82) dX4_begin_61 (by decide) (fun hc => ?_) (fun hc => ?_)
    · have hf := (am_if hf).1 hc
      refine r_weak (L' := [some (vR (28, 0, 0)), some (vI c1), some (vI c2), some (vI c3), some (vI c4), none]) (And.intro rfl (And.intro rfl (And.intro rfl (And.intro rfl (And.intro rfl trivial))))) ?_
      exact k2 _ (am_inj hf).symm
    · have hf := (am_if hf).2 hc
      refine r_aload_n (x := (28, 0, 0)) dX4_begin_64 rfl ?_
      refine r_dup dX4_begin_65 rfl ?_
      refine e_getl fw_X4_18 dX4_begin_66 (kC_mem (s := 28) (by decide) (by decide) (by decide)) rfl (lt_b rfl) ?_
      refine r_ldc2 (v := 100) dX4_begin_69 cc_X4_30 ?_
      refine r_lmul dX4_begin_72 ?_
      refine e_putl fp_X4_18 dX4_begin_73 (kC_mem (s := 28) (by decide) (by decide) (by decide)) rfl (lt_b rfl) rfl ?_
      refine r_iinc (x := x5) (v := x5 + (1 : Int32)) (L' := [some (vR (28, 0, 0)), some (vI c1), some (vI c2), some (vI c3), some (vI c4), some (vI (x5 + (1 : Int32)))]) dX4_begin_76 rfl rfl (lt_b rfl) rfl ?_
      refine r_goto (tgt := 52) dX4_begin_79 (by decide) ?_
      refine r_weak (L' := [some (vR (28, 0, 0)), some (vI c1), some (vI c2), some (vI c3), some (vI c4), some (vI (x5 + (1 : Int32)))]) (And.intro rfl (And.intro rfl (And.intro rfl (And.intro rfl (And.intro rfl (And.intro rfl trivial)))))) ?_
      exact k1 _ (am_inj hf).symm
def f_X4_begin_L20  (c1 : Int32) (c2 : Int32) : Int32 × Int32 × PM → Option ((Int32 × Int32 × PM) ⊕ (Int32 × PM)) := fun (x3 , x4 , u) =>
  if c2 ≤ x4 then
    some (.inr (x3, u))
  else
  if (2 : Int32) ≤ x4 then
    some (.inr (x3, u))
  else
  (am_loop (f_X4_begin_L52 c1 c2 (x3 * (24 : Int32)) x4) 2000 ((0 : Int32), (pl u (28, 0, 0) 2 ((u.2.1 (28, 0, 0) 2) * (10 : Int64))))).bind fun u3 =>
  some (.inl (x3 * (24 : Int32), x4 + (1 : Int32), u3))
set_option maxHeartbeats 4000000 in
set_option maxRecDepth 20000 in
theorem K_X4_begin_L20 {l : Launch} {T : Option AV × List Key × AM}  {c1 : Int32} {c2 : Int32} : ∀ (n : Nat) (s : Int32 × Int32 × PM) (e0 : Int32 × PM), am_loop (f_X4_begin_L20 c1 c2) n s = some e0 → (fun e : Int32 × PM => X l mX4_begin 1 0 0 false T kC 0 0 88 [none, none, none, some (vI e.1), none, none] [] (en e.2)) e0 → X l mX4_begin 1 0 0 false T kC 0 0 20 [some (vR (28, 0, 0)), some (vI c1), some (vI c2), some (vI s.1), some (vI s.2.1), none] [] (en s.2.2) := by
  refine am_loop_of ?_
  intro s x hf k1 k2
  obtain ⟨x3 , x4 , u⟩ := s
  unfold f_X4_begin_L20 at hf
  show X l mX4_begin 1 0 0 false T kC 0 0 20 [some (vR (28, 0, 0)), some (vI c1), some (vI c2), some (vI x3), some (vI x4), none] [] (en u)
  refine r_iload (x := x4) dX4_begin_20 rfl ?_
  refine r_iload_n (x := c2) dX4_begin_22 rfl ?_
  refine r_icmp_ge (tgt := 88) dX4_begin_23 (by decide) (fun hc => ?_) (fun hc => ?_)
  · have hf := (am_if hf).1 hc
    refine r_weak (L' := [none, none, none, some (vI x3), none, none]) (And.intro rfl trivial) ?_
    exact k2 _ (am_inj hf).symm
  · have hf := (am_if hf).2 hc
    refine r_iload (x := x4) dX4_begin_26 rfl ?_
    refine r_iconst (v := 2) dX4_begin_28 rfl ?_
    refine r_icmp_ge (tgt := 88) dX4_begin_29 (by decide) (fun hc => ?_) (fun hc => ?_)
    · have hf := (am_if hf).1 hc
      refine r_weak (L' := [none, none, none, some (vI x3), none, none]) (And.intro rfl trivial) ?_
      exact k2 _ (am_inj hf).symm
    · have hf := (am_if hf).2 hc
      refine r_iload_n (x := x3) dX4_begin_32 rfl ?_
      refine r_bipush (v := 24) dX4_begin_33 rfl ?_
      refine r_imul dX4_begin_35 ?_
      refine r_istore_n (L' := [some (vR (28, 0, 0)), some (vI c1), some (vI c2), some (vI (x3 * (24 : Int32))), some (vI x4), none]) dX4_begin_36 (by decide) rfl ?_
      refine r_aload_n (x := (28, 0, 0)) dX4_begin_37 rfl ?_
      refine r_dup dX4_begin_38 rfl ?_
      refine e_getl fw_X4_18 dX4_begin_39 (kC_mem (s := 28) (by decide) (by decide) (by decide)) rfl (lt_b rfl) ?_
      refine r_ldc2 (v := 10) dX4_begin_42 cc_X4_28 ?_
      refine r_lmul dX4_begin_45 ?_
      refine e_putl fp_X4_18 dX4_begin_46 (kC_mem (s := 28) (by decide) (by decide) (by decide)) rfl (lt_b rfl) rfl ?_
      refine r_iconst (v := 0) dX4_begin_49 rfl ?_
      refine r_istore (L' := [some (vR (28, 0, 0)), some (vI c1), some (vI c2), some (vI (x3 * (24 : Int32))), some (vI x4), some (vI (0 : Int32))]) dX4_begin_50 (by decide) rfl ?_
      refine r_weak (L' := [some (vR (28, 0, 0)), some (vI c1), some (vI c2), some (vI (x3 * (24 : Int32))), some (vI x4), some (vI (0 : Int32))]) (And.intro rfl (And.intro rfl (And.intro rfl (And.intro rfl (And.intro rfl (And.intro rfl trivial)))))) ?_
      obtain ⟨e1, he2, hf⟩ := am_bind hf
      refine K_X4_begin_L52  2000 ((0 : Int32), (pl u (28, 0, 0) 2 ((u.2.1 (28, 0, 0) 2) * (10 : Int64)))) _ he2 ?_
      obtain ⟨u3, rfl⟩ : ∃ z, z = e1 := ⟨_, rfl⟩
      show X l _ _ 0 0 false _ kC 0 0 82 [some (vR (28, 0, 0)), some (vI c1), some (vI c2), some (vI (x3 * (24 : Int32))), some (vI x4), none] [] (en u3)
      refine r_iinc (x := x4) (v := x4 + (1 : Int32)) (L' := [some (vR (28, 0, 0)), some (vI c1), some (vI c2), some (vI (x3 * (24 : Int32))), some (vI (x4 + (1 : Int32))), none]) dX4_begin_82 rfl rfl (lt_b rfl) rfl ?_
      refine r_goto (tgt := 20) dX4_begin_85 (by decide) ?_
      refine r_weak (L' := [some (vR (28, 0, 0)), some (vI c1), some (vI c2), some (vI (x3 * (24 : Int32))), some (vI (x4 + (1 : Int32))), none]) (And.intro rfl (And.intro rfl (And.intro rfl (And.intro rfl (And.intro rfl trivial))))) ?_
      exact k1 _ (am_inj hf).symm
def f_X4_begin  (a0 : Int32) (a1 : Int32) (u : PM) : Option (Int32 × PM) :=
  (am_loop (f_X4_begin_L20 a0 a1) 2000 ((1 : Int32), (0 : Int32), (pl (pl (pl u (28, 0, 0) 0 (0 : Int64)) (28, 0, 0) 1 (0 : Int64)) (28, 0, 0) 2 (1 : Int64)))).bind fun (y6, u7) =>
  some (y6, u7)
set_option maxHeartbeats 4000000 in
set_option maxRecDepth 20000 in
theorem C_X4_begin {l : Launch}  {a0 : Int32} {a1 : Int32} {u : PM} {x : Int32 × PM} (hf : f_X4_begin a0 a1 u = some x) : Ev l mX4_begin 1 0 0 false [vR (28, 0, 0), vI a0, vI a1] kC (en u) (some (vI x.1), kC, en x.2) := by
  refine Ev_of (by decide +kernel) (le_b rfl) ?_
  unfold f_X4_begin at hf
  show X l mX4_begin 1 0 0 false _ kC 0 0 0 [some (vR (28, 0, 0)), some (vI a0), some (vI a1), none, none, none] [] (en u)
  refine r_aload_n (x := (28, 0, 0)) dX4_begin_0 rfl ?_
  refine r_lconst (v := 0) dX4_begin_1 rfl ?_
  refine e_putl fp_X4_11 dX4_begin_2 (kC_mem (s := 28) (by decide) (by decide) (by decide)) rfl (lt_b rfl) rfl ?_
  refine r_aload_n (x := (28, 0, 0)) dX4_begin_5 rfl ?_
  refine r_lconst (v := 0) dX4_begin_6 rfl ?_
  refine e_putl fp_X4_15 dX4_begin_7 (kC_mem (s := 28) (by decide) (by decide) (by decide)) rfl (lt_b rfl) rfl ?_
  refine r_aload_n (x := (28, 0, 0)) dX4_begin_10 rfl ?_
  refine r_lconst (v := 1) dX4_begin_11 rfl ?_
  refine e_putl fp_X4_18 dX4_begin_12 (kC_mem (s := 28) (by decide) (by decide) (by decide)) rfl (lt_b rfl) rfl ?_
  refine r_iconst (v := 1) dX4_begin_15 rfl ?_
  refine r_istore_n (L' := [some (vR (28, 0, 0)), some (vI a0), some (vI a1), some (vI (1 : Int32)), none, none]) dX4_begin_16 (by decide) rfl ?_
  refine r_iconst (v := 0) dX4_begin_17 rfl ?_
  refine r_istore (L' := [some (vR (28, 0, 0)), some (vI a0), some (vI a1), some (vI (1 : Int32)), some (vI (0 : Int32)), none]) dX4_begin_18 (by decide) rfl ?_
  refine r_weak (L' := [some (vR (28, 0, 0)), some (vI a0), some (vI a1), some (vI (1 : Int32)), some (vI (0 : Int32)), none]) (And.intro rfl (And.intro rfl (And.intro rfl (And.intro rfl (And.intro rfl trivial))))) ?_
  obtain ⟨e4, he5, hf⟩ := am_bind hf
  refine K_X4_begin_L20  2000 ((1 : Int32), (0 : Int32), (pl (pl (pl u (28, 0, 0) 0 (0 : Int64)) (28, 0, 0) 1 (0 : Int64)) (28, 0, 0) 2 (1 : Int64))) _ he5 ?_
  obtain ⟨y6, u7⟩ := e4
  show X l _ _ 0 0 false _ kC 0 0 88 [none, none, none, some (vI y6), none, none] [] (en u7)
  refine r_iload_n (x := y6) dX4_begin_88 rfl ?_
  have hx := am_inj hf
  subst hx
  exact r_iret dX4_begin_89 rfl rfl (le_b rfl) (le_b rfl)
/-! FireFromFire$Odds.shareOf -/
theorem dX4_shareOf_0 : decode cX4_shareOf 0 = .ok (.iload_n 2, 1) := by decide +kernel
theorem dX4_shareOf_1 : decode cX4_shareOf 1 = .ok (.iconst 1, 1) := by decide +kernel
theorem dX4_shareOf_2 : decode cX4_shareOf 2 = .ok (.aload_n 0, 1) := by decide +kernel
theorem dX4_shareOf_3 : decode cX4_shareOf 3 = .ok (.getfield 24, 3) := by decide +kernel
theorem dX4_shareOf_6 : decode cX4_shareOf 6 = .ok (.getfield 67, 3) := by decide +kernel
theorem dX4_shareOf_9 : decode cX4_shareOf 9 = .ok (.ishl, 1) := by decide +kernel
theorem dX4_shareOf_10 : decode cX4_shareOf 10 = .ok (.if_icmp .lt 7, 3) := by decide +kernel
theorem dX4_shareOf_13 : decode cX4_shareOf 13 = .ok (.lconst 0, 1) := by decide +kernel
theorem dX4_shareOf_14 : decode cX4_shareOf 14 = .ok (.goto 4, 3) := by decide +kernel
theorem dX4_shareOf_17 : decode cX4_shareOf 17 = .ok (.lconst 1, 1) := by decide +kernel
theorem dX4_shareOf_18 : decode cX4_shareOf 18 = .ok (.lstore_n 3, 1) := by decide +kernel
theorem dX4_shareOf_19 : decode cX4_shareOf 19 = .ok (.iconst 0, 1) := by decide +kernel
theorem dX4_shareOf_20 : decode cX4_shareOf 20 = .ok (.istore 5, 2) := by decide +kernel
theorem dX4_shareOf_22 : decode cX4_shareOf 22 = .ok (.iload 5, 2) := by decide +kernel
theorem dX4_shareOf_24 : decode cX4_shareOf 24 = .ok (.aload_n 0, 1) := by decide +kernel
theorem dX4_shareOf_25 : decode cX4_shareOf 25 = .ok (.getfield 24, 3) := by decide +kernel
theorem dX4_shareOf_28 : decode cX4_shareOf 28 = .ok (.getfield 67, 3) := by decide +kernel
theorem dX4_shareOf_31 : decode cX4_shareOf 31 = .ok (.if_icmp .ge 72, 3) := by decide +kernel
theorem dX4_shareOf_34 : decode cX4_shareOf 34 = .ok (.iload 5, 2) := by decide +kernel
theorem dX4_shareOf_36 : decode cX4_shareOf 36 = .ok (.iconst 3, 1) := by decide +kernel
theorem dX4_shareOf_37 : decode cX4_shareOf 37 = .ok (.if_icmp .ge 66, 3) := by decide +kernel
theorem dX4_shareOf_40 : decode cX4_shareOf 40 = .ok (.aload_n 0, 1) := by decide +kernel
theorem dX4_shareOf_41 : decode cX4_shareOf 41 = .ok (.getfield 24, 3) := by decide +kernel
theorem dX4_shareOf_44 : decode cX4_shareOf 44 = .ok (.getfield 70, 3) := by decide +kernel
theorem dX4_shareOf_47 : decode cX4_shareOf 47 = .ok (.iload 5, 2) := by decide +kernel
theorem dX4_shareOf_49 : decode cX4_shareOf 49 = .ok (.aaload, 1) := by decide +kernel
theorem dX4_shareOf_50 : decode cX4_shareOf 50 = .ok (.getfield 74, 3) := by decide +kernel
theorem dX4_shareOf_53 : decode cX4_shareOf 53 = .ok (.ifCond .eq 17, 3) := by decide +kernel
theorem dX4_shareOf_56 : decode cX4_shareOf 56 = .ok (.aload_n 0, 1) := by decide +kernel
theorem dX4_shareOf_57 : decode cX4_shareOf 57 = .ok (.getfield 24, 3) := by decide +kernel
theorem dX4_shareOf_60 : decode cX4_shareOf 60 = .ok (.iconst 0, 1) := by decide +kernel
theorem dX4_shareOf_61 : decode cX4_shareOf 61 = .ok (.iload 5, 2) := by decide +kernel
theorem dX4_shareOf_63 : decode cX4_shareOf 63 = .ok (.iload_n 1, 1) := by decide +kernel
theorem dX4_shareOf_64 : decode cX4_shareOf 64 = .ok (.invokevirtual 80, 3) := by decide +kernel
theorem dX4_shareOf_67 : decode cX4_shareOf 67 = .ok (.goto 4, 3) := by decide +kernel
theorem dX4_shareOf_70 : decode cX4_shareOf 70 = .ok (.iconst 0, 1) := by decide +kernel
theorem dX4_shareOf_71 : decode cX4_shareOf 71 = .ok (.istore 6, 2) := by decide +kernel
theorem dX4_shareOf_73 : decode cX4_shareOf 73 = .ok (.lload_n 3, 1) := by decide +kernel
theorem dX4_shareOf_74 : decode cX4_shareOf 74 = .ok (.iload_n 2, 1) := by decide +kernel
theorem dX4_shareOf_75 : decode cX4_shareOf 75 = .ok (.iload 5, 2) := by decide +kernel
theorem dX4_shareOf_77 : decode cX4_shareOf 77 = .ok (.ishr, 1) := by decide +kernel
theorem dX4_shareOf_78 : decode cX4_shareOf 78 = .ok (.iconst 1, 1) := by decide +kernel
theorem dX4_shareOf_79 : decode cX4_shareOf 79 = .ok (.iand, 1) := by decide +kernel
theorem dX4_shareOf_80 : decode cX4_shareOf 80 = .ok (.ifCond .eq 9, 3) := by decide +kernel
theorem dX4_shareOf_83 : decode cX4_shareOf 83 = .ok (.iload 6, 2) := by decide +kernel
theorem dX4_shareOf_85 : decode cX4_shareOf 85 = .ok (.i2l, 1) := by decide +kernel
theorem dX4_shareOf_86 : decode cX4_shareOf 86 = .ok (.goto 9, 3) := by decide +kernel
theorem dX4_shareOf_89 : decode cX4_shareOf 89 = .ok (.bipush 100, 2) := by decide +kernel
theorem dX4_shareOf_91 : decode cX4_shareOf 91 = .ok (.iload 6, 2) := by decide +kernel
theorem dX4_shareOf_93 : decode cX4_shareOf 93 = .ok (.isub, 1) := by decide +kernel
theorem dX4_shareOf_94 : decode cX4_shareOf 94 = .ok (.i2l, 1) := by decide +kernel
theorem dX4_shareOf_95 : decode cX4_shareOf 95 = .ok (.lmul, 1) := by decide +kernel
theorem dX4_shareOf_96 : decode cX4_shareOf 96 = .ok (.lstore_n 3, 1) := by decide +kernel
theorem dX4_shareOf_97 : decode cX4_shareOf 97 = .ok (.iinc 5 1, 3) := by decide +kernel
theorem dX4_shareOf_100 : decode cX4_shareOf 100 = .ok (.goto (-78), 3) := by decide +kernel
theorem dX4_shareOf_103 : decode cX4_shareOf 103 = .ok (.lload_n 3, 1) := by decide +kernel
theorem dX4_shareOf_104 : decode cX4_shareOf 104 = .ok (.lreturn, 1) := by decide +kernel
def f_X4_shareOf_L22  (c1 : Int32) (c2 : Int32) : Int64 × Int32 × PM → Option ((Int64 × Int32 × PM) ⊕ (Int64 × PM)) := fun (x3 , x5 , u) =>
  if (u.1 (1, 3, 0) 0) ≤ x5 then
    some (.inr (x3, u))
  else
  if (3 : Int32) ≤ x5 then
    some (.inr (x3, u))
  else
  if x5 < 0 ∨ 6 ≤ x5.toNatClampNeg then none else
  if (u.1 (3, 3, x5.toNatClampNeg) 1) = 0 then
    if ((c2 >>> (x5 &&& 31)) &&& (1 : Int32)) = 0 then
      some (.inl (x3 * (((100 : Int32) - (0 : Int32)).toInt64), x5 + (1 : Int32), u))
    else
    some (.inl (x3 * ((0 : Int32).toInt64), x5 + (1 : Int32), u))
  else
  (f_X8_sum 3 (0 : Int32) x5 c1 u).bind fun (r2, u4) =>
  if ((c2 >>> (x5 &&& 31)) &&& (1 : Int32)) = 0 then
    some (.inl (x3 * (((100 : Int32) - r2).toInt64), x5 + (1 : Int32), u4))
  else
  some (.inl (x3 * r2.toInt64, x5 + (1 : Int32), u4))
set_option maxHeartbeats 4000000 in
set_option maxRecDepth 20000 in
theorem K_X4_shareOf_L22 {l : Launch} {T : Option AV × List Key × AM}  {c1 : Int32} {c2 : Int32} : ∀ (n : Nat) (s : Int64 × Int32 × PM) (e0 : Int64 × PM), am_loop (f_X4_shareOf_L22 c1 c2) n s = some e0 → (fun e : Int64 × PM => X l mX4_shareOf 4 0 0 false T kC 0 0 103 [none, none, none, some (vJ e.1), none, none, none] [] (en e.2)) e0 → X l mX4_shareOf 4 0 0 false T kC 0 0 22 [some (vR (28, 0, 0)), some (vI c1), some (vI c2), some (vJ s.1), none, some (vI s.2.1), none] [] (en s.2.2) := by
  refine am_loop_of ?_
  intro s x hf k1 k2
  obtain ⟨x3 , x5 , u⟩ := s
  unfold f_X4_shareOf_L22 at hf
  show X l mX4_shareOf 4 0 0 false T kC 0 0 22 [some (vR (28, 0, 0)), some (vI c1), some (vI c2), some (vJ x3), none, some (vI x5), none] [] (en u)
  refine r_iload (x := x5) dX4_shareOf_22 rfl ?_
  refine r_aload_n (x := (28, 0, 0)) dX4_shareOf_24 rfl ?_
  refine e_getr (z := some (1, 3, 0)) fw_X4_24 dX4_shareOf_25 (kC_mem (s := 28) (by decide) (by decide) (by decide)) rfl (lt_b rfl) rfl ?_
  refine e_geti fw_X4_67 dX4_shareOf_28 (kC_mem (s := 1) (by decide) (by decide) (by decide)) rfl (lt_b rfl) ?_
  refine r_icmp_ge (tgt := 103) dX4_shareOf_31 (by decide) (fun hc => ?_) (fun hc => ?_)
  · have hf := (am_if hf).1 hc
    refine r_weak (L' := [none, none, none, some (vJ x3), none, none, none]) (And.intro rfl trivial) ?_
    exact k2 _ (am_inj hf).symm
  · have hf := (am_if hf).2 hc
    refine r_iload (x := x5) dX4_shareOf_34 rfl ?_
    refine r_iconst (v := 3) dX4_shareOf_36 rfl ?_
    refine r_icmp_ge (tgt := 103) dX4_shareOf_37 (by decide) (fun hc => ?_) (fun hc => ?_)
    · have hf := (am_if hf).1 hc
      refine r_weak (L' := [none, none, none, some (vJ x3), none, none, none]) (And.intro rfl trivial) ?_
      exact k2 _ (am_inj hf).symm
    · have hf := (am_if hf).2 hc
      refine r_aload_n (x := (28, 0, 0)) dX4_shareOf_40 rfl ?_
      refine e_getr (z := some (1, 3, 0)) fw_X4_24 dX4_shareOf_41 (kC_mem (s := 28) (by decide) (by decide) (by decide)) rfl (lt_b rfl) rfl ?_
      refine e_getr (z := some (2, 3, 0)) fw_X4_70 dX4_shareOf_44 (kC_mem (s := 1) (by decide) (by decide) (by decide)) rfl (lt_b rfl) rfl ?_
      refine r_iload (x := x5) dX4_shareOf_47 rfl ?_
      obtain ⟨h1, hf⟩ := am_nchk hf
      refine e_aald (n := x5.toNatClampNeg) (z := some (3, 3, x5.toNatClampNeg)) dX4_shareOf_49 (kC_mem (s := 2) (by decide) (by decide) (by decide)) ⟨le_b rfl, lt_b rfl⟩ h1 rfl rfl ?_
      refine e_geti fw_X4_74 dX4_shareOf_50 (kC_mem (s := 3) (by decide) (by decide) (vp_lt h1)) rfl (lt_b rfl) ?_
      refine r_if_eq (tgt := 70) dX4_shareOf_53 (by decide) (fun hc => ?_) (fun hc => ?_)
      · have hf := (am_if hf).1 hc
        refine r_iconst (v := 0) dX4_shareOf_70 rfl ?_
        refine r_istore (L' := [some (vR (28, 0, 0)), some (vI c1), some (vI c2), some (vJ x3), none, some (vI x5), some (vI (0 : Int32))]) dX4_shareOf_71 (by decide) rfl ?_
        refine r_lload_n (x := x3) dX4_shareOf_73 rfl ?_
        refine r_iload_n (x := c2) dX4_shareOf_74 rfl ?_
        refine r_iload (x := x5) dX4_shareOf_75 rfl ?_
        refine r_ishr dX4_shareOf_77 ?_
        refine r_iconst (v := 1) dX4_shareOf_78 rfl ?_
        refine r_iand dX4_shareOf_79 ?_
        refine r_if_eq (tgt := 89) dX4_shareOf_80 (by decide) (fun hc => ?_) (fun hc => ?_)
        · have hf := (am_if hf).1 hc
          refine r_bipush (v := 100) dX4_shareOf_89 rfl ?_
          refine r_iload (x := (0 : Int32)) dX4_shareOf_91 rfl ?_
          refine r_isub dX4_shareOf_93 ?_
          refine r_i2l dX4_shareOf_94 ?_
          refine r_lmul dX4_shareOf_95 ?_
          refine r_lstore_n (L' := [some (vR (28, 0, 0)), some (vI c1), some (vI c2), some (vJ (x3 * (((100 : Int32) - (0 : Int32)).toInt64))), none, some (vI x5), some (vI (0 : Int32))]) dX4_shareOf_96 (by decide) rfl ?_
          refine r_iinc (x := x5) (v := x5 + (1 : Int32)) (L' := [some (vR (28, 0, 0)), some (vI c1), some (vI c2), some (vJ (x3 * (((100 : Int32) - (0 : Int32)).toInt64))), none, some (vI (x5 + (1 : Int32))), some (vI (0 : Int32))]) dX4_shareOf_97 rfl rfl (lt_b rfl) rfl ?_
          refine r_goto (tgt := 22) dX4_shareOf_100 (by decide) ?_
          refine r_weak (L' := [some (vR (28, 0, 0)), some (vI c1), some (vI c2), some (vJ (x3 * (((100 : Int32) - (0 : Int32)).toInt64))), none, some (vI (x5 + (1 : Int32))), none]) (And.intro rfl (And.intro rfl (And.intro rfl (And.intro rfl (And.intro rfl trivial))))) ?_
          exact k1 _ (am_inj hf).symm
        · have hf := (am_if hf).2 hc
          refine r_iload (x := (0 : Int32)) dX4_shareOf_83 rfl ?_
          refine r_i2l dX4_shareOf_85 ?_
          refine r_goto (tgt := 95) dX4_shareOf_86 (by decide) ?_
          refine r_lmul dX4_shareOf_95 ?_
          refine r_lstore_n (L' := [some (vR (28, 0, 0)), some (vI c1), some (vI c2), some (vJ (x3 * ((0 : Int32).toInt64))), none, some (vI x5), some (vI (0 : Int32))]) dX4_shareOf_96 (by decide) rfl ?_
          refine r_iinc (x := x5) (v := x5 + (1 : Int32)) (L' := [some (vR (28, 0, 0)), some (vI c1), some (vI c2), some (vJ (x3 * ((0 : Int32).toInt64))), none, some (vI (x5 + (1 : Int32))), some (vI (0 : Int32))]) dX4_shareOf_97 rfl rfl (lt_b rfl) rfl ?_
          refine r_goto (tgt := 22) dX4_shareOf_100 (by decide) ?_
          refine r_weak (L' := [some (vR (28, 0, 0)), some (vI c1), some (vI c2), some (vJ (x3 * ((0 : Int32).toInt64))), none, some (vI (x5 + (1 : Int32))), none]) (And.intro rfl (And.intro rfl (And.intro rfl (And.intro rfl (And.intro rfl trivial))))) ?_
          exact k1 _ (am_inj hf).symm
      · have hf := (am_if hf).2 hc
        refine r_aload_n (x := (28, 0, 0)) dX4_shareOf_56 rfl ?_
        refine e_getr (z := some (1, 3, 0)) fw_X4_24 dX4_shareOf_57 (kC_mem (s := 28) (by decide) (by decide) (by decide)) rfl (lt_b rfl) rfl ?_
        refine r_iconst (v := 0) dX4_shareOf_60 rfl ?_
        refine r_iload (x := x5) dX4_shareOf_61 rfl ?_
        refine r_iload_n (x := c1) dX4_shareOf_63 rfl ?_
        obtain ⟨⟨r2, u4⟩, hr3, hf⟩ := am_bind hf
        refine r_callV (as := [vI (0 : Int32), vI x5, vI c1]) (st := []) (n := 3) mw_X4_80 mv_X8_sum (C_X8_sum (l := l) (by decide) hr3) (by decide) dX4_shareOf_64 (kC_mem (s := 1) (by decide) (by decide) (by decide)) rfl rfl rfl (le_b rfl) (le_b rfl) (le_b rfl) ?_
        show X l _ _ 0 0 false _ kC 0 0 67 [some (vR (28, 0, 0)), some (vI c1), some (vI c2), some (vJ x3), none, some (vI x5), none] [vI r2] (en u4)
        refine r_goto (tgt := 71) dX4_shareOf_67 (by decide) ?_
        refine r_istore (L' := [some (vR (28, 0, 0)), some (vI c1), some (vI c2), some (vJ x3), none, some (vI x5), some (vI r2)]) dX4_shareOf_71 (by decide) rfl ?_
        refine r_lload_n (x := x3) dX4_shareOf_73 rfl ?_
        refine r_iload_n (x := c2) dX4_shareOf_74 rfl ?_
        refine r_iload (x := x5) dX4_shareOf_75 rfl ?_
        refine r_ishr dX4_shareOf_77 ?_
        refine r_iconst (v := 1) dX4_shareOf_78 rfl ?_
        refine r_iand dX4_shareOf_79 ?_
        refine r_if_eq (tgt := 89) dX4_shareOf_80 (by decide) (fun hc => ?_) (fun hc => ?_)
        · have hf := (am_if hf).1 hc
          refine r_bipush (v := 100) dX4_shareOf_89 rfl ?_
          refine r_iload (x := r2) dX4_shareOf_91 rfl ?_
          refine r_isub dX4_shareOf_93 ?_
          refine r_i2l dX4_shareOf_94 ?_
          refine r_lmul dX4_shareOf_95 ?_
          refine r_lstore_n (L' := [some (vR (28, 0, 0)), some (vI c1), some (vI c2), some (vJ (x3 * (((100 : Int32) - r2).toInt64))), none, some (vI x5), some (vI r2)]) dX4_shareOf_96 (by decide) rfl ?_
          refine r_iinc (x := x5) (v := x5 + (1 : Int32)) (L' := [some (vR (28, 0, 0)), some (vI c1), some (vI c2), some (vJ (x3 * (((100 : Int32) - r2).toInt64))), none, some (vI (x5 + (1 : Int32))), some (vI r2)]) dX4_shareOf_97 rfl rfl (lt_b rfl) rfl ?_
          refine r_goto (tgt := 22) dX4_shareOf_100 (by decide) ?_
          refine r_weak (L' := [some (vR (28, 0, 0)), some (vI c1), some (vI c2), some (vJ (x3 * (((100 : Int32) - r2).toInt64))), none, some (vI (x5 + (1 : Int32))), none]) (And.intro rfl (And.intro rfl (And.intro rfl (And.intro rfl (And.intro rfl trivial))))) ?_
          exact k1 _ (am_inj hf).symm
        · have hf := (am_if hf).2 hc
          refine r_iload (x := r2) dX4_shareOf_83 rfl ?_
          refine r_i2l dX4_shareOf_85 ?_
          refine r_goto (tgt := 95) dX4_shareOf_86 (by decide) ?_
          refine r_lmul dX4_shareOf_95 ?_
          refine r_lstore_n (L' := [some (vR (28, 0, 0)), some (vI c1), some (vI c2), some (vJ (x3 * r2.toInt64)), none, some (vI x5), some (vI r2)]) dX4_shareOf_96 (by decide) rfl ?_
          refine r_iinc (x := x5) (v := x5 + (1 : Int32)) (L' := [some (vR (28, 0, 0)), some (vI c1), some (vI c2), some (vJ (x3 * r2.toInt64)), none, some (vI (x5 + (1 : Int32))), some (vI r2)]) dX4_shareOf_97 rfl rfl (lt_b rfl) rfl ?_
          refine r_goto (tgt := 22) dX4_shareOf_100 (by decide) ?_
          refine r_weak (L' := [some (vR (28, 0, 0)), some (vI c1), some (vI c2), some (vJ (x3 * r2.toInt64)), none, some (vI (x5 + (1 : Int32))), none]) (And.intro rfl (And.intro rfl (And.intro rfl (And.intro rfl (And.intro rfl trivial))))) ?_
          exact k1 _ (am_inj hf).symm
def f_X4_shareOf  (a0 : Int32) (a1 : Int32) (u : PM) : Option (Int64 × PM) :=
  if a1 < ((1 : Int32) <<< ((u.1 (1, 3, 0) 0) &&& 31)) then
    (am_loop (f_X4_shareOf_L22 a0 a1) 2000 ((1 : Int64), (0 : Int32), u)).bind fun (y7, u8) =>
    some (y7, u8)
  else
  (am_loop (f_X4_shareOf_L22 a0 a1) 2000 ((0 : Int64), (0 : Int32), u)).bind fun (y11, u12) =>
  some (y11, u12)
set_option maxHeartbeats 4000000 in
set_option maxRecDepth 20000 in
theorem C_X4_shareOf {l : Launch}  {a0 : Int32} {a1 : Int32} {u : PM} {x : Int64 × PM} (hf : f_X4_shareOf a0 a1 u = some x) : Ev l mX4_shareOf 4 0 0 false [vR (28, 0, 0), vI a0, vI a1] kC (en u) (some (vJ x.1), kC, en x.2) := by
  refine Ev_of (by decide +kernel) (le_b rfl) ?_
  unfold f_X4_shareOf at hf
  show X l mX4_shareOf 4 0 0 false _ kC 0 0 0 [some (vR (28, 0, 0)), some (vI a0), some (vI a1), none, none, none, none] [] (en u)
  refine r_iload_n (x := a1) dX4_shareOf_0 rfl ?_
  refine r_iconst (v := 1) dX4_shareOf_1 rfl ?_
  refine r_aload_n (x := (28, 0, 0)) dX4_shareOf_2 rfl ?_
  refine e_getr (z := some (1, 3, 0)) fw_X4_24 dX4_shareOf_3 (kC_mem (s := 28) (by decide) (by decide) (by decide)) rfl (lt_b rfl) rfl ?_
  refine e_geti fw_X4_67 dX4_shareOf_6 (kC_mem (s := 1) (by decide) (by decide) (by decide)) rfl (lt_b rfl) ?_
  refine r_ishl dX4_shareOf_9 ?_
  refine r_icmp_lt (tgt := 17) dX4_shareOf_10 (by decide) (fun hc => ?_) (fun hc => ?_)
  · have hf := (am_if hf).1 hc
    refine r_lconst (v := 1) dX4_shareOf_17 rfl ?_
    refine r_lstore_n (L' := [some (vR (28, 0, 0)), some (vI a0), some (vI a1), some (vJ (1 : Int64)), none, none, none]) dX4_shareOf_18 (by decide) rfl ?_
    refine r_iconst (v := 0) dX4_shareOf_19 rfl ?_
    refine r_istore (L' := [some (vR (28, 0, 0)), some (vI a0), some (vI a1), some (vJ (1 : Int64)), none, some (vI (0 : Int32)), none]) dX4_shareOf_20 (by decide) rfl ?_
    refine r_weak (L' := [some (vR (28, 0, 0)), some (vI a0), some (vI a1), some (vJ (1 : Int64)), none, some (vI (0 : Int32)), none]) (And.intro rfl (And.intro rfl (And.intro rfl (And.intro rfl (And.intro rfl trivial))))) ?_
    obtain ⟨e5, he6, hf⟩ := am_bind hf
    refine K_X4_shareOf_L22  2000 ((1 : Int64), (0 : Int32), u) _ he6 ?_
    obtain ⟨y7, u8⟩ := e5
    show X l _ _ 0 0 false _ kC 0 0 103 [none, none, none, some (vJ y7), none, none, none] [] (en u8)
    refine r_lload_n (x := y7) dX4_shareOf_103 rfl ?_
    have hx := am_inj hf
    subst hx
    exact r_lret dX4_shareOf_104 rfl (le_b rfl) (le_b rfl)
  · have hf := (am_if hf).2 hc
    refine r_lconst (v := 0) dX4_shareOf_13 rfl ?_
    refine r_goto (tgt := 18) dX4_shareOf_14 (by decide) ?_
    refine r_lstore_n (L' := [some (vR (28, 0, 0)), some (vI a0), some (vI a1), some (vJ (0 : Int64)), none, none, none]) dX4_shareOf_18 (by decide) rfl ?_
    refine r_iconst (v := 0) dX4_shareOf_19 rfl ?_
    refine r_istore (L' := [some (vR (28, 0, 0)), some (vI a0), some (vI a1), some (vJ (0 : Int64)), none, some (vI (0 : Int32)), none]) dX4_shareOf_20 (by decide) rfl ?_
    refine r_weak (L' := [some (vR (28, 0, 0)), some (vI a0), some (vI a1), some (vJ (0 : Int64)), none, some (vI (0 : Int32)), none]) (And.intro rfl (And.intro rfl (And.intro rfl (And.intro rfl (And.intro rfl trivial))))) ?_
    obtain ⟨e9, he10, hf⟩ := am_bind hf
    refine K_X4_shareOf_L22  2000 ((0 : Int64), (0 : Int32), u) _ he10 ?_
    obtain ⟨y11, u12⟩ := e9
    show X l _ _ 0 0 false _ kC 0 0 103 [none, none, none, some (vJ y11), none, none, none] [] (en u12)
    refine r_lload_n (x := y11) dX4_shareOf_103 rfl ?_
    have hx := am_inj hf
    subst hx
    exact r_lret dX4_shareOf_104 rfl (le_b rfl) (le_b rfl)
/-! FireFromFire$Odds.follow -/
theorem dX4_follow_0 : decode cX4_follow 0 = .ok (.aload_n 0, 1) := by decide +kernel
theorem dX4_follow_1 : decode cX4_follow 1 = .ok (.getfield 24, 3) := by decide +kernel
theorem dX4_follow_4 : decode cX4_follow 4 = .ok (.aload_n 2, 1) := by decide +kernel
theorem dX4_follow_5 : decode cX4_follow 5 = .ok (.invokevirtual 32, 3) := by decide +kernel
theorem dX4_follow_8 : decode cX4_follow 8 = .ok (.lconst 1, 1) := by decide +kernel
theorem dX4_follow_9 : decode cX4_follow 9 = .ok (.lstore 5, 2) := by decide +kernel
theorem dX4_follow_11 : decode cX4_follow 11 = .ok (.iload 4, 2) := by decide +kernel
theorem dX4_follow_13 : decode cX4_follow 13 = .ok (.istore 7, 2) := by decide +kernel
theorem dX4_follow_15 : decode cX4_follow 15 = .ok (.aload_n 1, 1) := by decide +kernel
theorem dX4_follow_16 : decode cX4_follow 16 = .ok (.invokevirtual 36, 3) := by decide +kernel
theorem dX4_follow_19 : decode cX4_follow 19 = .ok (.iconst 0, 1) := by decide +kernel
theorem dX4_follow_20 : decode cX4_follow 20 = .ok (.istore 8, 2) := by decide +kernel
theorem dX4_follow_22 : decode cX4_follow 22 = .ok (.iload 8, 2) := by decide +kernel
theorem dX4_follow_24 : decode cX4_follow 24 = .ok (.iload_n 3, 1) := by decide +kernel
theorem dX4_follow_25 : decode cX4_follow 25 = .ok (.if_icmp .ge 100, 3) := by decide +kernel
theorem dX4_follow_28 : decode cX4_follow 28 = .ok (.iload 8, 2) := by decide +kernel
theorem dX4_follow_30 : decode cX4_follow 30 = .ok (.iconst 2, 1) := by decide +kernel
theorem dX4_follow_31 : decode cX4_follow 31 = .ok (.if_icmp .ge 94, 3) := by decide +kernel
theorem dX4_follow_34 : decode cX4_follow 34 = .ok (.iload 7, 2) := by decide +kernel
theorem dX4_follow_36 : decode cX4_follow 36 = .ok (.bipush 24, 2) := by decide +kernel
theorem dX4_follow_38 : decode cX4_follow 38 = .ok (.irem, 1) := by decide +kernel
theorem dX4_follow_39 : decode cX4_follow 39 = .ok (.bipush 8, 2) := by decide +kernel
theorem dX4_follow_41 : decode cX4_follow 41 = .ok (.idiv, 1) := by decide +kernel
theorem dX4_follow_42 : decode cX4_follow 42 = .ok (.istore 9, 2) := by decide +kernel
theorem dX4_follow_44 : decode cX4_follow 44 = .ok (.iload 7, 2) := by decide +kernel
theorem dX4_follow_46 : decode cX4_follow 46 = .ok (.bipush 8, 2) := by decide +kernel
theorem dX4_follow_48 : decode cX4_follow 48 = .ok (.irem, 1) := by decide +kernel
theorem dX4_follow_49 : decode cX4_follow 49 = .ok (.istore 10, 2) := by decide +kernel
theorem dX4_follow_51 : decode cX4_follow 51 = .ok (.iload 7, 2) := by decide +kernel
theorem dX4_follow_53 : decode cX4_follow 53 = .ok (.bipush 24, 2) := by decide +kernel
theorem dX4_follow_55 : decode cX4_follow 55 = .ok (.idiv, 1) := by decide +kernel
theorem dX4_follow_56 : decode cX4_follow 56 = .ok (.istore 7, 2) := by decide +kernel
theorem dX4_follow_58 : decode cX4_follow 58 = .ok (.lload 5, 2) := by decide +kernel
theorem dX4_follow_60 : decode cX4_follow 60 = .ok (.aload_n 0, 1) := by decide +kernel
theorem dX4_follow_61 : decode cX4_follow 61 = .ok (.getfield 24, 3) := by decide +kernel
theorem dX4_follow_64 : decode cX4_follow 64 = .ok (.aload_n 0, 1) := by decide +kernel
theorem dX4_follow_65 : decode cX4_follow 65 = .ok (.getfield 24, 3) := by decide +kernel
theorem dX4_follow_68 : decode cX4_follow 68 = .ok (.getfield 41, 3) := by decide +kernel
theorem dX4_follow_71 : decode cX4_follow 71 = .ok (.iload 9, 2) := by decide +kernel
theorem dX4_follow_73 : decode cX4_follow 73 = .ok (.invokevirtual 45, 3) := by decide +kernel
theorem dX4_follow_76 : decode cX4_follow 76 = .ok (.i2l, 1) := by decide +kernel
theorem dX4_follow_77 : decode cX4_follow 77 = .ok (.aload_n 0, 1) := by decide +kernel
theorem dX4_follow_78 : decode cX4_follow 78 = .ok (.iload 9, 2) := by decide +kernel
theorem dX4_follow_80 : decode cX4_follow 80 = .ok (.iload 10, 2) := by decide +kernel
theorem dX4_follow_82 : decode cX4_follow 82 = .ok (.invokevirtual 49, 3) := by decide +kernel
theorem dX4_follow_85 : decode cX4_follow 85 = .ok (.lmul, 1) := by decide +kernel
theorem dX4_follow_86 : decode cX4_follow 86 = .ok (.lmul, 1) := by decide +kernel
theorem dX4_follow_87 : decode cX4_follow 87 = .ok (.lstore 5, 2) := by decide +kernel
theorem dX4_follow_89 : decode cX4_follow 89 = .ok (.lload 5, 2) := by decide +kernel
theorem dX4_follow_91 : decode cX4_follow 91 = .ok (.lconst 0, 1) := by decide +kernel
theorem dX4_follow_92 : decode cX4_follow 92 = .ok (.lcmp, 1) := by decide +kernel
theorem dX4_follow_93 : decode cX4_follow 93 = .ok (.ifCond .ne 4, 3) := by decide +kernel
theorem dX4_follow_96 : decode cX4_follow 96 = .ok (.return_, 1) := by decide +kernel
theorem dX4_follow_97 : decode cX4_follow 97 = .ok (.aload_n 1, 1) := by decide +kernel
theorem dX4_follow_98 : decode cX4_follow 98 = .ok (.aload_n 0, 1) := by decide +kernel
theorem dX4_follow_99 : decode cX4_follow 99 = .ok (.getfield 24, 3) := by decide +kernel
theorem dX4_follow_102 : decode cX4_follow 102 = .ok (.iload 9, 2) := by decide +kernel
theorem dX4_follow_104 : decode cX4_follow 104 = .ok (.invokevirtual 53, 3) := by decide +kernel
theorem dX4_follow_107 : decode cX4_follow 107 = .ok (.aload_n 1, 1) := by decide +kernel
theorem dX4_follow_108 : decode cX4_follow 108 = .ok (.aload_n 0, 1) := by decide +kernel
theorem dX4_follow_109 : decode cX4_follow 109 = .ok (.getfield 24, 3) := by decide +kernel
theorem dX4_follow_112 : decode cX4_follow 112 = .ok (.iload 9, 2) := by decide +kernel
theorem dX4_follow_114 : decode cX4_follow 114 = .ok (.iload 10, 2) := by decide +kernel
theorem dX4_follow_116 : decode cX4_follow 116 = .ok (.invokevirtual 57, 3) := by decide +kernel
theorem dX4_follow_119 : decode cX4_follow 119 = .ok (.iinc 8 1, 3) := by decide +kernel
theorem dX4_follow_122 : decode cX4_follow 122 = .ok (.goto (-100), 3) := by decide +kernel
theorem dX4_follow_125 : decode cX4_follow 125 = .ok (.aload_n 0, 1) := by decide +kernel
theorem dX4_follow_126 : decode cX4_follow 126 = .ok (.dup, 1) := by decide +kernel
theorem dX4_follow_127 : decode cX4_follow 127 = .ok (.getfield 15, 3) := by decide +kernel
theorem dX4_follow_130 : decode cX4_follow 130 = .ok (.lload 5, 2) := by decide +kernel
theorem dX4_follow_132 : decode cX4_follow 132 = .ok (.aload_n 1, 1) := by decide +kernel
theorem dX4_follow_133 : decode cX4_follow 133 = .ok (.getfield 61, 3) := by decide +kernel
theorem dX4_follow_136 : decode cX4_follow 136 = .ok (.i2l, 1) := by decide +kernel
theorem dX4_follow_137 : decode cX4_follow 137 = .ok (.lmul, 1) := by decide +kernel
theorem dX4_follow_138 : decode cX4_follow 138 = .ok (.ladd, 1) := by decide +kernel
theorem dX4_follow_139 : decode cX4_follow 139 = .ok (.putfield 15, 3) := by decide +kernel
theorem dX4_follow_142 : decode cX4_follow 142 = .ok (.aload_n 0, 1) := by decide +kernel
theorem dX4_follow_143 : decode cX4_follow 143 = .ok (.getfield 24, 3) := by decide +kernel
theorem dX4_follow_146 : decode cX4_follow 146 = .ok (.invokevirtual 63, 3) := by decide +kernel
theorem dX4_follow_149 : decode cX4_follow 149 = .ok (.ifCond .ne 14, 3) := by decide +kernel
theorem dX4_follow_152 : decode cX4_follow 152 = .ok (.aload_n 0, 1) := by decide +kernel
theorem dX4_follow_153 : decode cX4_follow 153 = .ok (.dup, 1) := by decide +kernel
theorem dX4_follow_154 : decode cX4_follow 154 = .ok (.getfield 11, 3) := by decide +kernel
theorem dX4_follow_157 : decode cX4_follow 157 = .ok (.lload 5, 2) := by decide +kernel
theorem dX4_follow_159 : decode cX4_follow 159 = .ok (.ladd, 1) := by decide +kernel
theorem dX4_follow_160 : decode cX4_follow 160 = .ok (.putfield 11, 3) := by decide +kernel
theorem dX4_follow_163 : decode cX4_follow 163 = .ok (.return_, 1) := by decide +kernel
def f_X4_follow_L22  (c3 : Int32) : Int64 × Int32 × Int32 × PM → Option ((Int64 × Int32 × Int32 × PM) ⊕ ((PM) ⊕ (Int64 × PM))) := fun (x5 , x7 , x8 , u) =>
  if c3 ≤ x8 then
    some (.inr (.inr (x5, u)))
  else
  if (2 : Int32) ≤ x8 then
    some (.inr (.inr (x5, u)))
  else
  (f_X8_tenthsOf 3 (u.1 (1, 3, 0) 3) ((x7 - x7 / (24 : Int32) * (24 : Int32)) / (8 : Int32)) u).bind fun r5 =>
  (f_X4_shareOf ((x7 - x7 / (24 : Int32) * (24 : Int32)) / (8 : Int32)) (x7 - x7 / (8 : Int32) * (8 : Int32)) u).bind fun (r7, u9) =>
  if (lg_cmp (x5 * (r5.toInt64 * r7)) (0 : Int64)) = 0 then
    some (.inr (.inl u9))
  else
  (f_X1_weigh 3 ((x7 - x7 / (24 : Int32) * (24 : Int32)) / (8 : Int32)) u9).bind fun r10 =>
  (f_X1_pass 3 ((x7 - x7 / (24 : Int32) * (24 : Int32)) / (8 : Int32)) (x7 - x7 / (8 : Int32) * (8 : Int32)) r10).bind fun r12 =>
  some (.inl (x5 * (r5.toInt64 * r7), x7 / (24 : Int32), x8 + (1 : Int32), r12))
set_option maxHeartbeats 4000000 in
set_option maxRecDepth 20000 in
theorem K_X4_follow_L22 {l : Launch} {T : Option AV × List Key × AM}  {c3 : Int32} : ∀ (n : Nat) (s : Int64 × Int32 × Int32 × PM) (e0 : (PM) ⊕ (Int64 × PM)), am_loop (f_X4_follow_L22 c3) n s = some e0 → Sum.elim (fun r : PM => T = (none, kC, en r)) (fun e : Int64 × PM => X l mX4_follow 7 0 0 false T kC 0 0 125 [some (vR (28, 0, 0)), some (vR (20, 0, 0)), none, none, none, some (vJ e.1), none, none, none, none, none] [] (en e.2)) e0 → X l mX4_follow 7 0 0 false T kC 0 0 22 [some (vR (28, 0, 0)), some (vR (20, 0, 0)), none, some (vI c3), none, some (vJ s.1), none, some (vI s.2.1), some (vI s.2.2.1), none, none] [] (en s.2.2.2) := by
  refine am_loop_of ?_
  intro s x hf k1 k2
  obtain ⟨x5 , x7 , x8 , u⟩ := s
  unfold f_X4_follow_L22 at hf
  show X l mX4_follow 7 0 0 false T kC 0 0 22 [some (vR (28, 0, 0)), some (vR (20, 0, 0)), none, some (vI c3), none, some (vJ x5), none, some (vI x7), some (vI x8), none, none] [] (en u)
  refine r_iload (x := x8) dX4_follow_22 rfl ?_
  refine r_iload_n (x := c3) dX4_follow_24 rfl ?_
  refine r_icmp_ge (tgt := 125) dX4_follow_25 (by decide) (fun hc => ?_) (fun hc => ?_)
  · have hf := (am_if hf).1 hc
    refine r_weak (L' := [some (vR (28, 0, 0)), some (vR (20, 0, 0)), none, none, none, some (vJ x5), none, none, none, none, none]) (And.intro rfl (And.intro rfl (And.intro rfl trivial))) ?_
    exact k2 _ (am_inj hf).symm
  · have hf := (am_if hf).2 hc
    refine r_iload (x := x8) dX4_follow_28 rfl ?_
    refine r_iconst (v := 2) dX4_follow_30 rfl ?_
    refine r_icmp_ge (tgt := 125) dX4_follow_31 (by decide) (fun hc => ?_) (fun hc => ?_)
    · have hf := (am_if hf).1 hc
      refine r_weak (L' := [some (vR (28, 0, 0)), some (vR (20, 0, 0)), none, none, none, some (vJ x5), none, none, none, none, none]) (And.intro rfl (And.intro rfl (And.intro rfl trivial))) ?_
      exact k2 _ (am_inj hf).symm
    · have hf := (am_if hf).2 hc
      refine r_iload (x := x7) dX4_follow_34 rfl ?_
      refine r_bipush (v := 24) dX4_follow_36 rfl ?_
      refine r_irem dX4_follow_38 (by decide) ?_
      refine r_bipush (v := 8) dX4_follow_39 rfl ?_
      refine r_idiv dX4_follow_41 (by decide) ?_
      refine r_istore (L' := [some (vR (28, 0, 0)), some (vR (20, 0, 0)), none, some (vI c3), none, some (vJ x5), none, some (vI x7), some (vI x8), some (vI ((x7 - x7 / (24 : Int32) * (24 : Int32)) / (8 : Int32))), none]) dX4_follow_42 (by decide) rfl ?_
      refine r_iload (x := x7) dX4_follow_44 rfl ?_
      refine r_bipush (v := 8) dX4_follow_46 rfl ?_
      refine r_irem dX4_follow_48 (by decide) ?_
      refine r_istore (L' := [some (vR (28, 0, 0)), some (vR (20, 0, 0)), none, some (vI c3), none, some (vJ x5), none, some (vI x7), some (vI x8), some (vI ((x7 - x7 / (24 : Int32) * (24 : Int32)) / (8 : Int32))), some (vI (x7 - x7 / (8 : Int32) * (8 : Int32)))]) dX4_follow_49 (by decide) rfl ?_
      refine r_iload (x := x7) dX4_follow_51 rfl ?_
      refine r_bipush (v := 24) dX4_follow_53 rfl ?_
      refine r_idiv dX4_follow_55 (by decide) ?_
      refine r_istore (L' := [some (vR (28, 0, 0)), some (vR (20, 0, 0)), none, some (vI c3), none, some (vJ x5), none, some (vI (x7 / (24 : Int32))), some (vI x8), some (vI ((x7 - x7 / (24 : Int32) * (24 : Int32)) / (8 : Int32))), some (vI (x7 - x7 / (8 : Int32) * (8 : Int32)))]) dX4_follow_56 (by decide) rfl ?_
      refine r_lload (x := x5) dX4_follow_58 rfl ?_
      refine r_aload_n (x := (28, 0, 0)) dX4_follow_60 rfl ?_
      refine e_getr (z := some (1, 3, 0)) fw_X4_24 dX4_follow_61 (kC_mem (s := 28) (by decide) (by decide) (by decide)) rfl (lt_b rfl) rfl ?_
      refine r_aload_n (x := (28, 0, 0)) dX4_follow_64 rfl ?_
      refine e_getr (z := some (1, 3, 0)) fw_X4_24 dX4_follow_65 (kC_mem (s := 28) (by decide) (by decide) (by decide)) rfl (lt_b rfl) rfl ?_
      refine e_geti fw_X4_41 dX4_follow_68 (kC_mem (s := 1) (by decide) (by decide) (by decide)) rfl (lt_b rfl) ?_
      refine r_iload (x := (x7 - x7 / (24 : Int32) * (24 : Int32)) / (8 : Int32)) dX4_follow_71 rfl ?_
      obtain ⟨r5, hr6, hf⟩ := am_bind hf
      refine r_callV (as := [vI (u.1 (1, 3, 0) 3), vI ((x7 - x7 / (24 : Int32) * (24 : Int32)) / (8 : Int32))]) (st := [vJ x5]) (n := 2) mw_X4_45 mv_X8_tenthsOf (C_X8_tenthsOf (l := l) (by decide) hr6) (by decide) dX4_follow_73 (kC_mem (s := 1) (by decide) (by decide) (by decide)) rfl rfl rfl (le_b rfl) (le_b rfl) (le_b rfl) ?_
      show X l _ _ 0 0 false _ kC 0 0 76 [some (vR (28, 0, 0)), some (vR (20, 0, 0)), none, some (vI c3), none, some (vJ x5), none, some (vI (x7 / (24 : Int32))), some (vI x8), some (vI ((x7 - x7 / (24 : Int32) * (24 : Int32)) / (8 : Int32))), some (vI (x7 - x7 / (8 : Int32) * (8 : Int32)))] [vI r5, vJ x5] (en u)
      refine r_i2l dX4_follow_76 ?_
      refine r_aload_n (x := (28, 0, 0)) dX4_follow_77 rfl ?_
      refine r_iload (x := (x7 - x7 / (24 : Int32) * (24 : Int32)) / (8 : Int32)) dX4_follow_78 rfl ?_
      refine r_iload (x := x7 - x7 / (8 : Int32) * (8 : Int32)) dX4_follow_80 rfl ?_
      obtain ⟨⟨r7, u9⟩, hr8, hf⟩ := am_bind hf
      refine r_callV (as := [vI ((x7 - x7 / (24 : Int32) * (24 : Int32)) / (8 : Int32)), vI (x7 - x7 / (8 : Int32) * (8 : Int32))]) (st := [vJ r5.toInt64, vJ x5]) (n := 2) mw_X4_49 mv_X4_shareOf (C_X4_shareOf (l := l) hr8) (by decide) dX4_follow_82 (kC_mem (s := 28) (by decide) (by decide) (by decide)) rfl rfl rfl (le_b rfl) (le_b rfl) (le_b rfl) ?_
      show X l _ _ 0 0 false _ kC 0 0 85 [some (vR (28, 0, 0)), some (vR (20, 0, 0)), none, some (vI c3), none, some (vJ x5), none, some (vI (x7 / (24 : Int32))), some (vI x8), some (vI ((x7 - x7 / (24 : Int32) * (24 : Int32)) / (8 : Int32))), some (vI (x7 - x7 / (8 : Int32) * (8 : Int32)))] [vJ r7, vJ r5.toInt64, vJ x5] (en u9)
      refine r_lmul dX4_follow_85 ?_
      refine r_lmul dX4_follow_86 ?_
      refine r_lstore (L' := [some (vR (28, 0, 0)), some (vR (20, 0, 0)), none, some (vI c3), none, some (vJ (x5 * (r5.toInt64 * r7))), none, some (vI (x7 / (24 : Int32))), some (vI x8), some (vI ((x7 - x7 / (24 : Int32) * (24 : Int32)) / (8 : Int32))), some (vI (x7 - x7 / (8 : Int32) * (8 : Int32)))]) dX4_follow_87 (by decide) rfl ?_
      refine r_lload (x := x5 * (r5.toInt64 * r7)) dX4_follow_89 rfl ?_
      refine r_lconst (v := 0) dX4_follow_91 rfl ?_
      refine r_lcmp dX4_follow_92 ?_
      refine r_if_ne (tgt := 97) dX4_follow_93 (by decide) (fun hc => ?_) (fun hc => ?_)
      · have hf := (am_if hf).2 hc
        refine r_aload_n (x := (20, 0, 0)) dX4_follow_97 rfl ?_
        refine r_aload_n (x := (28, 0, 0)) dX4_follow_98 rfl ?_
        refine e_getr (z := some (1, 3, 0)) fw_X4_24 dX4_follow_99 (kC_mem (s := 28) (by decide) (by decide) (by decide)) rfl (lt_b rfl) rfl ?_
        refine r_iload (x := (x7 - x7 / (24 : Int32) * (24 : Int32)) / (8 : Int32)) dX4_follow_102 rfl ?_
        obtain ⟨r10, hr11, hf⟩ := am_bind hf
        refine r_callV (as := [vR (1, 3, 0), vI ((x7 - x7 / (24 : Int32) * (24 : Int32)) / (8 : Int32))]) (st := []) (n := 2) mw_X4_53 mv_X1_weigh (C_X1_weigh (l := l) (by decide) hr11) (by decide) dX4_follow_104 (kC_mem (s := 20) (by decide) (by decide) (by decide)) rfl rfl rfl (le_b rfl) (le_b rfl) (le_b rfl) ?_
        show X l _ _ 0 0 false _ kC 0 0 107 [some (vR (28, 0, 0)), some (vR (20, 0, 0)), none, some (vI c3), none, some (vJ (x5 * (r5.toInt64 * r7))), none, some (vI (x7 / (24 : Int32))), some (vI x8), some (vI ((x7 - x7 / (24 : Int32) * (24 : Int32)) / (8 : Int32))), some (vI (x7 - x7 / (8 : Int32) * (8 : Int32)))] [] (en r10)
        refine r_aload_n (x := (20, 0, 0)) dX4_follow_107 rfl ?_
        refine r_aload_n (x := (28, 0, 0)) dX4_follow_108 rfl ?_
        refine e_getr (z := some (1, 3, 0)) fw_X4_24 dX4_follow_109 (kC_mem (s := 28) (by decide) (by decide) (by decide)) rfl (lt_b rfl) rfl ?_
        refine r_iload (x := (x7 - x7 / (24 : Int32) * (24 : Int32)) / (8 : Int32)) dX4_follow_112 rfl ?_
        refine r_iload (x := x7 - x7 / (8 : Int32) * (8 : Int32)) dX4_follow_114 rfl ?_
        obtain ⟨r12, hr13, hf⟩ := am_bind hf
        refine r_callV (as := [vR (1, 3, 0), vI ((x7 - x7 / (24 : Int32) * (24 : Int32)) / (8 : Int32)), vI (x7 - x7 / (8 : Int32) * (8 : Int32))]) (st := []) (n := 3) mw_X4_57 mv_X1_pass (C_X1_pass (l := l) (by decide) hr13) (by decide) dX4_follow_116 (kC_mem (s := 20) (by decide) (by decide) (by decide)) rfl rfl rfl (le_b rfl) (le_b rfl) (le_b rfl) ?_
        show X l _ _ 0 0 false _ kC 0 0 119 [some (vR (28, 0, 0)), some (vR (20, 0, 0)), none, some (vI c3), none, some (vJ (x5 * (r5.toInt64 * r7))), none, some (vI (x7 / (24 : Int32))), some (vI x8), some (vI ((x7 - x7 / (24 : Int32) * (24 : Int32)) / (8 : Int32))), some (vI (x7 - x7 / (8 : Int32) * (8 : Int32)))] [] (en r12)
        refine r_iinc (x := x8) (v := x8 + (1 : Int32)) (L' := [some (vR (28, 0, 0)), some (vR (20, 0, 0)), none, some (vI c3), none, some (vJ (x5 * (r5.toInt64 * r7))), none, some (vI (x7 / (24 : Int32))), some (vI (x8 + (1 : Int32))), some (vI ((x7 - x7 / (24 : Int32) * (24 : Int32)) / (8 : Int32))), some (vI (x7 - x7 / (8 : Int32) * (8 : Int32)))]) dX4_follow_119 rfl rfl (lt_b rfl) rfl ?_
        refine r_goto (tgt := 22) dX4_follow_122 (by decide) ?_
        refine r_weak (L' := [some (vR (28, 0, 0)), some (vR (20, 0, 0)), none, some (vI c3), none, some (vJ (x5 * (r5.toInt64 * r7))), none, some (vI (x7 / (24 : Int32))), some (vI (x8 + (1 : Int32))), none, none]) (And.intro rfl (And.intro rfl (And.intro rfl (And.intro rfl (And.intro rfl (And.intro rfl trivial)))))) ?_
        exact k1 _ (am_inj hf).symm
      · have hf := (am_if hf).1 hc
        have hT := k2 _ (am_inj hf).symm
        replace hT : T = (none, kC, en u9) := hT
        subst hT
        exact r_vret dX4_follow_96 rfl (le_b rfl) (le_b rfl)
def f_X4_follow (w : Nat) (a2 : Int32) (a3 : Int32) (u : PM) : Option (PM) :=
  (f_X8_copy 3 w u).bind fun r1 =>
  (f_X1_begin r1).bind fun r3 =>
  (am_loop (f_X4_follow_L22 a2) 2000 ((1 : Int64), a3, (0 : Int32), r3)).bind fun e14 =>
  match e14 with
  | .inl q20 => some q20
  | .inr (y16, u17) =>
    (f_X8_litCount 3 (pl u17 (28, 0, 0) 1 ((u17.2.1 (28, 0, 0) 1) + (y16 * ((u17.1 (20, 0, 0) 0).toInt64))))).bind fun r18 =>
    if r18 = 0 then
      some (pl (pl u17 (28, 0, 0) 1 ((u17.2.1 (28, 0, 0) 1) + (y16 * ((u17.1 (20, 0, 0) 0).toInt64)))) (28, 0, 0) 0 ((u17.2.1 (28, 0, 0) 0) + y16))
    else
    some (pl u17 (28, 0, 0) 1 ((u17.2.1 (28, 0, 0) 1) + (y16 * ((u17.1 (20, 0, 0) 0).toInt64))))
set_option maxHeartbeats 4000000 in
set_option maxRecDepth 20000 in
theorem C_X4_follow {l : Launch} {w : Nat} (hw : w < 4) {a2 : Int32} {a3 : Int32} {u : PM} {x : PM} (hf : f_X4_follow w a2 a3 u = some x) : Ev l mX4_follow 7 0 0 false [vR (28, 0, 0), vR (20, 0, 0), vR (1, w, 0), vI a2, vI a3] kC (en u) (none, kC, en x) := by
  refine Ev_of (by decide +kernel) (le_b rfl) ?_
  unfold f_X4_follow at hf
  show X l mX4_follow 7 0 0 false _ kC 0 0 0 [some (vR (28, 0, 0)), some (vR (20, 0, 0)), some (vR (1, w, 0)), some (vI a2), some (vI a3), none, none, none, none, none, none] [] (en u)
  refine r_aload_n (x := (28, 0, 0)) dX4_follow_0 rfl ?_
  refine e_getr (z := some (1, 3, 0)) fw_X4_24 dX4_follow_1 (kC_mem (s := 28) (by decide) (by decide) (by decide)) rfl (lt_b rfl) rfl ?_
  refine r_aload_n (x := (1, w, 0)) dX4_follow_4 rfl ?_
  obtain ⟨r1, hr2, hf⟩ := am_bind hf
  refine r_callV (as := [vR (1, w, 0)]) (st := []) (n := 1) mw_X4_32 mv_X8_copy (C_X8_copy (l := l) (by decide) hw hr2) (by decide) dX4_follow_5 (kC_mem (s := 1) (by decide) (by decide) (by decide)) rfl rfl rfl (le_b rfl) (le_b rfl) (le_b rfl) ?_
  show X l _ _ 0 0 false _ kC 0 0 8 [some (vR (28, 0, 0)), some (vR (20, 0, 0)), some (vR (1, w, 0)), some (vI a2), some (vI a3), none, none, none, none, none, none] [] (en r1)
  refine r_lconst (v := 1) dX4_follow_8 rfl ?_
  refine r_lstore (L' := [some (vR (28, 0, 0)), some (vR (20, 0, 0)), some (vR (1, w, 0)), some (vI a2), some (vI a3), some (vJ (1 : Int64)), none, none, none, none, none]) dX4_follow_9 (by decide) rfl ?_
  refine r_iload (x := a3) dX4_follow_11 rfl ?_
  refine r_istore (L' := [some (vR (28, 0, 0)), some (vR (20, 0, 0)), some (vR (1, w, 0)), some (vI a2), some (vI a3), some (vJ (1 : Int64)), none, some (vI a3), none, none, none]) dX4_follow_13 (by decide) rfl ?_
  refine r_aload_n (x := (20, 0, 0)) dX4_follow_15 rfl ?_
  obtain ⟨r3, hr4, hf⟩ := am_bind hf
  refine r_callV (as := []) (st := []) (n := 0) mw_X4_36 mv_X1_begin (C_X1_begin (l := l) hr4) (by decide) dX4_follow_16 (kC_mem (s := 20) (by decide) (by decide) (by decide)) rfl rfl rfl (le_b rfl) (le_b rfl) (le_b rfl) ?_
  show X l _ _ 0 0 false _ kC 0 0 19 [some (vR (28, 0, 0)), some (vR (20, 0, 0)), some (vR (1, w, 0)), some (vI a2), some (vI a3), some (vJ (1 : Int64)), none, some (vI a3), none, none, none] [] (en r3)
  refine r_iconst (v := 0) dX4_follow_19 rfl ?_
  refine r_istore (L' := [some (vR (28, 0, 0)), some (vR (20, 0, 0)), some (vR (1, w, 0)), some (vI a2), some (vI a3), some (vJ (1 : Int64)), none, some (vI a3), some (vI (0 : Int32)), none, none]) dX4_follow_20 (by decide) rfl ?_
  refine r_weak (L' := [some (vR (28, 0, 0)), some (vR (20, 0, 0)), none, some (vI a2), none, some (vJ (1 : Int64)), none, some (vI a3), some (vI (0 : Int32)), none, none]) (And.intro rfl (And.intro rfl (And.intro rfl (And.intro rfl (And.intro rfl (And.intro rfl trivial)))))) ?_
  obtain ⟨e14, he15, hf⟩ := am_bind hf
  refine K_X4_follow_L22  2000 ((1 : Int64), a3, (0 : Int32), r3) _ he15 ?_
  rcases e14 with q20 | e14
  · have hx := am_inj hf
    subst hx
    rfl
  · obtain ⟨y16, u17⟩ := e14
    show X l _ _ 0 0 false _ kC 0 0 125 [some (vR (28, 0, 0)), some (vR (20, 0, 0)), none, none, none, some (vJ y16), none, none, none, none, none] [] (en u17)
    refine r_aload_n (x := (28, 0, 0)) dX4_follow_125 rfl ?_
    refine r_dup dX4_follow_126 rfl ?_
    refine e_getl fw_X4_15 dX4_follow_127 (kC_mem (s := 28) (by decide) (by decide) (by decide)) rfl (lt_b rfl) ?_
    refine r_lload (x := y16) dX4_follow_130 rfl ?_
    refine r_aload_n (x := (20, 0, 0)) dX4_follow_132 rfl ?_
    refine e_geti fw_X4_61 dX4_follow_133 (kC_mem (s := 20) (by decide) (by decide) (by decide)) rfl (lt_b rfl) ?_
    refine r_i2l dX4_follow_136 ?_
    refine r_lmul dX4_follow_137 ?_
    refine r_ladd dX4_follow_138 ?_
    refine e_putl fp_X4_15 dX4_follow_139 (kC_mem (s := 28) (by decide) (by decide) (by decide)) rfl (lt_b rfl) rfl ?_
    refine r_aload_n (x := (28, 0, 0)) dX4_follow_142 rfl ?_
    refine e_getr (z := some (1, 3, 0)) fw_X4_24 dX4_follow_143 (kC_mem (s := 28) (by decide) (by decide) (by decide)) rfl (lt_b rfl) rfl ?_
    obtain ⟨r18, hr19, hf⟩ := am_bind hf
    refine r_callV (as := []) (st := []) (n := 0) mw_X4_63 mv_X8_litCount (C_X8_litCount (l := l) (by decide) hr19) (by decide) dX4_follow_146 (kC_mem (s := 1) (by decide) (by decide) (by decide)) rfl rfl rfl (le_b rfl) (le_b rfl) (le_b rfl) ?_
    show X l _ _ 0 0 false _ kC 0 0 149 [some (vR (28, 0, 0)), some (vR (20, 0, 0)), none, none, none, some (vJ y16), none, none, none, none, none] [vI r18] (en (pl u17 (28, 0, 0) 1 ((u17.2.1 (28, 0, 0) 1) + (y16 * ((u17.1 (20, 0, 0) 0).toInt64)))))
    refine r_if_ne (tgt := 163) dX4_follow_149 (by decide) (fun hc => ?_) (fun hc => ?_)
    · have hf := (am_if hf).2 hc
      have hx := am_inj hf
      subst hx
      exact r_vret dX4_follow_163 rfl (le_b rfl) (le_b rfl)
    · have hf := (am_if hf).1 hc
      refine r_aload_n (x := (28, 0, 0)) dX4_follow_152 rfl ?_
      refine r_dup dX4_follow_153 rfl ?_
      refine e_getl_ (x := u17.2.1 (28, 0, 0) 0) fw_X4_11 dX4_follow_154 (kC_mem (s := 28) (by decide) (by decide) (by decide)) rfl (lt_b rfl) (by simp [pi, pl, pr, pci, pcl]) ?_
      refine r_lload (x := y16) dX4_follow_157 rfl ?_
      refine r_ladd dX4_follow_159 ?_
      refine e_putl fp_X4_11 dX4_follow_160 (kC_mem (s := 28) (by decide) (by decide) (by decide)) rfl (lt_b rfl) rfl ?_
      have hx := am_inj hf
      subst hx
      exact r_vret dX4_follow_163 rfl (le_b rfl) (le_b rfl)
/-! FireFromFire$Odds.commonDivisor -/
theorem dX4_commonDivisor_0 : decode cX4_commonDivisor 0 = .ok (.lload_n 0, 1) := by decide +kernel
theorem dX4_commonDivisor_1 : decode cX4_commonDivisor 1 = .ok (.lstore 4, 2) := by decide +kernel
theorem dX4_commonDivisor_3 : decode cX4_commonDivisor 3 = .ok (.lload_n 2, 1) := by decide +kernel
theorem dX4_commonDivisor_4 : decode cX4_commonDivisor 4 = .ok (.lstore 6, 2) := by decide +kernel
theorem dX4_commonDivisor_6 : decode cX4_commonDivisor 6 = .ok (.iconst 0, 1) := by decide +kernel
theorem dX4_commonDivisor_7 : decode cX4_commonDivisor 7 = .ok (.istore 8, 2) := by decide +kernel
theorem dX4_commonDivisor_9 : decode cX4_commonDivisor 9 = .ok (.iload 8, 2) := by decide +kernel
theorem dX4_commonDivisor_11 : decode cX4_commonDivisor 11 = .ok (.sipush 1000, 3) := by decide +kernel
theorem dX4_commonDivisor_14 : decode cX4_commonDivisor 14 = .ok (.if_icmp .ge 31, 3) := by decide +kernel
theorem dX4_commonDivisor_17 : decode cX4_commonDivisor 17 = .ok (.lload 6, 2) := by decide +kernel
theorem dX4_commonDivisor_19 : decode cX4_commonDivisor 19 = .ok (.lconst 0, 1) := by decide +kernel
theorem dX4_commonDivisor_20 : decode cX4_commonDivisor 20 = .ok (.lcmp, 1) := by decide +kernel
theorem dX4_commonDivisor_21 : decode cX4_commonDivisor 21 = .ok (.ifCond .eq 24, 3) := by decide +kernel
theorem dX4_commonDivisor_24 : decode cX4_commonDivisor 24 = .ok (.lload 4, 2) := by decide +kernel
theorem dX4_commonDivisor_26 : decode cX4_commonDivisor 26 = .ok (.lload 6, 2) := by decide +kernel
theorem dX4_commonDivisor_28 : decode cX4_commonDivisor 28 = .ok (.lrem, 1) := by decide +kernel
theorem dX4_commonDivisor_29 : decode cX4_commonDivisor 29 = .ok (.lstore 9, 2) := by decide +kernel
theorem dX4_commonDivisor_31 : decode cX4_commonDivisor 31 = .ok (.lload 6, 2) := by decide +kernel
theorem dX4_commonDivisor_33 : decode cX4_commonDivisor 33 = .ok (.lstore 4, 2) := by decide +kernel
theorem dX4_commonDivisor_35 : decode cX4_commonDivisor 35 = .ok (.lload 9, 2) := by decide +kernel
theorem dX4_commonDivisor_37 : decode cX4_commonDivisor 37 = .ok (.lstore 6, 2) := by decide +kernel
theorem dX4_commonDivisor_39 : decode cX4_commonDivisor 39 = .ok (.iinc 8 1, 3) := by decide +kernel
theorem dX4_commonDivisor_42 : decode cX4_commonDivisor 42 = .ok (.goto (-33), 3) := by decide +kernel
theorem dX4_commonDivisor_45 : decode cX4_commonDivisor 45 = .ok (.lload 4, 2) := by decide +kernel
theorem dX4_commonDivisor_47 : decode cX4_commonDivisor 47 = .ok (.lreturn, 1) := by decide +kernel
def f_X4_commonDivisor_L9   (u : PM) : Int64 × Int64 × Int32 → Option ((Int64 × Int64 × Int32) ⊕ (Int64)) := fun (x4 , x6 , x8) =>
  if (1000 : Int32) ≤ x8 then
    some (.inr (x4))
  else
  if (lg_cmp x6 (0 : Int64)) = 0 then
    some (.inr (x4))
  else
  if x6 = 0 then none else
  some (.inl (x6, x4 - x4 / x6 * x6, x8 + (1 : Int32)))
set_option maxHeartbeats 4000000 in
set_option maxRecDepth 20000 in
theorem K_X4_commonDivisor_L9 {l : Launch} {T : Option AV × List Key × AM}   {u : PM} : ∀ (n : Nat) (s : Int64 × Int64 × Int32) (e0 : Int64), am_loop (f_X4_commonDivisor_L9 u) n s = some e0 → (fun e : Int64 => X l mX4_commonDivisor 1 0 0 false T kC 0 0 45 [none, none, none, none, some (vJ e), none, none, none, none, none, none] [] (en u)) e0 → X l mX4_commonDivisor 1 0 0 false T kC 0 0 9 [none, none, none, none, some (vJ s.1), none, some (vJ s.2.1), none, some (vI s.2.2), none, none] [] (en u) := by
  refine am_loop_of ?_
  intro s x hf k1 k2
  obtain ⟨x4 , x6 , x8⟩ := s
  unfold f_X4_commonDivisor_L9 at hf
  show X l mX4_commonDivisor 1 0 0 false T kC 0 0 9 [none, none, none, none, some (vJ x4), none, some (vJ x6), none, some (vI x8), none, none] [] (en u)
  refine r_iload (x := x8) dX4_commonDivisor_9 rfl ?_
  refine r_sipush (v := 1000) dX4_commonDivisor_11 rfl ?_
  refine r_icmp_ge (tgt := 45) dX4_commonDivisor_14 (by decide) (fun hc => ?_) (fun hc => ?_)
  · have hf := (am_if hf).1 hc
    refine r_weak (L' := [none, none, none, none, some (vJ x4), none, none, none, none, none, none]) (And.intro rfl trivial) ?_
    exact k2 _ (am_inj hf).symm
  · have hf := (am_if hf).2 hc
    refine r_lload (x := x6) dX4_commonDivisor_17 rfl ?_
    refine r_lconst (v := 0) dX4_commonDivisor_19 rfl ?_
    refine r_lcmp dX4_commonDivisor_20 ?_
    refine r_if_eq (tgt := 45) dX4_commonDivisor_21 (by decide) (fun hc => ?_) (fun hc => ?_)
    · have hf := (am_if hf).1 hc
      refine r_weak (L' := [none, none, none, none, some (vJ x4), none, none, none, none, none, none]) (And.intro rfl trivial) ?_
      exact k2 _ (am_inj hf).symm
    · have hf := (am_if hf).2 hc
      refine r_lload (x := x4) dX4_commonDivisor_24 rfl ?_
      refine r_lload (x := x6) dX4_commonDivisor_26 rfl ?_
      obtain ⟨h1, hf⟩ := am_nchk hf
      refine r_lrem dX4_commonDivisor_28 h1 ?_
      refine r_lstore (L' := [none, none, none, none, some (vJ x4), none, some (vJ x6), none, some (vI x8), some (vJ (x4 - x4 / x6 * x6)), none]) dX4_commonDivisor_29 (by decide) rfl ?_
      refine r_lload (x := x6) dX4_commonDivisor_31 rfl ?_
      refine r_lstore (L' := [none, none, none, none, some (vJ x6), none, some (vJ x6), none, some (vI x8), some (vJ (x4 - x4 / x6 * x6)), none]) dX4_commonDivisor_33 (by decide) rfl ?_
      refine r_lload (x := x4 - x4 / x6 * x6) dX4_commonDivisor_35 rfl ?_
      refine r_lstore (L' := [none, none, none, none, some (vJ x6), none, some (vJ (x4 - x4 / x6 * x6)), none, some (vI x8), some (vJ (x4 - x4 / x6 * x6)), none]) dX4_commonDivisor_37 (by decide) rfl ?_
      refine r_iinc (x := x8) (v := x8 + (1 : Int32)) (L' := [none, none, none, none, some (vJ x6), none, some (vJ (x4 - x4 / x6 * x6)), none, some (vI (x8 + (1 : Int32))), some (vJ (x4 - x4 / x6 * x6)), none]) dX4_commonDivisor_39 rfl rfl (lt_b rfl) rfl ?_
      refine r_goto (tgt := 9) dX4_commonDivisor_42 (by decide) ?_
      refine r_weak (L' := [none, none, none, none, some (vJ x6), none, some (vJ (x4 - x4 / x6 * x6)), none, some (vI (x8 + (1 : Int32))), none, none]) (And.intro rfl (And.intro rfl (And.intro rfl trivial))) ?_
      exact k1 _ (am_inj hf).symm
def f_X4_commonDivisor  (a0 : Int64) (a1 : Int64) (u : PM) : Option (Int64) :=
  (am_loop (f_X4_commonDivisor_L9 u) 2000 (a0, a1, (0 : Int32))).bind fun y4 =>
  some y4
set_option maxHeartbeats 4000000 in
set_option maxRecDepth 20000 in
theorem C_X4_commonDivisor {l : Launch}  {a0 : Int64} {a1 : Int64} {u : PM} {x : Int64} (hf : f_X4_commonDivisor a0 a1 u = some x) : Ev l mX4_commonDivisor 1 0 0 false [vJ a0, vJ a1] kC (en u) (some (vJ x), kC, en u) := by
  refine Ev_of (by decide +kernel) (le_b rfl) ?_
  unfold f_X4_commonDivisor at hf
  show X l mX4_commonDivisor 1 0 0 false _ kC 0 0 0 [some (vJ a0), none, some (vJ a1), none, none, none, none, none, none, none, none] [] (en u)
  refine r_lload_n (x := a0) dX4_commonDivisor_0 rfl ?_
  refine r_lstore (L' := [some (vJ a0), none, some (vJ a1), none, some (vJ a0), none, none, none, none, none, none]) dX4_commonDivisor_1 (by decide) rfl ?_
  refine r_lload_n (x := a1) dX4_commonDivisor_3 rfl ?_
  refine r_lstore (L' := [some (vJ a0), none, some (vJ a1), none, some (vJ a0), none, some (vJ a1), none, none, none, none]) dX4_commonDivisor_4 (by decide) rfl ?_
  refine r_iconst (v := 0) dX4_commonDivisor_6 rfl ?_
  refine r_istore (L' := [some (vJ a0), none, some (vJ a1), none, some (vJ a0), none, some (vJ a1), none, some (vI (0 : Int32)), none, none]) dX4_commonDivisor_7 (by decide) rfl ?_
  refine r_weak (L' := [none, none, none, none, some (vJ a0), none, some (vJ a1), none, some (vI (0 : Int32)), none, none]) (And.intro rfl (And.intro rfl (And.intro rfl trivial))) ?_
  obtain ⟨e2, he3, hf⟩ := am_bind hf
  refine K_X4_commonDivisor_L9  2000 (a0, a1, (0 : Int32)) _ he3 ?_
  obtain ⟨y4, rfl⟩ : ∃ z, z = e2 := ⟨_, rfl⟩
  show X l _ _ 0 0 false _ kC 0 0 45 [none, none, none, none, some (vJ y4), none, none, none, none, none, none] [] (en u)
  refine r_lload (x := y4) dX4_commonDivisor_45 rfl ?_
  have hx := am_inj hf
  subst hx
  exact r_lret dX4_commonDivisor_47 rfl (le_b rfl) (le_b rfl)
end
