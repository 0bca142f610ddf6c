/-! java.lang.Integer.compare -/
theorem dJ6_compare_7cf53_0 : decode cJ6_compare_7cf53 0 = .ok (.iload_n 0, 1) := by decide +kernel
theorem dJ6_compare_7cf53_1 : decode cJ6_compare_7cf53 1 = .ok (.iload_n 1, 1) := by decide +kernel
theorem dJ6_compare_7cf53_2 : decode cJ6_compare_7cf53 2 = .ok (.if_icmp .ge 7, 3) := by decide +kernel
theorem dJ6_compare_7cf53_5 : decode cJ6_compare_7cf53 5 = .ok (.iconst (-1), 1) := by decide +kernel
theorem dJ6_compare_7cf53_6 : decode cJ6_compare_7cf53 6 = .ok (.goto 13, 3) := by decide +kernel
theorem dJ6_compare_7cf53_9 : decode cJ6_compare_7cf53 9 = .ok (.iload_n 0, 1) := by decide +kernel
theorem dJ6_compare_7cf53_10 : decode cJ6_compare_7cf53 10 = .ok (.iload_n 1, 1) := by decide +kernel
theorem dJ6_compare_7cf53_11 : decode cJ6_compare_7cf53 11 = .ok (.if_icmp .ne 7, 3) := by decide +kernel
theorem dJ6_compare_7cf53_14 : decode cJ6_compare_7cf53 14 = .ok (.iconst 0, 1) := by decide +kernel
theorem dJ6_compare_7cf53_15 : decode cJ6_compare_7cf53 15 = .ok (.goto 4, 3) := by decide +kernel
theorem dJ6_compare_7cf53_18 : decode cJ6_compare_7cf53 18 = .ok (.iconst 1, 1) := by decide +kernel
theorem dJ6_compare_7cf53_19 : decode cJ6_compare_7cf53 19 = .ok (.ireturn, 1) := by decide +kernel
def f_J6_compare_7cf53  (a0 : Int32) (a1 : Int32) (u : PM) : Option (Int32) :=
  if a1 ≤ a0 then
    if a0 = a1 then
      some (0 : Int32)
    else
    some (1 : Int32)
  else
  some (-1 : Int32)
set_option maxHeartbeats 4000000 in
set_option maxRecDepth 20000 in
theorem C_J6_compare_7cf53 {l : Launch}  {a0 : Int32} {a1 : Int32} {u : PM} {x : Int32} (hf : f_J6_compare_7cf53 a0 a1 u = some x) : Ev l mJ6_compare_7cf53 1 0 0 false [vI a0, vI a1] kC (en u) (some (vI x), kC, en u) := by
  refine Ev_of (by decide +kernel) (le_b rfl) ?_
  unfold f_J6_compare_7cf53 at hf
  show X l mJ6_compare_7cf53 1 0 0 false _ kC 0 0 0 [some (vI a0), some (vI a1)] [] (en u)
  refine r_iload_n (x := a0) dJ6_compare_7cf53_0 rfl ?_
  refine r_iload_n (x := a1) dJ6_compare_7cf53_1 rfl ?_
  refine r_icmp_ge (tgt := 9) dJ6_compare_7cf53_2 (by decide) (fun hc => ?_) (fun hc => ?_)
  · have hf := (am_if hf).1 hc
    refine r_iload_n (x := a0) dJ6_compare_7cf53_9 rfl ?_
    refine r_iload_n (x := a1) dJ6_compare_7cf53_10 rfl ?_
    refine r_icmp_ne (tgt := 18) dJ6_compare_7cf53_11 (by decide) (fun hc => ?_) (fun hc => ?_)
    · have hf := (am_if hf).2 hc
      refine r_iconst (v := 1) dJ6_compare_7cf53_18 rfl ?_
      have hx := am_inj hf
      subst hx
      exact r_iret dJ6_compare_7cf53_19 rfl rfl (le_b rfl) (le_b rfl)
    · have hf := (am_if hf).1 hc
      refine r_iconst (v := 0) dJ6_compare_7cf53_14 rfl ?_
      refine r_goto (tgt := 19) dJ6_compare_7cf53_15 (by decide) ?_
      have hx := am_inj hf
      subst hx
      exact r_iret dJ6_compare_7cf53_19 rfl rfl (le_b rfl) (le_b rfl)
  · have hf := (am_if hf).2 hc
    refine r_iconst (v := -1) dJ6_compare_7cf53_5 rfl ?_
    refine r_goto (tgt := 19) dJ6_compare_7cf53_6 (by decide) ?_
    have hx := am_inj hf
    subst hx
    exact r_iret dJ6_compare_7cf53_19 rfl rfl (le_b rfl) (le_b rfl)
/-! java.lang.Integer.bitCount -/
theorem dJ6_bitCount_0f7a4_0 : decode cJ6_bitCount_0f7a4 0 = .ok (.iload_n 0, 1) := by decide +kernel
theorem dJ6_bitCount_0f7a4_1 : decode cJ6_bitCount_0f7a4 1 = .ok (.iload_n 0, 1) := by decide +kernel
theorem dJ6_bitCount_0f7a4_2 : decode cJ6_bitCount_0f7a4 2 = .ok (.iconst 1, 1) := by decide +kernel
theorem dJ6_bitCount_0f7a4_3 : decode cJ6_bitCount_0f7a4 3 = .ok (.iushr, 1) := by decide +kernel
theorem dJ6_bitCount_0f7a4_4 : decode cJ6_bitCount_0f7a4 4 = .ok (.ldc_w 265, 3) := by decide +kernel
theorem dJ6_bitCount_0f7a4_7 : decode cJ6_bitCount_0f7a4 7 = .ok (.iand, 1) := by decide +kernel
theorem dJ6_bitCount_0f7a4_8 : decode cJ6_bitCount_0f7a4 8 = .ok (.isub, 1) := by decide +kernel
theorem dJ6_bitCount_0f7a4_9 : decode cJ6_bitCount_0f7a4 9 = .ok (.istore_n 0, 1) := by decide +kernel
theorem dJ6_bitCount_0f7a4_10 : decode cJ6_bitCount_0f7a4 10 = .ok (.iload_n 0, 1) := by decide +kernel
theorem dJ6_bitCount_0f7a4_11 : decode cJ6_bitCount_0f7a4 11 = .ok (.ldc_w 266, 3) := by decide +kernel
theorem dJ6_bitCount_0f7a4_14 : decode cJ6_bitCount_0f7a4 14 = .ok (.iand, 1) := by decide +kernel
theorem dJ6_bitCount_0f7a4_15 : decode cJ6_bitCount_0f7a4 15 = .ok (.iload_n 0, 1) := by decide +kernel
theorem dJ6_bitCount_0f7a4_16 : decode cJ6_bitCount_0f7a4 16 = .ok (.iconst 2, 1) := by decide +kernel
theorem dJ6_bitCount_0f7a4_17 : decode cJ6_bitCount_0f7a4 17 = .ok (.iushr, 1) := by decide +kernel
theorem dJ6_bitCount_0f7a4_18 : decode cJ6_bitCount_0f7a4 18 = .ok (.ldc_w 266, 3) := by decide +kernel
theorem dJ6_bitCount_0f7a4_21 : decode cJ6_bitCount_0f7a4 21 = .ok (.iand, 1) := by decide +kernel
theorem dJ6_bitCount_0f7a4_22 : decode cJ6_bitCount_0f7a4 22 = .ok (.iadd, 1) := by decide +kernel
theorem dJ6_bitCount_0f7a4_23 : decode cJ6_bitCount_0f7a4 23 = .ok (.istore_n 0, 1) := by decide +kernel
theorem dJ6_bitCount_0f7a4_24 : decode cJ6_bitCount_0f7a4 24 = .ok (.iload_n 0, 1) := by decide +kernel
theorem dJ6_bitCount_0f7a4_25 : decode cJ6_bitCount_0f7a4 25 = .ok (.iload_n 0, 1) := by decide +kernel
theorem dJ6_bitCount_0f7a4_26 : decode cJ6_bitCount_0f7a4 26 = .ok (.iconst 4, 1) := by decide +kernel
theorem dJ6_bitCount_0f7a4_27 : decode cJ6_bitCount_0f7a4 27 = .ok (.iushr, 1) := by decide +kernel
theorem dJ6_bitCount_0f7a4_28 : decode cJ6_bitCount_0f7a4 28 = .ok (.iadd, 1) := by decide +kernel
theorem dJ6_bitCount_0f7a4_29 : decode cJ6_bitCount_0f7a4 29 = .ok (.ldc_w 267, 3) := by decide +kernel
theorem dJ6_bitCount_0f7a4_32 : decode cJ6_bitCount_0f7a4 32 = .ok (.iand, 1) := by decide +kernel
theorem dJ6_bitCount_0f7a4_33 : decode cJ6_bitCount_0f7a4 33 = .ok (.istore_n 0, 1) := by decide +kernel
theorem dJ6_bitCount_0f7a4_34 : decode cJ6_bitCount_0f7a4 34 = .ok (.iload_n 0, 1) := by decide +kernel
theorem dJ6_bitCount_0f7a4_35 : decode cJ6_bitCount_0f7a4 35 = .ok (.iload_n 0, 1) := by decide +kernel
theorem dJ6_bitCount_0f7a4_36 : decode cJ6_bitCount_0f7a4 36 = .ok (.bipush 8, 2) := by decide +kernel
theorem dJ6_bitCount_0f7a4_38 : decode cJ6_bitCount_0f7a4 38 = .ok (.iushr, 1) := by decide +kernel
theorem dJ6_bitCount_0f7a4_39 : decode cJ6_bitCount_0f7a4 39 = .ok (.iadd, 1) := by decide +kernel
theorem dJ6_bitCount_0f7a4_40 : decode cJ6_bitCount_0f7a4 40 = .ok (.istore_n 0, 1) := by decide +kernel
theorem dJ6_bitCount_0f7a4_41 : decode cJ6_bitCount_0f7a4 41 = .ok (.iload_n 0, 1) := by decide +kernel
theorem dJ6_bitCount_0f7a4_42 : decode cJ6_bitCount_0f7a4 42 = .ok (.iload_n 0, 1) := by decide +kernel
theorem dJ6_bitCount_0f7a4_43 : decode cJ6_bitCount_0f7a4 43 = .ok (.bipush 16, 2) := by decide +kernel
theorem dJ6_bitCount_0f7a4_45 : decode cJ6_bitCount_0f7a4 45 = .ok (.iushr, 1) := by decide +kernel
theorem dJ6_bitCount_0f7a4_46 : decode cJ6_bitCount_0f7a4 46 = .ok (.iadd, 1) := by decide +kernel
theorem dJ6_bitCount_0f7a4_47 : decode cJ6_bitCount_0f7a4 47 = .ok (.istore_n 0, 1) := by decide +kernel
theorem dJ6_bitCount_0f7a4_48 : decode cJ6_bitCount_0f7a4 48 = .ok (.iload_n 0, 1) := by decide +kernel
theorem dJ6_bitCount_0f7a4_49 : decode cJ6_bitCount_0f7a4 49 = .ok (.bipush 63, 2) := by decide +kernel
theorem dJ6_bitCount_0f7a4_51 : decode cJ6_bitCount_0f7a4 51 = .ok (.iand, 1) := by decide +kernel
theorem dJ6_bitCount_0f7a4_52 : decode cJ6_bitCount_0f7a4 52 = .ok (.ireturn, 1) := by decide +kernel
def f_J6_bitCount_0f7a4  (a0 : Int32) (u : PM) : Option (Int32) :=
  some ((((((((a0 - (((a0.toUInt32 >>> ((1 : Int32).toUInt32 &&& Int32.toUInt32 31)).toInt32) &&& (1431655765 : Int32))) &&& (858993459 : Int32)) + ((((a0 - (((a0.toUInt32 >>> ((1 : Int32).toUInt32 &&& Int32.toUInt32 31)).toInt32) &&& (1431655765 : Int32))).toUInt32 >>> ((2 : Int32).toUInt32 &&& Int32.toUInt32 31)).toInt32) &&& (858993459 : Int32))) + (((((a0 - (((a0.toUInt32 >>> ((1 : Int32).toUInt32 &&& Int32.toUInt32 31)).toInt32) &&& (1431655765 : Int32))) &&& (858993459 : Int32)) + ((((a0 - (((a0.toUInt32 >>> ((1 : Int32).toUInt32 &&& Int32.toUInt32 31)).toInt32) &&& (1431655765 : Int32))).toUInt32 >>> ((2 : Int32).toUInt32 &&& Int32.toUInt32 31)).toInt32) &&& (858993459 : Int32))).toUInt32 >>> ((4 : Int32).toUInt32 &&& Int32.toUInt32 31)).toInt32)) &&& (252645135 : Int32)) + (((((((a0 - (((a0.toUInt32 >>> ((1 : Int32).toUInt32 &&& Int32.toUInt32 31)).toInt32) &&& (1431655765 : Int32))) &&& (858993459 : Int32)) + ((((a0 - (((a0.toUInt32 >>> ((1 : Int32).toUInt32 &&& Int32.toUInt32 31)).toInt32) &&& (1431655765 : Int32))).toUInt32 >>> ((2 : Int32).toUInt32 &&& Int32.toUInt32 31)).toInt32) &&& (858993459 : Int32))) + (((((a0 - (((a0.toUInt32 >>> ((1 : Int32).toUInt32 &&& Int32.toUInt32 31)).toInt32) &&& (1431655765 : Int32))) &&& (858993459 : Int32)) + ((((a0 - (((a0.toUInt32 >>> ((1 : Int32).toUInt32 &&& Int32.toUInt32 31)).toInt32) &&& (1431655765 : Int32))).toUInt32 >>> ((2 : Int32).toUInt32 &&& Int32.toUInt32 31)).toInt32) &&& (858993459 : Int32))).toUInt32 >>> ((4 : Int32).toUInt32 &&& Int32.toUInt32 31)).toInt32)) &&& (252645135 : Int32)).toUInt32 >>> ((8 : Int32).toUInt32 &&& Int32.toUInt32 31)).toInt32)) + ((((((((a0 - (((a0.toUInt32 >>> ((1 : Int32).toUInt32 &&& Int32.toUInt32 31)).toInt32) &&& (1431655765 : Int32))) &&& (858993459 : Int32)) + ((((a0 - (((a0.toUInt32 >>> ((1 : Int32).toUInt32 &&& Int32.toUInt32 31)).toInt32) &&& (1431655765 : Int32))).toUInt32 >>> ((2 : Int32).toUInt32 &&& Int32.toUInt32 31)).toInt32) &&& (858993459 : Int32))) + (((((a0 - (((a0.toUInt32 >>> ((1 : Int32).toUInt32 &&& Int32.toUInt32 31)).toInt32) &&& (1431655765 : Int32))) &&& (858993459 : Int32)) + ((((a0 - (((a0.toUInt32 >>> ((1 : Int32).toUInt32 &&& Int32.toUInt32 31)).toInt32) &&& (1431655765 : Int32))).toUInt32 >>> ((2 : Int32).toUInt32 &&& Int32.toUInt32 31)).toInt32) &&& (858993459 : Int32))).toUInt32 >>> ((4 : Int32).toUInt32 &&& Int32.toUInt32 31)).toInt32)) &&& (252645135 : Int32)) + (((((((a0 - (((a0.toUInt32 >>> ((1 : Int32).toUInt32 &&& Int32.toUInt32 31)).toInt32) &&& (1431655765 : Int32))) &&& (858993459 : Int32)) + ((((a0 - (((a0.toUInt32 >>> ((1 : Int32).toUInt32 &&& Int32.toUInt32 31)).toInt32) &&& (1431655765 : Int32))).toUInt32 >>> ((2 : Int32).toUInt32 &&& Int32.toUInt32 31)).toInt32) &&& (858993459 : Int32))) + (((((a0 - (((a0.toUInt32 >>> ((1 : Int32).toUInt32 &&& Int32.toUInt32 31)).toInt32) &&& (1431655765 : Int32))) &&& (858993459 : Int32)) + ((((a0 - (((a0.toUInt32 >>> ((1 : Int32).toUInt32 &&& Int32.toUInt32 31)).toInt32) &&& (1431655765 : Int32))).toUInt32 >>> ((2 : Int32).toUInt32 &&& Int32.toUInt32 31)).toInt32) &&& (858993459 : Int32))).toUInt32 >>> ((4 : Int32).toUInt32 &&& Int32.toUInt32 31)).toInt32)) &&& (252645135 : Int32)).toUInt32 >>> ((8 : Int32).toUInt32 &&& Int32.toUInt32 31)).toInt32)).toUInt32 >>> ((16 : Int32).toUInt32 &&& Int32.toUInt32 31)).toInt32)) &&& (63 : Int32))
set_option maxHeartbeats 4000000 in
set_option maxRecDepth 20000 in
theorem C_J6_bitCount_0f7a4 {l : Launch}  {a0 : Int32} {u : PM} {x : Int32} (hf : f_J6_bitCount_0f7a4 a0 u = some x) : Ev l mJ6_bitCount_0f7a4 1 0 0 false [vI a0] kC (en u) (some (vI x), kC, en u) := by
  refine Ev_of (by decide +kernel) (le_b rfl) ?_
  unfold f_J6_bitCount_0f7a4 at hf
  show X l mJ6_bitCount_0f7a4 1 0 0 false _ kC 0 0 0 [some (vI a0)] [] (en u)
  refine r_iload_n (x := a0) dJ6_bitCount_0f7a4_0 rfl ?_
  refine r_iload_n (x := a0) dJ6_bitCount_0f7a4_1 rfl ?_
  refine r_iconst (v := 1) dJ6_bitCount_0f7a4_2 rfl ?_
  refine r_iushr dJ6_bitCount_0f7a4_3 ?_
  refine r_ldcw (v := 1431655765) dJ6_bitCount_0f7a4_4 cc_J6_265 ?_
  refine r_iand dJ6_bitCount_0f7a4_7 ?_
  refine r_isub dJ6_bitCount_0f7a4_8 ?_
  refine r_istore_n (L' := [some (vI (a0 - (((a0.toUInt32 >>> ((1 : Int32).toUInt32 &&& Int32.toUInt32 31)).toInt32) &&& (1431655765 : Int32))))]) dJ6_bitCount_0f7a4_9 (by decide) rfl ?_
  refine r_iload_n (x := a0 - (((a0.toUInt32 >>> ((1 : Int32).toUInt32 &&& Int32.toUInt32 31)).toInt32) &&& (1431655765 : Int32))) dJ6_bitCount_0f7a4_10 rfl ?_
  refine r_ldcw (v := 858993459) dJ6_bitCount_0f7a4_11 cc_J6_266 ?_
  refine r_iand dJ6_bitCount_0f7a4_14 ?_
  refine r_iload_n (x := a0 - (((a0.toUInt32 >>> ((1 : Int32).toUInt32 &&& Int32.toUInt32 31)).toInt32) &&& (1431655765 : Int32))) dJ6_bitCount_0f7a4_15 rfl ?_
  refine r_iconst (v := 2) dJ6_bitCount_0f7a4_16 rfl ?_
  refine r_iushr dJ6_bitCount_0f7a4_17 ?_
  refine r_ldcw (v := 858993459) dJ6_bitCount_0f7a4_18 cc_J6_266 ?_
  refine r_iand dJ6_bitCount_0f7a4_21 ?_
  refine r_iadd dJ6_bitCount_0f7a4_22 ?_
  refine r_istore_n (L' := [some (vI (((a0 - (((a0.toUInt32 >>> ((1 : Int32).toUInt32 &&& Int32.toUInt32 31)).toInt32) &&& (1431655765 : Int32))) &&& (858993459 : Int32)) + ((((a0 - (((a0.toUInt32 >>> ((1 : Int32).toUInt32 &&& Int32.toUInt32 31)).toInt32) &&& (1431655765 : Int32))).toUInt32 >>> ((2 : Int32).toUInt32 &&& Int32.toUInt32 31)).toInt32) &&& (858993459 : Int32))))]) dJ6_bitCount_0f7a4_23 (by decide) rfl ?_
  refine r_iload_n (x := ((a0 - (((a0.toUInt32 >>> ((1 : Int32).toUInt32 &&& Int32.toUInt32 31)).toInt32) &&& (1431655765 : Int32))) &&& (858993459 : Int32)) + ((((a0 - (((a0.toUInt32 >>> ((1 : Int32).toUInt32 &&& Int32.toUInt32 31)).toInt32) &&& (1431655765 : Int32))).toUInt32 >>> ((2 : Int32).toUInt32 &&& Int32.toUInt32 31)).toInt32) &&& (858993459 : Int32))) dJ6_bitCount_0f7a4_24 rfl ?_
  refine r_iload_n (x := ((a0 - (((a0.toUInt32 >>> ((1 : Int32).toUInt32 &&& Int32.toUInt32 31)).toInt32) &&& (1431655765 : Int32))) &&& (858993459 : Int32)) + ((((a0 - (((a0.toUInt32 >>> ((1 : Int32).toUInt32 &&& Int32.toUInt32 31)).toInt32) &&& (1431655765 : Int32))).toUInt32 >>> ((2 : Int32).toUInt32 &&& Int32.toUInt32 31)).toInt32) &&& (858993459 : Int32))) dJ6_bitCount_0f7a4_25 rfl ?_
  refine r_iconst (v := 4) dJ6_bitCount_0f7a4_26 rfl ?_
  refine r_iushr dJ6_bitCount_0f7a4_27 ?_
  refine r_iadd dJ6_bitCount_0f7a4_28 ?_
  refine r_ldcw (v := 252645135) dJ6_bitCount_0f7a4_29 cc_J6_267 ?_
  refine r_iand dJ6_bitCount_0f7a4_32 ?_
  refine r_istore_n (L' := [some (vI (((((a0 - (((a0.toUInt32 >>> ((1 : Int32).toUInt32 &&& Int32.toUInt32 31)).toInt32) &&& (1431655765 : Int32))) &&& (858993459 : Int32)) + ((((a0 - (((a0.toUInt32 >>> ((1 : Int32).toUInt32 &&& Int32.toUInt32 31)).toInt32) &&& (1431655765 : Int32))).toUInt32 >>> ((2 : Int32).toUInt32 &&& Int32.toUInt32 31)).toInt32) &&& (858993459 : Int32))) + (((((a0 - (((a0.toUInt32 >>> ((1 : Int32).toUInt32 &&& Int32.toUInt32 31)).toInt32) &&& (1431655765 : Int32))) &&& (858993459 : Int32)) + ((((a0 - (((a0.toUInt32 >>> ((1 : Int32).toUInt32 &&& Int32.toUInt32 31)).toInt32) &&& (1431655765 : Int32))).toUInt32 >>> ((2 : Int32).toUInt32 &&& Int32.toUInt32 31)).toInt32) &&& (858993459 : Int32))).toUInt32 >>> ((4 : Int32).toUInt32 &&& Int32.toUInt32 31)).toInt32)) &&& (252645135 : Int32)))]) dJ6_bitCount_0f7a4_33 (by decide) rfl ?_
  refine r_iload_n (x := ((((a0 - (((a0.toUInt32 >>> ((1 : Int32).toUInt32 &&& Int32.toUInt32 31)).toInt32) &&& (1431655765 : Int32))) &&& (858993459 : Int32)) + ((((a0 - (((a0.toUInt32 >>> ((1 : Int32).toUInt32 &&& Int32.toUInt32 31)).toInt32) &&& (1431655765 : Int32))).toUInt32 >>> ((2 : Int32).toUInt32 &&& Int32.toUInt32 31)).toInt32) &&& (858993459 : Int32))) + (((((a0 - (((a0.toUInt32 >>> ((1 : Int32).toUInt32 &&& Int32.toUInt32 31)).toInt32) &&& (1431655765 : Int32))) &&& (858993459 : Int32)) + ((((a0 - (((a0.toUInt32 >>> ((1 : Int32).toUInt32 &&& Int32.toUInt32 31)).toInt32) &&& (1431655765 : Int32))).toUInt32 >>> ((2 : Int32).toUInt32 &&& Int32.toUInt32 31)).toInt32) &&& (858993459 : Int32))).toUInt32 >>> ((4 : Int32).toUInt32 &&& Int32.toUInt32 31)).toInt32)) &&& (252645135 : Int32)) dJ6_bitCount_0f7a4_34 rfl ?_
  refine r_iload_n (x := ((((a0 - (((a0.toUInt32 >>> ((1 : Int32).toUInt32 &&& Int32.toUInt32 31)).toInt32) &&& (1431655765 : Int32))) &&& (858993459 : Int32)) + ((((a0 - (((a0.toUInt32 >>> ((1 : Int32).toUInt32 &&& Int32.toUInt32 31)).toInt32) &&& (1431655765 : Int32))).toUInt32 >>> ((2 : Int32).toUInt32 &&& Int32.toUInt32 31)).toInt32) &&& (858993459 : Int32))) + (((((a0 - (((a0.toUInt32 >>> ((1 : Int32).toUInt32 &&& Int32.toUInt32 31)).toInt32) &&& (1431655765 : Int32))) &&& (858993459 : Int32)) + ((((a0 - (((a0.toUInt32 >>> ((1 : Int32).toUInt32 &&& Int32.toUInt32 31)).toInt32) &&& (1431655765 : Int32))).toUInt32 >>> ((2 : Int32).toUInt32 &&& Int32.toUInt32 31)).toInt32) &&& (858993459 : Int32))).toUInt32 >>> ((4 : Int32).toUInt32 &&& Int32.toUInt32 31)).toInt32)) &&& (252645135 : Int32)) dJ6_bitCount_0f7a4_35 rfl ?_
  refine r_bipush (v := 8) dJ6_bitCount_0f7a4_36 rfl ?_
  refine r_iushr dJ6_bitCount_0f7a4_38 ?_
  refine r_iadd dJ6_bitCount_0f7a4_39 ?_
  refine r_istore_n (L' := [some (vI ((((((a0 - (((a0.toUInt32 >>> ((1 : Int32).toUInt32 &&& Int32.toUInt32 31)).toInt32) &&& (1431655765 : Int32))) &&& (858993459 : Int32)) + ((((a0 - (((a0.toUInt32 >>> ((1 : Int32).toUInt32 &&& Int32.toUInt32 31)).toInt32) &&& (1431655765 : Int32))).toUInt32 >>> ((2 : Int32).toUInt32 &&& Int32.toUInt32 31)).toInt32) &&& (858993459 : Int32))) + (((((a0 - (((a0.toUInt32 >>> ((1 : Int32).toUInt32 &&& Int32.toUInt32 31)).toInt32) &&& (1431655765 : Int32))) &&& (858993459 : Int32)) + ((((a0 - (((a0.toUInt32 >>> ((1 : Int32).toUInt32 &&& Int32.toUInt32 31)).toInt32) &&& (1431655765 : Int32))).toUInt32 >>> ((2 : Int32).toUInt32 &&& Int32.toUInt32 31)).toInt32) &&& (858993459 : Int32))).toUInt32 >>> ((4 : Int32).toUInt32 &&& Int32.toUInt32 31)).toInt32)) &&& (252645135 : Int32)) + (((((((a0 - (((a0.toUInt32 >>> ((1 : Int32).toUInt32 &&& Int32.toUInt32 31)).toInt32) &&& (1431655765 : Int32))) &&& (858993459 : Int32)) + ((((a0 - (((a0.toUInt32 >>> ((1 : Int32).toUInt32 &&& Int32.toUInt32 31)).toInt32) &&& (1431655765 : Int32))).toUInt32 >>> ((2 : Int32).toUInt32 &&& Int32.toUInt32 31)).toInt32) &&& (858993459 : Int32))) + (((((a0 - (((a0.toUInt32 >>> ((1 : Int32).toUInt32 &&& Int32.toUInt32 31)).toInt32) &&& (1431655765 : Int32))) &&& (858993459 : Int32)) + ((((a0 - (((a0.toUInt32 >>> ((1 : Int32).toUInt32 &&& Int32.toUInt32 31)).toInt32) &&& (1431655765 : Int32))).toUInt32 >>> ((2 : Int32).toUInt32 &&& Int32.toUInt32 31)).toInt32) &&& (858993459 : Int32))).toUInt32 >>> ((4 : Int32).toUInt32 &&& Int32.toUInt32 31)).toInt32)) &&& (252645135 : Int32)).toUInt32 >>> ((8 : Int32).toUInt32 &&& Int32.toUInt32 31)).toInt32)))]) dJ6_bitCount_0f7a4_40 (by decide) rfl ?_
  refine r_iload_n (x := (((((a0 - (((a0.toUInt32 >>> ((1 : Int32).toUInt32 &&& Int32.toUInt32 31)).toInt32) &&& (1431655765 : Int32))) &&& (858993459 : Int32)) + ((((a0 - (((a0.toUInt32 >>> ((1 : Int32).toUInt32 &&& Int32.toUInt32 31)).toInt32) &&& (1431655765 : Int32))).toUInt32 >>> ((2 : Int32).toUInt32 &&& Int32.toUInt32 31)).toInt32) &&& (858993459 : Int32))) + (((((a0 - (((a0.toUInt32 >>> ((1 : Int32).toUInt32 &&& Int32.toUInt32 31)).toInt32) &&& (1431655765 : Int32))) &&& (858993459 : Int32)) + ((((a0 - (((a0.toUInt32 >>> ((1 : Int32).toUInt32 &&& Int32.toUInt32 31)).toInt32) &&& (1431655765 : Int32))).toUInt32 >>> ((2 : Int32).toUInt32 &&& Int32.toUInt32 31)).toInt32) &&& (858993459 : Int32))).toUInt32 >>> ((4 : Int32).toUInt32 &&& Int32.toUInt32 31)).toInt32)) &&& (252645135 : Int32)) + (((((((a0 - (((a0.toUInt32 >>> ((1 : Int32).toUInt32 &&& Int32.toUInt32 31)).toInt32) &&& (1431655765 : Int32))) &&& (858993459 : Int32)) + ((((a0 - (((a0.toUInt32 >>> ((1 : Int32).toUInt32 &&& Int32.toUInt32 31)).toInt32) &&& (1431655765 : Int32))).toUInt32 >>> ((2 : Int32).toUInt32 &&& Int32.toUInt32 31)).toInt32) &&& (858993459 : Int32))) + (((((a0 - (((a0.toUInt32 >>> ((1 : Int32).toUInt32 &&& Int32.toUInt32 31)).toInt32) &&& (1431655765 : Int32))) &&& (858993459 : Int32)) + ((((a0 - (((a0.toUInt32 >>> ((1 : Int32).toUInt32 &&& Int32.toUInt32 31)).toInt32) &&& (1431655765 : Int32))).toUInt32 >>> ((2 : Int32).toUInt32 &&& Int32.toUInt32 31)).toInt32) &&& (858993459 : Int32))).toUInt32 >>> ((4 : Int32).toUInt32 &&& Int32.toUInt32 31)).toInt32)) &&& (252645135 : Int32)).toUInt32 >>> ((8 : Int32).toUInt32 &&& Int32.toUInt32 31)).toInt32)) dJ6_bitCount_0f7a4_41 rfl ?_
  refine r_iload_n (x := (((((a0 - (((a0.toUInt32 >>> ((1 : Int32).toUInt32 &&& Int32.toUInt32 31)).toInt32) &&& (1431655765 : Int32))) &&& (858993459 : Int32)) + ((((a0 - (((a0.toUInt32 >>> ((1 : Int32).toUInt32 &&& Int32.toUInt32 31)).toInt32) &&& (1431655765 : Int32))).toUInt32 >>> ((2 : Int32).toUInt32 &&& Int32.toUInt32 31)).toInt32) &&& (858993459 : Int32))) + (((((a0 - (((a0.toUInt32 >>> ((1 : Int32).toUInt32 &&& Int32.toUInt32 31)).toInt32) &&& (1431655765 : Int32))) &&& (858993459 : Int32)) + ((((a0 - (((a0.toUInt32 >>> ((1 : Int32).toUInt32 &&& Int32.toUInt32 31)).toInt32) &&& (1431655765 : Int32))).toUInt32 >>> ((2 : Int32).toUInt32 &&& Int32.toUInt32 31)).toInt32) &&& (858993459 : Int32))).toUInt32 >>> ((4 : Int32).toUInt32 &&& Int32.toUInt32 31)).toInt32)) &&& (252645135 : Int32)) + (((((((a0 - (((a0.toUInt32 >>> ((1 : Int32).toUInt32 &&& Int32.toUInt32 31)).toInt32) &&& (1431655765 : Int32))) &&& (858993459 : Int32)) + ((((a0 - (((a0.toUInt32 >>> ((1 : Int32).toUInt32 &&& Int32.toUInt32 31)).toInt32) &&& (1431655765 : Int32))).toUInt32 >>> ((2 : Int32).toUInt32 &&& Int32.toUInt32 31)).toInt32) &&& (858993459 : Int32))) + (((((a0 - (((a0.toUInt32 >>> ((1 : Int32).toUInt32 &&& Int32.toUInt32 31)).toInt32) &&& (1431655765 : Int32))) &&& (858993459 : Int32)) + ((((a0 - (((a0.toUInt32 >>> ((1 : Int32).toUInt32 &&& Int32.toUInt32 31)).toInt32) &&& (1431655765 : Int32))).toUInt32 >>> ((2 : Int32).toUInt32 &&& Int32.toUInt32 31)).toInt32) &&& (858993459 : Int32))).toUInt32 >>> ((4 : Int32).toUInt32 &&& Int32.toUInt32 31)).toInt32)) &&& (252645135 : Int32)).toUInt32 >>> ((8 : Int32).toUInt32 &&& Int32.toUInt32 31)).toInt32)) dJ6_bitCount_0f7a4_42 rfl ?_
  refine r_bipush (v := 16) dJ6_bitCount_0f7a4_43 rfl ?_
  refine r_iushr dJ6_bitCount_0f7a4_45 ?_
  refine r_iadd dJ6_bitCount_0f7a4_46 ?_
  refine r_istore_n (L' := [some (vI (((((((a0 - (((a0.toUInt32 >>> ((1 : Int32).toUInt32 &&& Int32.toUInt32 31)).toInt32) &&& (1431655765 : Int32))) &&& (858993459 : Int32)) + ((((a0 - (((a0.toUInt32 >>> ((1 : Int32).toUInt32 &&& Int32.toUInt32 31)).toInt32) &&& (1431655765 : Int32))).toUInt32 >>> ((2 : Int32).toUInt32 &&& Int32.toUInt32 31)).toInt32) &&& (858993459 : Int32))) + (((((a0 - (((a0.toUInt32 >>> ((1 : Int32).toUInt32 &&& Int32.toUInt32 31)).toInt32) &&& (1431655765 : Int32))) &&& (858993459 : Int32)) + ((((a0 - (((a0.toUInt32 >>> ((1 : Int32).toUInt32 &&& Int32.toUInt32 31)).toInt32) &&& (1431655765 : Int32))).toUInt32 >>> ((2 : Int32).toUInt32 &&& Int32.toUInt32 31)).toInt32) &&& (858993459 : Int32))).toUInt32 >>> ((4 : Int32).toUInt32 &&& Int32.toUInt32 31)).toInt32)) &&& (252645135 : Int32)) + (((((((a0 - (((a0.toUInt32 >>> ((1 : Int32).toUInt32 &&& Int32.toUInt32 31)).toInt32) &&& (1431655765 : Int32))) &&& (858993459 : Int32)) + ((((a0 - (((a0.toUInt32 >>> ((1 : Int32).toUInt32 &&& Int32.toUInt32 31)).toInt32) &&& (1431655765 : Int32))).toUInt32 >>> ((2 : Int32).toUInt32 &&& Int32.toUInt32 31)).toInt32) &&& (858993459 : Int32))) + (((((a0 - (((a0.toUInt32 >>> ((1 : Int32).toUInt32 &&& Int32.toUInt32 31)).toInt32) &&& (1431655765 : Int32))) &&& (858993459 : Int32)) + ((((a0 - (((a0.toUInt32 >>> ((1 : Int32).toUInt32 &&& Int32.toUInt32 31)).toInt32) &&& (1431655765 : Int32))).toUInt32 >>> ((2 : Int32).toUInt32 &&& Int32.toUInt32 31)).toInt32) &&& (858993459 : Int32))).toUInt32 >>> ((4 : Int32).toUInt32 &&& Int32.toUInt32 31)).toInt32)) &&& (252645135 : Int32)).toUInt32 >>> ((8 : Int32).toUInt32 &&& Int32.toUInt32 31)).toInt32)) + ((((((((a0 - (((a0.toUInt32 >>> ((1 : Int32).toUInt32 &&& Int32.toUInt32 31)).toInt32) &&& (1431655765 : Int32))) &&& (858993459 : Int32)) + ((((a0 - (((a0.toUInt32 >>> ((1 : Int32).toUInt32 &&& Int32.toUInt32 31)).toInt32) &&& (1431655765 : Int32))).toUInt32 >>> ((2 : Int32).toUInt32 &&& Int32.toUInt32 31)).toInt32) &&& (858993459 : Int32))) + (((((a0 - (((a0.toUInt32 >>> ((1 : Int32).toUInt32 &&& Int32.toUInt32 31)).toInt32) &&& (1431655765 : Int32))) &&& (858993459 : Int32)) + ((((a0 - (((a0.toUInt32 >>> ((1 : Int32).toUInt32 &&& Int32.toUInt32 31)).toInt32) &&& (1431655765 : Int32))).toUInt32 >>> ((2 : Int32).toUInt32 &&& Int32.toUInt32 31)).toInt32) &&& (858993459 : Int32))).toUInt32 >>> ((4 : Int32).toUInt32 &&& Int32.toUInt32 31)).toInt32)) &&& (252645135 : Int32)) + (((((((a0 - (((a0.toUInt32 >>> ((1 : Int32).toUInt32 &&& Int32.toUInt32 31)).toInt32) &&& (1431655765 : Int32))) &&& (858993459 : Int32)) + ((((a0 - (((a0.toUInt32 >>> ((1 : Int32).toUInt32 &&& Int32.toUInt32 31)).toInt32) &&& (1431655765 : Int32))).toUInt32 >>> ((2 : Int32).toUInt32 &&& Int32.toUInt32 31)).toInt32) &&& (858993459 : Int32))) + (((((a0 - (((a0.toUInt32 >>> ((1 : Int32).toUInt32 &&& Int32.toUInt32 31)).toInt32) &&& (1431655765 : Int32))) &&& (858993459 : Int32)) + ((((a0 - (((a0.toUInt32 >>> ((1 : Int32).toUInt32 &&& Int32.toUInt32 31)).toInt32) &&& (1431655765 : Int32))).toUInt32 >>> ((2 : Int32).toUInt32 &&& Int32.toUInt32 31)).toInt32) &&& (858993459 : Int32))).toUInt32 >>> ((4 : Int32).toUInt32 &&& Int32.toUInt32 31)).toInt32)) &&& (252645135 : Int32)).toUInt32 >>> ((8 : Int32).toUInt32 &&& Int32.toUInt32 31)).toInt32)).toUInt32 >>> ((16 : Int32).toUInt32 &&& Int32.toUInt32 31)).toInt32)))]) dJ6_bitCount_0f7a4_47 (by decide) rfl ?_
  refine r_iload_n (x := ((((((a0 - (((a0.toUInt32 >>> ((1 : Int32).toUInt32 &&& Int32.toUInt32 31)).toInt32) &&& (1431655765 : Int32))) &&& (858993459 : Int32)) + ((((a0 - (((a0.toUInt32 >>> ((1 : Int32).toUInt32 &&& Int32.toUInt32 31)).toInt32) &&& (1431655765 : Int32))).toUInt32 >>> ((2 : Int32).toUInt32 &&& Int32.toUInt32 31)).toInt32) &&& (858993459 : Int32))) + (((((a0 - (((a0.toUInt32 >>> ((1 : Int32).toUInt32 &&& Int32.toUInt32 31)).toInt32) &&& (1431655765 : Int32))) &&& (858993459 : Int32)) + ((((a0 - (((a0.toUInt32 >>> ((1 : Int32).toUInt32 &&& Int32.toUInt32 31)).toInt32) &&& (1431655765 : Int32))).toUInt32 >>> ((2 : Int32).toUInt32 &&& Int32.toUInt32 31)).toInt32) &&& (858993459 : Int32))).toUInt32 >>> ((4 : Int32).toUInt32 &&& Int32.toUInt32 31)).toInt32)) &&& (252645135 : Int32)) + (((((((a0 - (((a0.toUInt32 >>> ((1 : Int32).toUInt32 &&& Int32.toUInt32 31)).toInt32) &&& (1431655765 : Int32))) &&& (858993459 : Int32)) + ((((a0 - (((a0.toUInt32 >>> ((1 : Int32).toUInt32 &&& Int32.toUInt32 31)).toInt32) &&& (1431655765 : Int32))).toUInt32 >>> ((2 : Int32).toUInt32 &&& Int32.toUInt32 31)).toInt32) &&& (858993459 : Int32))) + (((((a0 - (((a0.toUInt32 >>> ((1 : Int32).toUInt32 &&& Int32.toUInt32 31)).toInt32) &&& (1431655765 : Int32))) &&& (858993459 : Int32)) + ((((a0 - (((a0.toUInt32 >>> ((1 : Int32).toUInt32 &&& Int32.toUInt32 31)).toInt32) &&& (1431655765 : Int32))).toUInt32 >>> ((2 : Int32).toUInt32 &&& Int32.toUInt32 31)).toInt32) &&& (858993459 : Int32))).toUInt32 >>> ((4 : Int32).toUInt32 &&& Int32.toUInt32 31)).toInt32)) &&& (252645135 : Int32)).toUInt32 >>> ((8 : Int32).toUInt32 &&& Int32.toUInt32 31)).toInt32)) + ((((((((a0 - (((a0.toUInt32 >>> ((1 : Int32).toUInt32 &&& Int32.toUInt32 31)).toInt32) &&& (1431655765 : Int32))) &&& (858993459 : Int32)) + ((((a0 - (((a0.toUInt32 >>> ((1 : Int32).toUInt32 &&& Int32.toUInt32 31)).toInt32) &&& (1431655765 : Int32))).toUInt32 >>> ((2 : Int32).toUInt32 &&& Int32.toUInt32 31)).toInt32) &&& (858993459 : Int32))) + (((((a0 - (((a0.toUInt32 >>> ((1 : Int32).toUInt32 &&& Int32.toUInt32 31)).toInt32) &&& (1431655765 : Int32))) &&& (858993459 : Int32)) + ((((a0 - (((a0.toUInt32 >>> ((1 : Int32).toUInt32 &&& Int32.toUInt32 31)).toInt32) &&& (1431655765 : Int32))).toUInt32 >>> ((2 : Int32).toUInt32 &&& Int32.toUInt32 31)).toInt32) &&& (858993459 : Int32))).toUInt32 >>> ((4 : Int32).toUInt32 &&& Int32.toUInt32 31)).toInt32)) &&& (252645135 : Int32)) + (((((((a0 - (((a0.toUInt32 >>> ((1 : Int32).toUInt32 &&& Int32.toUInt32 31)).toInt32) &&& (1431655765 : Int32))) &&& (858993459 : Int32)) + ((((a0 - (((a0.toUInt32 >>> ((1 : Int32).toUInt32 &&& Int32.toUInt32 31)).toInt32) &&& (1431655765 : Int32))).toUInt32 >>> ((2 : Int32).toUInt32 &&& Int32.toUInt32 31)).toInt32) &&& (858993459 : Int32))) + (((((a0 - (((a0.toUInt32 >>> ((1 : Int32).toUInt32 &&& Int32.toUInt32 31)).toInt32) &&& (1431655765 : Int32))) &&& (858993459 : Int32)) + ((((a0 - (((a0.toUInt32 >>> ((1 : Int32).toUInt32 &&& Int32.toUInt32 31)).toInt32) &&& (1431655765 : Int32))).toUInt32 >>> ((2 : Int32).toUInt32 &&& Int32.toUInt32 31)).toInt32) &&& (858993459 : Int32))).toUInt32 >>> ((4 : Int32).toUInt32 &&& Int32.toUInt32 31)).toInt32)) &&& (252645135 : Int32)).toUInt32 >>> ((8 : Int32).toUInt32 &&& Int32.toUInt32 31)).toInt32)).toUInt32 >>> ((16 : Int32).toUInt32 &&& Int32.toUInt32 31)).toInt32)) dJ6_bitCount_0f7a4_48 rfl ?_
  refine r_bipush (v := 63) dJ6_bitCount_0f7a4_49 rfl ?_
  refine r_iand dJ6_bitCount_0f7a4_51 ?_
  have hx := am_inj hf
  subst hx
  exact r_iret dJ6_bitCount_0f7a4_52 rfl rfl (le_b rfl) (le_b rfl)
/-! FireFromFire$House.setOut -/
theorem dX2_setOut_0 : decode cX2_setOut 0 = .ok (.aload_n 0, 1) := by decide +kernel
theorem dX2_setOut_1 : decode cX2_setOut 1 = .ok (.iload_n 1, 1) := by decide +kernel
theorem dX2_setOut_2 : decode cX2_setOut 2 = .ok (.putfield 28, 3) := by decide +kernel
theorem dX2_setOut_5 : decode cX2_setOut 5 = .ok (.aload_n 0, 1) := by decide +kernel
theorem dX2_setOut_6 : decode cX2_setOut 6 = .ok (.iload_n 2, 1) := by decide +kernel
theorem dX2_setOut_7 : decode cX2_setOut 7 = .ok (.putfield 31, 3) := by decide +kernel
theorem dX2_setOut_10 : decode cX2_setOut 10 = .ok (.aload_n 0, 1) := by decide +kernel
theorem dX2_setOut_11 : decode cX2_setOut 11 = .ok (.iload_n 3, 1) := by decide +kernel
theorem dX2_setOut_12 : decode cX2_setOut 12 = .ok (.putfield 34, 3) := by decide +kernel
theorem dX2_setOut_15 : decode cX2_setOut 15 = .ok (.aload_n 0, 1) := by decide +kernel
theorem dX2_setOut_16 : decode cX2_setOut 16 = .ok (.iconst 0, 1) := by decide +kernel
theorem dX2_setOut_17 : decode cX2_setOut 17 = .ok (.putfield 37, 3) := by decide +kernel
theorem dX2_setOut_20 : decode cX2_setOut 20 = .ok (.return_, 1) := by decide +kernel
def f_X2_setOut (v : Nat) (h : Nat) (a0 : Int32) (a1 : Int32) (a2 : Int32) (u : PM) : Option (PM) :=
  some (pi (pi (pi (pi u (3, v, h) 5 a0) (3, v, h) 6 a1) (3, v, h) 7 a2) (3, v, h) 8 (0 : Int32))
set_option maxHeartbeats 4000000 in
set_option maxRecDepth 20000 in
theorem C_X2_setOut {l : Launch} {v : Nat} (hv : v < 4) {h : Nat} (hh : h < 6) {a0 : Int32} {a1 : Int32} {a2 : Int32} {u : PM} {x : PM} (hf : f_X2_setOut v h a0 a1 a2 u = some x) : Ev l mX2_setOut 1 0 0 false [vR (3, v, h), vI a0, vI a1, vI a2] kC (en u) (none, kC, en x) := by
  refine Ev_of (by decide +kernel) (le_b rfl) ?_
  unfold f_X2_setOut at hf
  show X l mX2_setOut 1 0 0 false _ kC 0 0 0 [some (vR (3, v, h)), some (vI a0), some (vI a1), some (vI a2)] [] (en u)
  refine r_aload_n (x := (3, v, h)) dX2_setOut_0 rfl ?_
  refine r_iload_n (x := a0) dX2_setOut_1 rfl ?_
  refine e_puti fp_X2_28 dX2_setOut_2 (kC_mem (s := 3) (by decide) hv hh) rfl (lt_b rfl) rfl rfl rfl ?_
  refine r_aload_n (x := (3, v, h)) dX2_setOut_5 rfl ?_
  refine r_iload_n (x := a1) dX2_setOut_6 rfl ?_
  refine e_puti fp_X2_31 dX2_setOut_7 (kC_mem (s := 3) (by decide) hv hh) rfl (lt_b rfl) rfl rfl rfl ?_
  refine r_aload_n (x := (3, v, h)) dX2_setOut_10 rfl ?_
  refine r_iload_n (x := a2) dX2_setOut_11 rfl ?_
  refine e_puti fp_X2_34 dX2_setOut_12 (kC_mem (s := 3) (by decide) hv hh) rfl (lt_b rfl) rfl rfl rfl ?_
  refine r_aload_n (x := (3, v, h)) dX2_setOut_15 rfl ?_
  refine r_iconst (v := 0) dX2_setOut_16 rfl ?_
  refine e_puti fp_X2_37 dX2_setOut_17 (kC_mem (s := 3) (by decide) hv hh) rfl (lt_b rfl) rfl rfl rfl ?_
  have hx := am_inj hf
  subst hx
  exact r_vret dX2_setOut_20 rfl (le_b rfl) (le_b rfl)
/-! FireFromFire$House.start -/
theorem dX2_start_0 : decode cX2_start 0 = .ok (.aload_n 0, 1) := by decide +kernel
theorem dX2_start_1 : decode cX2_start 1 = .ok (.iload_n 1, 1) := by decide +kernel
theorem dX2_start_2 : decode cX2_start 2 = .ok (.putfield 9, 3) := by decide +kernel
theorem dX2_start_5 : decode cX2_start 5 = .ok (.aload_n 0, 1) := by decide +kernel
theorem dX2_start_6 : decode cX2_start 6 = .ok (.iload_n 2, 1) := by decide +kernel
theorem dX2_start_7 : decode cX2_start 7 = .ok (.putfield 15, 3) := by decide +kernel
theorem dX2_start_10 : decode cX2_start 10 = .ok (.aload_n 0, 1) := by decide +kernel
theorem dX2_start_11 : decode cX2_start 11 = .ok (.iconst 0, 1) := by decide +kernel
theorem dX2_start_12 : decode cX2_start 12 = .ok (.putfield 19, 3) := by decide +kernel
theorem dX2_start_15 : decode cX2_start 15 = .ok (.aload_n 0, 1) := by decide +kernel
theorem dX2_start_16 : decode cX2_start 16 = .ok (.iconst 0, 1) := by decide +kernel
theorem dX2_start_17 : decode cX2_start 17 = .ok (.putfield 22, 3) := by decide +kernel
theorem dX2_start_20 : decode cX2_start 20 = .ok (.aload_n 0, 1) := by decide +kernel
theorem dX2_start_21 : decode cX2_start 21 = .ok (.iconst 0, 1) := by decide +kernel
theorem dX2_start_22 : decode cX2_start 22 = .ok (.putfield 25, 3) := by decide +kernel
theorem dX2_start_25 : decode cX2_start 25 = .ok (.aload_n 0, 1) := by decide +kernel
theorem dX2_start_26 : decode cX2_start 26 = .ok (.iconst 0, 1) := by decide +kernel
theorem dX2_start_27 : decode cX2_start 27 = .ok (.iconst 0, 1) := by decide +kernel
theorem dX2_start_28 : decode cX2_start 28 = .ok (.iconst 0, 1) := by decide +kernel
theorem dX2_start_29 : decode cX2_start 29 = .ok (.invokevirtual 40, 3) := by decide +kernel
theorem dX2_start_32 : decode cX2_start 32 = .ok (.return_, 1) := by decide +kernel
def f_X2_start (v : Nat) (h : Nat) (a0 : Int32) (a1 : Int32) (u : PM) : Option (PM) :=
  if a1 = 0 ∨ a1 = 1 then
    (f_X2_setOut v h (0 : Int32) (0 : Int32) (0 : Int32) (pi (pi (pi (pi (pi u (3, v, h) 0 a0) (3, v, h) 1 a1) (3, v, h) 2 (0 : Int32)) (3, v, h) 3 (0 : Int32)) (3, v, h) 4 (0 : Int32))).bind fun r2 =>
    some r2
  else none
set_option maxHeartbeats 4000000 in
set_option maxRecDepth 20000 in
theorem C_X2_start {l : Launch} {v : Nat} (hv : v < 4) {h : Nat} (hh : h < 6) {a0 : Int32} {a1 : Int32} {u : PM} {x : PM} (hf : f_X2_start v h a0 a1 u = some x) : Ev l mX2_start 2 0 0 false [vR (3, v, h), vI a0, vI a1] kC (en u) (none, kC, en x) := by
  refine Ev_of (by decide +kernel) (le_b rfl) ?_
  unfold f_X2_start at hf
  show X l mX2_start 2 0 0 false _ kC 0 0 0 [some (vR (3, v, h)), some (vI a0), some (vI a1)] [] (en u)
  refine r_aload_n (x := (3, v, h)) dX2_start_0 rfl ?_
  refine r_iload_n (x := a0) dX2_start_1 rfl ?_
  refine e_puti fp_X2_9 dX2_start_2 (kC_mem (s := 3) (by decide) hv hh) rfl (lt_b rfl) rfl rfl rfl ?_
  refine r_aload_n (x := (3, v, h)) dX2_start_5 rfl ?_
  refine r_iload_n (x := a1) dX2_start_6 rfl ?_
  obtain ⟨h1, hf⟩ := am_chk hf
  refine e_puti fp_X2_15 dX2_start_7 (kC_mem (s := 3) (by decide) hv hh) rfl (lt_b rfl) rfl (am_bool h1).1 (am_bool h1).2 ?_
  refine r_aload_n (x := (3, v, h)) dX2_start_10 rfl ?_
  refine r_iconst (v := 0) dX2_start_11 rfl ?_
  refine e_puti fp_X2_19 dX2_start_12 (kC_mem (s := 3) (by decide) hv hh) rfl (lt_b rfl) rfl rfl rfl ?_
  refine r_aload_n (x := (3, v, h)) dX2_start_15 rfl ?_
  refine r_iconst (v := 0) dX2_start_16 rfl ?_
  refine e_puti fp_X2_22 dX2_start_17 (kC_mem (s := 3) (by decide) hv hh) rfl (lt_b rfl) rfl rfl rfl ?_
  refine r_aload_n (x := (3, v, h)) dX2_start_20 rfl ?_
  refine r_iconst (v := 0) dX2_start_21 rfl ?_
  refine e_puti fp_X2_25 dX2_start_22 (kC_mem (s := 3) (by decide) hv hh) rfl (lt_b rfl) rfl rfl rfl ?_
  refine r_aload_n (x := (3, v, h)) dX2_start_25 rfl ?_
  refine r_iconst (v := 0) dX2_start_26 rfl ?_
  refine r_iconst (v := 0) dX2_start_27 rfl ?_
  refine r_iconst (v := 0) dX2_start_28 rfl ?_
  obtain ⟨r2, hr3, hf⟩ := am_bind hf
  refine r_callV (as := [vI (0 : Int32), vI (0 : Int32), vI (0 : Int32)]) (st := []) (n := 3) mw_X2_40 mv_X2_setOut (C_X2_setOut (l := l) hv hh hr3) (le_b rfl) dX2_start_29 (kC_mem (s := 3) (by decide) hv hh) rfl rfl rfl (le_b rfl) (le_b rfl) (le_b rfl) ?_
  show X l _ _ 0 0 false _ kC 0 0 32 [some (vR (3, v, h)), some (vI a0), some (vI a1)] [] (en r2)
  have hx := am_inj hf
  subst hx
  exact r_vret dX2_start_32 rfl (le_b rfl) (le_b rfl)
/-! FireFromFire$House.copy -/
theorem dX2_copy_0 : decode cX2_copy 0 = .ok (.aload_n 0, 1) := by decide +kernel
theorem dX2_copy_1 : decode cX2_copy 1 = .ok (.aload_n 1, 1) := by decide +kernel
theorem dX2_copy_2 : decode cX2_copy 2 = .ok (.getfield 9, 3) := by decide +kernel
theorem dX2_copy_5 : decode cX2_copy 5 = .ok (.putfield 9, 3) := by decide +kernel
theorem dX2_copy_8 : decode cX2_copy 8 = .ok (.aload_n 0, 1) := by decide +kernel
theorem dX2_copy_9 : decode cX2_copy 9 = .ok (.aload_n 1, 1) := by decide +kernel
theorem dX2_copy_10 : decode cX2_copy 10 = .ok (.getfield 15, 3) := by decide +kernel
theorem dX2_copy_13 : decode cX2_copy 13 = .ok (.putfield 15, 3) := by decide +kernel
theorem dX2_copy_16 : decode cX2_copy 16 = .ok (.aload_n 0, 1) := by decide +kernel
theorem dX2_copy_17 : decode cX2_copy 17 = .ok (.aload_n 1, 1) := by decide +kernel
theorem dX2_copy_18 : decode cX2_copy 18 = .ok (.getfield 19, 3) := by decide +kernel
theorem dX2_copy_21 : decode cX2_copy 21 = .ok (.putfield 19, 3) := by decide +kernel
theorem dX2_copy_24 : decode cX2_copy 24 = .ok (.aload_n 0, 1) := by decide +kernel
theorem dX2_copy_25 : decode cX2_copy 25 = .ok (.aload_n 1, 1) := by decide +kernel
theorem dX2_copy_26 : decode cX2_copy 26 = .ok (.getfield 22, 3) := by decide +kernel
theorem dX2_copy_29 : decode cX2_copy 29 = .ok (.putfield 22, 3) := by decide +kernel
theorem dX2_copy_32 : decode cX2_copy 32 = .ok (.aload_n 0, 1) := by decide +kernel
theorem dX2_copy_33 : decode cX2_copy 33 = .ok (.aload_n 1, 1) := by decide +kernel
theorem dX2_copy_34 : decode cX2_copy 34 = .ok (.getfield 25, 3) := by decide +kernel
theorem dX2_copy_37 : decode cX2_copy 37 = .ok (.putfield 25, 3) := by decide +kernel
theorem dX2_copy_40 : decode cX2_copy 40 = .ok (.aload_n 0, 1) := by decide +kernel
theorem dX2_copy_41 : decode cX2_copy 41 = .ok (.aload_n 1, 1) := by decide +kernel
theorem dX2_copy_42 : decode cX2_copy 42 = .ok (.getfield 28, 3) := by decide +kernel
theorem dX2_copy_45 : decode cX2_copy 45 = .ok (.aload_n 1, 1) := by decide +kernel
theorem dX2_copy_46 : decode cX2_copy 46 = .ok (.getfield 31, 3) := by decide +kernel
theorem dX2_copy_49 : decode cX2_copy 49 = .ok (.aload_n 1, 1) := by decide +kernel
theorem dX2_copy_50 : decode cX2_copy 50 = .ok (.getfield 34, 3) := by decide +kernel
theorem dX2_copy_53 : decode cX2_copy 53 = .ok (.invokevirtual 40, 3) := by decide +kernel
theorem dX2_copy_56 : decode cX2_copy 56 = .ok (.aload_n 0, 1) := by decide +kernel
theorem dX2_copy_57 : decode cX2_copy 57 = .ok (.aload_n 1, 1) := by decide +kernel
theorem dX2_copy_58 : decode cX2_copy 58 = .ok (.getfield 37, 3) := by decide +kernel
theorem dX2_copy_61 : decode cX2_copy 61 = .ok (.putfield 37, 3) := by decide +kernel
theorem dX2_copy_64 : decode cX2_copy 64 = .ok (.return_, 1) := by decide +kernel
def f_X2_copy (v : Nat) (h : Nat) (w : Nat) (g : Nat)  (u : PM) : Option (PM) :=
  if (u.1 (3, w, g) 1) = 0 ∨ (u.1 (3, w, g) 1) = 1 then
    (f_X2_setOut v h (u.1 (3, w, g) 5) (u.1 (3, w, g) 6) (u.1 (3, w, g) 7) (pi (pi (pi (pi (pi u (3, v, h) 0 (u.1 (3, w, g) 0)) (3, v, h) 1 (u.1 (3, w, g) 1)) (3, v, h) 2 (u.1 (3, w, g) 2)) (3, v, h) 3 (u.1 (3, w, g) 3)) (3, v, h) 4 (u.1 (3, w, g) 4))).bind fun r2 =>
    some (pi r2 (3, v, h) 8 (r2.1 (3, w, g) 8))
  else none
set_option maxHeartbeats 4000000 in
set_option maxRecDepth 20000 in
theorem C_X2_copy {l : Launch} {v : Nat} (hv : v < 4) {h : Nat} (hh : h < 6) {w : Nat} (hw : w < 4) {g : Nat} (hg : g < 6)  {u : PM} {x : PM} (hf : f_X2_copy v h w g u = some x) : Ev l mX2_copy 2 0 0 false [vR (3, v, h), vR (3, w, g)] kC (en u) (none, kC, en x) := by
  refine Ev_of (by decide +kernel) (le_b rfl) ?_
  unfold f_X2_copy at hf
  show X l mX2_copy 2 0 0 false _ kC 0 0 0 [some (vR (3, v, h)), some (vR (3, w, g))] [] (en u)
  refine r_aload_n (x := (3, v, h)) dX2_copy_0 rfl ?_
  refine r_aload_n (x := (3, w, g)) dX2_copy_1 rfl ?_
  refine e_geti fw_X2_9 dX2_copy_2 (kC_mem (s := 3) (by decide) hw hg) rfl (lt_b rfl) ?_
  refine e_puti fp_X2_9 dX2_copy_5 (kC_mem (s := 3) (by decide) hv hh) rfl (lt_b rfl) rfl rfl rfl ?_
  refine r_aload_n (x := (3, v, h)) dX2_copy_8 rfl ?_
  refine r_aload_n (x := (3, w, g)) dX2_copy_9 rfl ?_
  refine e_geti_ (x := u.1 (3, w, g) 1) fw_X2_15 dX2_copy_10 (kC_mem (s := 3) (by decide) hw hg) rfl (lt_b rfl) (by simp [pi, pl, pr, pci, pcl]) ?_
  obtain ⟨h1, hf⟩ := am_chk hf
  refine e_puti fp_X2_15 dX2_copy_13 (kC_mem (s := 3) (by decide) hv hh) rfl (lt_b rfl) rfl (am_bool h1).1 (am_bool h1).2 ?_
  refine r_aload_n (x := (3, v, h)) dX2_copy_16 rfl ?_
  refine r_aload_n (x := (3, w, g)) dX2_copy_17 rfl ?_
  refine e_geti_ (x := u.1 (3, w, g) 2) fw_X2_19 dX2_copy_18 (kC_mem (s := 3) (by decide) hw hg) rfl (lt_b rfl) (by simp [pi, pl, pr, pci, pcl]) ?_
  refine e_puti fp_X2_19 dX2_copy_21 (kC_mem (s := 3) (by decide) hv hh) rfl (lt_b rfl) rfl rfl rfl ?_
  refine r_aload_n (x := (3, v, h)) dX2_copy_24 rfl ?_
  refine r_aload_n (x := (3, w, g)) dX2_copy_25 rfl ?_
  refine e_geti_ (x := u.1 (3, w, g) 3) fw_X2_22 dX2_copy_26 (kC_mem (s := 3) (by decide) hw hg) rfl (lt_b rfl) (by simp [pi, pl, pr, pci, pcl]) ?_
  refine e_puti fp_X2_22 dX2_copy_29 (kC_mem (s := 3) (by decide) hv hh) rfl (lt_b rfl) rfl rfl rfl ?_
  refine r_aload_n (x := (3, v, h)) dX2_copy_32 rfl ?_
  refine r_aload_n (x := (3, w, g)) dX2_copy_33 rfl ?_
  refine e_geti_ (x := u.1 (3, w, g) 4) fw_X2_25 dX2_copy_34 (kC_mem (s := 3) (by decide) hw hg) rfl (lt_b rfl) (by simp [pi, pl, pr, pci, pcl]) ?_
  refine e_puti fp_X2_25 dX2_copy_37 (kC_mem (s := 3) (by decide) hv hh) rfl (lt_b rfl) rfl rfl rfl ?_
  refine r_aload_n (x := (3, v, h)) dX2_copy_40 rfl ?_
  refine r_aload_n (x := (3, w, g)) dX2_copy_41 rfl ?_
  refine e_geti_ (x := u.1 (3, w, g) 5) fw_X2_28 dX2_copy_42 (kC_mem (s := 3) (by decide) hw hg) rfl (lt_b rfl) (by simp [pi, pl, pr, pci, pcl]) ?_
  refine r_aload_n (x := (3, w, g)) dX2_copy_45 rfl ?_
  refine e_geti_ (x := u.1 (3, w, g) 6) fw_X2_31 dX2_copy_46 (kC_mem (s := 3) (by decide) hw hg) rfl (lt_b rfl) (by simp [pi, pl, pr, pci, pcl]) ?_
  refine r_aload_n (x := (3, w, g)) dX2_copy_49 rfl ?_
  refine e_geti_ (x := u.1 (3, w, g) 7) fw_X2_34 dX2_copy_50 (kC_mem (s := 3) (by decide) hw hg) rfl (lt_b rfl) (by simp [pi, pl, pr, pci, pcl]) ?_
  obtain ⟨r2, hr3, hf⟩ := am_bind hf
  refine r_callV (as := [vI (u.1 (3, w, g) 5), vI (u.1 (3, w, g) 6), vI (u.1 (3, w, g) 7)]) (st := []) (n := 3) mw_X2_40 mv_X2_setOut (C_X2_setOut (l := l) hv hh hr3) (le_b rfl) dX2_copy_53 (kC_mem (s := 3) (by decide) hv hh) rfl rfl rfl (le_b rfl) (le_b rfl) (le_b rfl) ?_
  show X l _ _ 0 0 false _ kC 0 0 56 [some (vR (3, v, h)), some (vR (3, w, g))] [] (en r2)
  refine r_aload_n (x := (3, v, h)) dX2_copy_56 rfl ?_
  refine r_aload_n (x := (3, w, g)) dX2_copy_57 rfl ?_
  refine e_geti fw_X2_37 dX2_copy_58 (kC_mem (s := 3) (by decide) hw hg) rfl (lt_b rfl) ?_
  refine e_puti fp_X2_37 dX2_copy_61 (kC_mem (s := 3) (by decide) hv hh) rfl (lt_b rfl) rfl rfl rfl ?_
  have hx := am_inj hf
  subst hx
  exact r_vret dX2_copy_64 rfl (le_b rfl) (le_b rfl)
/-! FireFromFire$Land.addClause -/
theorem dX3_addClause_0 : decode cX3_addClause 0 = .ok (.aload_n 0, 1) := by decide +kernel
theorem dX3_addClause_1 : decode cX3_addClause 1 = .ok (.getfield 9, 3) := by decide +kernel
theorem dX3_addClause_4 : decode cX3_addClause 4 = .ok (.ifCond .lt 63, 3) := by decide +kernel
theorem dX3_addClause_7 : decode cX3_addClause 7 = .ok (.aload_n 0, 1) := by decide +kernel
theorem dX3_addClause_8 : decode cX3_addClause 8 = .ok (.getfield 9, 3) := by decide +kernel
theorem dX3_addClause_11 : decode cX3_addClause 11 = .ok (.bipush 10, 2) := by decide +kernel
theorem dX3_addClause_13 : decode cX3_addClause 13 = .ok (.if_icmp .ge 54, 3) := by decide +kernel
theorem dX3_addClause_16 : decode cX3_addClause 16 = .ok (.aload_n 0, 1) := by decide +kernel
theorem dX3_addClause_17 : decode cX3_addClause 17 = .ok (.getfield 18, 3) := by decide +kernel
theorem dX3_addClause_20 : decode cX3_addClause 20 = .ok (.aload_n 0, 1) := by decide +kernel
theorem dX3_addClause_21 : decode cX3_addClause 21 = .ok (.getfield 9, 3) := by decide +kernel
theorem dX3_addClause_24 : decode cX3_addClause 24 = .ok (.iload_n 1, 1) := by decide +kernel
theorem dX3_addClause_25 : decode cX3_addClause 25 = .ok (.iastore, 1) := by decide +kernel
theorem dX3_addClause_26 : decode cX3_addClause 26 = .ok (.aload_n 0, 1) := by decide +kernel
theorem dX3_addClause_27 : decode cX3_addClause 27 = .ok (.getfield 22, 3) := by decide +kernel
theorem dX3_addClause_30 : decode cX3_addClause 30 = .ok (.aload_n 0, 1) := by decide +kernel
theorem dX3_addClause_31 : decode cX3_addClause 31 = .ok (.getfield 9, 3) := by decide +kernel
theorem dX3_addClause_34 : decode cX3_addClause 34 = .ok (.iload_n 2, 1) := by decide +kernel
theorem dX3_addClause_35 : decode cX3_addClause 35 = .ok (.iastore, 1) := by decide +kernel
theorem dX3_addClause_36 : decode cX3_addClause 36 = .ok (.aload_n 0, 1) := by decide +kernel
theorem dX3_addClause_37 : decode cX3_addClause 37 = .ok (.getfield 25, 3) := by decide +kernel
theorem dX3_addClause_40 : decode cX3_addClause 40 = .ok (.aload_n 0, 1) := by decide +kernel
theorem dX3_addClause_41 : decode cX3_addClause 41 = .ok (.getfield 9, 3) := by decide +kernel
theorem dX3_addClause_44 : decode cX3_addClause 44 = .ok (.iload_n 3, 1) := by decide +kernel
theorem dX3_addClause_45 : decode cX3_addClause 45 = .ok (.iastore, 1) := by decide +kernel
theorem dX3_addClause_46 : decode cX3_addClause 46 = .ok (.aload_n 0, 1) := by decide +kernel
theorem dX3_addClause_47 : decode cX3_addClause 47 = .ok (.getfield 28, 3) := by decide +kernel
theorem dX3_addClause_50 : decode cX3_addClause 50 = .ok (.aload_n 0, 1) := by decide +kernel
theorem dX3_addClause_51 : decode cX3_addClause 51 = .ok (.getfield 9, 3) := by decide +kernel
theorem dX3_addClause_54 : decode cX3_addClause 54 = .ok (.iload 4, 2) := by decide +kernel
theorem dX3_addClause_56 : decode cX3_addClause 56 = .ok (.iastore, 1) := by decide +kernel
theorem dX3_addClause_57 : decode cX3_addClause 57 = .ok (.aload_n 0, 1) := by decide +kernel
theorem dX3_addClause_58 : decode cX3_addClause 58 = .ok (.dup, 1) := by decide +kernel
theorem dX3_addClause_59 : decode cX3_addClause 59 = .ok (.getfield 9, 3) := by decide +kernel
theorem dX3_addClause_62 : decode cX3_addClause 62 = .ok (.iconst 1, 1) := by decide +kernel
theorem dX3_addClause_63 : decode cX3_addClause 63 = .ok (.iadd, 1) := by decide +kernel
theorem dX3_addClause_64 : decode cX3_addClause 64 = .ok (.putfield 9, 3) := by decide +kernel
theorem dX3_addClause_67 : decode cX3_addClause 67 = .ok (.return_, 1) := by decide +kernel
def f_X3_addClause (v : Nat) (a0 : Int32) (a1 : Int32) (a2 : Int32) (a3 : Int32) (u : PM) : Option (PM) :=
  if (u.1 (11, v, 0) 0) < 0 then
    some u
  else
  if (10 : Int32) ≤ (u.1 (11, v, 0) 0) then
    some u
  else
  if (u.1 (11, v, 0) 0) < 0 ∨ 10 ≤ (u.1 (11, v, 0) 0).toNatClampNeg then none else
  some (pi (pi (pi (pi (pi u (12, v, 0) ((u.1 (11, v, 0) 0).toNatClampNeg) a0) (13, v, 0) ((u.1 (11, v, 0) 0).toNatClampNeg) a1) (14, v, 0) ((u.1 (11, v, 0) 0).toNatClampNeg) a2) (15, v, 0) ((u.1 (11, v, 0) 0).toNatClampNeg) a3) (11, v, 0) 0 ((u.1 (11, v, 0) 0) + (1 : Int32)))
set_option maxHeartbeats 4000000 in
set_option maxRecDepth 20000 in
theorem C_X3_addClause {l : Launch} {v : Nat} (hv : v < 5) {a0 : Int32} {a1 : Int32} {a2 : Int32} {a3 : Int32} {u : PM} {x : PM} (hf : f_X3_addClause v a0 a1 a2 a3 u = some x) : Ev l mX3_addClause 1 0 0 false [vR (11, v, 0), vI a0, vI a1, vI a2, vI a3] kC (en u) (none, kC, en x) := by
  refine Ev_of (by decide +kernel) (le_b rfl) ?_
  unfold f_X3_addClause at hf
  show X l mX3_addClause 1 0 0 false _ kC 0 0 0 [some (vR (11, v, 0)), some (vI a0), some (vI a1), some (vI a2), some (vI a3)] [] (en u)
  refine r_aload_n (x := (11, v, 0)) dX3_addClause_0 rfl ?_
  refine e_geti fw_X3_9 dX3_addClause_1 (kC_mem (s := 11) (by decide) hv (by decide)) rfl (lt_b rfl) ?_
  refine r_if_lt (tgt := 67) dX3_addClause_4 (by decide) (fun hc => ?_) (fun hc => ?_)
  · have hf := (am_if hf).1 hc
    have hx := am_inj hf
    subst hx
    exact r_vret dX3_addClause_67 rfl (le_b rfl) (le_b rfl)
  · have hf := (am_if hf).2 hc
    refine r_aload_n (x := (11, v, 0)) dX3_addClause_7 rfl ?_
    refine e_geti fw_X3_9 dX3_addClause_8 (kC_mem (s := 11) (by decide) hv (by decide)) rfl (lt_b rfl) ?_
    refine r_bipush (v := 10) dX3_addClause_11 rfl ?_
    refine r_icmp_ge (tgt := 67) dX3_addClause_13 (by decide) (fun hc => ?_) (fun hc => ?_)
    · have hf := (am_if hf).1 hc
      have hx := am_inj hf
      subst hx
      exact r_vret dX3_addClause_67 rfl (le_b rfl) (le_b rfl)
    · have hf := (am_if hf).2 hc
      refine r_aload_n (x := (11, v, 0)) dX3_addClause_16 rfl ?_
      refine e_getr (z := some (12, v, 0)) fw_X3_18 dX3_addClause_17 (kC_mem (s := 11) (by decide) hv (by decide)) rfl (lt_b rfl) rfl ?_
      refine r_aload_n (x := (11, v, 0)) dX3_addClause_20 rfl ?_
      refine e_geti fw_X3_9 dX3_addClause_21 (kC_mem (s := 11) (by decide) hv (by decide)) rfl (lt_b rfl) ?_
      refine r_iload_n (x := a0) dX3_addClause_24 rfl ?_
      obtain ⟨h1, hf⟩ := am_nchk hf
      refine e_iast (n := (u.1 (11, v, 0) 0).toNatClampNeg) dX3_addClause_25 (kC_mem (s := 12) (by decide) hv (by decide)) rfl h1 rfl ?_
      refine r_aload_n (x := (11, v, 0)) dX3_addClause_26 rfl ?_
      refine e_getr (z := some (13, v, 0)) fw_X3_22 dX3_addClause_27 (kC_mem (s := 11) (by decide) hv (by decide)) rfl (lt_b rfl) rfl ?_
      refine r_aload_n (x := (11, v, 0)) dX3_addClause_30 rfl ?_
      refine e_geti_ (x := u.1 (11, v, 0) 0) fw_X3_9 dX3_addClause_31 (kC_mem (s := 11) (by decide) hv (by decide)) rfl (lt_b rfl) (by simp [pi, pl, pr, pci, pcl]) ?_
      refine r_iload_n (x := a1) dX3_addClause_34 rfl ?_
      refine e_iast (n := (u.1 (11, v, 0) 0).toNatClampNeg) dX3_addClause_35 (kC_mem (s := 13) (by decide) hv (by decide)) rfl h1 rfl ?_
      refine r_aload_n (x := (11, v, 0)) dX3_addClause_36 rfl ?_
      refine e_getr (z := some (14, v, 0)) fw_X3_25 dX3_addClause_37 (kC_mem (s := 11) (by decide) hv (by decide)) rfl (lt_b rfl) rfl ?_
      refine r_aload_n (x := (11, v, 0)) dX3_addClause_40 rfl ?_
      refine e_geti_ (x := u.1 (11, v, 0) 0) fw_X3_9 dX3_addClause_41 (kC_mem (s := 11) (by decide) hv (by decide)) rfl (lt_b rfl) (by simp [pi, pl, pr, pci, pcl]) ?_
      refine r_iload_n (x := a2) dX3_addClause_44 rfl ?_
      refine e_iast (n := (u.1 (11, v, 0) 0).toNatClampNeg) dX3_addClause_45 (kC_mem (s := 14) (by decide) hv (by decide)) rfl h1 rfl ?_
      refine r_aload_n (x := (11, v, 0)) dX3_addClause_46 rfl ?_
      refine e_getr (z := some (15, v, 0)) fw_X3_28 dX3_addClause_47 (kC_mem (s := 11) (by decide) hv (by decide)) rfl (lt_b rfl) rfl ?_
      refine r_aload_n (x := (11, v, 0)) dX3_addClause_50 rfl ?_
      refine e_geti_ (x := u.1 (11, v, 0) 0) fw_X3_9 dX3_addClause_51 (kC_mem (s := 11) (by decide) hv (by decide)) rfl (lt_b rfl) (by simp [pi, pl, pr, pci, pcl]) ?_
      refine r_iload (x := a3) dX3_addClause_54 rfl ?_
      refine e_iast (n := (u.1 (11, v, 0) 0).toNatClampNeg) dX3_addClause_56 (kC_mem (s := 15) (by decide) hv (by decide)) rfl h1 rfl ?_
      refine r_aload_n (x := (11, v, 0)) dX3_addClause_57 rfl ?_
      refine r_dup dX3_addClause_58 rfl ?_
      refine e_geti_ (x := u.1 (11, v, 0) 0) fw_X3_9 dX3_addClause_59 (kC_mem (s := 11) (by decide) hv (by decide)) rfl (lt_b rfl) (by simp [pi, pl, pr, pci, pcl]) ?_
      refine r_iconst (v := 1) dX3_addClause_62 rfl ?_
      refine r_iadd dX3_addClause_63 ?_
      refine e_puti fp_X3_9 dX3_addClause_64 (kC_mem (s := 11) (by decide) hv (by decide)) rfl (lt_b rfl) rfl rfl rfl ?_
      have hx := am_inj hf
      subst hx
      exact r_vret dX3_addClause_67 rfl (le_b rfl) (le_b rfl)
/-! FireFromFire$Land.addStep -/
theorem dX3_addStep_0 : decode cX3_addStep 0 = .ok (.aload_n 0, 1) := by decide +kernel
theorem dX3_addStep_1 : decode cX3_addStep 1 = .ok (.getfield 15, 3) := by decide +kernel
theorem dX3_addStep_4 : decode cX3_addStep 4 = .ok (.ifCond .lt 52, 3) := by decide +kernel
theorem dX3_addStep_7 : decode cX3_addStep 7 = .ok (.aload_n 0, 1) := by decide +kernel
theorem dX3_addStep_8 : decode cX3_addStep 8 = .ok (.getfield 15, 3) := by decide +kernel
theorem dX3_addStep_11 : decode cX3_addStep 11 = .ok (.bipush 100, 2) := by decide +kernel
theorem dX3_addStep_13 : decode cX3_addStep 13 = .ok (.if_icmp .ge 43, 3) := by decide +kernel
theorem dX3_addStep_16 : decode cX3_addStep 16 = .ok (.aload_n 0, 1) := by decide +kernel
theorem dX3_addStep_17 : decode cX3_addStep 17 = .ok (.getfield 31, 3) := by decide +kernel
theorem dX3_addStep_20 : decode cX3_addStep 20 = .ok (.aload_n 0, 1) := by decide +kernel
theorem dX3_addStep_21 : decode cX3_addStep 21 = .ok (.getfield 15, 3) := by decide +kernel
theorem dX3_addStep_24 : decode cX3_addStep 24 = .ok (.iload_n 1, 1) := by decide +kernel
theorem dX3_addStep_25 : decode cX3_addStep 25 = .ok (.iastore, 1) := by decide +kernel
theorem dX3_addStep_26 : decode cX3_addStep 26 = .ok (.aload_n 0, 1) := by decide +kernel
theorem dX3_addStep_27 : decode cX3_addStep 27 = .ok (.getfield 34, 3) := by decide +kernel
theorem dX3_addStep_30 : decode cX3_addStep 30 = .ok (.aload_n 0, 1) := by decide +kernel
theorem dX3_addStep_31 : decode cX3_addStep 31 = .ok (.getfield 15, 3) := by decide +kernel
theorem dX3_addStep_34 : decode cX3_addStep 34 = .ok (.iload_n 2, 1) := by decide +kernel
theorem dX3_addStep_35 : decode cX3_addStep 35 = .ok (.iastore, 1) := by decide +kernel
theorem dX3_addStep_36 : decode cX3_addStep 36 = .ok (.aload_n 0, 1) := by decide +kernel
theorem dX3_addStep_37 : decode cX3_addStep 37 = .ok (.getfield 37, 3) := by decide +kernel
theorem dX3_addStep_40 : decode cX3_addStep 40 = .ok (.aload_n 0, 1) := by decide +kernel
theorem dX3_addStep_41 : decode cX3_addStep 41 = .ok (.getfield 15, 3) := by decide +kernel
theorem dX3_addStep_44 : decode cX3_addStep 44 = .ok (.iload_n 3, 1) := by decide +kernel
theorem dX3_addStep_45 : decode cX3_addStep 45 = .ok (.iastore, 1) := by decide +kernel
theorem dX3_addStep_46 : decode cX3_addStep 46 = .ok (.aload_n 0, 1) := by decide +kernel
theorem dX3_addStep_47 : decode cX3_addStep 47 = .ok (.dup, 1) := by decide +kernel
theorem dX3_addStep_48 : decode cX3_addStep 48 = .ok (.getfield 15, 3) := by decide +kernel
theorem dX3_addStep_51 : decode cX3_addStep 51 = .ok (.iconst 1, 1) := by decide +kernel
theorem dX3_addStep_52 : decode cX3_addStep 52 = .ok (.iadd, 1) := by decide +kernel
theorem dX3_addStep_53 : decode cX3_addStep 53 = .ok (.putfield 15, 3) := by decide +kernel
theorem dX3_addStep_56 : decode cX3_addStep 56 = .ok (.return_, 1) := by decide +kernel
def f_X3_addStep (v : Nat) (a0 : Int32) (a1 : Int32) (a2 : Int32) (u : PM) : Option (PM) :=
  if (u.1 (11, v, 0) 1) < 0 then
    some u
  else
  if (100 : Int32) ≤ (u.1 (11, v, 0) 1) then
    some u
  else
  if (u.1 (11, v, 0) 1) < 0 ∨ 100 ≤ (u.1 (11, v, 0) 1).toNatClampNeg then none else
  some (pi (pi (pi (pi u (16, v, 0) ((u.1 (11, v, 0) 1).toNatClampNeg) a0) (17, v, 0) ((u.1 (11, v, 0) 1).toNatClampNeg) a1) (18, v, 0) ((u.1 (11, v, 0) 1).toNatClampNeg) a2) (11, v, 0) 1 ((u.1 (11, v, 0) 1) + (1 : Int32)))
set_option maxHeartbeats 4000000 in
set_option maxRecDepth 20000 in
theorem C_X3_addStep {l : Launch} {v : Nat} (hv : v < 5) {a0 : Int32} {a1 : Int32} {a2 : Int32} {u : PM} {x : PM} (hf : f_X3_addStep v a0 a1 a2 u = some x) : Ev l mX3_addStep 1 0 0 false [vR (11, v, 0), vI a0, vI a1, vI a2] kC (en u) (none, kC, en x) := by
  refine Ev_of (by decide +kernel) (le_b rfl) ?_
  unfold f_X3_addStep at hf
  show X l mX3_addStep 1 0 0 false _ kC 0 0 0 [some (vR (11, v, 0)), some (vI a0), some (vI a1), some (vI a2)] [] (en u)
  refine r_aload_n (x := (11, v, 0)) dX3_addStep_0 rfl ?_
  refine e_geti fw_X3_15 dX3_addStep_1 (kC_mem (s := 11) (by decide) hv (by decide)) rfl (lt_b rfl) ?_
  refine r_if_lt (tgt := 56) dX3_addStep_4 (by decide) (fun hc => ?_) (fun hc => ?_)
  · have hf := (am_if hf).1 hc
    have hx := am_inj hf
    subst hx
    exact r_vret dX3_addStep_56 rfl (le_b rfl) (le_b rfl)
  · have hf := (am_if hf).2 hc
    refine r_aload_n (x := (11, v, 0)) dX3_addStep_7 rfl ?_
    refine e_geti fw_X3_15 dX3_addStep_8 (kC_mem (s := 11) (by decide) hv (by decide)) rfl (lt_b rfl) ?_
    refine r_bipush (v := 100) dX3_addStep_11 rfl ?_
    refine r_icmp_ge (tgt := 56) dX3_addStep_13 (by decide) (fun hc => ?_) (fun hc => ?_)
    · have hf := (am_if hf).1 hc
      have hx := am_inj hf
      subst hx
      exact r_vret dX3_addStep_56 rfl (le_b rfl) (le_b rfl)
    · have hf := (am_if hf).2 hc
      refine r_aload_n (x := (11, v, 0)) dX3_addStep_16 rfl ?_
      refine e_getr (z := some (16, v, 0)) fw_X3_31 dX3_addStep_17 (kC_mem (s := 11) (by decide) hv (by decide)) rfl (lt_b rfl) rfl ?_
      refine r_aload_n (x := (11, v, 0)) dX3_addStep_20 rfl ?_
      refine e_geti fw_X3_15 dX3_addStep_21 (kC_mem (s := 11) (by decide) hv (by decide)) rfl (lt_b rfl) ?_
      refine r_iload_n (x := a0) dX3_addStep_24 rfl ?_
      obtain ⟨h1, hf⟩ := am_nchk hf
      refine e_iast (n := (u.1 (11, v, 0) 1).toNatClampNeg) dX3_addStep_25 (kC_mem (s := 16) (by decide) hv (by decide)) rfl h1 rfl ?_
      refine r_aload_n (x := (11, v, 0)) dX3_addStep_26 rfl ?_
      refine e_getr (z := some (17, v, 0)) fw_X3_34 dX3_addStep_27 (kC_mem (s := 11) (by decide) hv (by decide)) rfl (lt_b rfl) rfl ?_
      refine r_aload_n (x := (11, v, 0)) dX3_addStep_30 rfl ?_
      refine e_geti_ (x := u.1 (11, v, 0) 1) fw_X3_15 dX3_addStep_31 (kC_mem (s := 11) (by decide) hv (by decide)) rfl (lt_b rfl) (by simp [pi, pl, pr, pci, pcl]) ?_
      refine r_iload_n (x := a1) dX3_addStep_34 rfl ?_
      refine e_iast (n := (u.1 (11, v, 0) 1).toNatClampNeg) dX3_addStep_35 (kC_mem (s := 17) (by decide) hv (by decide)) rfl h1 rfl ?_
      refine r_aload_n (x := (11, v, 0)) dX3_addStep_36 rfl ?_
      refine e_getr (z := some (18, v, 0)) fw_X3_37 dX3_addStep_37 (kC_mem (s := 11) (by decide) hv (by decide)) rfl (lt_b rfl) rfl ?_
      refine r_aload_n (x := (11, v, 0)) dX3_addStep_40 rfl ?_
      refine e_geti_ (x := u.1 (11, v, 0) 1) fw_X3_15 dX3_addStep_41 (kC_mem (s := 11) (by decide) hv (by decide)) rfl (lt_b rfl) (by simp [pi, pl, pr, pci, pcl]) ?_
      refine r_iload_n (x := a2) dX3_addStep_44 rfl ?_
      refine e_iast (n := (u.1 (11, v, 0) 1).toNatClampNeg) dX3_addStep_45 (kC_mem (s := 18) (by decide) hv (by decide)) rfl h1 rfl ?_
      refine r_aload_n (x := (11, v, 0)) dX3_addStep_46 rfl ?_
      refine r_dup dX3_addStep_47 rfl ?_
      refine e_geti_ (x := u.1 (11, v, 0) 1) fw_X3_15 dX3_addStep_48 (kC_mem (s := 11) (by decide) hv (by decide)) rfl (lt_b rfl) (by simp [pi, pl, pr, pci, pcl]) ?_
      refine r_iconst (v := 1) dX3_addStep_51 rfl ?_
      refine r_iadd dX3_addStep_52 ?_
      refine e_puti fp_X3_15 dX3_addStep_53 (kC_mem (s := 11) (by decide) hv (by decide)) rfl (lt_b rfl) rfl rfl rfl ?_
      have hx := am_inj hf
      subst hx
      exact r_vret dX3_addStep_56 rfl (le_b rfl) (le_b rfl)
/-! FireFromFire$Land.lastNext -/
theorem dX3_lastNext_0 : decode cX3_lastNext 0 = .ok (.iconst 0, 1) := by decide +kernel
theorem dX3_lastNext_1 : decode cX3_lastNext 1 = .ok (.istore_n 3, 1) := by decide +kernel
theorem dX3_lastNext_2 : decode cX3_lastNext 2 = .ok (.iconst 0, 1) := by decide +kernel
theorem dX3_lastNext_3 : decode cX3_lastNext 3 = .ok (.istore 4, 2) := by decide +kernel
theorem dX3_lastNext_5 : decode cX3_lastNext 5 = .ok (.iload 4, 2) := by decide +kernel
theorem dX3_lastNext_7 : decode cX3_lastNext 7 = .ok (.aload_n 0, 1) := by decide +kernel
theorem dX3_lastNext_8 : decode cX3_lastNext 8 = .ok (.getfield 9, 3) := by decide +kernel
theorem dX3_lastNext_11 : decode cX3_lastNext 11 = .ok (.if_icmp .ge 57, 3) := by decide +kernel
theorem dX3_lastNext_14 : decode cX3_lastNext 14 = .ok (.iload 4, 2) := by decide +kernel
theorem dX3_lastNext_16 : decode cX3_lastNext 16 = .ok (.bipush 10, 2) := by decide +kernel
theorem dX3_lastNext_18 : decode cX3_lastNext 18 = .ok (.if_icmp .ge 50, 3) := by decide +kernel
theorem dX3_lastNext_21 : decode cX3_lastNext 21 = .ok (.aload_n 0, 1) := by decide +kernel
theorem dX3_lastNext_22 : decode cX3_lastNext 22 = .ok (.getfield 18, 3) := by decide +kernel
theorem dX3_lastNext_25 : decode cX3_lastNext 25 = .ok (.iload 4, 2) := by decide +kernel
theorem dX3_lastNext_27 : decode cX3_lastNext 27 = .ok (.iaload, 1) := by decide +kernel
theorem dX3_lastNext_28 : decode cX3_lastNext 28 = .ok (.iconst 4, 1) := by decide +kernel
theorem dX3_lastNext_29 : decode cX3_lastNext 29 = .ok (.if_icmp .ne 33, 3) := by decide +kernel
theorem dX3_lastNext_32 : decode cX3_lastNext 32 = .ok (.aload_n 0, 1) := by decide +kernel
theorem dX3_lastNext_33 : decode cX3_lastNext 33 = .ok (.getfield 25, 3) := by decide +kernel
theorem dX3_lastNext_36 : decode cX3_lastNext 36 = .ok (.iload 4, 2) := by decide +kernel
theorem dX3_lastNext_38 : decode cX3_lastNext 38 = .ok (.iaload, 1) := by decide +kernel
theorem dX3_lastNext_39 : decode cX3_lastNext 39 = .ok (.iload_n 1, 1) := by decide +kernel
theorem dX3_lastNext_40 : decode cX3_lastNext 40 = .ok (.if_icmp .ne 22, 3) := by decide +kernel
theorem dX3_lastNext_43 : decode cX3_lastNext 43 = .ok (.aload_n 0, 1) := by decide +kernel
theorem dX3_lastNext_44 : decode cX3_lastNext 44 = .ok (.getfield 28, 3) := by decide +kernel
theorem dX3_lastNext_47 : decode cX3_lastNext 47 = .ok (.iload 4, 2) := by decide +kernel
theorem dX3_lastNext_49 : decode cX3_lastNext 49 = .ok (.iaload, 1) := by decide +kernel
theorem dX3_lastNext_50 : decode cX3_lastNext 50 = .ok (.iload_n 2, 1) := by decide +kernel
theorem dX3_lastNext_51 : decode cX3_lastNext 51 = .ok (.if_icmp .ne 11, 3) := by decide +kernel
theorem dX3_lastNext_54 : decode cX3_lastNext 54 = .ok (.aload_n 0, 1) := by decide +kernel
theorem dX3_lastNext_55 : decode cX3_lastNext 55 = .ok (.getfield 22, 3) := by decide +kernel
theorem dX3_lastNext_58 : decode cX3_lastNext 58 = .ok (.iload 4, 2) := by decide +kernel
theorem dX3_lastNext_60 : decode cX3_lastNext 60 = .ok (.iaload, 1) := by decide +kernel
theorem dX3_lastNext_61 : decode cX3_lastNext 61 = .ok (.istore_n 3, 1) := by decide +kernel
theorem dX3_lastNext_62 : decode cX3_lastNext 62 = .ok (.iinc 4 1, 3) := by decide +kernel
theorem dX3_lastNext_65 : decode cX3_lastNext 65 = .ok (.goto (-60), 3) := by decide +kernel
theorem dX3_lastNext_68 : decode cX3_lastNext 68 = .ok (.iload_n 3, 1) := by decide +kernel
theorem dX3_lastNext_69 : decode cX3_lastNext 69 = .ok (.ireturn, 1) := by decide +kernel
def f_X3_lastNext_L5 (n0 : Nat) (c1 : Int32) (c2 : Int32) (u : PM) : Int32 × Int32 → Option ((Int32 × Int32) ⊕ (Int32)) := fun (x3 , x4) =>
  if (u.1 (11, n0, 0) 0) ≤ x4 then
    some (.inr (x3))
  else
  if (10 : Int32) ≤ x4 then
    some (.inr (x3))
  else
  if x4 < 0 ∨ 10 ≤ x4.toNatClampNeg then none else
  if (u.1 (12, n0, 0) x4.toNatClampNeg) = (4 : Int32) then
    if (u.1 (14, n0, 0) x4.toNatClampNeg) = c1 then
      if (u.1 (15, n0, 0) x4.toNatClampNeg) = c2 then
        some (.inl (u.1 (13, n0, 0) x4.toNatClampNeg, x4 + (1 : Int32)))
      else
      some (.inl (x3, x4 + (1 : Int32)))
    else
    some (.inl (x3, x4 + (1 : Int32)))
  else
  some (.inl (x3, x4 + (1 : Int32)))
set_option maxHeartbeats 4000000 in
set_option maxRecDepth 20000 in
theorem K_X3_lastNext_L5 {l : Launch} {T : Option AV × List Key × AM} {n0 : Nat} (hn0 : n0 < 5) {c1 : Int32} {c2 : Int32} {u : PM} : ∀ (n : Nat) (s : Int32 × Int32) (e0 : Int32), am_loop (f_X3_lastNext_L5 n0 c1 c2 u) n s = some e0 → (fun e : Int32 => X l mX3_lastNext 1 0 0 false T kC 0 0 68 [none, none, none, some (vI e), none] [] (en u)) e0 → X l mX3_lastNext 1 0 0 false T kC 0 0 5 [some (vR (11, n0, 0)), some (vI c1), some (vI c2), some (vI s.1), some (vI s.2)] [] (en u) := by
  refine am_loop_of ?_
  intro s x hf k1 k2
  obtain ⟨x3 , x4⟩ := s
  unfold f_X3_lastNext_L5 at hf
  show X l mX3_lastNext 1 0 0 false T kC 0 0 5 [some (vR (11, n0, 0)), some (vI c1), some (vI c2), some (vI x3), some (vI x4)] [] (en u)
  refine r_iload (x := x4) dX3_lastNext_5 rfl ?_
  refine r_aload_n (x := (11, n0, 0)) dX3_lastNext_7 rfl ?_
  refine e_geti fw_X3_9 dX3_lastNext_8 (kC_mem (s := 11) (by decide) hn0 (by decide)) rfl (lt_b rfl) ?_
  refine r_icmp_ge (tgt := 68) dX3_lastNext_11 (by decide) (fun hc => ?_) (fun hc => ?_)
  · have hf := (am_if hf).1 hc
    refine r_weak (L' := [none, none, none, some (vI x3), none]) (And.intro rfl trivial) ?_
    exact k2 (x3) (am_inj hf).symm
  · have hf := (am_if hf).2 hc
    refine r_iload (x := x4) dX3_lastNext_14 rfl ?_
    refine r_bipush (v := 10) dX3_lastNext_16 rfl ?_
    refine r_icmp_ge (tgt := 68) dX3_lastNext_18 (by decide) (fun hc => ?_) (fun hc => ?_)
    · have hf := (am_if hf).1 hc
      refine r_weak (L' := [none, none, none, some (vI x3), none]) (And.intro rfl trivial) ?_
      exact k2 (x3) (am_inj hf).symm
    · have hf := (am_if hf).2 hc
      refine r_aload_n (x := (11, n0, 0)) dX3_lastNext_21 rfl ?_
      refine e_getr (z := some (12, n0, 0)) fw_X3_18 dX3_lastNext_22 (kC_mem (s := 11) (by decide) hn0 (by decide)) rfl (lt_b rfl) rfl ?_
      refine r_iload (x := x4) dX3_lastNext_25 rfl ?_
      obtain ⟨h1, hf⟩ := am_nchk hf
      refine e_iald (n := x4.toNatClampNeg) dX3_lastNext_27 (kC_mem (s := 12) (by decide) hn0 (by decide)) rfl h1 rfl rfl ?_
      refine r_iconst (v := 4) dX3_lastNext_28 rfl ?_
      refine r_icmp_ne (tgt := 62) dX3_lastNext_29 (by decide) (fun hc => ?_) (fun hc => ?_)
      · have hf := (am_if hf).2 hc
        refine r_iinc (x := x4) (v := x4 + (1 : Int32)) (L' := [some (vR (11, n0, 0)), some (vI c1), some (vI c2), some (vI x3), some (vI (x4 + (1 : Int32)))]) dX3_lastNext_62 rfl rfl (lt_b rfl) rfl ?_
        refine r_goto (tgt := 5) dX3_lastNext_65 (by decide) ?_
        refine r_weak (L' := [some (vR (11, n0, 0)), some (vI c1), some (vI c2), some (vI x3), some (vI (x4 + (1 : Int32)))]) (And.intro rfl (And.intro rfl (And.intro rfl (And.intro rfl (And.intro rfl trivial))))) ?_
        exact k1 (x3, x4 + (1 : Int32)) (am_inj hf).symm
      · have hf := (am_if hf).1 hc
        refine r_aload_n (x := (11, n0, 0)) dX3_lastNext_32 rfl ?_
        refine e_getr (z := some (14, n0, 0)) fw_X3_25 dX3_lastNext_33 (kC_mem (s := 11) (by decide) hn0 (by decide)) rfl (lt_b rfl) rfl ?_
        refine r_iload (x := x4) dX3_lastNext_36 rfl ?_
        refine e_iald (n := x4.toNatClampNeg) dX3_lastNext_38 (kC_mem (s := 14) (by decide) hn0 (by decide)) rfl h1 rfl rfl ?_
        refine r_iload_n (x := c1) dX3_lastNext_39 rfl ?_
        refine r_icmp_ne (tgt := 62) dX3_lastNext_40 (by decide) (fun hc => ?_) (fun hc => ?_)
        · have hf := (am_if hf).2 hc
          refine r_iinc (x := x4) (v := x4 + (1 : Int32)) (L' := [some (vR (11, n0, 0)), some (vI c1), some (vI c2), some (vI x3), some (vI (x4 + (1 : Int32)))]) dX3_lastNext_62 rfl rfl (lt_b rfl) rfl ?_
          refine r_goto (tgt := 5) dX3_lastNext_65 (by decide) ?_
          refine r_weak (L' := [some (vR (11, n0, 0)), some (vI c1), some (vI c2), some (vI x3), some (vI (x4 + (1 : Int32)))]) (And.intro rfl (And.intro rfl (And.intro rfl (And.intro rfl (And.intro rfl trivial))))) ?_
          exact k1 (x3, x4 + (1 : Int32)) (am_inj hf).symm
        · have hf := (am_if hf).1 hc
          refine r_aload_n (x := (11, n0, 0)) dX3_lastNext_43 rfl ?_
          refine e_getr (z := some (15, n0, 0)) fw_X3_28 dX3_lastNext_44 (kC_mem (s := 11) (by decide) hn0 (by decide)) rfl (lt_b rfl) rfl ?_
          refine r_iload (x := x4) dX3_lastNext_47 rfl ?_
          refine e_iald (n := x4.toNatClampNeg) dX3_lastNext_49 (kC_mem (s := 15) (by decide) hn0 (by decide)) rfl h1 rfl rfl ?_
          refine r_iload_n (x := c2) dX3_lastNext_50 rfl ?_
          refine r_icmp_ne (tgt := 62) dX3_lastNext_51 (by decide) (fun hc => ?_) (fun hc => ?_)
          · have hf := (am_if hf).2 hc
            refine r_iinc (x := x4) (v := x4 + (1 : Int32)) (L' := [some (vR (11, n0, 0)), some (vI c1), some (vI c2), some (vI x3), some (vI (x4 + (1 : Int32)))]) dX3_lastNext_62 rfl rfl (lt_b rfl) rfl ?_
            refine r_goto (tgt := 5) dX3_lastNext_65 (by decide) ?_
            refine r_weak (L' := [some (vR (11, n0, 0)), some (vI c1), some (vI c2), some (vI x3), some (vI (x4 + (1 : Int32)))]) (And.intro rfl (And.intro rfl (And.intro rfl (And.intro rfl (And.intro rfl trivial))))) ?_
            exact k1 (x3, x4 + (1 : Int32)) (am_inj hf).symm
          · have hf := (am_if hf).1 hc
            refine r_aload_n (x := (11, n0, 0)) dX3_lastNext_54 rfl ?_
            refine e_getr (z := some (13, n0, 0)) fw_X3_22 dX3_lastNext_55 (kC_mem (s := 11) (by decide) hn0 (by decide)) rfl (lt_b rfl) rfl ?_
            refine r_iload (x := x4) dX3_lastNext_58 rfl ?_
            refine e_iald (n := x4.toNatClampNeg) dX3_lastNext_60 (kC_mem (s := 13) (by decide) hn0 (by decide)) rfl h1 rfl rfl ?_
            refine r_istore_n (L' := [some (vR (11, n0, 0)), some (vI c1), some (vI c2), some (vI (u.1 (13, n0, 0) x4.toNatClampNeg)), some (vI x4)]) dX3_lastNext_61 (by decide) rfl ?_
            refine r_iinc (x := x4) (v := x4 + (1 : Int32)) (L' := [some (vR (11, n0, 0)), some (vI c1), some (vI c2), some (vI (u.1 (13, n0, 0) x4.toNatClampNeg)), some (vI (x4 + (1 : Int32)))]) dX3_lastNext_62 rfl rfl (lt_b rfl) rfl ?_
            refine r_goto (tgt := 5) dX3_lastNext_65 (by decide) ?_
            refine r_weak (L' := [some (vR (11, n0, 0)), some (vI c1), some (vI c2), some (vI (u.1 (13, n0, 0) x4.toNatClampNeg)), some (vI (x4 + (1 : Int32)))]) (And.intro rfl (And.intro rfl (And.intro rfl (And.intro rfl (And.intro rfl trivial))))) ?_
            exact k1 (u.1 (13, n0, 0) x4.toNatClampNeg, x4 + (1 : Int32)) (am_inj hf).symm
def f_X3_lastNext (v : Nat) (a0 : Int32) (a1 : Int32) (u : PM) : Option (Int32) :=
  (am_loop (f_X3_lastNext_L5 v a0 a1 u) 2000 ((0 : Int32), (0 : Int32))).bind fun y4 =>
  some y4
set_option maxHeartbeats 4000000 in
set_option maxRecDepth 20000 in
theorem C_X3_lastNext {l : Launch} {v : Nat} (hv : v < 5) {a0 : Int32} {a1 : Int32} {u : PM} {x : Int32} (hf : f_X3_lastNext v a0 a1 u = some x) : Ev l mX3_lastNext 1 0 0 false [vR (11, v, 0), vI a0, vI a1] kC (en u) (some (vI x), kC, en u) := by
  refine Ev_of (by decide +kernel) (le_b rfl) ?_
  unfold f_X3_lastNext at hf
  show X l mX3_lastNext 1 0 0 false _ kC 0 0 0 [some (vR (11, v, 0)), some (vI a0), some (vI a1), none, none] [] (en u)
  refine r_iconst (v := 0) dX3_lastNext_0 rfl ?_
  refine r_istore_n (L' := [some (vR (11, v, 0)), some (vI a0), some (vI a1), some (vI (0 : Int32)), none]) dX3_lastNext_1 (by decide) rfl ?_
  refine r_iconst (v := 0) dX3_lastNext_2 rfl ?_
  refine r_istore (L' := [some (vR (11, v, 0)), some (vI a0), some (vI a1), some (vI (0 : Int32)), some (vI (0 : Int32))]) dX3_lastNext_3 (by decide) rfl ?_
  refine r_weak (L' := [some (vR (11, v, 0)), some (vI a0), some (vI a1), some (vI (0 : Int32)), some (vI (0 : Int32))]) (And.intro rfl (And.intro rfl (And.intro rfl (And.intro rfl (And.intro rfl trivial))))) ?_
  obtain ⟨e2, he3, hf⟩ := am_bind hf
  refine K_X3_lastNext_L5 hv 2000 ((0 : Int32), (0 : Int32)) _ he3 ?_
  obtain ⟨y4, rfl⟩ : ∃ z, z = e2 := ⟨_, rfl⟩
  show X l _ _ 0 0 false _ kC 0 0 68 [none, none, none, some (vI y4), none] [] (en u)
  refine r_iload_n (x := y4) dX3_lastNext_68 rfl ?_
  have hx := am_inj hf
  subst hx
  exact r_iret dX3_lastNext_69 rfl rfl (le_b rfl) (le_b rfl)
/-! FireFromFire$Land.holds -/
theorem dX3_holds_0 : decode cX3_holds 0 = .ok (.iload_n 1, 1) := by decide +kernel
theorem dX3_holds_1 : decode cX3_holds 1 = .ok (.ifCond .lt 9, 3) := by decide +kernel
theorem dX3_holds_4 : decode cX3_holds 4 = .ok (.iload_n 1, 1) := by decide +kernel
theorem dX3_holds_5 : decode cX3_holds 5 = .ok (.bipush 10, 2) := by decide +kernel
theorem dX3_holds_7 : decode cX3_holds 7 = .ok (.if_icmp .lt 5, 3) := by decide +kernel
theorem dX3_holds_10 : decode cX3_holds 10 = .ok (.iconst 0, 1) := by decide +kernel
theorem dX3_holds_11 : decode cX3_holds 11 = .ok (.ireturn, 1) := by decide +kernel
theorem dX3_holds_12 : decode cX3_holds 12 = .ok (.iconst 0, 1) := by decide +kernel
theorem dX3_holds_13 : decode cX3_holds 13 = .ok (.istore_n 3, 1) := by decide +kernel
theorem dX3_holds_14 : decode cX3_holds 14 = .ok (.iconst 0, 1) := by decide +kernel
theorem dX3_holds_15 : decode cX3_holds 15 = .ok (.aload_n 0, 1) := by decide +kernel
theorem dX3_holds_16 : decode cX3_holds 16 = .ok (.getfield 25, 3) := by decide +kernel
theorem dX3_holds_19 : decode cX3_holds 19 = .ok (.iload_n 1, 1) := by decide +kernel
theorem dX3_holds_20 : decode cX3_holds 20 = .ok (.iaload, 1) := by decide +kernel
theorem dX3_holds_21 : decode cX3_holds 21 = .ok (.invokestatic 40, 3) := by decide +kernel
theorem dX3_holds_24 : decode cX3_holds 24 = .ok (.istore 4, 2) := by decide +kernel
theorem dX3_holds_26 : decode cX3_holds 26 = .ok (.iload 4, 2) := by decide +kernel
theorem dX3_holds_28 : decode cX3_holds 28 = .ok (.aload_n 0, 1) := by decide +kernel
theorem dX3_holds_29 : decode cX3_holds 29 = .ok (.getfield 28, 3) := by decide +kernel
theorem dX3_holds_32 : decode cX3_holds 32 = .ok (.iload_n 1, 1) := by decide +kernel
theorem dX3_holds_33 : decode cX3_holds 33 = .ok (.iaload, 1) := by decide +kernel
theorem dX3_holds_34 : decode cX3_holds 34 = .ok (.if_icmp .ge 219, 3) := by decide +kernel
theorem dX3_holds_37 : decode cX3_holds 37 = .ok (.iload 4, 2) := by decide +kernel
theorem dX3_holds_39 : decode cX3_holds 39 = .ok (.bipush 100, 2) := by decide +kernel
theorem dX3_holds_41 : decode cX3_holds 41 = .ok (.if_icmp .ge 212, 3) := by decide +kernel
theorem dX3_holds_44 : decode cX3_holds 44 = .ok (.iload_n 3, 1) := by decide +kernel
theorem dX3_holds_45 : decode cX3_holds 45 = .ok (.iconst 1, 1) := by decide +kernel
theorem dX3_holds_46 : decode cX3_holds 46 = .ok (.iand, 1) := by decide +kernel
theorem dX3_holds_47 : decode cX3_holds 47 = .ok (.istore 5, 2) := by decide +kernel
theorem dX3_holds_49 : decode cX3_holds 49 = .ok (.aload_n 0, 1) := by decide +kernel
theorem dX3_holds_50 : decode cX3_holds 50 = .ok (.getfield 31, 3) := by decide +kernel
theorem dX3_holds_53 : decode cX3_holds 53 = .ok (.iload 4, 2) := by decide +kernel
theorem dX3_holds_55 : decode cX3_holds 55 = .ok (.iaload, 1) := by decide +kernel
theorem dX3_holds_56 : decode cX3_holds 56 = .ok (.bipush 6, 2) := by decide +kernel
theorem dX3_holds_58 : decode cX3_holds 58 = .ok (.if_icmp .ne 10, 3) := by decide +kernel
theorem dX3_holds_61 : decode cX3_holds 61 = .ok (.iload_n 3, 1) := by decide +kernel
theorem dX3_holds_62 : decode cX3_holds 62 = .ok (.iconst 1, 1) := by decide +kernel
theorem dX3_holds_63 : decode cX3_holds 63 = .ok (.ixor, 1) := by decide +kernel
theorem dX3_holds_64 : decode cX3_holds 64 = .ok (.istore_n 3, 1) := by decide +kernel
theorem dX3_holds_65 : decode cX3_holds 65 = .ok (.goto 182, 3) := by decide +kernel
theorem dX3_holds_68 : decode cX3_holds 68 = .ok (.aload_n 0, 1) := by decide +kernel
theorem dX3_holds_69 : decode cX3_holds 69 = .ok (.getfield 31, 3) := by decide +kernel
theorem dX3_holds_72 : decode cX3_holds 72 = .ok (.iload 4, 2) := by decide +kernel
theorem dX3_holds_74 : decode cX3_holds 74 = .ok (.iaload, 1) := by decide +kernel
theorem dX3_holds_75 : decode cX3_holds 75 = .ok (.bipush 7, 2) := by decide +kernel
theorem dX3_holds_77 : decode cX3_holds 77 = .ok (.if_icmp .ne 16, 3) := by decide +kernel
theorem dX3_holds_80 : decode cX3_holds 80 = .ok (.iload_n 3, 1) := by decide +kernel
theorem dX3_holds_81 : decode cX3_holds 81 = .ok (.iconst 1, 1) := by decide +kernel
theorem dX3_holds_82 : decode cX3_holds 82 = .ok (.ishr, 1) := by decide +kernel
theorem dX3_holds_83 : decode cX3_holds 83 = .ok (.iload 5, 2) := by decide +kernel
theorem dX3_holds_85 : decode cX3_holds 85 = .ok (.bipush (-2), 2) := by decide +kernel
theorem dX3_holds_87 : decode cX3_holds 87 = .ok (.ior, 1) := by decide +kernel
theorem dX3_holds_88 : decode cX3_holds 88 = .ok (.iand, 1) := by decide +kernel
theorem dX3_holds_89 : decode cX3_holds 89 = .ok (.istore_n 3, 1) := by decide +kernel
theorem dX3_holds_90 : decode cX3_holds 90 = .ok (.goto 157, 3) := by decide +kernel
theorem dX3_holds_93 : decode cX3_holds 93 = .ok (.aload_n 0, 1) := by decide +kernel
theorem dX3_holds_94 : decode cX3_holds 94 = .ok (.getfield 31, 3) := by decide +kernel
theorem dX3_holds_97 : decode cX3_holds 97 = .ok (.iload 4, 2) := by decide +kernel
theorem dX3_holds_99 : decode cX3_holds 99 = .ok (.iaload, 1) := by decide +kernel
theorem dX3_holds_100 : decode cX3_holds 100 = .ok (.bipush 8, 2) := by decide +kernel
theorem dX3_holds_102 : decode cX3_holds 102 = .ok (.if_icmp .ne 13, 3) := by decide +kernel
theorem dX3_holds_105 : decode cX3_holds 105 = .ok (.iload_n 3, 1) := by decide +kernel
theorem dX3_holds_106 : decode cX3_holds 106 = .ok (.iconst 1, 1) := by decide +kernel
theorem dX3_holds_107 : decode cX3_holds 107 = .ok (.ishr, 1) := by decide +kernel
theorem dX3_holds_108 : decode cX3_holds 108 = .ok (.iload 5, 2) := by decide +kernel
theorem dX3_holds_110 : decode cX3_holds 110 = .ok (.ior, 1) := by decide +kernel
theorem dX3_holds_111 : decode cX3_holds 111 = .ok (.istore_n 3, 1) := by decide +kernel
theorem dX3_holds_112 : decode cX3_holds 112 = .ok (.goto 135, 3) := by decide +kernel
theorem dX3_holds_115 : decode cX3_holds 115 = .ok (.aload_n 0, 1) := by decide +kernel
theorem dX3_holds_116 : decode cX3_holds 116 = .ok (.getfield 31, 3) := by decide +kernel
theorem dX3_holds_119 : decode cX3_holds 119 = .ok (.iload 4, 2) := by decide +kernel
theorem dX3_holds_121 : decode cX3_holds 121 = .ok (.iaload, 1) := by decide +kernel
theorem dX3_holds_122 : decode cX3_holds 122 = .ok (.ifCond .lt 125, 3) := by decide +kernel
theorem dX3_holds_125 : decode cX3_holds 125 = .ok (.aload_n 0, 1) := by decide +kernel
theorem dX3_holds_126 : decode cX3_holds 126 = .ok (.getfield 31, 3) := by decide +kernel
theorem dX3_holds_129 : decode cX3_holds 129 = .ok (.iload 4, 2) := by decide +kernel
theorem dX3_holds_131 : decode cX3_holds 131 = .ok (.iaload, 1) := by decide +kernel
theorem dX3_holds_132 : decode cX3_holds 132 = .ok (.bipush 6, 2) := by decide +kernel
theorem dX3_holds_134 : decode cX3_holds 134 = .ok (.if_icmp .ge 113, 3) := by decide +kernel
theorem dX3_holds_137 : decode cX3_holds 137 = .ok (.aload_n 0, 1) := by decide +kernel
theorem dX3_holds_138 : decode cX3_holds 138 = .ok (.getfield 31, 3) := by decide +kernel
theorem dX3_holds_141 : decode cX3_holds 141 = .ok (.iload 4, 2) := by decide +kernel
theorem dX3_holds_143 : decode cX3_holds 143 = .ok (.iaload, 1) := by decide +kernel
theorem dX3_holds_144 : decode cX3_holds 144 = .ok (.aload_n 2, 1) := by decide +kernel
theorem dX3_holds_145 : decode cX3_holds 145 = .ok (.arraylength, 1) := by decide +kernel
theorem dX3_holds_146 : decode cX3_holds 146 = .ok (.if_icmp .ge 101, 3) := by decide +kernel
theorem dX3_holds_149 : decode cX3_holds 149 = .ok (.aload_n 2, 1) := by decide +kernel
theorem dX3_holds_150 : decode cX3_holds 150 = .ok (.aload_n 0, 1) := by decide +kernel
theorem dX3_holds_151 : decode cX3_holds 151 = .ok (.getfield 31, 3) := by decide +kernel
theorem dX3_holds_154 : decode cX3_holds 154 = .ok (.iload 4, 2) := by decide +kernel
theorem dX3_holds_156 : decode cX3_holds 156 = .ok (.iaload, 1) := by decide +kernel
theorem dX3_holds_157 : decode cX3_holds 157 = .ok (.iaload, 1) := by decide +kernel
theorem dX3_holds_158 : decode cX3_holds 158 = .ok (.aload_n 0, 1) := by decide +kernel
theorem dX3_holds_159 : decode cX3_holds 159 = .ok (.getfield 37, 3) := by decide +kernel
theorem dX3_holds_162 : decode cX3_holds 162 = .ok (.iload 4, 2) := by decide +kernel
theorem dX3_holds_164 : decode cX3_holds 164 = .ok (.iaload, 1) := by decide +kernel
theorem dX3_holds_165 : decode cX3_holds 165 = .ok (.invokestatic 46, 3) := by decide +kernel
theorem dX3_holds_168 : decode cX3_holds 168 = .ok (.istore 6, 2) := by decide +kernel
theorem dX3_holds_170 : decode cX3_holds 170 = .ok (.aload_n 0, 1) := by decide +kernel
theorem dX3_holds_171 : decode cX3_holds 171 = .ok (.getfield 34, 3) := by decide +kernel
theorem dX3_holds_174 : decode cX3_holds 174 = .ok (.iload 4, 2) := by decide +kernel
theorem dX3_holds_176 : decode cX3_holds 176 = .ok (.iaload, 1) := by decide +kernel
theorem dX3_holds_177 : decode cX3_holds 177 = .ok (.bipush 60, 2) := by decide +kernel
theorem dX3_holds_179 : decode cX3_holds 179 = .ok (.if_icmp .ne 16, 3) := by decide +kernel
theorem dX3_holds_182 : decode cX3_holds 182 = .ok (.iload 6, 2) := by decide +kernel
theorem dX3_holds_184 : decode cX3_holds 184 = .ok (.ifCond .ge 7, 3) := by decide +kernel
theorem dX3_holds_187 : decode cX3_holds 187 = .ok (.iconst 1, 1) := by decide +kernel
theorem dX3_holds_188 : decode cX3_holds 188 = .ok (.goto 42, 3) := by decide +kernel
theorem dX3_holds_191 : decode cX3_holds 191 = .ok (.iconst 0, 1) := by decide +kernel
theorem dX3_holds_192 : decode cX3_holds 192 = .ok (.goto 38, 3) := by decide +kernel
theorem dX3_holds_195 : decode cX3_holds 195 = .ok (.aload_n 0, 1) := by decide +kernel
theorem dX3_holds_196 : decode cX3_holds 196 = .ok (.getfield 34, 3) := by decide +kernel
theorem dX3_holds_199 : decode cX3_holds 199 = .ok (.iload 4, 2) := by decide +kernel
theorem dX3_holds_201 : decode cX3_holds 201 = .ok (.iaload, 1) := by decide +kernel
theorem dX3_holds_202 : decode cX3_holds 202 = .ok (.bipush 62, 2) := by decide +kernel
theorem dX3_holds_204 : decode cX3_holds 204 = .ok (.if_icmp .ne 16, 3) := by decide +kernel
theorem dX3_holds_207 : decode cX3_holds 207 = .ok (.iload 6, 2) := by decide +kernel
theorem dX3_holds_209 : decode cX3_holds 209 = .ok (.ifCond .le 7, 3) := by decide +kernel
theorem dX3_holds_212 : decode cX3_holds 212 = .ok (.iconst 1, 1) := by decide +kernel
theorem dX3_holds_213 : decode cX3_holds 213 = .ok (.goto 17, 3) := by decide +kernel
theorem dX3_holds_216 : decode cX3_holds 216 = .ok (.iconst 0, 1) := by decide +kernel
theorem dX3_holds_217 : decode cX3_holds 217 = .ok (.goto 13, 3) := by decide +kernel
theorem dX3_holds_220 : decode cX3_holds 220 = .ok (.iload 6, 2) := by decide +kernel
theorem dX3_holds_222 : decode cX3_holds 222 = .ok (.ifCond .ne 7, 3) := by decide +kernel
theorem dX3_holds_225 : decode cX3_holds 225 = .ok (.iconst 1, 1) := by decide +kernel
theorem dX3_holds_226 : decode cX3_holds 226 = .ok (.goto 4, 3) := by decide +kernel
theorem dX3_holds_229 : decode cX3_holds 229 = .ok (.iconst 0, 1) := by decide +kernel
theorem dX3_holds_230 : decode cX3_holds 230 = .ok (.istore 7, 2) := by decide +kernel
theorem dX3_holds_232 : decode cX3_holds 232 = .ok (.iload_n 3, 1) := by decide +kernel
theorem dX3_holds_233 : decode cX3_holds 233 = .ok (.iconst 1, 1) := by decide +kernel
theorem dX3_holds_234 : decode cX3_holds 234 = .ok (.ishl, 1) := by decide +kernel
theorem dX3_holds_235 : decode cX3_holds 235 = .ok (.iload 7, 2) := by decide +kernel
theorem dX3_holds_237 : decode cX3_holds 237 = .ok (.ifCond .eq 7, 3) := by decide +kernel
theorem dX3_holds_240 : decode cX3_holds 240 = .ok (.iconst 1, 1) := by decide +kernel
theorem dX3_holds_241 : decode cX3_holds 241 = .ok (.goto 4, 3) := by decide +kernel
theorem dX3_holds_244 : decode cX3_holds 244 = .ok (.iconst 0, 1) := by decide +kernel
theorem dX3_holds_245 : decode cX3_holds 245 = .ok (.ior, 1) := by decide +kernel
theorem dX3_holds_246 : decode cX3_holds 246 = .ok (.istore_n 3, 1) := by decide +kernel
theorem dX3_holds_247 : decode cX3_holds 247 = .ok (.iinc 4 1, 3) := by decide +kernel
theorem dX3_holds_250 : decode cX3_holds 250 = .ok (.goto (-224), 3) := by decide +kernel
theorem dX3_holds_253 : decode cX3_holds 253 = .ok (.iload_n 3, 1) := by decide +kernel
theorem dX3_holds_254 : decode cX3_holds 254 = .ok (.iconst 1, 1) := by decide +kernel
theorem dX3_holds_255 : decode cX3_holds 255 = .ok (.iand, 1) := by decide +kernel
theorem dX3_holds_256 : decode cX3_holds 256 = .ok (.ifCond .eq 7, 3) := by decide +kernel
theorem dX3_holds_259 : decode cX3_holds 259 = .ok (.iconst 1, 1) := by decide +kernel
theorem dX3_holds_260 : decode cX3_holds 260 = .ok (.goto 4, 3) := by decide +kernel
theorem dX3_holds_263 : decode cX3_holds 263 = .ok (.iconst 0, 1) := by decide +kernel
theorem dX3_holds_264 : decode cX3_holds 264 = .ok (.ireturn, 1) := by decide +kernel
def f_X3_holds_L26 (n0 : Nat) (n1 : Nat) (c1 : Int32) (u : PM) : Int32 × Int32 → Option ((Int32 × Int32) ⊕ (Int32)) := fun (x3 , x4) =>
  if c1 < 0 ∨ 10 ≤ c1.toNatClampNeg then none else
  if (u.1 (15, n0, 0) c1.toNatClampNeg) ≤ x4 then
    some (.inr (x3))
  else
  if (100 : Int32) ≤ x4 then
    some (.inr (x3))
  else
  if x4 < 0 ∨ 100 ≤ x4.toNatClampNeg then none else
  if (u.1 (16, n0, 0) x4.toNatClampNeg) = (6 : Int32) then
    some (.inl (x3 ^^^ (1 : Int32), x4 + (1 : Int32)))
  else
  if (u.1 (16, n0, 0) x4.toNatClampNeg) = (7 : Int32) then
    some (.inl ((x3 >>> ((1 : Int32) &&& 31)) &&& ((x3 &&& (1 : Int32)) ||| (-2 : Int32)), x4 + (1 : Int32)))
  else
  if (u.1 (16, n0, 0) x4.toNatClampNeg) = (8 : Int32) then
    some (.inl ((x3 >>> ((1 : Int32) &&& 31)) ||| (x3 &&& (1 : Int32)), x4 + (1 : Int32)))
  else
  if (u.1 (16, n0, 0) x4.toNatClampNeg) < 0 then
    some (.inl (x3, x4 + (1 : Int32)))
  else
  if (6 : Int32) ≤ (u.1 (16, n0, 0) x4.toNatClampNeg) then
    some (.inl (x3, x4 + (1 : Int32)))
  else
  if (6 : Int32) ≤ (u.1 (16, n0, 0) x4.toNatClampNeg) then
    some (.inl (x3, x4 + (1 : Int32)))
  else
  if (u.1 (16, n0, 0) x4.toNatClampNeg) < 0 ∨ 6 ≤ (u.1 (16, n0, 0) x4.toNatClampNeg).toNatClampNeg then none else
  (f_J6_compare_7cf53 (u.1 (8, n1, 0) ((u.1 (16, n0, 0) x4.toNatClampNeg).toNatClampNeg)) (u.1 (18, n0, 0) x4.toNatClampNeg) u).bind fun r5 =>
  if (u.1 (17, n0, 0) x4.toNatClampNeg) = (60 : Int32) then
    if 0 ≤ r5 then
      some (.inl ((x3 <<< ((1 : Int32) &&& 31)) ||| (0 : Int32), x4 + (1 : Int32)))
    else
    some (.inl ((x3 <<< ((1 : Int32) &&& 31)) ||| (1 : Int32), x4 + (1 : Int32)))
  else
  if (u.1 (17, n0, 0) x4.toNatClampNeg) = (62 : Int32) then
    if r5 ≤ 0 then
      some (.inl ((x3 <<< ((1 : Int32) &&& 31)) ||| (0 : Int32), x4 + (1 : Int32)))
    else
    some (.inl ((x3 <<< ((1 : Int32) &&& 31)) ||| (1 : Int32), x4 + (1 : Int32)))
  else
  if r5 = 0 then
    some (.inl ((x3 <<< ((1 : Int32) &&& 31)) ||| (1 : Int32), x4 + (1 : Int32)))
  else
  some (.inl ((x3 <<< ((1 : Int32) &&& 31)) ||| (0 : Int32), x4 + (1 : Int32)))
set_option maxHeartbeats 4000000 in
set_option maxRecDepth 20000 in
theorem K_X3_holds_L26 {l : Launch} {T : Option AV × List Key × AM} {n0 : Nat} (hn0 : n0 < 5) {n1 : Nat} (hn1 : n1 < 4) {c1 : Int32} {u : PM} : ∀ (n : Nat) (s : Int32 × Int32) (e0 : Int32), am_loop (f_X3_holds_L26 n0 n1 c1 u) n s = some e0 → (fun e : Int32 => X l mX3_holds 2 0 0 false T kC 0 0 253 [none, none, none, some (vI e), none, none, none, none] [] (en u)) e0 → X l mX3_holds 2 0 0 false T kC 0 0 26 [some (vR (11, n0, 0)), some (vI c1), some (vR (8, n1, 0)), some (vI s.1), some (vI s.2), none, none, none] [] (en u) := by
  refine am_loop_of ?_
  intro s x hf k1 k2
  obtain ⟨x3 , x4⟩ := s
  unfold f_X3_holds_L26 at hf
  show X l mX3_holds 2 0 0 false T kC 0 0 26 [some (vR (11, n0, 0)), some (vI c1), some (vR (8, n1, 0)), some (vI x3), some (vI x4), none, none, none] [] (en u)
  refine r_iload (x := x4) dX3_holds_26 rfl ?_
  refine r_aload_n (x := (11, n0, 0)) dX3_holds_28 rfl ?_
  refine e_getr (z := some (15, n0, 0)) fw_X3_28 dX3_holds_29 (kC_mem (s := 11) (by decide) hn0 (by decide)) rfl (lt_b rfl) rfl ?_
  refine r_iload_n (x := c1) dX3_holds_32 rfl ?_
  obtain ⟨h2, hf⟩ := am_nchk hf
  refine e_iald (n := c1.toNatClampNeg) dX3_holds_33 (kC_mem (s := 15) (by decide) hn0 (by decide)) rfl h2 rfl rfl ?_
  refine r_icmp_ge (tgt := 253) dX3_holds_34 (by decide) (fun hc => ?_) (fun hc => ?_)
  · have hf := (am_if hf).1 hc
    refine r_weak (L' := [none, none, none, some (vI x3), none, none, none, none]) (And.intro rfl trivial) ?_
    exact k2 (x3) (am_inj hf).symm
  · have hf := (am_if hf).2 hc
    refine r_iload (x := x4) dX3_holds_37 rfl ?_
    refine r_bipush (v := 100) dX3_holds_39 rfl ?_
    refine r_icmp_ge (tgt := 253) dX3_holds_41 (by decide) (fun hc => ?_) (fun hc => ?_)
    · have hf := (am_if hf).1 hc
      refine r_weak (L' := [none, none, none, some (vI x3), none, none, none, none]) (And.intro rfl trivial) ?_
      exact k2 (x3) (am_inj hf).symm
    · have hf := (am_if hf).2 hc
      refine r_iload_n (x := x3) dX3_holds_44 rfl ?_
      refine r_iconst (v := 1) dX3_holds_45 rfl ?_
      refine r_iand dX3_holds_46 ?_
      refine r_istore (L' := [some (vR (11, n0, 0)), some (vI c1), some (vR (8, n1, 0)), some (vI x3), some (vI x4), some (vI (x3 &&& (1 : Int32))), none, none]) dX3_holds_47 (by decide) rfl ?_
      refine r_aload_n (x := (11, n0, 0)) dX3_holds_49 rfl ?_
      refine e_getr (z := some (16, n0, 0)) fw_X3_31 dX3_holds_50 (kC_mem (s := 11) (by decide) hn0 (by decide)) rfl (lt_b rfl) rfl ?_
      refine r_iload (x := x4) dX3_holds_53 rfl ?_
      obtain ⟨h3, hf⟩ := am_nchk hf
      refine e_iald (n := x4.toNatClampNeg) dX3_holds_55 (kC_mem (s := 16) (by decide) hn0 (by decide)) rfl h3 rfl rfl ?_
      refine r_bipush (v := 6) dX3_holds_56 rfl ?_
      refine r_icmp_ne (tgt := 68) dX3_holds_58 (by decide) (fun hc => ?_) (fun hc => ?_)
      · have hf := (am_if hf).2 hc
        refine r_aload_n (x := (11, n0, 0)) dX3_holds_68 rfl ?_
        refine e_getr (z := some (16, n0, 0)) fw_X3_31 dX3_holds_69 (kC_mem (s := 11) (by decide) hn0 (by decide)) rfl (lt_b rfl) rfl ?_
        refine r_iload (x := x4) dX3_holds_72 rfl ?_
        refine e_iald (n := x4.toNatClampNeg) dX3_holds_74 (kC_mem (s := 16) (by decide) hn0 (by decide)) rfl h3 rfl rfl ?_
        refine r_bipush (v := 7) dX3_holds_75 rfl ?_
        refine r_icmp_ne (tgt := 93) dX3_holds_77 (by decide) (fun hc => ?_) (fun hc => ?_)
        · have hf := (am_if hf).2 hc
          refine r_aload_n (x := (11, n0, 0)) dX3_holds_93 rfl ?_
          refine e_getr (z := some (16, n0, 0)) fw_X3_31 dX3_holds_94 (kC_mem (s := 11) (by decide) hn0 (by decide)) rfl (lt_b rfl) rfl ?_
          refine r_iload (x := x4) dX3_holds_97 rfl ?_
          refine e_iald (n := x4.toNatClampNeg) dX3_holds_99 (kC_mem (s := 16) (by decide) hn0 (by decide)) rfl h3 rfl rfl ?_
          refine r_bipush (v := 8) dX3_holds_100 rfl ?_
          refine r_icmp_ne (tgt := 115) dX3_holds_102 (by decide) (fun hc => ?_) (fun hc => ?_)
          · have hf := (am_if hf).2 hc
            refine r_aload_n (x := (11, n0, 0)) dX3_holds_115 rfl ?_
            refine e_getr (z := some (16, n0, 0)) fw_X3_31 dX3_holds_116 (kC_mem (s := 11) (by decide) hn0 (by decide)) rfl (lt_b rfl) rfl ?_
            refine r_iload (x := x4) dX3_holds_119 rfl ?_
            refine e_iald (n := x4.toNatClampNeg) dX3_holds_121 (kC_mem (s := 16) (by decide) hn0 (by decide)) rfl h3 rfl rfl ?_
            refine r_if_lt (tgt := 247) dX3_holds_122 (by decide) (fun hc => ?_) (fun hc => ?_)
            · have hf := (am_if hf).1 hc
              refine r_iinc (x := x4) (v := x4 + (1 : Int32)) (L' := [some (vR (11, n0, 0)), some (vI c1), some (vR (8, n1, 0)), some (vI x3), some (vI (x4 + (1 : Int32))), some (vI (x3 &&& (1 : Int32))), none, none]) dX3_holds_247 rfl rfl (lt_b rfl) rfl ?_
              refine r_goto (tgt := 26) dX3_holds_250 (by decide) ?_
              refine r_weak (L' := [some (vR (11, n0, 0)), some (vI c1), some (vR (8, n1, 0)), some (vI x3), some (vI (x4 + (1 : Int32))), none, none, none]) (And.intro rfl (And.intro rfl (And.intro rfl (And.intro rfl (And.intro rfl trivial))))) ?_
              exact k1 (x3, x4 + (1 : Int32)) (am_inj hf).symm
            · have hf := (am_if hf).2 hc
              refine r_aload_n (x := (11, n0, 0)) dX3_holds_125 rfl ?_
              refine e_getr (z := some (16, n0, 0)) fw_X3_31 dX3_holds_126 (kC_mem (s := 11) (by decide) hn0 (by decide)) rfl (lt_b rfl) rfl ?_
              refine r_iload (x := x4) dX3_holds_129 rfl ?_
              refine e_iald (n := x4.toNatClampNeg) dX3_holds_131 (kC_mem (s := 16) (by decide) hn0 (by decide)) rfl h3 rfl rfl ?_
              refine r_bipush (v := 6) dX3_holds_132 rfl ?_
              refine r_icmp_ge (tgt := 247) dX3_holds_134 (by decide) (fun hc => ?_) (fun hc => ?_)
              · have hf := (am_if hf).1 hc
                refine r_iinc (x := x4) (v := x4 + (1 : Int32)) (L' := [some (vR (11, n0, 0)), some (vI c1), some (vR (8, n1, 0)), some (vI x3), some (vI (x4 + (1 : Int32))), some (vI (x3 &&& (1 : Int32))), none, none]) dX3_holds_247 rfl rfl (lt_b rfl) rfl ?_
                refine r_goto (tgt := 26) dX3_holds_250 (by decide) ?_
                refine r_weak (L' := [some (vR (11, n0, 0)), some (vI c1), some (vR (8, n1, 0)), some (vI x3), some (vI (x4 + (1 : Int32))), none, none, none]) (And.intro rfl (And.intro rfl (And.intro rfl (And.intro rfl (And.intro rfl trivial))))) ?_
                exact k1 (x3, x4 + (1 : Int32)) (am_inj hf).symm
              · have hf := (am_if hf).2 hc
                refine r_aload_n (x := (11, n0, 0)) dX3_holds_137 rfl ?_
                refine e_getr (z := some (16, n0, 0)) fw_X3_31 dX3_holds_138 (kC_mem (s := 11) (by decide) hn0 (by decide)) rfl (lt_b rfl) rfl ?_
                refine r_iload (x := x4) dX3_holds_141 rfl ?_
                refine e_iald (n := x4.toNatClampNeg) dX3_holds_143 (kC_mem (s := 16) (by decide) hn0 (by decide)) rfl h3 rfl rfl ?_
                refine r_aload_n (x := (8, n1, 0)) dX3_holds_144 rfl ?_
                refine r_alen (v := 6) dX3_holds_145 (kC_mem (s := 8) (by decide) hn1 (by decide)) rfl rfl ?_
                refine r_icmp_ge (tgt := 247) dX3_holds_146 (by decide) (fun hc => ?_) (fun hc => ?_)
                · have hf := (am_if hf).1 hc
                  refine r_iinc (x := x4) (v := x4 + (1 : Int32)) (L' := [some (vR (11, n0, 0)), some (vI c1), some (vR (8, n1, 0)), some (vI x3), some (vI (x4 + (1 : Int32))), some (vI (x3 &&& (1 : Int32))), none, none]) dX3_holds_247 rfl rfl (lt_b rfl) rfl ?_
                  refine r_goto (tgt := 26) dX3_holds_250 (by decide) ?_
                  refine r_weak (L' := [some (vR (11, n0, 0)), some (vI c1), some (vR (8, n1, 0)), some (vI x3), some (vI (x4 + (1 : Int32))), none, none, none]) (And.intro rfl (And.intro rfl (And.intro rfl (And.intro rfl (And.intro rfl trivial))))) ?_
                  exact k1 (x3, x4 + (1 : Int32)) (am_inj hf).symm
                · have hf := (am_if hf).2 hc
                  refine r_aload_n (x := (8, n1, 0)) dX3_holds_149 rfl ?_
                  refine r_aload_n (x := (11, n0, 0)) dX3_holds_150 rfl ?_
                  refine e_getr (z := some (16, n0, 0)) fw_X3_31 dX3_holds_151 (kC_mem (s := 11) (by decide) hn0 (by decide)) rfl (lt_b rfl) rfl ?_
                  refine r_iload (x := x4) dX3_holds_154 rfl ?_
                  refine e_iald (n := x4.toNatClampNeg) dX3_holds_156 (kC_mem (s := 16) (by decide) hn0 (by decide)) rfl h3 rfl rfl ?_
                  obtain ⟨h4, hf⟩ := am_nchk hf
                  refine e_iald (n := (u.1 (16, n0, 0) x4.toNatClampNeg).toNatClampNeg) dX3_holds_157 (kC_mem (s := 8) (by decide) hn1 (by decide)) rfl h4 rfl rfl ?_
                  refine r_aload_n (x := (11, n0, 0)) dX3_holds_158 rfl ?_
                  refine e_getr (z := some (18, n0, 0)) fw_X3_37 dX3_holds_159 (kC_mem (s := 11) (by decide) hn0 (by decide)) rfl (lt_b rfl) rfl ?_
                  refine r_iload (x := x4) dX3_holds_162 rfl ?_
                  refine e_iald (n := x4.toNatClampNeg) dX3_holds_164 (kC_mem (s := 18) (by decide) hn0 (by decide)) rfl h3 rfl rfl ?_
                  obtain ⟨r5, hr6, hf⟩ := am_bind hf
                  refine r_callS (as := [vI (u.1 (8, n1, 0) ((u.1 (16, n0, 0) x4.toNatClampNeg).toNatClampNeg)), vI (u.1 (18, n0, 0) x4.toNatClampNeg)]) (st := []) (n := 2) mw_X3_46 ms_J6_compare_7cf53 (C_J6_compare_7cf53 (l := l) hr6) (le_b rfl) dX3_holds_165 rfl (le_b rfl) (le_b rfl) (le_b rfl) ?_
                  show X l _ _ 0 0 false _ kC 0 0 168 [some (vR (11, n0, 0)), some (vI c1), some (vR (8, n1, 0)), some (vI x3), some (vI x4), some (vI (x3 &&& (1 : Int32))), none, none] [vI r5] (en u)
                  refine r_istore (L' := [some (vR (11, n0, 0)), some (vI c1), some (vR (8, n1, 0)), some (vI x3), some (vI x4), some (vI (x3 &&& (1 : Int32))), some (vI r5), none]) dX3_holds_168 (by decide) rfl ?_
                  refine r_aload_n (x := (11, n0, 0)) dX3_holds_170 rfl ?_
                  refine e_getr (z := some (17, n0, 0)) fw_X3_34 dX3_holds_171 (kC_mem (s := 11) (by decide) hn0 (by decide)) rfl (lt_b rfl) rfl ?_
                  refine r_iload (x := x4) dX3_holds_174 rfl ?_
                  refine e_iald (n := x4.toNatClampNeg) dX3_holds_176 (kC_mem (s := 17) (by decide) hn0 (by decide)) rfl h3 rfl rfl ?_
                  refine r_bipush (v := 60) dX3_holds_177 rfl ?_
                  refine r_icmp_ne (tgt := 195) dX3_holds_179 (by decide) (fun hc => ?_) (fun hc => ?_)
                  · have hf := (am_if hf).2 hc
                    refine r_aload_n (x := (11, n0, 0)) dX3_holds_195 rfl ?_
                    refine e_getr (z := some (17, n0, 0)) fw_X3_34 dX3_holds_196 (kC_mem (s := 11) (by decide) hn0 (by decide)) rfl (lt_b rfl) rfl ?_
                    refine r_iload (x := x4) dX3_holds_199 rfl ?_
                    refine e_iald (n := x4.toNatClampNeg) dX3_holds_201 (kC_mem (s := 17) (by decide) hn0 (by decide)) rfl h3 rfl rfl ?_
                    refine r_bipush (v := 62) dX3_holds_202 rfl ?_
                    refine r_icmp_ne (tgt := 220) dX3_holds_204 (by decide) (fun hc => ?_) (fun hc => ?_)
                    · have hf := (am_if hf).2 hc
                      refine r_iload (x := r5) dX3_holds_220 rfl ?_
                      refine r_if_ne (tgt := 229) dX3_holds_222 (by decide) (fun hc => ?_) (fun hc => ?_)
                      · have hf := (am_if hf).2 hc
                        refine r_iconst (v := 0) dX3_holds_229 rfl ?_
                        refine r_istore (L' := [some (vR (11, n0, 0)), some (vI c1), some (vR (8, n1, 0)), some (vI x3), some (vI x4), some (vI (x3 &&& (1 : Int32))), some (vI r5), some (vI (0 : Int32))]) dX3_holds_230 (by decide) rfl ?_
                        refine r_iload_n (x := x3) dX3_holds_232 rfl ?_
                        refine r_iconst (v := 1) dX3_holds_233 rfl ?_
                        refine r_ishl dX3_holds_234 ?_
                        refine r_iload (x := (0 : Int32)) dX3_holds_235 rfl ?_
                        refine r_if_eq (tgt := 244) dX3_holds_237 (by decide) (fun hc => ?_) (fun hc => absurd hc (by decide))
                        refine r_iconst (v := 0) dX3_holds_244 rfl ?_
                        refine r_ior dX3_holds_245 ?_
                        refine r_istore_n (L' := [some (vR (11, n0, 0)), some (vI c1), some (vR (8, n1, 0)), some (vI ((x3 <<< ((1 : Int32) &&& 31)) ||| (0 : Int32))), some (vI x4), some (vI (x3 &&& (1 : Int32))), some (vI r5), some (vI (0 : Int32))]) dX3_holds_246 (by decide) rfl ?_
                        refine r_iinc (x := x4) (v := x4 + (1 : Int32)) (L' := [some (vR (11, n0, 0)), some (vI c1), some (vR (8, n1, 0)), some (vI ((x3 <<< ((1 : Int32) &&& 31)) ||| (0 : Int32))), some (vI (x4 + (1 : Int32))), some (vI (x3 &&& (1 : Int32))), some (vI r5), some (vI (0 : Int32))]) dX3_holds_247 rfl rfl (lt_b rfl) rfl ?_
                        refine r_goto (tgt := 26) dX3_holds_250 (by decide) ?_
                        refine r_weak (L' := [some (vR (11, n0, 0)), some (vI c1), some (vR (8, n1, 0)), some (vI ((x3 <<< ((1 : Int32) &&& 31)) ||| (0 : Int32))), some (vI (x4 + (1 : Int32))), none, none, none]) (And.intro rfl (And.intro rfl (And.intro rfl (And.intro rfl (And.intro rfl trivial))))) ?_
                        exact k1 ((x3 <<< ((1 : Int32) &&& 31)) ||| (0 : Int32), x4 + (1 : Int32)) (am_inj hf).symm
                      · have hf := (am_if hf).1 hc
                        refine r_iconst (v := 1) dX3_holds_225 rfl ?_
                        refine r_goto (tgt := 230) dX3_holds_226 (by decide) ?_
                        refine r_istore (L' := [some (vR (11, n0, 0)), some (vI c1), some (vR (8, n1, 0)), some (vI x3), some (vI x4), some (vI (x3 &&& (1 : Int32))), some (vI r5), some (vI (1 : Int32))]) dX3_holds_230 (by decide) rfl ?_
                        refine r_iload_n (x := x3) dX3_holds_232 rfl ?_
                        refine r_iconst (v := 1) dX3_holds_233 rfl ?_
                        refine r_ishl dX3_holds_234 ?_
                        refine r_iload (x := (1 : Int32)) dX3_holds_235 rfl ?_
                        refine r_if_eq (tgt := 244) dX3_holds_237 (by decide) (fun hc => absurd hc (by decide)) (fun hc => ?_)
                        refine r_iconst (v := 1) dX3_holds_240 rfl ?_
                        refine r_goto (tgt := 245) dX3_holds_241 (by decide) ?_
                        refine r_ior dX3_holds_245 ?_
                        refine r_istore_n (L' := [some (vR (11, n0, 0)), some (vI c1), some (vR (8, n1, 0)), some (vI ((x3 <<< ((1 : Int32) &&& 31)) ||| (1 : Int32))), some (vI x4), some (vI (x3 &&& (1 : Int32))), some (vI r5), some (vI (1 : Int32))]) dX3_holds_246 (by decide) rfl ?_
                        refine r_iinc (x := x4) (v := x4 + (1 : Int32)) (L' := [some (vR (11, n0, 0)), some (vI c1), some (vR (8, n1, 0)), some (vI ((x3 <<< ((1 : Int32) &&& 31)) ||| (1 : Int32))), some (vI (x4 + (1 : Int32))), some (vI (x3 &&& (1 : Int32))), some (vI r5), some (vI (1 : Int32))]) dX3_holds_247 rfl rfl (lt_b rfl) rfl ?_
                        refine r_goto (tgt := 26) dX3_holds_250 (by decide) ?_
                        refine r_weak (L' := [some (vR (11, n0, 0)), some (vI c1), some (vR (8, n1, 0)), some (vI ((x3 <<< ((1 : Int32) &&& 31)) ||| (1 : Int32))), some (vI (x4 + (1 : Int32))), none, none, none]) (And.intro rfl (And.intro rfl (And.intro rfl (And.intro rfl (And.intro rfl trivial))))) ?_
                        exact k1 ((x3 <<< ((1 : Int32) &&& 31)) ||| (1 : Int32), x4 + (1 : Int32)) (am_inj hf).symm
                    · have hf := (am_if hf).1 hc
                      refine r_iload (x := r5) dX3_holds_207 rfl ?_
                      refine r_if_le (tgt := 216) dX3_holds_209 (by decide) (fun hc => ?_) (fun hc => ?_)
                      · have hf := (am_if hf).1 hc
                        refine r_iconst (v := 0) dX3_holds_216 rfl ?_
                        refine r_goto (tgt := 230) dX3_holds_217 (by decide) ?_
                        refine r_istore (L' := [some (vR (11, n0, 0)), some (vI c1), some (vR (8, n1, 0)), some (vI x3), some (vI x4), some (vI (x3 &&& (1 : Int32))), some (vI r5), some (vI (0 : Int32))]) dX3_holds_230 (by decide) rfl ?_
                        refine r_iload_n (x := x3) dX3_holds_232 rfl ?_
                        refine r_iconst (v := 1) dX3_holds_233 rfl ?_
                        refine r_ishl dX3_holds_234 ?_
                        refine r_iload (x := (0 : Int32)) dX3_holds_235 rfl ?_
                        refine r_if_eq (tgt := 244) dX3_holds_237 (by decide) (fun hc => ?_) (fun hc => absurd hc (by decide))
                        refine r_iconst (v := 0) dX3_holds_244 rfl ?_
                        refine r_ior dX3_holds_245 ?_
                        refine r_istore_n (L' := [some (vR (11, n0, 0)), some (vI c1), some (vR (8, n1, 0)), some (vI ((x3 <<< ((1 : Int32) &&& 31)) ||| (0 : Int32))), some (vI x4), some (vI (x3 &&& (1 : Int32))), some (vI r5), some (vI (0 : Int32))]) dX3_holds_246 (by decide) rfl ?_
                        refine r_iinc (x := x4) (v := x4 + (1 : Int32)) (L' := [some (vR (11, n0, 0)), some (vI c1), some (vR (8, n1, 0)), some (vI ((x3 <<< ((1 : Int32) &&& 31)) ||| (0 : Int32))), some (vI (x4 + (1 : Int32))), some (vI (x3 &&& (1 : Int32))), some (vI r5), some (vI (0 : Int32))]) dX3_holds_247 rfl rfl (lt_b rfl) rfl ?_
                        refine r_goto (tgt := 26) dX3_holds_250 (by decide) ?_
                        refine r_weak (L' := [some (vR (11, n0, 0)), some (vI c1), some (vR (8, n1, 0)), some (vI ((x3 <<< ((1 : Int32) &&& 31)) ||| (0 : Int32))), some (vI (x4 + (1 : Int32))), none, none, none]) (And.intro rfl (And.intro rfl (And.intro rfl (And.intro rfl (And.intro rfl trivial))))) ?_
                        exact k1 ((x3 <<< ((1 : Int32) &&& 31)) ||| (0 : Int32), x4 + (1 : Int32)) (am_inj hf).symm
                      · have hf := (am_if hf).2 hc
                        refine r_iconst (v := 1) dX3_holds_212 rfl ?_
                        refine r_goto (tgt := 230) dX3_holds_213 (by decide) ?_
                        refine r_istore (L' := [some (vR (11, n0, 0)), some (vI c1), some (vR (8, n1, 0)), some (vI x3), some (vI x4), some (vI (x3 &&& (1 : Int32))), some (vI r5), some (vI (1 : Int32))]) dX3_holds_230 (by decide) rfl ?_
                        refine r_iload_n (x := x3) dX3_holds_232 rfl ?_
                        refine r_iconst (v := 1) dX3_holds_233 rfl ?_
                        refine r_ishl dX3_holds_234 ?_
                        refine r_iload (x := (1 : Int32)) dX3_holds_235 rfl ?_
                        refine r_if_eq (tgt := 244) dX3_holds_237 (by decide) (fun hc => absurd hc (by decide)) (fun hc => ?_)
                        refine r_iconst (v := 1) dX3_holds_240 rfl ?_
                        refine r_goto (tgt := 245) dX3_holds_241 (by decide) ?_
                        refine r_ior dX3_holds_245 ?_
                        refine r_istore_n (L' := [some (vR (11, n0, 0)), some (vI c1), some (vR (8, n1, 0)), some (vI ((x3 <<< ((1 : Int32) &&& 31)) ||| (1 : Int32))), some (vI x4), some (vI (x3 &&& (1 : Int32))), some (vI r5), some (vI (1 : Int32))]) dX3_holds_246 (by decide) rfl ?_
                        refine r_iinc (x := x4) (v := x4 + (1 : Int32)) (L' := [some (vR (11, n0, 0)), some (vI c1), some (vR (8, n1, 0)), some (vI ((x3 <<< ((1 : Int32) &&& 31)) ||| (1 : Int32))), some (vI (x4 + (1 : Int32))), some (vI (x3 &&& (1 : Int32))), some (vI r5), some (vI (1 : Int32))]) dX3_holds_247 rfl rfl (lt_b rfl) rfl ?_
                        refine r_goto (tgt := 26) dX3_holds_250 (by decide) ?_
                        refine r_weak (L' := [some (vR (11, n0, 0)), some (vI c1), some (vR (8, n1, 0)), some (vI ((x3 <<< ((1 : Int32) &&& 31)) ||| (1 : Int32))), some (vI (x4 + (1 : Int32))), none, none, none]) (And.intro rfl (And.intro rfl (And.intro rfl (And.intro rfl (And.intro rfl trivial))))) ?_
                        exact k1 ((x3 <<< ((1 : Int32) &&& 31)) ||| (1 : Int32), x4 + (1 : Int32)) (am_inj hf).symm
                  · have hf := (am_if hf).1 hc
                    refine r_iload (x := r5) dX3_holds_182 rfl ?_
                    refine r_if_ge (tgt := 191) dX3_holds_184 (by decide) (fun hc => ?_) (fun hc => ?_)
                    · have hf := (am_if hf).1 hc
                      refine r_iconst (v := 0) dX3_holds_191 rfl ?_
                      refine r_goto (tgt := 230) dX3_holds_192 (by decide) ?_
                      refine r_istore (L' := [some (vR (11, n0, 0)), some (vI c1), some (vR (8, n1, 0)), some (vI x3), some (vI x4), some (vI (x3 &&& (1 : Int32))), some (vI r5), some (vI (0 : Int32))]) dX3_holds_230 (by decide) rfl ?_
                      refine r_iload_n (x := x3) dX3_holds_232 rfl ?_
                      refine r_iconst (v := 1) dX3_holds_233 rfl ?_
                      refine r_ishl dX3_holds_234 ?_
                      refine r_iload (x := (0 : Int32)) dX3_holds_235 rfl ?_
                      refine r_if_eq (tgt := 244) dX3_holds_237 (by decide) (fun hc => ?_) (fun hc => absurd hc (by decide))
                      refine r_iconst (v := 0) dX3_holds_244 rfl ?_
                      refine r_ior dX3_holds_245 ?_
                      refine r_istore_n (L' := [some (vR (11, n0, 0)), some (vI c1), some (vR (8, n1, 0)), some (vI ((x3 <<< ((1 : Int32) &&& 31)) ||| (0 : Int32))), some (vI x4), some (vI (x3 &&& (1 : Int32))), some (vI r5), some (vI (0 : Int32))]) dX3_holds_246 (by decide) rfl ?_
                      refine r_iinc (x := x4) (v := x4 + (1 : Int32)) (L' := [some (vR (11, n0, 0)), some (vI c1), some (vR (8, n1, 0)), some (vI ((x3 <<< ((1 : Int32) &&& 31)) ||| (0 : Int32))), some (vI (x4 + (1 : Int32))), some (vI (x3 &&& (1 : Int32))), some (vI r5), some (vI (0 : Int32))]) dX3_holds_247 rfl rfl (lt_b rfl) rfl ?_
                      refine r_goto (tgt := 26) dX3_holds_250 (by decide) ?_
                      refine r_weak (L' := [some (vR (11, n0, 0)), some (vI c1), some (vR (8, n1, 0)), some (vI ((x3 <<< ((1 : Int32) &&& 31)) ||| (0 : Int32))), some (vI (x4 + (1 : Int32))), none, none, none]) (And.intro rfl (And.intro rfl (And.intro rfl (And.intro rfl (And.intro rfl trivial))))) ?_
                      exact k1 ((x3 <<< ((1 : Int32) &&& 31)) ||| (0 : Int32), x4 + (1 : Int32)) (am_inj hf).symm
                    · have hf := (am_if hf).2 hc
                      refine r_iconst (v := 1) dX3_holds_187 rfl ?_
                      refine r_goto (tgt := 230) dX3_holds_188 (by decide) ?_
                      refine r_istore (L' := [some (vR (11, n0, 0)), some (vI c1), some (vR (8, n1, 0)), some (vI x3), some (vI x4), some (vI (x3 &&& (1 : Int32))), some (vI r5), some (vI (1 : Int32))]) dX3_holds_230 (by decide) rfl ?_
                      refine r_iload_n (x := x3) dX3_holds_232 rfl ?_
                      refine r_iconst (v := 1) dX3_holds_233 rfl ?_
                      refine r_ishl dX3_holds_234 ?_
                      refine r_iload (x := (1 : Int32)) dX3_holds_235 rfl ?_
                      refine r_if_eq (tgt := 244) dX3_holds_237 (by decide) (fun hc => absurd hc (by decide)) (fun hc => ?_)
                      refine r_iconst (v := 1) dX3_holds_240 rfl ?_
                      refine r_goto (tgt := 245) dX3_holds_241 (by decide) ?_
                      refine r_ior dX3_holds_245 ?_
                      refine r_istore_n (L' := [some (vR (11, n0, 0)), some (vI c1), some (vR (8, n1, 0)), some (vI ((x3 <<< ((1 : Int32) &&& 31)) ||| (1 : Int32))), some (vI x4), some (vI (x3 &&& (1 : Int32))), some (vI r5), some (vI (1 : Int32))]) dX3_holds_246 (by decide) rfl ?_
                      refine r_iinc (x := x4) (v := x4 + (1 : Int32)) (L' := [some (vR (11, n0, 0)), some (vI c1), some (vR (8, n1, 0)), some (vI ((x3 <<< ((1 : Int32) &&& 31)) ||| (1 : Int32))), some (vI (x4 + (1 : Int32))), some (vI (x3 &&& (1 : Int32))), some (vI r5), some (vI (1 : Int32))]) dX3_holds_247 rfl rfl (lt_b rfl) rfl ?_
                      refine r_goto (tgt := 26) dX3_holds_250 (by decide) ?_
                      refine r_weak (L' := [some (vR (11, n0, 0)), some (vI c1), some (vR (8, n1, 0)), some (vI ((x3 <<< ((1 : Int32) &&& 31)) ||| (1 : Int32))), some (vI (x4 + (1 : Int32))), none, none, none]) (And.intro rfl (And.intro rfl (And.intro rfl (And.intro rfl (And.intro rfl trivial))))) ?_
                      exact k1 ((x3 <<< ((1 : Int32) &&& 31)) ||| (1 : Int32), x4 + (1 : Int32)) (am_inj hf).symm
          · have hf := (am_if hf).1 hc
            refine r_iload_n (x := x3) dX3_holds_105 rfl ?_
            refine r_iconst (v := 1) dX3_holds_106 rfl ?_
            refine r_ishr dX3_holds_107 ?_
            refine r_iload (x := x3 &&& (1 : Int32)) dX3_holds_108 rfl ?_
            refine r_ior dX3_holds_110 ?_
            refine r_istore_n (L' := [some (vR (11, n0, 0)), some (vI c1), some (vR (8, n1, 0)), some (vI ((x3 >>> ((1 : Int32) &&& 31)) ||| (x3 &&& (1 : Int32)))), some (vI x4), some (vI (x3 &&& (1 : Int32))), none, none]) dX3_holds_111 (by decide) rfl ?_
            refine r_goto (tgt := 247) dX3_holds_112 (by decide) ?_
            refine r_iinc (x := x4) (v := x4 + (1 : Int32)) (L' := [some (vR (11, n0, 0)), some (vI c1), some (vR (8, n1, 0)), some (vI ((x3 >>> ((1 : Int32) &&& 31)) ||| (x3 &&& (1 : Int32)))), some (vI (x4 + (1 : Int32))), some (vI (x3 &&& (1 : Int32))), none, none]) dX3_holds_247 rfl rfl (lt_b rfl) rfl ?_
            refine r_goto (tgt := 26) dX3_holds_250 (by decide) ?_
            refine r_weak (L' := [some (vR (11, n0, 0)), some (vI c1), some (vR (8, n1, 0)), some (vI ((x3 >>> ((1 : Int32) &&& 31)) ||| (x3 &&& (1 : Int32)))), some (vI (x4 + (1 : Int32))), none, none, none]) (And.intro rfl (And.intro rfl (And.intro rfl (And.intro rfl (And.intro rfl trivial))))) ?_
            exact k1 ((x3 >>> ((1 : Int32) &&& 31)) ||| (x3 &&& (1 : Int32)), x4 + (1 : Int32)) (am_inj hf).symm
        · have hf := (am_if hf).1 hc
          refine r_iload_n (x := x3) dX3_holds_80 rfl ?_
          refine r_iconst (v := 1) dX3_holds_81 rfl ?_
          refine r_ishr dX3_holds_82 ?_
          refine r_iload (x := x3 &&& (1 : Int32)) dX3_holds_83 rfl ?_
          refine r_bipush (v := -2) dX3_holds_85 rfl ?_
          refine r_ior dX3_holds_87 ?_
          refine r_iand dX3_holds_88 ?_
          refine r_istore_n (L' := [some (vR (11, n0, 0)), some (vI c1), some (vR (8, n1, 0)), some (vI ((x3 >>> ((1 : Int32) &&& 31)) &&& ((x3 &&& (1 : Int32)) ||| (-2 : Int32)))), some (vI x4), some (vI (x3 &&& (1 : Int32))), none, none]) dX3_holds_89 (by decide) rfl ?_
          refine r_goto (tgt := 247) dX3_holds_90 (by decide) ?_
          refine r_iinc (x := x4) (v := x4 + (1 : Int32)) (L' := [some (vR (11, n0, 0)), some (vI c1), some (vR (8, n1, 0)), some (vI ((x3 >>> ((1 : Int32) &&& 31)) &&& ((x3 &&& (1 : Int32)) ||| (-2 : Int32)))), some (vI (x4 + (1 : Int32))), some (vI (x3 &&& (1 : Int32))), none, none]) dX3_holds_247 rfl rfl (lt_b rfl) rfl ?_
          refine r_goto (tgt := 26) dX3_holds_250 (by decide) ?_
          refine r_weak (L' := [some (vR (11, n0, 0)), some (vI c1), some (vR (8, n1, 0)), some (vI ((x3 >>> ((1 : Int32) &&& 31)) &&& ((x3 &&& (1 : Int32)) ||| (-2 : Int32)))), some (vI (x4 + (1 : Int32))), none, none, none]) (And.intro rfl (And.intro rfl (And.intro rfl (And.intro rfl (And.intro rfl trivial))))) ?_
          exact k1 ((x3 >>> ((1 : Int32) &&& 31)) &&& ((x3 &&& (1 : Int32)) ||| (-2 : Int32)), x4 + (1 : Int32)) (am_inj hf).symm
      · have hf := (am_if hf).1 hc
        refine r_iload_n (x := x3) dX3_holds_61 rfl ?_
        refine r_iconst (v := 1) dX3_holds_62 rfl ?_
        refine r_ixor dX3_holds_63 ?_
        refine r_istore_n (L' := [some (vR (11, n0, 0)), some (vI c1), some (vR (8, n1, 0)), some (vI (x3 ^^^ (1 : Int32))), some (vI x4), some (vI (x3 &&& (1 : Int32))), none, none]) dX3_holds_64 (by decide) rfl ?_
        refine r_goto (tgt := 247) dX3_holds_65 (by decide) ?_
        refine r_iinc (x := x4) (v := x4 + (1 : Int32)) (L' := [some (vR (11, n0, 0)), some (vI c1), some (vR (8, n1, 0)), some (vI (x3 ^^^ (1 : Int32))), some (vI (x4 + (1 : Int32))), some (vI (x3 &&& (1 : Int32))), none, none]) dX3_holds_247 rfl rfl (lt_b rfl) rfl ?_
        refine r_goto (tgt := 26) dX3_holds_250 (by decide) ?_
        refine r_weak (L' := [some (vR (11, n0, 0)), some (vI c1), some (vR (8, n1, 0)), some (vI (x3 ^^^ (1 : Int32))), some (vI (x4 + (1 : Int32))), none, none, none]) (And.intro rfl (And.intro rfl (And.intro rfl (And.intro rfl (And.intro rfl trivial))))) ?_
        exact k1 (x3 ^^^ (1 : Int32), x4 + (1 : Int32)) (am_inj hf).symm
def f_X3_holds (v : Nat) (w : Nat) (a0 : Int32) (u : PM) : Option (Int32) :=
  if a0 < 0 then
    some (0 : Int32)
  else
  if a0 < (10 : Int32) then
    if a0 < 0 ∨ 10 ≤ a0.toNatClampNeg then none else
    (am_loop (f_X3_holds_L26 v w a0 u) 2000 ((0 : Int32), (if (0 : Int32) < (u.1 (14, v, 0) a0.toNatClampNeg) then (u.1 (14, v, 0) a0.toNatClampNeg) else (0 : Int32)))).bind fun y9 =>
    if (y9 &&& (1 : Int32)) = 0 then
      some (0 : Int32)
    else
    some (1 : Int32)
  else
  some (0 : Int32)
set_option maxHeartbeats 4000000 in
set_option maxRecDepth 20000 in
theorem C_X3_holds {l : Launch} {v : Nat} (hv : v < 5) {w : Nat} (hw : w < 4) {a0 : Int32} {u : PM} {x : Int32} (hf : f_X3_holds v w a0 u = some x) : Ev l mX3_holds 2 0 0 false [vR (11, v, 0), vI a0, vR (8, w, 0)] kC (en u) (some (vI x), kC, en u) := by
  refine Ev_of (by decide +kernel) (le_b rfl) ?_
  unfold f_X3_holds at hf
  show X l mX3_holds 2 0 0 false _ kC 0 0 0 [some (vR (11, v, 0)), some (vI a0), some (vR (8, w, 0)), none, none, none, none, none] [] (en u)
  refine r_iload_n (x := a0) dX3_holds_0 rfl ?_
  refine r_if_lt (tgt := 10) dX3_holds_1 (by decide) (fun hc => ?_) (fun hc => ?_)
  · have hf := (am_if hf).1 hc
    refine r_iconst (v := 0) dX3_holds_10 rfl ?_
    have hx := am_inj hf
    subst hx
    exact r_iret dX3_holds_11 rfl (am_bool (x := 0) (by decide)).1 (le_b rfl) (le_b rfl)
  · have hf := (am_if hf).2 hc
    refine r_iload_n (x := a0) dX3_holds_4 rfl ?_
    refine r_bipush (v := 10) dX3_holds_5 rfl ?_
    refine r_icmp_lt (tgt := 12) dX3_holds_7 (by decide) (fun hc => ?_) (fun hc => ?_)
    · have hf := (am_if hf).1 hc
      refine r_iconst (v := 0) dX3_holds_12 rfl ?_
      refine r_istore_n (L' := [some (vR (11, v, 0)), some (vI a0), some (vR (8, w, 0)), some (vI (0 : Int32)), none, none, none, none]) dX3_holds_13 (by decide) rfl ?_
      refine r_iconst (v := 0) dX3_holds_14 rfl ?_
      refine r_aload_n (x := (11, v, 0)) dX3_holds_15 rfl ?_
      refine e_getr (z := some (14, v, 0)) fw_X3_25 dX3_holds_16 (kC_mem (s := 11) (by decide) hv (by decide)) rfl (lt_b rfl) rfl ?_
      refine r_iload_n (x := a0) dX3_holds_19 rfl ?_
      obtain ⟨h1, hf⟩ := am_nchk hf
      refine e_iald (n := a0.toNatClampNeg) dX3_holds_20 (kC_mem (s := 14) (by decide) hv (by decide)) rfl h1 rfl rfl ?_
      refine r_mmax jm_X3_40 js_max.1 js_max.2.1 js_max.2.2 dX3_holds_21 (le_b rfl) (le_b rfl) (le_b rfl) (le_b rfl) ?_
      refine r_istore (L' := [some (vR (11, v, 0)), some (vI a0), some (vR (8, w, 0)), some (vI (0 : Int32)), some (vI (if (0 : Int32) < (u.1 (14, v, 0) a0.toNatClampNeg) then (u.1 (14, v, 0) a0.toNatClampNeg) else (0 : Int32))), none, none, none]) dX3_holds_24 (by decide) rfl ?_
      refine r_weak (L' := [some (vR (11, v, 0)), some (vI a0), some (vR (8, w, 0)), some (vI (0 : Int32)), some (vI (if (0 : Int32) < (u.1 (14, v, 0) a0.toNatClampNeg) then (u.1 (14, v, 0) a0.toNatClampNeg) else (0 : Int32))), none, none, none]) (And.intro rfl (And.intro rfl (And.intro rfl (And.intro rfl (And.intro rfl trivial))))) ?_
      obtain ⟨e7, he8, hf⟩ := am_bind hf
      refine K_X3_holds_L26 hv hw 2000 ((0 : Int32), (if (0 : Int32) < (u.1 (14, v, 0) a0.toNatClampNeg) then (u.1 (14, v, 0) a0.toNatClampNeg) else (0 : Int32))) _ he8 ?_
      obtain ⟨y9, rfl⟩ : ∃ z, z = e7 := ⟨_, rfl⟩
      show X l _ _ 0 0 false _ kC 0 0 253 [none, none, none, some (vI y9), none, none, none, none] [] (en u)
      refine r_iload_n (x := y9) dX3_holds_253 rfl ?_
      refine r_iconst (v := 1) dX3_holds_254 rfl ?_
      refine r_iand dX3_holds_255 ?_
      refine r_if_eq (tgt := 263) dX3_holds_256 (by decide) (fun hc => ?_) (fun hc => ?_)
      · have hf := (am_if hf).1 hc
        refine r_iconst (v := 0) dX3_holds_263 rfl ?_
        have hx := am_inj hf
        subst hx
        exact r_iret dX3_holds_264 rfl (am_bool (x := 0) (by decide)).1 (le_b rfl) (le_b rfl)
      · have hf := (am_if hf).2 hc
        refine r_iconst (v := 1) dX3_holds_259 rfl ?_
        refine r_goto (tgt := 264) dX3_holds_260 (by decide) ?_
        have hx := am_inj hf
        subst hx
        exact r_iret dX3_holds_264 rfl (am_bool (x := 1) (by decide)).1 (le_b rfl) (le_b rfl)
    · have hf := (am_if hf).2 hc
      refine r_iconst (v := 0) dX3_holds_10 rfl ?_
      have hx := am_inj hf
      subst hx
      exact r_iret dX3_holds_11 rfl (am_bool (x := 0) (by decide)).1 (le_b rfl) (le_b rfl)
/-! FireFromFire$Tape.start -/
theorem dX7_start_0 : decode cX7_start 0 = .ok (.aload_n 0, 1) := by decide +kernel
theorem dX7_start_1 : decode cX7_start 1 = .ok (.iload_n 1, 1) := by decide +kernel
theorem dX7_start_2 : decode cX7_start 2 = .ok (.putfield 9, 3) := by decide +kernel
theorem dX7_start_5 : decode cX7_start 5 = .ok (.aload_n 0, 1) := by decide +kernel
theorem dX7_start_6 : decode cX7_start 6 = .ok (.iload_n 2, 1) := by decide +kernel
theorem dX7_start_7 : decode cX7_start 7 = .ok (.putfield 15, 3) := by decide +kernel
theorem dX7_start_10 : decode cX7_start 10 = .ok (.iconst 0, 1) := by decide +kernel
theorem dX7_start_11 : decode cX7_start 11 = .ok (.istore_n 3, 1) := by decide +kernel
theorem dX7_start_12 : decode cX7_start 12 = .ok (.iload_n 3, 1) := by decide +kernel
theorem dX7_start_13 : decode cX7_start 13 = .ok (.bipush 60, 2) := by decide +kernel
theorem dX7_start_15 : decode cX7_start 15 = .ok (.if_icmp .ge 16, 3) := by decide +kernel
theorem dX7_start_18 : decode cX7_start 18 = .ok (.aload_n 0, 1) := by decide +kernel
theorem dX7_start_19 : decode cX7_start 19 = .ok (.getfield 18, 3) := by decide +kernel
theorem dX7_start_22 : decode cX7_start 22 = .ok (.iload_n 3, 1) := by decide +kernel
theorem dX7_start_23 : decode cX7_start 23 = .ok (.lconst 0, 1) := by decide +kernel
theorem dX7_start_24 : decode cX7_start 24 = .ok (.lastore, 1) := by decide +kernel
theorem dX7_start_25 : decode cX7_start 25 = .ok (.iinc 3 1, 3) := by decide +kernel
theorem dX7_start_28 : decode cX7_start 28 = .ok (.goto (-16), 3) := by decide +kernel
theorem dX7_start_31 : decode cX7_start 31 = .ok (.return_, 1) := by decide +kernel
def f_X7_start_L12 (n0 : Nat)  : Int32 × PM → Option ((Int32 × PM) ⊕ (PM)) := fun (x3 , u) =>
  if (60 : Int32) ≤ x3 then
    some (.inr (u))
  else
  if x3 < 0 ∨ 60 ≤ x3.toNatClampNeg then none else
  some (.inl (x3 + (1 : Int32), (pl u (33, n0, 0) x3.toNatClampNeg (0 : Int64))))
set_option maxHeartbeats 4000000 in
set_option maxRecDepth 20000 in
theorem K_X7_start_L12 {l : Launch} {T : Option AV × List Key × AM} {n0 : Nat} (hn0 : n0 < 6)  : ∀ (n : Nat) (s : Int32 × PM) (e0 : PM), am_loop (f_X7_start_L12 n0) n s = some e0 → (fun e : PM => X l mX7_start 1 0 0 false T kC 0 0 31 [none, none, none, none] [] (en e)) e0 → X l mX7_start 1 0 0 false T kC 0 0 12 [some (vR (32, n0, 0)), none, none, some (vI s.1)] [] (en s.2) := by
  refine am_loop_of ?_
  intro s x hf k1 k2
  obtain ⟨x3 , u⟩ := s
  unfold f_X7_start_L12 at hf
  show X l mX7_start 1 0 0 false T kC 0 0 12 [some (vR (32, n0, 0)), none, none, some (vI x3)] [] (en u)
  refine r_iload_n (x := x3) dX7_start_12 rfl ?_
  refine r_bipush (v := 60) dX7_start_13 rfl ?_
  refine r_icmp_ge (tgt := 31) dX7_start_15 (by decide) (fun hc => ?_) (fun hc => ?_)
  · have hf := (am_if hf).1 hc
    refine r_weak (L' := [none, none, none, none]) trivial ?_
    exact k2 (u) (am_inj hf).symm
  · have hf := (am_if hf).2 hc
    refine r_aload_n (x := (32, n0, 0)) dX7_start_18 rfl ?_
    refine e_getr (z := some (33, n0, 0)) fw_X7_18 dX7_start_19 (kC_mem (s := 32) (by decide) hn0 (by decide)) rfl (lt_b rfl) rfl ?_
    refine r_iload_n (x := x3) dX7_start_22 rfl ?_
    refine r_lconst (v := 0) dX7_start_23 rfl ?_
    obtain ⟨h1, hf⟩ := am_nchk hf
    refine e_last (n := x3.toNatClampNeg) dX7_start_24 (kC_mem (s := 33) (by decide) hn0 (by decide)) rfl h1 rfl ?_
    refine r_iinc (x := x3) (v := x3 + (1 : Int32)) (L' := [some (vR (32, n0, 0)), none, none, some (vI (x3 + (1 : Int32)))]) dX7_start_25 rfl rfl (lt_b rfl) rfl ?_
    refine r_goto (tgt := 12) dX7_start_28 (by decide) ?_
    refine r_weak (L' := [some (vR (32, n0, 0)), none, none, some (vI (x3 + (1 : Int32)))]) (And.intro rfl (And.intro rfl trivial)) ?_
    exact k1 (x3 + (1 : Int32), (pl u (33, n0, 0) x3.toNatClampNeg (0 : Int64))) (am_inj hf).symm
def f_X7_start (v : Nat) (a0 : Int32) (a1 : Int32) (u : PM) : Option (PM) :=
  (am_loop (f_X7_start_L12 v) 2000 ((0 : Int32), (pi (pi u (32, v, 0) 0 a0) (32, v, 0) 1 a1))).bind fun u4 =>
  some u4
set_option maxHeartbeats 4000000 in
set_option maxRecDepth 20000 in
theorem C_X7_start {l : Launch} {v : Nat} (hv : v < 6) {a0 : Int32} {a1 : Int32} {u : PM} {x : PM} (hf : f_X7_start v a0 a1 u = some x) : Ev l mX7_start 1 0 0 false [vR (32, v, 0), vI a0, vI a1] kC (en u) (none, kC, en x) := by
  refine Ev_of (by decide +kernel) (le_b rfl) ?_
  unfold f_X7_start at hf
  show X l mX7_start 1 0 0 false _ kC 0 0 0 [some (vR (32, v, 0)), some (vI a0), some (vI a1), none] [] (en u)
  refine r_aload_n (x := (32, v, 0)) dX7_start_0 rfl ?_
  refine r_iload_n (x := a0) dX7_start_1 rfl ?_
  refine e_puti fp_X7_9 dX7_start_2 (kC_mem (s := 32) (by decide) hv (by decide)) rfl (lt_b rfl) rfl rfl rfl ?_
  refine r_aload_n (x := (32, v, 0)) dX7_start_5 rfl ?_
  refine r_iload_n (x := a1) dX7_start_6 rfl ?_
  refine e_puti fp_X7_15 dX7_start_7 (kC_mem (s := 32) (by decide) hv (by decide)) rfl (lt_b rfl) rfl rfl rfl ?_
  refine r_iconst (v := 0) dX7_start_10 rfl ?_
  refine r_istore_n (L' := [some (vR (32, v, 0)), some (vI a0), some (vI a1), some (vI (0 : Int32))]) dX7_start_11 (by decide) rfl ?_
  refine r_weak (L' := [some (vR (32, v, 0)), none, none, some (vI (0 : Int32))]) (And.intro rfl (And.intro rfl trivial)) ?_
  obtain ⟨e2, he3, hf⟩ := am_bind hf
  refine K_X7_start_L12 hv 2000 ((0 : Int32), (pi (pi u (32, v, 0) 0 a0) (32, v, 0) 1 a1)) _ he3 ?_
  obtain ⟨u4, rfl⟩ : ∃ z, z = e2 := ⟨_, rfl⟩
  show X l _ _ 0 0 false _ kC 0 0 31 [none, none, none, none] [] (en u4)
  have hx := am_inj hf
  subst hx
  exact r_vret dX7_start_31 rfl (le_b rfl) (le_b rfl)
/-! FireFromFire$Tape.isRow -/
theorem dX7_isRow_0 : decode cX7_isRow 0 = .ok (.aload_n 0, 1) := by decide +kernel
theorem dX7_isRow_1 : decode cX7_isRow 1 = .ok (.getfield 9, 3) := by decide +kernel
theorem dX7_isRow_4 : decode cX7_isRow 4 = .ok (.ifCond .lt 7, 3) := by decide +kernel
theorem dX7_isRow_7 : decode cX7_isRow 7 = .ok (.iconst 1, 1) := by decide +kernel
theorem dX7_isRow_8 : decode cX7_isRow 8 = .ok (.goto 4, 3) := by decide +kernel
theorem dX7_isRow_11 : decode cX7_isRow 11 = .ok (.iconst 0, 1) := by decide +kernel
theorem dX7_isRow_12 : decode cX7_isRow 12 = .ok (.ireturn, 1) := by decide +kernel
def f_X7_isRow (v : Nat)  (u : PM) : Option (Int32) :=
  if (u.1 (32, v, 0) 0) < 0 then
    some (0 : Int32)
  else
  some (1 : Int32)
set_option maxHeartbeats 4000000 in
set_option maxRecDepth 20000 in
theorem C_X7_isRow {l : Launch} {v : Nat} (hv : v < 6)  {u : PM} {x : Int32} (hf : f_X7_isRow v u = some x) : Ev l mX7_isRow 1 0 0 false [vR (32, v, 0)] kC (en u) (some (vI x), kC, en u) := by
  refine Ev_of (by decide +kernel) (le_b rfl) ?_
  unfold f_X7_isRow at hf
  show X l mX7_isRow 1 0 0 false _ kC 0 0 0 [some (vR (32, v, 0))] [] (en u)
  refine r_aload_n (x := (32, v, 0)) dX7_isRow_0 rfl ?_
  refine e_geti fw_X7_9 dX7_isRow_1 (kC_mem (s := 32) (by decide) hv (by decide)) rfl (lt_b rfl) ?_
  refine r_if_lt (tgt := 11) dX7_isRow_4 (by decide) (fun hc => ?_) (fun hc => ?_)
  · have hf := (am_if hf).1 hc
    refine r_iconst (v := 0) dX7_isRow_11 rfl ?_
    have hx := am_inj hf
    subst hx
    exact r_iret dX7_isRow_12 rfl (am_bool (x := 0) (by decide)).1 (le_b rfl) (le_b rfl)
  · have hf := (am_if hf).2 hc
    refine r_iconst (v := 1) dX7_isRow_7 rfl ?_
    refine r_goto (tgt := 12) dX7_isRow_8 (by decide) ?_
    have hx := am_inj hf
    subst hx
    exact r_iret dX7_isRow_12 rfl (am_bool (x := 1) (by decide)).1 (le_b rfl) (le_b rfl)
/-! FireFromFire$Tape.has -/
theorem dX7_has_0 : decode cX7_has 0 = .ok (.iload_n 2, 1) := by decide +kernel
theorem dX7_has_1 : decode cX7_has 1 = .ok (.ifCond .lt 29, 3) := by decide +kernel
theorem dX7_has_4 : decode cX7_has 4 = .ok (.iload_n 1, 1) := by decide +kernel
theorem dX7_has_5 : decode cX7_has 5 = .ok (.ifCond .lt 25, 3) := by decide +kernel
theorem dX7_has_8 : decode cX7_has 8 = .ok (.iload_n 2, 1) := by decide +kernel
theorem dX7_has_9 : decode cX7_has 9 = .ok (.aload_n 0, 1) := by decide +kernel
theorem dX7_has_10 : decode cX7_has 10 = .ok (.getfield 15, 3) := by decide +kernel
theorem dX7_has_13 : decode cX7_has 13 = .ok (.if_icmp .gt 17, 3) := by decide +kernel
theorem dX7_has_16 : decode cX7_has 16 = .ok (.iload_n 1, 1) := by decide +kernel
theorem dX7_has_17 : decode cX7_has 17 = .ok (.aload_n 0, 1) := by decide +kernel
theorem dX7_has_18 : decode cX7_has 18 = .ok (.getfield 15, 3) := by decide +kernel
theorem dX7_has_21 : decode cX7_has 21 = .ok (.iload_n 2, 1) := by decide +kernel
theorem dX7_has_22 : decode cX7_has 22 = .ok (.isub, 1) := by decide +kernel
theorem dX7_has_23 : decode cX7_has 23 = .ok (.if_icmp .gt 7, 3) := by decide +kernel
theorem dX7_has_26 : decode cX7_has 26 = .ok (.iconst 1, 1) := by decide +kernel
theorem dX7_has_27 : decode cX7_has 27 = .ok (.goto 4, 3) := by decide +kernel
theorem dX7_has_30 : decode cX7_has 30 = .ok (.iconst 0, 1) := by decide +kernel
theorem dX7_has_31 : decode cX7_has 31 = .ok (.ireturn, 1) := by decide +kernel
def f_X7_has (v : Nat) (a0 : Int32) (a1 : Int32) (u : PM) : Option (Int32) :=
  if a1 < 0 then
    some (0 : Int32)
  else
  if a0 < 0 then
    some (0 : Int32)
  else
  if (u.1 (32, v, 0) 1) < a1 then
    some (0 : Int32)
  else
  if ((u.1 (32, v, 0) 1) - a1) < a0 then
    some (0 : Int32)
  else
  some (1 : Int32)
set_option maxHeartbeats 4000000 in
set_option maxRecDepth 20000 in
theorem C_X7_has {l : Launch} {v : Nat} (hv : v < 6) {a0 : Int32} {a1 : Int32} {u : PM} {x : Int32} (hf : f_X7_has v a0 a1 u = some x) : Ev l mX7_has 1 0 0 false [vR (32, v, 0), vI a0, vI a1] kC (en u) (some (vI x), kC, en u) := by
  refine Ev_of (by decide +kernel) (le_b rfl) ?_
  unfold f_X7_has at hf
  show X l mX7_has 1 0 0 false _ kC 0 0 0 [some (vR (32, v, 0)), some (vI a0), some (vI a1)] [] (en u)
  refine r_iload_n (x := a1) dX7_has_0 rfl ?_
  refine r_if_lt (tgt := 30) dX7_has_1 (by decide) (fun hc => ?_) (fun hc => ?_)
  · have hf := (am_if hf).1 hc
    refine r_iconst (v := 0) dX7_has_30 rfl ?_
    have hx := am_inj hf
    subst hx
    exact r_iret dX7_has_31 rfl (am_bool (x := 0) (by decide)).1 (le_b rfl) (le_b rfl)
  · have hf := (am_if hf).2 hc
    refine r_iload_n (x := a0) dX7_has_4 rfl ?_
    refine r_if_lt (tgt := 30) dX7_has_5 (by decide) (fun hc => ?_) (fun hc => ?_)
    · have hf := (am_if hf).1 hc
      refine r_iconst (v := 0) dX7_has_30 rfl ?_
      have hx := am_inj hf
      subst hx
      exact r_iret dX7_has_31 rfl (am_bool (x := 0) (by decide)).1 (le_b rfl) (le_b rfl)
    · have hf := (am_if hf).2 hc
      refine r_iload_n (x := a1) dX7_has_8 rfl ?_
      refine r_aload_n (x := (32, v, 0)) dX7_has_9 rfl ?_
      refine e_geti fw_X7_15 dX7_has_10 (kC_mem (s := 32) (by decide) hv (by decide)) rfl (lt_b rfl) ?_
      refine r_icmp_gt (tgt := 30) dX7_has_13 (by decide) (fun hc => ?_) (fun hc => ?_)
      · have hf := (am_if hf).1 hc
        refine r_iconst (v := 0) dX7_has_30 rfl ?_
        have hx := am_inj hf
        subst hx
        exact r_iret dX7_has_31 rfl (am_bool (x := 0) (by decide)).1 (le_b rfl) (le_b rfl)
      · have hf := (am_if hf).2 hc
        refine r_iload_n (x := a0) dX7_has_16 rfl ?_
        refine r_aload_n (x := (32, v, 0)) dX7_has_17 rfl ?_
        refine e_geti fw_X7_15 dX7_has_18 (kC_mem (s := 32) (by decide) hv (by decide)) rfl (lt_b rfl) ?_
        refine r_iload_n (x := a1) dX7_has_21 rfl ?_
        refine r_isub dX7_has_22 ?_
        refine r_icmp_gt (tgt := 30) dX7_has_23 (by decide) (fun hc => ?_) (fun hc => ?_)
        · have hf := (am_if hf).1 hc
          refine r_iconst (v := 0) dX7_has_30 rfl ?_
          have hx := am_inj hf
          subst hx
          exact r_iret dX7_has_31 rfl (am_bool (x := 0) (by decide)).1 (le_b rfl) (le_b rfl)
        · have hf := (am_if hf).2 hc
          refine r_iconst (v := 1) dX7_has_26 rfl ?_
          refine r_goto (tgt := 31) dX7_has_27 (by decide) ?_
          have hx := am_inj hf
          subst hx
          exact r_iret dX7_has_31 rfl (am_bool (x := 1) (by decide)).1 (le_b rfl) (le_b rfl)
/-! FireFromFire$Tape.get -/
theorem dX7_get_0 : decode cX7_get 0 = .ok (.iload_n 1, 1) := by decide +kernel
theorem dX7_get_1 : decode cX7_get 1 = .ok (.ifCond .lt 26, 3) := by decide +kernel
theorem dX7_get_4 : decode cX7_get 4 = .ok (.iload_n 1, 1) := by decide +kernel
theorem dX7_get_5 : decode cX7_get 5 = .ok (.aload_n 0, 1) := by decide +kernel
theorem dX7_get_6 : decode cX7_get 6 = .ok (.getfield 15, 3) := by decide +kernel
theorem dX7_get_9 : decode cX7_get 9 = .ok (.if_icmp .ge 18, 3) := by decide +kernel
theorem dX7_get_12 : decode cX7_get 12 = .ok (.iload_n 1, 1) := by decide +kernel
theorem dX7_get_13 : decode cX7_get 13 = .ok (.bipush 60, 2) := by decide +kernel
theorem dX7_get_15 : decode cX7_get 15 = .ok (.if_icmp .ge 12, 3) := by decide +kernel
theorem dX7_get_18 : decode cX7_get 18 = .ok (.aload_n 0, 1) := by decide +kernel
theorem dX7_get_19 : decode cX7_get 19 = .ok (.getfield 18, 3) := by decide +kernel
theorem dX7_get_22 : decode cX7_get 22 = .ok (.iload_n 1, 1) := by decide +kernel
theorem dX7_get_23 : decode cX7_get 23 = .ok (.laload, 1) := by decide +kernel
theorem dX7_get_24 : decode cX7_get 24 = .ok (.goto 4, 3) := by decide +kernel
theorem dX7_get_27 : decode cX7_get 27 = .ok (.lconst 0, 1) := by decide +kernel
theorem dX7_get_28 : decode cX7_get 28 = .ok (.lreturn, 1) := by decide +kernel
def f_X7_get (v : Nat) (a0 : Int32) (u : PM) : Option (Int64) :=
  if a0 < 0 then
    some (0 : Int64)
  else
  if (u.1 (32, v, 0) 1) ≤ a0 then
    some (0 : Int64)
  else
  if (60 : Int32) ≤ a0 then
    some (0 : Int64)
  else
  if a0 < 0 ∨ 60 ≤ a0.toNatClampNeg then none else
  some (u.2.1 (33, v, 0) a0.toNatClampNeg)
set_option maxHeartbeats 4000000 in
set_option maxRecDepth 20000 in
theorem C_X7_get {l : Launch} {v : Nat} (hv : v < 6) {a0 : Int32} {u : PM} {x : Int64} (hf : f_X7_get v a0 u = some x) : Ev l mX7_get 1 0 0 false [vR (32, v, 0), vI a0] kC (en u) (some (vJ x), kC, en u) := by
  refine Ev_of (by decide +kernel) (le_b rfl) ?_
  unfold f_X7_get at hf
  show X l mX7_get 1 0 0 false _ kC 0 0 0 [some (vR (32, v, 0)), some (vI a0)] [] (en u)
  refine r_iload_n (x := a0) dX7_get_0 rfl ?_
  refine r_if_lt (tgt := 27) dX7_get_1 (by decide) (fun hc => ?_) (fun hc => ?_)
  · have hf := (am_if hf).1 hc
    refine r_lconst (v := 0) dX7_get_27 rfl ?_
    have hx := am_inj hf
    subst hx
    exact r_lret dX7_get_28 rfl (le_b rfl) (le_b rfl)
  · have hf := (am_if hf).2 hc
    refine r_iload_n (x := a0) dX7_get_4 rfl ?_
    refine r_aload_n (x := (32, v, 0)) dX7_get_5 rfl ?_
    refine e_geti fw_X7_15 dX7_get_6 (kC_mem (s := 32) (by decide) hv (by decide)) rfl (lt_b rfl) ?_
    refine r_icmp_ge (tgt := 27) dX7_get_9 (by decide) (fun hc => ?_) (fun hc => ?_)
    · have hf := (am_if hf).1 hc
      refine r_lconst (v := 0) dX7_get_27 rfl ?_
      have hx := am_inj hf
      subst hx
      exact r_lret dX7_get_28 rfl (le_b rfl) (le_b rfl)
    · have hf := (am_if hf).2 hc
      refine r_iload_n (x := a0) dX7_get_12 rfl ?_
      refine r_bipush (v := 60) dX7_get_13 rfl ?_
      refine r_icmp_ge (tgt := 27) dX7_get_15 (by decide) (fun hc => ?_) (fun hc => ?_)
      · have hf := (am_if hf).1 hc
        refine r_lconst (v := 0) dX7_get_27 rfl ?_
        have hx := am_inj hf
        subst hx
        exact r_lret dX7_get_28 rfl (le_b rfl) (le_b rfl)
      · have hf := (am_if hf).2 hc
        refine r_aload_n (x := (32, v, 0)) dX7_get_18 rfl ?_
        refine e_getr (z := some (33, v, 0)) fw_X7_18 dX7_get_19 (kC_mem (s := 32) (by decide) hv (by decide)) rfl (lt_b rfl) rfl ?_
        refine r_iload_n (x := a0) dX7_get_22 rfl ?_
        obtain ⟨h1, hf⟩ := am_nchk hf
        refine e_lald (n := a0.toNatClampNeg) dX7_get_23 (kC_mem (s := 33) (by decide) hv (by decide)) rfl h1 rfl rfl ?_
        refine r_goto (tgt := 28) dX7_get_24 (by decide) ?_
        have hx := am_inj hf
        subst hx
        exact r_lret dX7_get_28 rfl (le_b rfl) (le_b rfl)
/-! FireFromFire$Tape.cut -/
theorem dX7_cut_0 : decode cX7_cut 0 = .ok (.aload_n 0, 1) := by decide +kernel
theorem dX7_cut_1 : decode cX7_cut 1 = .ok (.getfield 9, 3) := by decide +kernel
theorem dX7_cut_4 : decode cX7_cut 4 = .ok (.tableswitch 62 0 4 #[36, 41, 46, 62, 50], 36) := by decide +kernel
theorem dX7_cut_40 : decode cX7_cut 40 = .ok (.lload_n 1, 1) := by decide +kernel
theorem dX7_cut_41 : decode cX7_cut 41 = .ok (.l2i, 1) := by decide +kernel
theorem dX7_cut_42 : decode cX7_cut 42 = .ok (.i2b, 1) := by decide +kernel
theorem dX7_cut_43 : decode cX7_cut 43 = .ok (.i2l, 1) := by decide +kernel
theorem dX7_cut_44 : decode cX7_cut 44 = .ok (.lreturn, 1) := by decide +kernel
theorem dX7_cut_45 : decode cX7_cut 45 = .ok (.lload_n 1, 1) := by decide +kernel
theorem dX7_cut_46 : decode cX7_cut 46 = .ok (.l2i, 1) := by decide +kernel
theorem dX7_cut_47 : decode cX7_cut 47 = .ok (.i2s, 1) := by decide +kernel
theorem dX7_cut_48 : decode cX7_cut 48 = .ok (.i2l, 1) := by decide +kernel
theorem dX7_cut_49 : decode cX7_cut 49 = .ok (.lreturn, 1) := by decide +kernel
theorem dX7_cut_50 : decode cX7_cut 50 = .ok (.lload_n 1, 1) := by decide +kernel
theorem dX7_cut_51 : decode cX7_cut 51 = .ok (.l2i, 1) := by decide +kernel
theorem dX7_cut_52 : decode cX7_cut 52 = .ok (.i2l, 1) := by decide +kernel
theorem dX7_cut_53 : decode cX7_cut 53 = .ok (.lreturn, 1) := by decide +kernel
theorem dX7_cut_54 : decode cX7_cut 54 = .ok (.lload_n 1, 1) := by decide +kernel
theorem dX7_cut_55 : decode cX7_cut 55 = .ok (.lconst 0, 1) := by decide +kernel
theorem dX7_cut_56 : decode cX7_cut 56 = .ok (.lcmp, 1) := by decide +kernel
theorem dX7_cut_57 : decode cX7_cut 57 = .ok (.ifCond .eq 7, 3) := by decide +kernel
theorem dX7_cut_60 : decode cX7_cut 60 = .ok (.lconst 1, 1) := by decide +kernel
theorem dX7_cut_61 : decode cX7_cut 61 = .ok (.goto 4, 3) := by decide +kernel
theorem dX7_cut_64 : decode cX7_cut 64 = .ok (.lconst 0, 1) := by decide +kernel
theorem dX7_cut_65 : decode cX7_cut 65 = .ok (.lreturn, 1) := by decide +kernel
theorem dX7_cut_66 : decode cX7_cut 66 = .ok (.lload_n 1, 1) := by decide +kernel
theorem dX7_cut_67 : decode cX7_cut 67 = .ok (.lreturn, 1) := by decide +kernel
def f_X7_cut (v : Nat) (a0 : Int64) (u : PM) : Option (Int64) :=
  if (u.1 (32, v, 0) 0) = (0 : Int32) then
    some a0.toInt32.toInt8.toInt32.toInt64
  else if (u.1 (32, v, 0) 0) = (1 : Int32) then
    some a0.toInt32.toInt16.toInt32.toInt64
  else if (u.1 (32, v, 0) 0) = (2 : Int32) then
    some a0.toInt32.toInt64
  else if (u.1 (32, v, 0) 0) = (3 : Int32) then
    some a0
  else if (u.1 (32, v, 0) 0) = (4 : Int32) then
    if (lg_cmp a0 (0 : Int64)) = 0 then
      some (0 : Int64)
    else
    some (1 : Int64)
  else 
  some a0
set_option maxHeartbeats 4000000 in
set_option maxRecDepth 20000 in
theorem C_X7_cut {l : Launch} {v : Nat} (hv : v < 6) {a0 : Int64} {u : PM} {x : Int64} (hf : f_X7_cut v a0 u = some x) : Ev l mX7_cut 1 0 0 false [vR (32, v, 0), vJ a0] kC (en u) (some (vJ x), kC, en u) := by
  refine Ev_of (by decide +kernel) (le_b rfl) ?_
  unfold f_X7_cut at hf
  show X l mX7_cut 1 0 0 false _ kC 0 0 0 [some (vR (32, v, 0)), some (vJ a0), none] [] (en u)
  refine r_aload_n (x := (32, v, 0)) dX7_cut_0 rfl ?_
  refine e_geti fw_X7_9 dX7_cut_1 (kC_mem (s := 32) (by decide) hv (by decide)) rfl (lt_b rfl) ?_
  by_cases hs0 : (u.1 (32, v, 0) 0) = (0 : Int32)
  · have hf := (am_if hf).1 hs0
    refine r_tswIn (x := u.1 (32, v, 0) 0) (kx := 0) (tgt := 40) dX7_cut_4 hs0 (by decide) (by decide) rfl (by decide) ?_
    refine r_lload_n (x := a0) dX7_cut_40 rfl ?_
    refine r_l2i dX7_cut_41 ?_
    refine r_i2b dX7_cut_42 ?_
    refine r_i2l dX7_cut_43 ?_
    have hx := am_inj hf
    subst hx
    exact r_lret dX7_cut_44 rfl (le_b rfl) (le_b rfl)
  have hf := (am_if hf).2 hs0
  by_cases hs1 : (u.1 (32, v, 0) 0) = (1 : Int32)
  · have hf := (am_if hf).1 hs1
    refine r_tswIn (x := u.1 (32, v, 0) 0) (kx := 1) (tgt := 45) dX7_cut_4 hs1 (by decide) (by decide) rfl (by decide) ?_
    refine r_lload_n (x := a0) dX7_cut_45 rfl ?_
    refine r_l2i dX7_cut_46 ?_
    refine r_i2s dX7_cut_47 ?_
    refine r_i2l dX7_cut_48 ?_
    have hx := am_inj hf
    subst hx
    exact r_lret dX7_cut_49 rfl (le_b rfl) (le_b rfl)
  have hf := (am_if hf).2 hs1
  by_cases hs2 : (u.1 (32, v, 0) 0) = (2 : Int32)
  · have hf := (am_if hf).1 hs2
    refine r_tswIn (x := u.1 (32, v, 0) 0) (kx := 2) (tgt := 50) dX7_cut_4 hs2 (by decide) (by decide) rfl (by decide) ?_
    refine r_lload_n (x := a0) dX7_cut_50 rfl ?_
    refine r_l2i dX7_cut_51 ?_
    refine r_i2l dX7_cut_52 ?_
    have hx := am_inj hf
    subst hx
    exact r_lret dX7_cut_53 rfl (le_b rfl) (le_b rfl)
  have hf := (am_if hf).2 hs2
  by_cases hs3 : (u.1 (32, v, 0) 0) = (3 : Int32)
  · have hf := (am_if hf).1 hs3
    refine r_tswIn (x := u.1 (32, v, 0) 0) (kx := 3) (tgt := 66) dX7_cut_4 hs3 (by decide) (by decide) rfl (by decide) ?_
    refine r_lload_n (x := a0) dX7_cut_66 rfl ?_
    have hx := am_inj hf
    subst hx
    exact r_lret dX7_cut_67 rfl (le_b rfl) (le_b rfl)
  have hf := (am_if hf).2 hs3
  by_cases hs4 : (u.1 (32, v, 0) 0) = (4 : Int32)
  · have hf := (am_if hf).1 hs4
    refine r_tswIn (x := u.1 (32, v, 0) 0) (kx := 4) (tgt := 54) dX7_cut_4 hs4 (by decide) (by decide) rfl (by decide) ?_
    refine r_lload_n (x := a0) dX7_cut_54 rfl ?_
    refine r_lconst (v := 0) dX7_cut_55 rfl ?_
    refine r_lcmp dX7_cut_56 ?_
    refine r_if_eq (tgt := 64) dX7_cut_57 (by decide) (fun hc => ?_) (fun hc => ?_)
    · have hf := (am_if hf).1 hc
      refine r_lconst (v := 0) dX7_cut_64 rfl ?_
      have hx := am_inj hf
      subst hx
      exact r_lret dX7_cut_65 rfl (le_b rfl) (le_b rfl)
    · have hf := (am_if hf).2 hc
      refine r_lconst (v := 1) dX7_cut_60 rfl ?_
      refine r_goto (tgt := 65) dX7_cut_61 (by decide) ?_
      have hx := am_inj hf
      subst hx
      exact r_lret dX7_cut_65 rfl (le_b rfl) (le_b rfl)
  have hf := (am_if hf).2 hs4
  refine r_tswOut (x := u.1 (32, v, 0) 0) (tgt := 66) dX7_cut_4 (by have ehs0 := am_neI hs0 (z := 0) rfl; have ehs1 := am_neI hs1 (z := 1) rfl; have ehs2 := am_neI hs2 (z := 2) rfl; have ehs3 := am_neI hs3 (z := 3) rfl; have ehs4 := am_neI hs4 (z := 4) rfl; omega) (by decide) ?_
  refine r_lload_n (x := a0) dX7_cut_66 rfl ?_
  have hx := am_inj hf
  subst hx
  exact r_lret dX7_cut_67 rfl (le_b rfl) (le_b rfl)
/-! FireFromFire$Tape.put -/
theorem dX7_put_0 : decode cX7_put 0 = .ok (.iload_n 1, 1) := by decide +kernel
theorem dX7_put_1 : decode cX7_put 1 = .ok (.ifCond .lt 28, 3) := by decide +kernel
theorem dX7_put_4 : decode cX7_put 4 = .ok (.iload_n 1, 1) := by decide +kernel
theorem dX7_put_5 : decode cX7_put 5 = .ok (.aload_n 0, 1) := by decide +kernel
theorem dX7_put_6 : decode cX7_put 6 = .ok (.getfield 15, 3) := by decide +kernel
theorem dX7_put_9 : decode cX7_put 9 = .ok (.if_icmp .ge 20, 3) := by decide +kernel
theorem dX7_put_12 : decode cX7_put 12 = .ok (.iload_n 1, 1) := by decide +kernel
theorem dX7_put_13 : decode cX7_put 13 = .ok (.bipush 60, 2) := by decide +kernel
theorem dX7_put_15 : decode cX7_put 15 = .ok (.if_icmp .ge 14, 3) := by decide +kernel
theorem dX7_put_18 : decode cX7_put 18 = .ok (.aload_n 0, 1) := by decide +kernel
theorem dX7_put_19 : decode cX7_put 19 = .ok (.getfield 18, 3) := by decide +kernel
theorem dX7_put_22 : decode cX7_put 22 = .ok (.iload_n 1, 1) := by decide +kernel
theorem dX7_put_23 : decode cX7_put 23 = .ok (.aload_n 0, 1) := by decide +kernel
theorem dX7_put_24 : decode cX7_put 24 = .ok (.lload_n 2, 1) := by decide +kernel
theorem dX7_put_25 : decode cX7_put 25 = .ok (.invokevirtual 22, 3) := by decide +kernel
theorem dX7_put_28 : decode cX7_put 28 = .ok (.lastore, 1) := by decide +kernel
theorem dX7_put_29 : decode cX7_put 29 = .ok (.return_, 1) := by decide +kernel
def f_X7_put (v : Nat) (a0 : Int32) (a1 : Int64) (u : PM) : Option (PM) :=
  if a0 < 0 then
    some u
  else
  if (u.1 (32, v, 0) 1) ≤ a0 then
    some u
  else
  if (60 : Int32) ≤ a0 then
    some u
  else
  (f_X7_cut v a1 u).bind fun r1 =>
  if a0 < 0 ∨ 60 ≤ a0.toNatClampNeg then none else
  some (pl u (33, v, 0) a0.toNatClampNeg r1)
set_option maxHeartbeats 4000000 in
set_option maxRecDepth 20000 in
theorem C_X7_put {l : Launch} {v : Nat} (hv : v < 6) {a0 : Int32} {a1 : Int64} {u : PM} {x : PM} (hf : f_X7_put v a0 a1 u = some x) : Ev l mX7_put 2 0 0 false [vR (32, v, 0), vI a0, vJ a1] kC (en u) (none, kC, en x) := by
  refine Ev_of (by decide +kernel) (le_b rfl) ?_
  unfold f_X7_put at hf
  show X l mX7_put 2 0 0 false _ kC 0 0 0 [some (vR (32, v, 0)), some (vI a0), some (vJ a1), none] [] (en u)
  refine r_iload_n (x := a0) dX7_put_0 rfl ?_
  refine r_if_lt (tgt := 29) dX7_put_1 (by decide) (fun hc => ?_) (fun hc => ?_)
  · have hf := (am_if hf).1 hc
    have hx := am_inj hf
    subst hx
    exact r_vret dX7_put_29 rfl (le_b rfl) (le_b rfl)
  · have hf := (am_if hf).2 hc
    refine r_iload_n (x := a0) dX7_put_4 rfl ?_
    refine r_aload_n (x := (32, v, 0)) dX7_put_5 rfl ?_
    refine e_geti fw_X7_15 dX7_put_6 (kC_mem (s := 32) (by decide) hv (by decide)) rfl (lt_b rfl) ?_
    refine r_icmp_ge (tgt := 29) dX7_put_9 (by decide) (fun hc => ?_) (fun hc => ?_)
    · have hf := (am_if hf).1 hc
      have hx := am_inj hf
      subst hx
      exact r_vret dX7_put_29 rfl (le_b rfl) (le_b rfl)
    · have hf := (am_if hf).2 hc
      refine r_iload_n (x := a0) dX7_put_12 rfl ?_
      refine r_bipush (v := 60) dX7_put_13 rfl ?_
      refine r_icmp_ge (tgt := 29) dX7_put_15 (by decide) (fun hc => ?_) (fun hc => ?_)
      · have hf := (am_if hf).1 hc
        have hx := am_inj hf
        subst hx
        exact r_vret dX7_put_29 rfl (le_b rfl) (le_b rfl)
      · have hf := (am_if hf).2 hc
        refine r_aload_n (x := (32, v, 0)) dX7_put_18 rfl ?_
        refine e_getr (z := some (33, v, 0)) fw_X7_18 dX7_put_19 (kC_mem (s := 32) (by decide) hv (by decide)) rfl (lt_b rfl) rfl ?_
        refine r_iload_n (x := a0) dX7_put_22 rfl ?_
        refine r_aload_n (x := (32, v, 0)) dX7_put_23 rfl ?_
        refine r_lload_n (x := a1) dX7_put_24 rfl ?_
        obtain ⟨r1, hr2, hf⟩ := am_bind hf
        refine r_callV (as := [vJ a1]) (st := [vI a0, vR (33, v, 0)]) (n := 1) mw_X7_22 mv_X7_cut (C_X7_cut (l := l) hv hr2) (le_b rfl) dX7_put_25 (kC_mem (s := 32) (by decide) hv (by decide)) rfl rfl rfl (le_b rfl) (le_b rfl) (le_b rfl) ?_
        show X l _ _ 0 0 false _ kC 0 0 28 [some (vR (32, v, 0)), some (vI a0), some (vJ a1), none] [vJ r1, vI a0, vR (33, v, 0)] (en u)
        obtain ⟨h3, hf⟩ := am_nchk hf
        refine e_last (n := a0.toNatClampNeg) dX7_put_28 (kC_mem (s := 33) (by decide) hv (by decide)) rfl h3 rfl ?_
        have hx := am_inj hf
        subst hx
        exact r_vret dX7_put_29 rfl (le_b rfl) (le_b rfl)
/-! FireFromFire$Acts.begin -/
theorem dX0_begin_0 : decode cX0_begin 0 = .ok (.aload_n 0, 1) := by decide +kernel
theorem dX0_begin_1 : decode cX0_begin 1 = .ok (.iconst 0, 1) := by decide +kernel
theorem dX0_begin_2 : decode cX0_begin 2 = .ok (.putfield 9, 3) := by decide +kernel
theorem dX0_begin_5 : decode cX0_begin 5 = .ok (.aload_n 1, 1) := by decide +kernel
theorem dX0_begin_6 : decode cX0_begin 6 = .ok (.ifnull 24, 3) := by decide +kernel
theorem dX0_begin_9 : decode cX0_begin 9 = .ok (.aload_n 0, 1) := by decide +kernel
theorem dX0_begin_10 : decode cX0_begin 10 = .ok (.aload_n 1, 1) := by decide +kernel
theorem dX0_begin_11 : decode cX0_begin 11 = .ok (.getfield 28, 3) := by decide +kernel
theorem dX0_begin_14 : decode cX0_begin 14 = .ok (.putfield 19, 3) := by decide +kernel
theorem dX0_begin_17 : decode cX0_begin 17 = .ok (.aload_n 0, 1) := by decide +kernel
theorem dX0_begin_18 : decode cX0_begin 18 = .ok (.aload_n 1, 1) := by decide +kernel
theorem dX0_begin_19 : decode cX0_begin 19 = .ok (.getfield 31, 3) := by decide +kernel
theorem dX0_begin_22 : decode cX0_begin 22 = .ok (.putfield 22, 3) := by decide +kernel
theorem dX0_begin_25 : decode cX0_begin 25 = .ok (.aload_n 0, 1) := by decide +kernel
theorem dX0_begin_26 : decode cX0_begin 26 = .ok (.iload_n 2, 1) := by decide +kernel
theorem dX0_begin_27 : decode cX0_begin 27 = .ok (.putfield 25, 3) := by decide +kernel
theorem dX0_begin_30 : decode cX0_begin 30 = .ok (.return_, 1) := by decide +kernel
def f_X0_begin (w : Nat) (o : Option Nat) (a1 : Int32) (u : PM) : Option (PM) :=
  match o with
  | none =>
    some (pi u (29, 0, 0) 0 (0 : Int32))
  | some z0 =>
    if z0 < 6 then
      some (pi (pi (pi (pi u (29, 0, 0) 0 (0 : Int32)) (29, 0, 0) 2 (u.1 (3, w, z0) 2)) (29, 0, 0) 3 (u.1 (3, w, z0) 3)) (29, 0, 0) 4 a1)
    else none
set_option maxHeartbeats 4000000 in
set_option maxRecDepth 20000 in
theorem C_X0_begin {l : Launch} {w : Nat} (hw : w < 4) {o : Option Nat} {a1 : Int32} {u : PM} {x : PM} (hf : f_X0_begin w o a1 u = some x) : Ev l mX0_begin 1 0 0 false [vR (29, 0, 0), vO (o.map fun z => (3, w, z)), vI a1] kC (en u) (none, kC, en x) := by
  refine Ev_of (by decide +kernel) (le_b rfl) ?_
  unfold f_X0_begin at hf
  show X l mX0_begin 1 0 0 false _ kC 0 0 0 [some (vR (29, 0, 0)), some (vO (o.map fun z => (3, w, z))), some (vI a1)] [] (en u)
  cases o with
  | none =>
    show X l _ _ 0 0 false _ kC 0 0 0 [some (vR (29, 0, 0)), some (vN), some (vI a1)] [] (en u)
    refine r_aload_n (x := (29, 0, 0)) dX0_begin_0 rfl ?_
    refine r_iconst (v := 0) dX0_begin_1 rfl ?_
    refine e_puti fp_X0_9 dX0_begin_2 (kC_mem (s := 29) (by decide) (by decide) (by decide)) rfl (lt_b rfl) rfl rfl rfl ?_
    refine r_aload_nN dX0_begin_5 rfl ?_
    refine r_ifnullN (tgt := 30) dX0_begin_6 (by decide) ?_
    have hx := am_inj hf
    subst hx
    exact r_vret dX0_begin_30 rfl (le_b rfl) (le_b rfl)
  | some z0 =>
    obtain ⟨ho, hf⟩ := am_chk hf
    show X l _ _ 0 0 false _ kC 0 0 0 [some (vR (29, 0, 0)), some (vR (3, w, z0)), some (vI a1)] [] (en u)
    refine r_aload_n (x := (29, 0, 0)) dX0_begin_0 rfl ?_
    refine r_iconst (v := 0) dX0_begin_1 rfl ?_
    refine e_puti fp_X0_9 dX0_begin_2 (kC_mem (s := 29) (by decide) (by decide) (by decide)) rfl (lt_b rfl) rfl rfl rfl ?_
    refine r_aload_n (x := (3, w, z0)) dX0_begin_5 rfl ?_
    refine r_ifnullR dX0_begin_6 ?_
    refine r_aload_n (x := (29, 0, 0)) dX0_begin_9 rfl ?_
    refine r_aload_n (x := (3, w, z0)) dX0_begin_10 rfl ?_
    refine e_geti_ (x := u.1 (3, w, z0) 2) fw_X0_28 dX0_begin_11 (kC_mem (s := 3) (by decide) hw ho) rfl (lt_b rfl) (by simp [pi, pl, pr, pci, pcl]) ?_
    refine e_puti fp_X0_19 dX0_begin_14 (kC_mem (s := 29) (by decide) (by decide) (by decide)) rfl (lt_b rfl) rfl rfl rfl ?_
    refine r_aload_n (x := (29, 0, 0)) dX0_begin_17 rfl ?_
    refine r_aload_n (x := (3, w, z0)) dX0_begin_18 rfl ?_
    refine e_geti_ (x := u.1 (3, w, z0) 3) fw_X0_31 dX0_begin_19 (kC_mem (s := 3) (by decide) hw ho) rfl (lt_b rfl) (by simp [pi, pl, pr, pci, pcl]) ?_
    refine e_puti fp_X0_22 dX0_begin_22 (kC_mem (s := 29) (by decide) (by decide) (by decide)) rfl (lt_b rfl) rfl rfl rfl ?_
    refine r_aload_n (x := (29, 0, 0)) dX0_begin_25 rfl ?_
    refine r_iload_n (x := a1) dX0_begin_26 rfl ?_
    refine e_puti fp_X0_25 dX0_begin_27 (kC_mem (s := 29) (by decide) (by decide) (by decide)) rfl (lt_b rfl) rfl rfl rfl ?_
    have hx := am_inj hf
    subst hx
    exact r_vret dX0_begin_30 rfl (le_b rfl) (le_b rfl)
/-! FireFromFire$Acts.note -/
theorem dX0_note_0 : decode cX0_note 0 = .ok (.aload_n 0, 1) := by decide +kernel
theorem dX0_note_1 : decode cX0_note 1 = .ok (.getfield 9, 3) := by decide +kernel
theorem dX0_note_4 : decode cX0_note 4 = .ok (.ifCond .lt 22, 3) := by decide +kernel
theorem dX0_note_7 : decode cX0_note 7 = .ok (.aload_n 0, 1) := by decide +kernel
theorem dX0_note_8 : decode cX0_note 8 = .ok (.getfield 9, 3) := by decide +kernel
theorem dX0_note_11 : decode cX0_note 11 = .ok (.bipush 20, 2) := by decide +kernel
theorem dX0_note_13 : decode cX0_note 13 = .ok (.if_icmp .ge 13, 3) := by decide +kernel
theorem dX0_note_16 : decode cX0_note 16 = .ok (.aload_n 0, 1) := by decide +kernel
theorem dX0_note_17 : decode cX0_note 17 = .ok (.getfield 15, 3) := by decide +kernel
theorem dX0_note_20 : decode cX0_note 20 = .ok (.aload_n 0, 1) := by decide +kernel
theorem dX0_note_21 : decode cX0_note 21 = .ok (.getfield 9, 3) := by decide +kernel
theorem dX0_note_24 : decode cX0_note 24 = .ok (.iload_n 1, 1) := by decide +kernel
theorem dX0_note_25 : decode cX0_note 25 = .ok (.iastore, 1) := by decide +kernel
theorem dX0_note_26 : decode cX0_note 26 = .ok (.aload_n 0, 1) := by decide +kernel
theorem dX0_note_27 : decode cX0_note 27 = .ok (.dup, 1) := by decide +kernel
theorem dX0_note_28 : decode cX0_note 28 = .ok (.getfield 9, 3) := by decide +kernel
theorem dX0_note_31 : decode cX0_note 31 = .ok (.iconst 1, 1) := by decide +kernel
theorem dX0_note_32 : decode cX0_note 32 = .ok (.iadd, 1) := by decide +kernel
theorem dX0_note_33 : decode cX0_note 33 = .ok (.putfield 9, 3) := by decide +kernel
theorem dX0_note_36 : decode cX0_note 36 = .ok (.return_, 1) := by decide +kernel
def f_X0_note  (a0 : Int32) (u : PM) : Option (PM) :=
  if (u.1 (29, 0, 0) 0) < 0 then
    some (pi u (29, 0, 0) 0 ((u.1 (29, 0, 0) 0) + (1 : Int32)))
  else
  if (20 : Int32) ≤ (u.1 (29, 0, 0) 0) then
    some (pi u (29, 0, 0) 0 ((u.1 (29, 0, 0) 0) + (1 : Int32)))
  else
  if (u.1 (29, 0, 0) 0) < 0 ∨ 20 ≤ (u.1 (29, 0, 0) 0).toNatClampNeg then none else
  some (pi (pi u (30, 0, 0) ((u.1 (29, 0, 0) 0).toNatClampNeg) a0) (29, 0, 0) 0 ((u.1 (29, 0, 0) 0) + (1 : Int32)))
set_option maxHeartbeats 4000000 in
set_option maxRecDepth 20000 in
theorem C_X0_note {l : Launch}  {a0 : Int32} {u : PM} {x : PM} (hf : f_X0_note a0 u = some x) : Ev l mX0_note 1 0 0 false [vR (29, 0, 0), vI a0] kC (en u) (none, kC, en x) := by
  refine Ev_of (by decide +kernel) (le_b rfl) ?_
  unfold f_X0_note at hf
  show X l mX0_note 1 0 0 false _ kC 0 0 0 [some (vR (29, 0, 0)), some (vI a0)] [] (en u)
  refine r_aload_n (x := (29, 0, 0)) dX0_note_0 rfl ?_
  refine e_geti fw_X0_9 dX0_note_1 (kC_mem (s := 29) (by decide) (by decide) (by decide)) rfl (lt_b rfl) ?_
  refine r_if_lt (tgt := 26) dX0_note_4 (by decide) (fun hc => ?_) (fun hc => ?_)
  · have hf := (am_if hf).1 hc
    refine r_aload_n (x := (29, 0, 0)) dX0_note_26 rfl ?_
    refine r_dup dX0_note_27 rfl ?_
    refine e_geti fw_X0_9 dX0_note_28 (kC_mem (s := 29) (by decide) (by decide) (by decide)) rfl (lt_b rfl) ?_
    refine r_iconst (v := 1) dX0_note_31 rfl ?_
    refine r_iadd dX0_note_32 ?_
    refine e_puti fp_X0_9 dX0_note_33 (kC_mem (s := 29) (by decide) (by decide) (by decide)) rfl (lt_b rfl) rfl rfl rfl ?_
    have hx := am_inj hf
    subst hx
    exact r_vret dX0_note_36 rfl (le_b rfl) (le_b rfl)
  · have hf := (am_if hf).2 hc
    refine r_aload_n (x := (29, 0, 0)) dX0_note_7 rfl ?_
    refine e_geti fw_X0_9 dX0_note_8 (kC_mem (s := 29) (by decide) (by decide) (by decide)) rfl (lt_b rfl) ?_
    refine r_bipush (v := 20) dX0_note_11 rfl ?_
    refine r_icmp_ge (tgt := 26) dX0_note_13 (by decide) (fun hc => ?_) (fun hc => ?_)
    · have hf := (am_if hf).1 hc
      refine r_aload_n (x := (29, 0, 0)) dX0_note_26 rfl ?_
      refine r_dup dX0_note_27 rfl ?_
      refine e_geti fw_X0_9 dX0_note_28 (kC_mem (s := 29) (by decide) (by decide) (by decide)) rfl (lt_b rfl) ?_
      refine r_iconst (v := 1) dX0_note_31 rfl ?_
      refine r_iadd dX0_note_32 ?_
      refine e_puti fp_X0_9 dX0_note_33 (kC_mem (s := 29) (by decide) (by decide) (by decide)) rfl (lt_b rfl) rfl rfl rfl ?_
      have hx := am_inj hf
      subst hx
      exact r_vret dX0_note_36 rfl (le_b rfl) (le_b rfl)
    · have hf := (am_if hf).2 hc
      refine r_aload_n (x := (29, 0, 0)) dX0_note_16 rfl ?_
      refine e_getr (z := some (30, 0, 0)) fw_X0_15 dX0_note_17 (kC_mem (s := 29) (by decide) (by decide) (by decide)) rfl (lt_b rfl) rfl ?_
      refine r_aload_n (x := (29, 0, 0)) dX0_note_20 rfl ?_
      refine e_geti fw_X0_9 dX0_note_21 (kC_mem (s := 29) (by decide) (by decide) (by decide)) rfl (lt_b rfl) ?_
      refine r_iload_n (x := a0) dX0_note_24 rfl ?_
      obtain ⟨h1, hf⟩ := am_nchk hf
      refine e_iast (n := (u.1 (29, 0, 0) 0).toNatClampNeg) dX0_note_25 (kC_mem (s := 30) (by decide) (by decide) (by decide)) rfl h1 rfl ?_
      refine r_aload_n (x := (29, 0, 0)) dX0_note_26 rfl ?_
      refine r_dup dX0_note_27 rfl ?_
      refine e_geti_ (x := u.1 (29, 0, 0) 0) fw_X0_9 dX0_note_28 (kC_mem (s := 29) (by decide) (by decide) (by decide)) rfl (lt_b rfl) (by simp [pi, pl, pr, pci, pcl]) ?_
      refine r_iconst (v := 1) dX0_note_31 rfl ?_
      refine r_iadd dX0_note_32 ?_
      refine e_puti fp_X0_9 dX0_note_33 (kC_mem (s := 29) (by decide) (by decide) (by decide)) rfl (lt_b rfl) rfl rfl rfl ?_
      have hx := am_inj hf
      subst hx
      exact r_vret dX0_note_36 rfl (le_b rfl) (le_b rfl)
/-! FireFromFire$Acts.plainKeeps -/
theorem dX0_plainKeeps_0 : decode cX0_plainKeeps 0 = .ok (.aload_n 0, 1) := by decide +kernel
theorem dX0_plainKeeps_1 : decode cX0_plainKeeps 1 = .ok (.bipush 10, 2) := by decide +kernel
theorem dX0_plainKeeps_3 : decode cX0_plainKeeps 3 = .ok (.invokevirtual 32, 3) := by decide +kernel
theorem dX0_plainKeeps_6 : decode cX0_plainKeeps 6 = .ok (.iload_n 1, 1) := by decide +kernel
theorem dX0_plainKeeps_7 : decode cX0_plainKeeps 7 = .ok (.aload_n 0, 1) := by decide +kernel
theorem dX0_plainKeeps_8 : decode cX0_plainKeeps 8 = .ok (.getfield 25, 3) := by decide +kernel
theorem dX0_plainKeeps_11 : decode cX0_plainKeeps 11 = .ok (.iadd, 1) := by decide +kernel
theorem dX0_plainKeeps_12 : decode cX0_plainKeeps 12 = .ok (.ireturn, 1) := by decide +kernel
def f_X0_plainKeeps  (a0 : Int32) (u : PM) : Option (Int32 × PM) :=
  (f_X0_note (10 : Int32) u).bind fun r1 =>
  some (a0 + (r1.1 (29, 0, 0) 4), r1)
set_option maxHeartbeats 4000000 in
set_option maxRecDepth 20000 in
theorem C_X0_plainKeeps {l : Launch}  {a0 : Int32} {u : PM} {x : Int32 × PM} (hf : f_X0_plainKeeps a0 u = some x) : Ev l mX0_plainKeeps 2 0 0 false [vR (29, 0, 0), vI a0] kC (en u) (some (vI x.1), kC, en x.2) := by
  refine Ev_of (by decide +kernel) (le_b rfl) ?_
  unfold f_X0_plainKeeps at hf
  show X l mX0_plainKeeps 2 0 0 false _ kC 0 0 0 [some (vR (29, 0, 0)), some (vI a0)] [] (en u)
  refine r_aload_n (x := (29, 0, 0)) dX0_plainKeeps_0 rfl ?_
  refine r_bipush (v := 10) dX0_plainKeeps_1 rfl ?_
  obtain ⟨r1, hr2, hf⟩ := am_bind hf
  refine r_callV (as := [vI (10 : Int32)]) (st := []) (n := 1) mw_X0_32 mv_X0_note (C_X0_note (l := l) hr2) (le_b rfl) dX0_plainKeeps_3 (kC_mem (s := 29) (by decide) (by decide) (by decide)) rfl rfl rfl (le_b rfl) (le_b rfl) (le_b rfl) ?_
  show X l _ _ 0 0 false _ kC 0 0 6 [some (vR (29, 0, 0)), some (vI a0)] [] (en r1)
  refine r_iload_n (x := a0) dX0_plainKeeps_6 rfl ?_
  refine r_aload_n (x := (29, 0, 0)) dX0_plainKeeps_7 rfl ?_
  refine e_geti fw_X0_25 dX0_plainKeeps_8 (kC_mem (s := 29) (by decide) (by decide) (by decide)) rfl (lt_b rfl) ?_
  refine r_iadd dX0_plainKeeps_11 ?_
  have hx := am_inj hf
  subst hx
  exact r_iret dX0_plainKeeps_12 rfl rfl (le_b rfl) (le_b rfl)
/-! FireFromFire$Acts.keepsBody -/
theorem dX0_keepsBody_0 : decode cX0_keepsBody 0 = .ok (.aload_n 0, 1) := by decide +kernel
theorem dX0_keepsBody_1 : decode cX0_keepsBody 1 = .ok (.getfield 19, 3) := by decide +kernel
theorem dX0_keepsBody_4 : decode cX0_keepsBody 4 = .ok (.tableswitch 80 2 6 #[36, 80, 50, 36, 63], 36) := by decide +kernel
theorem dX0_keepsBody_40 : decode cX0_keepsBody 40 = .ok (.aload_n 0, 1) := by decide +kernel
theorem dX0_keepsBody_41 : decode cX0_keepsBody 41 = .ok (.bipush 30, 2) := by decide +kernel
theorem dX0_keepsBody_43 : decode cX0_keepsBody 43 = .ok (.invokevirtual 32, 3) := by decide +kernel
theorem dX0_keepsBody_46 : decode cX0_keepsBody 46 = .ok (.aload_n 0, 1) := by decide +kernel
theorem dX0_keepsBody_47 : decode cX0_keepsBody 47 = .ok (.iload_n 1, 1) := by decide +kernel
theorem dX0_keepsBody_48 : decode cX0_keepsBody 48 = .ok (.iconst 3, 1) := by decide +kernel
theorem dX0_keepsBody_49 : decode cX0_keepsBody 49 = .ok (.imul, 1) := by decide +kernel
theorem dX0_keepsBody_50 : decode cX0_keepsBody 50 = .ok (.invokevirtual 36, 3) := by decide +kernel
theorem dX0_keepsBody_53 : decode cX0_keepsBody 53 = .ok (.ireturn, 1) := by decide +kernel
theorem dX0_keepsBody_54 : decode cX0_keepsBody 54 = .ok (.aload_n 0, 1) := by decide +kernel
theorem dX0_keepsBody_55 : decode cX0_keepsBody 55 = .ok (.bipush 50, 2) := by decide +kernel
theorem dX0_keepsBody_57 : decode cX0_keepsBody 57 = .ok (.invokevirtual 32, 3) := by decide +kernel
theorem dX0_keepsBody_60 : decode cX0_keepsBody 60 = .ok (.aload_n 0, 1) := by decide +kernel
theorem dX0_keepsBody_61 : decode cX0_keepsBody 61 = .ok (.iload_n 1, 1) := by decide +kernel
theorem dX0_keepsBody_62 : decode cX0_keepsBody 62 = .ok (.invokevirtual 36, 3) := by decide +kernel
theorem dX0_keepsBody_65 : decode cX0_keepsBody 65 = .ok (.ineg, 1) := by decide +kernel
theorem dX0_keepsBody_66 : decode cX0_keepsBody 66 = .ok (.ireturn, 1) := by decide +kernel
theorem dX0_keepsBody_67 : decode cX0_keepsBody 67 = .ok (.aload_n 0, 1) := by decide +kernel
theorem dX0_keepsBody_68 : decode cX0_keepsBody 68 = .ok (.bipush 71, 2) := by decide +kernel
theorem dX0_keepsBody_70 : decode cX0_keepsBody 70 = .ok (.invokevirtual 32, 3) := by decide +kernel
theorem dX0_keepsBody_73 : decode cX0_keepsBody 73 = .ok (.aload_n 0, 1) := by decide +kernel
theorem dX0_keepsBody_74 : decode cX0_keepsBody 74 = .ok (.iload_n 1, 1) := by decide +kernel
theorem dX0_keepsBody_75 : decode cX0_keepsBody 75 = .ok (.invokevirtual 36, 3) := by decide +kernel
theorem dX0_keepsBody_78 : decode cX0_keepsBody 78 = .ok (.aload_n 0, 1) := by decide +kernel
theorem dX0_keepsBody_79 : decode cX0_keepsBody 79 = .ok (.getfield 22, 3) := by decide +kernel
theorem dX0_keepsBody_82 : decode cX0_keepsBody 82 = .ok (.ixor, 1) := by decide +kernel
theorem dX0_keepsBody_83 : decode cX0_keepsBody 83 = .ok (.ireturn, 1) := by decide +kernel
theorem dX0_keepsBody_84 : decode cX0_keepsBody 84 = .ok (.aload_n 0, 1) := by decide +kernel
theorem dX0_keepsBody_85 : decode cX0_keepsBody 85 = .ok (.iload_n 1, 1) := by decide +kernel
theorem dX0_keepsBody_86 : decode cX0_keepsBody 86 = .ok (.invokevirtual 36, 3) := by decide +kernel
theorem dX0_keepsBody_89 : decode cX0_keepsBody 89 = .ok (.ireturn, 1) := by decide +kernel
def f_X0_keepsBody  (a0 : Int32) (u : PM) : Option (Int32 × PM) :=
  if (u.1 (29, 0, 0) 2) = (2 : Int32) then
    (f_X0_note (30 : Int32) u).bind fun r1 =>
    (f_X0_plainKeeps (a0 * (3 : Int32)) r1).bind fun (r3, u5) =>
    some (r3, u5)
  else if (u.1 (29, 0, 0) 2) = (3 : Int32) then
    (f_X0_plainKeeps a0 u).bind fun (r6, u8) =>
    some (r6, u8)
  else if (u.1 (29, 0, 0) 2) = (4 : Int32) then
    (f_X0_note (50 : Int32) u).bind fun r9 =>
    (f_X0_plainKeeps a0 r9).bind fun (r11, u13) =>
    some (-r11, u13)
  else if (u.1 (29, 0, 0) 2) = (5 : Int32) then
    (f_X0_note (30 : Int32) u).bind fun r14 =>
    (f_X0_plainKeeps (a0 * (3 : Int32)) r14).bind fun (r16, u18) =>
    some (r16, u18)
  else if (u.1 (29, 0, 0) 2) = (6 : Int32) then
    (f_X0_note (71 : Int32) u).bind fun r19 =>
    (f_X0_plainKeeps a0 r19).bind fun (r21, u23) =>
    some (r21 ^^^ (u23.1 (29, 0, 0) 3), u23)
  else 
  (f_X0_plainKeeps a0 u).bind fun (r24, u26) =>
  some (r24, u26)
set_option maxHeartbeats 4000000 in
set_option maxRecDepth 20000 in
theorem C_X0_keepsBody {l : Launch}  {a0 : Int32} {u : PM} {x : Int32 × PM} (hf : f_X0_keepsBody a0 u = some x) : Ev l mX0_keepsBody 3 0 0 false [vR (29, 0, 0), vI a0] kC (en u) (some (vI x.1), kC, en x.2) := by
  refine Ev_of (by decide +kernel) (le_b rfl) ?_
  unfold f_X0_keepsBody at hf
  show X l mX0_keepsBody 3 0 0 false _ kC 0 0 0 [some (vR (29, 0, 0)), some (vI a0)] [] (en u)
  refine r_aload_n (x := (29, 0, 0)) dX0_keepsBody_0 rfl ?_
  refine e_geti fw_X0_19 dX0_keepsBody_1 (kC_mem (s := 29) (by decide) (by decide) (by decide)) rfl (lt_b rfl) ?_
  by_cases hs0 : (u.1 (29, 0, 0) 2) = (2 : Int32)
  · have hf := (am_if hf).1 hs0
    refine r_tswIn (x := u.1 (29, 0, 0) 2) (kx := 2) (tgt := 40) dX0_keepsBody_4 hs0 (by decide) (by decide) rfl (by decide) ?_
    refine r_aload_n (x := (29, 0, 0)) dX0_keepsBody_40 rfl ?_
    refine r_bipush (v := 30) dX0_keepsBody_41 rfl ?_
    obtain ⟨r1, hr2, hf⟩ := am_bind hf
    refine r_callV (as := [vI (30 : Int32)]) (st := []) (n := 1) mw_X0_32 mv_X0_note (C_X0_note (l := l) hr2) (le_b rfl) dX0_keepsBody_43 (kC_mem (s := 29) (by decide) (by decide) (by decide)) rfl rfl rfl (le_b rfl) (le_b rfl) (le_b rfl) ?_
    show X l _ _ 0 0 false _ kC 0 0 46 [some (vR (29, 0, 0)), some (vI a0)] [] (en r1)
    refine r_aload_n (x := (29, 0, 0)) dX0_keepsBody_46 rfl ?_
    refine r_iload_n (x := a0) dX0_keepsBody_47 rfl ?_
    refine r_iconst (v := 3) dX0_keepsBody_48 rfl ?_
    refine r_imul dX0_keepsBody_49 ?_
    obtain ⟨⟨r3, u5⟩, hr4, hf⟩ := am_bind hf
    refine r_callV (as := [vI (a0 * (3 : Int32))]) (st := []) (n := 1) mw_X0_36 mv_X0_plainKeeps (C_X0_plainKeeps (l := l) hr4) (le_b rfl) dX0_keepsBody_50 (kC_mem (s := 29) (by decide) (by decide) (by decide)) rfl rfl rfl (le_b rfl) (le_b rfl) (le_b rfl) ?_
    show X l _ _ 0 0 false _ kC 0 0 53 [some (vR (29, 0, 0)), some (vI a0)] [vI r3] (en u5)
    have hx := am_inj hf
    subst hx
    exact r_iret dX0_keepsBody_53 rfl rfl (le_b rfl) (le_b rfl)
  have hf := (am_if hf).2 hs0
  by_cases hs1 : (u.1 (29, 0, 0) 2) = (3 : Int32)
  · have hf := (am_if hf).1 hs1
    refine r_tswIn (x := u.1 (29, 0, 0) 2) (kx := 3) (tgt := 84) dX0_keepsBody_4 hs1 (by decide) (by decide) rfl (by decide) ?_
    refine r_aload_n (x := (29, 0, 0)) dX0_keepsBody_84 rfl ?_
    refine r_iload_n (x := a0) dX0_keepsBody_85 rfl ?_
    obtain ⟨⟨r6, u8⟩, hr7, hf⟩ := am_bind hf
    refine r_callV (as := [vI a0]) (st := []) (n := 1) mw_X0_36 mv_X0_plainKeeps (C_X0_plainKeeps (l := l) hr7) (le_b rfl) dX0_keepsBody_86 (kC_mem (s := 29) (by decide) (by decide) (by decide)) rfl rfl rfl (le_b rfl) (le_b rfl) (le_b rfl) ?_
    show X l _ _ 0 0 false _ kC 0 0 89 [some (vR (29, 0, 0)), some (vI a0)] [vI r6] (en u8)
    have hx := am_inj hf
    subst hx
    exact r_iret dX0_keepsBody_89 rfl rfl (le_b rfl) (le_b rfl)
  have hf := (am_if hf).2 hs1
  by_cases hs2 : (u.1 (29, 0, 0) 2) = (4 : Int32)
  · have hf := (am_if hf).1 hs2
    refine r_tswIn (x := u.1 (29, 0, 0) 2) (kx := 4) (tgt := 54) dX0_keepsBody_4 hs2 (by decide) (by decide) rfl (by decide) ?_
    refine r_aload_n (x := (29, 0, 0)) dX0_keepsBody_54 rfl ?_
    refine r_bipush (v := 50) dX0_keepsBody_55 rfl ?_
    obtain ⟨r9, hr10, hf⟩ := am_bind hf
    refine r_callV (as := [vI (50 : Int32)]) (st := []) (n := 1) mw_X0_32 mv_X0_note (C_X0_note (l := l) hr10) (le_b rfl) dX0_keepsBody_57 (kC_mem (s := 29) (by decide) (by decide) (by decide)) rfl rfl rfl (le_b rfl) (le_b rfl) (le_b rfl) ?_
    show X l _ _ 0 0 false _ kC 0 0 60 [some (vR (29, 0, 0)), some (vI a0)] [] (en r9)
    refine r_aload_n (x := (29, 0, 0)) dX0_keepsBody_60 rfl ?_
    refine r_iload_n (x := a0) dX0_keepsBody_61 rfl ?_
    obtain ⟨⟨r11, u13⟩, hr12, hf⟩ := am_bind hf
    refine r_callV (as := [vI a0]) (st := []) (n := 1) mw_X0_36 mv_X0_plainKeeps (C_X0_plainKeeps (l := l) hr12) (le_b rfl) dX0_keepsBody_62 (kC_mem (s := 29) (by decide) (by decide) (by decide)) rfl rfl rfl (le_b rfl) (le_b rfl) (le_b rfl) ?_
    show X l _ _ 0 0 false _ kC 0 0 65 [some (vR (29, 0, 0)), some (vI a0)] [vI r11] (en u13)
    refine r_ineg dX0_keepsBody_65 ?_
    have hx := am_inj hf
    subst hx
    exact r_iret dX0_keepsBody_66 rfl rfl (le_b rfl) (le_b rfl)
  have hf := (am_if hf).2 hs2
  by_cases hs3 : (u.1 (29, 0, 0) 2) = (5 : Int32)
  · have hf := (am_if hf).1 hs3
    refine r_tswIn (x := u.1 (29, 0, 0) 2) (kx := 5) (tgt := 40) dX0_keepsBody_4 hs3 (by decide) (by decide) rfl (by decide) ?_
    refine r_aload_n (x := (29, 0, 0)) dX0_keepsBody_40 rfl ?_
    refine r_bipush (v := 30) dX0_keepsBody_41 rfl ?_
    obtain ⟨r14, hr15, hf⟩ := am_bind hf
    refine r_callV (as := [vI (30 : Int32)]) (st := []) (n := 1) mw_X0_32 mv_X0_note (C_X0_note (l := l) hr15) (le_b rfl) dX0_keepsBody_43 (kC_mem (s := 29) (by decide) (by decide) (by decide)) rfl rfl rfl (le_b rfl) (le_b rfl) (le_b rfl) ?_
    show X l _ _ 0 0 false _ kC 0 0 46 [some (vR (29, 0, 0)), some (vI a0)] [] (en r14)
    refine r_aload_n (x := (29, 0, 0)) dX0_keepsBody_46 rfl ?_
    refine r_iload_n (x := a0) dX0_keepsBody_47 rfl ?_
    refine r_iconst (v := 3) dX0_keepsBody_48 rfl ?_
    refine r_imul dX0_keepsBody_49 ?_
    obtain ⟨⟨r16, u18⟩, hr17, hf⟩ := am_bind hf
    refine r_callV (as := [vI (a0 * (3 : Int32))]) (st := []) (n := 1) mw_X0_36 mv_X0_plainKeeps (C_X0_plainKeeps (l := l) hr17) (le_b rfl) dX0_keepsBody_50 (kC_mem (s := 29) (by decide) (by decide) (by decide)) rfl rfl rfl (le_b rfl) (le_b rfl) (le_b rfl) ?_
    show X l _ _ 0 0 false _ kC 0 0 53 [some (vR (29, 0, 0)), some (vI a0)] [vI r16] (en u18)
    have hx := am_inj hf
    subst hx
    exact r_iret dX0_keepsBody_53 rfl rfl (le_b rfl) (le_b rfl)
  have hf := (am_if hf).2 hs3
  by_cases hs4 : (u.1 (29, 0, 0) 2) = (6 : Int32)
  · have hf := (am_if hf).1 hs4
    refine r_tswIn (x := u.1 (29, 0, 0) 2) (kx := 6) (tgt := 67) dX0_keepsBody_4 hs4 (by decide) (by decide) rfl (by decide) ?_
    refine r_aload_n (x := (29, 0, 0)) dX0_keepsBody_67 rfl ?_
    refine r_bipush (v := 71) dX0_keepsBody_68 rfl ?_
    obtain ⟨r19, hr20, hf⟩ := am_bind hf
    refine r_callV (as := [vI (71 : Int32)]) (st := []) (n := 1) mw_X0_32 mv_X0_note (C_X0_note (l := l) hr20) (le_b rfl) dX0_keepsBody_70 (kC_mem (s := 29) (by decide) (by decide) (by decide)) rfl rfl rfl (le_b rfl) (le_b rfl) (le_b rfl) ?_
    show X l _ _ 0 0 false _ kC 0 0 73 [some (vR (29, 0, 0)), some (vI a0)] [] (en r19)
    refine r_aload_n (x := (29, 0, 0)) dX0_keepsBody_73 rfl ?_
    refine r_iload_n (x := a0) dX0_keepsBody_74 rfl ?_
    obtain ⟨⟨r21, u23⟩, hr22, hf⟩ := am_bind hf
    refine r_callV (as := [vI a0]) (st := []) (n := 1) mw_X0_36 mv_X0_plainKeeps (C_X0_plainKeeps (l := l) hr22) (le_b rfl) dX0_keepsBody_75 (kC_mem (s := 29) (by decide) (by decide) (by decide)) rfl rfl rfl (le_b rfl) (le_b rfl) (le_b rfl) ?_
    show X l _ _ 0 0 false _ kC 0 0 78 [some (vR (29, 0, 0)), some (vI a0)] [vI r21] (en u23)
    refine r_aload_n (x := (29, 0, 0)) dX0_keepsBody_78 rfl ?_
    refine e_geti fw_X0_22 dX0_keepsBody_79 (kC_mem (s := 29) (by decide) (by decide) (by decide)) rfl (lt_b rfl) ?_
    refine r_ixor dX0_keepsBody_82 ?_
    have hx := am_inj hf
    subst hx
    exact r_iret dX0_keepsBody_83 rfl rfl (le_b rfl) (le_b rfl)
  have hf := (am_if hf).2 hs4
  refine r_tswOut (x := u.1 (29, 0, 0) 2) (tgt := 84) dX0_keepsBody_4 (by have ehs0 := am_neI hs0 (z := 2) rfl; have ehs1 := am_neI hs1 (z := 3) rfl; have ehs2 := am_neI hs2 (z := 4) rfl; have ehs3 := am_neI hs3 (z := 5) rfl; have ehs4 := am_neI hs4 (z := 6) rfl; omega) (by decide) ?_
  refine r_aload_n (x := (29, 0, 0)) dX0_keepsBody_84 rfl ?_
  refine r_iload_n (x := a0) dX0_keepsBody_85 rfl ?_
  obtain ⟨⟨r24, u26⟩, hr25, hf⟩ := am_bind hf
  refine r_callV (as := [vI a0]) (st := []) (n := 1) mw_X0_36 mv_X0_plainKeeps (C_X0_plainKeeps (l := l) hr25) (le_b rfl) dX0_keepsBody_86 (kC_mem (s := 29) (by decide) (by decide) (by decide)) rfl rfl rfl (le_b rfl) (le_b rfl) (le_b rfl) ?_
  show X l _ _ 0 0 false _ kC 0 0 89 [some (vR (29, 0, 0)), some (vI a0)] [vI r24] (en u26)
  have hx := am_inj hf
  subst hx
  exact r_iret dX0_keepsBody_89 rfl rfl (le_b rfl) (le_b rfl)
/-! FireFromFire$Acts.plainSends -/
theorem dX0_plainSends_0 : decode cX0_plainSends 0 = .ok (.aload_n 0, 1) := by decide +kernel
theorem dX0_plainSends_1 : decode cX0_plainSends 1 = .ok (.bipush 11, 2) := by decide +kernel
theorem dX0_plainSends_3 : decode cX0_plainSends 3 = .ok (.invokevirtual 32, 3) := by decide +kernel
theorem dX0_plainSends_6 : decode cX0_plainSends 6 = .ok (.aload_n 0, 1) := by decide +kernel
theorem dX0_plainSends_7 : decode cX0_plainSends 7 = .ok (.iload_n 1, 1) := by decide +kernel
theorem dX0_plainSends_8 : decode cX0_plainSends 8 = .ok (.invokevirtual 46, 3) := by decide +kernel
theorem dX0_plainSends_11 : decode cX0_plainSends 11 = .ok (.aload_n 0, 1) := by decide +kernel
theorem dX0_plainSends_12 : decode cX0_plainSends 12 = .ok (.getfield 22, 3) := by decide +kernel
theorem dX0_plainSends_15 : decode cX0_plainSends 15 = .ok (.isub, 1) := by decide +kernel
theorem dX0_plainSends_16 : decode cX0_plainSends 16 = .ok (.ireturn, 1) := by decide +kernel
def f_X0_plainSends  (a0 : Int32) (u : PM) : Option (Int32 × PM) :=
  (f_X0_note (11 : Int32) u).bind fun r1 =>
  (f_X0_keepsBody a0 r1).bind fun (r3, u5) =>
  some (r3 - (u5.1 (29, 0, 0) 3), u5)
set_option maxHeartbeats 4000000 in
set_option maxRecDepth 20000 in
theorem C_X0_plainSends {l : Launch}  {a0 : Int32} {u : PM} {x : Int32 × PM} (hf : f_X0_plainSends a0 u = some x) : Ev l mX0_plainSends 4 0 0 false [vR (29, 0, 0), vI a0] kC (en u) (some (vI x.1), kC, en x.2) := by
  refine Ev_of (by decide +kernel) (le_b rfl) ?_
  unfold f_X0_plainSends at hf
  show X l mX0_plainSends 4 0 0 false _ kC 0 0 0 [some (vR (29, 0, 0)), some (vI a0)] [] (en u)
  refine r_aload_n (x := (29, 0, 0)) dX0_plainSends_0 rfl ?_
  refine r_bipush (v := 11) dX0_plainSends_1 rfl ?_
  obtain ⟨r1, hr2, hf⟩ := am_bind hf
  refine r_callV (as := [vI (11 : Int32)]) (st := []) (n := 1) mw_X0_32 mv_X0_note (C_X0_note (l := l) hr2) (le_b rfl) dX0_plainSends_3 (kC_mem (s := 29) (by decide) (by decide) (by decide)) rfl rfl rfl (le_b rfl) (le_b rfl) (le_b rfl) ?_
  show X l _ _ 0 0 false _ kC 0 0 6 [some (vR (29, 0, 0)), some (vI a0)] [] (en r1)
  refine r_aload_n (x := (29, 0, 0)) dX0_plainSends_6 rfl ?_
  refine r_iload_n (x := a0) dX0_plainSends_7 rfl ?_
  obtain ⟨⟨r3, u5⟩, hr4, hf⟩ := am_bind hf
  refine r_callV (as := [vI a0]) (st := []) (n := 1) mw_X0_46 mv_X0_keepsBody (C_X0_keepsBody (l := l) hr4) (le_b rfl) dX0_plainSends_8 (kC_mem (s := 29) (by decide) (by decide) (by decide)) rfl rfl rfl (le_b rfl) (le_b rfl) (le_b rfl) ?_
  show X l _ _ 0 0 false _ kC 0 0 11 [some (vR (29, 0, 0)), some (vI a0)] [vI r3] (en u5)
  refine r_aload_n (x := (29, 0, 0)) dX0_plainSends_11 rfl ?_
  refine e_geti fw_X0_22 dX0_plainSends_12 (kC_mem (s := 29) (by decide) (by decide) (by decide)) rfl (lt_b rfl) ?_
  refine r_isub dX0_plainSends_15 ?_
  have hx := am_inj hf
  subst hx
  exact r_iret dX0_plainSends_16 rfl rfl (le_b rfl) (le_b rfl)
/-! FireFromFire$Acts.sendsBody -/
theorem dX0_sendsBody_0 : decode cX0_sendsBody 0 = .ok (.aload_n 0, 1) := by decide +kernel
theorem dX0_sendsBody_1 : decode cX0_sendsBody 1 = .ok (.getfield 19, 3) := by decide +kernel
theorem dX0_sendsBody_4 : decode cX0_sendsBody 4 = .ok (.lookupswitch 94 #[(1, 36), (4, 51), (6, 74)], 36) := by decide +kernel
theorem dX0_sendsBody_40 : decode cX0_sendsBody 40 = .ok (.aload_n 0, 1) := by decide +kernel
theorem dX0_sendsBody_41 : decode cX0_sendsBody 41 = .ok (.bipush 20, 2) := by decide +kernel
theorem dX0_sendsBody_43 : decode cX0_sendsBody 43 = .ok (.invokevirtual 32, 3) := by decide +kernel
theorem dX0_sendsBody_46 : decode cX0_sendsBody 46 = .ok (.aload_n 0, 1) := by decide +kernel
theorem dX0_sendsBody_47 : decode cX0_sendsBody 47 = .ok (.iload_n 1, 1) := by decide +kernel
theorem dX0_sendsBody_48 : decode cX0_sendsBody 48 = .ok (.invokevirtual 40, 3) := by decide +kernel
theorem dX0_sendsBody_51 : decode cX0_sendsBody 51 = .ok (.bipush 6, 2) := by decide +kernel
theorem dX0_sendsBody_53 : decode cX0_sendsBody 53 = .ok (.ixor, 1) := by decide +kernel
theorem dX0_sendsBody_54 : decode cX0_sendsBody 54 = .ok (.ireturn, 1) := by decide +kernel
theorem dX0_sendsBody_55 : decode cX0_sendsBody 55 = .ok (.aload_n 0, 1) := by decide +kernel
theorem dX0_sendsBody_56 : decode cX0_sendsBody 56 = .ok (.bipush 51, 2) := by decide +kernel
theorem dX0_sendsBody_58 : decode cX0_sendsBody 58 = .ok (.invokevirtual 32, 3) := by decide +kernel
theorem dX0_sendsBody_61 : decode cX0_sendsBody 61 = .ok (.aload_n 0, 1) := by decide +kernel
theorem dX0_sendsBody_62 : decode cX0_sendsBody 62 = .ok (.bipush 20, 2) := by decide +kernel
theorem dX0_sendsBody_64 : decode cX0_sendsBody 64 = .ok (.invokevirtual 32, 3) := by decide +kernel
theorem dX0_sendsBody_67 : decode cX0_sendsBody 67 = .ok (.aload_n 0, 1) := by decide +kernel
theorem dX0_sendsBody_68 : decode cX0_sendsBody 68 = .ok (.iload_n 1, 1) := by decide +kernel
theorem dX0_sendsBody_69 : decode cX0_sendsBody 69 = .ok (.iconst 1, 1) := by decide +kernel
theorem dX0_sendsBody_70 : decode cX0_sendsBody 70 = .ok (.iadd, 1) := by decide +kernel
theorem dX0_sendsBody_71 : decode cX0_sendsBody 71 = .ok (.invokevirtual 40, 3) := by decide +kernel
theorem dX0_sendsBody_74 : decode cX0_sendsBody 74 = .ok (.bipush 6, 2) := by decide +kernel
theorem dX0_sendsBody_76 : decode cX0_sendsBody 76 = .ok (.ixor, 1) := by decide +kernel
theorem dX0_sendsBody_77 : decode cX0_sendsBody 77 = .ok (.ireturn, 1) := by decide +kernel
theorem dX0_sendsBody_78 : decode cX0_sendsBody 78 = .ok (.aload_n 0, 1) := by decide +kernel
theorem dX0_sendsBody_79 : decode cX0_sendsBody 79 = .ok (.bipush 70, 2) := by decide +kernel
theorem dX0_sendsBody_81 : decode cX0_sendsBody 81 = .ok (.invokevirtual 32, 3) := by decide +kernel
theorem dX0_sendsBody_84 : decode cX0_sendsBody 84 = .ok (.aload_n 0, 1) := by decide +kernel
theorem dX0_sendsBody_85 : decode cX0_sendsBody 85 = .ok (.iload_n 1, 1) := by decide +kernel
theorem dX0_sendsBody_86 : decode cX0_sendsBody 86 = .ok (.invokevirtual 40, 3) := by decide +kernel
theorem dX0_sendsBody_89 : decode cX0_sendsBody 89 = .ok (.istore_n 2, 1) := by decide +kernel
theorem dX0_sendsBody_90 : decode cX0_sendsBody 90 = .ok (.iload_n 2, 1) := by decide +kernel
theorem dX0_sendsBody_91 : decode cX0_sendsBody 91 = .ok (.aload_n 0, 1) := by decide +kernel
theorem dX0_sendsBody_92 : decode cX0_sendsBody 92 = .ok (.iconst 2, 1) := by decide +kernel
theorem dX0_sendsBody_93 : decode cX0_sendsBody 93 = .ok (.invokevirtual 36, 3) := by decide +kernel
theorem dX0_sendsBody_96 : decode cX0_sendsBody 96 = .ok (.iadd, 1) := by decide +kernel
theorem dX0_sendsBody_97 : decode cX0_sendsBody 97 = .ok (.ireturn, 1) := by decide +kernel
theorem dX0_sendsBody_98 : decode cX0_sendsBody 98 = .ok (.aload_n 0, 1) := by decide +kernel
theorem dX0_sendsBody_99 : decode cX0_sendsBody 99 = .ok (.iload_n 1, 1) := by decide +kernel
theorem dX0_sendsBody_100 : decode cX0_sendsBody 100 = .ok (.invokevirtual 40, 3) := by decide +kernel
theorem dX0_sendsBody_103 : decode cX0_sendsBody 103 = .ok (.ireturn, 1) := by decide +kernel
def f_X0_sendsBody  (a0 : Int32) (u : PM) : Option (Int32 × PM) :=
  if (u.1 (29, 0, 0) 2) = (1 : Int32) then
    (f_X0_note (20 : Int32) u).bind fun r1 =>
    (f_X0_plainSends a0 r1).bind fun (r3, u5) =>
    some (r3 ^^^ (6 : Int32), u5)
  else if (u.1 (29, 0, 0) 2) = (4 : Int32) then
    (f_X0_note (51 : Int32) u).bind fun r6 =>
    (f_X0_note (20 : Int32) r6).bind fun r8 =>
    (f_X0_plainSends (a0 + (1 : Int32)) r8).bind fun (r10, u12) =>
    some (r10 ^^^ (6 : Int32), u12)
  else if (u.1 (29, 0, 0) 2) = (6 : Int32) then
    (f_X0_note (70 : Int32) u).bind fun r13 =>
    (f_X0_plainSends a0 r13).bind fun (r15, u17) =>
    (f_X0_plainKeeps (2 : Int32) u17).bind fun (r18, u20) =>
    some (r15 + r18, u20)
  else 
  (f_X0_plainSends a0 u).bind fun (r21, u23) =>
  some (r21, u23)
set_option maxHeartbeats 4000000 in
set_option maxRecDepth 20000 in
theorem C_X0_sendsBody {l : Launch}  {a0 : Int32} {u : PM} {x : Int32 × PM} (hf : f_X0_sendsBody a0 u = some x) : Ev l mX0_sendsBody 5 0 0 false [vR (29, 0, 0), vI a0] kC (en u) (some (vI x.1), kC, en x.2) := by
  refine Ev_of (by decide +kernel) (le_b rfl) ?_
  unfold f_X0_sendsBody at hf
  show X l mX0_sendsBody 5 0 0 false _ kC 0 0 0 [some (vR (29, 0, 0)), some (vI a0), none] [] (en u)
  refine r_aload_n (x := (29, 0, 0)) dX0_sendsBody_0 rfl ?_
  refine e_geti fw_X0_19 dX0_sendsBody_1 (kC_mem (s := 29) (by decide) (by decide) (by decide)) rfl (lt_b rfl) ?_
  by_cases hs0 : (u.1 (29, 0, 0) 2) = (1 : Int32)
  · have hf := (am_if hf).1 hs0
    refine r_lookup (x := u.1 (29, 0, 0) 2) (tgt := 40) (off := 36) dX0_sendsBody_4 (by decide) (by rw [hs0]; rfl) (by decide) ?_
    refine r_aload_n (x := (29, 0, 0)) dX0_sendsBody_40 rfl ?_
    refine r_bipush (v := 20) dX0_sendsBody_41 rfl ?_
    obtain ⟨r1, hr2, hf⟩ := am_bind hf
    refine r_callV (as := [vI (20 : Int32)]) (st := []) (n := 1) mw_X0_32 mv_X0_note (C_X0_note (l := l) hr2) (le_b rfl) dX0_sendsBody_43 (kC_mem (s := 29) (by decide) (by decide) (by decide)) rfl rfl rfl (le_b rfl) (le_b rfl) (le_b rfl) ?_
    show X l _ _ 0 0 false _ kC 0 0 46 [some (vR (29, 0, 0)), some (vI a0), none] [] (en r1)
    refine r_aload_n (x := (29, 0, 0)) dX0_sendsBody_46 rfl ?_
    refine r_iload_n (x := a0) dX0_sendsBody_47 rfl ?_
    obtain ⟨⟨r3, u5⟩, hr4, hf⟩ := am_bind hf
    refine r_callV (as := [vI a0]) (st := []) (n := 1) mw_X0_40 mv_X0_plainSends (C_X0_plainSends (l := l) hr4) (le_b rfl) dX0_sendsBody_48 (kC_mem (s := 29) (by decide) (by decide) (by decide)) rfl rfl rfl (le_b rfl) (le_b rfl) (le_b rfl) ?_
    show X l _ _ 0 0 false _ kC 0 0 51 [some (vR (29, 0, 0)), some (vI a0), none] [vI r3] (en u5)
    refine r_bipush (v := 6) dX0_sendsBody_51 rfl ?_
    refine r_ixor dX0_sendsBody_53 ?_
    have hx := am_inj hf
    subst hx
    exact r_iret dX0_sendsBody_54 rfl rfl (le_b rfl) (le_b rfl)
  have hf := (am_if hf).2 hs0
  by_cases hs1 : (u.1 (29, 0, 0) 2) = (4 : Int32)
  · have hf := (am_if hf).1 hs1
    refine r_lookup (x := u.1 (29, 0, 0) 2) (tgt := 55) (off := 51) dX0_sendsBody_4 (by decide) (by rw [hs1]; rfl) (by decide) ?_
    refine r_aload_n (x := (29, 0, 0)) dX0_sendsBody_55 rfl ?_
    refine r_bipush (v := 51) dX0_sendsBody_56 rfl ?_
    obtain ⟨r6, hr7, hf⟩ := am_bind hf
    refine r_callV (as := [vI (51 : Int32)]) (st := []) (n := 1) mw_X0_32 mv_X0_note (C_X0_note (l := l) hr7) (le_b rfl) dX0_sendsBody_58 (kC_mem (s := 29) (by decide) (by decide) (by decide)) rfl rfl rfl (le_b rfl) (le_b rfl) (le_b rfl) ?_
    show X l _ _ 0 0 false _ kC 0 0 61 [some (vR (29, 0, 0)), some (vI a0), none] [] (en r6)
    refine r_aload_n (x := (29, 0, 0)) dX0_sendsBody_61 rfl ?_
    refine r_bipush (v := 20) dX0_sendsBody_62 rfl ?_
    obtain ⟨r8, hr9, hf⟩ := am_bind hf
    refine r_callV (as := [vI (20 : Int32)]) (st := []) (n := 1) mw_X0_32 mv_X0_note (C_X0_note (l := l) hr9) (le_b rfl) dX0_sendsBody_64 (kC_mem (s := 29) (by decide) (by decide) (by decide)) rfl rfl rfl (le_b rfl) (le_b rfl) (le_b rfl) ?_
    show X l _ _ 0 0 false _ kC 0 0 67 [some (vR (29, 0, 0)), some (vI a0), none] [] (en r8)
    refine r_aload_n (x := (29, 0, 0)) dX0_sendsBody_67 rfl ?_
    refine r_iload_n (x := a0) dX0_sendsBody_68 rfl ?_
    refine r_iconst (v := 1) dX0_sendsBody_69 rfl ?_
    refine r_iadd dX0_sendsBody_70 ?_
    obtain ⟨⟨r10, u12⟩, hr11, hf⟩ := am_bind hf
    refine r_callV (as := [vI (a0 + (1 : Int32))]) (st := []) (n := 1) mw_X0_40 mv_X0_plainSends (C_X0_plainSends (l := l) hr11) (le_b rfl) dX0_sendsBody_71 (kC_mem (s := 29) (by decide) (by decide) (by decide)) rfl rfl rfl (le_b rfl) (le_b rfl) (le_b rfl) ?_
    show X l _ _ 0 0 false _ kC 0 0 74 [some (vR (29, 0, 0)), some (vI a0), none] [vI r10] (en u12)
    refine r_bipush (v := 6) dX0_sendsBody_74 rfl ?_
    refine r_ixor dX0_sendsBody_76 ?_
    have hx := am_inj hf
    subst hx
    exact r_iret dX0_sendsBody_77 rfl rfl (le_b rfl) (le_b rfl)
  have hf := (am_if hf).2 hs1
  by_cases hs2 : (u.1 (29, 0, 0) 2) = (6 : Int32)
  · have hf := (am_if hf).1 hs2
    refine r_lookup (x := u.1 (29, 0, 0) 2) (tgt := 78) (off := 74) dX0_sendsBody_4 (by decide) (by rw [hs2]; rfl) (by decide) ?_
    refine r_aload_n (x := (29, 0, 0)) dX0_sendsBody_78 rfl ?_
    refine r_bipush (v := 70) dX0_sendsBody_79 rfl ?_
    obtain ⟨r13, hr14, hf⟩ := am_bind hf
    refine r_callV (as := [vI (70 : Int32)]) (st := []) (n := 1) mw_X0_32 mv_X0_note (C_X0_note (l := l) hr14) (le_b rfl) dX0_sendsBody_81 (kC_mem (s := 29) (by decide) (by decide) (by decide)) rfl rfl rfl (le_b rfl) (le_b rfl) (le_b rfl) ?_
    show X l _ _ 0 0 false _ kC 0 0 84 [some (vR (29, 0, 0)), some (vI a0), none] [] (en r13)
    refine r_aload_n (x := (29, 0, 0)) dX0_sendsBody_84 rfl ?_
    refine r_iload_n (x := a0) dX0_sendsBody_85 rfl ?_
    obtain ⟨⟨r15, u17⟩, hr16, hf⟩ := am_bind hf
    refine r_callV (as := [vI a0]) (st := []) (n := 1) mw_X0_40 mv_X0_plainSends (C_X0_plainSends (l := l) hr16) (le_b rfl) dX0_sendsBody_86 (kC_mem (s := 29) (by decide) (by decide) (by decide)) rfl rfl rfl (le_b rfl) (le_b rfl) (le_b rfl) ?_
    show X l _ _ 0 0 false _ kC 0 0 89 [some (vR (29, 0, 0)), some (vI a0), none] [vI r15] (en u17)
    refine r_istore_n (L' := [some (vR (29, 0, 0)), some (vI a0), some (vI r15)]) dX0_sendsBody_89 (by decide) rfl ?_
    refine r_iload_n (x := r15) dX0_sendsBody_90 rfl ?_
    refine r_aload_n (x := (29, 0, 0)) dX0_sendsBody_91 rfl ?_
    refine r_iconst (v := 2) dX0_sendsBody_92 rfl ?_
    obtain ⟨⟨r18, u20⟩, hr19, hf⟩ := am_bind hf
    refine r_callV (as := [vI (2 : Int32)]) (st := [vI r15]) (n := 1) mw_X0_36 mv_X0_plainKeeps (C_X0_plainKeeps (l := l) hr19) (le_b rfl) dX0_sendsBody_93 (kC_mem (s := 29) (by decide) (by decide) (by decide)) rfl rfl rfl (le_b rfl) (le_b rfl) (le_b rfl) ?_
    show X l _ _ 0 0 false _ kC 0 0 96 [some (vR (29, 0, 0)), some (vI a0), some (vI r15)] [vI r18, vI r15] (en u20)
    refine r_iadd dX0_sendsBody_96 ?_
    have hx := am_inj hf
    subst hx
    exact r_iret dX0_sendsBody_97 rfl rfl (le_b rfl) (le_b rfl)
  have hf := (am_if hf).2 hs2
  refine r_lookup (x := u.1 (29, 0, 0) 2) (tgt := 98) (off := 94) dX0_sendsBody_4 (by decide) (Eq.trans (lv_osw hs0 rfl) (Eq.trans (lv_osw hs1 rfl) (Eq.trans (lv_osw hs2 rfl) rfl))) (by decide) ?_
  refine r_aload_n (x := (29, 0, 0)) dX0_sendsBody_98 rfl ?_
  refine r_iload_n (x := a0) dX0_sendsBody_99 rfl ?_
  obtain ⟨⟨r21, u23⟩, hr22, hf⟩ := am_bind hf
  refine r_callV (as := [vI a0]) (st := []) (n := 1) mw_X0_40 mv_X0_plainSends (C_X0_plainSends (l := l) hr22) (le_b rfl) dX0_sendsBody_100 (kC_mem (s := 29) (by decide) (by decide) (by decide)) rfl rfl rfl (le_b rfl) (le_b rfl) (le_b rfl) ?_
  show X l _ _ 0 0 false _ kC 0 0 103 [some (vR (29, 0, 0)), some (vI a0), none] [vI r21] (en u23)
  have hx := am_inj hf
  subst hx
  exact r_iret dX0_sendsBody_103 rfl rfl (le_b rfl) (le_b rfl)
/-! FireFromFire$Acts.tellsBody -/
theorem dX0_tellsBody_0 : decode cX0_tellsBody 0 = .ok (.aload_n 0, 1) := by decide +kernel
theorem dX0_tellsBody_1 : decode cX0_tellsBody 1 = .ok (.getfield 19, 3) := by decide +kernel
theorem dX0_tellsBody_4 : decode cX0_tellsBody 4 = .ok (.iconst 3, 1) := by decide +kernel
theorem dX0_tellsBody_5 : decode cX0_tellsBody 5 = .ok (.if_icmp .eq 12, 3) := by decide +kernel
theorem dX0_tellsBody_8 : decode cX0_tellsBody 8 = .ok (.aload_n 0, 1) := by decide +kernel
theorem dX0_tellsBody_9 : decode cX0_tellsBody 9 = .ok (.getfield 19, 3) := by decide +kernel
theorem dX0_tellsBody_12 : decode cX0_tellsBody 12 = .ok (.bipush 6, 2) := by decide +kernel
theorem dX0_tellsBody_14 : decode cX0_tellsBody 14 = .ok (.if_icmp .ne 7, 3) := by decide +kernel
theorem dX0_tellsBody_17 : decode cX0_tellsBody 17 = .ok (.iconst 1, 1) := by decide +kernel
theorem dX0_tellsBody_18 : decode cX0_tellsBody 18 = .ok (.goto 4, 3) := by decide +kernel
theorem dX0_tellsBody_21 : decode cX0_tellsBody 21 = .ok (.iconst 0, 1) := by decide +kernel
theorem dX0_tellsBody_22 : decode cX0_tellsBody 22 = .ok (.istore_n 2, 1) := by decide +kernel
theorem dX0_tellsBody_23 : decode cX0_tellsBody 23 = .ok (.iload_n 2, 1) := by decide +kernel
theorem dX0_tellsBody_24 : decode cX0_tellsBody 24 = .ok (.ifCond .eq 12, 3) := by decide +kernel
theorem dX0_tellsBody_27 : decode cX0_tellsBody 27 = .ok (.aload_n 0, 1) := by decide +kernel
theorem dX0_tellsBody_28 : decode cX0_tellsBody 28 = .ok (.bipush 40, 2) := by decide +kernel
theorem dX0_tellsBody_30 : decode cX0_tellsBody 30 = .ok (.invokevirtual 32, 3) := by decide +kernel
theorem dX0_tellsBody_33 : decode cX0_tellsBody 33 = .ok (.goto 17, 3) := by decide +kernel
theorem dX0_tellsBody_36 : decode cX0_tellsBody 36 = .ok (.aload_n 0, 1) := by decide +kernel
theorem dX0_tellsBody_37 : decode cX0_tellsBody 37 = .ok (.getfield 19, 3) := by decide +kernel
theorem dX0_tellsBody_40 : decode cX0_tellsBody 40 = .ok (.iconst 5, 1) := by decide +kernel
theorem dX0_tellsBody_41 : decode cX0_tellsBody 41 = .ok (.if_icmp .ne 9, 3) := by decide +kernel
theorem dX0_tellsBody_44 : decode cX0_tellsBody 44 = .ok (.aload_n 0, 1) := by decide +kernel
theorem dX0_tellsBody_45 : decode cX0_tellsBody 45 = .ok (.bipush 60, 2) := by decide +kernel
theorem dX0_tellsBody_47 : decode cX0_tellsBody 47 = .ok (.invokevirtual 32, 3) := by decide +kernel
theorem dX0_tellsBody_50 : decode cX0_tellsBody 50 = .ok (.aload_n 0, 1) := by decide +kernel
theorem dX0_tellsBody_51 : decode cX0_tellsBody 51 = .ok (.bipush 12, 2) := by decide +kernel
theorem dX0_tellsBody_53 : decode cX0_tellsBody 53 = .ok (.invokevirtual 32, 3) := by decide +kernel
theorem dX0_tellsBody_56 : decode cX0_tellsBody 56 = .ok (.aload_n 0, 1) := by decide +kernel
theorem dX0_tellsBody_57 : decode cX0_tellsBody 57 = .ok (.aload_n 0, 1) := by decide +kernel
theorem dX0_tellsBody_58 : decode cX0_tellsBody 58 = .ok (.getfield 19, 3) := by decide +kernel
theorem dX0_tellsBody_61 : decode cX0_tellsBody 61 = .ok (.iconst 5, 1) := by decide +kernel
theorem dX0_tellsBody_62 : decode cX0_tellsBody 62 = .ok (.if_icmp .ne 12, 3) := by decide +kernel
theorem dX0_tellsBody_65 : decode cX0_tellsBody 65 = .ok (.iload_n 1, 1) := by decide +kernel
theorem dX0_tellsBody_66 : decode cX0_tellsBody 66 = .ok (.aload_n 0, 1) := by decide +kernel
theorem dX0_tellsBody_67 : decode cX0_tellsBody 67 = .ok (.getfield 25, 3) := by decide +kernel
theorem dX0_tellsBody_70 : decode cX0_tellsBody 70 = .ok (.isub, 1) := by decide +kernel
theorem dX0_tellsBody_71 : decode cX0_tellsBody 71 = .ok (.goto 4, 3) := by decide +kernel
theorem dX0_tellsBody_74 : decode cX0_tellsBody 74 = .ok (.iload_n 1, 1) := by decide +kernel
theorem dX0_tellsBody_75 : decode cX0_tellsBody 75 = .ok (.invokevirtual 43, 3) := by decide +kernel
theorem dX0_tellsBody_78 : decode cX0_tellsBody 78 = .ok (.iconst 2, 1) := by decide +kernel
theorem dX0_tellsBody_79 : decode cX0_tellsBody 79 = .ok (.imul, 1) := by decide +kernel
theorem dX0_tellsBody_80 : decode cX0_tellsBody 80 = .ok (.istore_n 3, 1) := by decide +kernel
theorem dX0_tellsBody_81 : decode cX0_tellsBody 81 = .ok (.iload_n 2, 1) := by decide +kernel
theorem dX0_tellsBody_82 : decode cX0_tellsBody 82 = .ok (.ifCond .eq 13, 3) := by decide +kernel
theorem dX0_tellsBody_85 : decode cX0_tellsBody 85 = .ok (.iload_n 3, 1) := by decide +kernel
theorem dX0_tellsBody_86 : decode cX0_tellsBody 86 = .ok (.aload_n 0, 1) := by decide +kernel
theorem dX0_tellsBody_87 : decode cX0_tellsBody 87 = .ok (.iconst 1, 1) := by decide +kernel
theorem dX0_tellsBody_88 : decode cX0_tellsBody 88 = .ok (.invokevirtual 43, 3) := by decide +kernel
theorem dX0_tellsBody_91 : decode cX0_tellsBody 91 = .ok (.iadd, 1) := by decide +kernel
theorem dX0_tellsBody_92 : decode cX0_tellsBody 92 = .ok (.goto 4, 3) := by decide +kernel
theorem dX0_tellsBody_95 : decode cX0_tellsBody 95 = .ok (.iload_n 3, 1) := by decide +kernel
theorem dX0_tellsBody_96 : decode cX0_tellsBody 96 = .ok (.ireturn, 1) := by decide +kernel
def f_X0_tellsBody  (a0 : Int32) (u : PM) : Option (Int32 × PM) :=
  if (u.1 (29, 0, 0) 2) = (3 : Int32) then
    (f_X0_note (40 : Int32) u).bind fun r1 =>
    (f_X0_note (12 : Int32) r1).bind fun r3 =>
    if (r3.1 (29, 0, 0) 2) = (5 : Int32) then
      (f_X0_sendsBody (a0 - (r3.1 (29, 0, 0) 4)) r3).bind fun (r11, u13) =>
      (f_X0_sendsBody (1 : Int32) u13).bind fun (r14, u16) =>
      some ((r11 * (2 : Int32)) + r14, u16)
    else
    (f_X0_sendsBody a0 r3).bind fun (r5, u7) =>
    (f_X0_sendsBody (1 : Int32) u7).bind fun (r8, u10) =>
    some ((r5 * (2 : Int32)) + r8, u10)
  else
  if (u.1 (29, 0, 0) 2) = (6 : Int32) then
    (f_X0_note (40 : Int32) u).bind fun r35 =>
    (f_X0_note (12 : Int32) r35).bind fun r37 =>
    if (r37.1 (29, 0, 0) 2) = (5 : Int32) then
      (f_X0_sendsBody (a0 - (r37.1 (29, 0, 0) 4)) r37).bind fun (r45, u47) =>
      (f_X0_sendsBody (1 : Int32) u47).bind fun (r48, u50) =>
      some ((r45 * (2 : Int32)) + r48, u50)
    else
    (f_X0_sendsBody a0 r37).bind fun (r39, u41) =>
    (f_X0_sendsBody (1 : Int32) u41).bind fun (r42, u44) =>
    some ((r39 * (2 : Int32)) + r42, u44)
  else
  if (u.1 (29, 0, 0) 2) = (5 : Int32) then
    (f_X0_note (60 : Int32) u).bind fun r25 =>
    (f_X0_note (12 : Int32) r25).bind fun r27 =>
    if (r27.1 (29, 0, 0) 2) = (5 : Int32) then
      (f_X0_sendsBody (a0 - (r27.1 (29, 0, 0) 4)) r27).bind fun (r32, u34) =>
      some (r32 * (2 : Int32), u34)
    else
    (f_X0_sendsBody a0 r27).bind fun (r29, u31) =>
    some (r29 * (2 : Int32), u31)
  else
  (f_X0_note (12 : Int32) u).bind fun r17 =>
  if (r17.1 (29, 0, 0) 2) = (5 : Int32) then
    (f_X0_sendsBody (a0 - (r17.1 (29, 0, 0) 4)) r17).bind fun (r22, u24) =>
    some (r22 * (2 : Int32), u24)
  else
  (f_X0_sendsBody a0 r17).bind fun (r19, u21) =>
  some (r19 * (2 : Int32), u21)
set_option maxHeartbeats 4000000 in
set_option maxRecDepth 20000 in
theorem C_X0_tellsBody {l : Launch}  {a0 : Int32} {u : PM} {x : Int32 × PM} (hf : f_X0_tellsBody a0 u = some x) : Ev l mX0_tellsBody 6 0 0 false [vR (29, 0, 0), vI a0] kC (en u) (some (vI x.1), kC, en x.2) := by
  refine Ev_of (by decide +kernel) (le_b rfl) ?_
  unfold f_X0_tellsBody at hf
  show X l mX0_tellsBody 6 0 0 false _ kC 0 0 0 [some (vR (29, 0, 0)), some (vI a0), none, none] [] (en u)
  refine r_aload_n (x := (29, 0, 0)) dX0_tellsBody_0 rfl ?_
  refine e_geti fw_X0_19 dX0_tellsBody_1 (kC_mem (s := 29) (by decide) (by decide) (by decide)) rfl (lt_b rfl) ?_
  refine r_iconst (v := 3) dX0_tellsBody_4 rfl ?_
  refine r_icmp_eq (tgt := 17) dX0_tellsBody_5 (by decide) (fun hc => ?_) (fun hc => ?_)
  · have hf := (am_if hf).1 hc
    refine r_iconst (v := 1) dX0_tellsBody_17 rfl ?_
    refine r_goto (tgt := 22) dX0_tellsBody_18 (by decide) ?_
    refine r_istore_n (L' := [some (vR (29, 0, 0)), some (vI a0), some (vI (1 : Int32)), none]) dX0_tellsBody_22 (by decide) rfl ?_
    refine r_iload_n (x := (1 : Int32)) dX0_tellsBody_23 rfl ?_
    refine r_if_eq (tgt := 36) dX0_tellsBody_24 (by decide) (fun hc => absurd hc (by decide)) (fun hc => ?_)
    refine r_aload_n (x := (29, 0, 0)) dX0_tellsBody_27 rfl ?_
    refine r_bipush (v := 40) dX0_tellsBody_28 rfl ?_
    obtain ⟨r1, hr2, hf⟩ := am_bind hf
    refine r_callV (as := [vI (40 : Int32)]) (st := []) (n := 1) mw_X0_32 mv_X0_note (C_X0_note (l := l) hr2) (le_b rfl) dX0_tellsBody_30 (kC_mem (s := 29) (by decide) (by decide) (by decide)) rfl rfl rfl (le_b rfl) (le_b rfl) (le_b rfl) ?_
    show X l _ _ 0 0 false _ kC 0 0 33 [some (vR (29, 0, 0)), some (vI a0), some (vI (1 : Int32)), none] [] (en r1)
    refine r_goto (tgt := 50) dX0_tellsBody_33 (by decide) ?_
    refine r_aload_n (x := (29, 0, 0)) dX0_tellsBody_50 rfl ?_
    refine r_bipush (v := 12) dX0_tellsBody_51 rfl ?_
    obtain ⟨r3, hr4, hf⟩ := am_bind hf
    refine r_callV (as := [vI (12 : Int32)]) (st := []) (n := 1) mw_X0_32 mv_X0_note (C_X0_note (l := l) hr4) (le_b rfl) dX0_tellsBody_53 (kC_mem (s := 29) (by decide) (by decide) (by decide)) rfl rfl rfl (le_b rfl) (le_b rfl) (le_b rfl) ?_
    show X l _ _ 0 0 false _ kC 0 0 56 [some (vR (29, 0, 0)), some (vI a0), some (vI (1 : Int32)), none] [] (en r3)
    refine r_aload_n (x := (29, 0, 0)) dX0_tellsBody_56 rfl ?_
    refine r_aload_n (x := (29, 0, 0)) dX0_tellsBody_57 rfl ?_
    refine e_geti fw_X0_19 dX0_tellsBody_58 (kC_mem (s := 29) (by decide) (by decide) (by decide)) rfl (lt_b rfl) ?_
    refine r_iconst (v := 5) dX0_tellsBody_61 rfl ?_
    refine r_icmp_ne (tgt := 74) dX0_tellsBody_62 (by decide) (fun hc => ?_) (fun hc => ?_)
    · have hf := (am_if hf).2 hc
      refine r_iload_n (x := a0) dX0_tellsBody_74 rfl ?_
      obtain ⟨⟨r5, u7⟩, hr6, hf⟩ := am_bind hf
      refine r_callV (as := [vI a0]) (st := []) (n := 1) mw_X0_43 mv_X0_sendsBody (C_X0_sendsBody (l := l) hr6) (le_b rfl) dX0_tellsBody_75 (kC_mem (s := 29) (by decide) (by decide) (by decide)) rfl rfl rfl (le_b rfl) (le_b rfl) (le_b rfl) ?_
      show X l _ _ 0 0 false _ kC 0 0 78 [some (vR (29, 0, 0)), some (vI a0), some (vI (1 : Int32)), none] [vI r5] (en u7)
      refine r_iconst (v := 2) dX0_tellsBody_78 rfl ?_
      refine r_imul dX0_tellsBody_79 ?_
      refine r_istore_n (L' := [some (vR (29, 0, 0)), some (vI a0), some (vI (1 : Int32)), some (vI (r5 * (2 : Int32)))]) dX0_tellsBody_80 (by decide) rfl ?_
      refine r_iload_n (x := (1 : Int32)) dX0_tellsBody_81 rfl ?_
      refine r_if_eq (tgt := 95) dX0_tellsBody_82 (by decide) (fun hc => absurd hc (by decide)) (fun hc => ?_)
      refine r_iload_n (x := r5 * (2 : Int32)) dX0_tellsBody_85 rfl ?_
      refine r_aload_n (x := (29, 0, 0)) dX0_tellsBody_86 rfl ?_
      refine r_iconst (v := 1) dX0_tellsBody_87 rfl ?_
      obtain ⟨⟨r8, u10⟩, hr9, hf⟩ := am_bind hf
      refine r_callV (as := [vI (1 : Int32)]) (st := [vI (r5 * (2 : Int32))]) (n := 1) mw_X0_43 mv_X0_sendsBody (C_X0_sendsBody (l := l) hr9) (le_b rfl) dX0_tellsBody_88 (kC_mem (s := 29) (by decide) (by decide) (by decide)) rfl rfl rfl (le_b rfl) (le_b rfl) (le_b rfl) ?_
      show X l _ _ 0 0 false _ kC 0 0 91 [some (vR (29, 0, 0)), some (vI a0), some (vI (1 : Int32)), some (vI (r5 * (2 : Int32)))] [vI r8, vI (r5 * (2 : Int32))] (en u10)
      refine r_iadd dX0_tellsBody_91 ?_
      refine r_goto (tgt := 96) dX0_tellsBody_92 (by decide) ?_
      have hx := am_inj hf
      subst hx
      exact r_iret dX0_tellsBody_96 rfl rfl (le_b rfl) (le_b rfl)
    · have hf := (am_if hf).1 hc
      refine r_iload_n (x := a0) dX0_tellsBody_65 rfl ?_
      refine r_aload_n (x := (29, 0, 0)) dX0_tellsBody_66 rfl ?_
      refine e_geti fw_X0_25 dX0_tellsBody_67 (kC_mem (s := 29) (by decide) (by decide) (by decide)) rfl (lt_b rfl) ?_
      refine r_isub dX0_tellsBody_70 ?_
      refine r_goto (tgt := 75) dX0_tellsBody_71 (by decide) ?_
      obtain ⟨⟨r11, u13⟩, hr12, hf⟩ := am_bind hf
      refine r_callV (as := [vI (a0 - (r3.1 (29, 0, 0) 4))]) (st := []) (n := 1) mw_X0_43 mv_X0_sendsBody (C_X0_sendsBody (l := l) hr12) (le_b rfl) dX0_tellsBody_75 (kC_mem (s := 29) (by decide) (by decide) (by decide)) rfl rfl rfl (le_b rfl) (le_b rfl) (le_b rfl) ?_
      show X l _ _ 0 0 false _ kC 0 0 78 [some (vR (29, 0, 0)), some (vI a0), some (vI (1 : Int32)), none] [vI r11] (en u13)
      refine r_iconst (v := 2) dX0_tellsBody_78 rfl ?_
      refine r_imul dX0_tellsBody_79 ?_
      refine r_istore_n (L' := [some (vR (29, 0, 0)), some (vI a0), some (vI (1 : Int32)), some (vI (r11 * (2 : Int32)))]) dX0_tellsBody_80 (by decide) rfl ?_
      refine r_iload_n (x := (1 : Int32)) dX0_tellsBody_81 rfl ?_
      refine r_if_eq (tgt := 95) dX0_tellsBody_82 (by decide) (fun hc => absurd hc (by decide)) (fun hc => ?_)
      refine r_iload_n (x := r11 * (2 : Int32)) dX0_tellsBody_85 rfl ?_
      refine r_aload_n (x := (29, 0, 0)) dX0_tellsBody_86 rfl ?_
      refine r_iconst (v := 1) dX0_tellsBody_87 rfl ?_
      obtain ⟨⟨r14, u16⟩, hr15, hf⟩ := am_bind hf
      refine r_callV (as := [vI (1 : Int32)]) (st := [vI (r11 * (2 : Int32))]) (n := 1) mw_X0_43 mv_X0_sendsBody (C_X0_sendsBody (l := l) hr15) (le_b rfl) dX0_tellsBody_88 (kC_mem (s := 29) (by decide) (by decide) (by decide)) rfl rfl rfl (le_b rfl) (le_b rfl) (le_b rfl) ?_
      show X l _ _ 0 0 false _ kC 0 0 91 [some (vR (29, 0, 0)), some (vI a0), some (vI (1 : Int32)), some (vI (r11 * (2 : Int32)))] [vI r14, vI (r11 * (2 : Int32))] (en u16)
      refine r_iadd dX0_tellsBody_91 ?_
      refine r_goto (tgt := 96) dX0_tellsBody_92 (by decide) ?_
      have hx := am_inj hf
      subst hx
      exact r_iret dX0_tellsBody_96 rfl rfl (le_b rfl) (le_b rfl)
  · have hf := (am_if hf).2 hc
    refine r_aload_n (x := (29, 0, 0)) dX0_tellsBody_8 rfl ?_
    refine e_geti fw_X0_19 dX0_tellsBody_9 (kC_mem (s := 29) (by decide) (by decide) (by decide)) rfl (lt_b rfl) ?_
    refine r_bipush (v := 6) dX0_tellsBody_12 rfl ?_
    refine r_icmp_ne (tgt := 21) dX0_tellsBody_14 (by decide) (fun hc => ?_) (fun hc => ?_)
    · have hf := (am_if hf).2 hc
      refine r_iconst (v := 0) dX0_tellsBody_21 rfl ?_
      refine r_istore_n (L' := [some (vR (29, 0, 0)), some (vI a0), some (vI (0 : Int32)), none]) dX0_tellsBody_22 (by decide) rfl ?_
      refine r_iload_n (x := (0 : Int32)) dX0_tellsBody_23 rfl ?_
      refine r_if_eq (tgt := 36) dX0_tellsBody_24 (by decide) (fun hc => ?_) (fun hc => absurd hc (by decide))
      refine r_aload_n (x := (29, 0, 0)) dX0_tellsBody_36 rfl ?_
      refine e_geti fw_X0_19 dX0_tellsBody_37 (kC_mem (s := 29) (by decide) (by decide) (by decide)) rfl (lt_b rfl) ?_
      refine r_iconst (v := 5) dX0_tellsBody_40 rfl ?_
      refine r_icmp_ne (tgt := 50) dX0_tellsBody_41 (by decide) (fun hc => ?_) (fun hc => ?_)
      · have hf := (am_if hf).2 hc
        refine r_aload_n (x := (29, 0, 0)) dX0_tellsBody_50 rfl ?_
        refine r_bipush (v := 12) dX0_tellsBody_51 rfl ?_
        obtain ⟨r17, hr18, hf⟩ := am_bind hf
        refine r_callV (as := [vI (12 : Int32)]) (st := []) (n := 1) mw_X0_32 mv_X0_note (C_X0_note (l := l) hr18) (le_b rfl) dX0_tellsBody_53 (kC_mem (s := 29) (by decide) (by decide) (by decide)) rfl rfl rfl (le_b rfl) (le_b rfl) (le_b rfl) ?_
        show X l _ _ 0 0 false _ kC 0 0 56 [some (vR (29, 0, 0)), some (vI a0), some (vI (0 : Int32)), none] [] (en r17)
        refine r_aload_n (x := (29, 0, 0)) dX0_tellsBody_56 rfl ?_
        refine r_aload_n (x := (29, 0, 0)) dX0_tellsBody_57 rfl ?_
        refine e_geti fw_X0_19 dX0_tellsBody_58 (kC_mem (s := 29) (by decide) (by decide) (by decide)) rfl (lt_b rfl) ?_
        refine r_iconst (v := 5) dX0_tellsBody_61 rfl ?_
        refine r_icmp_ne (tgt := 74) dX0_tellsBody_62 (by decide) (fun hc => ?_) (fun hc => ?_)
        · have hf := (am_if hf).2 hc
          refine r_iload_n (x := a0) dX0_tellsBody_74 rfl ?_
          obtain ⟨⟨r19, u21⟩, hr20, hf⟩ := am_bind hf
          refine r_callV (as := [vI a0]) (st := []) (n := 1) mw_X0_43 mv_X0_sendsBody (C_X0_sendsBody (l := l) hr20) (le_b rfl) dX0_tellsBody_75 (kC_mem (s := 29) (by decide) (by decide) (by decide)) rfl rfl rfl (le_b rfl) (le_b rfl) (le_b rfl) ?_
          show X l _ _ 0 0 false _ kC 0 0 78 [some (vR (29, 0, 0)), some (vI a0), some (vI (0 : Int32)), none] [vI r19] (en u21)
          refine r_iconst (v := 2) dX0_tellsBody_78 rfl ?_
          refine r_imul dX0_tellsBody_79 ?_
          refine r_istore_n (L' := [some (vR (29, 0, 0)), some (vI a0), some (vI (0 : Int32)), some (vI (r19 * (2 : Int32)))]) dX0_tellsBody_80 (by decide) rfl ?_
          refine r_iload_n (x := (0 : Int32)) dX0_tellsBody_81 rfl ?_
          refine r_if_eq (tgt := 95) dX0_tellsBody_82 (by decide) (fun hc => ?_) (fun hc => absurd hc (by decide))
          refine r_iload_n (x := r19 * (2 : Int32)) dX0_tellsBody_95 rfl ?_
          have hx := am_inj hf
          subst hx
          exact r_iret dX0_tellsBody_96 rfl rfl (le_b rfl) (le_b rfl)
        · have hf := (am_if hf).1 hc
          refine r_iload_n (x := a0) dX0_tellsBody_65 rfl ?_
          refine r_aload_n (x := (29, 0, 0)) dX0_tellsBody_66 rfl ?_
          refine e_geti fw_X0_25 dX0_tellsBody_67 (kC_mem (s := 29) (by decide) (by decide) (by decide)) rfl (lt_b rfl) ?_
          refine r_isub dX0_tellsBody_70 ?_
          refine r_goto (tgt := 75) dX0_tellsBody_71 (by decide) ?_
          obtain ⟨⟨r22, u24⟩, hr23, hf⟩ := am_bind hf
          refine r_callV (as := [vI (a0 - (r17.1 (29, 0, 0) 4))]) (st := []) (n := 1) mw_X0_43 mv_X0_sendsBody (C_X0_sendsBody (l := l) hr23) (le_b rfl) dX0_tellsBody_75 (kC_mem (s := 29) (by decide) (by decide) (by decide)) rfl rfl rfl (le_b rfl) (le_b rfl) (le_b rfl) ?_
          show X l _ _ 0 0 false _ kC 0 0 78 [some (vR (29, 0, 0)), some (vI a0), some (vI (0 : Int32)), none] [vI r22] (en u24)
          refine r_iconst (v := 2) dX0_tellsBody_78 rfl ?_
          refine r_imul dX0_tellsBody_79 ?_
          refine r_istore_n (L' := [some (vR (29, 0, 0)), some (vI a0), some (vI (0 : Int32)), some (vI (r22 * (2 : Int32)))]) dX0_tellsBody_80 (by decide) rfl ?_
          refine r_iload_n (x := (0 : Int32)) dX0_tellsBody_81 rfl ?_
          refine r_if_eq (tgt := 95) dX0_tellsBody_82 (by decide) (fun hc => ?_) (fun hc => absurd hc (by decide))
          refine r_iload_n (x := r22 * (2 : Int32)) dX0_tellsBody_95 rfl ?_
          have hx := am_inj hf
          subst hx
          exact r_iret dX0_tellsBody_96 rfl rfl (le_b rfl) (le_b rfl)
      · have hf := (am_if hf).1 hc
        refine r_aload_n (x := (29, 0, 0)) dX0_tellsBody_44 rfl ?_
        refine r_bipush (v := 60) dX0_tellsBody_45 rfl ?_
        obtain ⟨r25, hr26, hf⟩ := am_bind hf
        refine r_callV (as := [vI (60 : Int32)]) (st := []) (n := 1) mw_X0_32 mv_X0_note (C_X0_note (l := l) hr26) (le_b rfl) dX0_tellsBody_47 (kC_mem (s := 29) (by decide) (by decide) (by decide)) rfl rfl rfl (le_b rfl) (le_b rfl) (le_b rfl) ?_
        show X l _ _ 0 0 false _ kC 0 0 50 [some (vR (29, 0, 0)), some (vI a0), some (vI (0 : Int32)), none] [] (en r25)
        refine r_aload_n (x := (29, 0, 0)) dX0_tellsBody_50 rfl ?_
        refine r_bipush (v := 12) dX0_tellsBody_51 rfl ?_
        obtain ⟨r27, hr28, hf⟩ := am_bind hf
        refine r_callV (as := [vI (12 : Int32)]) (st := []) (n := 1) mw_X0_32 mv_X0_note (C_X0_note (l := l) hr28) (le_b rfl) dX0_tellsBody_53 (kC_mem (s := 29) (by decide) (by decide) (by decide)) rfl rfl rfl (le_b rfl) (le_b rfl) (le_b rfl) ?_
        show X l _ _ 0 0 false _ kC 0 0 56 [some (vR (29, 0, 0)), some (vI a0), some (vI (0 : Int32)), none] [] (en r27)
        refine r_aload_n (x := (29, 0, 0)) dX0_tellsBody_56 rfl ?_
        refine r_aload_n (x := (29, 0, 0)) dX0_tellsBody_57 rfl ?_
        refine e_geti fw_X0_19 dX0_tellsBody_58 (kC_mem (s := 29) (by decide) (by decide) (by decide)) rfl (lt_b rfl) ?_
        refine r_iconst (v := 5) dX0_tellsBody_61 rfl ?_
        refine r_icmp_ne (tgt := 74) dX0_tellsBody_62 (by decide) (fun hc => ?_) (fun hc => ?_)
        · have hf := (am_if hf).2 hc
          refine r_iload_n (x := a0) dX0_tellsBody_74 rfl ?_
          obtain ⟨⟨r29, u31⟩, hr30, hf⟩ := am_bind hf
          refine r_callV (as := [vI a0]) (st := []) (n := 1) mw_X0_43 mv_X0_sendsBody (C_X0_sendsBody (l := l) hr30) (le_b rfl) dX0_tellsBody_75 (kC_mem (s := 29) (by decide) (by decide) (by decide)) rfl rfl rfl (le_b rfl) (le_b rfl) (le_b rfl) ?_
          show X l _ _ 0 0 false _ kC 0 0 78 [some (vR (29, 0, 0)), some (vI a0), some (vI (0 : Int32)), none] [vI r29] (en u31)
          refine r_iconst (v := 2) dX0_tellsBody_78 rfl ?_
          refine r_imul dX0_tellsBody_79 ?_
          refine r_istore_n (L' := [some (vR (29, 0, 0)), some (vI a0), some (vI (0 : Int32)), some (vI (r29 * (2 : Int32)))]) dX0_tellsBody_80 (by decide) rfl ?_
          refine r_iload_n (x := (0 : Int32)) dX0_tellsBody_81 rfl ?_
          refine r_if_eq (tgt := 95) dX0_tellsBody_82 (by decide) (fun hc => ?_) (fun hc => absurd hc (by decide))
          refine r_iload_n (x := r29 * (2 : Int32)) dX0_tellsBody_95 rfl ?_
          have hx := am_inj hf
          subst hx
          exact r_iret dX0_tellsBody_96 rfl rfl (le_b rfl) (le_b rfl)
        · have hf := (am_if hf).1 hc
          refine r_iload_n (x := a0) dX0_tellsBody_65 rfl ?_
          refine r_aload_n (x := (29, 0, 0)) dX0_tellsBody_66 rfl ?_
          refine e_geti fw_X0_25 dX0_tellsBody_67 (kC_mem (s := 29) (by decide) (by decide) (by decide)) rfl (lt_b rfl) ?_
          refine r_isub dX0_tellsBody_70 ?_
          refine r_goto (tgt := 75) dX0_tellsBody_71 (by decide) ?_
          obtain ⟨⟨r32, u34⟩, hr33, hf⟩ := am_bind hf
          refine r_callV (as := [vI (a0 - (r27.1 (29, 0, 0) 4))]) (st := []) (n := 1) mw_X0_43 mv_X0_sendsBody (C_X0_sendsBody (l := l) hr33) (le_b rfl) dX0_tellsBody_75 (kC_mem (s := 29) (by decide) (by decide) (by decide)) rfl rfl rfl (le_b rfl) (le_b rfl) (le_b rfl) ?_
          show X l _ _ 0 0 false _ kC 0 0 78 [some (vR (29, 0, 0)), some (vI a0), some (vI (0 : Int32)), none] [vI r32] (en u34)
          refine r_iconst (v := 2) dX0_tellsBody_78 rfl ?_
          refine r_imul dX0_tellsBody_79 ?_
          refine r_istore_n (L' := [some (vR (29, 0, 0)), some (vI a0), some (vI (0 : Int32)), some (vI (r32 * (2 : Int32)))]) dX0_tellsBody_80 (by decide) rfl ?_
          refine r_iload_n (x := (0 : Int32)) dX0_tellsBody_81 rfl ?_
          refine r_if_eq (tgt := 95) dX0_tellsBody_82 (by decide) (fun hc => ?_) (fun hc => absurd hc (by decide))
          refine r_iload_n (x := r32 * (2 : Int32)) dX0_tellsBody_95 rfl ?_
          have hx := am_inj hf
          subst hx
          exact r_iret dX0_tellsBody_96 rfl rfl (le_b rfl) (le_b rfl)
    · have hf := (am_if hf).1 hc
      refine r_iconst (v := 1) dX0_tellsBody_17 rfl ?_
      refine r_goto (tgt := 22) dX0_tellsBody_18 (by decide) ?_
      refine r_istore_n (L' := [some (vR (29, 0, 0)), some (vI a0), some (vI (1 : Int32)), none]) dX0_tellsBody_22 (by decide) rfl ?_
      refine r_iload_n (x := (1 : Int32)) dX0_tellsBody_23 rfl ?_
      refine r_if_eq (tgt := 36) dX0_tellsBody_24 (by decide) (fun hc => absurd hc (by decide)) (fun hc => ?_)
      refine r_aload_n (x := (29, 0, 0)) dX0_tellsBody_27 rfl ?_
      refine r_bipush (v := 40) dX0_tellsBody_28 rfl ?_
      obtain ⟨r35, hr36, hf⟩ := am_bind hf
      refine r_callV (as := [vI (40 : Int32)]) (st := []) (n := 1) mw_X0_32 mv_X0_note (C_X0_note (l := l) hr36) (le_b rfl) dX0_tellsBody_30 (kC_mem (s := 29) (by decide) (by decide) (by decide)) rfl rfl rfl (le_b rfl) (le_b rfl) (le_b rfl) ?_
      show X l _ _ 0 0 false _ kC 0 0 33 [some (vR (29, 0, 0)), some (vI a0), some (vI (1 : Int32)), none] [] (en r35)
      refine r_goto (tgt := 50) dX0_tellsBody_33 (by decide) ?_
      refine r_aload_n (x := (29, 0, 0)) dX0_tellsBody_50 rfl ?_
      refine r_bipush (v := 12) dX0_tellsBody_51 rfl ?_
      obtain ⟨r37, hr38, hf⟩ := am_bind hf
      refine r_callV (as := [vI (12 : Int32)]) (st := []) (n := 1) mw_X0_32 mv_X0_note (C_X0_note (l := l) hr38) (le_b rfl) dX0_tellsBody_53 (kC_mem (s := 29) (by decide) (by decide) (by decide)) rfl rfl rfl (le_b rfl) (le_b rfl) (le_b rfl) ?_
      show X l _ _ 0 0 false _ kC 0 0 56 [some (vR (29, 0, 0)), some (vI a0), some (vI (1 : Int32)), none] [] (en r37)
      refine r_aload_n (x := (29, 0, 0)) dX0_tellsBody_56 rfl ?_
      refine r_aload_n (x := (29, 0, 0)) dX0_tellsBody_57 rfl ?_
      refine e_geti fw_X0_19 dX0_tellsBody_58 (kC_mem (s := 29) (by decide) (by decide) (by decide)) rfl (lt_b rfl) ?_
      refine r_iconst (v := 5) dX0_tellsBody_61 rfl ?_
      refine r_icmp_ne (tgt := 74) dX0_tellsBody_62 (by decide) (fun hc => ?_) (fun hc => ?_)
      · have hf := (am_if hf).2 hc
        refine r_iload_n (x := a0) dX0_tellsBody_74 rfl ?_
        obtain ⟨⟨r39, u41⟩, hr40, hf⟩ := am_bind hf
        refine r_callV (as := [vI a0]) (st := []) (n := 1) mw_X0_43 mv_X0_sendsBody (C_X0_sendsBody (l := l) hr40) (le_b rfl) dX0_tellsBody_75 (kC_mem (s := 29) (by decide) (by decide) (by decide)) rfl rfl rfl (le_b rfl) (le_b rfl) (le_b rfl) ?_
        show X l _ _ 0 0 false _ kC 0 0 78 [some (vR (29, 0, 0)), some (vI a0), some (vI (1 : Int32)), none] [vI r39] (en u41)
        refine r_iconst (v := 2) dX0_tellsBody_78 rfl ?_
        refine r_imul dX0_tellsBody_79 ?_
        refine r_istore_n (L' := [some (vR (29, 0, 0)), some (vI a0), some (vI (1 : Int32)), some (vI (r39 * (2 : Int32)))]) dX0_tellsBody_80 (by decide) rfl ?_
        refine r_iload_n (x := (1 : Int32)) dX0_tellsBody_81 rfl ?_
        refine r_if_eq (tgt := 95) dX0_tellsBody_82 (by decide) (fun hc => absurd hc (by decide)) (fun hc => ?_)
        refine r_iload_n (x := r39 * (2 : Int32)) dX0_tellsBody_85 rfl ?_
        refine r_aload_n (x := (29, 0, 0)) dX0_tellsBody_86 rfl ?_
        refine r_iconst (v := 1) dX0_tellsBody_87 rfl ?_
        obtain ⟨⟨r42, u44⟩, hr43, hf⟩ := am_bind hf
        refine r_callV (as := [vI (1 : Int32)]) (st := [vI (r39 * (2 : Int32))]) (n := 1) mw_X0_43 mv_X0_sendsBody (C_X0_sendsBody (l := l) hr43) (le_b rfl) dX0_tellsBody_88 (kC_mem (s := 29) (by decide) (by decide) (by decide)) rfl rfl rfl (le_b rfl) (le_b rfl) (le_b rfl) ?_
        show X l _ _ 0 0 false _ kC 0 0 91 [some (vR (29, 0, 0)), some (vI a0), some (vI (1 : Int32)), some (vI (r39 * (2 : Int32)))] [vI r42, vI (r39 * (2 : Int32))] (en u44)
        refine r_iadd dX0_tellsBody_91 ?_
        refine r_goto (tgt := 96) dX0_tellsBody_92 (by decide) ?_
        have hx := am_inj hf
        subst hx
        exact r_iret dX0_tellsBody_96 rfl rfl (le_b rfl) (le_b rfl)
      · have hf := (am_if hf).1 hc
        refine r_iload_n (x := a0) dX0_tellsBody_65 rfl ?_
        refine r_aload_n (x := (29, 0, 0)) dX0_tellsBody_66 rfl ?_
        refine e_geti fw_X0_25 dX0_tellsBody_67 (kC_mem (s := 29) (by decide) (by decide) (by decide)) rfl (lt_b rfl) ?_
        refine r_isub dX0_tellsBody_70 ?_
        refine r_goto (tgt := 75) dX0_tellsBody_71 (by decide) ?_
        obtain ⟨⟨r45, u47⟩, hr46, hf⟩ := am_bind hf
        refine r_callV (as := [vI (a0 - (r37.1 (29, 0, 0) 4))]) (st := []) (n := 1) mw_X0_43 mv_X0_sendsBody (C_X0_sendsBody (l := l) hr46) (le_b rfl) dX0_tellsBody_75 (kC_mem (s := 29) (by decide) (by decide) (by decide)) rfl rfl rfl (le_b rfl) (le_b rfl) (le_b rfl) ?_
        show X l _ _ 0 0 false _ kC 0 0 78 [some (vR (29, 0, 0)), some (vI a0), some (vI (1 : Int32)), none] [vI r45] (en u47)
        refine r_iconst (v := 2) dX0_tellsBody_78 rfl ?_
        refine r_imul dX0_tellsBody_79 ?_
        refine r_istore_n (L' := [some (vR (29, 0, 0)), some (vI a0), some (vI (1 : Int32)), some (vI (r45 * (2 : Int32)))]) dX0_tellsBody_80 (by decide) rfl ?_
        refine r_iload_n (x := (1 : Int32)) dX0_tellsBody_81 rfl ?_
        refine r_if_eq (tgt := 95) dX0_tellsBody_82 (by decide) (fun hc => absurd hc (by decide)) (fun hc => ?_)
        refine r_iload_n (x := r45 * (2 : Int32)) dX0_tellsBody_85 rfl ?_
        refine r_aload_n (x := (29, 0, 0)) dX0_tellsBody_86 rfl ?_
        refine r_iconst (v := 1) dX0_tellsBody_87 rfl ?_
        obtain ⟨⟨r48, u50⟩, hr49, hf⟩ := am_bind hf
        refine r_callV (as := [vI (1 : Int32)]) (st := [vI (r45 * (2 : Int32))]) (n := 1) mw_X0_43 mv_X0_sendsBody (C_X0_sendsBody (l := l) hr49) (le_b rfl) dX0_tellsBody_88 (kC_mem (s := 29) (by decide) (by decide) (by decide)) rfl rfl rfl (le_b rfl) (le_b rfl) (le_b rfl) ?_
        show X l _ _ 0 0 false _ kC 0 0 91 [some (vR (29, 0, 0)), some (vI a0), some (vI (1 : Int32)), some (vI (r45 * (2 : Int32)))] [vI r48, vI (r45 * (2 : Int32))] (en u50)
        refine r_iadd dX0_tellsBody_91 ?_
        refine r_goto (tgt := 96) dX0_tellsBody_92 (by decide) ?_
        have hx := am_inj hf
        subst hx
        exact r_iret dX0_tellsBody_96 rfl rfl (le_b rfl) (le_b rfl)
