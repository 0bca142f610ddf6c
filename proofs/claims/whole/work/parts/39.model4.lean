/-! FireFromFireModel.item -/
theorem dX10_item_0 : decode cX10_item 0 = .ok (.aload_n 0, 1) := by decide +kernel
theorem dX10_item_1 : decode cX10_item 1 = .ok (.iload_n 1, 1) := by decide +kernel
theorem dX10_item_2 : decode cX10_item 2 = .ok (.invokevirtual 435, 3) := by decide +kernel
theorem dX10_item_5 : decode cX10_item 5 = .ok (.ifCond .ne 5, 3) := by decide +kernel
theorem dX10_item_8 : decode cX10_item 8 = .ok (.iconst (-1), 1) := by decide +kernel
theorem dX10_item_9 : decode cX10_item 9 = .ok (.ireturn, 1) := by decide +kernel
theorem dX10_item_10 : decode cX10_item 10 = .ok (.aload_n 0, 1) := by decide +kernel
theorem dX10_item_11 : decode cX10_item 11 = .ok (.getfield 254, 3) := by decide +kernel
theorem dX10_item_14 : decode cX10_item 14 = .ok (.iload_n 1, 1) := by decide +kernel
theorem dX10_item_15 : decode cX10_item 15 = .ok (.iaload, 1) := by decide +kernel
theorem dX10_item_16 : decode cX10_item 16 = .ok (.ifCond .ge 6, 3) := by decide +kernel
theorem dX10_item_19 : decode cX10_item 19 = .ok (.bipush (-11), 2) := by decide +kernel
theorem dX10_item_21 : decode cX10_item 21 = .ok (.ireturn, 1) := by decide +kernel
theorem dX10_item_22 : decode cX10_item 22 = .ok (.aload_n 0, 1) := by decide +kernel
theorem dX10_item_23 : decode cX10_item 23 = .ok (.iload_n 2, 1) := by decide +kernel
theorem dX10_item_24 : decode cX10_item 24 = .ok (.iconst 0, 1) := by decide +kernel
theorem dX10_item_25 : decode cX10_item 25 = .ok (.aload_n 0, 1) := by decide +kernel
theorem dX10_item_26 : decode cX10_item 26 = .ok (.getfield 257, 3) := by decide +kernel
theorem dX10_item_29 : decode cX10_item 29 = .ok (.iload_n 1, 1) := by decide +kernel
theorem dX10_item_30 : decode cX10_item 30 = .ok (.iaload, 1) := by decide +kernel
theorem dX10_item_31 : decode cX10_item 31 = .ok (.iconst 1, 1) := by decide +kernel
theorem dX10_item_32 : decode cX10_item 32 = .ok (.isub, 1) := by decide +kernel
theorem dX10_item_33 : decode cX10_item 33 = .ok (.invokevirtual 267, 3) := by decide +kernel
theorem dX10_item_36 : decode cX10_item 36 = .ok (.ifCond .ne 6, 3) := by decide +kernel
theorem dX10_item_39 : decode cX10_item 39 = .ok (.bipush (-13), 2) := by decide +kernel
theorem dX10_item_41 : decode cX10_item 41 = .ok (.ireturn, 1) := by decide +kernel
theorem dX10_item_42 : decode cX10_item 42 = .ok (.aload_n 0, 1) := by decide +kernel
theorem dX10_item_43 : decode cX10_item 43 = .ok (.getfield 260, 3) := by decide +kernel
theorem dX10_item_46 : decode cX10_item 46 = .ok (.bipush 60, 2) := by decide +kernel
theorem dX10_item_48 : decode cX10_item 48 = .ok (.iload_n 1, 1) := by decide +kernel
theorem dX10_item_49 : decode cX10_item 49 = .ok (.imul, 1) := by decide +kernel
theorem dX10_item_50 : decode cX10_item 50 = .ok (.iload_n 2, 1) := by decide +kernel
theorem dX10_item_51 : decode cX10_item 51 = .ok (.iadd, 1) := by decide +kernel
theorem dX10_item_52 : decode cX10_item 52 = .ok (.aload_n 0, 1) := by decide +kernel
theorem dX10_item_53 : decode cX10_item 53 = .ok (.aload_n 0, 1) := by decide +kernel
theorem dX10_item_54 : decode cX10_item 54 = .ok (.getfield 254, 3) := by decide +kernel
theorem dX10_item_57 : decode cX10_item 57 = .ok (.iload_n 1, 1) := by decide +kernel
theorem dX10_item_58 : decode cX10_item 58 = .ok (.iaload, 1) := by decide +kernel
theorem dX10_item_59 : decode cX10_item 59 = .ok (.lload_n 3, 1) := by decide +kernel
theorem dX10_item_60 : decode cX10_item 60 = .ok (.invokevirtual 466, 3) := by decide +kernel
theorem dX10_item_63 : decode cX10_item 63 = .ok (.lastore, 1) := by decide +kernel
theorem dX10_item_64 : decode cX10_item 64 = .ok (.iconst 1, 1) := by decide +kernel
theorem dX10_item_65 : decode cX10_item 65 = .ok (.ireturn, 1) := by decide +kernel
def f_X10_item  (a0 : Int32) (a1 : Int32) (a2 : Int64) (u : PM) : Option (Int32 × PM) :=
  (f_X10_isTape a0 u).bind fun r1 =>
  if r1 = 0 then
    some ((-1 : Int32), u)
  else
  if a0 < 0 ∨ 6 ≤ a0.toNatClampNeg then none else
  if 0 ≤ (u.1 (90, 0, 0) a0.toNatClampNeg) then
    (f_X10_in a1 (0 : Int32) ((u.1 (91, 0, 0) a0.toNatClampNeg) - (1 : Int32)) u).bind fun r4 =>
    if r4 = 0 then
      some ((-13 : Int32), u)
    else
    (f_X10_narrow (u.1 (90, 0, 0) a0.toNatClampNeg) a2 u).bind fun r6 =>
    if (((60 : Int32) * a0) + a1) < 0 ∨ 360 ≤ (((60 : Int32) * a0) + a1).toNatClampNeg then none else
    some ((1 : Int32), (pl u (92, 0, 0) ((((60 : Int32) * a0) + a1).toNatClampNeg) r6))
  else
  some ((-11 : Int32), u)
set_option maxHeartbeats 4000000 in
set_option maxRecDepth 20000 in
theorem C_X10_item {l : Launch}  {a0 : Int32} {a1 : Int32} {a2 : Int64} {u : PM} {x : Int32 × PM} (hf : f_X10_item a0 a1 a2 u = some x) : Ev l mX10_item 3 0 0 false [vR (40, 0, 0), vI a0, vI a1, vJ a2] kM (en u) (some (vI x.1), kM, en x.2) := by
  refine Ev_of (by decide +kernel) (le_b rfl) ?_
  unfold f_X10_item at hf
  show X l mX10_item 3 0 0 false _ kM 0 0 0 [some (vR (40, 0, 0)), some (vI a0), some (vI a1), some (vJ a2), none] [] (en u)
  refine r_aload_n (x := (40, 0, 0)) dX10_item_0 rfl ?_
  refine r_iload_n (x := a0) dX10_item_1 rfl ?_
  obtain ⟨r1, hr2, hf⟩ := am_bind hf
  refine r_callV (as := [vI a0]) (st := []) (n := 1) mw_X10_435 mv_X10_isTape (C_X10_isTape (l := l) hr2) (le_b rfl) dX10_item_2 (kM_mem (s := 40) (by decide)) rfl rfl rfl (le_b rfl) (le_b rfl) (le_b rfl) ?_
  show X l _ _ 0 0 false _ kM 0 0 5 [some (vR (40, 0, 0)), some (vI a0), some (vI a1), some (vJ a2), none] [vI r1] (en u)
  refine r_if_ne (tgt := 10) dX10_item_5 (by decide) (fun hc => ?_) (fun hc => ?_)
  · have hf := (am_if hf).2 hc
    refine r_aload_n (x := (40, 0, 0)) dX10_item_10 rfl ?_
    refine e_getr (z := some (90, 0, 0)) fw_X10_254 dX10_item_11 (kM_mem (s := 40) (by decide)) rfl (lt_b rfl) rfl ?_
    refine r_iload_n (x := a0) dX10_item_14 rfl ?_
    obtain ⟨h3, hf⟩ := am_nchk hf
    refine e_iald (n := a0.toNatClampNeg) dX10_item_15 (kM_mem (s := 90) (by decide)) rfl h3 rfl rfl ?_
    refine r_if_ge (tgt := 22) dX10_item_16 (by decide) (fun hc => ?_) (fun hc => ?_)
    · have hf := (am_if hf).1 hc
      refine r_aload_n (x := (40, 0, 0)) dX10_item_22 rfl ?_
      refine r_iload_n (x := a1) dX10_item_23 rfl ?_
      refine r_iconst (v := 0) dX10_item_24 rfl ?_
      refine r_aload_n (x := (40, 0, 0)) dX10_item_25 rfl ?_
      refine e_getr (z := some (91, 0, 0)) fw_X10_257 dX10_item_26 (kM_mem (s := 40) (by decide)) rfl (lt_b rfl) rfl ?_
      refine r_iload_n (x := a0) dX10_item_29 rfl ?_
      refine e_iald (n := a0.toNatClampNeg) dX10_item_30 (kM_mem (s := 91) (by decide)) rfl h3 rfl rfl ?_
      refine r_iconst (v := 1) dX10_item_31 rfl ?_
      refine r_isub dX10_item_32 ?_
      obtain ⟨r4, hr5, hf⟩ := am_bind hf
      refine r_callV (as := [vI a1, vI (0 : Int32), vI ((u.1 (91, 0, 0) a0.toNatClampNeg) - (1 : Int32))]) (st := []) (n := 3) mw_X10_267 mv_X10_in (C_X10_in (l := l) hr5) (le_b rfl) dX10_item_33 (kM_mem (s := 40) (by decide)) rfl rfl rfl (le_b rfl) (le_b rfl) (le_b rfl) ?_
      show X l _ _ 0 0 false _ kM 0 0 36 [some (vR (40, 0, 0)), some (vI a0), some (vI a1), some (vJ a2), none] [vI r4] (en u)
      refine r_if_ne (tgt := 42) dX10_item_36 (by decide) (fun hc => ?_) (fun hc => ?_)
      · have hf := (am_if hf).2 hc
        refine r_aload_n (x := (40, 0, 0)) dX10_item_42 rfl ?_
        refine e_getr (z := some (92, 0, 0)) fw_X10_260 dX10_item_43 (kM_mem (s := 40) (by decide)) rfl (lt_b rfl) rfl ?_
        refine r_bipush (v := 60) dX10_item_46 rfl ?_
        refine r_iload_n (x := a0) dX10_item_48 rfl ?_
        refine r_imul dX10_item_49 ?_
        refine r_iload_n (x := a1) dX10_item_50 rfl ?_
        refine r_iadd dX10_item_51 ?_
        refine r_aload_n (x := (40, 0, 0)) dX10_item_52 rfl ?_
        refine r_aload_n (x := (40, 0, 0)) dX10_item_53 rfl ?_
        refine e_getr (z := some (90, 0, 0)) fw_X10_254 dX10_item_54 (kM_mem (s := 40) (by decide)) rfl (lt_b rfl) rfl ?_
        refine r_iload_n (x := a0) dX10_item_57 rfl ?_
        refine e_iald (n := a0.toNatClampNeg) dX10_item_58 (kM_mem (s := 90) (by decide)) rfl h3 rfl rfl ?_
        refine r_lload_n (x := a2) dX10_item_59 rfl ?_
        obtain ⟨r6, hr7, hf⟩ := am_bind hf
        refine r_callV (as := [vI (u.1 (90, 0, 0) a0.toNatClampNeg), vJ a2]) (st := [vI (((60 : Int32) * a0) + a1), vR (92, 0, 0)]) (n := 2) mw_X10_466 mv_X10_narrow (C_X10_narrow (l := l) hr7) (le_b rfl) dX10_item_60 (kM_mem (s := 40) (by decide)) rfl rfl rfl (le_b rfl) (le_b rfl) (le_b rfl) ?_
        show X l _ _ 0 0 false _ kM 0 0 63 [some (vR (40, 0, 0)), some (vI a0), some (vI a1), some (vJ a2), none] [vJ r6, vI (((60 : Int32) * a0) + a1), vR (92, 0, 0)] (en u)
        obtain ⟨h8, hf⟩ := am_nchk hf
        refine e_last (n := (((60 : Int32) * a0) + a1).toNatClampNeg) dX10_item_63 (kM_mem (s := 92) (by decide)) rfl h8 rfl ?_
        refine r_iconst (v := 1) dX10_item_64 rfl ?_
        have hx := am_inj hf
        subst hx
        exact r_iret dX10_item_65 rfl rfl (le_b rfl) (le_b rfl)
      · have hf := (am_if hf).1 hc
        refine r_bipush (v := -13) dX10_item_39 rfl ?_
        have hx := am_inj hf
        subst hx
        exact r_iret dX10_item_41 rfl rfl (le_b rfl) (le_b rfl)
    · have hf := (am_if hf).2 hc
      refine r_bipush (v := -11) dX10_item_19 rfl ?_
      have hx := am_inj hf
      subst hx
      exact r_iret dX10_item_21 rfl rfl (le_b rfl) (le_b rfl)
  · have hf := (am_if hf).1 hc
    refine r_iconst (v := -1) dX10_item_8 rfl ?_
    have hx := am_inj hf
    subst hx
    exact r_iret dX10_item_9 rfl rfl (le_b rfl) (le_b rfl)
/-! FireFromFireModel.read -/
theorem dX10_read_0 : decode cX10_read 0 = .ok (.aload_n 0, 1) := by decide +kernel
theorem dX10_read_1 : decode cX10_read 1 = .ok (.iload_n 1, 1) := by decide +kernel
theorem dX10_read_2 : decode cX10_read 2 = .ok (.invokevirtual 435, 3) := by decide +kernel
theorem dX10_read_5 : decode cX10_read 5 = .ok (.ifCond .eq 29, 3) := by decide +kernel
theorem dX10_read_8 : decode cX10_read 8 = .ok (.aload_n 0, 1) := by decide +kernel
theorem dX10_read_9 : decode cX10_read 9 = .ok (.getfield 254, 3) := by decide +kernel
theorem dX10_read_12 : decode cX10_read 12 = .ok (.iload_n 1, 1) := by decide +kernel
theorem dX10_read_13 : decode cX10_read 13 = .ok (.iaload, 1) := by decide +kernel
theorem dX10_read_14 : decode cX10_read 14 = .ok (.ifCond .lt 20, 3) := by decide +kernel
theorem dX10_read_17 : decode cX10_read 17 = .ok (.aload_n 0, 1) := by decide +kernel
theorem dX10_read_18 : decode cX10_read 18 = .ok (.iload_n 2, 1) := by decide +kernel
theorem dX10_read_19 : decode cX10_read 19 = .ok (.iconst 0, 1) := by decide +kernel
theorem dX10_read_20 : decode cX10_read 20 = .ok (.aload_n 0, 1) := by decide +kernel
theorem dX10_read_21 : decode cX10_read 21 = .ok (.getfield 257, 3) := by decide +kernel
theorem dX10_read_24 : decode cX10_read 24 = .ok (.iload_n 1, 1) := by decide +kernel
theorem dX10_read_25 : decode cX10_read 25 = .ok (.iaload, 1) := by decide +kernel
theorem dX10_read_26 : decode cX10_read 26 = .ok (.iconst 1, 1) := by decide +kernel
theorem dX10_read_27 : decode cX10_read 27 = .ok (.isub, 1) := by decide +kernel
theorem dX10_read_28 : decode cX10_read 28 = .ok (.invokevirtual 267, 3) := by decide +kernel
theorem dX10_read_31 : decode cX10_read 31 = .ok (.ifCond .ne 9, 3) := by decide +kernel
theorem dX10_read_34 : decode cX10_read 34 = .ok (.ldc2_w 416, 3) := by decide +kernel
theorem dX10_read_37 : decode cX10_read 37 = .ok (.goto 14, 3) := by decide +kernel
theorem dX10_read_40 : decode cX10_read 40 = .ok (.aload_n 0, 1) := by decide +kernel
theorem dX10_read_41 : decode cX10_read 41 = .ok (.getfield 260, 3) := by decide +kernel
theorem dX10_read_44 : decode cX10_read 44 = .ok (.bipush 60, 2) := by decide +kernel
theorem dX10_read_46 : decode cX10_read 46 = .ok (.iload_n 1, 1) := by decide +kernel
theorem dX10_read_47 : decode cX10_read 47 = .ok (.imul, 1) := by decide +kernel
theorem dX10_read_48 : decode cX10_read 48 = .ok (.iload_n 2, 1) := by decide +kernel
theorem dX10_read_49 : decode cX10_read 49 = .ok (.iadd, 1) := by decide +kernel
theorem dX10_read_50 : decode cX10_read 50 = .ok (.laload, 1) := by decide +kernel
theorem dX10_read_51 : decode cX10_read 51 = .ok (.lreturn, 1) := by decide +kernel
def f_X10_read  (a0 : Int32) (a1 : Int32) (u : PM) : Option (Int64) :=
  (f_X10_isTape a0 u).bind fun r1 =>
  if r1 = 0 then
    some (-9223372036854775808 : Int64)
  else
  if a0 < 0 ∨ 6 ≤ a0.toNatClampNeg then none else
  if (u.1 (90, 0, 0) a0.toNatClampNeg) < 0 then
    some (-9223372036854775808 : Int64)
  else
  (f_X10_in a1 (0 : Int32) ((u.1 (91, 0, 0) a0.toNatClampNeg) - (1 : Int32)) u).bind fun r4 =>
  if r4 = 0 then
    some (-9223372036854775808 : Int64)
  else
  if (((60 : Int32) * a0) + a1) < 0 ∨ 360 ≤ (((60 : Int32) * a0) + a1).toNatClampNeg then none else
  some (u.2.1 (92, 0, 0) ((((60 : Int32) * a0) + a1).toNatClampNeg))
set_option maxHeartbeats 4000000 in
set_option maxRecDepth 20000 in
theorem C_X10_read {l : Launch}  {a0 : Int32} {a1 : Int32} {u : PM} {x : Int64} (hf : f_X10_read a0 a1 u = some x) : Ev l mX10_read 3 0 0 false [vR (40, 0, 0), vI a0, vI a1] kM (en u) (some (vJ x), kM, en u) := by
  refine Ev_of (by decide +kernel) (le_b rfl) ?_
  unfold f_X10_read at hf
  show X l mX10_read 3 0 0 false _ kM 0 0 0 [some (vR (40, 0, 0)), some (vI a0), some (vI a1)] [] (en u)
  refine r_aload_n (x := (40, 0, 0)) dX10_read_0 rfl ?_
  refine r_iload_n (x := a0) dX10_read_1 rfl ?_
  obtain ⟨r1, hr2, hf⟩ := am_bind hf
  refine r_callV (as := [vI a0]) (st := []) (n := 1) mw_X10_435 mv_X10_isTape (C_X10_isTape (l := l) hr2) (le_b rfl) dX10_read_2 (kM_mem (s := 40) (by decide)) rfl rfl rfl (le_b rfl) (le_b rfl) (le_b rfl) ?_
  show X l _ _ 0 0 false _ kM 0 0 5 [some (vR (40, 0, 0)), some (vI a0), some (vI a1)] [vI r1] (en u)
  refine r_if_eq (tgt := 34) dX10_read_5 (by decide) (fun hc => ?_) (fun hc => ?_)
  · have hf := (am_if hf).1 hc
    refine r_ldc2 (v := -9223372036854775808) dX10_read_34 cc_X10_416 ?_
    refine r_goto (tgt := 51) dX10_read_37 (by decide) ?_
    have hx := am_inj hf
    subst hx
    exact r_lret dX10_read_51 rfl (le_b rfl) (le_b rfl)
  · have hf := (am_if hf).2 hc
    refine r_aload_n (x := (40, 0, 0)) dX10_read_8 rfl ?_
    refine e_getr (z := some (90, 0, 0)) fw_X10_254 dX10_read_9 (kM_mem (s := 40) (by decide)) rfl (lt_b rfl) rfl ?_
    refine r_iload_n (x := a0) dX10_read_12 rfl ?_
    obtain ⟨h3, hf⟩ := am_nchk hf
    refine e_iald (n := a0.toNatClampNeg) dX10_read_13 (kM_mem (s := 90) (by decide)) rfl h3 rfl rfl ?_
    refine r_if_lt (tgt := 34) dX10_read_14 (by decide) (fun hc => ?_) (fun hc => ?_)
    · have hf := (am_if hf).1 hc
      refine r_ldc2 (v := -9223372036854775808) dX10_read_34 cc_X10_416 ?_
      refine r_goto (tgt := 51) dX10_read_37 (by decide) ?_
      have hx := am_inj hf
      subst hx
      exact r_lret dX10_read_51 rfl (le_b rfl) (le_b rfl)
    · have hf := (am_if hf).2 hc
      refine r_aload_n (x := (40, 0, 0)) dX10_read_17 rfl ?_
      refine r_iload_n (x := a1) dX10_read_18 rfl ?_
      refine r_iconst (v := 0) dX10_read_19 rfl ?_
      refine r_aload_n (x := (40, 0, 0)) dX10_read_20 rfl ?_
      refine e_getr (z := some (91, 0, 0)) fw_X10_257 dX10_read_21 (kM_mem (s := 40) (by decide)) rfl (lt_b rfl) rfl ?_
      refine r_iload_n (x := a0) dX10_read_24 rfl ?_
      refine e_iald (n := a0.toNatClampNeg) dX10_read_25 (kM_mem (s := 91) (by decide)) rfl h3 rfl rfl ?_
      refine r_iconst (v := 1) dX10_read_26 rfl ?_
      refine r_isub dX10_read_27 ?_
      obtain ⟨r4, hr5, hf⟩ := am_bind hf
      refine r_callV (as := [vI a1, vI (0 : Int32), vI ((u.1 (91, 0, 0) a0.toNatClampNeg) - (1 : Int32))]) (st := []) (n := 3) mw_X10_267 mv_X10_in (C_X10_in (l := l) hr5) (le_b rfl) dX10_read_28 (kM_mem (s := 40) (by decide)) rfl rfl rfl (le_b rfl) (le_b rfl) (le_b rfl) ?_
      show X l _ _ 0 0 false _ kM 0 0 31 [some (vR (40, 0, 0)), some (vI a0), some (vI a1)] [vI r4] (en u)
      refine r_if_ne (tgt := 40) dX10_read_31 (by decide) (fun hc => ?_) (fun hc => ?_)
      · have hf := (am_if hf).2 hc
        refine r_aload_n (x := (40, 0, 0)) dX10_read_40 rfl ?_
        refine e_getr (z := some (92, 0, 0)) fw_X10_260 dX10_read_41 (kM_mem (s := 40) (by decide)) rfl (lt_b rfl) rfl ?_
        refine r_bipush (v := 60) dX10_read_44 rfl ?_
        refine r_iload_n (x := a0) dX10_read_46 rfl ?_
        refine r_imul dX10_read_47 ?_
        refine r_iload_n (x := a1) dX10_read_48 rfl ?_
        refine r_iadd dX10_read_49 ?_
        obtain ⟨h6, hf⟩ := am_nchk hf
        refine e_lald (n := (((60 : Int32) * a0) + a1).toNatClampNeg) dX10_read_50 (kM_mem (s := 92) (by decide)) rfl h6 rfl rfl ?_
        have hx := am_inj hf
        subst hx
        exact r_lret dX10_read_51 rfl (le_b rfl) (le_b rfl)
      · have hf := (am_if hf).1 hc
        refine r_ldc2 (v := -9223372036854775808) dX10_read_34 cc_X10_416 ?_
        refine r_goto (tgt := 51) dX10_read_37 (by decide) ?_
        have hx := am_inj hf
        subst hx
        exact r_lret dX10_read_51 rfl (le_b rfl) (le_b rfl)
/-! FireFromFireModel.shift -/
theorem dX10_shift_0 : decode cX10_shift 0 = .ok (.aload_n 0, 1) := by decide +kernel
theorem dX10_shift_1 : decode cX10_shift 1 = .ok (.iload_n 1, 1) := by decide +kernel
theorem dX10_shift_2 : decode cX10_shift 2 = .ok (.invokevirtual 435, 3) := by decide +kernel
theorem dX10_shift_5 : decode cX10_shift 5 = .ok (.ifCond .eq 11, 3) := by decide +kernel
theorem dX10_shift_8 : decode cX10_shift 8 = .ok (.aload_n 0, 1) := by decide +kernel
theorem dX10_shift_9 : decode cX10_shift 9 = .ok (.iload_n 3, 1) := by decide +kernel
theorem dX10_shift_10 : decode cX10_shift 10 = .ok (.invokevirtual 435, 3) := by decide +kernel
theorem dX10_shift_13 : decode cX10_shift 13 = .ok (.ifCond .ne 5, 3) := by decide +kernel
theorem dX10_shift_16 : decode cX10_shift 16 = .ok (.iconst (-1), 1) := by decide +kernel
theorem dX10_shift_17 : decode cX10_shift 17 = .ok (.ireturn, 1) := by decide +kernel
theorem dX10_shift_18 : decode cX10_shift 18 = .ok (.aload_n 0, 1) := by decide +kernel
theorem dX10_shift_19 : decode cX10_shift 19 = .ok (.getfield 254, 3) := by decide +kernel
theorem dX10_shift_22 : decode cX10_shift 22 = .ok (.iload_n 1, 1) := by decide +kernel
theorem dX10_shift_23 : decode cX10_shift 23 = .ok (.iaload, 1) := by decide +kernel
theorem dX10_shift_24 : decode cX10_shift 24 = .ok (.ifCond .lt 12, 3) := by decide +kernel
theorem dX10_shift_27 : decode cX10_shift 27 = .ok (.aload_n 0, 1) := by decide +kernel
theorem dX10_shift_28 : decode cX10_shift 28 = .ok (.getfield 254, 3) := by decide +kernel
theorem dX10_shift_31 : decode cX10_shift 31 = .ok (.iload_n 3, 1) := by decide +kernel
theorem dX10_shift_32 : decode cX10_shift 32 = .ok (.iaload, 1) := by decide +kernel
theorem dX10_shift_33 : decode cX10_shift 33 = .ok (.ifCond .ge 6, 3) := by decide +kernel
theorem dX10_shift_36 : decode cX10_shift 36 = .ok (.bipush (-11), 2) := by decide +kernel
theorem dX10_shift_38 : decode cX10_shift 38 = .ok (.ireturn, 1) := by decide +kernel
theorem dX10_shift_39 : decode cX10_shift 39 = .ok (.aload_n 0, 1) := by decide +kernel
theorem dX10_shift_40 : decode cX10_shift 40 = .ok (.getfield 254, 3) := by decide +kernel
theorem dX10_shift_43 : decode cX10_shift 43 = .ok (.iload_n 1, 1) := by decide +kernel
theorem dX10_shift_44 : decode cX10_shift 44 = .ok (.iaload, 1) := by decide +kernel
theorem dX10_shift_45 : decode cX10_shift 45 = .ok (.aload_n 0, 1) := by decide +kernel
theorem dX10_shift_46 : decode cX10_shift 46 = .ok (.getfield 254, 3) := by decide +kernel
theorem dX10_shift_49 : decode cX10_shift 49 = .ok (.iload_n 3, 1) := by decide +kernel
theorem dX10_shift_50 : decode cX10_shift 50 = .ok (.iaload, 1) := by decide +kernel
theorem dX10_shift_51 : decode cX10_shift 51 = .ok (.if_icmp .eq 6, 3) := by decide +kernel
theorem dX10_shift_54 : decode cX10_shift 54 = .ok (.bipush (-12), 2) := by decide +kernel
theorem dX10_shift_56 : decode cX10_shift 56 = .ok (.ireturn, 1) := by decide +kernel
theorem dX10_shift_57 : decode cX10_shift 57 = .ok (.iload 5, 2) := by decide +kernel
theorem dX10_shift_59 : decode cX10_shift 59 = .ok (.ifCond .lt 39, 3) := by decide +kernel
theorem dX10_shift_62 : decode cX10_shift 62 = .ok (.iload_n 2, 1) := by decide +kernel
theorem dX10_shift_63 : decode cX10_shift 63 = .ok (.ifCond .lt 35, 3) := by decide +kernel
theorem dX10_shift_66 : decode cX10_shift 66 = .ok (.iload 4, 2) := by decide +kernel
theorem dX10_shift_68 : decode cX10_shift 68 = .ok (.ifCond .lt 30, 3) := by decide +kernel
theorem dX10_shift_71 : decode cX10_shift 71 = .ok (.iload_n 2, 1) := by decide +kernel
theorem dX10_shift_72 : decode cX10_shift 72 = .ok (.aload_n 0, 1) := by decide +kernel
theorem dX10_shift_73 : decode cX10_shift 73 = .ok (.getfield 257, 3) := by decide +kernel
theorem dX10_shift_76 : decode cX10_shift 76 = .ok (.iload_n 1, 1) := by decide +kernel
theorem dX10_shift_77 : decode cX10_shift 77 = .ok (.iaload, 1) := by decide +kernel
theorem dX10_shift_78 : decode cX10_shift 78 = .ok (.iload 5, 2) := by decide +kernel
theorem dX10_shift_80 : decode cX10_shift 80 = .ok (.isub, 1) := by decide +kernel
theorem dX10_shift_81 : decode cX10_shift 81 = .ok (.if_icmp .gt 17, 3) := by decide +kernel
theorem dX10_shift_84 : decode cX10_shift 84 = .ok (.iload 4, 2) := by decide +kernel
theorem dX10_shift_86 : decode cX10_shift 86 = .ok (.aload_n 0, 1) := by decide +kernel
theorem dX10_shift_87 : decode cX10_shift 87 = .ok (.getfield 257, 3) := by decide +kernel
theorem dX10_shift_90 : decode cX10_shift 90 = .ok (.iload_n 3, 1) := by decide +kernel
theorem dX10_shift_91 : decode cX10_shift 91 = .ok (.iaload, 1) := by decide +kernel
theorem dX10_shift_92 : decode cX10_shift 92 = .ok (.iload 5, 2) := by decide +kernel
theorem dX10_shift_94 : decode cX10_shift 94 = .ok (.isub, 1) := by decide +kernel
theorem dX10_shift_95 : decode cX10_shift 95 = .ok (.if_icmp .le 6, 3) := by decide +kernel
theorem dX10_shift_98 : decode cX10_shift 98 = .ok (.bipush (-13), 2) := by decide +kernel
theorem dX10_shift_100 : decode cX10_shift 100 = .ok (.ireturn, 1) := by decide +kernel
theorem dX10_shift_101 : decode cX10_shift 101 = .ok (.iconst 0, 1) := by decide +kernel
theorem dX10_shift_102 : decode cX10_shift 102 = .ok (.istore 6, 2) := by decide +kernel
theorem dX10_shift_104 : decode cX10_shift 104 = .ok (.iload 6, 2) := by decide +kernel
theorem dX10_shift_106 : decode cX10_shift 106 = .ok (.iload 5, 2) := by decide +kernel
theorem dX10_shift_108 : decode cX10_shift 108 = .ok (.if_icmp .ge 30, 3) := by decide +kernel
theorem dX10_shift_111 : decode cX10_shift 111 = .ok (.aload_n 0, 1) := by decide +kernel
theorem dX10_shift_112 : decode cX10_shift 112 = .ok (.getfield 264, 3) := by decide +kernel
theorem dX10_shift_115 : decode cX10_shift 115 = .ok (.iload 6, 2) := by decide +kernel
theorem dX10_shift_117 : decode cX10_shift 117 = .ok (.aload_n 0, 1) := by decide +kernel
theorem dX10_shift_118 : decode cX10_shift 118 = .ok (.getfield 260, 3) := by decide +kernel
theorem dX10_shift_121 : decode cX10_shift 121 = .ok (.bipush 60, 2) := by decide +kernel
theorem dX10_shift_123 : decode cX10_shift 123 = .ok (.iload_n 1, 1) := by decide +kernel
theorem dX10_shift_124 : decode cX10_shift 124 = .ok (.imul, 1) := by decide +kernel
theorem dX10_shift_125 : decode cX10_shift 125 = .ok (.iload_n 2, 1) := by decide +kernel
theorem dX10_shift_126 : decode cX10_shift 126 = .ok (.iadd, 1) := by decide +kernel
theorem dX10_shift_127 : decode cX10_shift 127 = .ok (.iload 6, 2) := by decide +kernel
theorem dX10_shift_129 : decode cX10_shift 129 = .ok (.iadd, 1) := by decide +kernel
theorem dX10_shift_130 : decode cX10_shift 130 = .ok (.laload, 1) := by decide +kernel
theorem dX10_shift_131 : decode cX10_shift 131 = .ok (.lastore, 1) := by decide +kernel
theorem dX10_shift_132 : decode cX10_shift 132 = .ok (.iinc 6 1, 3) := by decide +kernel
theorem dX10_shift_135 : decode cX10_shift 135 = .ok (.goto (-31), 3) := by decide +kernel
theorem dX10_shift_138 : decode cX10_shift 138 = .ok (.iconst 0, 1) := by decide +kernel
theorem dX10_shift_139 : decode cX10_shift 139 = .ok (.istore 6, 2) := by decide +kernel
theorem dX10_shift_141 : decode cX10_shift 141 = .ok (.iload 6, 2) := by decide +kernel
theorem dX10_shift_143 : decode cX10_shift 143 = .ok (.iload 5, 2) := by decide +kernel
theorem dX10_shift_145 : decode cX10_shift 145 = .ok (.if_icmp .ge 31, 3) := by decide +kernel
theorem dX10_shift_148 : decode cX10_shift 148 = .ok (.aload_n 0, 1) := by decide +kernel
theorem dX10_shift_149 : decode cX10_shift 149 = .ok (.getfield 260, 3) := by decide +kernel
theorem dX10_shift_152 : decode cX10_shift 152 = .ok (.bipush 60, 2) := by decide +kernel
theorem dX10_shift_154 : decode cX10_shift 154 = .ok (.iload_n 3, 1) := by decide +kernel
theorem dX10_shift_155 : decode cX10_shift 155 = .ok (.imul, 1) := by decide +kernel
theorem dX10_shift_156 : decode cX10_shift 156 = .ok (.iload 4, 2) := by decide +kernel
theorem dX10_shift_158 : decode cX10_shift 158 = .ok (.iadd, 1) := by decide +kernel
theorem dX10_shift_159 : decode cX10_shift 159 = .ok (.iload 6, 2) := by decide +kernel
theorem dX10_shift_161 : decode cX10_shift 161 = .ok (.iadd, 1) := by decide +kernel
theorem dX10_shift_162 : decode cX10_shift 162 = .ok (.aload_n 0, 1) := by decide +kernel
theorem dX10_shift_163 : decode cX10_shift 163 = .ok (.getfield 264, 3) := by decide +kernel
theorem dX10_shift_166 : decode cX10_shift 166 = .ok (.iload 6, 2) := by decide +kernel
theorem dX10_shift_168 : decode cX10_shift 168 = .ok (.laload, 1) := by decide +kernel
theorem dX10_shift_169 : decode cX10_shift 169 = .ok (.lastore, 1) := by decide +kernel
theorem dX10_shift_170 : decode cX10_shift 170 = .ok (.iinc 6 1, 3) := by decide +kernel
theorem dX10_shift_173 : decode cX10_shift 173 = .ok (.goto (-32), 3) := by decide +kernel
theorem dX10_shift_176 : decode cX10_shift 176 = .ok (.iload 5, 2) := by decide +kernel
theorem dX10_shift_178 : decode cX10_shift 178 = .ok (.ireturn, 1) := by decide +kernel
def f_X10_shift_L104  (c1 : Int32) (c2 : Int32) (c3 : Int32) (c4 : Int32) (c5 : Int32) : Int32 × PM → Option ((Int32 × PM) ⊕ (PM)) := fun (x6 , u) =>
  if c5 ≤ x6 then
    some (.inr (u))
  else
  if ((((60 : Int32) * c1) + c2) + x6) < 0 ∨ 360 ≤ ((((60 : Int32) * c1) + c2) + x6).toNatClampNeg then none else
  if x6 < 0 ∨ 60 ≤ x6.toNatClampNeg then none else
  some (.inl (x6 + (1 : Int32), (pl u (93, 0, 0) x6.toNatClampNeg (u.2.1 (92, 0, 0) (((((60 : Int32) * c1) + c2) + x6).toNatClampNeg)))))
set_option maxHeartbeats 4000000 in
set_option maxRecDepth 20000 in
theorem K_X10_shift_L104 {l : Launch} {T : Option AV × List Key × AM}  {c1 : Int32} {c2 : Int32} {c3 : Int32} {c4 : Int32} {c5 : Int32} : ∀ (n : Nat) (s : Int32 × PM) (e0 : PM), am_loop (f_X10_shift_L104 c1 c2 c3 c4 c5) n s = some e0 → (fun e : PM => X l mX10_shift 3 0 0 false T kM 0 0 138 [some (vR (40, 0, 0)), none, none, some (vI c3), some (vI c4), some (vI c5), none] [] (en e)) e0 → X l mX10_shift 3 0 0 false T kM 0 0 104 [some (vR (40, 0, 0)), some (vI c1), some (vI c2), some (vI c3), some (vI c4), some (vI c5), some (vI s.1)] [] (en s.2) := by
  refine am_loop_of ?_
  intro s x hf k1 k2
  obtain ⟨x6 , u⟩ := s
  unfold f_X10_shift_L104 at hf
  show X l mX10_shift 3 0 0 false T kM 0 0 104 [some (vR (40, 0, 0)), some (vI c1), some (vI c2), some (vI c3), some (vI c4), some (vI c5), some (vI x6)] [] (en u)
  refine r_iload (x := x6) dX10_shift_104 rfl ?_
  refine r_iload (x := c5) dX10_shift_106 rfl ?_
  refine r_icmp_ge (tgt := 138) dX10_shift_108 (by decide) (fun hc => ?_) (fun hc => ?_)
  · have hf := (am_if hf).1 hc
    refine r_weak (L' := [some (vR (40, 0, 0)), none, none, some (vI c3), some (vI c4), some (vI c5), none]) (And.intro rfl (And.intro rfl (And.intro rfl (And.intro rfl trivial)))) ?_
    exact k2 (u) (am_inj hf).symm
  · have hf := (am_if hf).2 hc
    refine r_aload_n (x := (40, 0, 0)) dX10_shift_111 rfl ?_
    refine e_getr (z := some (93, 0, 0)) fw_X10_264 dX10_shift_112 (kM_mem (s := 40) (by decide)) rfl (lt_b rfl) rfl ?_
    refine r_iload (x := x6) dX10_shift_115 rfl ?_
    refine r_aload_n (x := (40, 0, 0)) dX10_shift_117 rfl ?_
    refine e_getr (z := some (92, 0, 0)) fw_X10_260 dX10_shift_118 (kM_mem (s := 40) (by decide)) rfl (lt_b rfl) rfl ?_
    refine r_bipush (v := 60) dX10_shift_121 rfl ?_
    refine r_iload_n (x := c1) dX10_shift_123 rfl ?_
    refine r_imul dX10_shift_124 ?_
    refine r_iload_n (x := c2) dX10_shift_125 rfl ?_
    refine r_iadd dX10_shift_126 ?_
    refine r_iload (x := x6) dX10_shift_127 rfl ?_
    refine r_iadd dX10_shift_129 ?_
    obtain ⟨h7, hf⟩ := am_nchk hf
    refine e_lald (n := ((((60 : Int32) * c1) + c2) + x6).toNatClampNeg) dX10_shift_130 (kM_mem (s := 92) (by decide)) rfl h7 rfl rfl ?_
    obtain ⟨h8, hf⟩ := am_nchk hf
    refine e_last (n := x6.toNatClampNeg) dX10_shift_131 (kM_mem (s := 93) (by decide)) rfl h8 rfl ?_
    refine r_iinc (x := x6) (v := x6 + (1 : Int32)) (L' := [some (vR (40, 0, 0)), some (vI c1), some (vI c2), some (vI c3), some (vI c4), some (vI c5), some (vI (x6 + (1 : Int32)))]) dX10_shift_132 rfl rfl (lt_b rfl) rfl ?_
    refine r_goto (tgt := 104) dX10_shift_135 (by decide) ?_
    refine r_weak (L' := [some (vR (40, 0, 0)), some (vI c1), some (vI c2), some (vI c3), some (vI c4), some (vI c5), some (vI (x6 + (1 : Int32)))]) (And.intro rfl (And.intro rfl (And.intro rfl (And.intro rfl (And.intro rfl (And.intro rfl (And.intro rfl trivial))))))) ?_
    exact k1 (x6 + (1 : Int32), (pl u (93, 0, 0) x6.toNatClampNeg (u.2.1 (92, 0, 0) (((((60 : Int32) * c1) + c2) + x6).toNatClampNeg)))) (am_inj hf).symm
def f_X10_shift_L141  (c3 : Int32) (c4 : Int32) (c5 : Int32) : Int32 × PM → Option ((Int32 × PM) ⊕ (PM)) := fun (x6 , u) =>
  if c5 ≤ x6 then
    some (.inr (u))
  else
  if x6 < 0 ∨ 60 ≤ x6.toNatClampNeg then none else
  if ((((60 : Int32) * c3) + c4) + x6) < 0 ∨ 360 ≤ ((((60 : Int32) * c3) + c4) + x6).toNatClampNeg then none else
  some (.inl (x6 + (1 : Int32), (pl u (92, 0, 0) (((((60 : Int32) * c3) + c4) + x6).toNatClampNeg) (u.2.1 (93, 0, 0) x6.toNatClampNeg))))
set_option maxHeartbeats 4000000 in
set_option maxRecDepth 20000 in
theorem K_X10_shift_L141 {l : Launch} {T : Option AV × List Key × AM}  {c3 : Int32} {c4 : Int32} {c5 : Int32} : ∀ (n : Nat) (s : Int32 × PM) (e0 : PM), am_loop (f_X10_shift_L141 c3 c4 c5) n s = some e0 → (fun e : PM => X l mX10_shift 3 0 0 false T kM 0 0 176 [none, none, none, none, none, some (vI c5), none] [] (en e)) e0 → X l mX10_shift 3 0 0 false T kM 0 0 141 [some (vR (40, 0, 0)), none, none, some (vI c3), some (vI c4), some (vI c5), some (vI s.1)] [] (en s.2) := by
  refine am_loop_of ?_
  intro s x hf k1 k2
  obtain ⟨x6 , u⟩ := s
  unfold f_X10_shift_L141 at hf
  show X l mX10_shift 3 0 0 false T kM 0 0 141 [some (vR (40, 0, 0)), none, none, some (vI c3), some (vI c4), some (vI c5), some (vI x6)] [] (en u)
  refine r_iload (x := x6) dX10_shift_141 rfl ?_
  refine r_iload (x := c5) dX10_shift_143 rfl ?_
  refine r_icmp_ge (tgt := 176) dX10_shift_145 (by decide) (fun hc => ?_) (fun hc => ?_)
  · have hf := (am_if hf).1 hc
    refine r_weak (L' := [none, none, none, none, none, some (vI c5), none]) (And.intro rfl trivial) ?_
    exact k2 (u) (am_inj hf).symm
  · have hf := (am_if hf).2 hc
    refine r_aload_n (x := (40, 0, 0)) dX10_shift_148 rfl ?_
    refine e_getr (z := some (92, 0, 0)) fw_X10_260 dX10_shift_149 (kM_mem (s := 40) (by decide)) rfl (lt_b rfl) rfl ?_
    refine r_bipush (v := 60) dX10_shift_152 rfl ?_
    refine r_iload_n (x := c3) dX10_shift_154 rfl ?_
    refine r_imul dX10_shift_155 ?_
    refine r_iload (x := c4) dX10_shift_156 rfl ?_
    refine r_iadd dX10_shift_158 ?_
    refine r_iload (x := x6) dX10_shift_159 rfl ?_
    refine r_iadd dX10_shift_161 ?_
    refine r_aload_n (x := (40, 0, 0)) dX10_shift_162 rfl ?_
    refine e_getr (z := some (93, 0, 0)) fw_X10_264 dX10_shift_163 (kM_mem (s := 40) (by decide)) rfl (lt_b rfl) rfl ?_
    refine r_iload (x := x6) dX10_shift_166 rfl ?_
    obtain ⟨h12, hf⟩ := am_nchk hf
    refine e_lald (n := x6.toNatClampNeg) dX10_shift_168 (kM_mem (s := 93) (by decide)) rfl h12 rfl rfl ?_
    obtain ⟨h13, hf⟩ := am_nchk hf
    refine e_last (n := ((((60 : Int32) * c3) + c4) + x6).toNatClampNeg) dX10_shift_169 (kM_mem (s := 92) (by decide)) rfl h13 rfl ?_
    refine r_iinc (x := x6) (v := x6 + (1 : Int32)) (L' := [some (vR (40, 0, 0)), none, none, some (vI c3), some (vI c4), some (vI c5), some (vI (x6 + (1 : Int32)))]) dX10_shift_170 rfl rfl (lt_b rfl) rfl ?_
    refine r_goto (tgt := 141) dX10_shift_173 (by decide) ?_
    refine r_weak (L' := [some (vR (40, 0, 0)), none, none, some (vI c3), some (vI c4), some (vI c5), some (vI (x6 + (1 : Int32)))]) (And.intro rfl (And.intro rfl (And.intro rfl (And.intro rfl (And.intro rfl trivial))))) ?_
    exact k1 (x6 + (1 : Int32), (pl u (92, 0, 0) (((((60 : Int32) * c3) + c4) + x6).toNatClampNeg) (u.2.1 (93, 0, 0) x6.toNatClampNeg))) (am_inj hf).symm
def f_X10_shift  (a0 : Int32) (a1 : Int32) (a2 : Int32) (a3 : Int32) (a4 : Int32) (u : PM) : Option (Int32 × PM) :=
  (f_X10_isTape a0 u).bind fun r1 =>
  if r1 = 0 then
    some ((-1 : Int32), u)
  else
  (f_X10_isTape a2 u).bind fun r3 =>
  if r3 = 0 then
    some ((-1 : Int32), u)
  else
  if a0 < 0 ∨ 6 ≤ a0.toNatClampNeg then none else
  if (u.1 (90, 0, 0) a0.toNatClampNeg) < 0 then
    some ((-11 : Int32), u)
  else
  if a2 < 0 ∨ 6 ≤ a2.toNatClampNeg then none else
  if 0 ≤ (u.1 (90, 0, 0) a2.toNatClampNeg) then
    if (u.1 (90, 0, 0) a0.toNatClampNeg) = (u.1 (90, 0, 0) a2.toNatClampNeg) then
      if a4 < 0 then
        some ((-13 : Int32), u)
      else
      if a1 < 0 then
        some ((-13 : Int32), u)
      else
      if a3 < 0 then
        some ((-13 : Int32), u)
      else
      if ((u.1 (91, 0, 0) a0.toNatClampNeg) - a4) < a1 then
        some ((-13 : Int32), u)
      else
      if a3 ≤ ((u.1 (91, 0, 0) a2.toNatClampNeg) - a4) then
        (am_loop (f_X10_shift_L104 a0 a1 a2 a3 a4) 2000 ((0 : Int32), u)).bind fun u11 =>
        (am_loop (f_X10_shift_L141 a2 a3 a4) 2000 ((0 : Int32), u11)).bind fun u16 =>
        some (a4, u16)
      else
      some ((-13 : Int32), u)
    else
    some ((-12 : Int32), u)
  else
  some ((-11 : Int32), u)
set_option maxHeartbeats 4000000 in
set_option maxRecDepth 20000 in
theorem C_X10_shift {l : Launch}  {a0 : Int32} {a1 : Int32} {a2 : Int32} {a3 : Int32} {a4 : Int32} {u : PM} {x : Int32 × PM} (hf : f_X10_shift a0 a1 a2 a3 a4 u = some x) : Ev l mX10_shift 3 0 0 false [vR (40, 0, 0), vI a0, vI a1, vI a2, vI a3, vI a4] kM (en u) (some (vI x.1), kM, en x.2) := by
  refine Ev_of (by decide +kernel) (le_b rfl) ?_
  unfold f_X10_shift at hf
  show X l mX10_shift 3 0 0 false _ kM 0 0 0 [some (vR (40, 0, 0)), some (vI a0), some (vI a1), some (vI a2), some (vI a3), some (vI a4), none] [] (en u)
  refine r_aload_n (x := (40, 0, 0)) dX10_shift_0 rfl ?_
  refine r_iload_n (x := a0) dX10_shift_1 rfl ?_
  obtain ⟨r1, hr2, hf⟩ := am_bind hf
  refine r_callV (as := [vI a0]) (st := []) (n := 1) mw_X10_435 mv_X10_isTape (C_X10_isTape (l := l) hr2) (le_b rfl) dX10_shift_2 (kM_mem (s := 40) (by decide)) rfl rfl rfl (le_b rfl) (le_b rfl) (le_b rfl) ?_
  show X l _ _ 0 0 false _ kM 0 0 5 [some (vR (40, 0, 0)), some (vI a0), some (vI a1), some (vI a2), some (vI a3), some (vI a4), none] [vI r1] (en u)
  refine r_if_eq (tgt := 16) dX10_shift_5 (by decide) (fun hc => ?_) (fun hc => ?_)
  · have hf := (am_if hf).1 hc
    refine r_iconst (v := -1) dX10_shift_16 rfl ?_
    have hx := am_inj hf
    subst hx
    exact r_iret dX10_shift_17 rfl rfl (le_b rfl) (le_b rfl)
  · have hf := (am_if hf).2 hc
    refine r_aload_n (x := (40, 0, 0)) dX10_shift_8 rfl ?_
    refine r_iload_n (x := a2) dX10_shift_9 rfl ?_
    obtain ⟨r3, hr4, hf⟩ := am_bind hf
    refine r_callV (as := [vI a2]) (st := []) (n := 1) mw_X10_435 mv_X10_isTape (C_X10_isTape (l := l) hr4) (le_b rfl) dX10_shift_10 (kM_mem (s := 40) (by decide)) rfl rfl rfl (le_b rfl) (le_b rfl) (le_b rfl) ?_
    show X l _ _ 0 0 false _ kM 0 0 13 [some (vR (40, 0, 0)), some (vI a0), some (vI a1), some (vI a2), some (vI a3), some (vI a4), none] [vI r3] (en u)
    refine r_if_ne (tgt := 18) dX10_shift_13 (by decide) (fun hc => ?_) (fun hc => ?_)
    · have hf := (am_if hf).2 hc
      refine r_aload_n (x := (40, 0, 0)) dX10_shift_18 rfl ?_
      refine e_getr (z := some (90, 0, 0)) fw_X10_254 dX10_shift_19 (kM_mem (s := 40) (by decide)) rfl (lt_b rfl) rfl ?_
      refine r_iload_n (x := a0) dX10_shift_22 rfl ?_
      obtain ⟨h5, hf⟩ := am_nchk hf
      refine e_iald (n := a0.toNatClampNeg) dX10_shift_23 (kM_mem (s := 90) (by decide)) rfl h5 rfl rfl ?_
      refine r_if_lt (tgt := 36) dX10_shift_24 (by decide) (fun hc => ?_) (fun hc => ?_)
      · have hf := (am_if hf).1 hc
        refine r_bipush (v := -11) dX10_shift_36 rfl ?_
        have hx := am_inj hf
        subst hx
        exact r_iret dX10_shift_38 rfl rfl (le_b rfl) (le_b rfl)
      · have hf := (am_if hf).2 hc
        refine r_aload_n (x := (40, 0, 0)) dX10_shift_27 rfl ?_
        refine e_getr (z := some (90, 0, 0)) fw_X10_254 dX10_shift_28 (kM_mem (s := 40) (by decide)) rfl (lt_b rfl) rfl ?_
        refine r_iload_n (x := a2) dX10_shift_31 rfl ?_
        obtain ⟨h6, hf⟩ := am_nchk hf
        refine e_iald (n := a2.toNatClampNeg) dX10_shift_32 (kM_mem (s := 90) (by decide)) rfl h6 rfl rfl ?_
        refine r_if_ge (tgt := 39) dX10_shift_33 (by decide) (fun hc => ?_) (fun hc => ?_)
        · have hf := (am_if hf).1 hc
          refine r_aload_n (x := (40, 0, 0)) dX10_shift_39 rfl ?_
          refine e_getr (z := some (90, 0, 0)) fw_X10_254 dX10_shift_40 (kM_mem (s := 40) (by decide)) rfl (lt_b rfl) rfl ?_
          refine r_iload_n (x := a0) dX10_shift_43 rfl ?_
          refine e_iald (n := a0.toNatClampNeg) dX10_shift_44 (kM_mem (s := 90) (by decide)) rfl h5 rfl rfl ?_
          refine r_aload_n (x := (40, 0, 0)) dX10_shift_45 rfl ?_
          refine e_getr (z := some (90, 0, 0)) fw_X10_254 dX10_shift_46 (kM_mem (s := 40) (by decide)) rfl (lt_b rfl) rfl ?_
          refine r_iload_n (x := a2) dX10_shift_49 rfl ?_
          refine e_iald (n := a2.toNatClampNeg) dX10_shift_50 (kM_mem (s := 90) (by decide)) rfl h6 rfl rfl ?_
          refine r_icmp_eq (tgt := 57) dX10_shift_51 (by decide) (fun hc => ?_) (fun hc => ?_)
          · have hf := (am_if hf).1 hc
            refine r_iload (x := a4) dX10_shift_57 rfl ?_
            refine r_if_lt (tgt := 98) dX10_shift_59 (by decide) (fun hc => ?_) (fun hc => ?_)
            · have hf := (am_if hf).1 hc
              refine r_bipush (v := -13) dX10_shift_98 rfl ?_
              have hx := am_inj hf
              subst hx
              exact r_iret dX10_shift_100 rfl rfl (le_b rfl) (le_b rfl)
            · have hf := (am_if hf).2 hc
              refine r_iload_n (x := a1) dX10_shift_62 rfl ?_
              refine r_if_lt (tgt := 98) dX10_shift_63 (by decide) (fun hc => ?_) (fun hc => ?_)
              · have hf := (am_if hf).1 hc
                refine r_bipush (v := -13) dX10_shift_98 rfl ?_
                have hx := am_inj hf
                subst hx
                exact r_iret dX10_shift_100 rfl rfl (le_b rfl) (le_b rfl)
              · have hf := (am_if hf).2 hc
                refine r_iload (x := a3) dX10_shift_66 rfl ?_
                refine r_if_lt (tgt := 98) dX10_shift_68 (by decide) (fun hc => ?_) (fun hc => ?_)
                · have hf := (am_if hf).1 hc
                  refine r_bipush (v := -13) dX10_shift_98 rfl ?_
                  have hx := am_inj hf
                  subst hx
                  exact r_iret dX10_shift_100 rfl rfl (le_b rfl) (le_b rfl)
                · have hf := (am_if hf).2 hc
                  refine r_iload_n (x := a1) dX10_shift_71 rfl ?_
                  refine r_aload_n (x := (40, 0, 0)) dX10_shift_72 rfl ?_
                  refine e_getr (z := some (91, 0, 0)) fw_X10_257 dX10_shift_73 (kM_mem (s := 40) (by decide)) rfl (lt_b rfl) rfl ?_
                  refine r_iload_n (x := a0) dX10_shift_76 rfl ?_
                  refine e_iald (n := a0.toNatClampNeg) dX10_shift_77 (kM_mem (s := 91) (by decide)) rfl h5 rfl rfl ?_
                  refine r_iload (x := a4) dX10_shift_78 rfl ?_
                  refine r_isub dX10_shift_80 ?_
                  refine r_icmp_gt (tgt := 98) dX10_shift_81 (by decide) (fun hc => ?_) (fun hc => ?_)
                  · have hf := (am_if hf).1 hc
                    refine r_bipush (v := -13) dX10_shift_98 rfl ?_
                    have hx := am_inj hf
                    subst hx
                    exact r_iret dX10_shift_100 rfl rfl (le_b rfl) (le_b rfl)
                  · have hf := (am_if hf).2 hc
                    refine r_iload (x := a3) dX10_shift_84 rfl ?_
                    refine r_aload_n (x := (40, 0, 0)) dX10_shift_86 rfl ?_
                    refine e_getr (z := some (91, 0, 0)) fw_X10_257 dX10_shift_87 (kM_mem (s := 40) (by decide)) rfl (lt_b rfl) rfl ?_
                    refine r_iload_n (x := a2) dX10_shift_90 rfl ?_
                    refine e_iald (n := a2.toNatClampNeg) dX10_shift_91 (kM_mem (s := 91) (by decide)) rfl h6 rfl rfl ?_
                    refine r_iload (x := a4) dX10_shift_92 rfl ?_
                    refine r_isub dX10_shift_94 ?_
                    refine r_icmp_le (tgt := 101) dX10_shift_95 (by decide) (fun hc => ?_) (fun hc => ?_)
                    · have hf := (am_if hf).1 hc
                      refine r_iconst (v := 0) dX10_shift_101 rfl ?_
                      refine r_istore (L' := [some (vR (40, 0, 0)), some (vI a0), some (vI a1), some (vI a2), some (vI a3), some (vI a4), some (vI (0 : Int32))]) dX10_shift_102 (by decide) rfl ?_
                      refine r_weak (L' := [some (vR (40, 0, 0)), some (vI a0), some (vI a1), some (vI a2), some (vI a3), some (vI a4), some (vI (0 : Int32))]) (And.intro rfl (And.intro rfl (And.intro rfl (And.intro rfl (And.intro rfl (And.intro rfl (And.intro rfl trivial))))))) ?_
                      obtain ⟨e9, he10, hf⟩ := am_bind hf
                      refine K_X10_shift_L104  2000 ((0 : Int32), u) _ he10 ?_
                      obtain ⟨u11, rfl⟩ : ∃ z, z = e9 := ⟨_, rfl⟩
                      show X l _ _ 0 0 false _ kM 0 0 138 [some (vR (40, 0, 0)), none, none, some (vI a2), some (vI a3), some (vI a4), none] [] (en u11)
                      refine r_iconst (v := 0) dX10_shift_138 rfl ?_
                      refine r_istore (L' := [some (vR (40, 0, 0)), none, none, some (vI a2), some (vI a3), some (vI a4), some (vI (0 : Int32))]) dX10_shift_139 (by decide) rfl ?_
                      refine r_weak (L' := [some (vR (40, 0, 0)), none, none, some (vI a2), some (vI a3), some (vI a4), some (vI (0 : Int32))]) (And.intro rfl (And.intro rfl (And.intro rfl (And.intro rfl (And.intro rfl trivial))))) ?_
                      obtain ⟨e14, he15, hf⟩ := am_bind hf
                      refine K_X10_shift_L141  2000 ((0 : Int32), u11) _ he15 ?_
                      obtain ⟨u16, rfl⟩ : ∃ z, z = e14 := ⟨_, rfl⟩
                      show X l _ _ 0 0 false _ kM 0 0 176 [none, none, none, none, none, some (vI a4), none] [] (en u16)
                      refine r_iload (x := a4) dX10_shift_176 rfl ?_
                      have hx := am_inj hf
                      subst hx
                      exact r_iret dX10_shift_178 rfl rfl (le_b rfl) (le_b rfl)
                    · have hf := (am_if hf).2 hc
                      refine r_bipush (v := -13) dX10_shift_98 rfl ?_
                      have hx := am_inj hf
                      subst hx
                      exact r_iret dX10_shift_100 rfl rfl (le_b rfl) (le_b rfl)
          · have hf := (am_if hf).2 hc
            refine r_bipush (v := -12) dX10_shift_54 rfl ?_
            have hx := am_inj hf
            subst hx
            exact r_iret dX10_shift_56 rfl rfl (le_b rfl) (le_b rfl)
        · have hf := (am_if hf).2 hc
          refine r_bipush (v := -11) dX10_shift_36 rfl ?_
          have hx := am_inj hf
          subst hx
          exact r_iret dX10_shift_38 rfl rfl (le_b rfl) (le_b rfl)
    · have hf := (am_if hf).1 hc
      refine r_iconst (v := -1) dX10_shift_16 rfl ?_
      have hx := am_inj hf
      subst hx
      exact r_iret dX10_shift_17 rfl rfl (le_b rfl) (le_b rfl)
