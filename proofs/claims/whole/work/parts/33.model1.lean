/-! FireFromFireModel.takesClause -/
theorem dX10_takesClause_0 : decode cX10_takesClause 0 = .ok (.aload_n 0, 1) := by decide +kernel
theorem dX10_takesClause_1 : decode cX10_takesClause 1 = .ok (.iload_n 1, 1) := by decide +kernel
theorem dX10_takesClause_2 : decode cX10_takesClause 2 = .ok (.invokevirtual 317, 3) := by decide +kernel
theorem dX10_takesClause_5 : decode cX10_takesClause 5 = .ok (.ifCond .ne 5, 3) := by decide +kernel
theorem dX10_takesClause_8 : decode cX10_takesClause 8 = .ok (.iconst 0, 1) := by decide +kernel
theorem dX10_takesClause_9 : decode cX10_takesClause 9 = .ok (.ireturn, 1) := by decide +kernel
theorem dX10_takesClause_10 : decode cX10_takesClause 10 = .ok (.aload_n 0, 1) := by decide +kernel
theorem dX10_takesClause_11 : decode cX10_takesClause 11 = .ok (.getfield 74, 3) := by decide +kernel
theorem dX10_takesClause_14 : decode cX10_takesClause 14 = .ok (.iload_n 1, 1) := by decide +kernel
theorem dX10_takesClause_15 : decode cX10_takesClause 15 = .ok (.iconst 0, 1) := by decide +kernel
theorem dX10_takesClause_16 : decode cX10_takesClause 16 = .ok (.iastore, 1) := by decide +kernel
theorem dX10_takesClause_17 : decode cX10_takesClause 17 = .ok (.aload_n 0, 1) := by decide +kernel
theorem dX10_takesClause_18 : decode cX10_takesClause 18 = .ok (.getfield 71, 3) := by decide +kernel
theorem dX10_takesClause_21 : decode cX10_takesClause 21 = .ok (.iload_n 1, 1) := by decide +kernel
theorem dX10_takesClause_22 : decode cX10_takesClause 22 = .ok (.iaload, 1) := by decide +kernel
theorem dX10_takesClause_23 : decode cX10_takesClause 23 = .ok (.iconst 4, 1) := by decide +kernel
theorem dX10_takesClause_24 : decode cX10_takesClause 24 = .ok (.if_icmp .ne 21, 3) := by decide +kernel
theorem dX10_takesClause_27 : decode cX10_takesClause 27 = .ok (.aload_n 0, 1) := by decide +kernel
theorem dX10_takesClause_28 : decode cX10_takesClause 28 = .ok (.iload_n 1, 1) := by decide +kernel
theorem dX10_takesClause_29 : decode cX10_takesClause 29 = .ok (.invokevirtual 320, 3) := by decide +kernel
theorem dX10_takesClause_32 : decode cX10_takesClause 32 = .ok (.ifCond .eq 11, 3) := by decide +kernel
theorem dX10_takesClause_35 : decode cX10_takesClause 35 = .ok (.aload_n 0, 1) := by decide +kernel
theorem dX10_takesClause_36 : decode cX10_takesClause 36 = .ok (.iload_n 1, 1) := by decide +kernel
theorem dX10_takesClause_37 : decode cX10_takesClause 37 = .ok (.invokevirtual 320, 3) := by decide +kernel
theorem dX10_takesClause_40 : decode cX10_takesClause 40 = .ok (.ifCond .ne 5, 3) := by decide +kernel
theorem dX10_takesClause_43 : decode cX10_takesClause 43 = .ok (.iconst 0, 1) := by decide +kernel
theorem dX10_takesClause_44 : decode cX10_takesClause 44 = .ok (.ireturn, 1) := by decide +kernel
theorem dX10_takesClause_45 : decode cX10_takesClause 45 = .ok (.aload_n 0, 1) := by decide +kernel
theorem dX10_takesClause_46 : decode cX10_takesClause 46 = .ok (.invokevirtual 299, 3) := by decide +kernel
theorem dX10_takesClause_49 : decode cX10_takesClause 49 = .ok (.ifCond .ne 5, 3) := by decide +kernel
theorem dX10_takesClause_52 : decode cX10_takesClause 52 = .ok (.iconst 0, 1) := by decide +kernel
theorem dX10_takesClause_53 : decode cX10_takesClause 53 = .ok (.ireturn, 1) := by decide +kernel
theorem dX10_takesClause_54 : decode cX10_takesClause 54 = .ok (.aload_n 0, 1) := by decide +kernel
theorem dX10_takesClause_55 : decode cX10_takesClause 55 = .ok (.getfield 77, 3) := by decide +kernel
theorem dX10_takesClause_58 : decode cX10_takesClause 58 = .ok (.iload_n 1, 1) := by decide +kernel
theorem dX10_takesClause_59 : decode cX10_takesClause 59 = .ok (.aload_n 0, 1) := by decide +kernel
theorem dX10_takesClause_60 : decode cX10_takesClause 60 = .ok (.getfield 62, 3) := by decide +kernel
theorem dX10_takesClause_63 : decode cX10_takesClause 63 = .ok (.iastore, 1) := by decide +kernel
theorem dX10_takesClause_64 : decode cX10_takesClause 64 = .ok (.aload_n 0, 1) := by decide +kernel
theorem dX10_takesClause_65 : decode cX10_takesClause 65 = .ok (.getfield 71, 3) := by decide +kernel
theorem dX10_takesClause_68 : decode cX10_takesClause 68 = .ok (.iload_n 1, 1) := by decide +kernel
theorem dX10_takesClause_69 : decode cX10_takesClause 69 = .ok (.iaload, 1) := by decide +kernel
theorem dX10_takesClause_70 : decode cX10_takesClause 70 = .ok (.iconst 4, 1) := by decide +kernel
theorem dX10_takesClause_71 : decode cX10_takesClause 71 = .ok (.if_icmp .eq 20, 3) := by decide +kernel
theorem dX10_takesClause_74 : decode cX10_takesClause 74 = .ok (.aload_n 0, 1) := by decide +kernel
theorem dX10_takesClause_75 : decode cX10_takesClause 75 = .ok (.bipush 32, 2) := by decide +kernel
theorem dX10_takesClause_77 : decode cX10_takesClause 77 = .ok (.invokevirtual 284, 3) := by decide +kernel
theorem dX10_takesClause_80 : decode cX10_takesClause 80 = .ok (.ifCond .eq 15, 3) := by decide +kernel
theorem dX10_takesClause_83 : decode cX10_takesClause 83 = .ok (.aload_n 0, 1) := by decide +kernel
theorem dX10_takesClause_84 : decode cX10_takesClause 84 = .ok (.iload_n 1, 1) := by decide +kernel
theorem dX10_takesClause_85 : decode cX10_takesClause 85 = .ok (.invokevirtual 323, 3) := by decide +kernel
theorem dX10_takesClause_88 : decode cX10_takesClause 88 = .ok (.ifCond .eq 7, 3) := by decide +kernel
theorem dX10_takesClause_91 : decode cX10_takesClause 91 = .ok (.iconst 1, 1) := by decide +kernel
theorem dX10_takesClause_92 : decode cX10_takesClause 92 = .ok (.goto 4, 3) := by decide +kernel
theorem dX10_takesClause_95 : decode cX10_takesClause 95 = .ok (.iconst 0, 1) := by decide +kernel
theorem dX10_takesClause_96 : decode cX10_takesClause 96 = .ok (.ireturn, 1) := by decide +kernel
def f_X10_takesClause  (a0 : Int32) (u : PM) : Option (Int32 × PM) :=
  (f_X10_takesHead a0 u).bind fun (r1, u3) =>
  if r1 = 0 then
    some ((0 : Int32), u3)
  else
  if a0 < 0 ∨ 50 ≤ a0.toNatClampNeg then none else
  if (u3.1 (52, 0, 0) a0.toNatClampNeg) = (4 : Int32) then
    (f_X10_takesFigure a0 (pi u3 (53, 0, 0) a0.toNatClampNeg (0 : Int32))).bind fun (r14, u16) =>
    if r14 = 0 then
      some ((0 : Int32), u16)
    else
    (f_X10_takesFigure a0 u16).bind fun (r17, u19) =>
    if r17 = 0 then
      some ((0 : Int32), u19)
    else
    (f_X10_takesNumber u19).bind fun (r20, u22) =>
    if r20 = 0 then
      some ((0 : Int32), u22)
    else
    if (u22.1 (52, 0, 0) a0.toNatClampNeg) = (4 : Int32) then
      some ((1 : Int32), (pi u22 (54, 0, 0) a0.toNatClampNeg (u22.1 (40, 0, 0) 17)))
    else
    (f_X10_takesSign (32 : Int32) (pi u22 (54, 0, 0) a0.toNatClampNeg (u22.1 (40, 0, 0) 17))).bind fun (r23, u25) =>
    if r23 = 0 then
      some ((0 : Int32), u25)
    else
    (f_X10_takesE a0 u25).bind fun (r26, u28) =>
    if r26 = 0 then
      some ((0 : Int32), u28)
    else
    some ((1 : Int32), u28)
  else
  (f_X10_takesNumber (pi u3 (53, 0, 0) a0.toNatClampNeg (0 : Int32))).bind fun (r5, u7) =>
  if r5 = 0 then
    some ((0 : Int32), u7)
  else
  if (u7.1 (52, 0, 0) a0.toNatClampNeg) = (4 : Int32) then
    some ((1 : Int32), (pi u7 (54, 0, 0) a0.toNatClampNeg (u7.1 (40, 0, 0) 17)))
  else
  (f_X10_takesSign (32 : Int32) (pi u7 (54, 0, 0) a0.toNatClampNeg (u7.1 (40, 0, 0) 17))).bind fun (r8, u10) =>
  if r8 = 0 then
    some ((0 : Int32), u10)
  else
  (f_X10_takesE a0 u10).bind fun (r11, u13) =>
  if r11 = 0 then
    some ((0 : Int32), u13)
  else
  some ((1 : Int32), u13)
set_option maxHeartbeats 4000000 in
set_option maxRecDepth 20000 in
theorem C_X10_takesClause {l : Launch}  {a0 : Int32} {u : PM} {x : Int32 × PM} (hf : f_X10_takesClause a0 u = some x) : Ev l mX10_takesClause 6 0 0 false [vR (40, 0, 0), vI a0] kM (en u) (some (vI x.1), kM, en x.2) := by
  refine Ev_of (by decide +kernel) (le_b rfl) ?_
  unfold f_X10_takesClause at hf
  show X l mX10_takesClause 6 0 0 false _ kM 0 0 0 [some (vR (40, 0, 0)), some (vI a0)] [] (en u)
  refine r_aload_n (x := (40, 0, 0)) dX10_takesClause_0 rfl ?_
  refine r_iload_n (x := a0) dX10_takesClause_1 rfl ?_
  obtain ⟨⟨r1, u3⟩, hr2, hf⟩ := am_bind hf
  refine r_callV (as := [vI a0]) (st := []) (n := 1) mw_X10_317 mv_X10_takesHead (C_X10_takesHead (l := l) hr2) (le_b rfl) dX10_takesClause_2 (kM_mem (s := 40) (by decide)) rfl rfl rfl (le_b rfl) (le_b rfl) (le_b rfl) ?_
  show X l _ _ 0 0 false _ kM 0 0 5 [some (vR (40, 0, 0)), some (vI a0)] [vI r1] (en u3)
  refine r_if_ne (tgt := 10) dX10_takesClause_5 (by decide) (fun hc => ?_) (fun hc => ?_)
  · have hf := (am_if hf).2 hc
    refine r_aload_n (x := (40, 0, 0)) dX10_takesClause_10 rfl ?_
    refine e_getr (z := some (53, 0, 0)) fw_X10_74 dX10_takesClause_11 (kM_mem (s := 40) (by decide)) rfl (lt_b rfl) rfl ?_
    refine r_iload_n (x := a0) dX10_takesClause_14 rfl ?_
    refine r_iconst (v := 0) dX10_takesClause_15 rfl ?_
    obtain ⟨h4, hf⟩ := am_nchk hf
    refine e_iast (n := a0.toNatClampNeg) dX10_takesClause_16 (kM_mem (s := 53) (by decide)) rfl h4 rfl ?_
    refine r_aload_n (x := (40, 0, 0)) dX10_takesClause_17 rfl ?_
    refine e_getr (z := some (52, 0, 0)) fw_X10_71 dX10_takesClause_18 (kM_mem (s := 40) (by decide)) rfl (lt_b rfl) rfl ?_
    refine r_iload_n (x := a0) dX10_takesClause_21 rfl ?_
    refine e_iald (n := a0.toNatClampNeg) (x := u3.1 (52, 0, 0) a0.toNatClampNeg) dX10_takesClause_22 (kM_mem (s := 52) (by decide)) rfl h4 rfl (by simp [pi, pl, pr, pci, pcl]) ?_
    refine r_iconst (v := 4) dX10_takesClause_23 rfl ?_
    refine r_icmp_ne (tgt := 45) dX10_takesClause_24 (by decide) (fun hc => ?_) (fun hc => ?_)
    · have hf := (am_if hf).2 hc
      refine r_aload_n (x := (40, 0, 0)) dX10_takesClause_45 rfl ?_
      obtain ⟨⟨r5, u7⟩, hr6, hf⟩ := am_bind hf
      refine r_callV (as := []) (st := []) (n := 0) mw_X10_299 mv_X10_takesNumber (C_X10_takesNumber (l := l) hr6) (le_b rfl) dX10_takesClause_46 (kM_mem (s := 40) (by decide)) rfl rfl rfl (le_b rfl) (le_b rfl) (le_b rfl) ?_
      show X l _ _ 0 0 false _ kM 0 0 49 [some (vR (40, 0, 0)), some (vI a0)] [vI r5] (en u7)
      refine r_if_ne (tgt := 54) dX10_takesClause_49 (by decide) (fun hc => ?_) (fun hc => ?_)
      · have hf := (am_if hf).2 hc
        refine r_aload_n (x := (40, 0, 0)) dX10_takesClause_54 rfl ?_
        refine e_getr (z := some (54, 0, 0)) fw_X10_77 dX10_takesClause_55 (kM_mem (s := 40) (by decide)) rfl (lt_b rfl) rfl ?_
        refine r_iload_n (x := a0) dX10_takesClause_58 rfl ?_
        refine r_aload_n (x := (40, 0, 0)) dX10_takesClause_59 rfl ?_
        refine e_geti fw_X10_62 dX10_takesClause_60 (kM_mem (s := 40) (by decide)) rfl (lt_b rfl) ?_
        refine e_iast (n := a0.toNatClampNeg) dX10_takesClause_63 (kM_mem (s := 54) (by decide)) rfl h4 rfl ?_
        refine r_aload_n (x := (40, 0, 0)) dX10_takesClause_64 rfl ?_
        refine e_getr (z := some (52, 0, 0)) fw_X10_71 dX10_takesClause_65 (kM_mem (s := 40) (by decide)) rfl (lt_b rfl) rfl ?_
        refine r_iload_n (x := a0) dX10_takesClause_68 rfl ?_
        refine e_iald (n := a0.toNatClampNeg) (x := u7.1 (52, 0, 0) a0.toNatClampNeg) dX10_takesClause_69 (kM_mem (s := 52) (by decide)) rfl h4 rfl (by simp [pi, pl, pr, pci, pcl]) ?_
        refine r_iconst (v := 4) dX10_takesClause_70 rfl ?_
        refine r_icmp_eq (tgt := 91) dX10_takesClause_71 (by decide) (fun hc => ?_) (fun hc => ?_)
        · have hf := (am_if hf).1 hc
          refine r_iconst (v := 1) dX10_takesClause_91 rfl ?_
          refine r_goto (tgt := 96) dX10_takesClause_92 (by decide) ?_
          have hx := am_inj hf
          subst hx
          exact r_iret dX10_takesClause_96 rfl (am_bool (x := 1) (by decide)).1 (le_b rfl) (le_b rfl)
        · have hf := (am_if hf).2 hc
          refine r_aload_n (x := (40, 0, 0)) dX10_takesClause_74 rfl ?_
          refine r_bipush (v := 32) dX10_takesClause_75 rfl ?_
          obtain ⟨⟨r8, u10⟩, hr9, hf⟩ := am_bind hf
          refine r_callV (as := [vI (32 : Int32)]) (st := []) (n := 1) mw_X10_284 mv_X10_takesSign (C_X10_takesSign (l := l) hr9) (le_b rfl) dX10_takesClause_77 (kM_mem (s := 40) (by decide)) rfl rfl rfl (le_b rfl) (le_b rfl) (le_b rfl) ?_
          show X l _ _ 0 0 false _ kM 0 0 80 [some (vR (40, 0, 0)), some (vI a0)] [vI r8] (en u10)
          refine r_if_eq (tgt := 95) dX10_takesClause_80 (by decide) (fun hc => ?_) (fun hc => ?_)
          · have hf := (am_if hf).1 hc
            refine r_iconst (v := 0) dX10_takesClause_95 rfl ?_
            have hx := am_inj hf
            subst hx
            exact r_iret dX10_takesClause_96 rfl (am_bool (x := 0) (by decide)).1 (le_b rfl) (le_b rfl)
          · have hf := (am_if hf).2 hc
            refine r_aload_n (x := (40, 0, 0)) dX10_takesClause_83 rfl ?_
            refine r_iload_n (x := a0) dX10_takesClause_84 rfl ?_
            obtain ⟨⟨r11, u13⟩, hr12, hf⟩ := am_bind hf
            refine r_callV (as := [vI a0]) (st := []) (n := 1) mw_X10_323 mv_X10_takesE (C_X10_takesE (l := l) hr12) (le_b rfl) dX10_takesClause_85 (kM_mem (s := 40) (by decide)) rfl rfl rfl (le_b rfl) (le_b rfl) (le_b rfl) ?_
            show X l _ _ 0 0 false _ kM 0 0 88 [some (vR (40, 0, 0)), some (vI a0)] [vI r11] (en u13)
            refine r_if_eq (tgt := 95) dX10_takesClause_88 (by decide) (fun hc => ?_) (fun hc => ?_)
            · have hf := (am_if hf).1 hc
              refine r_iconst (v := 0) dX10_takesClause_95 rfl ?_
              have hx := am_inj hf
              subst hx
              exact r_iret dX10_takesClause_96 rfl (am_bool (x := 0) (by decide)).1 (le_b rfl) (le_b rfl)
            · have hf := (am_if hf).2 hc
              refine r_iconst (v := 1) dX10_takesClause_91 rfl ?_
              refine r_goto (tgt := 96) dX10_takesClause_92 (by decide) ?_
              have hx := am_inj hf
              subst hx
              exact r_iret dX10_takesClause_96 rfl (am_bool (x := 1) (by decide)).1 (le_b rfl) (le_b rfl)
      · have hf := (am_if hf).1 hc
        refine r_iconst (v := 0) dX10_takesClause_52 rfl ?_
        have hx := am_inj hf
        subst hx
        exact r_iret dX10_takesClause_53 rfl (am_bool (x := 0) (by decide)).1 (le_b rfl) (le_b rfl)
    · have hf := (am_if hf).1 hc
      refine r_aload_n (x := (40, 0, 0)) dX10_takesClause_27 rfl ?_
      refine r_iload_n (x := a0) dX10_takesClause_28 rfl ?_
      obtain ⟨⟨r14, u16⟩, hr15, hf⟩ := am_bind hf
      refine r_callV (as := [vI a0]) (st := []) (n := 1) mw_X10_320 mv_X10_takesFigure (C_X10_takesFigure (l := l) hr15) (le_b rfl) dX10_takesClause_29 (kM_mem (s := 40) (by decide)) rfl rfl rfl (le_b rfl) (le_b rfl) (le_b rfl) ?_
      show X l _ _ 0 0 false _ kM 0 0 32 [some (vR (40, 0, 0)), some (vI a0)] [vI r14] (en u16)
      refine r_if_eq (tgt := 43) dX10_takesClause_32 (by decide) (fun hc => ?_) (fun hc => ?_)
      · have hf := (am_if hf).1 hc
        refine r_iconst (v := 0) dX10_takesClause_43 rfl ?_
        have hx := am_inj hf
        subst hx
        exact r_iret dX10_takesClause_44 rfl (am_bool (x := 0) (by decide)).1 (le_b rfl) (le_b rfl)
      · have hf := (am_if hf).2 hc
        refine r_aload_n (x := (40, 0, 0)) dX10_takesClause_35 rfl ?_
        refine r_iload_n (x := a0) dX10_takesClause_36 rfl ?_
        obtain ⟨⟨r17, u19⟩, hr18, hf⟩ := am_bind hf
        refine r_callV (as := [vI a0]) (st := []) (n := 1) mw_X10_320 mv_X10_takesFigure (C_X10_takesFigure (l := l) hr18) (le_b rfl) dX10_takesClause_37 (kM_mem (s := 40) (by decide)) rfl rfl rfl (le_b rfl) (le_b rfl) (le_b rfl) ?_
        show X l _ _ 0 0 false _ kM 0 0 40 [some (vR (40, 0, 0)), some (vI a0)] [vI r17] (en u19)
        refine r_if_ne (tgt := 45) dX10_takesClause_40 (by decide) (fun hc => ?_) (fun hc => ?_)
        · have hf := (am_if hf).2 hc
          refine r_aload_n (x := (40, 0, 0)) dX10_takesClause_45 rfl ?_
          obtain ⟨⟨r20, u22⟩, hr21, hf⟩ := am_bind hf
          refine r_callV (as := []) (st := []) (n := 0) mw_X10_299 mv_X10_takesNumber (C_X10_takesNumber (l := l) hr21) (le_b rfl) dX10_takesClause_46 (kM_mem (s := 40) (by decide)) rfl rfl rfl (le_b rfl) (le_b rfl) (le_b rfl) ?_
          show X l _ _ 0 0 false _ kM 0 0 49 [some (vR (40, 0, 0)), some (vI a0)] [vI r20] (en u22)
          refine r_if_ne (tgt := 54) dX10_takesClause_49 (by decide) (fun hc => ?_) (fun hc => ?_)
          · have hf := (am_if hf).2 hc
            refine r_aload_n (x := (40, 0, 0)) dX10_takesClause_54 rfl ?_
            refine e_getr (z := some (54, 0, 0)) fw_X10_77 dX10_takesClause_55 (kM_mem (s := 40) (by decide)) rfl (lt_b rfl) rfl ?_
            refine r_iload_n (x := a0) dX10_takesClause_58 rfl ?_
            refine r_aload_n (x := (40, 0, 0)) dX10_takesClause_59 rfl ?_
            refine e_geti fw_X10_62 dX10_takesClause_60 (kM_mem (s := 40) (by decide)) rfl (lt_b rfl) ?_
            refine e_iast (n := a0.toNatClampNeg) dX10_takesClause_63 (kM_mem (s := 54) (by decide)) rfl h4 rfl ?_
            refine r_aload_n (x := (40, 0, 0)) dX10_takesClause_64 rfl ?_
            refine e_getr (z := some (52, 0, 0)) fw_X10_71 dX10_takesClause_65 (kM_mem (s := 40) (by decide)) rfl (lt_b rfl) rfl ?_
            refine r_iload_n (x := a0) dX10_takesClause_68 rfl ?_
            refine e_iald (n := a0.toNatClampNeg) (x := u22.1 (52, 0, 0) a0.toNatClampNeg) dX10_takesClause_69 (kM_mem (s := 52) (by decide)) rfl h4 rfl (by simp [pi, pl, pr, pci, pcl]) ?_
            refine r_iconst (v := 4) dX10_takesClause_70 rfl ?_
            refine r_icmp_eq (tgt := 91) dX10_takesClause_71 (by decide) (fun hc => ?_) (fun hc => ?_)
            · have hf := (am_if hf).1 hc
              refine r_iconst (v := 1) dX10_takesClause_91 rfl ?_
              refine r_goto (tgt := 96) dX10_takesClause_92 (by decide) ?_
              have hx := am_inj hf
              subst hx
              exact r_iret dX10_takesClause_96 rfl (am_bool (x := 1) (by decide)).1 (le_b rfl) (le_b rfl)
            · have hf := (am_if hf).2 hc
              refine r_aload_n (x := (40, 0, 0)) dX10_takesClause_74 rfl ?_
              refine r_bipush (v := 32) dX10_takesClause_75 rfl ?_
              obtain ⟨⟨r23, u25⟩, hr24, hf⟩ := am_bind hf
              refine r_callV (as := [vI (32 : Int32)]) (st := []) (n := 1) mw_X10_284 mv_X10_takesSign (C_X10_takesSign (l := l) hr24) (le_b rfl) dX10_takesClause_77 (kM_mem (s := 40) (by decide)) rfl rfl rfl (le_b rfl) (le_b rfl) (le_b rfl) ?_
              show X l _ _ 0 0 false _ kM 0 0 80 [some (vR (40, 0, 0)), some (vI a0)] [vI r23] (en u25)
              refine r_if_eq (tgt := 95) dX10_takesClause_80 (by decide) (fun hc => ?_) (fun hc => ?_)
              · have hf := (am_if hf).1 hc
                refine r_iconst (v := 0) dX10_takesClause_95 rfl ?_
                have hx := am_inj hf
                subst hx
                exact r_iret dX10_takesClause_96 rfl (am_bool (x := 0) (by decide)).1 (le_b rfl) (le_b rfl)
              · have hf := (am_if hf).2 hc
                refine r_aload_n (x := (40, 0, 0)) dX10_takesClause_83 rfl ?_
                refine r_iload_n (x := a0) dX10_takesClause_84 rfl ?_
                obtain ⟨⟨r26, u28⟩, hr27, hf⟩ := am_bind hf
                refine r_callV (as := [vI a0]) (st := []) (n := 1) mw_X10_323 mv_X10_takesE (C_X10_takesE (l := l) hr27) (le_b rfl) dX10_takesClause_85 (kM_mem (s := 40) (by decide)) rfl rfl rfl (le_b rfl) (le_b rfl) (le_b rfl) ?_
                show X l _ _ 0 0 false _ kM 0 0 88 [some (vR (40, 0, 0)), some (vI a0)] [vI r26] (en u28)
                refine r_if_eq (tgt := 95) dX10_takesClause_88 (by decide) (fun hc => ?_) (fun hc => ?_)
                · have hf := (am_if hf).1 hc
                  refine r_iconst (v := 0) dX10_takesClause_95 rfl ?_
                  have hx := am_inj hf
                  subst hx
                  exact r_iret dX10_takesClause_96 rfl (am_bool (x := 0) (by decide)).1 (le_b rfl) (le_b rfl)
                · have hf := (am_if hf).2 hc
                  refine r_iconst (v := 1) dX10_takesClause_91 rfl ?_
                  refine r_goto (tgt := 96) dX10_takesClause_92 (by decide) ?_
                  have hx := am_inj hf
                  subst hx
                  exact r_iret dX10_takesClause_96 rfl (am_bool (x := 1) (by decide)).1 (le_b rfl) (le_b rfl)
          · have hf := (am_if hf).1 hc
            refine r_iconst (v := 0) dX10_takesClause_52 rfl ?_
            have hx := am_inj hf
            subst hx
            exact r_iret dX10_takesClause_53 rfl (am_bool (x := 0) (by decide)).1 (le_b rfl) (le_b rfl)
        · have hf := (am_if hf).1 hc
          refine r_iconst (v := 0) dX10_takesClause_43 rfl ?_
          have hx := am_inj hf
          subst hx
          exact r_iret dX10_takesClause_44 rfl (am_bool (x := 0) (by decide)).1 (le_b rfl) (le_b rfl)
  · have hf := (am_if hf).1 hc
    refine r_iconst (v := 0) dX10_takesClause_8 rfl ?_
    have hx := am_inj hf
    subst hx
    exact r_iret dX10_takesClause_9 rfl (am_bool (x := 0) (by decide)).1 (le_b rfl) (le_b rfl)
/-! FireFromFireModel.goesText -/
theorem dX10_goesText_0 : decode cX10_goesText 0 = .ok (.aload_n 0, 1) := by decide +kernel
theorem dX10_goesText_1 : decode cX10_goesText 1 = .ok (.iconst 0, 1) := by decide +kernel
theorem dX10_goesText_2 : decode cX10_goesText 2 = .ok (.putfield 59, 3) := by decide +kernel
theorem dX10_goesText_5 : decode cX10_goesText 5 = .ok (.aload_n 0, 1) := by decide +kernel
theorem dX10_goesText_6 : decode cX10_goesText 6 = .ok (.bipush 100, 2) := by decide +kernel
theorem dX10_goesText_8 : decode cX10_goesText 8 = .ok (.iload_n 1, 1) := by decide +kernel
theorem dX10_goesText_9 : decode cX10_goesText 9 = .ok (.imul, 1) := by decide +kernel
theorem dX10_goesText_10 : decode cX10_goesText 10 = .ok (.putfield 92, 3) := by decide +kernel
theorem dX10_goesText_13 : decode cX10_goesText 13 = .ok (.iconst 0, 1) := by decide +kernel
theorem dX10_goesText_14 : decode cX10_goesText 14 = .ok (.istore_n 2, 1) := by decide +kernel
theorem dX10_goesText_15 : decode cX10_goesText 15 = .ok (.aload_n 0, 1) := by decide +kernel
theorem dX10_goesText_16 : decode cX10_goesText 16 = .ok (.bipush 10, 2) := by decide +kernel
theorem dX10_goesText_18 : decode cX10_goesText 18 = .ok (.iload_n 1, 1) := by decide +kernel
theorem dX10_goesText_19 : decode cX10_goesText 19 = .ok (.imul, 1) := by decide +kernel
theorem dX10_goesText_20 : decode cX10_goesText 20 = .ok (.iload_n 2, 1) := by decide +kernel
theorem dX10_goesText_21 : decode cX10_goesText 21 = .ok (.iadd, 1) := by decide +kernel
theorem dX10_goesText_22 : decode cX10_goesText 22 = .ok (.invokevirtual 326, 3) := by decide +kernel
theorem dX10_goesText_25 : decode cX10_goesText 25 = .ok (.ifCond .ne 5, 3) := by decide +kernel
theorem dX10_goesText_28 : decode cX10_goesText 28 = .ok (.iconst 0, 1) := by decide +kernel
theorem dX10_goesText_29 : decode cX10_goesText 29 = .ok (.ireturn, 1) := by decide +kernel
theorem dX10_goesText_30 : decode cX10_goesText 30 = .ok (.iinc 2 1, 3) := by decide +kernel
theorem dX10_goesText_33 : decode cX10_goesText 33 = .ok (.aload_n 0, 1) := by decide +kernel
theorem dX10_goesText_34 : decode cX10_goesText 34 = .ok (.getfield 68, 3) := by decide +kernel
theorem dX10_goesText_37 : decode cX10_goesText 37 = .ok (.iload_n 1, 1) := by decide +kernel
theorem dX10_goesText_38 : decode cX10_goesText 38 = .ok (.iload_n 2, 1) := by decide +kernel
theorem dX10_goesText_39 : decode cX10_goesText 39 = .ok (.iastore, 1) := by decide +kernel
theorem dX10_goesText_40 : decode cX10_goesText 40 = .ok (.aload_n 0, 1) := by decide +kernel
theorem dX10_goesText_41 : decode cX10_goesText 41 = .ok (.getfield 59, 3) := by decide +kernel
theorem dX10_goesText_44 : decode cX10_goesText 44 = .ok (.aload_n 0, 1) := by decide +kernel
theorem dX10_goesText_45 : decode cX10_goesText 45 = .ok (.getfield 56, 3) := by decide +kernel
theorem dX10_goesText_48 : decode cX10_goesText 48 = .ok (.if_icmp .ne 5, 3) := by decide +kernel
theorem dX10_goesText_51 : decode cX10_goesText 51 = .ok (.iconst 1, 1) := by decide +kernel
theorem dX10_goesText_52 : decode cX10_goesText 52 = .ok (.ireturn, 1) := by decide +kernel
theorem dX10_goesText_53 : decode cX10_goesText 53 = .ok (.iload_n 2, 1) := by decide +kernel
theorem dX10_goesText_54 : decode cX10_goesText 54 = .ok (.bipush 10, 2) := by decide +kernel
theorem dX10_goesText_56 : decode cX10_goesText 56 = .ok (.if_icmp .eq 12, 3) := by decide +kernel
theorem dX10_goesText_59 : decode cX10_goesText 59 = .ok (.aload_n 0, 1) := by decide +kernel
theorem dX10_goesText_60 : decode cX10_goesText 60 = .ok (.bipush 59, 2) := by decide +kernel
theorem dX10_goesText_62 : decode cX10_goesText 62 = .ok (.invokevirtual 284, 3) := by decide +kernel
theorem dX10_goesText_65 : decode cX10_goesText 65 = .ok (.ifCond .ne (-50), 3) := by decide +kernel
theorem dX10_goesText_68 : decode cX10_goesText 68 = .ok (.iconst 0, 1) := by decide +kernel
theorem dX10_goesText_69 : decode cX10_goesText 69 = .ok (.ireturn, 1) := by decide +kernel
def f_X10_goesText_L15  (c1 : Int32) : Int32 × PM → Option ((Int32 × PM) ⊕ ((Int32 × PM) ⊕ (PM))) := fun (x2 , u) =>
  (f_X10_takesClause (((10 : Int32) * c1) + x2) u).bind fun (r1, u3) =>
  if r1 = 0 then
    some (.inr (.inl ((0 : Int32), u3)))
  else
  if c1 < 0 ∨ 5 ≤ c1.toNatClampNeg then none else
  if (u3.1 (40, 0, 0) 16) = (u3.1 (40, 0, 0) 15) then
    some (.inr (.inl ((1 : Int32), (pi u3 (51, 0, 0) c1.toNatClampNeg (x2 + (1 : Int32))))))
  else
  if (x2 + (1 : Int32)) = (10 : Int32) then
    some (.inr (.inr ((pi u3 (51, 0, 0) c1.toNatClampNeg (x2 + (1 : Int32))))))
  else
  (f_X10_takesSign (59 : Int32) (pi u3 (51, 0, 0) c1.toNatClampNeg (x2 + (1 : Int32)))).bind fun (r5, u7) =>
  if r5 = 0 then
    some (.inr (.inr (u7)))
  else
  some (.inl (x2 + (1 : Int32), u7))
set_option maxHeartbeats 4000000 in
set_option maxRecDepth 20000 in
theorem K_X10_goesText_L15 {l : Launch} {T : Option AV × List Key × AM}  {c1 : Int32} : ∀ (n : Nat) (s : Int32 × PM) (e0 : (Int32 × PM) ⊕ (PM)), am_loop (f_X10_goesText_L15 c1) n s = some e0 → Sum.elim (fun r : Int32 × PM => T = (some (vI r.1), kM, en r.2)) (fun e : PM => X l mX10_goesText 7 0 0 false T kM 0 0 68 [none, none, none] [] (en e)) e0 → X l mX10_goesText 7 0 0 false T kM 0 0 15 [some (vR (40, 0, 0)), some (vI c1), some (vI s.1)] [] (en s.2) := by
  refine am_loop_of ?_
  intro s x hf k1 k2
  obtain ⟨x2 , u⟩ := s
  unfold f_X10_goesText_L15 at hf
  show X l mX10_goesText 7 0 0 false T kM 0 0 15 [some (vR (40, 0, 0)), some (vI c1), some (vI x2)] [] (en u)
  refine r_aload_n (x := (40, 0, 0)) dX10_goesText_15 rfl ?_
  refine r_bipush (v := 10) dX10_goesText_16 rfl ?_
  refine r_iload_n (x := c1) dX10_goesText_18 rfl ?_
  refine r_imul dX10_goesText_19 ?_
  refine r_iload_n (x := x2) dX10_goesText_20 rfl ?_
  refine r_iadd dX10_goesText_21 ?_
  obtain ⟨⟨r1, u3⟩, hr2, hf⟩ := am_bind hf
  refine r_callV (as := [vI (((10 : Int32) * c1) + x2)]) (st := []) (n := 1) mw_X10_326 mv_X10_takesClause (C_X10_takesClause (l := l) hr2) (le_b rfl) dX10_goesText_22 (kM_mem (s := 40) (by decide)) rfl rfl rfl (le_b rfl) (le_b rfl) (le_b rfl) ?_
  show X l _ _ 0 0 false _ kM 0 0 25 [some (vR (40, 0, 0)), some (vI c1), some (vI x2)] [vI r1] (en u3)
  refine r_if_ne (tgt := 30) dX10_goesText_25 (by decide) (fun hc => ?_) (fun hc => ?_)
  · have hf := (am_if hf).2 hc
    refine r_iinc (x := x2) (v := x2 + (1 : Int32)) (L' := [some (vR (40, 0, 0)), some (vI c1), some (vI (x2 + (1 : Int32)))]) dX10_goesText_30 rfl rfl (lt_b rfl) rfl ?_
    refine r_aload_n (x := (40, 0, 0)) dX10_goesText_33 rfl ?_
    refine e_getr (z := some (51, 0, 0)) fw_X10_68 dX10_goesText_34 (kM_mem (s := 40) (by decide)) rfl (lt_b rfl) rfl ?_
    refine r_iload_n (x := c1) dX10_goesText_37 rfl ?_
    refine r_iload_n (x := x2 + (1 : Int32)) dX10_goesText_38 rfl ?_
    obtain ⟨h4, hf⟩ := am_nchk hf
    refine e_iast (n := c1.toNatClampNeg) dX10_goesText_39 (kM_mem (s := 51) (by decide)) rfl h4 rfl ?_
    refine r_aload_n (x := (40, 0, 0)) dX10_goesText_40 rfl ?_
    refine e_geti_ (x := u3.1 (40, 0, 0) 16) fw_X10_59 dX10_goesText_41 (kM_mem (s := 40) (by decide)) rfl (lt_b rfl) (by simp [pi, pl, pr, pci, pcl]) ?_
    refine r_aload_n (x := (40, 0, 0)) dX10_goesText_44 rfl ?_
    refine e_geti_ (x := u3.1 (40, 0, 0) 15) fw_X10_56 dX10_goesText_45 (kM_mem (s := 40) (by decide)) rfl (lt_b rfl) (by simp [pi, pl, pr, pci, pcl]) ?_
    refine r_icmp_ne (tgt := 53) dX10_goesText_48 (by decide) (fun hc => ?_) (fun hc => ?_)
    · have hf := (am_if hf).2 hc
      refine r_iload_n (x := x2 + (1 : Int32)) dX10_goesText_53 rfl ?_
      refine r_bipush (v := 10) dX10_goesText_54 rfl ?_
      refine r_icmp_eq (tgt := 68) dX10_goesText_56 (by decide) (fun hc => ?_) (fun hc => ?_)
      · have hf := (am_if hf).1 hc
        refine r_weak (L' := [none, none, none]) trivial ?_
        exact k2 (.inr ((pi u3 (51, 0, 0) c1.toNatClampNeg (x2 + (1 : Int32))))) (am_inj hf).symm
      · have hf := (am_if hf).2 hc
        refine r_aload_n (x := (40, 0, 0)) dX10_goesText_59 rfl ?_
        refine r_bipush (v := 59) dX10_goesText_60 rfl ?_
        obtain ⟨⟨r5, u7⟩, hr6, hf⟩ := am_bind hf
        refine r_callV (as := [vI (59 : Int32)]) (st := []) (n := 1) mw_X10_284 mv_X10_takesSign (C_X10_takesSign (l := l) hr6) (le_b rfl) dX10_goesText_62 (kM_mem (s := 40) (by decide)) rfl rfl rfl (le_b rfl) (le_b rfl) (le_b rfl) ?_
        show X l _ _ 0 0 false _ kM 0 0 65 [some (vR (40, 0, 0)), some (vI c1), some (vI (x2 + (1 : Int32)))] [vI r5] (en u7)
        refine r_if_ne (tgt := 15) dX10_goesText_65 (by decide) (fun hc => ?_) (fun hc => ?_)
        · have hf := (am_if hf).2 hc
          refine r_weak (L' := [some (vR (40, 0, 0)), some (vI c1), some (vI (x2 + (1 : Int32)))]) (And.intro rfl (And.intro rfl (And.intro rfl trivial))) ?_
          exact k1 (x2 + (1 : Int32), u7) (am_inj hf).symm
        · have hf := (am_if hf).1 hc
          refine r_weak (L' := [none, none, none]) trivial ?_
          exact k2 (.inr (u7)) (am_inj hf).symm
    · have hf := (am_if hf).1 hc
      refine r_iconst (v := 1) dX10_goesText_51 rfl ?_
      have hT := k2 _ (am_inj hf).symm
      replace hT : T = (some (vI (1 : Int32)), kM, en (pi u3 (51, 0, 0) c1.toNatClampNeg (x2 + (1 : Int32)))) := hT
      subst hT
      exact r_iret dX10_goesText_52 rfl (am_bool (x := 1) (by decide)).1 (le_b rfl) (le_b rfl)
  · have hf := (am_if hf).1 hc
    refine r_iconst (v := 0) dX10_goesText_28 rfl ?_
    have hT := k2 _ (am_inj hf).symm
    replace hT : T = (some (vI (0 : Int32)), kM, en u3) := hT
    subst hT
    exact r_iret dX10_goesText_29 rfl (am_bool (x := 0) (by decide)).1 (le_b rfl) (le_b rfl)
def f_X10_goesText  (a0 : Int32) (u : PM) : Option (Int32 × PM) :=
  (am_loop (f_X10_goesText_L15 a0) 2000 ((0 : Int32), (pi (pi u (40, 0, 0) 16 (0 : Int32)) (40, 0, 0) 27 ((100 : Int32) * a0)))).bind fun e8 =>
  match e8 with
  | .inl q11 => some q11
  | .inr u10 =>
    some ((0 : Int32), u10)
set_option maxHeartbeats 4000000 in
set_option maxRecDepth 20000 in
theorem C_X10_goesText {l : Launch}  {a0 : Int32} {u : PM} {x : Int32 × PM} (hf : f_X10_goesText a0 u = some x) : Ev l mX10_goesText 7 0 0 false [vR (40, 0, 0), vI a0] kM (en u) (some (vI x.1), kM, en x.2) := by
  refine Ev_of (by decide +kernel) (le_b rfl) ?_
  unfold f_X10_goesText at hf
  show X l mX10_goesText 7 0 0 false _ kM 0 0 0 [some (vR (40, 0, 0)), some (vI a0), none] [] (en u)
  refine r_aload_n (x := (40, 0, 0)) dX10_goesText_0 rfl ?_
  refine r_iconst (v := 0) dX10_goesText_1 rfl ?_
  refine e_puti fp_X10_59 dX10_goesText_2 (kM_mem (s := 40) (by decide)) rfl (lt_b rfl) rfl rfl rfl ?_
  refine r_aload_n (x := (40, 0, 0)) dX10_goesText_5 rfl ?_
  refine r_bipush (v := 100) dX10_goesText_6 rfl ?_
  refine r_iload_n (x := a0) dX10_goesText_8 rfl ?_
  refine r_imul dX10_goesText_9 ?_
  refine e_puti fp_X10_92 dX10_goesText_10 (kM_mem (s := 40) (by decide)) rfl (lt_b rfl) rfl rfl rfl ?_
  refine r_iconst (v := 0) dX10_goesText_13 rfl ?_
  refine r_istore_n (L' := [some (vR (40, 0, 0)), some (vI a0), some (vI (0 : Int32))]) dX10_goesText_14 (by decide) rfl ?_
  refine r_weak (L' := [some (vR (40, 0, 0)), some (vI a0), some (vI (0 : Int32))]) (And.intro rfl (And.intro rfl (And.intro rfl trivial))) ?_
  obtain ⟨e8, he9, hf⟩ := am_bind hf
  refine K_X10_goesText_L15  2000 ((0 : Int32), (pi (pi u (40, 0, 0) 16 (0 : Int32)) (40, 0, 0) 27 ((100 : Int32) * a0))) _ he9 ?_
  rcases e8 with q11 | e8
  · have hx := am_inj hf
    subst hx
    rfl
  · obtain ⟨u10, rfl⟩ : ∃ z, z = e8 := ⟨_, rfl⟩
    show X l _ _ 0 0 false _ kM 0 0 68 [none, none, none] [] (en u10)
    refine r_iconst (v := 0) dX10_goesText_68 rfl ?_
    have hx := am_inj hf
    subst hx
    exact r_iret dX10_goesText_69 rfl (am_bool (x := 0) (by decide)).1 (le_b rfl) (le_b rfl)
/-! FireFromFireModel.land -/
theorem dX10_land_0 : decode cX10_land 0 = .ok (.aload_n 0, 1) := by decide +kernel
theorem dX10_land_1 : decode cX10_land 1 = .ok (.getfield 50, 3) := by decide +kernel
theorem dX10_land_4 : decode cX10_land 4 = .ok (.iconst 5, 1) := by decide +kernel
theorem dX10_land_5 : decode cX10_land 5 = .ok (.if_icmp .ne 6, 3) := by decide +kernel
theorem dX10_land_8 : decode cX10_land 8 = .ok (.bipush (-4), 2) := by decide +kernel
theorem dX10_land_10 : decode cX10_land 10 = .ok (.ireturn, 1) := by decide +kernel
theorem dX10_land_11 : decode cX10_land 11 = .ok (.aload_n 0, 1) := by decide +kernel
theorem dX10_land_12 : decode cX10_land 12 = .ok (.aload_n 0, 1) := by decide +kernel
theorem dX10_land_13 : decode cX10_land 13 = .ok (.getfield 50, 3) := by decide +kernel
theorem dX10_land_16 : decode cX10_land 16 = .ok (.invokevirtual 329, 3) := by decide +kernel
theorem dX10_land_19 : decode cX10_land 19 = .ok (.istore_n 1, 1) := by decide +kernel
theorem dX10_land_20 : decode cX10_land 20 = .ok (.aload_n 0, 1) := by decide +kernel
theorem dX10_land_21 : decode cX10_land 21 = .ok (.iconst 0, 1) := by decide +kernel
theorem dX10_land_22 : decode cX10_land 22 = .ok (.putfield 56, 3) := by decide +kernel
theorem dX10_land_25 : decode cX10_land 25 = .ok (.iload_n 1, 1) := by decide +kernel
theorem dX10_land_26 : decode cX10_land 26 = .ok (.ifCond .ne 11, 3) := by decide +kernel
theorem dX10_land_29 : decode cX10_land 29 = .ok (.bipush (-10), 2) := by decide +kernel
theorem dX10_land_31 : decode cX10_land 31 = .ok (.aload_n 0, 1) := by decide +kernel
theorem dX10_land_32 : decode cX10_land 32 = .ok (.getfield 59, 3) := by decide +kernel
theorem dX10_land_35 : decode cX10_land 35 = .ok (.isub, 1) := by decide +kernel
theorem dX10_land_36 : decode cX10_land 36 = .ok (.ireturn, 1) := by decide +kernel
theorem dX10_land_37 : decode cX10_land 37 = .ok (.aload_n 0, 1) := by decide +kernel
theorem dX10_land_38 : decode cX10_land 38 = .ok (.aload_n 0, 1) := by decide +kernel
theorem dX10_land_39 : decode cX10_land 39 = .ok (.getfield 50, 3) := by decide +kernel
theorem dX10_land_42 : decode cX10_land 42 = .ok (.putfield 53, 3) := by decide +kernel
theorem dX10_land_45 : decode cX10_land 45 = .ok (.aload_n 0, 1) := by decide +kernel
theorem dX10_land_46 : decode cX10_land 46 = .ok (.dup, 1) := by decide +kernel
theorem dX10_land_47 : decode cX10_land 47 = .ok (.getfield 50, 3) := by decide +kernel
theorem dX10_land_50 : decode cX10_land 50 = .ok (.iconst 1, 1) := by decide +kernel
theorem dX10_land_51 : decode cX10_land 51 = .ok (.iadd, 1) := by decide +kernel
theorem dX10_land_52 : decode cX10_land 52 = .ok (.putfield 50, 3) := by decide +kernel
theorem dX10_land_55 : decode cX10_land 55 = .ok (.aload_n 0, 1) := by decide +kernel
theorem dX10_land_56 : decode cX10_land 56 = .ok (.getfield 53, 3) := by decide +kernel
theorem dX10_land_59 : decode cX10_land 59 = .ok (.ireturn, 1) := by decide +kernel
def f_X10_land   (u : PM) : Option (Int32 × PM) :=
  if (u.1 (40, 0, 0) 13) = (5 : Int32) then
    some ((-4 : Int32), u)
  else
  (f_X10_goesText (u.1 (40, 0, 0) 13) u).bind fun (r1, u3) =>
  if r1 = 0 then
    some ((-10 : Int32) - (u3.1 (40, 0, 0) 16), (pi u3 (40, 0, 0) 15 (0 : Int32)))
  else
  some (u3.1 (40, 0, 0) 13, (pi (pi (pi u3 (40, 0, 0) 15 (0 : Int32)) (40, 0, 0) 14 (u3.1 (40, 0, 0) 13)) (40, 0, 0) 13 ((u3.1 (40, 0, 0) 13) + (1 : Int32))))
set_option maxHeartbeats 4000000 in
set_option maxRecDepth 20000 in
theorem C_X10_land {l : Launch}   {u : PM} {x : Int32 × PM} (hf : f_X10_land u = some x) : Ev l mX10_land 8 0 0 false [vR (40, 0, 0)] kM (en u) (some (vI x.1), kM, en x.2) := by
  refine Ev_of (by decide +kernel) (le_b rfl) ?_
  unfold f_X10_land at hf
  show X l mX10_land 8 0 0 false _ kM 0 0 0 [some (vR (40, 0, 0)), none] [] (en u)
  refine r_aload_n (x := (40, 0, 0)) dX10_land_0 rfl ?_
  refine e_geti fw_X10_50 dX10_land_1 (kM_mem (s := 40) (by decide)) rfl (lt_b rfl) ?_
  refine r_iconst (v := 5) dX10_land_4 rfl ?_
  refine r_icmp_ne (tgt := 11) dX10_land_5 (by decide) (fun hc => ?_) (fun hc => ?_)
  · have hf := (am_if hf).2 hc
    refine r_aload_n (x := (40, 0, 0)) dX10_land_11 rfl ?_
    refine r_aload_n (x := (40, 0, 0)) dX10_land_12 rfl ?_
    refine e_geti fw_X10_50 dX10_land_13 (kM_mem (s := 40) (by decide)) rfl (lt_b rfl) ?_
    obtain ⟨⟨r1, u3⟩, hr2, hf⟩ := am_bind hf
    refine r_callV (as := [vI (u.1 (40, 0, 0) 13)]) (st := []) (n := 1) mw_X10_329 mv_X10_goesText (C_X10_goesText (l := l) hr2) (le_b rfl) dX10_land_16 (kM_mem (s := 40) (by decide)) rfl rfl rfl (le_b rfl) (le_b rfl) (le_b rfl) ?_
    show X l _ _ 0 0 false _ kM 0 0 19 [some (vR (40, 0, 0)), none] [vI r1] (en u3)
    refine r_istore_n (L' := [some (vR (40, 0, 0)), some (vI r1)]) dX10_land_19 (by decide) rfl ?_
    refine r_aload_n (x := (40, 0, 0)) dX10_land_20 rfl ?_
    refine r_iconst (v := 0) dX10_land_21 rfl ?_
    refine e_puti fp_X10_56 dX10_land_22 (kM_mem (s := 40) (by decide)) rfl (lt_b rfl) rfl rfl rfl ?_
    refine r_iload_n (x := r1) dX10_land_25 rfl ?_
    refine r_if_ne (tgt := 37) dX10_land_26 (by decide) (fun hc => ?_) (fun hc => ?_)
    · have hf := (am_if hf).2 hc
      refine r_aload_n (x := (40, 0, 0)) dX10_land_37 rfl ?_
      refine r_aload_n (x := (40, 0, 0)) dX10_land_38 rfl ?_
      refine e_geti_ (x := u3.1 (40, 0, 0) 13) fw_X10_50 dX10_land_39 (kM_mem (s := 40) (by decide)) rfl (lt_b rfl) (by simp [pi, pl, pr, pci, pcl]) ?_
      refine e_puti fp_X10_53 dX10_land_42 (kM_mem (s := 40) (by decide)) rfl (lt_b rfl) rfl rfl rfl ?_
      refine r_aload_n (x := (40, 0, 0)) dX10_land_45 rfl ?_
      refine r_dup dX10_land_46 rfl ?_
      refine e_geti_ (x := u3.1 (40, 0, 0) 13) fw_X10_50 dX10_land_47 (kM_mem (s := 40) (by decide)) rfl (lt_b rfl) (by simp [pi, pl, pr, pci, pcl]) ?_
      refine r_iconst (v := 1) dX10_land_50 rfl ?_
      refine r_iadd dX10_land_51 ?_
      refine e_puti fp_X10_50 dX10_land_52 (kM_mem (s := 40) (by decide)) rfl (lt_b rfl) rfl rfl rfl ?_
      refine r_aload_n (x := (40, 0, 0)) dX10_land_55 rfl ?_
      refine e_geti_ (x := u3.1 (40, 0, 0) 13) fw_X10_53 dX10_land_56 (kM_mem (s := 40) (by decide)) rfl (lt_b rfl) (by simp [pi, pl, pr, pci, pcl]) ?_
      have hx := am_inj hf
      subst hx
      exact r_iret dX10_land_59 rfl rfl (le_b rfl) (le_b rfl)
    · have hf := (am_if hf).1 hc
      refine r_bipush (v := -10) dX10_land_29 rfl ?_
      refine r_aload_n (x := (40, 0, 0)) dX10_land_31 rfl ?_
      refine e_geti_ (x := u3.1 (40, 0, 0) 16) fw_X10_59 dX10_land_32 (kM_mem (s := 40) (by decide)) rfl (lt_b rfl) (by simp [pi, pl, pr, pci, pcl]) ?_
      refine r_isub dX10_land_35 ?_
      have hx := am_inj hf
      subst hx
      exact r_iret dX10_land_36 rfl rfl (le_b rfl) (le_b rfl)
  · have hf := (am_if hf).1 hc
    refine r_bipush (v := -4) dX10_land_8 rfl ?_
    have hx := am_inj hf
    subst hx
    exact r_iret dX10_land_10 rfl rfl (le_b rfl) (le_b rfl)
/-! FireFromFireModel.first -/
theorem dX10_first_0 : decode cX10_first 0 = .ok (.aload_n 0, 1) := by decide +kernel
theorem dX10_first_1 : decode cX10_first 1 = .ok (.getfield 53, 3) := by decide +kernel
theorem dX10_first_4 : decode cX10_first 4 = .ok (.ifCond .ge 7, 3) := by decide +kernel
theorem dX10_first_7 : decode cX10_first 7 = .ok (.iconst 0, 1) := by decide +kernel
theorem dX10_first_8 : decode cX10_first 8 = .ok (.goto 10, 3) := by decide +kernel
theorem dX10_first_11 : decode cX10_first 11 = .ok (.bipush 10, 2) := by decide +kernel
theorem dX10_first_13 : decode cX10_first 13 = .ok (.aload_n 0, 1) := by decide +kernel
theorem dX10_first_14 : decode cX10_first 14 = .ok (.getfield 53, 3) := by decide +kernel
theorem dX10_first_17 : decode cX10_first 17 = .ok (.imul, 1) := by decide +kernel
theorem dX10_first_18 : decode cX10_first 18 = .ok (.ireturn, 1) := by decide +kernel
def f_X10_first   (u : PM) : Option (Int32) :=
  if 0 ≤ (u.1 (40, 0, 0) 14) then
    some ((10 : Int32) * (u.1 (40, 0, 0) 14))
  else
  some (0 : Int32)
set_option maxHeartbeats 4000000 in
set_option maxRecDepth 20000 in
theorem C_X10_first {l : Launch}   {u : PM} {x : Int32} (hf : f_X10_first u = some x) : Ev l mX10_first 1 0 0 false [vR (40, 0, 0)] kM (en u) (some (vI x), kM, en u) := by
  refine Ev_of (by decide +kernel) (le_b rfl) ?_
  unfold f_X10_first at hf
  show X l mX10_first 1 0 0 false _ kM 0 0 0 [some (vR (40, 0, 0))] [] (en u)
  refine r_aload_n (x := (40, 0, 0)) dX10_first_0 rfl ?_
  refine e_geti fw_X10_53 dX10_first_1 (kM_mem (s := 40) (by decide)) rfl (lt_b rfl) ?_
  refine r_if_ge (tgt := 11) dX10_first_4 (by decide) (fun hc => ?_) (fun hc => ?_)
  · have hf := (am_if hf).1 hc
    refine r_bipush (v := 10) dX10_first_11 rfl ?_
    refine r_aload_n (x := (40, 0, 0)) dX10_first_13 rfl ?_
    refine e_geti fw_X10_53 dX10_first_14 (kM_mem (s := 40) (by decide)) rfl (lt_b rfl) ?_
    refine r_imul dX10_first_17 ?_
    have hx := am_inj hf
    subst hx
    exact r_iret dX10_first_18 rfl rfl (le_b rfl) (le_b rfl)
  · have hf := (am_if hf).2 hc
    refine r_iconst (v := 0) dX10_first_7 rfl ?_
    refine r_goto (tgt := 18) dX10_first_8 (by decide) ?_
    have hx := am_inj hf
    subst hx
    exact r_iret dX10_first_18 rfl rfl (le_b rfl) (le_b rfl)
/-! FireFromFireModel.behind -/
theorem dX10_behind_0 : decode cX10_behind 0 = .ok (.aload_n 0, 1) := by decide +kernel
theorem dX10_behind_1 : decode cX10_behind 1 = .ok (.getfield 53, 3) := by decide +kernel
theorem dX10_behind_4 : decode cX10_behind 4 = .ok (.ifCond .ge 7, 3) := by decide +kernel
theorem dX10_behind_7 : decode cX10_behind 7 = .ok (.iconst 0, 1) := by decide +kernel
theorem dX10_behind_8 : decode cX10_behind 8 = .ok (.goto 20, 3) := by decide +kernel
theorem dX10_behind_11 : decode cX10_behind 11 = .ok (.bipush 10, 2) := by decide +kernel
theorem dX10_behind_13 : decode cX10_behind 13 = .ok (.aload_n 0, 1) := by decide +kernel
theorem dX10_behind_14 : decode cX10_behind 14 = .ok (.getfield 53, 3) := by decide +kernel
theorem dX10_behind_17 : decode cX10_behind 17 = .ok (.imul, 1) := by decide +kernel
theorem dX10_behind_18 : decode cX10_behind 18 = .ok (.aload_n 0, 1) := by decide +kernel
theorem dX10_behind_19 : decode cX10_behind 19 = .ok (.getfield 68, 3) := by decide +kernel
theorem dX10_behind_22 : decode cX10_behind 22 = .ok (.aload_n 0, 1) := by decide +kernel
theorem dX10_behind_23 : decode cX10_behind 23 = .ok (.getfield 53, 3) := by decide +kernel
theorem dX10_behind_26 : decode cX10_behind 26 = .ok (.iaload, 1) := by decide +kernel
theorem dX10_behind_27 : decode cX10_behind 27 = .ok (.iadd, 1) := by decide +kernel
theorem dX10_behind_28 : decode cX10_behind 28 = .ok (.ireturn, 1) := by decide +kernel
def f_X10_behind   (u : PM) : Option (Int32) :=
  if 0 ≤ (u.1 (40, 0, 0) 14) then
    if (u.1 (40, 0, 0) 14) < 0 ∨ 5 ≤ (u.1 (40, 0, 0) 14).toNatClampNeg then none else
    some (((10 : Int32) * (u.1 (40, 0, 0) 14)) + (u.1 (51, 0, 0) ((u.1 (40, 0, 0) 14).toNatClampNeg)))
  else
  some (0 : Int32)
set_option maxHeartbeats 4000000 in
set_option maxRecDepth 20000 in
theorem C_X10_behind {l : Launch}   {u : PM} {x : Int32} (hf : f_X10_behind u = some x) : Ev l mX10_behind 1 0 0 false [vR (40, 0, 0)] kM (en u) (some (vI x), kM, en u) := by
  refine Ev_of (by decide +kernel) (le_b rfl) ?_
  unfold f_X10_behind at hf
  show X l mX10_behind 1 0 0 false _ kM 0 0 0 [some (vR (40, 0, 0))] [] (en u)
  refine r_aload_n (x := (40, 0, 0)) dX10_behind_0 rfl ?_
  refine e_geti fw_X10_53 dX10_behind_1 (kM_mem (s := 40) (by decide)) rfl (lt_b rfl) ?_
  refine r_if_ge (tgt := 11) dX10_behind_4 (by decide) (fun hc => ?_) (fun hc => ?_)
  · have hf := (am_if hf).1 hc
    refine r_bipush (v := 10) dX10_behind_11 rfl ?_
    refine r_aload_n (x := (40, 0, 0)) dX10_behind_13 rfl ?_
    refine e_geti fw_X10_53 dX10_behind_14 (kM_mem (s := 40) (by decide)) rfl (lt_b rfl) ?_
    refine r_imul dX10_behind_17 ?_
    refine r_aload_n (x := (40, 0, 0)) dX10_behind_18 rfl ?_
    refine e_getr (z := some (51, 0, 0)) fw_X10_68 dX10_behind_19 (kM_mem (s := 40) (by decide)) rfl (lt_b rfl) rfl ?_
    refine r_aload_n (x := (40, 0, 0)) dX10_behind_22 rfl ?_
    refine e_geti fw_X10_53 dX10_behind_23 (kM_mem (s := 40) (by decide)) rfl (lt_b rfl) ?_
    obtain ⟨h1, hf⟩ := am_nchk hf
    refine e_iald (n := (u.1 (40, 0, 0) 14).toNatClampNeg) dX10_behind_26 (kM_mem (s := 51) (by decide)) rfl h1 rfl rfl ?_
    refine r_iadd dX10_behind_27 ?_
    have hx := am_inj hf
    subst hx
    exact r_iret dX10_behind_28 rfl rfl (le_b rfl) (le_b rfl)
  · have hf := (am_if hf).2 hc
    refine r_iconst (v := 0) dX10_behind_7 rfl ?_
    refine r_goto (tgt := 28) dX10_behind_8 (by decide) ?_
    have hx := am_inj hf
    subst hx
    exact r_iret dX10_behind_28 rfl rfl (le_b rfl) (le_b rfl)
/-! FireFromFireModel.layFollows -/
theorem dX10_layFollows_0 : decode cX10_layFollows 0 = .ok (.iconst 0, 1) := by decide +kernel
theorem dX10_layFollows_1 : decode cX10_layFollows 1 = .ok (.istore_n 1, 1) := by decide +kernel
theorem dX10_layFollows_2 : decode cX10_layFollows 2 = .ok (.iload_n 1, 1) := by decide +kernel
theorem dX10_layFollows_3 : decode cX10_layFollows 3 = .ok (.iconst 3, 1) := by decide +kernel
theorem dX10_layFollows_4 : decode cX10_layFollows 4 = .ok (.if_icmp .ge 136, 3) := by decide +kernel
theorem dX10_layFollows_7 : decode cX10_layFollows 7 = .ok (.bipush 10, 2) := by decide +kernel
theorem dX10_layFollows_9 : decode cX10_layFollows 9 = .ok (.istore_n 2, 1) := by decide +kernel
theorem dX10_layFollows_10 : decode cX10_layFollows 10 = .ok (.iconst 0, 1) := by decide +kernel
theorem dX10_layFollows_11 : decode cX10_layFollows 11 = .ok (.istore_n 3, 1) := by decide +kernel
theorem dX10_layFollows_12 : decode cX10_layFollows 12 = .ok (.iload_n 3, 1) := by decide +kernel
theorem dX10_layFollows_13 : decode cX10_layFollows 13 = .ok (.iconst 3, 1) := by decide +kernel
theorem dX10_layFollows_14 : decode cX10_layFollows 14 = .ok (.if_icmp .ge 111, 3) := by decide +kernel
theorem dX10_layFollows_17 : decode cX10_layFollows 17 = .ok (.iload_n 1, 1) := by decide +kernel
theorem dX10_layFollows_18 : decode cX10_layFollows 18 = .ok (.iload_n 3, 1) := by decide +kernel
theorem dX10_layFollows_19 : decode cX10_layFollows 19 = .ok (.if_icmp .ne 6, 3) := by decide +kernel
theorem dX10_layFollows_22 : decode cX10_layFollows 22 = .ok (.goto 97, 3) := by decide +kernel
theorem dX10_layFollows_25 : decode cX10_layFollows 25 = .ok (.iconst 0, 1) := by decide +kernel
theorem dX10_layFollows_26 : decode cX10_layFollows 26 = .ok (.istore 4, 2) := by decide +kernel
theorem dX10_layFollows_28 : decode cX10_layFollows 28 = .ok (.aload_n 0, 1) := by decide +kernel
theorem dX10_layFollows_29 : decode cX10_layFollows 29 = .ok (.invokevirtual 332, 3) := by decide +kernel
theorem dX10_layFollows_32 : decode cX10_layFollows 32 = .ok (.istore 5, 2) := by decide +kernel
theorem dX10_layFollows_34 : decode cX10_layFollows 34 = .ok (.iload 5, 2) := by decide +kernel
theorem dX10_layFollows_36 : decode cX10_layFollows 36 = .ok (.aload_n 0, 1) := by decide +kernel
theorem dX10_layFollows_37 : decode cX10_layFollows 37 = .ok (.invokevirtual 335, 3) := by decide +kernel
theorem dX10_layFollows_40 : decode cX10_layFollows 40 = .ok (.if_icmp .ge 49, 3) := by decide +kernel
theorem dX10_layFollows_43 : decode cX10_layFollows 43 = .ok (.aload_n 0, 1) := by decide +kernel
theorem dX10_layFollows_44 : decode cX10_layFollows 44 = .ok (.getfield 71, 3) := by decide +kernel
theorem dX10_layFollows_47 : decode cX10_layFollows 47 = .ok (.iload 5, 2) := by decide +kernel
theorem dX10_layFollows_49 : decode cX10_layFollows 49 = .ok (.iaload, 1) := by decide +kernel
theorem dX10_layFollows_50 : decode cX10_layFollows 50 = .ok (.iconst 4, 1) := by decide +kernel
theorem dX10_layFollows_51 : decode cX10_layFollows 51 = .ok (.if_icmp .ne 28, 3) := by decide +kernel
theorem dX10_layFollows_54 : decode cX10_layFollows 54 = .ok (.aload_n 0, 1) := by decide +kernel
theorem dX10_layFollows_55 : decode cX10_layFollows 55 = .ok (.getfield 74, 3) := by decide +kernel
theorem dX10_layFollows_58 : decode cX10_layFollows 58 = .ok (.iload 5, 2) := by decide +kernel
theorem dX10_layFollows_60 : decode cX10_layFollows 60 = .ok (.iaload, 1) := by decide +kernel
theorem dX10_layFollows_61 : decode cX10_layFollows 61 = .ok (.iconst 3, 1) := by decide +kernel
theorem dX10_layFollows_62 : decode cX10_layFollows 62 = .ok (.iload_n 1, 1) := by decide +kernel
theorem dX10_layFollows_63 : decode cX10_layFollows 63 = .ok (.imul, 1) := by decide +kernel
theorem dX10_layFollows_64 : decode cX10_layFollows 64 = .ok (.iload_n 3, 1) := by decide +kernel
theorem dX10_layFollows_65 : decode cX10_layFollows 65 = .ok (.iadd, 1) := by decide +kernel
theorem dX10_layFollows_66 : decode cX10_layFollows 66 = .ok (.if_icmp .ne 13, 3) := by decide +kernel
theorem dX10_layFollows_69 : decode cX10_layFollows 69 = .ok (.aload_n 0, 1) := by decide +kernel
theorem dX10_layFollows_70 : decode cX10_layFollows 70 = .ok (.getfield 77, 3) := by decide +kernel
theorem dX10_layFollows_73 : decode cX10_layFollows 73 = .ok (.iload 5, 2) := by decide +kernel
theorem dX10_layFollows_75 : decode cX10_layFollows 75 = .ok (.iaload, 1) := by decide +kernel
theorem dX10_layFollows_76 : decode cX10_layFollows 76 = .ok (.goto 5, 3) := by decide +kernel
theorem dX10_layFollows_79 : decode cX10_layFollows 79 = .ok (.iload 4, 2) := by decide +kernel
theorem dX10_layFollows_81 : decode cX10_layFollows 81 = .ok (.istore 4, 2) := by decide +kernel
theorem dX10_layFollows_83 : decode cX10_layFollows 83 = .ok (.iinc 5 1, 3) := by decide +kernel
theorem dX10_layFollows_86 : decode cX10_layFollows 86 = .ok (.goto (-52), 3) := by decide +kernel
theorem dX10_layFollows_89 : decode cX10_layFollows 89 = .ok (.aload_n 0, 1) := by decide +kernel
theorem dX10_layFollows_90 : decode cX10_layFollows 90 = .ok (.getfield 104, 3) := by decide +kernel
theorem dX10_layFollows_93 : decode cX10_layFollows 93 = .ok (.iconst 3, 1) := by decide +kernel
theorem dX10_layFollows_94 : decode cX10_layFollows 94 = .ok (.iload_n 1, 1) := by decide +kernel
theorem dX10_layFollows_95 : decode cX10_layFollows 95 = .ok (.imul, 1) := by decide +kernel
theorem dX10_layFollows_96 : decode cX10_layFollows 96 = .ok (.iload_n 3, 1) := by decide +kernel
theorem dX10_layFollows_97 : decode cX10_layFollows 97 = .ok (.iadd, 1) := by decide +kernel
theorem dX10_layFollows_98 : decode cX10_layFollows 98 = .ok (.aload_n 0, 1) := by decide +kernel
theorem dX10_layFollows_99 : decode cX10_layFollows 99 = .ok (.iload 4, 2) := by decide +kernel
theorem dX10_layFollows_101 : decode cX10_layFollows 101 = .ok (.iload_n 2, 1) := by decide +kernel
theorem dX10_layFollows_102 : decode cX10_layFollows 102 = .ok (.invokevirtual 338, 3) := by decide +kernel
theorem dX10_layFollows_105 : decode cX10_layFollows 105 = .ok (.iastore, 1) := by decide +kernel
theorem dX10_layFollows_106 : decode cX10_layFollows 106 = .ok (.iload_n 2, 1) := by decide +kernel
theorem dX10_layFollows_107 : decode cX10_layFollows 107 = .ok (.aload_n 0, 1) := by decide +kernel
theorem dX10_layFollows_108 : decode cX10_layFollows 108 = .ok (.getfield 104, 3) := by decide +kernel
theorem dX10_layFollows_111 : decode cX10_layFollows 111 = .ok (.iconst 3, 1) := by decide +kernel
theorem dX10_layFollows_112 : decode cX10_layFollows 112 = .ok (.iload_n 1, 1) := by decide +kernel
theorem dX10_layFollows_113 : decode cX10_layFollows 113 = .ok (.imul, 1) := by decide +kernel
theorem dX10_layFollows_114 : decode cX10_layFollows 114 = .ok (.iload_n 3, 1) := by decide +kernel
theorem dX10_layFollows_115 : decode cX10_layFollows 115 = .ok (.iadd, 1) := by decide +kernel
theorem dX10_layFollows_116 : decode cX10_layFollows 116 = .ok (.iaload, 1) := by decide +kernel
theorem dX10_layFollows_117 : decode cX10_layFollows 117 = .ok (.isub, 1) := by decide +kernel
theorem dX10_layFollows_118 : decode cX10_layFollows 118 = .ok (.istore_n 2, 1) := by decide +kernel
theorem dX10_layFollows_119 : decode cX10_layFollows 119 = .ok (.iinc 3 1, 3) := by decide +kernel
theorem dX10_layFollows_122 : decode cX10_layFollows 122 = .ok (.goto (-110), 3) := by decide +kernel
theorem dX10_layFollows_125 : decode cX10_layFollows 125 = .ok (.aload_n 0, 1) := by decide +kernel
theorem dX10_layFollows_126 : decode cX10_layFollows 126 = .ok (.getfield 104, 3) := by decide +kernel
theorem dX10_layFollows_129 : decode cX10_layFollows 129 = .ok (.iconst 4, 1) := by decide +kernel
theorem dX10_layFollows_130 : decode cX10_layFollows 130 = .ok (.iload_n 1, 1) := by decide +kernel
theorem dX10_layFollows_131 : decode cX10_layFollows 131 = .ok (.imul, 1) := by decide +kernel
theorem dX10_layFollows_132 : decode cX10_layFollows 132 = .ok (.iload_n 2, 1) := by decide +kernel
theorem dX10_layFollows_133 : decode cX10_layFollows 133 = .ok (.iastore, 1) := by decide +kernel
theorem dX10_layFollows_134 : decode cX10_layFollows 134 = .ok (.iinc 1 1, 3) := by decide +kernel
theorem dX10_layFollows_137 : decode cX10_layFollows 137 = .ok (.goto (-135), 3) := by decide +kernel
theorem dX10_layFollows_140 : decode cX10_layFollows 140 = .ok (.return_, 1) := by decide +kernel
def f_X10_layFollows_L34  (c1 : Int32) (c2 : Int32) (c3 : Int32) (u : PM) : Int32 × Int32 → Option ((Int32 × Int32) ⊕ (Int32)) := fun (x4 , x5) =>
  (f_X10_behind u).bind fun r3 =>
  if r3 ≤ x5 then
    some (.inr (x4))
  else
  if x5 < 0 ∨ 50 ≤ x5.toNatClampNeg then none else
  if (u.1 (52, 0, 0) x5.toNatClampNeg) = (4 : Int32) then
    if (u.1 (53, 0, 0) x5.toNatClampNeg) = (((3 : Int32) * c1) + c3) then
      some (.inl (u.1 (54, 0, 0) x5.toNatClampNeg, x5 + (1 : Int32)))
    else
    some (.inl (x4, x5 + (1 : Int32)))
  else
  some (.inl (x4, x5 + (1 : Int32)))
set_option maxHeartbeats 4000000 in
set_option maxRecDepth 20000 in
theorem K_X10_layFollows_L34 {l : Launch} {T : Option AV × List Key × AM}  {c1 : Int32} {c2 : Int32} {c3 : Int32} {u : PM} : ∀ (n : Nat) (s : Int32 × Int32) (e0 : Int32), am_loop (f_X10_layFollows_L34 c1 c2 c3 u) n s = some e0 → (fun e : Int32 => X l mX10_layFollows 2 0 0 false T kM 0 0 89 [some (vR (40, 0, 0)), some (vI c1), some (vI c2), some (vI c3), some (vI e), none] [] (en u)) e0 → X l mX10_layFollows 2 0 0 false T kM 0 0 34 [some (vR (40, 0, 0)), some (vI c1), some (vI c2), some (vI c3), some (vI s.1), some (vI s.2)] [] (en u) := by
  refine am_loop_of ?_
  intro s x hf k1 k2
  obtain ⟨x4 , x5⟩ := s
  unfold f_X10_layFollows_L34 at hf
  show X l mX10_layFollows 2 0 0 false T kM 0 0 34 [some (vR (40, 0, 0)), some (vI c1), some (vI c2), some (vI c3), some (vI x4), some (vI x5)] [] (en u)
  refine r_iload (x := x5) dX10_layFollows_34 rfl ?_
  refine r_aload_n (x := (40, 0, 0)) dX10_layFollows_36 rfl ?_
  obtain ⟨r3, hr4, hf⟩ := am_bind hf
  refine r_callV (as := []) (st := [vI x5]) (n := 0) mw_X10_335 mv_X10_behind (C_X10_behind (l := l) hr4) (le_b rfl) dX10_layFollows_37 (kM_mem (s := 40) (by decide)) rfl rfl rfl (le_b rfl) (le_b rfl) (le_b rfl) ?_
  show X l _ _ 0 0 false _ kM 0 0 40 [some (vR (40, 0, 0)), some (vI c1), some (vI c2), some (vI c3), some (vI x4), some (vI x5)] [vI r3, vI x5] (en u)
  refine r_icmp_ge (tgt := 89) dX10_layFollows_40 (by decide) (fun hc => ?_) (fun hc => ?_)
  · have hf := (am_if hf).1 hc
    refine r_weak (L' := [some (vR (40, 0, 0)), some (vI c1), some (vI c2), some (vI c3), some (vI x4), none]) (And.intro rfl (And.intro rfl (And.intro rfl (And.intro rfl (And.intro rfl trivial))))) ?_
    exact k2 (x4) (am_inj hf).symm
  · have hf := (am_if hf).2 hc
    refine r_aload_n (x := (40, 0, 0)) dX10_layFollows_43 rfl ?_
    refine e_getr (z := some (52, 0, 0)) fw_X10_71 dX10_layFollows_44 (kM_mem (s := 40) (by decide)) rfl (lt_b rfl) rfl ?_
    refine r_iload (x := x5) dX10_layFollows_47 rfl ?_
    obtain ⟨h5, hf⟩ := am_nchk hf
    refine e_iald (n := x5.toNatClampNeg) dX10_layFollows_49 (kM_mem (s := 52) (by decide)) rfl h5 rfl rfl ?_
    refine r_iconst (v := 4) dX10_layFollows_50 rfl ?_
    refine r_icmp_ne (tgt := 79) dX10_layFollows_51 (by decide) (fun hc => ?_) (fun hc => ?_)
    · have hf := (am_if hf).2 hc
      refine r_iload (x := x4) dX10_layFollows_79 rfl ?_
      refine r_istore (L' := [some (vR (40, 0, 0)), some (vI c1), some (vI c2), some (vI c3), some (vI x4), some (vI x5)]) dX10_layFollows_81 (by decide) rfl ?_
      refine r_iinc (x := x5) (v := x5 + (1 : Int32)) (L' := [some (vR (40, 0, 0)), some (vI c1), some (vI c2), some (vI c3), some (vI x4), some (vI (x5 + (1 : Int32)))]) dX10_layFollows_83 rfl rfl (lt_b rfl) rfl ?_
      refine r_goto (tgt := 34) dX10_layFollows_86 (by decide) ?_
      refine r_weak (L' := [some (vR (40, 0, 0)), some (vI c1), some (vI c2), some (vI c3), some (vI x4), some (vI (x5 + (1 : Int32)))]) (And.intro rfl (And.intro rfl (And.intro rfl (And.intro rfl (And.intro rfl (And.intro rfl trivial)))))) ?_
      exact k1 (x4, x5 + (1 : Int32)) (am_inj hf).symm
    · have hf := (am_if hf).1 hc
      refine r_aload_n (x := (40, 0, 0)) dX10_layFollows_54 rfl ?_
      refine e_getr (z := some (53, 0, 0)) fw_X10_74 dX10_layFollows_55 (kM_mem (s := 40) (by decide)) rfl (lt_b rfl) rfl ?_
      refine r_iload (x := x5) dX10_layFollows_58 rfl ?_
      refine e_iald (n := x5.toNatClampNeg) dX10_layFollows_60 (kM_mem (s := 53) (by decide)) rfl h5 rfl rfl ?_
      refine r_iconst (v := 3) dX10_layFollows_61 rfl ?_
      refine r_iload_n (x := c1) dX10_layFollows_62 rfl ?_
      refine r_imul dX10_layFollows_63 ?_
      refine r_iload_n (x := c3) dX10_layFollows_64 rfl ?_
      refine r_iadd dX10_layFollows_65 ?_
      refine r_icmp_ne (tgt := 79) dX10_layFollows_66 (by decide) (fun hc => ?_) (fun hc => ?_)
      · have hf := (am_if hf).2 hc
        refine r_iload (x := x4) dX10_layFollows_79 rfl ?_
        refine r_istore (L' := [some (vR (40, 0, 0)), some (vI c1), some (vI c2), some (vI c3), some (vI x4), some (vI x5)]) dX10_layFollows_81 (by decide) rfl ?_
        refine r_iinc (x := x5) (v := x5 + (1 : Int32)) (L' := [some (vR (40, 0, 0)), some (vI c1), some (vI c2), some (vI c3), some (vI x4), some (vI (x5 + (1 : Int32)))]) dX10_layFollows_83 rfl rfl (lt_b rfl) rfl ?_
        refine r_goto (tgt := 34) dX10_layFollows_86 (by decide) ?_
        refine r_weak (L' := [some (vR (40, 0, 0)), some (vI c1), some (vI c2), some (vI c3), some (vI x4), some (vI (x5 + (1 : Int32)))]) (And.intro rfl (And.intro rfl (And.intro rfl (And.intro rfl (And.intro rfl (And.intro rfl trivial)))))) ?_
        exact k1 (x4, x5 + (1 : Int32)) (am_inj hf).symm
      · have hf := (am_if hf).1 hc
        refine r_aload_n (x := (40, 0, 0)) dX10_layFollows_69 rfl ?_
        refine e_getr (z := some (54, 0, 0)) fw_X10_77 dX10_layFollows_70 (kM_mem (s := 40) (by decide)) rfl (lt_b rfl) rfl ?_
        refine r_iload (x := x5) dX10_layFollows_73 rfl ?_
        refine e_iald (n := x5.toNatClampNeg) dX10_layFollows_75 (kM_mem (s := 54) (by decide)) rfl h5 rfl rfl ?_
        refine r_goto (tgt := 81) dX10_layFollows_76 (by decide) ?_
        refine r_istore (L' := [some (vR (40, 0, 0)), some (vI c1), some (vI c2), some (vI c3), some (vI (u.1 (54, 0, 0) x5.toNatClampNeg)), some (vI x5)]) dX10_layFollows_81 (by decide) rfl ?_
        refine r_iinc (x := x5) (v := x5 + (1 : Int32)) (L' := [some (vR (40, 0, 0)), some (vI c1), some (vI c2), some (vI c3), some (vI (u.1 (54, 0, 0) x5.toNatClampNeg)), some (vI (x5 + (1 : Int32)))]) dX10_layFollows_83 rfl rfl (lt_b rfl) rfl ?_
        refine r_goto (tgt := 34) dX10_layFollows_86 (by decide) ?_
        refine r_weak (L' := [some (vR (40, 0, 0)), some (vI c1), some (vI c2), some (vI c3), some (vI (u.1 (54, 0, 0) x5.toNatClampNeg)), some (vI (x5 + (1 : Int32)))]) (And.intro rfl (And.intro rfl (And.intro rfl (And.intro rfl (And.intro rfl (And.intro rfl trivial)))))) ?_
        exact k1 (u.1 (54, 0, 0) x5.toNatClampNeg, x5 + (1 : Int32)) (am_inj hf).symm
def f_X10_layFollows_L12  (c1 : Int32) : Int32 × Int32 × PM → Option ((Int32 × Int32 × PM) ⊕ (Int32 × PM)) := fun (x2 , x3 , u) =>
  if (3 : Int32) ≤ x3 then
    some (.inr (x2, u))
  else
  if c1 = x3 then
    some (.inl (x2, x3 + (1 : Int32), u))
  else
  (f_X10_first u).bind fun r1 =>
  (am_loop (f_X10_layFollows_L34 c1 x2 x3 u) 2000 ((0 : Int32), r1)).bind fun y8 =>
  (f_X10_min y8 x2 u).bind fun r9 =>
  if (((3 : Int32) * c1) + x3) < 0 ∨ 9 ≤ (((3 : Int32) * c1) + x3).toNatClampNeg then none else
  some (.inl (x2 - r9, x3 + (1 : Int32), (pi u (60, 0, 0) ((((3 : Int32) * c1) + x3).toNatClampNeg) r9)))
set_option maxHeartbeats 4000000 in
set_option maxRecDepth 20000 in
theorem K_X10_layFollows_L12 {l : Launch} {T : Option AV × List Key × AM}  {c1 : Int32} : ∀ (n : Nat) (s : Int32 × Int32 × PM) (e0 : Int32 × PM), am_loop (f_X10_layFollows_L12 c1) n s = some e0 → (fun e : Int32 × PM => X l mX10_layFollows 2 0 0 false T kM 0 0 125 [some (vR (40, 0, 0)), some (vI c1), some (vI e.1), none, none, none] [] (en e.2)) e0 → X l mX10_layFollows 2 0 0 false T kM 0 0 12 [some (vR (40, 0, 0)), some (vI c1), some (vI s.1), some (vI s.2.1), none, none] [] (en s.2.2) := by
  refine am_loop_of ?_
  intro s x hf k1 k2
  obtain ⟨x2 , x3 , u⟩ := s
  unfold f_X10_layFollows_L12 at hf
  show X l mX10_layFollows 2 0 0 false T kM 0 0 12 [some (vR (40, 0, 0)), some (vI c1), some (vI x2), some (vI x3), none, none] [] (en u)
  refine r_iload_n (x := x3) dX10_layFollows_12 rfl ?_
  refine r_iconst (v := 3) dX10_layFollows_13 rfl ?_
  refine r_icmp_ge (tgt := 125) dX10_layFollows_14 (by decide) (fun hc => ?_) (fun hc => ?_)
  · have hf := (am_if hf).1 hc
    refine r_weak (L' := [some (vR (40, 0, 0)), some (vI c1), some (vI x2), none, none, none]) (And.intro rfl (And.intro rfl (And.intro rfl trivial))) ?_
    exact k2 (x2, u) (am_inj hf).symm
  · have hf := (am_if hf).2 hc
    refine r_iload_n (x := c1) dX10_layFollows_17 rfl ?_
    refine r_iload_n (x := x3) dX10_layFollows_18 rfl ?_
    refine r_icmp_ne (tgt := 25) dX10_layFollows_19 (by decide) (fun hc => ?_) (fun hc => ?_)
    · have hf := (am_if hf).2 hc
      refine r_iconst (v := 0) dX10_layFollows_25 rfl ?_
      refine r_istore (L' := [some (vR (40, 0, 0)), some (vI c1), some (vI x2), some (vI x3), some (vI (0 : Int32)), none]) dX10_layFollows_26 (by decide) rfl ?_
      refine r_aload_n (x := (40, 0, 0)) dX10_layFollows_28 rfl ?_
      obtain ⟨r1, hr2, hf⟩ := am_bind hf
      refine r_callV (as := []) (st := []) (n := 0) mw_X10_332 mv_X10_first (C_X10_first (l := l) hr2) (le_b rfl) dX10_layFollows_29 (kM_mem (s := 40) (by decide)) rfl rfl rfl (le_b rfl) (le_b rfl) (le_b rfl) ?_
      show X l _ _ 0 0 false _ kM 0 0 32 [some (vR (40, 0, 0)), some (vI c1), some (vI x2), some (vI x3), some (vI (0 : Int32)), none] [vI r1] (en u)
      refine r_istore (L' := [some (vR (40, 0, 0)), some (vI c1), some (vI x2), some (vI x3), some (vI (0 : Int32)), some (vI r1)]) dX10_layFollows_32 (by decide) rfl ?_
      refine r_weak (L' := [some (vR (40, 0, 0)), some (vI c1), some (vI x2), some (vI x3), some (vI (0 : Int32)), some (vI r1)]) (And.intro rfl (And.intro rfl (And.intro rfl (And.intro rfl (And.intro rfl (And.intro rfl trivial)))))) ?_
      obtain ⟨e6, he7, hf⟩ := am_bind hf
      refine K_X10_layFollows_L34  2000 ((0 : Int32), r1) _ he7 ?_
      obtain ⟨y8, rfl⟩ : ∃ z, z = e6 := ⟨_, rfl⟩
      show X l _ _ 0 0 false _ kM 0 0 89 [some (vR (40, 0, 0)), some (vI c1), some (vI x2), some (vI x3), some (vI y8), none] [] (en u)
      refine r_aload_n (x := (40, 0, 0)) dX10_layFollows_89 rfl ?_
      refine e_getr (z := some (60, 0, 0)) fw_X10_104 dX10_layFollows_90 (kM_mem (s := 40) (by decide)) rfl (lt_b rfl) rfl ?_
      refine r_iconst (v := 3) dX10_layFollows_93 rfl ?_
      refine r_iload_n (x := c1) dX10_layFollows_94 rfl ?_
      refine r_imul dX10_layFollows_95 ?_
      refine r_iload_n (x := x3) dX10_layFollows_96 rfl ?_
      refine r_iadd dX10_layFollows_97 ?_
      refine r_aload_n (x := (40, 0, 0)) dX10_layFollows_98 rfl ?_
      refine r_iload (x := y8) dX10_layFollows_99 rfl ?_
      refine r_iload_n (x := x2) dX10_layFollows_101 rfl ?_
      obtain ⟨r9, hr10, hf⟩ := am_bind hf
      refine r_callV (as := [vI y8, vI x2]) (st := [vI (((3 : Int32) * c1) + x3), vR (60, 0, 0)]) (n := 2) mw_X10_338 mv_X10_min (C_X10_min (l := l) hr10) (le_b rfl) dX10_layFollows_102 (kM_mem (s := 40) (by decide)) rfl rfl rfl (le_b rfl) (le_b rfl) (le_b rfl) ?_
      show X l _ _ 0 0 false _ kM 0 0 105 [some (vR (40, 0, 0)), some (vI c1), some (vI x2), some (vI x3), some (vI y8), none] [vI r9, vI (((3 : Int32) * c1) + x3), vR (60, 0, 0)] (en u)
      obtain ⟨h11, hf⟩ := am_nchk hf
      refine e_iast (n := (((3 : Int32) * c1) + x3).toNatClampNeg) dX10_layFollows_105 (kM_mem (s := 60) (by decide)) rfl h11 rfl ?_
      refine r_iload_n (x := x2) dX10_layFollows_106 rfl ?_
      refine r_aload_n (x := (40, 0, 0)) dX10_layFollows_107 rfl ?_
      refine e_getr (z := some (60, 0, 0)) fw_X10_104 dX10_layFollows_108 (kM_mem (s := 40) (by decide)) rfl (lt_b rfl) rfl ?_
      refine r_iconst (v := 3) dX10_layFollows_111 rfl ?_
      refine r_iload_n (x := c1) dX10_layFollows_112 rfl ?_
      refine r_imul dX10_layFollows_113 ?_
      refine r_iload_n (x := x3) dX10_layFollows_114 rfl ?_
      refine r_iadd dX10_layFollows_115 ?_
      refine e_iald (n := (((3 : Int32) * c1) + x3).toNatClampNeg) (x := r9) dX10_layFollows_116 (kM_mem (s := 60) (by decide)) rfl h11 rfl (by simp [pi, pl, pr, pci, pcl]) ?_
      refine r_isub dX10_layFollows_117 ?_
      refine r_istore_n (L' := [some (vR (40, 0, 0)), some (vI c1), some (vI (x2 - r9)), some (vI x3), some (vI y8), none]) dX10_layFollows_118 (by decide) rfl ?_
      refine r_iinc (x := x3) (v := x3 + (1 : Int32)) (L' := [some (vR (40, 0, 0)), some (vI c1), some (vI (x2 - r9)), some (vI (x3 + (1 : Int32))), some (vI y8), none]) dX10_layFollows_119 rfl rfl (lt_b rfl) rfl ?_
      refine r_goto (tgt := 12) dX10_layFollows_122 (by decide) ?_
      refine r_weak (L' := [some (vR (40, 0, 0)), some (vI c1), some (vI (x2 - r9)), some (vI (x3 + (1 : Int32))), none, none]) (And.intro rfl (And.intro rfl (And.intro rfl (And.intro rfl trivial)))) ?_
      exact k1 (x2 - r9, x3 + (1 : Int32), (pi u (60, 0, 0) ((((3 : Int32) * c1) + x3).toNatClampNeg) r9)) (am_inj hf).symm
    · have hf := (am_if hf).1 hc
      refine r_goto (tgt := 119) dX10_layFollows_22 (by decide) ?_
      refine r_iinc (x := x3) (v := x3 + (1 : Int32)) (L' := [some (vR (40, 0, 0)), some (vI c1), some (vI x2), some (vI (x3 + (1 : Int32))), none, none]) dX10_layFollows_119 rfl rfl (lt_b rfl) rfl ?_
      refine r_goto (tgt := 12) dX10_layFollows_122 (by decide) ?_
      refine r_weak (L' := [some (vR (40, 0, 0)), some (vI c1), some (vI x2), some (vI (x3 + (1 : Int32))), none, none]) (And.intro rfl (And.intro rfl (And.intro rfl (And.intro rfl trivial)))) ?_
      exact k1 (x2, x3 + (1 : Int32), u) (am_inj hf).symm
def f_X10_layFollows_L2   : Int32 × PM → Option ((Int32 × PM) ⊕ (PM)) := fun (x1 , u) =>
  if (3 : Int32) ≤ x1 then
    some (.inr (u))
  else
  (am_loop (f_X10_layFollows_L12 x1) 2000 ((10 : Int32), (0 : Int32), u)).bind fun (y14, u15) =>
  if ((4 : Int32) * x1) < 0 ∨ 9 ≤ ((4 : Int32) * x1).toNatClampNeg then none else
  some (.inl (x1 + (1 : Int32), (pi u15 (60, 0, 0) (((4 : Int32) * x1).toNatClampNeg) y14)))
set_option maxHeartbeats 4000000 in
set_option maxRecDepth 20000 in
theorem K_X10_layFollows_L2 {l : Launch} {T : Option AV × List Key × AM}   : ∀ (n : Nat) (s : Int32 × PM) (e0 : PM), am_loop (f_X10_layFollows_L2) n s = some e0 → (fun e : PM => X l mX10_layFollows 2 0 0 false T kM 0 0 140 [none, none, none, none, none, none] [] (en e)) e0 → X l mX10_layFollows 2 0 0 false T kM 0 0 2 [some (vR (40, 0, 0)), some (vI s.1), none, none, none, none] [] (en s.2) := by
  refine am_loop_of ?_
  intro s x hf k1 k2
  obtain ⟨x1 , u⟩ := s
  unfold f_X10_layFollows_L2 at hf
  show X l mX10_layFollows 2 0 0 false T kM 0 0 2 [some (vR (40, 0, 0)), some (vI x1), none, none, none, none] [] (en u)
  refine r_iload_n (x := x1) dX10_layFollows_2 rfl ?_
  refine r_iconst (v := 3) dX10_layFollows_3 rfl ?_
  refine r_icmp_ge (tgt := 140) dX10_layFollows_4 (by decide) (fun hc => ?_) (fun hc => ?_)
  · have hf := (am_if hf).1 hc
    refine r_weak (L' := [none, none, none, none, none, none]) trivial ?_
    exact k2 (u) (am_inj hf).symm
  · have hf := (am_if hf).2 hc
    refine r_bipush (v := 10) dX10_layFollows_7 rfl ?_
    refine r_istore_n (L' := [some (vR (40, 0, 0)), some (vI x1), some (vI (10 : Int32)), none, none, none]) dX10_layFollows_9 (by decide) rfl ?_
    refine r_iconst (v := 0) dX10_layFollows_10 rfl ?_
    refine r_istore_n (L' := [some (vR (40, 0, 0)), some (vI x1), some (vI (10 : Int32)), some (vI (0 : Int32)), none, none]) dX10_layFollows_11 (by decide) rfl ?_
    refine r_weak (L' := [some (vR (40, 0, 0)), some (vI x1), some (vI (10 : Int32)), some (vI (0 : Int32)), none, none]) (And.intro rfl (And.intro rfl (And.intro rfl (And.intro rfl trivial)))) ?_
    obtain ⟨e12, he13, hf⟩ := am_bind hf
    refine K_X10_layFollows_L12  2000 ((10 : Int32), (0 : Int32), u) _ he13 ?_
    obtain ⟨y14, u15⟩ := e12
    show X l _ _ 0 0 false _ kM 0 0 125 [some (vR (40, 0, 0)), some (vI x1), some (vI y14), none, none, none] [] (en u15)
    refine r_aload_n (x := (40, 0, 0)) dX10_layFollows_125 rfl ?_
    refine e_getr (z := some (60, 0, 0)) fw_X10_104 dX10_layFollows_126 (kM_mem (s := 40) (by decide)) rfl (lt_b rfl) rfl ?_
    refine r_iconst (v := 4) dX10_layFollows_129 rfl ?_
    refine r_iload_n (x := x1) dX10_layFollows_130 rfl ?_
    refine r_imul dX10_layFollows_131 ?_
    refine r_iload_n (x := y14) dX10_layFollows_132 rfl ?_
    obtain ⟨h16, hf⟩ := am_nchk hf
    refine e_iast (n := ((4 : Int32) * x1).toNatClampNeg) dX10_layFollows_133 (kM_mem (s := 60) (by decide)) rfl h16 rfl ?_
    refine r_iinc (x := x1) (v := x1 + (1 : Int32)) (L' := [some (vR (40, 0, 0)), some (vI (x1 + (1 : Int32))), some (vI y14), none, none, none]) dX10_layFollows_134 rfl rfl (lt_b rfl) rfl ?_
    refine r_goto (tgt := 2) dX10_layFollows_137 (by decide) ?_
    refine r_weak (L' := [some (vR (40, 0, 0)), some (vI (x1 + (1 : Int32))), none, none, none, none]) (And.intro rfl (And.intro rfl trivial)) ?_
    exact k1 (x1 + (1 : Int32), (pi u15 (60, 0, 0) (((4 : Int32) * x1).toNatClampNeg) y14)) (am_inj hf).symm
def f_X10_layFollows   (u : PM) : Option (PM) :=
  (am_loop (f_X10_layFollows_L2) 2000 ((0 : Int32), u)).bind fun u19 =>
  some u19
set_option maxHeartbeats 4000000 in
set_option maxRecDepth 20000 in
theorem C_X10_layFollows {l : Launch}   {u : PM} {x : PM} (hf : f_X10_layFollows u = some x) : Ev l mX10_layFollows 2 0 0 false [vR (40, 0, 0)] kM (en u) (none, kM, en x) := by
  refine Ev_of (by decide +kernel) (le_b rfl) ?_
  unfold f_X10_layFollows at hf
  show X l mX10_layFollows 2 0 0 false _ kM 0 0 0 [some (vR (40, 0, 0)), none, none, none, none, none] [] (en u)
  refine r_iconst (v := 0) dX10_layFollows_0 rfl ?_
  refine r_istore_n (L' := [some (vR (40, 0, 0)), some (vI (0 : Int32)), none, none, none, none]) dX10_layFollows_1 (by decide) rfl ?_
  refine r_weak (L' := [some (vR (40, 0, 0)), some (vI (0 : Int32)), none, none, none, none]) (And.intro rfl (And.intro rfl trivial)) ?_
  obtain ⟨e17, he18, hf⟩ := am_bind hf
  refine K_X10_layFollows_L2  2000 ((0 : Int32), u) _ he18 ?_
  obtain ⟨u19, rfl⟩ : ∃ z, z = e17 := ⟨_, rfl⟩
  show X l _ _ 0 0 false _ kM 0 0 140 [none, none, none, none, none, none] [] (en u19)
  have hx := am_inj hf
  subst hx
  exact r_vret dX10_layFollows_140 rfl (le_b rfl) (le_b rfl)
/-! FireFromFireModel.follows -/
theorem dX10_follows_0 : decode cX10_follows 0 = .ok (.aload_n 0, 1) := by decide +kernel
theorem dX10_follows_1 : decode cX10_follows 1 = .ok (.iload_n 1, 1) := by decide +kernel
theorem dX10_follows_2 : decode cX10_follows 2 = .ok (.invokevirtual 342, 3) := by decide +kernel
theorem dX10_follows_5 : decode cX10_follows 5 = .ok (.ifCond .eq 11, 3) := by decide +kernel
theorem dX10_follows_8 : decode cX10_follows 8 = .ok (.aload_n 0, 1) := by decide +kernel
theorem dX10_follows_9 : decode cX10_follows 9 = .ok (.iload_n 2, 1) := by decide +kernel
theorem dX10_follows_10 : decode cX10_follows 10 = .ok (.invokevirtual 342, 3) := by decide +kernel
theorem dX10_follows_13 : decode cX10_follows 13 = .ok (.ifCond .ne 5, 3) := by decide +kernel
theorem dX10_follows_16 : decode cX10_follows 16 = .ok (.iconst (-1), 1) := by decide +kernel
theorem dX10_follows_17 : decode cX10_follows 17 = .ok (.ireturn, 1) := by decide +kernel
theorem dX10_follows_18 : decode cX10_follows 18 = .ok (.aload_n 0, 1) := by decide +kernel
theorem dX10_follows_19 : decode cX10_follows 19 = .ok (.invokevirtual 345, 3) := by decide +kernel
theorem dX10_follows_22 : decode cX10_follows 22 = .ok (.aload_n 0, 1) := by decide +kernel
theorem dX10_follows_23 : decode cX10_follows 23 = .ok (.getfield 104, 3) := by decide +kernel
theorem dX10_follows_26 : decode cX10_follows 26 = .ok (.iconst 3, 1) := by decide +kernel
theorem dX10_follows_27 : decode cX10_follows 27 = .ok (.iload_n 1, 1) := by decide +kernel
theorem dX10_follows_28 : decode cX10_follows 28 = .ok (.imul, 1) := by decide +kernel
theorem dX10_follows_29 : decode cX10_follows 29 = .ok (.iload_n 2, 1) := by decide +kernel
theorem dX10_follows_30 : decode cX10_follows 30 = .ok (.iadd, 1) := by decide +kernel
theorem dX10_follows_31 : decode cX10_follows 31 = .ok (.iaload, 1) := by decide +kernel
theorem dX10_follows_32 : decode cX10_follows 32 = .ok (.ireturn, 1) := by decide +kernel
def f_X10_follows  (a0 : Int32) (a1 : Int32) (u : PM) : Option (Int32 × PM) :=
  (f_X10_isWeather a0 u).bind fun r1 =>
  if r1 = 0 then
    some ((-1 : Int32), u)
  else
  (f_X10_isWeather a1 u).bind fun r3 =>
  if r3 = 0 then
    some ((-1 : Int32), u)
  else
  (f_X10_layFollows u).bind fun r5 =>
  if (((3 : Int32) * a0) + a1) < 0 ∨ 9 ≤ (((3 : Int32) * a0) + a1).toNatClampNeg then none else
  some (r5.1 (60, 0, 0) ((((3 : Int32) * a0) + a1).toNatClampNeg), r5)
set_option maxHeartbeats 4000000 in
set_option maxRecDepth 20000 in
theorem C_X10_follows {l : Launch}  {a0 : Int32} {a1 : Int32} {u : PM} {x : Int32 × PM} (hf : f_X10_follows a0 a1 u = some x) : Ev l mX10_follows 3 0 0 false [vR (40, 0, 0), vI a0, vI a1] kM (en u) (some (vI x.1), kM, en x.2) := by
  refine Ev_of (by decide +kernel) (le_b rfl) ?_
  unfold f_X10_follows at hf
  show X l mX10_follows 3 0 0 false _ kM 0 0 0 [some (vR (40, 0, 0)), some (vI a0), some (vI a1)] [] (en u)
  refine r_aload_n (x := (40, 0, 0)) dX10_follows_0 rfl ?_
  refine r_iload_n (x := a0) dX10_follows_1 rfl ?_
  obtain ⟨r1, hr2, hf⟩ := am_bind hf
  refine r_callV (as := [vI a0]) (st := []) (n := 1) mw_X10_342 mv_X10_isWeather (C_X10_isWeather (l := l) hr2) (le_b rfl) dX10_follows_2 (kM_mem (s := 40) (by decide)) rfl rfl rfl (le_b rfl) (le_b rfl) (le_b rfl) ?_
  show X l _ _ 0 0 false _ kM 0 0 5 [some (vR (40, 0, 0)), some (vI a0), some (vI a1)] [vI r1] (en u)
  refine r_if_eq (tgt := 16) dX10_follows_5 (by decide) (fun hc => ?_) (fun hc => ?_)
  · have hf := (am_if hf).1 hc
    refine r_iconst (v := -1) dX10_follows_16 rfl ?_
    have hx := am_inj hf
    subst hx
    exact r_iret dX10_follows_17 rfl rfl (le_b rfl) (le_b rfl)
  · have hf := (am_if hf).2 hc
    refine r_aload_n (x := (40, 0, 0)) dX10_follows_8 rfl ?_
    refine r_iload_n (x := a1) dX10_follows_9 rfl ?_
    obtain ⟨r3, hr4, hf⟩ := am_bind hf
    refine r_callV (as := [vI a1]) (st := []) (n := 1) mw_X10_342 mv_X10_isWeather (C_X10_isWeather (l := l) hr4) (le_b rfl) dX10_follows_10 (kM_mem (s := 40) (by decide)) rfl rfl rfl (le_b rfl) (le_b rfl) (le_b rfl) ?_
    show X l _ _ 0 0 false _ kM 0 0 13 [some (vR (40, 0, 0)), some (vI a0), some (vI a1)] [vI r3] (en u)
    refine r_if_ne (tgt := 18) dX10_follows_13 (by decide) (fun hc => ?_) (fun hc => ?_)
    · have hf := (am_if hf).2 hc
      refine r_aload_n (x := (40, 0, 0)) dX10_follows_18 rfl ?_
      obtain ⟨r5, hr6, hf⟩ := am_bind hf
      refine r_callV (as := []) (st := []) (n := 0) mw_X10_345 mv_X10_layFollows (C_X10_layFollows (l := l) hr6) (le_b rfl) dX10_follows_19 (kM_mem (s := 40) (by decide)) rfl rfl rfl (le_b rfl) (le_b rfl) (le_b rfl) ?_
      show X l _ _ 0 0 false _ kM 0 0 22 [some (vR (40, 0, 0)), some (vI a0), some (vI a1)] [] (en r5)
      refine r_aload_n (x := (40, 0, 0)) dX10_follows_22 rfl ?_
      refine e_getr (z := some (60, 0, 0)) fw_X10_104 dX10_follows_23 (kM_mem (s := 40) (by decide)) rfl (lt_b rfl) rfl ?_
      refine r_iconst (v := 3) dX10_follows_26 rfl ?_
      refine r_iload_n (x := a0) dX10_follows_27 rfl ?_
      refine r_imul dX10_follows_28 ?_
      refine r_iload_n (x := a1) dX10_follows_29 rfl ?_
      refine r_iadd dX10_follows_30 ?_
      obtain ⟨h7, hf⟩ := am_nchk hf
      refine e_iald (n := (((3 : Int32) * a0) + a1).toNatClampNeg) dX10_follows_31 (kM_mem (s := 60) (by decide)) rfl h7 rfl rfl ?_
      have hx := am_inj hf
      subst hx
      exact r_iret dX10_follows_32 rfl rfl (le_b rfl) (le_b rfl)
    · have hf := (am_if hf).1 hc
      refine r_iconst (v := -1) dX10_follows_16 rfl ?_
      have hx := am_inj hf
      subst hx
      exact r_iret dX10_follows_17 rfl rfl (le_b rfl) (le_b rfl)
/-! FireFromFireModel.begin -/
theorem dX10_begin_0 : decode cX10_begin 0 = .ok (.aload_n 0, 1) := by decide +kernel
theorem dX10_begin_1 : decode cX10_begin 1 = .ok (.aload_n 0, 1) := by decide +kernel
theorem dX10_begin_2 : decode cX10_begin 2 = .ok (.getfield 107, 3) := by decide +kernel
theorem dX10_begin_5 : decode cX10_begin 5 = .ok (.putfield 113, 3) := by decide +kernel
theorem dX10_begin_8 : decode cX10_begin 8 = .ok (.iconst 0, 1) := by decide +kernel
theorem dX10_begin_9 : decode cX10_begin 9 = .ok (.istore_n 1, 1) := by decide +kernel
theorem dX10_begin_10 : decode cX10_begin 10 = .ok (.iload_n 1, 1) := by decide +kernel
theorem dX10_begin_11 : decode cX10_begin 11 = .ok (.bipush 6, 2) := by decide +kernel
theorem dX10_begin_13 : decode cX10_begin 13 = .ok (.if_icmp .ge 21, 3) := by decide +kernel
theorem dX10_begin_16 : decode cX10_begin 16 = .ok (.aload_n 0, 1) := by decide +kernel
theorem dX10_begin_17 : decode cX10_begin 17 = .ok (.getfield 125, 3) := by decide +kernel
theorem dX10_begin_20 : decode cX10_begin 20 = .ok (.iload_n 1, 1) := by decide +kernel
theorem dX10_begin_21 : decode cX10_begin 21 = .ok (.aload_n 0, 1) := by decide +kernel
theorem dX10_begin_22 : decode cX10_begin 22 = .ok (.getfield 122, 3) := by decide +kernel
theorem dX10_begin_25 : decode cX10_begin 25 = .ok (.iload_n 1, 1) := by decide +kernel
theorem dX10_begin_26 : decode cX10_begin 26 = .ok (.iaload, 1) := by decide +kernel
theorem dX10_begin_27 : decode cX10_begin 27 = .ok (.iastore, 1) := by decide +kernel
theorem dX10_begin_28 : decode cX10_begin 28 = .ok (.iinc 1 1, 3) := by decide +kernel
theorem dX10_begin_31 : decode cX10_begin 31 = .ok (.goto (-21), 3) := by decide +kernel
theorem dX10_begin_34 : decode cX10_begin 34 = .ok (.return_, 1) := by decide +kernel
def f_X10_begin_L10   : Int32 × PM → Option ((Int32 × PM) ⊕ (PM)) := fun (x1 , u) =>
  if (6 : Int32) ≤ x1 then
    some (.inr (u))
  else
  if x1 < 0 ∨ 6 ≤ x1.toNatClampNeg then none else
  some (.inl (x1 + (1 : Int32), (pi u (62, 0, 0) x1.toNatClampNeg (u.1 (61, 0, 0) x1.toNatClampNeg))))
set_option maxHeartbeats 4000000 in
set_option maxRecDepth 20000 in
theorem K_X10_begin_L10 {l : Launch} {T : Option AV × List Key × AM}   : ∀ (n : Nat) (s : Int32 × PM) (e0 : PM), am_loop (f_X10_begin_L10) n s = some e0 → (fun e : PM => X l mX10_begin 1 0 0 false T kM 0 0 34 [none, none] [] (en e)) e0 → X l mX10_begin 1 0 0 false T kM 0 0 10 [some (vR (40, 0, 0)), some (vI s.1)] [] (en s.2) := by
  refine am_loop_of ?_
  intro s x hf k1 k2
  obtain ⟨x1 , u⟩ := s
  unfold f_X10_begin_L10 at hf
  show X l mX10_begin 1 0 0 false T kM 0 0 10 [some (vR (40, 0, 0)), some (vI x1)] [] (en u)
  refine r_iload_n (x := x1) dX10_begin_10 rfl ?_
  refine r_bipush (v := 6) dX10_begin_11 rfl ?_
  refine r_icmp_ge (tgt := 34) dX10_begin_13 (by decide) (fun hc => ?_) (fun hc => ?_)
  · have hf := (am_if hf).1 hc
    refine r_weak (L' := [none, none]) trivial ?_
    exact k2 (u) (am_inj hf).symm
  · have hf := (am_if hf).2 hc
    refine r_aload_n (x := (40, 0, 0)) dX10_begin_16 rfl ?_
    refine e_getr (z := some (62, 0, 0)) fw_X10_125 dX10_begin_17 (kM_mem (s := 40) (by decide)) rfl (lt_b rfl) rfl ?_
    refine r_iload_n (x := x1) dX10_begin_20 rfl ?_
    refine r_aload_n (x := (40, 0, 0)) dX10_begin_21 rfl ?_
    refine e_getr (z := some (61, 0, 0)) fw_X10_122 dX10_begin_22 (kM_mem (s := 40) (by decide)) rfl (lt_b rfl) rfl ?_
    refine r_iload_n (x := x1) dX10_begin_25 rfl ?_
    obtain ⟨h1, hf⟩ := am_nchk hf
    refine e_iald (n := x1.toNatClampNeg) dX10_begin_26 (kM_mem (s := 61) (by decide)) rfl h1 rfl rfl ?_
    refine e_iast (n := x1.toNatClampNeg) dX10_begin_27 (kM_mem (s := 62) (by decide)) rfl h1 rfl ?_
    refine r_iinc (x := x1) (v := x1 + (1 : Int32)) (L' := [some (vR (40, 0, 0)), some (vI (x1 + (1 : Int32)))]) dX10_begin_28 rfl rfl (lt_b rfl) rfl ?_
    refine r_goto (tgt := 10) dX10_begin_31 (by decide) ?_
    refine r_weak (L' := [some (vR (40, 0, 0)), some (vI (x1 + (1 : Int32)))]) (And.intro rfl (And.intro rfl trivial)) ?_
    exact k1 (x1 + (1 : Int32), (pi u (62, 0, 0) x1.toNatClampNeg (u.1 (61, 0, 0) x1.toNatClampNeg))) (am_inj hf).symm
def f_X10_begin   (u : PM) : Option (PM) :=
  (am_loop (f_X10_begin_L10) 2000 ((0 : Int32), (pi u (40, 0, 0) 34 (u.1 (40, 0, 0) 32)))).bind fun u4 =>
  some u4
set_option maxHeartbeats 4000000 in
set_option maxRecDepth 20000 in
theorem C_X10_begin {l : Launch}   {u : PM} {x : PM} (hf : f_X10_begin u = some x) : Ev l mX10_begin 1 0 0 false [vR (40, 0, 0)] kM (en u) (none, kM, en x) := by
  refine Ev_of (by decide +kernel) (le_b rfl) ?_
  unfold f_X10_begin at hf
  show X l mX10_begin 1 0 0 false _ kM 0 0 0 [some (vR (40, 0, 0)), none] [] (en u)
  refine r_aload_n (x := (40, 0, 0)) dX10_begin_0 rfl ?_
  refine r_aload_n (x := (40, 0, 0)) dX10_begin_1 rfl ?_
  refine e_geti fw_X10_107 dX10_begin_2 (kM_mem (s := 40) (by decide)) rfl (lt_b rfl) ?_
  refine e_puti fp_X10_113 dX10_begin_5 (kM_mem (s := 40) (by decide)) rfl (lt_b rfl) rfl rfl rfl ?_
  refine r_iconst (v := 0) dX10_begin_8 rfl ?_
  refine r_istore_n (L' := [some (vR (40, 0, 0)), some (vI (0 : Int32))]) dX10_begin_9 (by decide) rfl ?_
  refine r_weak (L' := [some (vR (40, 0, 0)), some (vI (0 : Int32))]) (And.intro rfl (And.intro rfl trivial)) ?_
  obtain ⟨e2, he3, hf⟩ := am_bind hf
  refine K_X10_begin_L10  2000 ((0 : Int32), (pi u (40, 0, 0) 34 (u.1 (40, 0, 0) 32))) _ he3 ?_
  obtain ⟨u4, rfl⟩ : ∃ z, z = e2 := ⟨_, rfl⟩
  show X l _ _ 0 0 false _ kM 0 0 34 [none, none] [] (en u4)
  have hx := am_inj hf
  subst hx
  exact r_vret dX10_begin_34 rfl (le_b rfl) (le_b rfl)
/-! FireFromFireModel.asIs -/
theorem dX10_asIs_0 : decode cX10_asIs 0 = .ok (.aload_n 0, 1) := by decide +kernel
theorem dX10_asIs_1 : decode cX10_asIs 1 = .ok (.aload_n 0, 1) := by decide +kernel
theorem dX10_asIs_2 : decode cX10_asIs 2 = .ok (.getfield 13, 3) := by decide +kernel
theorem dX10_asIs_5 : decode cX10_asIs 5 = .ok (.putfield 107, 3) := by decide +kernel
theorem dX10_asIs_8 : decode cX10_asIs 8 = .ok (.aload_n 0, 1) := by decide +kernel
theorem dX10_asIs_9 : decode cX10_asIs 9 = .ok (.aload_n 0, 1) := by decide +kernel
theorem dX10_asIs_10 : decode cX10_asIs 10 = .ok (.getfield 16, 3) := by decide +kernel
theorem dX10_asIs_13 : decode cX10_asIs 13 = .ok (.putfield 110, 3) := by decide +kernel
theorem dX10_asIs_16 : decode cX10_asIs 16 = .ok (.aload_n 0, 1) := by decide +kernel
theorem dX10_asIs_17 : decode cX10_asIs 17 = .ok (.iconst 0, 1) := by decide +kernel
theorem dX10_asIs_18 : decode cX10_asIs 18 = .ok (.putfield 116, 3) := by decide +kernel
theorem dX10_asIs_21 : decode cX10_asIs 21 = .ok (.aload_n 0, 1) := by decide +kernel
theorem dX10_asIs_22 : decode cX10_asIs 22 = .ok (.iconst 0, 1) := by decide +kernel
theorem dX10_asIs_23 : decode cX10_asIs 23 = .ok (.putfield 119, 3) := by decide +kernel
theorem dX10_asIs_26 : decode cX10_asIs 26 = .ok (.iconst 0, 1) := by decide +kernel
theorem dX10_asIs_27 : decode cX10_asIs 27 = .ok (.istore_n 1, 1) := by decide +kernel
theorem dX10_asIs_28 : decode cX10_asIs 28 = .ok (.iload_n 1, 1) := by decide +kernel
theorem dX10_asIs_29 : decode cX10_asIs 29 = .ok (.bipush 6, 2) := by decide +kernel
theorem dX10_asIs_31 : decode cX10_asIs 31 = .ok (.if_icmp .ge 93, 3) := by decide +kernel
theorem dX10_asIs_34 : decode cX10_asIs 34 = .ok (.aload_n 0, 1) := by decide +kernel
theorem dX10_asIs_35 : decode cX10_asIs 35 = .ok (.getfield 122, 3) := by decide +kernel
theorem dX10_asIs_38 : decode cX10_asIs 38 = .ok (.iload_n 1, 1) := by decide +kernel
theorem dX10_asIs_39 : decode cX10_asIs 39 = .ok (.aload_n 0, 1) := by decide +kernel
theorem dX10_asIs_40 : decode cX10_asIs 40 = .ok (.getfield 22, 3) := by decide +kernel
theorem dX10_asIs_43 : decode cX10_asIs 43 = .ok (.iload_n 1, 1) := by decide +kernel
theorem dX10_asIs_44 : decode cX10_asIs 44 = .ok (.iaload, 1) := by decide +kernel
theorem dX10_asIs_45 : decode cX10_asIs 45 = .ok (.iastore, 1) := by decide +kernel
theorem dX10_asIs_46 : decode cX10_asIs 46 = .ok (.aload_n 0, 1) := by decide +kernel
theorem dX10_asIs_47 : decode cX10_asIs 47 = .ok (.getfield 128, 3) := by decide +kernel
theorem dX10_asIs_50 : decode cX10_asIs 50 = .ok (.iload_n 1, 1) := by decide +kernel
theorem dX10_asIs_51 : decode cX10_asIs 51 = .ok (.aload_n 0, 1) := by decide +kernel
theorem dX10_asIs_52 : decode cX10_asIs 52 = .ok (.getfield 26, 3) := by decide +kernel
theorem dX10_asIs_55 : decode cX10_asIs 55 = .ok (.iload_n 1, 1) := by decide +kernel
theorem dX10_asIs_56 : decode cX10_asIs 56 = .ok (.iaload, 1) := by decide +kernel
theorem dX10_asIs_57 : decode cX10_asIs 57 = .ok (.iastore, 1) := by decide +kernel
theorem dX10_asIs_58 : decode cX10_asIs 58 = .ok (.aload_n 0, 1) := by decide +kernel
theorem dX10_asIs_59 : decode cX10_asIs 59 = .ok (.getfield 131, 3) := by decide +kernel
theorem dX10_asIs_62 : decode cX10_asIs 62 = .ok (.iload_n 1, 1) := by decide +kernel
theorem dX10_asIs_63 : decode cX10_asIs 63 = .ok (.aload_n 0, 1) := by decide +kernel
theorem dX10_asIs_64 : decode cX10_asIs 64 = .ok (.getfield 29, 3) := by decide +kernel
theorem dX10_asIs_67 : decode cX10_asIs 67 = .ok (.iload_n 1, 1) := by decide +kernel
theorem dX10_asIs_68 : decode cX10_asIs 68 = .ok (.iaload, 1) := by decide +kernel
theorem dX10_asIs_69 : decode cX10_asIs 69 = .ok (.iastore, 1) := by decide +kernel
theorem dX10_asIs_70 : decode cX10_asIs 70 = .ok (.aload_n 0, 1) := by decide +kernel
theorem dX10_asIs_71 : decode cX10_asIs 71 = .ok (.getfield 134, 3) := by decide +kernel
theorem dX10_asIs_74 : decode cX10_asIs 74 = .ok (.iload_n 1, 1) := by decide +kernel
theorem dX10_asIs_75 : decode cX10_asIs 75 = .ok (.aload_n 0, 1) := by decide +kernel
theorem dX10_asIs_76 : decode cX10_asIs 76 = .ok (.getfield 35, 3) := by decide +kernel
theorem dX10_asIs_79 : decode cX10_asIs 79 = .ok (.iload_n 1, 1) := by decide +kernel
theorem dX10_asIs_80 : decode cX10_asIs 80 = .ok (.iaload, 1) := by decide +kernel
theorem dX10_asIs_81 : decode cX10_asIs 81 = .ok (.iastore, 1) := by decide +kernel
theorem dX10_asIs_82 : decode cX10_asIs 82 = .ok (.aload_n 0, 1) := by decide +kernel
theorem dX10_asIs_83 : decode cX10_asIs 83 = .ok (.getfield 137, 3) := by decide +kernel
theorem dX10_asIs_86 : decode cX10_asIs 86 = .ok (.iload_n 1, 1) := by decide +kernel
theorem dX10_asIs_87 : decode cX10_asIs 87 = .ok (.aload_n 0, 1) := by decide +kernel
theorem dX10_asIs_88 : decode cX10_asIs 88 = .ok (.getfield 38, 3) := by decide +kernel
theorem dX10_asIs_91 : decode cX10_asIs 91 = .ok (.iload_n 1, 1) := by decide +kernel
theorem dX10_asIs_92 : decode cX10_asIs 92 = .ok (.iaload, 1) := by decide +kernel
theorem dX10_asIs_93 : decode cX10_asIs 93 = .ok (.iastore, 1) := by decide +kernel
theorem dX10_asIs_94 : decode cX10_asIs 94 = .ok (.aload_n 0, 1) := by decide +kernel
theorem dX10_asIs_95 : decode cX10_asIs 95 = .ok (.getfield 140, 3) := by decide +kernel
theorem dX10_asIs_98 : decode cX10_asIs 98 = .ok (.iload_n 1, 1) := by decide +kernel
theorem dX10_asIs_99 : decode cX10_asIs 99 = .ok (.aload_n 0, 1) := by decide +kernel
theorem dX10_asIs_100 : decode cX10_asIs 100 = .ok (.getfield 41, 3) := by decide +kernel
theorem dX10_asIs_103 : decode cX10_asIs 103 = .ok (.iload_n 1, 1) := by decide +kernel
theorem dX10_asIs_104 : decode cX10_asIs 104 = .ok (.iaload, 1) := by decide +kernel
theorem dX10_asIs_105 : decode cX10_asIs 105 = .ok (.iastore, 1) := by decide +kernel
theorem dX10_asIs_106 : decode cX10_asIs 106 = .ok (.aload_n 0, 1) := by decide +kernel
theorem dX10_asIs_107 : decode cX10_asIs 107 = .ok (.getfield 143, 3) := by decide +kernel
theorem dX10_asIs_110 : decode cX10_asIs 110 = .ok (.iload_n 1, 1) := by decide +kernel
theorem dX10_asIs_111 : decode cX10_asIs 111 = .ok (.aload_n 0, 1) := by decide +kernel
theorem dX10_asIs_112 : decode cX10_asIs 112 = .ok (.getfield 44, 3) := by decide +kernel
theorem dX10_asIs_115 : decode cX10_asIs 115 = .ok (.iload_n 1, 1) := by decide +kernel
theorem dX10_asIs_116 : decode cX10_asIs 116 = .ok (.iaload, 1) := by decide +kernel
theorem dX10_asIs_117 : decode cX10_asIs 117 = .ok (.iastore, 1) := by decide +kernel
theorem dX10_asIs_118 : decode cX10_asIs 118 = .ok (.iinc 1 1, 3) := by decide +kernel
theorem dX10_asIs_121 : decode cX10_asIs 121 = .ok (.goto (-93), 3) := by decide +kernel
theorem dX10_asIs_124 : decode cX10_asIs 124 = .ok (.aload_n 0, 1) := by decide +kernel
theorem dX10_asIs_125 : decode cX10_asIs 125 = .ok (.invokevirtual 348, 3) := by decide +kernel
theorem dX10_asIs_128 : decode cX10_asIs 128 = .ok (.return_, 1) := by decide +kernel
def f_X10_asIs_L28   : Int32 × PM → Option ((Int32 × PM) ⊕ (PM)) := fun (x1 , u) =>
  if (6 : Int32) ≤ x1 then
    some (.inr (u))
  else
  if x1 < 0 ∨ 6 ≤ x1.toNatClampNeg then none else
  some (.inl (x1 + (1 : Int32), (pi (pi (pi (pi (pi (pi (pi u (61, 0, 0) x1.toNatClampNeg (u.1 (41, 0, 0) x1.toNatClampNeg)) (63, 0, 0) x1.toNatClampNeg (u.1 (42, 0, 0) x1.toNatClampNeg)) (64, 0, 0) x1.toNatClampNeg (u.1 (43, 0, 0) x1.toNatClampNeg)) (65, 0, 0) x1.toNatClampNeg (u.1 (45, 0, 0) x1.toNatClampNeg)) (66, 0, 0) x1.toNatClampNeg (u.1 (46, 0, 0) x1.toNatClampNeg)) (67, 0, 0) x1.toNatClampNeg (u.1 (47, 0, 0) x1.toNatClampNeg)) (68, 0, 0) x1.toNatClampNeg (u.1 (48, 0, 0) x1.toNatClampNeg))))
set_option maxHeartbeats 4000000 in
set_option maxRecDepth 20000 in
theorem K_X10_asIs_L28 {l : Launch} {T : Option AV × List Key × AM}   : ∀ (n : Nat) (s : Int32 × PM) (e0 : PM), am_loop (f_X10_asIs_L28) n s = some e0 → (fun e : PM => X l mX10_asIs 2 0 0 false T kM 0 0 124 [some (vR (40, 0, 0)), none] [] (en e)) e0 → X l mX10_asIs 2 0 0 false T kM 0 0 28 [some (vR (40, 0, 0)), some (vI s.1)] [] (en s.2) := by
  refine am_loop_of ?_
  intro s x hf k1 k2
  obtain ⟨x1 , u⟩ := s
  unfold f_X10_asIs_L28 at hf
  show X l mX10_asIs 2 0 0 false T kM 0 0 28 [some (vR (40, 0, 0)), some (vI x1)] [] (en u)
  refine r_iload_n (x := x1) dX10_asIs_28 rfl ?_
  refine r_bipush (v := 6) dX10_asIs_29 rfl ?_
  refine r_icmp_ge (tgt := 124) dX10_asIs_31 (by decide) (fun hc => ?_) (fun hc => ?_)
  · have hf := (am_if hf).1 hc
    refine r_weak (L' := [some (vR (40, 0, 0)), none]) (And.intro rfl trivial) ?_
    exact k2 (u) (am_inj hf).symm
  · have hf := (am_if hf).2 hc
    refine r_aload_n (x := (40, 0, 0)) dX10_asIs_34 rfl ?_
    refine e_getr (z := some (61, 0, 0)) fw_X10_122 dX10_asIs_35 (kM_mem (s := 40) (by decide)) rfl (lt_b rfl) rfl ?_
    refine r_iload_n (x := x1) dX10_asIs_38 rfl ?_
    refine r_aload_n (x := (40, 0, 0)) dX10_asIs_39 rfl ?_
    refine e_getr (z := some (41, 0, 0)) fw_X10_22 dX10_asIs_40 (kM_mem (s := 40) (by decide)) rfl (lt_b rfl) rfl ?_
    refine r_iload_n (x := x1) dX10_asIs_43 rfl ?_
    obtain ⟨h1, hf⟩ := am_nchk hf
    refine e_iald (n := x1.toNatClampNeg) dX10_asIs_44 (kM_mem (s := 41) (by decide)) rfl h1 rfl rfl ?_
    refine e_iast (n := x1.toNatClampNeg) dX10_asIs_45 (kM_mem (s := 61) (by decide)) rfl h1 rfl ?_
    refine r_aload_n (x := (40, 0, 0)) dX10_asIs_46 rfl ?_
    refine e_getr (z := some (63, 0, 0)) fw_X10_128 dX10_asIs_47 (kM_mem (s := 40) (by decide)) rfl (lt_b rfl) rfl ?_
    refine r_iload_n (x := x1) dX10_asIs_50 rfl ?_
    refine r_aload_n (x := (40, 0, 0)) dX10_asIs_51 rfl ?_
    refine e_getr (z := some (42, 0, 0)) fw_X10_26 dX10_asIs_52 (kM_mem (s := 40) (by decide)) rfl (lt_b rfl) rfl ?_
    refine r_iload_n (x := x1) dX10_asIs_55 rfl ?_
    refine e_iald (n := x1.toNatClampNeg) (x := u.1 (42, 0, 0) x1.toNatClampNeg) dX10_asIs_56 (kM_mem (s := 42) (by decide)) rfl h1 rfl (by simp [pi, pl, pr, pci, pcl]) ?_
    refine e_iast (n := x1.toNatClampNeg) dX10_asIs_57 (kM_mem (s := 63) (by decide)) rfl h1 rfl ?_
    refine r_aload_n (x := (40, 0, 0)) dX10_asIs_58 rfl ?_
    refine e_getr (z := some (64, 0, 0)) fw_X10_131 dX10_asIs_59 (kM_mem (s := 40) (by decide)) rfl (lt_b rfl) rfl ?_
    refine r_iload_n (x := x1) dX10_asIs_62 rfl ?_
    refine r_aload_n (x := (40, 0, 0)) dX10_asIs_63 rfl ?_
    refine e_getr (z := some (43, 0, 0)) fw_X10_29 dX10_asIs_64 (kM_mem (s := 40) (by decide)) rfl (lt_b rfl) rfl ?_
    refine r_iload_n (x := x1) dX10_asIs_67 rfl ?_
    refine e_iald (n := x1.toNatClampNeg) (x := u.1 (43, 0, 0) x1.toNatClampNeg) dX10_asIs_68 (kM_mem (s := 43) (by decide)) rfl h1 rfl (by simp [pi, pl, pr, pci, pcl]) ?_
    refine e_iast (n := x1.toNatClampNeg) dX10_asIs_69 (kM_mem (s := 64) (by decide)) rfl h1 rfl ?_
    refine r_aload_n (x := (40, 0, 0)) dX10_asIs_70 rfl ?_
    refine e_getr (z := some (65, 0, 0)) fw_X10_134 dX10_asIs_71 (kM_mem (s := 40) (by decide)) rfl (lt_b rfl) rfl ?_
    refine r_iload_n (x := x1) dX10_asIs_74 rfl ?_
    refine r_aload_n (x := (40, 0, 0)) dX10_asIs_75 rfl ?_
    refine e_getr (z := some (45, 0, 0)) fw_X10_35 dX10_asIs_76 (kM_mem (s := 40) (by decide)) rfl (lt_b rfl) rfl ?_
    refine r_iload_n (x := x1) dX10_asIs_79 rfl ?_
    refine e_iald (n := x1.toNatClampNeg) (x := u.1 (45, 0, 0) x1.toNatClampNeg) dX10_asIs_80 (kM_mem (s := 45) (by decide)) rfl h1 rfl (by simp [pi, pl, pr, pci, pcl]) ?_
    refine e_iast (n := x1.toNatClampNeg) dX10_asIs_81 (kM_mem (s := 65) (by decide)) rfl h1 rfl ?_
    refine r_aload_n (x := (40, 0, 0)) dX10_asIs_82 rfl ?_
    refine e_getr (z := some (66, 0, 0)) fw_X10_137 dX10_asIs_83 (kM_mem (s := 40) (by decide)) rfl (lt_b rfl) rfl ?_
    refine r_iload_n (x := x1) dX10_asIs_86 rfl ?_
    refine r_aload_n (x := (40, 0, 0)) dX10_asIs_87 rfl ?_
    refine e_getr (z := some (46, 0, 0)) fw_X10_38 dX10_asIs_88 (kM_mem (s := 40) (by decide)) rfl (lt_b rfl) rfl ?_
    refine r_iload_n (x := x1) dX10_asIs_91 rfl ?_
    refine e_iald (n := x1.toNatClampNeg) (x := u.1 (46, 0, 0) x1.toNatClampNeg) dX10_asIs_92 (kM_mem (s := 46) (by decide)) rfl h1 rfl (by simp [pi, pl, pr, pci, pcl]) ?_
    refine e_iast (n := x1.toNatClampNeg) dX10_asIs_93 (kM_mem (s := 66) (by decide)) rfl h1 rfl ?_
    refine r_aload_n (x := (40, 0, 0)) dX10_asIs_94 rfl ?_
    refine e_getr (z := some (67, 0, 0)) fw_X10_140 dX10_asIs_95 (kM_mem (s := 40) (by decide)) rfl (lt_b rfl) rfl ?_
    refine r_iload_n (x := x1) dX10_asIs_98 rfl ?_
    refine r_aload_n (x := (40, 0, 0)) dX10_asIs_99 rfl ?_
    refine e_getr (z := some (47, 0, 0)) fw_X10_41 dX10_asIs_100 (kM_mem (s := 40) (by decide)) rfl (lt_b rfl) rfl ?_
    refine r_iload_n (x := x1) dX10_asIs_103 rfl ?_
    refine e_iald (n := x1.toNatClampNeg) (x := u.1 (47, 0, 0) x1.toNatClampNeg) dX10_asIs_104 (kM_mem (s := 47) (by decide)) rfl h1 rfl (by simp [pi, pl, pr, pci, pcl]) ?_
    refine e_iast (n := x1.toNatClampNeg) dX10_asIs_105 (kM_mem (s := 67) (by decide)) rfl h1 rfl ?_
    refine r_aload_n (x := (40, 0, 0)) dX10_asIs_106 rfl ?_
    refine e_getr (z := some (68, 0, 0)) fw_X10_143 dX10_asIs_107 (kM_mem (s := 40) (by decide)) rfl (lt_b rfl) rfl ?_
    refine r_iload_n (x := x1) dX10_asIs_110 rfl ?_
    refine r_aload_n (x := (40, 0, 0)) dX10_asIs_111 rfl ?_
    refine e_getr (z := some (48, 0, 0)) fw_X10_44 dX10_asIs_112 (kM_mem (s := 40) (by decide)) rfl (lt_b rfl) rfl ?_
    refine r_iload_n (x := x1) dX10_asIs_115 rfl ?_
    refine e_iald (n := x1.toNatClampNeg) (x := u.1 (48, 0, 0) x1.toNatClampNeg) dX10_asIs_116 (kM_mem (s := 48) (by decide)) rfl h1 rfl (by simp [pi, pl, pr, pci, pcl]) ?_
    refine e_iast (n := x1.toNatClampNeg) dX10_asIs_117 (kM_mem (s := 68) (by decide)) rfl h1 rfl ?_
    refine r_iinc (x := x1) (v := x1 + (1 : Int32)) (L' := [some (vR (40, 0, 0)), some (vI (x1 + (1 : Int32)))]) dX10_asIs_118 rfl rfl (lt_b rfl) rfl ?_
    refine r_goto (tgt := 28) dX10_asIs_121 (by decide) ?_
    refine r_weak (L' := [some (vR (40, 0, 0)), some (vI (x1 + (1 : Int32)))]) (And.intro rfl (And.intro rfl trivial)) ?_
    exact k1 (x1 + (1 : Int32), (pi (pi (pi (pi (pi (pi (pi u (61, 0, 0) x1.toNatClampNeg (u.1 (41, 0, 0) x1.toNatClampNeg)) (63, 0, 0) x1.toNatClampNeg (u.1 (42, 0, 0) x1.toNatClampNeg)) (64, 0, 0) x1.toNatClampNeg (u.1 (43, 0, 0) x1.toNatClampNeg)) (65, 0, 0) x1.toNatClampNeg (u.1 (45, 0, 0) x1.toNatClampNeg)) (66, 0, 0) x1.toNatClampNeg (u.1 (46, 0, 0) x1.toNatClampNeg)) (67, 0, 0) x1.toNatClampNeg (u.1 (47, 0, 0) x1.toNatClampNeg)) (68, 0, 0) x1.toNatClampNeg (u.1 (48, 0, 0) x1.toNatClampNeg))) (am_inj hf).symm
def f_X10_asIs   (u : PM) : Option (PM) :=
  (am_loop (f_X10_asIs_L28) 2000 ((0 : Int32), (pi (pi (pi (pi u (40, 0, 0) 32 (u.1 (40, 0, 0) 1)) (40, 0, 0) 33 (u.1 (40, 0, 0) 2)) (40, 0, 0) 35 (0 : Int32)) (40, 0, 0) 36 (0 : Int32)))).bind fun u4 =>
  (f_X10_begin u4).bind fun r5 =>
  some r5
set_option maxHeartbeats 4000000 in
set_option maxRecDepth 20000 in
theorem C_X10_asIs {l : Launch}   {u : PM} {x : PM} (hf : f_X10_asIs u = some x) : Ev l mX10_asIs 2 0 0 false [vR (40, 0, 0)] kM (en u) (none, kM, en x) := by
  refine Ev_of (by decide +kernel) (le_b rfl) ?_
  unfold f_X10_asIs at hf
  show X l mX10_asIs 2 0 0 false _ kM 0 0 0 [some (vR (40, 0, 0)), none] [] (en u)
  refine r_aload_n (x := (40, 0, 0)) dX10_asIs_0 rfl ?_
  refine r_aload_n (x := (40, 0, 0)) dX10_asIs_1 rfl ?_
  refine e_geti fw_X10_13 dX10_asIs_2 (kM_mem (s := 40) (by decide)) rfl (lt_b rfl) ?_
  refine e_puti fp_X10_107 dX10_asIs_5 (kM_mem (s := 40) (by decide)) rfl (lt_b rfl) rfl rfl rfl ?_
  refine r_aload_n (x := (40, 0, 0)) dX10_asIs_8 rfl ?_
  refine r_aload_n (x := (40, 0, 0)) dX10_asIs_9 rfl ?_
  refine e_geti_ (x := u.1 (40, 0, 0) 2) fw_X10_16 dX10_asIs_10 (kM_mem (s := 40) (by decide)) rfl (lt_b rfl) (by simp [pi, pl, pr, pci, pcl]) ?_
  refine e_puti fp_X10_110 dX10_asIs_13 (kM_mem (s := 40) (by decide)) rfl (lt_b rfl) rfl rfl rfl ?_
  refine r_aload_n (x := (40, 0, 0)) dX10_asIs_16 rfl ?_
  refine r_iconst (v := 0) dX10_asIs_17 rfl ?_
  refine e_puti fp_X10_116 dX10_asIs_18 (kM_mem (s := 40) (by decide)) rfl (lt_b rfl) rfl rfl rfl ?_
  refine r_aload_n (x := (40, 0, 0)) dX10_asIs_21 rfl ?_
  refine r_iconst (v := 0) dX10_asIs_22 rfl ?_
  refine e_puti fp_X10_119 dX10_asIs_23 (kM_mem (s := 40) (by decide)) rfl (lt_b rfl) rfl rfl rfl ?_
  refine r_iconst (v := 0) dX10_asIs_26 rfl ?_
  refine r_istore_n (L' := [some (vR (40, 0, 0)), some (vI (0 : Int32))]) dX10_asIs_27 (by decide) rfl ?_
  refine r_weak (L' := [some (vR (40, 0, 0)), some (vI (0 : Int32))]) (And.intro rfl (And.intro rfl trivial)) ?_
  obtain ⟨e2, he3, hf⟩ := am_bind hf
  refine K_X10_asIs_L28  2000 ((0 : Int32), (pi (pi (pi (pi u (40, 0, 0) 32 (u.1 (40, 0, 0) 1)) (40, 0, 0) 33 (u.1 (40, 0, 0) 2)) (40, 0, 0) 35 (0 : Int32)) (40, 0, 0) 36 (0 : Int32))) _ he3 ?_
  obtain ⟨u4, rfl⟩ : ∃ z, z = e2 := ⟨_, rfl⟩
  show X l _ _ 0 0 false _ kM 0 0 124 [some (vR (40, 0, 0)), none] [] (en u4)
  refine r_aload_n (x := (40, 0, 0)) dX10_asIs_124 rfl ?_
  obtain ⟨r5, hr6, hf⟩ := am_bind hf
  refine r_callV (as := []) (st := []) (n := 0) mw_X10_348 mv_X10_begin (C_X10_begin (l := l) hr6) (le_b rfl) dX10_asIs_125 (kM_mem (s := 40) (by decide)) rfl rfl rfl (le_b rfl) (le_b rfl) (le_b rfl) ?_
  show X l _ _ 0 0 false _ kM 0 0 128 [some (vR (40, 0, 0)), none] [] (en r5)
  have hx := am_inj hf
  subst hx
  exact r_vret dX10_asIs_128 rfl (le_b rfl) (le_b rfl)
/-! FireFromFireModel.ones -/
theorem dX10_ones_0 : decode cX10_ones 0 = .ok (.iconst 0, 1) := by decide +kernel
theorem dX10_ones_1 : decode cX10_ones 1 = .ok (.istore_n 2, 1) := by decide +kernel
theorem dX10_ones_2 : decode cX10_ones 2 = .ok (.iload_n 1, 1) := by decide +kernel
theorem dX10_ones_3 : decode cX10_ones 3 = .ok (.istore_n 3, 1) := by decide +kernel
theorem dX10_ones_4 : decode cX10_ones 4 = .ok (.iload_n 3, 1) := by decide +kernel
theorem dX10_ones_5 : decode cX10_ones 5 = .ok (.ifCond .eq 15, 3) := by decide +kernel
theorem dX10_ones_8 : decode cX10_ones 8 = .ok (.iinc 2 1, 3) := by decide +kernel
theorem dX10_ones_11 : decode cX10_ones 11 = .ok (.iload_n 3, 1) := by decide +kernel
theorem dX10_ones_12 : decode cX10_ones 12 = .ok (.iload_n 3, 1) := by decide +kernel
theorem dX10_ones_13 : decode cX10_ones 13 = .ok (.iconst 1, 1) := by decide +kernel
theorem dX10_ones_14 : decode cX10_ones 14 = .ok (.isub, 1) := by decide +kernel
theorem dX10_ones_15 : decode cX10_ones 15 = .ok (.iand, 1) := by decide +kernel
theorem dX10_ones_16 : decode cX10_ones 16 = .ok (.istore_n 3, 1) := by decide +kernel
theorem dX10_ones_17 : decode cX10_ones 17 = .ok (.goto (-13), 3) := by decide +kernel
theorem dX10_ones_20 : decode cX10_ones 20 = .ok (.iload_n 2, 1) := by decide +kernel
theorem dX10_ones_21 : decode cX10_ones 21 = .ok (.ireturn, 1) := by decide +kernel
def f_X10_ones_L4   (u : PM) : Int32 × Int32 → Option ((Int32 × Int32) ⊕ (Int32)) := fun (x2 , x3) =>
  if x3 = 0 then
    some (.inr (x2))
  else
  some (.inl (x2 + (1 : Int32), x3 &&& (x3 - (1 : Int32))))
set_option maxHeartbeats 4000000 in
set_option maxRecDepth 20000 in
theorem K_X10_ones_L4 {l : Launch} {T : Option AV × List Key × AM}   {u : PM} : ∀ (n : Nat) (s : Int32 × Int32) (e0 : Int32), am_loop (f_X10_ones_L4 u) n s = some e0 → (fun e : Int32 => X l mX10_ones 1 0 0 false T kM 0 0 20 [none, none, some (vI e), none] [] (en u)) e0 → X l mX10_ones 1 0 0 false T kM 0 0 4 [none, none, some (vI s.1), some (vI s.2)] [] (en u) := by
  refine am_loop_of ?_
  intro s x hf k1 k2
  obtain ⟨x2 , x3⟩ := s
  unfold f_X10_ones_L4 at hf
  show X l mX10_ones 1 0 0 false T kM 0 0 4 [none, none, some (vI x2), some (vI x3)] [] (en u)
  refine r_iload_n (x := x3) dX10_ones_4 rfl ?_
  refine r_if_eq (tgt := 20) dX10_ones_5 (by decide) (fun hc => ?_) (fun hc => ?_)
  · have hf := (am_if hf).1 hc
    refine r_weak (L' := [none, none, some (vI x2), none]) (And.intro rfl trivial) ?_
    exact k2 (x2) (am_inj hf).symm
  · have hf := (am_if hf).2 hc
    refine r_iinc (x := x2) (v := x2 + (1 : Int32)) (L' := [none, none, some (vI (x2 + (1 : Int32))), some (vI x3)]) dX10_ones_8 rfl rfl (lt_b rfl) rfl ?_
    refine r_iload_n (x := x3) dX10_ones_11 rfl ?_
    refine r_iload_n (x := x3) dX10_ones_12 rfl ?_
    refine r_iconst (v := 1) dX10_ones_13 rfl ?_
    refine r_isub dX10_ones_14 ?_
    refine r_iand dX10_ones_15 ?_
    refine r_istore_n (L' := [none, none, some (vI (x2 + (1 : Int32))), some (vI (x3 &&& (x3 - (1 : Int32))))]) dX10_ones_16 (by decide) rfl ?_
    refine r_goto (tgt := 4) dX10_ones_17 (by decide) ?_
    refine r_weak (L' := [none, none, some (vI (x2 + (1 : Int32))), some (vI (x3 &&& (x3 - (1 : Int32))))]) (And.intro rfl (And.intro rfl trivial)) ?_
    exact k1 (x2 + (1 : Int32), x3 &&& (x3 - (1 : Int32))) (am_inj hf).symm
def f_X10_ones  (a0 : Int32) (u : PM) : Option (Int32) :=
  (am_loop (f_X10_ones_L4 u) 2000 ((0 : Int32), a0)).bind fun y3 =>
  some y3
set_option maxHeartbeats 4000000 in
set_option maxRecDepth 20000 in
theorem C_X10_ones {l : Launch}  {a0 : Int32} {u : PM} {x : Int32} (hf : f_X10_ones a0 u = some x) : Ev l mX10_ones 1 0 0 false [vR (40, 0, 0), vI a0] kM (en u) (some (vI x), kM, en u) := by
  refine Ev_of (by decide +kernel) (le_b rfl) ?_
  unfold f_X10_ones at hf
  show X l mX10_ones 1 0 0 false _ kM 0 0 0 [some (vR (40, 0, 0)), some (vI a0), none, none] [] (en u)
  refine r_iconst (v := 0) dX10_ones_0 rfl ?_
  refine r_istore_n (L' := [some (vR (40, 0, 0)), some (vI a0), some (vI (0 : Int32)), none]) dX10_ones_1 (by decide) rfl ?_
  refine r_iload_n (x := a0) dX10_ones_2 rfl ?_
  refine r_istore_n (L' := [some (vR (40, 0, 0)), some (vI a0), some (vI (0 : Int32)), some (vI a0)]) dX10_ones_3 (by decide) rfl ?_
  refine r_weak (L' := [none, none, some (vI (0 : Int32)), some (vI a0)]) (And.intro rfl (And.intro rfl trivial)) ?_
  obtain ⟨e1, he2, hf⟩ := am_bind hf
  refine K_X10_ones_L4  2000 ((0 : Int32), a0) _ he2 ?_
  obtain ⟨y3, rfl⟩ : ∃ z, z = e1 := ⟨_, rfl⟩
  show X l _ _ 0 0 false _ kM 0 0 20 [none, none, some (vI y3), none] [] (en u)
  refine r_iload_n (x := y3) dX10_ones_20 rfl ?_
  have hx := am_inj hf
  subst hx
  exact r_iret dX10_ones_21 rfl rfl (le_b rfl) (le_b rfl)
/-! FireFromFireModel.factOf -/
theorem dX10_factOf_0 : decode cX10_factOf 0 = .ok (.iload_n 1, 1) := by decide +kernel
theorem dX10_factOf_1 : decode cX10_factOf 1 = .ok (.tableswitch 61 0 4 #[35, 37, 45, 47, 54], 35) := by decide +kernel
theorem dX10_factOf_36 : decode cX10_factOf 36 = .ok (.iload_n 3, 1) := by decide +kernel
theorem dX10_factOf_37 : decode cX10_factOf 37 = .ok (.ireturn, 1) := by decide +kernel
theorem dX10_factOf_38 : decode cX10_factOf 38 = .ok (.aload_n 0, 1) := by decide +kernel
theorem dX10_factOf_39 : decode cX10_factOf 39 = .ok (.getfield 110, 3) := by decide +kernel
theorem dX10_factOf_42 : decode cX10_factOf 42 = .ok (.bipush 24, 2) := by decide +kernel
theorem dX10_factOf_44 : decode cX10_factOf 44 = .ok (.irem, 1) := by decide +kernel
theorem dX10_factOf_45 : decode cX10_factOf 45 = .ok (.ireturn, 1) := by decide +kernel
theorem dX10_factOf_46 : decode cX10_factOf 46 = .ok (.iload_n 2, 1) := by decide +kernel
theorem dX10_factOf_47 : decode cX10_factOf 47 = .ok (.ireturn, 1) := by decide +kernel
theorem dX10_factOf_48 : decode cX10_factOf 48 = .ok (.aload_n 0, 1) := by decide +kernel
theorem dX10_factOf_49 : decode cX10_factOf 49 = .ok (.getfield 128, 3) := by decide +kernel
theorem dX10_factOf_52 : decode cX10_factOf 52 = .ok (.iload_n 2, 1) := by decide +kernel
theorem dX10_factOf_53 : decode cX10_factOf 53 = .ok (.iaload, 1) := by decide +kernel
theorem dX10_factOf_54 : decode cX10_factOf 54 = .ok (.ireturn, 1) := by decide +kernel
theorem dX10_factOf_55 : decode cX10_factOf 55 = .ok (.aload_n 0, 1) := by decide +kernel
theorem dX10_factOf_56 : decode cX10_factOf 56 = .ok (.getfield 125, 3) := by decide +kernel
theorem dX10_factOf_59 : decode cX10_factOf 59 = .ok (.iload_n 2, 1) := by decide +kernel
theorem dX10_factOf_60 : decode cX10_factOf 60 = .ok (.iaload, 1) := by decide +kernel
theorem dX10_factOf_61 : decode cX10_factOf 61 = .ok (.ireturn, 1) := by decide +kernel
theorem dX10_factOf_62 : decode cX10_factOf 62 = .ok (.aload_n 0, 1) := by decide +kernel
theorem dX10_factOf_63 : decode cX10_factOf 63 = .ok (.aload_n 0, 1) := by decide +kernel
theorem dX10_factOf_64 : decode cX10_factOf 64 = .ok (.getfield 113, 3) := by decide +kernel
theorem dX10_factOf_67 : decode cX10_factOf 67 = .ok (.invokevirtual 351, 3) := by decide +kernel
theorem dX10_factOf_70 : decode cX10_factOf 70 = .ok (.ireturn, 1) := by decide +kernel
def f_X10_factOf  (a0 : Int32) (a1 : Int32) (a2 : Int32) (u : PM) : Option (Int32) :=
  if a0 = (0 : Int32) then
    some a2
  else if a0 = (1 : Int32) then
    some ((u.1 (40, 0, 0) 33) - (u.1 (40, 0, 0) 33) / (24 : Int32) * (24 : Int32))
  else if a0 = (2 : Int32) then
    some a1
  else if a0 = (3 : Int32) then
    if a1 < 0 ∨ 6 ≤ a1.toNatClampNeg then none else
    some (u.1 (63, 0, 0) a1.toNatClampNeg)
  else if a0 = (4 : Int32) then
    if a1 < 0 ∨ 6 ≤ a1.toNatClampNeg then none else
    some (u.1 (62, 0, 0) a1.toNatClampNeg)
  else 
  (f_X10_ones (u.1 (40, 0, 0) 34) u).bind fun r3 =>
  some r3
set_option maxHeartbeats 4000000 in
set_option maxRecDepth 20000 in
theorem C_X10_factOf {l : Launch}  {a0 : Int32} {a1 : Int32} {a2 : Int32} {u : PM} {x : Int32} (hf : f_X10_factOf a0 a1 a2 u = some x) : Ev l mX10_factOf 2 0 0 false [vR (40, 0, 0), vI a0, vI a1, vI a2] kM (en u) (some (vI x), kM, en u) := by
  refine Ev_of (by decide +kernel) (le_b rfl) ?_
  unfold f_X10_factOf at hf
  show X l mX10_factOf 2 0 0 false _ kM 0 0 0 [some (vR (40, 0, 0)), some (vI a0), some (vI a1), some (vI a2)] [] (en u)
  refine r_iload_n (x := a0) dX10_factOf_0 rfl ?_
  by_cases hs0 : a0 = (0 : Int32)
  · have hf := (am_if hf).1 hs0
    refine r_tswIn (x := a0) (kx := 0) (tgt := 36) dX10_factOf_1 hs0 (by decide) (by decide) rfl (by decide) ?_
    refine r_iload_n (x := a2) dX10_factOf_36 rfl ?_
    have hx := am_inj hf
    subst hx
    exact r_iret dX10_factOf_37 rfl rfl (le_b rfl) (le_b rfl)
  have hf := (am_if hf).2 hs0
  by_cases hs1 : a0 = (1 : Int32)
  · have hf := (am_if hf).1 hs1
    refine r_tswIn (x := a0) (kx := 1) (tgt := 38) dX10_factOf_1 hs1 (by decide) (by decide) rfl (by decide) ?_
    refine r_aload_n (x := (40, 0, 0)) dX10_factOf_38 rfl ?_
    refine e_geti fw_X10_110 dX10_factOf_39 (kM_mem (s := 40) (by decide)) rfl (lt_b rfl) ?_
    refine r_bipush (v := 24) dX10_factOf_42 rfl ?_
    refine r_irem dX10_factOf_44 (by decide) ?_
    have hx := am_inj hf
    subst hx
    exact r_iret dX10_factOf_45 rfl rfl (le_b rfl) (le_b rfl)
  have hf := (am_if hf).2 hs1
  by_cases hs2 : a0 = (2 : Int32)
  · have hf := (am_if hf).1 hs2
    refine r_tswIn (x := a0) (kx := 2) (tgt := 46) dX10_factOf_1 hs2 (by decide) (by decide) rfl (by decide) ?_
    refine r_iload_n (x := a1) dX10_factOf_46 rfl ?_
    have hx := am_inj hf
    subst hx
    exact r_iret dX10_factOf_47 rfl rfl (le_b rfl) (le_b rfl)
  have hf := (am_if hf).2 hs2
  by_cases hs3 : a0 = (3 : Int32)
  · have hf := (am_if hf).1 hs3
    refine r_tswIn (x := a0) (kx := 3) (tgt := 48) dX10_factOf_1 hs3 (by decide) (by decide) rfl (by decide) ?_
    refine r_aload_n (x := (40, 0, 0)) dX10_factOf_48 rfl ?_
    refine e_getr (z := some (63, 0, 0)) fw_X10_128 dX10_factOf_49 (kM_mem (s := 40) (by decide)) rfl (lt_b rfl) rfl ?_
    refine r_iload_n (x := a1) dX10_factOf_52 rfl ?_
    obtain ⟨h1, hf⟩ := am_nchk hf
    refine e_iald (n := a1.toNatClampNeg) dX10_factOf_53 (kM_mem (s := 63) (by decide)) rfl h1 rfl rfl ?_
    have hx := am_inj hf
    subst hx
    exact r_iret dX10_factOf_54 rfl rfl (le_b rfl) (le_b rfl)
  have hf := (am_if hf).2 hs3
  by_cases hs4 : a0 = (4 : Int32)
  · have hf := (am_if hf).1 hs4
    refine r_tswIn (x := a0) (kx := 4) (tgt := 55) dX10_factOf_1 hs4 (by decide) (by decide) rfl (by decide) ?_
    refine r_aload_n (x := (40, 0, 0)) dX10_factOf_55 rfl ?_
    refine e_getr (z := some (62, 0, 0)) fw_X10_125 dX10_factOf_56 (kM_mem (s := 40) (by decide)) rfl (lt_b rfl) rfl ?_
    refine r_iload_n (x := a1) dX10_factOf_59 rfl ?_
    obtain ⟨h2, hf⟩ := am_nchk hf
    refine e_iald (n := a1.toNatClampNeg) dX10_factOf_60 (kM_mem (s := 62) (by decide)) rfl h2 rfl rfl ?_
    have hx := am_inj hf
    subst hx
    exact r_iret dX10_factOf_61 rfl rfl (le_b rfl) (le_b rfl)
  have hf := (am_if hf).2 hs4
  refine r_tswOut (x := a0) (tgt := 62) dX10_factOf_1 (by have ehs0 := am_neI hs0 (z := 0) rfl; have ehs1 := am_neI hs1 (z := 1) rfl; have ehs2 := am_neI hs2 (z := 2) rfl; have ehs3 := am_neI hs3 (z := 3) rfl; have ehs4 := am_neI hs4 (z := 4) rfl; omega) (by decide) ?_
  refine r_aload_n (x := (40, 0, 0)) dX10_factOf_62 rfl ?_
  refine r_aload_n (x := (40, 0, 0)) dX10_factOf_63 rfl ?_
  refine e_geti fw_X10_113 dX10_factOf_64 (kM_mem (s := 40) (by decide)) rfl (lt_b rfl) ?_
  obtain ⟨r3, hr4, hf⟩ := am_bind hf
  refine r_callV (as := [vI (u.1 (40, 0, 0) 34)]) (st := []) (n := 1) mw_X10_351 mv_X10_ones (C_X10_ones (l := l) hr4) (le_b rfl) dX10_factOf_67 (kM_mem (s := 40) (by decide)) rfl rfl rfl (le_b rfl) (le_b rfl) (le_b rfl) ?_
  show X l _ _ 0 0 false _ kM 0 0 70 [some (vR (40, 0, 0)), some (vI a0), some (vI a1), some (vI a2)] [vI r3] (en u)
  have hx := am_inj hf
  subst hx
  exact r_iret dX10_factOf_70 rfl rfl (le_b rfl) (le_b rfl)
/-! FireFromFireModel.holds -/
theorem dX10_holds_0 : decode cX10_holds 0 = .ok (.iconst 0, 1) := by decide +kernel
theorem dX10_holds_1 : decode cX10_holds 1 = .ok (.istore 4, 2) := by decide +kernel
theorem dX10_holds_3 : decode cX10_holds 3 = .ok (.aload_n 0, 1) := by decide +kernel
theorem dX10_holds_4 : decode cX10_holds 4 = .ok (.getfield 80, 3) := by decide +kernel
theorem dX10_holds_7 : decode cX10_holds 7 = .ok (.iload_n 1, 1) := by decide +kernel
theorem dX10_holds_8 : decode cX10_holds 8 = .ok (.iaload, 1) := by decide +kernel
theorem dX10_holds_9 : decode cX10_holds 9 = .ok (.istore 5, 2) := by decide +kernel
theorem dX10_holds_11 : decode cX10_holds 11 = .ok (.iload 5, 2) := by decide +kernel
theorem dX10_holds_13 : decode cX10_holds 13 = .ok (.aload_n 0, 1) := by decide +kernel
theorem dX10_holds_14 : decode cX10_holds 14 = .ok (.getfield 83, 3) := by decide +kernel
theorem dX10_holds_17 : decode cX10_holds 17 = .ok (.iload_n 1, 1) := by decide +kernel
theorem dX10_holds_18 : decode cX10_holds 18 = .ok (.iaload, 1) := by decide +kernel
theorem dX10_holds_19 : decode cX10_holds 19 = .ok (.if_icmp .ge 234, 3) := by decide +kernel
theorem dX10_holds_22 : decode cX10_holds 22 = .ok (.aload_n 0, 1) := by decide +kernel
theorem dX10_holds_23 : decode cX10_holds 23 = .ok (.getfield 86, 3) := by decide +kernel
theorem dX10_holds_26 : decode cX10_holds 26 = .ok (.iload 5, 2) := by decide +kernel
theorem dX10_holds_28 : decode cX10_holds 28 = .ok (.iaload, 1) := by decide +kernel
theorem dX10_holds_29 : decode cX10_holds 29 = .ok (.istore 6, 2) := by decide +kernel
theorem dX10_holds_31 : decode cX10_holds 31 = .ok (.iload 6, 2) := by decide +kernel
theorem dX10_holds_33 : decode cX10_holds 33 = .ok (.bipush (-33), 2) := by decide +kernel
theorem dX10_holds_35 : decode cX10_holds 35 = .ok (.if_icmp .ne 32, 3) := by decide +kernel
theorem dX10_holds_38 : decode cX10_holds 38 = .ok (.aload_n 0, 1) := by decide +kernel
theorem dX10_holds_39 : decode cX10_holds 39 = .ok (.getfield 146, 3) := by decide +kernel
theorem dX10_holds_42 : decode cX10_holds 42 = .ok (.iload 4, 2) := by decide +kernel
theorem dX10_holds_44 : decode cX10_holds 44 = .ok (.iconst 1, 1) := by decide +kernel
theorem dX10_holds_45 : decode cX10_holds 45 = .ok (.isub, 1) := by decide +kernel
theorem dX10_holds_46 : decode cX10_holds 46 = .ok (.aload_n 0, 1) := by decide +kernel
theorem dX10_holds_47 : decode cX10_holds 47 = .ok (.getfield 146, 3) := by decide +kernel
theorem dX10_holds_50 : decode cX10_holds 50 = .ok (.iload 4, 2) := by decide +kernel
theorem dX10_holds_52 : decode cX10_holds 52 = .ok (.iconst 1, 1) := by decide +kernel
theorem dX10_holds_53 : decode cX10_holds 53 = .ok (.isub, 1) := by decide +kernel
theorem dX10_holds_54 : decode cX10_holds 54 = .ok (.baload, 1) := by decide +kernel
theorem dX10_holds_55 : decode cX10_holds 55 = .ok (.ifCond .ne 7, 3) := by decide +kernel
theorem dX10_holds_58 : decode cX10_holds 58 = .ok (.iconst 1, 1) := by decide +kernel
theorem dX10_holds_59 : decode cX10_holds 59 = .ok (.goto 4, 3) := by decide +kernel
theorem dX10_holds_62 : decode cX10_holds 62 = .ok (.iconst 0, 1) := by decide +kernel
theorem dX10_holds_63 : decode cX10_holds 63 = .ok (.bastore, 1) := by decide +kernel
theorem dX10_holds_64 : decode cX10_holds 64 = .ok (.goto 183, 3) := by decide +kernel
theorem dX10_holds_67 : decode cX10_holds 67 = .ok (.iload 6, 2) := by decide +kernel
theorem dX10_holds_69 : decode cX10_holds 69 = .ok (.ifCond .ge 82, 3) := by decide +kernel
theorem dX10_holds_72 : decode cX10_holds 72 = .ok (.iinc 4 (-1), 3) := by decide +kernel
theorem dX10_holds_75 : decode cX10_holds 75 = .ok (.aload_n 0, 1) := by decide +kernel
theorem dX10_holds_76 : decode cX10_holds 76 = .ok (.getfield 146, 3) := by decide +kernel
theorem dX10_holds_79 : decode cX10_holds 79 = .ok (.iload 4, 2) := by decide +kernel
theorem dX10_holds_81 : decode cX10_holds 81 = .ok (.iconst 1, 1) := by decide +kernel
theorem dX10_holds_82 : decode cX10_holds 82 = .ok (.isub, 1) := by decide +kernel
theorem dX10_holds_83 : decode cX10_holds 83 = .ok (.iload 6, 2) := by decide +kernel
theorem dX10_holds_85 : decode cX10_holds 85 = .ok (.bipush (-38), 2) := by decide +kernel
theorem dX10_holds_87 : decode cX10_holds 87 = .ok (.if_icmp .ne 33, 3) := by decide +kernel
theorem dX10_holds_90 : decode cX10_holds 90 = .ok (.aload_n 0, 1) := by decide +kernel
theorem dX10_holds_91 : decode cX10_holds 91 = .ok (.getfield 146, 3) := by decide +kernel
theorem dX10_holds_94 : decode cX10_holds 94 = .ok (.iload 4, 2) := by decide +kernel
theorem dX10_holds_96 : decode cX10_holds 96 = .ok (.iconst 1, 1) := by decide +kernel
theorem dX10_holds_97 : decode cX10_holds 97 = .ok (.isub, 1) := by decide +kernel
theorem dX10_holds_98 : decode cX10_holds 98 = .ok (.baload, 1) := by decide +kernel
theorem dX10_holds_99 : decode cX10_holds 99 = .ok (.ifCond .eq 17, 3) := by decide +kernel
theorem dX10_holds_102 : decode cX10_holds 102 = .ok (.aload_n 0, 1) := by decide +kernel
theorem dX10_holds_103 : decode cX10_holds 103 = .ok (.getfield 146, 3) := by decide +kernel
theorem dX10_holds_106 : decode cX10_holds 106 = .ok (.iload 4, 2) := by decide +kernel
theorem dX10_holds_108 : decode cX10_holds 108 = .ok (.baload, 1) := by decide +kernel
theorem dX10_holds_109 : decode cX10_holds 109 = .ok (.ifCond .eq 7, 3) := by decide +kernel
theorem dX10_holds_112 : decode cX10_holds 112 = .ok (.iconst 1, 1) := by decide +kernel
theorem dX10_holds_113 : decode cX10_holds 113 = .ok (.goto 34, 3) := by decide +kernel
theorem dX10_holds_116 : decode cX10_holds 116 = .ok (.iconst 0, 1) := by decide +kernel
theorem dX10_holds_117 : decode cX10_holds 117 = .ok (.goto 30, 3) := by decide +kernel
theorem dX10_holds_120 : decode cX10_holds 120 = .ok (.aload_n 0, 1) := by decide +kernel
theorem dX10_holds_121 : decode cX10_holds 121 = .ok (.getfield 146, 3) := by decide +kernel
theorem dX10_holds_124 : decode cX10_holds 124 = .ok (.iload 4, 2) := by decide +kernel
theorem dX10_holds_126 : decode cX10_holds 126 = .ok (.iconst 1, 1) := by decide +kernel
theorem dX10_holds_127 : decode cX10_holds 127 = .ok (.isub, 1) := by decide +kernel
theorem dX10_holds_128 : decode cX10_holds 128 = .ok (.baload, 1) := by decide +kernel
theorem dX10_holds_129 : decode cX10_holds 129 = .ok (.ifCond .ne 13, 3) := by decide +kernel
theorem dX10_holds_132 : decode cX10_holds 132 = .ok (.aload_n 0, 1) := by decide +kernel
theorem dX10_holds_133 : decode cX10_holds 133 = .ok (.getfield 146, 3) := by decide +kernel
theorem dX10_holds_136 : decode cX10_holds 136 = .ok (.iload 4, 2) := by decide +kernel
theorem dX10_holds_138 : decode cX10_holds 138 = .ok (.baload, 1) := by decide +kernel
theorem dX10_holds_139 : decode cX10_holds 139 = .ok (.ifCond .eq 7, 3) := by decide +kernel
theorem dX10_holds_142 : decode cX10_holds 142 = .ok (.iconst 1, 1) := by decide +kernel
theorem dX10_holds_143 : decode cX10_holds 143 = .ok (.goto 4, 3) := by decide +kernel
theorem dX10_holds_146 : decode cX10_holds 146 = .ok (.iconst 0, 1) := by decide +kernel
theorem dX10_holds_147 : decode cX10_holds 147 = .ok (.bastore, 1) := by decide +kernel
theorem dX10_holds_148 : decode cX10_holds 148 = .ok (.goto 99, 3) := by decide +kernel
theorem dX10_holds_151 : decode cX10_holds 151 = .ok (.aload_n 0, 1) := by decide +kernel
theorem dX10_holds_152 : decode cX10_holds 152 = .ok (.iload 6, 2) := by decide +kernel
theorem dX10_holds_154 : decode cX10_holds 154 = .ok (.sipush 1000, 3) := by decide +kernel
theorem dX10_holds_157 : decode cX10_holds 157 = .ok (.idiv, 1) := by decide +kernel
theorem dX10_holds_158 : decode cX10_holds 158 = .ok (.iload_n 2, 1) := by decide +kernel
theorem dX10_holds_159 : decode cX10_holds 159 = .ok (.iload_n 3, 1) := by decide +kernel
theorem dX10_holds_160 : decode cX10_holds 160 = .ok (.invokevirtual 354, 3) := by decide +kernel
theorem dX10_holds_163 : decode cX10_holds 163 = .ok (.istore 7, 2) := by decide +kernel
theorem dX10_holds_165 : decode cX10_holds 165 = .ok (.iload 6, 2) := by decide +kernel
theorem dX10_holds_167 : decode cX10_holds 167 = .ok (.bipush 100, 2) := by decide +kernel
theorem dX10_holds_169 : decode cX10_holds 169 = .ok (.idiv, 1) := by decide +kernel
theorem dX10_holds_170 : decode cX10_holds 170 = .ok (.bipush 10, 2) := by decide +kernel
theorem dX10_holds_172 : decode cX10_holds 172 = .ok (.irem, 1) := by decide +kernel
theorem dX10_holds_173 : decode cX10_holds 173 = .ok (.istore 8, 2) := by decide +kernel
theorem dX10_holds_175 : decode cX10_holds 175 = .ok (.aload_n 0, 1) := by decide +kernel
theorem dX10_holds_176 : decode cX10_holds 176 = .ok (.getfield 146, 3) := by decide +kernel
theorem dX10_holds_179 : decode cX10_holds 179 = .ok (.iload 4, 2) := by decide +kernel
theorem dX10_holds_181 : decode cX10_holds 181 = .ok (.iload 8, 2) := by decide +kernel
theorem dX10_holds_183 : decode cX10_holds 183 = .ok (.ifCond .ne 21, 3) := by decide +kernel
theorem dX10_holds_186 : decode cX10_holds 186 = .ok (.iload 7, 2) := by decide +kernel
theorem dX10_holds_188 : decode cX10_holds 188 = .ok (.iload 6, 2) := by decide +kernel
theorem dX10_holds_190 : decode cX10_holds 190 = .ok (.bipush 100, 2) := by decide +kernel
theorem dX10_holds_192 : decode cX10_holds 192 = .ok (.irem, 1) := by decide +kernel
theorem dX10_holds_193 : decode cX10_holds 193 = .ok (.if_icmp .ge 7, 3) := by decide +kernel
theorem dX10_holds_196 : decode cX10_holds 196 = .ok (.iconst 1, 1) := by decide +kernel
theorem dX10_holds_197 : decode cX10_holds 197 = .ok (.goto 46, 3) := by decide +kernel
theorem dX10_holds_200 : decode cX10_holds 200 = .ok (.iconst 0, 1) := by decide +kernel
theorem dX10_holds_201 : decode cX10_holds 201 = .ok (.goto 42, 3) := by decide +kernel
theorem dX10_holds_204 : decode cX10_holds 204 = .ok (.iload 8, 2) := by decide +kernel
theorem dX10_holds_206 : decode cX10_holds 206 = .ok (.iconst 1, 1) := by decide +kernel
theorem dX10_holds_207 : decode cX10_holds 207 = .ok (.if_icmp .ne 21, 3) := by decide +kernel
theorem dX10_holds_210 : decode cX10_holds 210 = .ok (.iload 7, 2) := by decide +kernel
theorem dX10_holds_212 : decode cX10_holds 212 = .ok (.iload 6, 2) := by decide +kernel
theorem dX10_holds_214 : decode cX10_holds 214 = .ok (.bipush 100, 2) := by decide +kernel
theorem dX10_holds_216 : decode cX10_holds 216 = .ok (.irem, 1) := by decide +kernel
theorem dX10_holds_217 : decode cX10_holds 217 = .ok (.if_icmp .ne 7, 3) := by decide +kernel
theorem dX10_holds_220 : decode cX10_holds 220 = .ok (.iconst 1, 1) := by decide +kernel
theorem dX10_holds_221 : decode cX10_holds 221 = .ok (.goto 22, 3) := by decide +kernel
theorem dX10_holds_224 : decode cX10_holds 224 = .ok (.iconst 0, 1) := by decide +kernel
theorem dX10_holds_225 : decode cX10_holds 225 = .ok (.goto 18, 3) := by decide +kernel
theorem dX10_holds_228 : decode cX10_holds 228 = .ok (.iload 7, 2) := by decide +kernel
theorem dX10_holds_230 : decode cX10_holds 230 = .ok (.iload 6, 2) := by decide +kernel
theorem dX10_holds_232 : decode cX10_holds 232 = .ok (.bipush 100, 2) := by decide +kernel
theorem dX10_holds_234 : decode cX10_holds 234 = .ok (.irem, 1) := by decide +kernel
theorem dX10_holds_235 : decode cX10_holds 235 = .ok (.if_icmp .le 7, 3) := by decide +kernel
theorem dX10_holds_238 : decode cX10_holds 238 = .ok (.iconst 1, 1) := by decide +kernel
theorem dX10_holds_239 : decode cX10_holds 239 = .ok (.goto 4, 3) := by decide +kernel
theorem dX10_holds_242 : decode cX10_holds 242 = .ok (.iconst 0, 1) := by decide +kernel
theorem dX10_holds_243 : decode cX10_holds 243 = .ok (.bastore, 1) := by decide +kernel
theorem dX10_holds_244 : decode cX10_holds 244 = .ok (.iinc 4 1, 3) := by decide +kernel
theorem dX10_holds_247 : decode cX10_holds 247 = .ok (.iinc 5 1, 3) := by decide +kernel
theorem dX10_holds_250 : decode cX10_holds 250 = .ok (.goto (-239), 3) := by decide +kernel
theorem dX10_holds_253 : decode cX10_holds 253 = .ok (.aload_n 0, 1) := by decide +kernel
theorem dX10_holds_254 : decode cX10_holds 254 = .ok (.getfield 146, 3) := by decide +kernel
theorem dX10_holds_257 : decode cX10_holds 257 = .ok (.iconst 0, 1) := by decide +kernel
theorem dX10_holds_258 : decode cX10_holds 258 = .ok (.baload, 1) := by decide +kernel
theorem dX10_holds_259 : decode cX10_holds 259 = .ok (.ireturn, 1) := by decide +kernel
def f_X10_holds_L11  (c1 : Int32) (c2 : Int32) (c3 : Int32) : Int32 × Int32 × PM → Option ((Int32 × Int32 × PM) ⊕ (PM)) := fun (x4 , x5 , u) =>
  if c1 < 0 ∨ 50 ≤ c1.toNatClampNeg then none else
  if (u.1 (56, 0, 0) c1.toNatClampNeg) ≤ x5 then
    some (.inr (u))
  else
  if x5 < 0 ∨ 500 ≤ x5.toNatClampNeg then none else
  if (u.1 (57, 0, 0) x5.toNatClampNeg) = (-33 : Int32) then
    if (x4 - (1 : Int32)) < 0 ∨ 100 ≤ (x4 - (1 : Int32)).toNatClampNeg then none else
    if (u.1 (69, 0, 0) ((x4 - (1 : Int32)).toNatClampNeg)) = 0 then
      some (.inl (x4, x5 + (1 : Int32), (pi u (69, 0, 0) ((x4 - (1 : Int32)).toNatClampNeg) (1 : Int32))))
    else
    some (.inl (x4, x5 + (1 : Int32), (pi u (69, 0, 0) ((x4 - (1 : Int32)).toNatClampNeg) (0 : Int32))))
  else
  if 0 ≤ (u.1 (57, 0, 0) x5.toNatClampNeg) then
    (f_X10_factOf ((u.1 (57, 0, 0) x5.toNatClampNeg) / (1000 : Int32)) c2 c3 u).bind fun r4 =>
    if (((u.1 (57, 0, 0) x5.toNatClampNeg) / (100 : Int32)) - ((u.1 (57, 0, 0) x5.toNatClampNeg) / (100 : Int32)) / (10 : Int32) * (10 : Int32)) = 0 then
      if ((u.1 (57, 0, 0) x5.toNatClampNeg) - (u.1 (57, 0, 0) x5.toNatClampNeg) / (100 : Int32) * (100 : Int32)) ≤ r4 then
        if x4 < 0 ∨ 100 ≤ x4.toNatClampNeg then none else
        some (.inl (x4 + (1 : Int32), x5 + (1 : Int32), (pi u (69, 0, 0) x4.toNatClampNeg (0 : Int32))))
      else
      if x4 < 0 ∨ 100 ≤ x4.toNatClampNeg then none else
      some (.inl (x4 + (1 : Int32), x5 + (1 : Int32), (pi u (69, 0, 0) x4.toNatClampNeg (1 : Int32))))
    else
    if (((u.1 (57, 0, 0) x5.toNatClampNeg) / (100 : Int32)) - ((u.1 (57, 0, 0) x5.toNatClampNeg) / (100 : Int32)) / (10 : Int32) * (10 : Int32)) = (1 : Int32) then
      if r4 = ((u.1 (57, 0, 0) x5.toNatClampNeg) - (u.1 (57, 0, 0) x5.toNatClampNeg) / (100 : Int32) * (100 : Int32)) then
        if x4 < 0 ∨ 100 ≤ x4.toNatClampNeg then none else
        some (.inl (x4 + (1 : Int32), x5 + (1 : Int32), (pi u (69, 0, 0) x4.toNatClampNeg (1 : Int32))))
      else
      if x4 < 0 ∨ 100 ≤ x4.toNatClampNeg then none else
      some (.inl (x4 + (1 : Int32), x5 + (1 : Int32), (pi u (69, 0, 0) x4.toNatClampNeg (0 : Int32))))
    else
    if r4 ≤ ((u.1 (57, 0, 0) x5.toNatClampNeg) - (u.1 (57, 0, 0) x5.toNatClampNeg) / (100 : Int32) * (100 : Int32)) then
      if x4 < 0 ∨ 100 ≤ x4.toNatClampNeg then none else
      some (.inl (x4 + (1 : Int32), x5 + (1 : Int32), (pi u (69, 0, 0) x4.toNatClampNeg (0 : Int32))))
    else
    if x4 < 0 ∨ 100 ≤ x4.toNatClampNeg then none else
    some (.inl (x4 + (1 : Int32), x5 + (1 : Int32), (pi u (69, 0, 0) x4.toNatClampNeg (1 : Int32))))
  else
  if (u.1 (57, 0, 0) x5.toNatClampNeg) = (-38 : Int32) then
    if ((x4 + (-1 : Int32)) - (1 : Int32)) < 0 ∨ 100 ≤ ((x4 + (-1 : Int32)) - (1 : Int32)).toNatClampNeg then none else
    if (u.1 (69, 0, 0) (((x4 + (-1 : Int32)) - (1 : Int32)).toNatClampNeg)) = 0 then
      some (.inl (x4 + (-1 : Int32), x5 + (1 : Int32), (pi u (69, 0, 0) (((x4 + (-1 : Int32)) - (1 : Int32)).toNatClampNeg) (0 : Int32))))
    else
    if (x4 + (-1 : Int32)) < 0 ∨ 100 ≤ (x4 + (-1 : Int32)).toNatClampNeg then none else
    if (u.1 (69, 0, 0) ((x4 + (-1 : Int32)).toNatClampNeg)) = 0 then
      some (.inl (x4 + (-1 : Int32), x5 + (1 : Int32), (pi u (69, 0, 0) (((x4 + (-1 : Int32)) - (1 : Int32)).toNatClampNeg) (0 : Int32))))
    else
    some (.inl (x4 + (-1 : Int32), x5 + (1 : Int32), (pi u (69, 0, 0) (((x4 + (-1 : Int32)) - (1 : Int32)).toNatClampNeg) (1 : Int32))))
  else
  if ((x4 + (-1 : Int32)) - (1 : Int32)) < 0 ∨ 100 ≤ ((x4 + (-1 : Int32)) - (1 : Int32)).toNatClampNeg then none else
  if (u.1 (69, 0, 0) (((x4 + (-1 : Int32)) - (1 : Int32)).toNatClampNeg)) = 0 then
    if (x4 + (-1 : Int32)) < 0 ∨ 100 ≤ (x4 + (-1 : Int32)).toNatClampNeg then none else
    if (u.1 (69, 0, 0) ((x4 + (-1 : Int32)).toNatClampNeg)) = 0 then
      some (.inl (x4 + (-1 : Int32), x5 + (1 : Int32), (pi u (69, 0, 0) (((x4 + (-1 : Int32)) - (1 : Int32)).toNatClampNeg) (0 : Int32))))
    else
    some (.inl (x4 + (-1 : Int32), x5 + (1 : Int32), (pi u (69, 0, 0) (((x4 + (-1 : Int32)) - (1 : Int32)).toNatClampNeg) (1 : Int32))))
  else
  some (.inl (x4 + (-1 : Int32), x5 + (1 : Int32), (pi u (69, 0, 0) (((x4 + (-1 : Int32)) - (1 : Int32)).toNatClampNeg) (1 : Int32))))
set_option maxHeartbeats 4000000 in
set_option maxRecDepth 20000 in
theorem K_X10_holds_L11 {l : Launch} {T : Option AV × List Key × AM}  {c1 : Int32} {c2 : Int32} {c3 : Int32} : ∀ (n : Nat) (s : Int32 × Int32 × PM) (e0 : PM), am_loop (f_X10_holds_L11 c1 c2 c3) n s = some e0 → (fun e : PM => X l mX10_holds 3 0 0 false T kM 0 0 253 [some (vR (40, 0, 0)), none, none, none, none, none, none, none, none] [] (en e)) e0 → X l mX10_holds 3 0 0 false T kM 0 0 11 [some (vR (40, 0, 0)), some (vI c1), some (vI c2), some (vI c3), some (vI s.1), some (vI s.2.1), none, none, none] [] (en s.2.2) := by
  refine am_loop_of ?_
  intro s x hf k1 k2
  obtain ⟨x4 , x5 , u⟩ := s
  unfold f_X10_holds_L11 at hf
  show X l mX10_holds 3 0 0 false T kM 0 0 11 [some (vR (40, 0, 0)), some (vI c1), some (vI c2), some (vI c3), some (vI x4), some (vI x5), none, none, none] [] (en u)
  refine r_iload (x := x5) dX10_holds_11 rfl ?_
  refine r_aload_n (x := (40, 0, 0)) dX10_holds_13 rfl ?_
  refine e_getr (z := some (56, 0, 0)) fw_X10_83 dX10_holds_14 (kM_mem (s := 40) (by decide)) rfl (lt_b rfl) rfl ?_
  refine r_iload_n (x := c1) dX10_holds_17 rfl ?_
  obtain ⟨h2, hf⟩ := am_nchk hf
  refine e_iald (n := c1.toNatClampNeg) dX10_holds_18 (kM_mem (s := 56) (by decide)) rfl h2 rfl rfl ?_
  refine r_icmp_ge (tgt := 253) dX10_holds_19 (by decide) (fun hc => ?_) (fun hc => ?_)
  · have hf := (am_if hf).1 hc
    refine r_weak (L' := [some (vR (40, 0, 0)), none, none, none, none, none, none, none, none]) (And.intro rfl trivial) ?_
    exact k2 (u) (am_inj hf).symm
  · have hf := (am_if hf).2 hc
    refine r_aload_n (x := (40, 0, 0)) dX10_holds_22 rfl ?_
    refine e_getr (z := some (57, 0, 0)) fw_X10_86 dX10_holds_23 (kM_mem (s := 40) (by decide)) rfl (lt_b rfl) rfl ?_
    refine r_iload (x := x5) dX10_holds_26 rfl ?_
    obtain ⟨h3, hf⟩ := am_nchk hf
    refine e_iald (n := x5.toNatClampNeg) dX10_holds_28 (kM_mem (s := 57) (by decide)) rfl h3 rfl rfl ?_
    refine r_istore (L' := [some (vR (40, 0, 0)), some (vI c1), some (vI c2), some (vI c3), some (vI x4), some (vI x5), some (vI (u.1 (57, 0, 0) x5.toNatClampNeg)), none, none]) dX10_holds_29 (by decide) rfl ?_
    refine r_iload (x := u.1 (57, 0, 0) x5.toNatClampNeg) dX10_holds_31 rfl ?_
    refine r_bipush (v := -33) dX10_holds_33 rfl ?_
    refine r_icmp_ne (tgt := 67) dX10_holds_35 (by decide) (fun hc => ?_) (fun hc => ?_)
    · have hf := (am_if hf).2 hc
      refine r_iload (x := u.1 (57, 0, 0) x5.toNatClampNeg) dX10_holds_67 rfl ?_
      refine r_if_ge (tgt := 151) dX10_holds_69 (by decide) (fun hc => ?_) (fun hc => ?_)
      · have hf := (am_if hf).1 hc
        refine r_aload_n (x := (40, 0, 0)) dX10_holds_151 rfl ?_
        refine r_iload (x := u.1 (57, 0, 0) x5.toNatClampNeg) dX10_holds_152 rfl ?_
        refine r_sipush (v := 1000) dX10_holds_154 rfl ?_
        refine r_idiv dX10_holds_157 (by decide) ?_
        refine r_iload_n (x := c2) dX10_holds_158 rfl ?_
        refine r_iload_n (x := c3) dX10_holds_159 rfl ?_
        obtain ⟨r4, hr5, hf⟩ := am_bind hf
        refine r_callV (as := [vI ((u.1 (57, 0, 0) x5.toNatClampNeg) / (1000 : Int32)), vI c2, vI c3]) (st := []) (n := 3) mw_X10_354 mv_X10_factOf (C_X10_factOf (l := l) hr5) (le_b rfl) dX10_holds_160 (kM_mem (s := 40) (by decide)) rfl rfl rfl (le_b rfl) (le_b rfl) (le_b rfl) ?_
        show X l _ _ 0 0 false _ kM 0 0 163 [some (vR (40, 0, 0)), some (vI c1), some (vI c2), some (vI c3), some (vI x4), some (vI x5), some (vI (u.1 (57, 0, 0) x5.toNatClampNeg)), none, none] [vI r4] (en u)
        refine r_istore (L' := [some (vR (40, 0, 0)), some (vI c1), some (vI c2), some (vI c3), some (vI x4), some (vI x5), some (vI (u.1 (57, 0, 0) x5.toNatClampNeg)), some (vI r4), none]) dX10_holds_163 (by decide) rfl ?_
        refine r_iload (x := u.1 (57, 0, 0) x5.toNatClampNeg) dX10_holds_165 rfl ?_
        refine r_bipush (v := 100) dX10_holds_167 rfl ?_
        refine r_idiv dX10_holds_169 (by decide) ?_
        refine r_bipush (v := 10) dX10_holds_170 rfl ?_
        refine r_irem dX10_holds_172 (by decide) ?_
        refine r_istore (L' := [some (vR (40, 0, 0)), some (vI c1), some (vI c2), some (vI c3), some (vI x4), some (vI x5), some (vI (u.1 (57, 0, 0) x5.toNatClampNeg)), some (vI r4), some (vI (((u.1 (57, 0, 0) x5.toNatClampNeg) / (100 : Int32)) - ((u.1 (57, 0, 0) x5.toNatClampNeg) / (100 : Int32)) / (10 : Int32) * (10 : Int32)))]) dX10_holds_173 (by decide) rfl ?_
        refine r_aload_n (x := (40, 0, 0)) dX10_holds_175 rfl ?_
        refine e_getr (z := some (69, 0, 0)) fw_X10_146 dX10_holds_176 (kM_mem (s := 40) (by decide)) rfl (lt_b rfl) rfl ?_
        refine r_iload (x := x4) dX10_holds_179 rfl ?_
        refine r_iload (x := ((u.1 (57, 0, 0) x5.toNatClampNeg) / (100 : Int32)) - ((u.1 (57, 0, 0) x5.toNatClampNeg) / (100 : Int32)) / (10 : Int32) * (10 : Int32)) dX10_holds_181 rfl ?_
        refine r_if_ne (tgt := 204) dX10_holds_183 (by decide) (fun hc => ?_) (fun hc => ?_)
        · have hf := (am_if hf).2 hc
          refine r_iload (x := ((u.1 (57, 0, 0) x5.toNatClampNeg) / (100 : Int32)) - ((u.1 (57, 0, 0) x5.toNatClampNeg) / (100 : Int32)) / (10 : Int32) * (10 : Int32)) dX10_holds_204 rfl ?_
          refine r_iconst (v := 1) dX10_holds_206 rfl ?_
          refine r_icmp_ne (tgt := 228) dX10_holds_207 (by decide) (fun hc => ?_) (fun hc => ?_)
          · have hf := (am_if hf).2 hc
            refine r_iload (x := r4) dX10_holds_228 rfl ?_
            refine r_iload (x := u.1 (57, 0, 0) x5.toNatClampNeg) dX10_holds_230 rfl ?_
            refine r_bipush (v := 100) dX10_holds_232 rfl ?_
            refine r_irem dX10_holds_234 (by decide) ?_
            refine r_icmp_le (tgt := 242) dX10_holds_235 (by decide) (fun hc => ?_) (fun hc => ?_)
            · have hf := (am_if hf).1 hc
              refine r_iconst (v := 0) dX10_holds_242 rfl ?_
              obtain ⟨h6, hf⟩ := am_nchk hf
              refine e_zast (n := x4.toNatClampNeg) dX10_holds_243 (kM_mem (s := 69) (by decide)) rfl h6 rfl (am_bool (x := 0) (by decide)).1 ?_
              refine r_iinc (x := x4) (v := x4 + (1 : Int32)) (L' := [some (vR (40, 0, 0)), some (vI c1), some (vI c2), some (vI c3), some (vI (x4 + (1 : Int32))), some (vI x5), some (vI (u.1 (57, 0, 0) x5.toNatClampNeg)), some (vI r4), some (vI (((u.1 (57, 0, 0) x5.toNatClampNeg) / (100 : Int32)) - ((u.1 (57, 0, 0) x5.toNatClampNeg) / (100 : Int32)) / (10 : Int32) * (10 : Int32)))]) dX10_holds_244 rfl rfl (lt_b rfl) rfl ?_
              refine r_iinc (x := x5) (v := x5 + (1 : Int32)) (L' := [some (vR (40, 0, 0)), some (vI c1), some (vI c2), some (vI c3), some (vI (x4 + (1 : Int32))), some (vI (x5 + (1 : Int32))), some (vI (u.1 (57, 0, 0) x5.toNatClampNeg)), some (vI r4), some (vI (((u.1 (57, 0, 0) x5.toNatClampNeg) / (100 : Int32)) - ((u.1 (57, 0, 0) x5.toNatClampNeg) / (100 : Int32)) / (10 : Int32) * (10 : Int32)))]) dX10_holds_247 rfl rfl (lt_b rfl) rfl ?_
              refine r_goto (tgt := 11) dX10_holds_250 (by decide) ?_
              refine r_weak (L' := [some (vR (40, 0, 0)), some (vI c1), some (vI c2), some (vI c3), some (vI (x4 + (1 : Int32))), some (vI (x5 + (1 : Int32))), none, none, none]) (And.intro rfl (And.intro rfl (And.intro rfl (And.intro rfl (And.intro rfl (And.intro rfl trivial)))))) ?_
              exact k1 (x4 + (1 : Int32), x5 + (1 : Int32), (pi u (69, 0, 0) x4.toNatClampNeg (0 : Int32))) (am_inj hf).symm
            · have hf := (am_if hf).2 hc
              refine r_iconst (v := 1) dX10_holds_238 rfl ?_
              refine r_goto (tgt := 243) dX10_holds_239 (by decide) ?_
              obtain ⟨h7, hf⟩ := am_nchk hf
              refine e_zast (n := x4.toNatClampNeg) dX10_holds_243 (kM_mem (s := 69) (by decide)) rfl h7 rfl (am_bool (x := 1) (by decide)).1 ?_
              refine r_iinc (x := x4) (v := x4 + (1 : Int32)) (L' := [some (vR (40, 0, 0)), some (vI c1), some (vI c2), some (vI c3), some (vI (x4 + (1 : Int32))), some (vI x5), some (vI (u.1 (57, 0, 0) x5.toNatClampNeg)), some (vI r4), some (vI (((u.1 (57, 0, 0) x5.toNatClampNeg) / (100 : Int32)) - ((u.1 (57, 0, 0) x5.toNatClampNeg) / (100 : Int32)) / (10 : Int32) * (10 : Int32)))]) dX10_holds_244 rfl rfl (lt_b rfl) rfl ?_
              refine r_iinc (x := x5) (v := x5 + (1 : Int32)) (L' := [some (vR (40, 0, 0)), some (vI c1), some (vI c2), some (vI c3), some (vI (x4 + (1 : Int32))), some (vI (x5 + (1 : Int32))), some (vI (u.1 (57, 0, 0) x5.toNatClampNeg)), some (vI r4), some (vI (((u.1 (57, 0, 0) x5.toNatClampNeg) / (100 : Int32)) - ((u.1 (57, 0, 0) x5.toNatClampNeg) / (100 : Int32)) / (10 : Int32) * (10 : Int32)))]) dX10_holds_247 rfl rfl (lt_b rfl) rfl ?_
              refine r_goto (tgt := 11) dX10_holds_250 (by decide) ?_
              refine r_weak (L' := [some (vR (40, 0, 0)), some (vI c1), some (vI c2), some (vI c3), some (vI (x4 + (1 : Int32))), some (vI (x5 + (1 : Int32))), none, none, none]) (And.intro rfl (And.intro rfl (And.intro rfl (And.intro rfl (And.intro rfl (And.intro rfl trivial)))))) ?_
              exact k1 (x4 + (1 : Int32), x5 + (1 : Int32), (pi u (69, 0, 0) x4.toNatClampNeg (1 : Int32))) (am_inj hf).symm
          · have hf := (am_if hf).1 hc
            refine r_iload (x := r4) dX10_holds_210 rfl ?_
            refine r_iload (x := u.1 (57, 0, 0) x5.toNatClampNeg) dX10_holds_212 rfl ?_
            refine r_bipush (v := 100) dX10_holds_214 rfl ?_
            refine r_irem dX10_holds_216 (by decide) ?_
            refine r_icmp_ne (tgt := 224) dX10_holds_217 (by decide) (fun hc => ?_) (fun hc => ?_)
            · have hf := (am_if hf).2 hc
              refine r_iconst (v := 0) dX10_holds_224 rfl ?_
              refine r_goto (tgt := 243) dX10_holds_225 (by decide) ?_
              obtain ⟨h8, hf⟩ := am_nchk hf
              refine e_zast (n := x4.toNatClampNeg) dX10_holds_243 (kM_mem (s := 69) (by decide)) rfl h8 rfl (am_bool (x := 0) (by decide)).1 ?_
              refine r_iinc (x := x4) (v := x4 + (1 : Int32)) (L' := [some (vR (40, 0, 0)), some (vI c1), some (vI c2), some (vI c3), some (vI (x4 + (1 : Int32))), some (vI x5), some (vI (u.1 (57, 0, 0) x5.toNatClampNeg)), some (vI r4), some (vI (((u.1 (57, 0, 0) x5.toNatClampNeg) / (100 : Int32)) - ((u.1 (57, 0, 0) x5.toNatClampNeg) / (100 : Int32)) / (10 : Int32) * (10 : Int32)))]) dX10_holds_244 rfl rfl (lt_b rfl) rfl ?_
              refine r_iinc (x := x5) (v := x5 + (1 : Int32)) (L' := [some (vR (40, 0, 0)), some (vI c1), some (vI c2), some (vI c3), some (vI (x4 + (1 : Int32))), some (vI (x5 + (1 : Int32))), some (vI (u.1 (57, 0, 0) x5.toNatClampNeg)), some (vI r4), some (vI (((u.1 (57, 0, 0) x5.toNatClampNeg) / (100 : Int32)) - ((u.1 (57, 0, 0) x5.toNatClampNeg) / (100 : Int32)) / (10 : Int32) * (10 : Int32)))]) dX10_holds_247 rfl rfl (lt_b rfl) rfl ?_
              refine r_goto (tgt := 11) dX10_holds_250 (by decide) ?_
              refine r_weak (L' := [some (vR (40, 0, 0)), some (vI c1), some (vI c2), some (vI c3), some (vI (x4 + (1 : Int32))), some (vI (x5 + (1 : Int32))), none, none, none]) (And.intro rfl (And.intro rfl (And.intro rfl (And.intro rfl (And.intro rfl (And.intro rfl trivial)))))) ?_
              exact k1 (x4 + (1 : Int32), x5 + (1 : Int32), (pi u (69, 0, 0) x4.toNatClampNeg (0 : Int32))) (am_inj hf).symm
            · have hf := (am_if hf).1 hc
              refine r_iconst (v := 1) dX10_holds_220 rfl ?_
              refine r_goto (tgt := 243) dX10_holds_221 (by decide) ?_
              obtain ⟨h9, hf⟩ := am_nchk hf
              refine e_zast (n := x4.toNatClampNeg) dX10_holds_243 (kM_mem (s := 69) (by decide)) rfl h9 rfl (am_bool (x := 1) (by decide)).1 ?_
              refine r_iinc (x := x4) (v := x4 + (1 : Int32)) (L' := [some (vR (40, 0, 0)), some (vI c1), some (vI c2), some (vI c3), some (vI (x4 + (1 : Int32))), some (vI x5), some (vI (u.1 (57, 0, 0) x5.toNatClampNeg)), some (vI r4), some (vI (((u.1 (57, 0, 0) x5.toNatClampNeg) / (100 : Int32)) - ((u.1 (57, 0, 0) x5.toNatClampNeg) / (100 : Int32)) / (10 : Int32) * (10 : Int32)))]) dX10_holds_244 rfl rfl (lt_b rfl) rfl ?_
              refine r_iinc (x := x5) (v := x5 + (1 : Int32)) (L' := [some (vR (40, 0, 0)), some (vI c1), some (vI c2), some (vI c3), some (vI (x4 + (1 : Int32))), some (vI (x5 + (1 : Int32))), some (vI (u.1 (57, 0, 0) x5.toNatClampNeg)), some (vI r4), some (vI (((u.1 (57, 0, 0) x5.toNatClampNeg) / (100 : Int32)) - ((u.1 (57, 0, 0) x5.toNatClampNeg) / (100 : Int32)) / (10 : Int32) * (10 : Int32)))]) dX10_holds_247 rfl rfl (lt_b rfl) rfl ?_
              refine r_goto (tgt := 11) dX10_holds_250 (by decide) ?_
              refine r_weak (L' := [some (vR (40, 0, 0)), some (vI c1), some (vI c2), some (vI c3), some (vI (x4 + (1 : Int32))), some (vI (x5 + (1 : Int32))), none, none, none]) (And.intro rfl (And.intro rfl (And.intro rfl (And.intro rfl (And.intro rfl (And.intro rfl trivial)))))) ?_
              exact k1 (x4 + (1 : Int32), x5 + (1 : Int32), (pi u (69, 0, 0) x4.toNatClampNeg (1 : Int32))) (am_inj hf).symm
        · have hf := (am_if hf).1 hc
          refine r_iload (x := r4) dX10_holds_186 rfl ?_
          refine r_iload (x := u.1 (57, 0, 0) x5.toNatClampNeg) dX10_holds_188 rfl ?_
          refine r_bipush (v := 100) dX10_holds_190 rfl ?_
          refine r_irem dX10_holds_192 (by decide) ?_
          refine r_icmp_ge (tgt := 200) dX10_holds_193 (by decide) (fun hc => ?_) (fun hc => ?_)
          · have hf := (am_if hf).1 hc
            refine r_iconst (v := 0) dX10_holds_200 rfl ?_
            refine r_goto (tgt := 243) dX10_holds_201 (by decide) ?_
            obtain ⟨h10, hf⟩ := am_nchk hf
            refine e_zast (n := x4.toNatClampNeg) dX10_holds_243 (kM_mem (s := 69) (by decide)) rfl h10 rfl (am_bool (x := 0) (by decide)).1 ?_
            refine r_iinc (x := x4) (v := x4 + (1 : Int32)) (L' := [some (vR (40, 0, 0)), some (vI c1), some (vI c2), some (vI c3), some (vI (x4 + (1 : Int32))), some (vI x5), some (vI (u.1 (57, 0, 0) x5.toNatClampNeg)), some (vI r4), some (vI (((u.1 (57, 0, 0) x5.toNatClampNeg) / (100 : Int32)) - ((u.1 (57, 0, 0) x5.toNatClampNeg) / (100 : Int32)) / (10 : Int32) * (10 : Int32)))]) dX10_holds_244 rfl rfl (lt_b rfl) rfl ?_
            refine r_iinc (x := x5) (v := x5 + (1 : Int32)) (L' := [some (vR (40, 0, 0)), some (vI c1), some (vI c2), some (vI c3), some (vI (x4 + (1 : Int32))), some (vI (x5 + (1 : Int32))), some (vI (u.1 (57, 0, 0) x5.toNatClampNeg)), some (vI r4), some (vI (((u.1 (57, 0, 0) x5.toNatClampNeg) / (100 : Int32)) - ((u.1 (57, 0, 0) x5.toNatClampNeg) / (100 : Int32)) / (10 : Int32) * (10 : Int32)))]) dX10_holds_247 rfl rfl (lt_b rfl) rfl ?_
            refine r_goto (tgt := 11) dX10_holds_250 (by decide) ?_
            refine r_weak (L' := [some (vR (40, 0, 0)), some (vI c1), some (vI c2), some (vI c3), some (vI (x4 + (1 : Int32))), some (vI (x5 + (1 : Int32))), none, none, none]) (And.intro rfl (And.intro rfl (And.intro rfl (And.intro rfl (And.intro rfl (And.intro rfl trivial)))))) ?_
            exact k1 (x4 + (1 : Int32), x5 + (1 : Int32), (pi u (69, 0, 0) x4.toNatClampNeg (0 : Int32))) (am_inj hf).symm
          · have hf := (am_if hf).2 hc
            refine r_iconst (v := 1) dX10_holds_196 rfl ?_
            refine r_goto (tgt := 243) dX10_holds_197 (by decide) ?_
            obtain ⟨h11, hf⟩ := am_nchk hf
            refine e_zast (n := x4.toNatClampNeg) dX10_holds_243 (kM_mem (s := 69) (by decide)) rfl h11 rfl (am_bool (x := 1) (by decide)).1 ?_
            refine r_iinc (x := x4) (v := x4 + (1 : Int32)) (L' := [some (vR (40, 0, 0)), some (vI c1), some (vI c2), some (vI c3), some (vI (x4 + (1 : Int32))), some (vI x5), some (vI (u.1 (57, 0, 0) x5.toNatClampNeg)), some (vI r4), some (vI (((u.1 (57, 0, 0) x5.toNatClampNeg) / (100 : Int32)) - ((u.1 (57, 0, 0) x5.toNatClampNeg) / (100 : Int32)) / (10 : Int32) * (10 : Int32)))]) dX10_holds_244 rfl rfl (lt_b rfl) rfl ?_
            refine r_iinc (x := x5) (v := x5 + (1 : Int32)) (L' := [some (vR (40, 0, 0)), some (vI c1), some (vI c2), some (vI c3), some (vI (x4 + (1 : Int32))), some (vI (x5 + (1 : Int32))), some (vI (u.1 (57, 0, 0) x5.toNatClampNeg)), some (vI r4), some (vI (((u.1 (57, 0, 0) x5.toNatClampNeg) / (100 : Int32)) - ((u.1 (57, 0, 0) x5.toNatClampNeg) / (100 : Int32)) / (10 : Int32) * (10 : Int32)))]) dX10_holds_247 rfl rfl (lt_b rfl) rfl ?_
            refine r_goto (tgt := 11) dX10_holds_250 (by decide) ?_
            refine r_weak (L' := [some (vR (40, 0, 0)), some (vI c1), some (vI c2), some (vI c3), some (vI (x4 + (1 : Int32))), some (vI (x5 + (1 : Int32))), none, none, none]) (And.intro rfl (And.intro rfl (And.intro rfl (And.intro rfl (And.intro rfl (And.intro rfl trivial)))))) ?_
            exact k1 (x4 + (1 : Int32), x5 + (1 : Int32), (pi u (69, 0, 0) x4.toNatClampNeg (1 : Int32))) (am_inj hf).symm
      · have hf := (am_if hf).2 hc
        refine r_iinc (x := x4) (v := x4 + (-1 : Int32)) (L' := [some (vR (40, 0, 0)), some (vI c1), some (vI c2), some (vI c3), some (vI (x4 + (-1 : Int32))), some (vI x5), some (vI (u.1 (57, 0, 0) x5.toNatClampNeg)), none, none]) dX10_holds_72 rfl rfl (lt_b rfl) rfl ?_
        refine r_aload_n (x := (40, 0, 0)) dX10_holds_75 rfl ?_
        refine e_getr (z := some (69, 0, 0)) fw_X10_146 dX10_holds_76 (kM_mem (s := 40) (by decide)) rfl (lt_b rfl) rfl ?_
        refine r_iload (x := x4 + (-1 : Int32)) dX10_holds_79 rfl ?_
        refine r_iconst (v := 1) dX10_holds_81 rfl ?_
        refine r_isub dX10_holds_82 ?_
        refine r_iload (x := u.1 (57, 0, 0) x5.toNatClampNeg) dX10_holds_83 rfl ?_
        refine r_bipush (v := -38) dX10_holds_85 rfl ?_
        refine r_icmp_ne (tgt := 120) dX10_holds_87 (by decide) (fun hc => ?_) (fun hc => ?_)
        · have hf := (am_if hf).2 hc
          refine r_aload_n (x := (40, 0, 0)) dX10_holds_120 rfl ?_
          refine e_getr (z := some (69, 0, 0)) fw_X10_146 dX10_holds_121 (kM_mem (s := 40) (by decide)) rfl (lt_b rfl) rfl ?_
          refine r_iload (x := x4 + (-1 : Int32)) dX10_holds_124 rfl ?_
          refine r_iconst (v := 1) dX10_holds_126 rfl ?_
          refine r_isub dX10_holds_127 ?_
          obtain ⟨h12, hf⟩ := am_nchk hf
          refine e_zald (n := ((x4 + (-1 : Int32)) - (1 : Int32)).toNatClampNeg) dX10_holds_128 (kM_mem (s := 69) (by decide)) rfl h12 rfl rfl ?_
          refine r_if_ne (tgt := 142) dX10_holds_129 (by decide) (fun hc => ?_) (fun hc => ?_)
          · have hf := (am_if hf).2 hc
            refine r_iconst (v := 1) dX10_holds_142 rfl ?_
            refine r_goto (tgt := 147) dX10_holds_143 (by decide) ?_
            refine e_zast (n := ((x4 + (-1 : Int32)) - (1 : Int32)).toNatClampNeg) dX10_holds_147 (kM_mem (s := 69) (by decide)) rfl h12 rfl (am_bool (x := 1) (by decide)).1 ?_
            refine r_goto (tgt := 247) dX10_holds_148 (by decide) ?_
            refine r_iinc (x := x5) (v := x5 + (1 : Int32)) (L' := [some (vR (40, 0, 0)), some (vI c1), some (vI c2), some (vI c3), some (vI (x4 + (-1 : Int32))), some (vI (x5 + (1 : Int32))), some (vI (u.1 (57, 0, 0) x5.toNatClampNeg)), none, none]) dX10_holds_247 rfl rfl (lt_b rfl) rfl ?_
            refine r_goto (tgt := 11) dX10_holds_250 (by decide) ?_
            refine r_weak (L' := [some (vR (40, 0, 0)), some (vI c1), some (vI c2), some (vI c3), some (vI (x4 + (-1 : Int32))), some (vI (x5 + (1 : Int32))), none, none, none]) (And.intro rfl (And.intro rfl (And.intro rfl (And.intro rfl (And.intro rfl (And.intro rfl trivial)))))) ?_
            exact k1 (x4 + (-1 : Int32), x5 + (1 : Int32), (pi u (69, 0, 0) (((x4 + (-1 : Int32)) - (1 : Int32)).toNatClampNeg) (1 : Int32))) (am_inj hf).symm
          · have hf := (am_if hf).1 hc
            refine r_aload_n (x := (40, 0, 0)) dX10_holds_132 rfl ?_
            refine e_getr (z := some (69, 0, 0)) fw_X10_146 dX10_holds_133 (kM_mem (s := 40) (by decide)) rfl (lt_b rfl) rfl ?_
            refine r_iload (x := x4 + (-1 : Int32)) dX10_holds_136 rfl ?_
            obtain ⟨h13, hf⟩ := am_nchk hf
            refine e_zald (n := (x4 + (-1 : Int32)).toNatClampNeg) dX10_holds_138 (kM_mem (s := 69) (by decide)) rfl h13 rfl rfl ?_
            refine r_if_eq (tgt := 146) dX10_holds_139 (by decide) (fun hc => ?_) (fun hc => ?_)
            · have hf := (am_if hf).1 hc
              refine r_iconst (v := 0) dX10_holds_146 rfl ?_
              refine e_zast (n := ((x4 + (-1 : Int32)) - (1 : Int32)).toNatClampNeg) dX10_holds_147 (kM_mem (s := 69) (by decide)) rfl h12 rfl (am_bool (x := 0) (by decide)).1 ?_
              refine r_goto (tgt := 247) dX10_holds_148 (by decide) ?_
              refine r_iinc (x := x5) (v := x5 + (1 : Int32)) (L' := [some (vR (40, 0, 0)), some (vI c1), some (vI c2), some (vI c3), some (vI (x4 + (-1 : Int32))), some (vI (x5 + (1 : Int32))), some (vI (u.1 (57, 0, 0) x5.toNatClampNeg)), none, none]) dX10_holds_247 rfl rfl (lt_b rfl) rfl ?_
              refine r_goto (tgt := 11) dX10_holds_250 (by decide) ?_
              refine r_weak (L' := [some (vR (40, 0, 0)), some (vI c1), some (vI c2), some (vI c3), some (vI (x4 + (-1 : Int32))), some (vI (x5 + (1 : Int32))), none, none, none]) (And.intro rfl (And.intro rfl (And.intro rfl (And.intro rfl (And.intro rfl (And.intro rfl trivial)))))) ?_
              exact k1 (x4 + (-1 : Int32), x5 + (1 : Int32), (pi u (69, 0, 0) (((x4 + (-1 : Int32)) - (1 : Int32)).toNatClampNeg) (0 : Int32))) (am_inj hf).symm
            · have hf := (am_if hf).2 hc
              refine r_iconst (v := 1) dX10_holds_142 rfl ?_
              refine r_goto (tgt := 147) dX10_holds_143 (by decide) ?_
              refine e_zast (n := ((x4 + (-1 : Int32)) - (1 : Int32)).toNatClampNeg) dX10_holds_147 (kM_mem (s := 69) (by decide)) rfl h12 rfl (am_bool (x := 1) (by decide)).1 ?_
              refine r_goto (tgt := 247) dX10_holds_148 (by decide) ?_
              refine r_iinc (x := x5) (v := x5 + (1 : Int32)) (L' := [some (vR (40, 0, 0)), some (vI c1), some (vI c2), some (vI c3), some (vI (x4 + (-1 : Int32))), some (vI (x5 + (1 : Int32))), some (vI (u.1 (57, 0, 0) x5.toNatClampNeg)), none, none]) dX10_holds_247 rfl rfl (lt_b rfl) rfl ?_
              refine r_goto (tgt := 11) dX10_holds_250 (by decide) ?_
              refine r_weak (L' := [some (vR (40, 0, 0)), some (vI c1), some (vI c2), some (vI c3), some (vI (x4 + (-1 : Int32))), some (vI (x5 + (1 : Int32))), none, none, none]) (And.intro rfl (And.intro rfl (And.intro rfl (And.intro rfl (And.intro rfl (And.intro rfl trivial)))))) ?_
              exact k1 (x4 + (-1 : Int32), x5 + (1 : Int32), (pi u (69, 0, 0) (((x4 + (-1 : Int32)) - (1 : Int32)).toNatClampNeg) (1 : Int32))) (am_inj hf).symm
        · have hf := (am_if hf).1 hc
          refine r_aload_n (x := (40, 0, 0)) dX10_holds_90 rfl ?_
          refine e_getr (z := some (69, 0, 0)) fw_X10_146 dX10_holds_91 (kM_mem (s := 40) (by decide)) rfl (lt_b rfl) rfl ?_
          refine r_iload (x := x4 + (-1 : Int32)) dX10_holds_94 rfl ?_
          refine r_iconst (v := 1) dX10_holds_96 rfl ?_
          refine r_isub dX10_holds_97 ?_
          obtain ⟨h14, hf⟩ := am_nchk hf
          refine e_zald (n := ((x4 + (-1 : Int32)) - (1 : Int32)).toNatClampNeg) dX10_holds_98 (kM_mem (s := 69) (by decide)) rfl h14 rfl rfl ?_
          refine r_if_eq (tgt := 116) dX10_holds_99 (by decide) (fun hc => ?_) (fun hc => ?_)
          · have hf := (am_if hf).1 hc
            refine r_iconst (v := 0) dX10_holds_116 rfl ?_
            refine r_goto (tgt := 147) dX10_holds_117 (by decide) ?_
            refine e_zast (n := ((x4 + (-1 : Int32)) - (1 : Int32)).toNatClampNeg) dX10_holds_147 (kM_mem (s := 69) (by decide)) rfl h14 rfl (am_bool (x := 0) (by decide)).1 ?_
            refine r_goto (tgt := 247) dX10_holds_148 (by decide) ?_
            refine r_iinc (x := x5) (v := x5 + (1 : Int32)) (L' := [some (vR (40, 0, 0)), some (vI c1), some (vI c2), some (vI c3), some (vI (x4 + (-1 : Int32))), some (vI (x5 + (1 : Int32))), some (vI (u.1 (57, 0, 0) x5.toNatClampNeg)), none, none]) dX10_holds_247 rfl rfl (lt_b rfl) rfl ?_
            refine r_goto (tgt := 11) dX10_holds_250 (by decide) ?_
            refine r_weak (L' := [some (vR (40, 0, 0)), some (vI c1), some (vI c2), some (vI c3), some (vI (x4 + (-1 : Int32))), some (vI (x5 + (1 : Int32))), none, none, none]) (And.intro rfl (And.intro rfl (And.intro rfl (And.intro rfl (And.intro rfl (And.intro rfl trivial)))))) ?_
            exact k1 (x4 + (-1 : Int32), x5 + (1 : Int32), (pi u (69, 0, 0) (((x4 + (-1 : Int32)) - (1 : Int32)).toNatClampNeg) (0 : Int32))) (am_inj hf).symm
          · have hf := (am_if hf).2 hc
            refine r_aload_n (x := (40, 0, 0)) dX10_holds_102 rfl ?_
            refine e_getr (z := some (69, 0, 0)) fw_X10_146 dX10_holds_103 (kM_mem (s := 40) (by decide)) rfl (lt_b rfl) rfl ?_
            refine r_iload (x := x4 + (-1 : Int32)) dX10_holds_106 rfl ?_
            obtain ⟨h15, hf⟩ := am_nchk hf
            refine e_zald (n := (x4 + (-1 : Int32)).toNatClampNeg) dX10_holds_108 (kM_mem (s := 69) (by decide)) rfl h15 rfl rfl ?_
            refine r_if_eq (tgt := 116) dX10_holds_109 (by decide) (fun hc => ?_) (fun hc => ?_)
            · have hf := (am_if hf).1 hc
              refine r_iconst (v := 0) dX10_holds_116 rfl ?_
              refine r_goto (tgt := 147) dX10_holds_117 (by decide) ?_
              refine e_zast (n := ((x4 + (-1 : Int32)) - (1 : Int32)).toNatClampNeg) dX10_holds_147 (kM_mem (s := 69) (by decide)) rfl h14 rfl (am_bool (x := 0) (by decide)).1 ?_
              refine r_goto (tgt := 247) dX10_holds_148 (by decide) ?_
              refine r_iinc (x := x5) (v := x5 + (1 : Int32)) (L' := [some (vR (40, 0, 0)), some (vI c1), some (vI c2), some (vI c3), some (vI (x4 + (-1 : Int32))), some (vI (x5 + (1 : Int32))), some (vI (u.1 (57, 0, 0) x5.toNatClampNeg)), none, none]) dX10_holds_247 rfl rfl (lt_b rfl) rfl ?_
              refine r_goto (tgt := 11) dX10_holds_250 (by decide) ?_
              refine r_weak (L' := [some (vR (40, 0, 0)), some (vI c1), some (vI c2), some (vI c3), some (vI (x4 + (-1 : Int32))), some (vI (x5 + (1 : Int32))), none, none, none]) (And.intro rfl (And.intro rfl (And.intro rfl (And.intro rfl (And.intro rfl (And.intro rfl trivial)))))) ?_
              exact k1 (x4 + (-1 : Int32), x5 + (1 : Int32), (pi u (69, 0, 0) (((x4 + (-1 : Int32)) - (1 : Int32)).toNatClampNeg) (0 : Int32))) (am_inj hf).symm
            · have hf := (am_if hf).2 hc
              refine r_iconst (v := 1) dX10_holds_112 rfl ?_
              refine r_goto (tgt := 147) dX10_holds_113 (by decide) ?_
              refine e_zast (n := ((x4 + (-1 : Int32)) - (1 : Int32)).toNatClampNeg) dX10_holds_147 (kM_mem (s := 69) (by decide)) rfl h14 rfl (am_bool (x := 1) (by decide)).1 ?_
              refine r_goto (tgt := 247) dX10_holds_148 (by decide) ?_
              refine r_iinc (x := x5) (v := x5 + (1 : Int32)) (L' := [some (vR (40, 0, 0)), some (vI c1), some (vI c2), some (vI c3), some (vI (x4 + (-1 : Int32))), some (vI (x5 + (1 : Int32))), some (vI (u.1 (57, 0, 0) x5.toNatClampNeg)), none, none]) dX10_holds_247 rfl rfl (lt_b rfl) rfl ?_
              refine r_goto (tgt := 11) dX10_holds_250 (by decide) ?_
              refine r_weak (L' := [some (vR (40, 0, 0)), some (vI c1), some (vI c2), some (vI c3), some (vI (x4 + (-1 : Int32))), some (vI (x5 + (1 : Int32))), none, none, none]) (And.intro rfl (And.intro rfl (And.intro rfl (And.intro rfl (And.intro rfl (And.intro rfl trivial)))))) ?_
              exact k1 (x4 + (-1 : Int32), x5 + (1 : Int32), (pi u (69, 0, 0) (((x4 + (-1 : Int32)) - (1 : Int32)).toNatClampNeg) (1 : Int32))) (am_inj hf).symm
    · have hf := (am_if hf).1 hc
      refine r_aload_n (x := (40, 0, 0)) dX10_holds_38 rfl ?_
      refine e_getr (z := some (69, 0, 0)) fw_X10_146 dX10_holds_39 (kM_mem (s := 40) (by decide)) rfl (lt_b rfl) rfl ?_
      refine r_iload (x := x4) dX10_holds_42 rfl ?_
      refine r_iconst (v := 1) dX10_holds_44 rfl ?_
      refine r_isub dX10_holds_45 ?_
      refine r_aload_n (x := (40, 0, 0)) dX10_holds_46 rfl ?_
      refine e_getr (z := some (69, 0, 0)) fw_X10_146 dX10_holds_47 (kM_mem (s := 40) (by decide)) rfl (lt_b rfl) rfl ?_
      refine r_iload (x := x4) dX10_holds_50 rfl ?_
      refine r_iconst (v := 1) dX10_holds_52 rfl ?_
      refine r_isub dX10_holds_53 ?_
      obtain ⟨h16, hf⟩ := am_nchk hf
      refine e_zald (n := (x4 - (1 : Int32)).toNatClampNeg) dX10_holds_54 (kM_mem (s := 69) (by decide)) rfl h16 rfl rfl ?_
      refine r_if_ne (tgt := 62) dX10_holds_55 (by decide) (fun hc => ?_) (fun hc => ?_)
      · have hf := (am_if hf).2 hc
        refine r_iconst (v := 0) dX10_holds_62 rfl ?_
        refine e_zast (n := (x4 - (1 : Int32)).toNatClampNeg) dX10_holds_63 (kM_mem (s := 69) (by decide)) rfl h16 rfl (am_bool (x := 0) (by decide)).1 ?_
        refine r_goto (tgt := 247) dX10_holds_64 (by decide) ?_
        refine r_iinc (x := x5) (v := x5 + (1 : Int32)) (L' := [some (vR (40, 0, 0)), some (vI c1), some (vI c2), some (vI c3), some (vI x4), some (vI (x5 + (1 : Int32))), some (vI (u.1 (57, 0, 0) x5.toNatClampNeg)), none, none]) dX10_holds_247 rfl rfl (lt_b rfl) rfl ?_
        refine r_goto (tgt := 11) dX10_holds_250 (by decide) ?_
        refine r_weak (L' := [some (vR (40, 0, 0)), some (vI c1), some (vI c2), some (vI c3), some (vI x4), some (vI (x5 + (1 : Int32))), none, none, none]) (And.intro rfl (And.intro rfl (And.intro rfl (And.intro rfl (And.intro rfl (And.intro rfl trivial)))))) ?_
        exact k1 (x4, x5 + (1 : Int32), (pi u (69, 0, 0) ((x4 - (1 : Int32)).toNatClampNeg) (0 : Int32))) (am_inj hf).symm
      · have hf := (am_if hf).1 hc
        refine r_iconst (v := 1) dX10_holds_58 rfl ?_
        refine r_goto (tgt := 63) dX10_holds_59 (by decide) ?_
        refine e_zast (n := (x4 - (1 : Int32)).toNatClampNeg) dX10_holds_63 (kM_mem (s := 69) (by decide)) rfl h16 rfl (am_bool (x := 1) (by decide)).1 ?_
        refine r_goto (tgt := 247) dX10_holds_64 (by decide) ?_
        refine r_iinc (x := x5) (v := x5 + (1 : Int32)) (L' := [some (vR (40, 0, 0)), some (vI c1), some (vI c2), some (vI c3), some (vI x4), some (vI (x5 + (1 : Int32))), some (vI (u.1 (57, 0, 0) x5.toNatClampNeg)), none, none]) dX10_holds_247 rfl rfl (lt_b rfl) rfl ?_
        refine r_goto (tgt := 11) dX10_holds_250 (by decide) ?_
        refine r_weak (L' := [some (vR (40, 0, 0)), some (vI c1), some (vI c2), some (vI c3), some (vI x4), some (vI (x5 + (1 : Int32))), none, none, none]) (And.intro rfl (And.intro rfl (And.intro rfl (And.intro rfl (And.intro rfl (And.intro rfl trivial)))))) ?_
        exact k1 (x4, x5 + (1 : Int32), (pi u (69, 0, 0) ((x4 - (1 : Int32)).toNatClampNeg) (1 : Int32))) (am_inj hf).symm
def f_X10_holds  (a0 : Int32) (a1 : Int32) (a2 : Int32) (u : PM) : Option (Int32 × PM) :=
  if a0 < 0 ∨ 50 ≤ a0.toNatClampNeg then none else
  (am_loop (f_X10_holds_L11 a0 a1 a2) 2000 ((0 : Int32), u.1 (55, 0, 0) a0.toNatClampNeg, u)).bind fun u19 =>
  if (u19.1 (69, 0, 0) 0) = 0 ∨ (u19.1 (69, 0, 0) 0) = 1 then
    some (u19.1 (69, 0, 0) 0, u19)
  else none
set_option maxHeartbeats 4000000 in
set_option maxRecDepth 20000 in
theorem C_X10_holds {l : Launch}  {a0 : Int32} {a1 : Int32} {a2 : Int32} {u : PM} {x : Int32 × PM} (hf : f_X10_holds a0 a1 a2 u = some x) : Ev l mX10_holds 3 0 0 false [vR (40, 0, 0), vI a0, vI a1, vI a2] kM (en u) (some (vI x.1), kM, en x.2) := by
  refine Ev_of (by decide +kernel) (le_b rfl) ?_
  unfold f_X10_holds at hf
  show X l mX10_holds 3 0 0 false _ kM 0 0 0 [some (vR (40, 0, 0)), some (vI a0), some (vI a1), some (vI a2), none, none, none, none, none] [] (en u)
  refine r_iconst (v := 0) dX10_holds_0 rfl ?_
  refine r_istore (L' := [some (vR (40, 0, 0)), some (vI a0), some (vI a1), some (vI a2), some (vI (0 : Int32)), none, none, none, none]) dX10_holds_1 (by decide) rfl ?_
  refine r_aload_n (x := (40, 0, 0)) dX10_holds_3 rfl ?_
  refine e_getr (z := some (55, 0, 0)) fw_X10_80 dX10_holds_4 (kM_mem (s := 40) (by decide)) rfl (lt_b rfl) rfl ?_
  refine r_iload_n (x := a0) dX10_holds_7 rfl ?_
  obtain ⟨h1, hf⟩ := am_nchk hf
  refine e_iald (n := a0.toNatClampNeg) dX10_holds_8 (kM_mem (s := 55) (by decide)) rfl h1 rfl rfl ?_
  refine r_istore (L' := [some (vR (40, 0, 0)), some (vI a0), some (vI a1), some (vI a2), some (vI (0 : Int32)), some (vI (u.1 (55, 0, 0) a0.toNatClampNeg)), none, none, none]) dX10_holds_9 (by decide) rfl ?_
  refine r_weak (L' := [some (vR (40, 0, 0)), some (vI a0), some (vI a1), some (vI a2), some (vI (0 : Int32)), some (vI (u.1 (55, 0, 0) a0.toNatClampNeg)), none, none, none]) (And.intro rfl (And.intro rfl (And.intro rfl (And.intro rfl (And.intro rfl (And.intro rfl trivial)))))) ?_
  obtain ⟨e17, he18, hf⟩ := am_bind hf
  refine K_X10_holds_L11  2000 ((0 : Int32), u.1 (55, 0, 0) a0.toNatClampNeg, u) _ he18 ?_
  obtain ⟨u19, rfl⟩ : ∃ z, z = e17 := ⟨_, rfl⟩
  show X l _ _ 0 0 false _ kM 0 0 253 [some (vR (40, 0, 0)), none, none, none, none, none, none, none, none] [] (en u19)
  refine r_aload_n (x := (40, 0, 0)) dX10_holds_253 rfl ?_
  refine e_getr (z := some (69, 0, 0)) fw_X10_146 dX10_holds_254 (kM_mem (s := 40) (by decide)) rfl (lt_b rfl) rfl ?_
  refine r_iconst (v := 0) dX10_holds_257 rfl ?_
  refine e_zald (n := 0) dX10_holds_258 (kM_mem (s := 69) (by decide)) rfl (vp_lit (i := 0) (n := 100) rfl) rfl rfl ?_
  obtain ⟨h20, hf⟩ := am_chk hf
  have hx := am_inj hf
  subst hx
  exact r_iret dX10_holds_259 rfl (am_bool h20).1 (le_b rfl) (le_b rfl)
/-! FireFromFireModel.sumOf -/
theorem dX10_sumOf_0 : decode cX10_sumOf 0 = .ok (.iconst 0, 1) := by decide +kernel
theorem dX10_sumOf_1 : decode cX10_sumOf 1 = .ok (.istore 4, 2) := by decide +kernel
theorem dX10_sumOf_3 : decode cX10_sumOf 3 = .ok (.aload_n 0, 1) := by decide +kernel
theorem dX10_sumOf_4 : decode cX10_sumOf 4 = .ok (.invokevirtual 332, 3) := by decide +kernel
theorem dX10_sumOf_7 : decode cX10_sumOf 7 = .ok (.istore 5, 2) := by decide +kernel
theorem dX10_sumOf_9 : decode cX10_sumOf 9 = .ok (.iload 5, 2) := by decide +kernel
theorem dX10_sumOf_11 : decode cX10_sumOf 11 = .ok (.aload_n 0, 1) := by decide +kernel
theorem dX10_sumOf_12 : decode cX10_sumOf 12 = .ok (.invokevirtual 335, 3) := by decide +kernel
theorem dX10_sumOf_15 : decode cX10_sumOf 15 = .ok (.if_icmp .ge 47, 3) := by decide +kernel
theorem dX10_sumOf_18 : decode cX10_sumOf 18 = .ok (.iload 4, 2) := by decide +kernel
theorem dX10_sumOf_20 : decode cX10_sumOf 20 = .ok (.aload_n 0, 1) := by decide +kernel
theorem dX10_sumOf_21 : decode cX10_sumOf 21 = .ok (.getfield 71, 3) := by decide +kernel
theorem dX10_sumOf_24 : decode cX10_sumOf 24 = .ok (.iload 5, 2) := by decide +kernel
theorem dX10_sumOf_26 : decode cX10_sumOf 26 = .ok (.iaload, 1) := by decide +kernel
theorem dX10_sumOf_27 : decode cX10_sumOf 27 = .ok (.iload_n 1, 1) := by decide +kernel
theorem dX10_sumOf_28 : decode cX10_sumOf 28 = .ok (.if_icmp .ne 24, 3) := by decide +kernel
theorem dX10_sumOf_31 : decode cX10_sumOf 31 = .ok (.aload_n 0, 1) := by decide +kernel
theorem dX10_sumOf_32 : decode cX10_sumOf 32 = .ok (.iload 5, 2) := by decide +kernel
theorem dX10_sumOf_34 : decode cX10_sumOf 34 = .ok (.iload_n 2, 1) := by decide +kernel
theorem dX10_sumOf_35 : decode cX10_sumOf 35 = .ok (.iload_n 3, 1) := by decide +kernel
theorem dX10_sumOf_36 : decode cX10_sumOf 36 = .ok (.invokevirtual 358, 3) := by decide +kernel
theorem dX10_sumOf_39 : decode cX10_sumOf 39 = .ok (.ifCond .eq 13, 3) := by decide +kernel
theorem dX10_sumOf_42 : decode cX10_sumOf 42 = .ok (.aload_n 0, 1) := by decide +kernel
theorem dX10_sumOf_43 : decode cX10_sumOf 43 = .ok (.getfield 77, 3) := by decide +kernel
theorem dX10_sumOf_46 : decode cX10_sumOf 46 = .ok (.iload 5, 2) := by decide +kernel
theorem dX10_sumOf_48 : decode cX10_sumOf 48 = .ok (.iaload, 1) := by decide +kernel
theorem dX10_sumOf_49 : decode cX10_sumOf 49 = .ok (.goto 4, 3) := by decide +kernel
theorem dX10_sumOf_52 : decode cX10_sumOf 52 = .ok (.iconst 0, 1) := by decide +kernel
theorem dX10_sumOf_53 : decode cX10_sumOf 53 = .ok (.iadd, 1) := by decide +kernel
theorem dX10_sumOf_54 : decode cX10_sumOf 54 = .ok (.istore 4, 2) := by decide +kernel
theorem dX10_sumOf_56 : decode cX10_sumOf 56 = .ok (.iinc 5 1, 3) := by decide +kernel
theorem dX10_sumOf_59 : decode cX10_sumOf 59 = .ok (.goto (-50), 3) := by decide +kernel
theorem dX10_sumOf_62 : decode cX10_sumOf 62 = .ok (.aload_n 0, 1) := by decide +kernel
theorem dX10_sumOf_63 : decode cX10_sumOf 63 = .ok (.iload 4, 2) := by decide +kernel
theorem dX10_sumOf_65 : decode cX10_sumOf 65 = .ok (.iload_n 1, 1) := by decide +kernel
theorem dX10_sumOf_66 : decode cX10_sumOf 66 = .ok (.ifCond .ne 8, 3) := by decide +kernel
theorem dX10_sumOf_69 : decode cX10_sumOf 69 = .ok (.bipush 100, 2) := by decide +kernel
theorem dX10_sumOf_71 : decode cX10_sumOf 71 = .ok (.goto 5, 3) := by decide +kernel
theorem dX10_sumOf_74 : decode cX10_sumOf 74 = .ok (.bipush 99, 2) := by decide +kernel
theorem dX10_sumOf_76 : decode cX10_sumOf 76 = .ok (.invokevirtual 338, 3) := by decide +kernel
theorem dX10_sumOf_79 : decode cX10_sumOf 79 = .ok (.ireturn, 1) := by decide +kernel
def f_X10_sumOf_L9  (c1 : Int32) (c2 : Int32) (c3 : Int32) : Int32 × Int32 × PM → Option ((Int32 × Int32 × PM) ⊕ (Int32 × PM)) := fun (x4 , x5 , u) =>
  (f_X10_behind u).bind fun r3 =>
  if r3 ≤ x5 then
    some (.inr (x4, u))
  else
  if x5 < 0 ∨ 50 ≤ x5.toNatClampNeg then none else
  if (u.1 (52, 0, 0) x5.toNatClampNeg) = c1 then
    (f_X10_holds x5 c2 c3 u).bind fun (r6, u8) =>
    if r6 = 0 then
      some (.inl (x4 + (0 : Int32), x5 + (1 : Int32), u8))
    else
    some (.inl (x4 + (u8.1 (54, 0, 0) x5.toNatClampNeg), x5 + (1 : Int32), u8))
  else
  some (.inl (x4 + (0 : Int32), x5 + (1 : Int32), u))
set_option maxHeartbeats 4000000 in
set_option maxRecDepth 20000 in
theorem K_X10_sumOf_L9 {l : Launch} {T : Option AV × List Key × AM}  {c1 : Int32} {c2 : Int32} {c3 : Int32} : ∀ (n : Nat) (s : Int32 × Int32 × PM) (e0 : Int32 × PM), am_loop (f_X10_sumOf_L9 c1 c2 c3) n s = some e0 → (fun e : Int32 × PM => X l mX10_sumOf 4 0 0 false T kM 0 0 62 [some (vR (40, 0, 0)), some (vI c1), none, none, some (vI e.1), none] [] (en e.2)) e0 → X l mX10_sumOf 4 0 0 false T kM 0 0 9 [some (vR (40, 0, 0)), some (vI c1), some (vI c2), some (vI c3), some (vI s.1), some (vI s.2.1)] [] (en s.2.2) := by
  refine am_loop_of ?_
  intro s x hf k1 k2
  obtain ⟨x4 , x5 , u⟩ := s
  unfold f_X10_sumOf_L9 at hf
  show X l mX10_sumOf 4 0 0 false T kM 0 0 9 [some (vR (40, 0, 0)), some (vI c1), some (vI c2), some (vI c3), some (vI x4), some (vI x5)] [] (en u)
  refine r_iload (x := x5) dX10_sumOf_9 rfl ?_
  refine r_aload_n (x := (40, 0, 0)) dX10_sumOf_11 rfl ?_
  obtain ⟨r3, hr4, hf⟩ := am_bind hf
  refine r_callV (as := []) (st := [vI x5]) (n := 0) mw_X10_335 mv_X10_behind (C_X10_behind (l := l) hr4) (le_b rfl) dX10_sumOf_12 (kM_mem (s := 40) (by decide)) rfl rfl rfl (le_b rfl) (le_b rfl) (le_b rfl) ?_
  show X l _ _ 0 0 false _ kM 0 0 15 [some (vR (40, 0, 0)), some (vI c1), some (vI c2), some (vI c3), some (vI x4), some (vI x5)] [vI r3, vI x5] (en u)
  refine r_icmp_ge (tgt := 62) dX10_sumOf_15 (by decide) (fun hc => ?_) (fun hc => ?_)
  · have hf := (am_if hf).1 hc
    refine r_weak (L' := [some (vR (40, 0, 0)), some (vI c1), none, none, some (vI x4), none]) (And.intro rfl (And.intro rfl (And.intro rfl trivial))) ?_
    exact k2 (x4, u) (am_inj hf).symm
  · have hf := (am_if hf).2 hc
    refine r_iload (x := x4) dX10_sumOf_18 rfl ?_
    refine r_aload_n (x := (40, 0, 0)) dX10_sumOf_20 rfl ?_
    refine e_getr (z := some (52, 0, 0)) fw_X10_71 dX10_sumOf_21 (kM_mem (s := 40) (by decide)) rfl (lt_b rfl) rfl ?_
    refine r_iload (x := x5) dX10_sumOf_24 rfl ?_
    obtain ⟨h5, hf⟩ := am_nchk hf
    refine e_iald (n := x5.toNatClampNeg) dX10_sumOf_26 (kM_mem (s := 52) (by decide)) rfl h5 rfl rfl ?_
    refine r_iload_n (x := c1) dX10_sumOf_27 rfl ?_
    refine r_icmp_ne (tgt := 52) dX10_sumOf_28 (by decide) (fun hc => ?_) (fun hc => ?_)
    · have hf := (am_if hf).2 hc
      refine r_iconst (v := 0) dX10_sumOf_52 rfl ?_
      refine r_iadd dX10_sumOf_53 ?_
      refine r_istore (L' := [some (vR (40, 0, 0)), some (vI c1), some (vI c2), some (vI c3), some (vI (x4 + (0 : Int32))), some (vI x5)]) dX10_sumOf_54 (by decide) rfl ?_
      refine r_iinc (x := x5) (v := x5 + (1 : Int32)) (L' := [some (vR (40, 0, 0)), some (vI c1), some (vI c2), some (vI c3), some (vI (x4 + (0 : Int32))), some (vI (x5 + (1 : Int32)))]) dX10_sumOf_56 rfl rfl (lt_b rfl) rfl ?_
      refine r_goto (tgt := 9) dX10_sumOf_59 (by decide) ?_
      refine r_weak (L' := [some (vR (40, 0, 0)), some (vI c1), some (vI c2), some (vI c3), some (vI (x4 + (0 : Int32))), some (vI (x5 + (1 : Int32)))]) (And.intro rfl (And.intro rfl (And.intro rfl (And.intro rfl (And.intro rfl (And.intro rfl trivial)))))) ?_
      exact k1 (x4 + (0 : Int32), x5 + (1 : Int32), u) (am_inj hf).symm
    · have hf := (am_if hf).1 hc
      refine r_aload_n (x := (40, 0, 0)) dX10_sumOf_31 rfl ?_
      refine r_iload (x := x5) dX10_sumOf_32 rfl ?_
      refine r_iload_n (x := c2) dX10_sumOf_34 rfl ?_
      refine r_iload_n (x := c3) dX10_sumOf_35 rfl ?_
      obtain ⟨⟨r6, u8⟩, hr7, hf⟩ := am_bind hf
      refine r_callV (as := [vI x5, vI c2, vI c3]) (st := [vI x4]) (n := 3) mw_X10_358 mv_X10_holds (C_X10_holds (l := l) hr7) (le_b rfl) dX10_sumOf_36 (kM_mem (s := 40) (by decide)) rfl rfl rfl (le_b rfl) (le_b rfl) (le_b rfl) ?_
      show X l _ _ 0 0 false _ kM 0 0 39 [some (vR (40, 0, 0)), some (vI c1), some (vI c2), some (vI c3), some (vI x4), some (vI x5)] [vI r6, vI x4] (en u8)
      refine r_if_eq (tgt := 52) dX10_sumOf_39 (by decide) (fun hc => ?_) (fun hc => ?_)
      · have hf := (am_if hf).1 hc
        refine r_iconst (v := 0) dX10_sumOf_52 rfl ?_
        refine r_iadd dX10_sumOf_53 ?_
        refine r_istore (L' := [some (vR (40, 0, 0)), some (vI c1), some (vI c2), some (vI c3), some (vI (x4 + (0 : Int32))), some (vI x5)]) dX10_sumOf_54 (by decide) rfl ?_
        refine r_iinc (x := x5) (v := x5 + (1 : Int32)) (L' := [some (vR (40, 0, 0)), some (vI c1), some (vI c2), some (vI c3), some (vI (x4 + (0 : Int32))), some (vI (x5 + (1 : Int32)))]) dX10_sumOf_56 rfl rfl (lt_b rfl) rfl ?_
        refine r_goto (tgt := 9) dX10_sumOf_59 (by decide) ?_
        refine r_weak (L' := [some (vR (40, 0, 0)), some (vI c1), some (vI c2), some (vI c3), some (vI (x4 + (0 : Int32))), some (vI (x5 + (1 : Int32)))]) (And.intro rfl (And.intro rfl (And.intro rfl (And.intro rfl (And.intro rfl (And.intro rfl trivial)))))) ?_
        exact k1 (x4 + (0 : Int32), x5 + (1 : Int32), u8) (am_inj hf).symm
      · have hf := (am_if hf).2 hc
        refine r_aload_n (x := (40, 0, 0)) dX10_sumOf_42 rfl ?_
        refine e_getr (z := some (54, 0, 0)) fw_X10_77 dX10_sumOf_43 (kM_mem (s := 40) (by decide)) rfl (lt_b rfl) rfl ?_
        refine r_iload (x := x5) dX10_sumOf_46 rfl ?_
        refine e_iald (n := x5.toNatClampNeg) dX10_sumOf_48 (kM_mem (s := 54) (by decide)) rfl h5 rfl rfl ?_
        refine r_goto (tgt := 53) dX10_sumOf_49 (by decide) ?_
        refine r_iadd dX10_sumOf_53 ?_
        refine r_istore (L' := [some (vR (40, 0, 0)), some (vI c1), some (vI c2), some (vI c3), some (vI (x4 + (u8.1 (54, 0, 0) x5.toNatClampNeg))), some (vI x5)]) dX10_sumOf_54 (by decide) rfl ?_
        refine r_iinc (x := x5) (v := x5 + (1 : Int32)) (L' := [some (vR (40, 0, 0)), some (vI c1), some (vI c2), some (vI c3), some (vI (x4 + (u8.1 (54, 0, 0) x5.toNatClampNeg))), some (vI (x5 + (1 : Int32)))]) dX10_sumOf_56 rfl rfl (lt_b rfl) rfl ?_
        refine r_goto (tgt := 9) dX10_sumOf_59 (by decide) ?_
        refine r_weak (L' := [some (vR (40, 0, 0)), some (vI c1), some (vI c2), some (vI c3), some (vI (x4 + (u8.1 (54, 0, 0) x5.toNatClampNeg))), some (vI (x5 + (1 : Int32)))]) (And.intro rfl (And.intro rfl (And.intro rfl (And.intro rfl (And.intro rfl (And.intro rfl trivial)))))) ?_
        exact k1 (x4 + (u8.1 (54, 0, 0) x5.toNatClampNeg), x5 + (1 : Int32), u8) (am_inj hf).symm
def f_X10_sumOf  (a0 : Int32) (a1 : Int32) (a2 : Int32) (u : PM) : Option (Int32 × PM) :=
  (f_X10_first u).bind fun r1 =>
  (am_loop (f_X10_sumOf_L9 a0 a1 a2) 2000 ((0 : Int32), r1, u)).bind fun (y11, u12) =>
  if a0 = 0 then
    (f_X10_min y11 (100 : Int32) u12).bind fun r15 =>
    some (r15, u12)
  else
  (f_X10_min y11 (99 : Int32) u12).bind fun r13 =>
  some (r13, u12)
set_option maxHeartbeats 4000000 in
set_option maxRecDepth 20000 in
theorem C_X10_sumOf {l : Launch}  {a0 : Int32} {a1 : Int32} {a2 : Int32} {u : PM} {x : Int32 × PM} (hf : f_X10_sumOf a0 a1 a2 u = some x) : Ev l mX10_sumOf 4 0 0 false [vR (40, 0, 0), vI a0, vI a1, vI a2] kM (en u) (some (vI x.1), kM, en x.2) := by
  refine Ev_of (by decide +kernel) (le_b rfl) ?_
  unfold f_X10_sumOf at hf
  show X l mX10_sumOf 4 0 0 false _ kM 0 0 0 [some (vR (40, 0, 0)), some (vI a0), some (vI a1), some (vI a2), none, none] [] (en u)
  refine r_iconst (v := 0) dX10_sumOf_0 rfl ?_
  refine r_istore (L' := [some (vR (40, 0, 0)), some (vI a0), some (vI a1), some (vI a2), some (vI (0 : Int32)), none]) dX10_sumOf_1 (by decide) rfl ?_
  refine r_aload_n (x := (40, 0, 0)) dX10_sumOf_3 rfl ?_
  obtain ⟨r1, hr2, hf⟩ := am_bind hf
  refine r_callV (as := []) (st := []) (n := 0) mw_X10_332 mv_X10_first (C_X10_first (l := l) hr2) (le_b rfl) dX10_sumOf_4 (kM_mem (s := 40) (by decide)) rfl rfl rfl (le_b rfl) (le_b rfl) (le_b rfl) ?_
  show X l _ _ 0 0 false _ kM 0 0 7 [some (vR (40, 0, 0)), some (vI a0), some (vI a1), some (vI a2), some (vI (0 : Int32)), none] [vI r1] (en u)
  refine r_istore (L' := [some (vR (40, 0, 0)), some (vI a0), some (vI a1), some (vI a2), some (vI (0 : Int32)), some (vI r1)]) dX10_sumOf_7 (by decide) rfl ?_
  refine r_weak (L' := [some (vR (40, 0, 0)), some (vI a0), some (vI a1), some (vI a2), some (vI (0 : Int32)), some (vI r1)]) (And.intro rfl (And.intro rfl (And.intro rfl (And.intro rfl (And.intro rfl (And.intro rfl trivial)))))) ?_
  obtain ⟨e9, he10, hf⟩ := am_bind hf
  refine K_X10_sumOf_L9  2000 ((0 : Int32), r1, u) _ he10 ?_
  obtain ⟨y11, u12⟩ := e9
  show X l _ _ 0 0 false _ kM 0 0 62 [some (vR (40, 0, 0)), some (vI a0), none, none, some (vI y11), none] [] (en u12)
  refine r_aload_n (x := (40, 0, 0)) dX10_sumOf_62 rfl ?_
  refine r_iload (x := y11) dX10_sumOf_63 rfl ?_
  refine r_iload_n (x := a0) dX10_sumOf_65 rfl ?_
  refine r_if_ne (tgt := 74) dX10_sumOf_66 (by decide) (fun hc => ?_) (fun hc => ?_)
  · have hf := (am_if hf).2 hc
    refine r_bipush (v := 99) dX10_sumOf_74 rfl ?_
    obtain ⟨r13, hr14, hf⟩ := am_bind hf
    refine r_callV (as := [vI y11, vI (99 : Int32)]) (st := []) (n := 2) mw_X10_338 mv_X10_min (C_X10_min (l := l) hr14) (le_b rfl) dX10_sumOf_76 (kM_mem (s := 40) (by decide)) rfl rfl rfl (le_b rfl) (le_b rfl) (le_b rfl) ?_
    show X l _ _ 0 0 false _ kM 0 0 79 [some (vR (40, 0, 0)), some (vI a0), none, none, some (vI y11), none] [vI r13] (en u12)
    have hx := am_inj hf
    subst hx
    exact r_iret dX10_sumOf_79 rfl rfl (le_b rfl) (le_b rfl)
  · have hf := (am_if hf).1 hc
    refine r_bipush (v := 100) dX10_sumOf_69 rfl ?_
    refine r_goto (tgt := 76) dX10_sumOf_71 (by decide) ?_
    obtain ⟨r15, hr16, hf⟩ := am_bind hf
    refine r_callV (as := [vI y11, vI (100 : Int32)]) (st := []) (n := 2) mw_X10_338 mv_X10_min (C_X10_min (l := l) hr16) (le_b rfl) dX10_sumOf_76 (kM_mem (s := 40) (by decide)) rfl rfl rfl (le_b rfl) (le_b rfl) (le_b rfl) ?_
    show X l _ _ 0 0 false _ kM 0 0 79 [some (vR (40, 0, 0)), some (vI a0), none, none, some (vI y11), none] [vI r15] (en u12)
    have hx := am_inj hf
    subst hx
    exact r_iret dX10_sumOf_79 rfl rfl (le_b rfl) (le_b rfl)
/-! FireFromFireModel.told -/
theorem dX10_told_0 : decode cX10_told 0 = .ok (.aload_n 0, 1) := by decide +kernel
theorem dX10_told_1 : decode cX10_told 1 = .ok (.iload_n 1, 1) := by decide +kernel
theorem dX10_told_2 : decode cX10_told 2 = .ok (.invokevirtual 271, 3) := by decide +kernel
theorem dX10_told_5 : decode cX10_told 5 = .ok (.ifCond .eq 21, 3) := by decide +kernel
theorem dX10_told_8 : decode cX10_told 8 = .ok (.aload_n 0, 1) := by decide +kernel
theorem dX10_told_9 : decode cX10_told 9 = .ok (.iload_n 2, 1) := by decide +kernel
theorem dX10_told_10 : decode cX10_told 10 = .ok (.invokevirtual 342, 3) := by decide +kernel
theorem dX10_told_13 : decode cX10_told 13 = .ok (.ifCond .eq 13, 3) := by decide +kernel
theorem dX10_told_16 : decode cX10_told 16 = .ok (.aload_n 0, 1) := by decide +kernel
theorem dX10_told_17 : decode cX10_told 17 = .ok (.iload_n 3, 1) := by decide +kernel
theorem dX10_told_18 : decode cX10_told 18 = .ok (.iconst 0, 1) := by decide +kernel
theorem dX10_told_19 : decode cX10_told 19 = .ok (.iconst 3, 1) := by decide +kernel
theorem dX10_told_20 : decode cX10_told 20 = .ok (.invokevirtual 267, 3) := by decide +kernel
theorem dX10_told_23 : decode cX10_told 23 = .ok (.ifCond .ne 5, 3) := by decide +kernel
theorem dX10_told_26 : decode cX10_told 26 = .ok (.iconst (-1), 1) := by decide +kernel
theorem dX10_told_27 : decode cX10_told 27 = .ok (.ireturn, 1) := by decide +kernel
theorem dX10_told_28 : decode cX10_told 28 = .ok (.aload_n 0, 1) := by decide +kernel
theorem dX10_told_29 : decode cX10_told 29 = .ok (.invokevirtual 361, 3) := by decide +kernel
theorem dX10_told_32 : decode cX10_told 32 = .ok (.aload_n 0, 1) := by decide +kernel
theorem dX10_told_33 : decode cX10_told 33 = .ok (.iload_n 3, 1) := by decide +kernel
theorem dX10_told_34 : decode cX10_told 34 = .ok (.iload_n 1, 1) := by decide +kernel
theorem dX10_told_35 : decode cX10_told 35 = .ok (.iload_n 2, 1) := by decide +kernel
theorem dX10_told_36 : decode cX10_told 36 = .ok (.invokevirtual 364, 3) := by decide +kernel
theorem dX10_told_39 : decode cX10_told 39 = .ok (.ireturn, 1) := by decide +kernel
def f_X10_told  (a0 : Int32) (a1 : Int32) (a2 : Int32) (u : PM) : Option (Int32 × PM) :=
  (f_X10_isHouse a0 u).bind fun r1 =>
  if r1 = 0 then
    some ((-1 : Int32), u)
  else
  (f_X10_isWeather a1 u).bind fun r3 =>
  if r3 = 0 then
    some ((-1 : Int32), u)
  else
  (f_X10_in a2 (0 : Int32) (3 : Int32) u).bind fun r5 =>
  if r5 = 0 then
    some ((-1 : Int32), u)
  else
  (f_X10_asIs u).bind fun r7 =>
  (f_X10_sumOf a2 a0 a1 r7).bind fun (r9, u11) =>
  some (r9, u11)
set_option maxHeartbeats 4000000 in
set_option maxRecDepth 20000 in
theorem C_X10_told {l : Launch}  {a0 : Int32} {a1 : Int32} {a2 : Int32} {u : PM} {x : Int32 × PM} (hf : f_X10_told a0 a1 a2 u = some x) : Ev l mX10_told 5 0 0 false [vR (40, 0, 0), vI a0, vI a1, vI a2] kM (en u) (some (vI x.1), kM, en x.2) := by
  refine Ev_of (by decide +kernel) (le_b rfl) ?_
  unfold f_X10_told at hf
  show X l mX10_told 5 0 0 false _ kM 0 0 0 [some (vR (40, 0, 0)), some (vI a0), some (vI a1), some (vI a2)] [] (en u)
  refine r_aload_n (x := (40, 0, 0)) dX10_told_0 rfl ?_
  refine r_iload_n (x := a0) dX10_told_1 rfl ?_
  obtain ⟨r1, hr2, hf⟩ := am_bind hf
  refine r_callV (as := [vI a0]) (st := []) (n := 1) mw_X10_271 mv_X10_isHouse (C_X10_isHouse (l := l) hr2) (le_b rfl) dX10_told_2 (kM_mem (s := 40) (by decide)) rfl rfl rfl (le_b rfl) (le_b rfl) (le_b rfl) ?_
  show X l _ _ 0 0 false _ kM 0 0 5 [some (vR (40, 0, 0)), some (vI a0), some (vI a1), some (vI a2)] [vI r1] (en u)
  refine r_if_eq (tgt := 26) dX10_told_5 (by decide) (fun hc => ?_) (fun hc => ?_)
  · have hf := (am_if hf).1 hc
    refine r_iconst (v := -1) dX10_told_26 rfl ?_
    have hx := am_inj hf
    subst hx
    exact r_iret dX10_told_27 rfl rfl (le_b rfl) (le_b rfl)
  · have hf := (am_if hf).2 hc
    refine r_aload_n (x := (40, 0, 0)) dX10_told_8 rfl ?_
    refine r_iload_n (x := a1) dX10_told_9 rfl ?_
    obtain ⟨r3, hr4, hf⟩ := am_bind hf
    refine r_callV (as := [vI a1]) (st := []) (n := 1) mw_X10_342 mv_X10_isWeather (C_X10_isWeather (l := l) hr4) (le_b rfl) dX10_told_10 (kM_mem (s := 40) (by decide)) rfl rfl rfl (le_b rfl) (le_b rfl) (le_b rfl) ?_
    show X l _ _ 0 0 false _ kM 0 0 13 [some (vR (40, 0, 0)), some (vI a0), some (vI a1), some (vI a2)] [vI r3] (en u)
    refine r_if_eq (tgt := 26) dX10_told_13 (by decide) (fun hc => ?_) (fun hc => ?_)
    · have hf := (am_if hf).1 hc
      refine r_iconst (v := -1) dX10_told_26 rfl ?_
      have hx := am_inj hf
      subst hx
      exact r_iret dX10_told_27 rfl rfl (le_b rfl) (le_b rfl)
    · have hf := (am_if hf).2 hc
      refine r_aload_n (x := (40, 0, 0)) dX10_told_16 rfl ?_
      refine r_iload_n (x := a2) dX10_told_17 rfl ?_
      refine r_iconst (v := 0) dX10_told_18 rfl ?_
      refine r_iconst (v := 3) dX10_told_19 rfl ?_
      obtain ⟨r5, hr6, hf⟩ := am_bind hf
      refine r_callV (as := [vI a2, vI (0 : Int32), vI (3 : Int32)]) (st := []) (n := 3) mw_X10_267 mv_X10_in (C_X10_in (l := l) hr6) (le_b rfl) dX10_told_20 (kM_mem (s := 40) (by decide)) rfl rfl rfl (le_b rfl) (le_b rfl) (le_b rfl) ?_
      show X l _ _ 0 0 false _ kM 0 0 23 [some (vR (40, 0, 0)), some (vI a0), some (vI a1), some (vI a2)] [vI r5] (en u)
      refine r_if_ne (tgt := 28) dX10_told_23 (by decide) (fun hc => ?_) (fun hc => ?_)
      · have hf := (am_if hf).2 hc
        refine r_aload_n (x := (40, 0, 0)) dX10_told_28 rfl ?_
        obtain ⟨r7, hr8, hf⟩ := am_bind hf
        refine r_callV (as := []) (st := []) (n := 0) mw_X10_361 mv_X10_asIs (C_X10_asIs (l := l) hr8) (le_b rfl) dX10_told_29 (kM_mem (s := 40) (by decide)) rfl rfl rfl (le_b rfl) (le_b rfl) (le_b rfl) ?_
        show X l _ _ 0 0 false _ kM 0 0 32 [some (vR (40, 0, 0)), some (vI a0), some (vI a1), some (vI a2)] [] (en r7)
        refine r_aload_n (x := (40, 0, 0)) dX10_told_32 rfl ?_
        refine r_iload_n (x := a2) dX10_told_33 rfl ?_
        refine r_iload_n (x := a0) dX10_told_34 rfl ?_
        refine r_iload_n (x := a1) dX10_told_35 rfl ?_
        obtain ⟨⟨r9, u11⟩, hr10, hf⟩ := am_bind hf
        refine r_callV (as := [vI a2, vI a0, vI a1]) (st := []) (n := 3) mw_X10_364 mv_X10_sumOf (C_X10_sumOf (l := l) hr10) (le_b rfl) dX10_told_36 (kM_mem (s := 40) (by decide)) rfl rfl rfl (le_b rfl) (le_b rfl) (le_b rfl) ?_
        show X l _ _ 0 0 false _ kM 0 0 39 [some (vR (40, 0, 0)), some (vI a0), some (vI a1), some (vI a2)] [vI r9] (en u11)
        have hx := am_inj hf
        subst hx
        exact r_iret dX10_told_39 rfl rfl (le_b rfl) (le_b rfl)
      · have hf := (am_if hf).1 hc
        refine r_iconst (v := -1) dX10_told_26 rfl ?_
        have hx := am_inj hf
        subst hx
        exact r_iret dX10_told_27 rfl rfl (le_b rfl) (le_b rfl)
/-! FireFromFireModel.isNoneAhead -/
theorem dX10_isNoneAhead_0 : decode cX10_isNoneAhead 0 = .ok (.aload_n 0, 1) := by decide +kernel
theorem dX10_isNoneAhead_1 : decode cX10_isNoneAhead 1 = .ok (.getfield 113, 3) := by decide +kernel
theorem dX10_isNoneAhead_4 : decode cX10_isNoneAhead 4 = .ok (.iconst 1, 1) := by decide +kernel
theorem dX10_isNoneAhead_5 : decode cX10_isNoneAhead 5 = .ok (.iload_n 1, 1) := by decide +kernel
theorem dX10_isNoneAhead_6 : decode cX10_isNoneAhead 6 = .ok (.ishl, 1) := by decide +kernel
theorem dX10_isNoneAhead_7 : decode cX10_isNoneAhead 7 = .ok (.iconst 1, 1) := by decide +kernel
theorem dX10_isNoneAhead_8 : decode cX10_isNoneAhead 8 = .ok (.isub, 1) := by decide +kernel
theorem dX10_isNoneAhead_9 : decode cX10_isNoneAhead 9 = .ok (.iand, 1) := by decide +kernel
theorem dX10_isNoneAhead_10 : decode cX10_isNoneAhead 10 = .ok (.ifCond .ne 7, 3) := by decide +kernel
theorem dX10_isNoneAhead_13 : decode cX10_isNoneAhead 13 = .ok (.iconst 1, 1) := by decide +kernel
theorem dX10_isNoneAhead_14 : decode cX10_isNoneAhead 14 = .ok (.goto 4, 3) := by decide +kernel
theorem dX10_isNoneAhead_17 : decode cX10_isNoneAhead 17 = .ok (.iconst 0, 1) := by decide +kernel
theorem dX10_isNoneAhead_18 : decode cX10_isNoneAhead 18 = .ok (.ireturn, 1) := by decide +kernel
def f_X10_isNoneAhead  (a0 : Int32) (u : PM) : Option (Int32) :=
  if ((u.1 (40, 0, 0) 34) &&& (((1 : Int32) <<< (a0 &&& 31)) - (1 : Int32))) = 0 then
    some (1 : Int32)
  else
  some (0 : Int32)
set_option maxHeartbeats 4000000 in
set_option maxRecDepth 20000 in
theorem C_X10_isNoneAhead {l : Launch}  {a0 : Int32} {u : PM} {x : Int32} (hf : f_X10_isNoneAhead a0 u = some x) : Ev l mX10_isNoneAhead 1 0 0 false [vR (40, 0, 0), vI a0] kM (en u) (some (vI x), kM, en u) := by
  refine Ev_of (by decide +kernel) (le_b rfl) ?_
  unfold f_X10_isNoneAhead at hf
  show X l mX10_isNoneAhead 1 0 0 false _ kM 0 0 0 [some (vR (40, 0, 0)), some (vI a0)] [] (en u)
  refine r_aload_n (x := (40, 0, 0)) dX10_isNoneAhead_0 rfl ?_
  refine e_geti fw_X10_113 dX10_isNoneAhead_1 (kM_mem (s := 40) (by decide)) rfl (lt_b rfl) ?_
  refine r_iconst (v := 1) dX10_isNoneAhead_4 rfl ?_
  refine r_iload_n (x := a0) dX10_isNoneAhead_5 rfl ?_
  refine r_ishl dX10_isNoneAhead_6 ?_
  refine r_iconst (v := 1) dX10_isNoneAhead_7 rfl ?_
  refine r_isub dX10_isNoneAhead_8 ?_
  refine r_iand dX10_isNoneAhead_9 ?_
  refine r_if_ne (tgt := 17) dX10_isNoneAhead_10 (by decide) (fun hc => ?_) (fun hc => ?_)
  · have hf := (am_if hf).2 hc
    refine r_iconst (v := 0) dX10_isNoneAhead_17 rfl ?_
    have hx := am_inj hf
    subst hx
    exact r_iret dX10_isNoneAhead_18 rfl (am_bool (x := 0) (by decide)).1 (le_b rfl) (le_b rfl)
  · have hf := (am_if hf).1 hc
    refine r_iconst (v := 1) dX10_isNoneAhead_13 rfl ?_
    refine r_goto (tgt := 18) dX10_isNoneAhead_14 (by decide) ?_
    have hx := am_inj hf
    subst hx
    exact r_iret dX10_isNoneAhead_18 rfl (am_bool (x := 1) (by decide)).1 (le_b rfl) (le_b rfl)
/-! FireFromFireModel.keeps -/
theorem dX10_keeps_0 : decode cX10_keeps 0 = .ok (.aload_n 0, 1) := by decide +kernel
theorem dX10_keeps_1 : decode cX10_keeps 1 = .ok (.getfield 128, 3) := by decide +kernel
theorem dX10_keeps_4 : decode cX10_keeps 4 = .ok (.iload_n 1, 1) := by decide +kernel
theorem dX10_keeps_5 : decode cX10_keeps 5 = .ok (.iaload, 1) := by decide +kernel
theorem dX10_keeps_6 : decode cX10_keeps 6 = .ok (.tableswitch 130 2 6 #[34, 40, 62, 83, 101], 34) := by decide +kernel
theorem dX10_keeps_40 : decode cX10_keeps 40 = .ok (.aload_n 0, 1) := by decide +kernel
theorem dX10_keeps_41 : decode cX10_keeps 41 = .ok (.iload_n 1, 1) := by decide +kernel
theorem dX10_keeps_42 : decode cX10_keeps 42 = .ok (.invokevirtual 367, 3) := by decide +kernel
theorem dX10_keeps_45 : decode cX10_keeps 45 = .ok (.ireturn, 1) := by decide +kernel
theorem dX10_keeps_46 : decode cX10_keeps 46 = .ok (.aload_n 0, 1) := by decide +kernel
theorem dX10_keeps_47 : decode cX10_keeps 47 = .ok (.iconst 3, 1) := by decide +kernel
theorem dX10_keeps_48 : decode cX10_keeps 48 = .ok (.iload_n 1, 1) := by decide +kernel
theorem dX10_keeps_49 : decode cX10_keeps 49 = .ok (.iload_n 2, 1) := by decide +kernel
theorem dX10_keeps_50 : decode cX10_keeps 50 = .ok (.invokevirtual 364, 3) := by decide +kernel
theorem dX10_keeps_53 : decode cX10_keeps 53 = .ok (.aload_n 0, 1) := by decide +kernel
theorem dX10_keeps_54 : decode cX10_keeps 54 = .ok (.getfield 131, 3) := by decide +kernel
theorem dX10_keeps_57 : decode cX10_keeps 57 = .ok (.iload_n 1, 1) := by decide +kernel
theorem dX10_keeps_58 : decode cX10_keeps 58 = .ok (.iaload, 1) := by decide +kernel
theorem dX10_keeps_59 : decode cX10_keeps 59 = .ok (.if_icmp .lt 7, 3) := by decide +kernel
theorem dX10_keeps_62 : decode cX10_keeps 62 = .ok (.iconst 1, 1) := by decide +kernel
theorem dX10_keeps_63 : decode cX10_keeps 63 = .ok (.goto 4, 3) := by decide +kernel
theorem dX10_keeps_66 : decode cX10_keeps 66 = .ok (.iconst 0, 1) := by decide +kernel
theorem dX10_keeps_67 : decode cX10_keeps 67 = .ok (.ireturn, 1) := by decide +kernel
theorem dX10_keeps_68 : decode cX10_keeps 68 = .ok (.aload_n 0, 1) := by decide +kernel
theorem dX10_keeps_69 : decode cX10_keeps 69 = .ok (.getfield 125, 3) := by decide +kernel
theorem dX10_keeps_72 : decode cX10_keeps 72 = .ok (.iload_n 1, 1) := by decide +kernel
theorem dX10_keeps_73 : decode cX10_keeps 73 = .ok (.iaload, 1) := by decide +kernel
theorem dX10_keeps_74 : decode cX10_keeps 74 = .ok (.aload_n 0, 1) := by decide +kernel
theorem dX10_keeps_75 : decode cX10_keeps 75 = .ok (.getfield 131, 3) := by decide +kernel
theorem dX10_keeps_78 : decode cX10_keeps 78 = .ok (.iload_n 1, 1) := by decide +kernel
theorem dX10_keeps_79 : decode cX10_keeps 79 = .ok (.iaload, 1) := by decide +kernel
theorem dX10_keeps_80 : decode cX10_keeps 80 = .ok (.if_icmp .lt 7, 3) := by decide +kernel
theorem dX10_keeps_83 : decode cX10_keeps 83 = .ok (.iconst 1, 1) := by decide +kernel
theorem dX10_keeps_84 : decode cX10_keeps 84 = .ok (.goto 4, 3) := by decide +kernel
theorem dX10_keeps_87 : decode cX10_keeps 87 = .ok (.iconst 0, 1) := by decide +kernel
theorem dX10_keeps_88 : decode cX10_keeps 88 = .ok (.ireturn, 1) := by decide +kernel
theorem dX10_keeps_89 : decode cX10_keeps 89 = .ok (.aload_n 0, 1) := by decide +kernel
theorem dX10_keeps_90 : decode cX10_keeps 90 = .ok (.aload_n 0, 1) := by decide +kernel
theorem dX10_keeps_91 : decode cX10_keeps 91 = .ok (.getfield 32, 3) := by decide +kernel
theorem dX10_keeps_94 : decode cX10_keeps 94 = .ok (.iload_n 1, 1) := by decide +kernel
theorem dX10_keeps_95 : decode cX10_keeps 95 = .ok (.iaload, 1) := by decide +kernel
theorem dX10_keeps_96 : decode cX10_keeps 96 = .ok (.aload_n 0, 1) := by decide +kernel
theorem dX10_keeps_97 : decode cX10_keeps 97 = .ok (.getfield 110, 3) := by decide +kernel
theorem dX10_keeps_100 : decode cX10_keeps 100 = .ok (.bipush 24, 2) := by decide +kernel
theorem dX10_keeps_102 : decode cX10_keeps 102 = .ok (.irem, 1) := by decide +kernel
theorem dX10_keeps_103 : decode cX10_keeps 103 = .ok (.invokevirtual 275, 3) := by decide +kernel
theorem dX10_keeps_106 : decode cX10_keeps 106 = .ok (.ireturn, 1) := by decide +kernel
theorem dX10_keeps_107 : decode cX10_keeps 107 = .ok (.aload_n 0, 1) := by decide +kernel
theorem dX10_keeps_108 : decode cX10_keeps 108 = .ok (.aload_n 0, 1) := by decide +kernel
theorem dX10_keeps_109 : decode cX10_keeps 109 = .ok (.getfield 113, 3) := by decide +kernel
theorem dX10_keeps_112 : decode cX10_keeps 112 = .ok (.iconst 1, 1) := by decide +kernel
theorem dX10_keeps_113 : decode cX10_keeps 113 = .ok (.iload_n 1, 1) := by decide +kernel
theorem dX10_keeps_114 : decode cX10_keeps 114 = .ok (.ishl, 1) := by decide +kernel
theorem dX10_keeps_115 : decode cX10_keeps 115 = .ok (.iconst (-1), 1) := by decide +kernel
theorem dX10_keeps_116 : decode cX10_keeps 116 = .ok (.ixor, 1) := by decide +kernel
theorem dX10_keeps_117 : decode cX10_keeps 117 = .ok (.iand, 1) := by decide +kernel
theorem dX10_keeps_118 : decode cX10_keeps 118 = .ok (.invokevirtual 351, 3) := by decide +kernel
theorem dX10_keeps_121 : decode cX10_keeps 121 = .ok (.aload_n 0, 1) := by decide +kernel
theorem dX10_keeps_122 : decode cX10_keeps 122 = .ok (.getfield 131, 3) := by decide +kernel
theorem dX10_keeps_125 : decode cX10_keeps 125 = .ok (.iload_n 1, 1) := by decide +kernel
theorem dX10_keeps_126 : decode cX10_keeps 126 = .ok (.iaload, 1) := by decide +kernel
theorem dX10_keeps_127 : decode cX10_keeps 127 = .ok (.if_icmp .ge 7, 3) := by decide +kernel
theorem dX10_keeps_130 : decode cX10_keeps 130 = .ok (.iconst 1, 1) := by decide +kernel
theorem dX10_keeps_131 : decode cX10_keeps 131 = .ok (.goto 4, 3) := by decide +kernel
theorem dX10_keeps_134 : decode cX10_keeps 134 = .ok (.iconst 0, 1) := by decide +kernel
theorem dX10_keeps_135 : decode cX10_keeps 135 = .ok (.ireturn, 1) := by decide +kernel
theorem dX10_keeps_136 : decode cX10_keeps 136 = .ok (.iconst 1, 1) := by decide +kernel
theorem dX10_keeps_137 : decode cX10_keeps 137 = .ok (.ireturn, 1) := by decide +kernel
def f_X10_keeps  (a0 : Int32) (a1 : Int32) (u : PM) : Option (Int32 × PM) :=
  if a0 < 0 ∨ 6 ≤ a0.toNatClampNeg then none else
  if (u.1 (63, 0, 0) a0.toNatClampNeg) = (2 : Int32) then
    (f_X10_isNoneAhead a0 u).bind fun r2 =>
    if r2 = 0 ∨ r2 = 1 then
      some (r2, u)
    else none
  else if (u.1 (63, 0, 0) a0.toNatClampNeg) = (3 : Int32) then
    (f_X10_sumOf (3 : Int32) a0 a1 u).bind fun (r5, u7) =>
    if r5 < (u7.1 (64, 0, 0) a0.toNatClampNeg) then
      some ((0 : Int32), u7)
    else
    some ((1 : Int32), u7)
  else if (u.1 (63, 0, 0) a0.toNatClampNeg) = (4 : Int32) then
    if (u.1 (62, 0, 0) a0.toNatClampNeg) < (u.1 (64, 0, 0) a0.toNatClampNeg) then
      some ((0 : Int32), u)
    else
    some ((1 : Int32), u)
  else if (u.1 (63, 0, 0) a0.toNatClampNeg) = (5 : Int32) then
    (f_X10_has (u.1 (44, 0, 0) a0.toNatClampNeg) ((u.1 (40, 0, 0) 33) - (u.1 (40, 0, 0) 33) / (24 : Int32) * (24 : Int32)) u).bind fun r8 =>
    if r8 = 0 ∨ r8 = 1 then
      some (r8, u)
    else none
  else if (u.1 (63, 0, 0) a0.toNatClampNeg) = (6 : Int32) then
    (f_X10_ones ((u.1 (40, 0, 0) 34) &&& (((1 : Int32) <<< (a0 &&& 31)) ^^^ (-1 : Int32))) u).bind fun r11 =>
    if (u.1 (64, 0, 0) a0.toNatClampNeg) ≤ r11 then
      some ((0 : Int32), u)
    else
    some ((1 : Int32), u)
  else 
  some ((1 : Int32), u)
set_option maxHeartbeats 4000000 in
set_option maxRecDepth 20000 in
theorem C_X10_keeps {l : Launch}  {a0 : Int32} {a1 : Int32} {u : PM} {x : Int32 × PM} (hf : f_X10_keeps a0 a1 u = some x) : Ev l mX10_keeps 5 0 0 false [vR (40, 0, 0), vI a0, vI a1] kM (en u) (some (vI x.1), kM, en x.2) := by
  refine Ev_of (by decide +kernel) (le_b rfl) ?_
  unfold f_X10_keeps at hf
  show X l mX10_keeps 5 0 0 false _ kM 0 0 0 [some (vR (40, 0, 0)), some (vI a0), some (vI a1)] [] (en u)
  refine r_aload_n (x := (40, 0, 0)) dX10_keeps_0 rfl ?_
  refine e_getr (z := some (63, 0, 0)) fw_X10_128 dX10_keeps_1 (kM_mem (s := 40) (by decide)) rfl (lt_b rfl) rfl ?_
  refine r_iload_n (x := a0) dX10_keeps_4 rfl ?_
  obtain ⟨h1, hf⟩ := am_nchk hf
  refine e_iald (n := a0.toNatClampNeg) dX10_keeps_5 (kM_mem (s := 63) (by decide)) rfl h1 rfl rfl ?_
  by_cases hs0 : (u.1 (63, 0, 0) a0.toNatClampNeg) = (2 : Int32)
  · have hf := (am_if hf).1 hs0
    refine r_tswIn (x := u.1 (63, 0, 0) a0.toNatClampNeg) (kx := 2) (tgt := 40) dX10_keeps_6 hs0 (by decide) (by decide) rfl (by decide) ?_
    refine r_aload_n (x := (40, 0, 0)) dX10_keeps_40 rfl ?_
    refine r_iload_n (x := a0) dX10_keeps_41 rfl ?_
    obtain ⟨r2, hr3, hf⟩ := am_bind hf
    refine r_callV (as := [vI a0]) (st := []) (n := 1) mw_X10_367 mv_X10_isNoneAhead (C_X10_isNoneAhead (l := l) hr3) (le_b rfl) dX10_keeps_42 (kM_mem (s := 40) (by decide)) rfl rfl rfl (le_b rfl) (le_b rfl) (le_b rfl) ?_
    show X l _ _ 0 0 false _ kM 0 0 45 [some (vR (40, 0, 0)), some (vI a0), some (vI a1)] [vI r2] (en u)
    obtain ⟨h4, hf⟩ := am_chk hf
    have hx := am_inj hf
    subst hx
    exact r_iret dX10_keeps_45 rfl (am_bool h4).1 (le_b rfl) (le_b rfl)
  have hf := (am_if hf).2 hs0
  by_cases hs1 : (u.1 (63, 0, 0) a0.toNatClampNeg) = (3 : Int32)
  · have hf := (am_if hf).1 hs1
    refine r_tswIn (x := u.1 (63, 0, 0) a0.toNatClampNeg) (kx := 3) (tgt := 46) dX10_keeps_6 hs1 (by decide) (by decide) rfl (by decide) ?_
    refine r_aload_n (x := (40, 0, 0)) dX10_keeps_46 rfl ?_
    refine r_iconst (v := 3) dX10_keeps_47 rfl ?_
    refine r_iload_n (x := a0) dX10_keeps_48 rfl ?_
    refine r_iload_n (x := a1) dX10_keeps_49 rfl ?_
    obtain ⟨⟨r5, u7⟩, hr6, hf⟩ := am_bind hf
    refine r_callV (as := [vI (3 : Int32), vI a0, vI a1]) (st := []) (n := 3) mw_X10_364 mv_X10_sumOf (C_X10_sumOf (l := l) hr6) (le_b rfl) dX10_keeps_50 (kM_mem (s := 40) (by decide)) rfl rfl rfl (le_b rfl) (le_b rfl) (le_b rfl) ?_
    show X l _ _ 0 0 false _ kM 0 0 53 [some (vR (40, 0, 0)), some (vI a0), some (vI a1)] [vI r5] (en u7)
    refine r_aload_n (x := (40, 0, 0)) dX10_keeps_53 rfl ?_
    refine e_getr (z := some (64, 0, 0)) fw_X10_131 dX10_keeps_54 (kM_mem (s := 40) (by decide)) rfl (lt_b rfl) rfl ?_
    refine r_iload_n (x := a0) dX10_keeps_57 rfl ?_
    refine e_iald (n := a0.toNatClampNeg) dX10_keeps_58 (kM_mem (s := 64) (by decide)) rfl h1 rfl rfl ?_
    refine r_icmp_lt (tgt := 66) dX10_keeps_59 (by decide) (fun hc => ?_) (fun hc => ?_)
    · have hf := (am_if hf).1 hc
      refine r_iconst (v := 0) dX10_keeps_66 rfl ?_
      have hx := am_inj hf
      subst hx
      exact r_iret dX10_keeps_67 rfl (am_bool (x := 0) (by decide)).1 (le_b rfl) (le_b rfl)
    · have hf := (am_if hf).2 hc
      refine r_iconst (v := 1) dX10_keeps_62 rfl ?_
      refine r_goto (tgt := 67) dX10_keeps_63 (by decide) ?_
      have hx := am_inj hf
      subst hx
      exact r_iret dX10_keeps_67 rfl (am_bool (x := 1) (by decide)).1 (le_b rfl) (le_b rfl)
  have hf := (am_if hf).2 hs1
  by_cases hs2 : (u.1 (63, 0, 0) a0.toNatClampNeg) = (4 : Int32)
  · have hf := (am_if hf).1 hs2
    refine r_tswIn (x := u.1 (63, 0, 0) a0.toNatClampNeg) (kx := 4) (tgt := 68) dX10_keeps_6 hs2 (by decide) (by decide) rfl (by decide) ?_
    refine r_aload_n (x := (40, 0, 0)) dX10_keeps_68 rfl ?_
    refine e_getr (z := some (62, 0, 0)) fw_X10_125 dX10_keeps_69 (kM_mem (s := 40) (by decide)) rfl (lt_b rfl) rfl ?_
    refine r_iload_n (x := a0) dX10_keeps_72 rfl ?_
    refine e_iald (n := a0.toNatClampNeg) dX10_keeps_73 (kM_mem (s := 62) (by decide)) rfl h1 rfl rfl ?_
    refine r_aload_n (x := (40, 0, 0)) dX10_keeps_74 rfl ?_
    refine e_getr (z := some (64, 0, 0)) fw_X10_131 dX10_keeps_75 (kM_mem (s := 40) (by decide)) rfl (lt_b rfl) rfl ?_
    refine r_iload_n (x := a0) dX10_keeps_78 rfl ?_
    refine e_iald (n := a0.toNatClampNeg) dX10_keeps_79 (kM_mem (s := 64) (by decide)) rfl h1 rfl rfl ?_
    refine r_icmp_lt (tgt := 87) dX10_keeps_80 (by decide) (fun hc => ?_) (fun hc => ?_)
    · have hf := (am_if hf).1 hc
      refine r_iconst (v := 0) dX10_keeps_87 rfl ?_
      have hx := am_inj hf
      subst hx
      exact r_iret dX10_keeps_88 rfl (am_bool (x := 0) (by decide)).1 (le_b rfl) (le_b rfl)
    · have hf := (am_if hf).2 hc
      refine r_iconst (v := 1) dX10_keeps_83 rfl ?_
      refine r_goto (tgt := 88) dX10_keeps_84 (by decide) ?_
      have hx := am_inj hf
      subst hx
      exact r_iret dX10_keeps_88 rfl (am_bool (x := 1) (by decide)).1 (le_b rfl) (le_b rfl)
  have hf := (am_if hf).2 hs2
  by_cases hs3 : (u.1 (63, 0, 0) a0.toNatClampNeg) = (5 : Int32)
  · have hf := (am_if hf).1 hs3
    refine r_tswIn (x := u.1 (63, 0, 0) a0.toNatClampNeg) (kx := 5) (tgt := 89) dX10_keeps_6 hs3 (by decide) (by decide) rfl (by decide) ?_
    refine r_aload_n (x := (40, 0, 0)) dX10_keeps_89 rfl ?_
    refine r_aload_n (x := (40, 0, 0)) dX10_keeps_90 rfl ?_
    refine e_getr (z := some (44, 0, 0)) fw_X10_32 dX10_keeps_91 (kM_mem (s := 40) (by decide)) rfl (lt_b rfl) rfl ?_
    refine r_iload_n (x := a0) dX10_keeps_94 rfl ?_
    refine e_iald (n := a0.toNatClampNeg) dX10_keeps_95 (kM_mem (s := 44) (by decide)) rfl h1 rfl rfl ?_
    refine r_aload_n (x := (40, 0, 0)) dX10_keeps_96 rfl ?_
    refine e_geti fw_X10_110 dX10_keeps_97 (kM_mem (s := 40) (by decide)) rfl (lt_b rfl) ?_
    refine r_bipush (v := 24) dX10_keeps_100 rfl ?_
    refine r_irem dX10_keeps_102 (by decide) ?_
    obtain ⟨r8, hr9, hf⟩ := am_bind hf
    refine r_callV (as := [vI (u.1 (44, 0, 0) a0.toNatClampNeg), vI ((u.1 (40, 0, 0) 33) - (u.1 (40, 0, 0) 33) / (24 : Int32) * (24 : Int32))]) (st := []) (n := 2) mw_X10_275 mv_X10_has (C_X10_has (l := l) hr9) (le_b rfl) dX10_keeps_103 (kM_mem (s := 40) (by decide)) rfl rfl rfl (le_b rfl) (le_b rfl) (le_b rfl) ?_
    show X l _ _ 0 0 false _ kM 0 0 106 [some (vR (40, 0, 0)), some (vI a0), some (vI a1)] [vI r8] (en u)
    obtain ⟨h10, hf⟩ := am_chk hf
    have hx := am_inj hf
    subst hx
    exact r_iret dX10_keeps_106 rfl (am_bool h10).1 (le_b rfl) (le_b rfl)
  have hf := (am_if hf).2 hs3
  by_cases hs4 : (u.1 (63, 0, 0) a0.toNatClampNeg) = (6 : Int32)
  · have hf := (am_if hf).1 hs4
    refine r_tswIn (x := u.1 (63, 0, 0) a0.toNatClampNeg) (kx := 6) (tgt := 107) dX10_keeps_6 hs4 (by decide) (by decide) rfl (by decide) ?_
    refine r_aload_n (x := (40, 0, 0)) dX10_keeps_107 rfl ?_
    refine r_aload_n (x := (40, 0, 0)) dX10_keeps_108 rfl ?_
    refine e_geti fw_X10_113 dX10_keeps_109 (kM_mem (s := 40) (by decide)) rfl (lt_b rfl) ?_
    refine r_iconst (v := 1) dX10_keeps_112 rfl ?_
    refine r_iload_n (x := a0) dX10_keeps_113 rfl ?_
    refine r_ishl dX10_keeps_114 ?_
    refine r_iconst (v := -1) dX10_keeps_115 rfl ?_
    refine r_ixor dX10_keeps_116 ?_
    refine r_iand dX10_keeps_117 ?_
    obtain ⟨r11, hr12, hf⟩ := am_bind hf
    refine r_callV (as := [vI ((u.1 (40, 0, 0) 34) &&& (((1 : Int32) <<< (a0 &&& 31)) ^^^ (-1 : Int32)))]) (st := []) (n := 1) mw_X10_351 mv_X10_ones (C_X10_ones (l := l) hr12) (le_b rfl) dX10_keeps_118 (kM_mem (s := 40) (by decide)) rfl rfl rfl (le_b rfl) (le_b rfl) (le_b rfl) ?_
    show X l _ _ 0 0 false _ kM 0 0 121 [some (vR (40, 0, 0)), some (vI a0), some (vI a1)] [vI r11] (en u)
    refine r_aload_n (x := (40, 0, 0)) dX10_keeps_121 rfl ?_
    refine e_getr (z := some (64, 0, 0)) fw_X10_131 dX10_keeps_122 (kM_mem (s := 40) (by decide)) rfl (lt_b rfl) rfl ?_
    refine r_iload_n (x := a0) dX10_keeps_125 rfl ?_
    refine e_iald (n := a0.toNatClampNeg) dX10_keeps_126 (kM_mem (s := 64) (by decide)) rfl h1 rfl rfl ?_
    refine r_icmp_ge (tgt := 134) dX10_keeps_127 (by decide) (fun hc => ?_) (fun hc => ?_)
    · have hf := (am_if hf).1 hc
      refine r_iconst (v := 0) dX10_keeps_134 rfl ?_
      have hx := am_inj hf
      subst hx
      exact r_iret dX10_keeps_135 rfl (am_bool (x := 0) (by decide)).1 (le_b rfl) (le_b rfl)
    · have hf := (am_if hf).2 hc
      refine r_iconst (v := 1) dX10_keeps_130 rfl ?_
      refine r_goto (tgt := 135) dX10_keeps_131 (by decide) ?_
      have hx := am_inj hf
      subst hx
      exact r_iret dX10_keeps_135 rfl (am_bool (x := 1) (by decide)).1 (le_b rfl) (le_b rfl)
  have hf := (am_if hf).2 hs4
  refine r_tswOut (x := u.1 (63, 0, 0) a0.toNatClampNeg) (tgt := 136) dX10_keeps_6 (by have ehs0 := am_neI hs0 (z := 2) rfl; have ehs1 := am_neI hs1 (z := 3) rfl; have ehs2 := am_neI hs2 (z := 4) rfl; have ehs3 := am_neI hs3 (z := 5) rfl; have ehs4 := am_neI hs4 (z := 6) rfl; omega) (by decide) ?_
  refine r_iconst (v := 1) dX10_keeps_136 rfl ?_
  have hx := am_inj hf
  subst hx
  exact r_iret dX10_keeps_137 rfl (am_bool (x := 1) (by decide)).1 (le_b rfl) (le_b rfl)
/-! FireFromFireModel.sends -/
theorem dX10_sends_0 : decode cX10_sends 0 = .ok (.aload_n 0, 1) := by decide +kernel
theorem dX10_sends_1 : decode cX10_sends 1 = .ok (.getfield 128, 3) := by decide +kernel
theorem dX10_sends_4 : decode cX10_sends 4 = .ok (.iload_n 1, 1) := by decide +kernel
theorem dX10_sends_5 : decode cX10_sends 5 = .ok (.iaload, 1) := by decide +kernel
theorem dX10_sends_6 : decode cX10_sends 6 = .ok (.tableswitch 72 0 6 #[42, 72, 44, 50, 72, 44, 50], 42) := by decide +kernel
theorem dX10_sends_48 : decode cX10_sends 48 = .ok (.iconst 0, 1) := by decide +kernel
theorem dX10_sends_49 : decode cX10_sends 49 = .ok (.ireturn, 1) := by decide +kernel
theorem dX10_sends_50 : decode cX10_sends 50 = .ok (.aload_n 0, 1) := by decide +kernel
theorem dX10_sends_51 : decode cX10_sends 51 = .ok (.iload_n 1, 1) := by decide +kernel
theorem dX10_sends_52 : decode cX10_sends 52 = .ok (.invokevirtual 367, 3) := by decide +kernel
theorem dX10_sends_55 : decode cX10_sends 55 = .ok (.ireturn, 1) := by decide +kernel
theorem dX10_sends_56 : decode cX10_sends 56 = .ok (.aload_n 0, 1) := by decide +kernel
theorem dX10_sends_57 : decode cX10_sends 57 = .ok (.iconst 3, 1) := by decide +kernel
theorem dX10_sends_58 : decode cX10_sends 58 = .ok (.iload_n 1, 1) := by decide +kernel
theorem dX10_sends_59 : decode cX10_sends 59 = .ok (.iload_n 2, 1) := by decide +kernel
theorem dX10_sends_60 : decode cX10_sends 60 = .ok (.invokevirtual 364, 3) := by decide +kernel
theorem dX10_sends_63 : decode cX10_sends 63 = .ok (.aload_n 0, 1) := by decide +kernel
theorem dX10_sends_64 : decode cX10_sends 64 = .ok (.getfield 131, 3) := by decide +kernel
theorem dX10_sends_67 : decode cX10_sends 67 = .ok (.iload_n 1, 1) := by decide +kernel
theorem dX10_sends_68 : decode cX10_sends 68 = .ok (.iaload, 1) := by decide +kernel
theorem dX10_sends_69 : decode cX10_sends 69 = .ok (.if_icmp .lt 7, 3) := by decide +kernel
theorem dX10_sends_72 : decode cX10_sends 72 = .ok (.iconst 1, 1) := by decide +kernel
theorem dX10_sends_73 : decode cX10_sends 73 = .ok (.goto 4, 3) := by decide +kernel
theorem dX10_sends_76 : decode cX10_sends 76 = .ok (.iconst 0, 1) := by decide +kernel
theorem dX10_sends_77 : decode cX10_sends 77 = .ok (.ireturn, 1) := by decide +kernel
theorem dX10_sends_78 : decode cX10_sends 78 = .ok (.iconst 1, 1) := by decide +kernel
theorem dX10_sends_79 : decode cX10_sends 79 = .ok (.ireturn, 1) := by decide +kernel
def f_X10_sends  (a0 : Int32) (a1 : Int32) (u : PM) : Option (Int32 × PM) :=
  if a0 < 0 ∨ 6 ≤ a0.toNatClampNeg then none else
  if (u.1 (63, 0, 0) a0.toNatClampNeg) = (0 : Int32) then
    some ((0 : Int32), u)
  else if (u.1 (63, 0, 0) a0.toNatClampNeg) = (1 : Int32) then
    some ((1 : Int32), u)
  else if (u.1 (63, 0, 0) a0.toNatClampNeg) = (2 : Int32) then
    (f_X10_isNoneAhead a0 u).bind fun r2 =>
    if r2 = 0 ∨ r2 = 1 then
      some (r2, u)
    else none
  else if (u.1 (63, 0, 0) a0.toNatClampNeg) = (3 : Int32) then
    (f_X10_sumOf (3 : Int32) a0 a1 u).bind fun (r5, u7) =>
    if r5 < (u7.1 (64, 0, 0) a0.toNatClampNeg) then
      some ((0 : Int32), u7)
    else
    some ((1 : Int32), u7)
  else if (u.1 (63, 0, 0) a0.toNatClampNeg) = (4 : Int32) then
    some ((1 : Int32), u)
  else if (u.1 (63, 0, 0) a0.toNatClampNeg) = (5 : Int32) then
    (f_X10_isNoneAhead a0 u).bind fun r8 =>
    if r8 = 0 ∨ r8 = 1 then
      some (r8, u)
    else none
  else if (u.1 (63, 0, 0) a0.toNatClampNeg) = (6 : Int32) then
    (f_X10_sumOf (3 : Int32) a0 a1 u).bind fun (r11, u13) =>
    if r11 < (u13.1 (64, 0, 0) a0.toNatClampNeg) then
      some ((0 : Int32), u13)
    else
    some ((1 : Int32), u13)
  else 
  some ((1 : Int32), u)
set_option maxHeartbeats 4000000 in
set_option maxRecDepth 20000 in
theorem C_X10_sends {l : Launch}  {a0 : Int32} {a1 : Int32} {u : PM} {x : Int32 × PM} (hf : f_X10_sends a0 a1 u = some x) : Ev l mX10_sends 5 0 0 false [vR (40, 0, 0), vI a0, vI a1] kM (en u) (some (vI x.1), kM, en x.2) := by
  refine Ev_of (by decide +kernel) (le_b rfl) ?_
  unfold f_X10_sends at hf
  show X l mX10_sends 5 0 0 false _ kM 0 0 0 [some (vR (40, 0, 0)), some (vI a0), some (vI a1)] [] (en u)
  refine r_aload_n (x := (40, 0, 0)) dX10_sends_0 rfl ?_
  refine e_getr (z := some (63, 0, 0)) fw_X10_128 dX10_sends_1 (kM_mem (s := 40) (by decide)) rfl (lt_b rfl) rfl ?_
  refine r_iload_n (x := a0) dX10_sends_4 rfl ?_
  obtain ⟨h1, hf⟩ := am_nchk hf
  refine e_iald (n := a0.toNatClampNeg) dX10_sends_5 (kM_mem (s := 63) (by decide)) rfl h1 rfl rfl ?_
  by_cases hs0 : (u.1 (63, 0, 0) a0.toNatClampNeg) = (0 : Int32)
  · have hf := (am_if hf).1 hs0
    refine r_tswIn (x := u.1 (63, 0, 0) a0.toNatClampNeg) (kx := 0) (tgt := 48) dX10_sends_6 hs0 (by decide) (by decide) rfl (by decide) ?_
    refine r_iconst (v := 0) dX10_sends_48 rfl ?_
    have hx := am_inj hf
    subst hx
    exact r_iret dX10_sends_49 rfl (am_bool (x := 0) (by decide)).1 (le_b rfl) (le_b rfl)
  have hf := (am_if hf).2 hs0
  by_cases hs1 : (u.1 (63, 0, 0) a0.toNatClampNeg) = (1 : Int32)
  · have hf := (am_if hf).1 hs1
    refine r_tswIn (x := u.1 (63, 0, 0) a0.toNatClampNeg) (kx := 1) (tgt := 78) dX10_sends_6 hs1 (by decide) (by decide) rfl (by decide) ?_
    refine r_iconst (v := 1) dX10_sends_78 rfl ?_
    have hx := am_inj hf
    subst hx
    exact r_iret dX10_sends_79 rfl (am_bool (x := 1) (by decide)).1 (le_b rfl) (le_b rfl)
  have hf := (am_if hf).2 hs1
  by_cases hs2 : (u.1 (63, 0, 0) a0.toNatClampNeg) = (2 : Int32)
  · have hf := (am_if hf).1 hs2
    refine r_tswIn (x := u.1 (63, 0, 0) a0.toNatClampNeg) (kx := 2) (tgt := 50) dX10_sends_6 hs2 (by decide) (by decide) rfl (by decide) ?_
    refine r_aload_n (x := (40, 0, 0)) dX10_sends_50 rfl ?_
    refine r_iload_n (x := a0) dX10_sends_51 rfl ?_
    obtain ⟨r2, hr3, hf⟩ := am_bind hf
    refine r_callV (as := [vI a0]) (st := []) (n := 1) mw_X10_367 mv_X10_isNoneAhead (C_X10_isNoneAhead (l := l) hr3) (le_b rfl) dX10_sends_52 (kM_mem (s := 40) (by decide)) rfl rfl rfl (le_b rfl) (le_b rfl) (le_b rfl) ?_
    show X l _ _ 0 0 false _ kM 0 0 55 [some (vR (40, 0, 0)), some (vI a0), some (vI a1)] [vI r2] (en u)
    obtain ⟨h4, hf⟩ := am_chk hf
    have hx := am_inj hf
    subst hx
    exact r_iret dX10_sends_55 rfl (am_bool h4).1 (le_b rfl) (le_b rfl)
  have hf := (am_if hf).2 hs2
  by_cases hs3 : (u.1 (63, 0, 0) a0.toNatClampNeg) = (3 : Int32)
  · have hf := (am_if hf).1 hs3
    refine r_tswIn (x := u.1 (63, 0, 0) a0.toNatClampNeg) (kx := 3) (tgt := 56) dX10_sends_6 hs3 (by decide) (by decide) rfl (by decide) ?_
    refine r_aload_n (x := (40, 0, 0)) dX10_sends_56 rfl ?_
    refine r_iconst (v := 3) dX10_sends_57 rfl ?_
    refine r_iload_n (x := a0) dX10_sends_58 rfl ?_
    refine r_iload_n (x := a1) dX10_sends_59 rfl ?_
    obtain ⟨⟨r5, u7⟩, hr6, hf⟩ := am_bind hf
    refine r_callV (as := [vI (3 : Int32), vI a0, vI a1]) (st := []) (n := 3) mw_X10_364 mv_X10_sumOf (C_X10_sumOf (l := l) hr6) (le_b rfl) dX10_sends_60 (kM_mem (s := 40) (by decide)) rfl rfl rfl (le_b rfl) (le_b rfl) (le_b rfl) ?_
    show X l _ _ 0 0 false _ kM 0 0 63 [some (vR (40, 0, 0)), some (vI a0), some (vI a1)] [vI r5] (en u7)
    refine r_aload_n (x := (40, 0, 0)) dX10_sends_63 rfl ?_
    refine e_getr (z := some (64, 0, 0)) fw_X10_131 dX10_sends_64 (kM_mem (s := 40) (by decide)) rfl (lt_b rfl) rfl ?_
    refine r_iload_n (x := a0) dX10_sends_67 rfl ?_
    refine e_iald (n := a0.toNatClampNeg) dX10_sends_68 (kM_mem (s := 64) (by decide)) rfl h1 rfl rfl ?_
    refine r_icmp_lt (tgt := 76) dX10_sends_69 (by decide) (fun hc => ?_) (fun hc => ?_)
    · have hf := (am_if hf).1 hc
      refine r_iconst (v := 0) dX10_sends_76 rfl ?_
      have hx := am_inj hf
      subst hx
      exact r_iret dX10_sends_77 rfl (am_bool (x := 0) (by decide)).1 (le_b rfl) (le_b rfl)
    · have hf := (am_if hf).2 hc
      refine r_iconst (v := 1) dX10_sends_72 rfl ?_
      refine r_goto (tgt := 77) dX10_sends_73 (by decide) ?_
      have hx := am_inj hf
      subst hx
      exact r_iret dX10_sends_77 rfl (am_bool (x := 1) (by decide)).1 (le_b rfl) (le_b rfl)
  have hf := (am_if hf).2 hs3
  by_cases hs4 : (u.1 (63, 0, 0) a0.toNatClampNeg) = (4 : Int32)
  · have hf := (am_if hf).1 hs4
    refine r_tswIn (x := u.1 (63, 0, 0) a0.toNatClampNeg) (kx := 4) (tgt := 78) dX10_sends_6 hs4 (by decide) (by decide) rfl (by decide) ?_
    refine r_iconst (v := 1) dX10_sends_78 rfl ?_
    have hx := am_inj hf
    subst hx
    exact r_iret dX10_sends_79 rfl (am_bool (x := 1) (by decide)).1 (le_b rfl) (le_b rfl)
  have hf := (am_if hf).2 hs4
  by_cases hs5 : (u.1 (63, 0, 0) a0.toNatClampNeg) = (5 : Int32)
  · have hf := (am_if hf).1 hs5
    refine r_tswIn (x := u.1 (63, 0, 0) a0.toNatClampNeg) (kx := 5) (tgt := 50) dX10_sends_6 hs5 (by decide) (by decide) rfl (by decide) ?_
    refine r_aload_n (x := (40, 0, 0)) dX10_sends_50 rfl ?_
    refine r_iload_n (x := a0) dX10_sends_51 rfl ?_
    obtain ⟨r8, hr9, hf⟩ := am_bind hf
    refine r_callV (as := [vI a0]) (st := []) (n := 1) mw_X10_367 mv_X10_isNoneAhead (C_X10_isNoneAhead (l := l) hr9) (le_b rfl) dX10_sends_52 (kM_mem (s := 40) (by decide)) rfl rfl rfl (le_b rfl) (le_b rfl) (le_b rfl) ?_
    show X l _ _ 0 0 false _ kM 0 0 55 [some (vR (40, 0, 0)), some (vI a0), some (vI a1)] [vI r8] (en u)
    obtain ⟨h10, hf⟩ := am_chk hf
    have hx := am_inj hf
    subst hx
    exact r_iret dX10_sends_55 rfl (am_bool h10).1 (le_b rfl) (le_b rfl)
  have hf := (am_if hf).2 hs5
  by_cases hs6 : (u.1 (63, 0, 0) a0.toNatClampNeg) = (6 : Int32)
  · have hf := (am_if hf).1 hs6
    refine r_tswIn (x := u.1 (63, 0, 0) a0.toNatClampNeg) (kx := 6) (tgt := 56) dX10_sends_6 hs6 (by decide) (by decide) rfl (by decide) ?_
    refine r_aload_n (x := (40, 0, 0)) dX10_sends_56 rfl ?_
    refine r_iconst (v := 3) dX10_sends_57 rfl ?_
    refine r_iload_n (x := a0) dX10_sends_58 rfl ?_
    refine r_iload_n (x := a1) dX10_sends_59 rfl ?_
    obtain ⟨⟨r11, u13⟩, hr12, hf⟩ := am_bind hf
    refine r_callV (as := [vI (3 : Int32), vI a0, vI a1]) (st := []) (n := 3) mw_X10_364 mv_X10_sumOf (C_X10_sumOf (l := l) hr12) (le_b rfl) dX10_sends_60 (kM_mem (s := 40) (by decide)) rfl rfl rfl (le_b rfl) (le_b rfl) (le_b rfl) ?_
    show X l _ _ 0 0 false _ kM 0 0 63 [some (vR (40, 0, 0)), some (vI a0), some (vI a1)] [vI r11] (en u13)
    refine r_aload_n (x := (40, 0, 0)) dX10_sends_63 rfl ?_
    refine e_getr (z := some (64, 0, 0)) fw_X10_131 dX10_sends_64 (kM_mem (s := 40) (by decide)) rfl (lt_b rfl) rfl ?_
    refine r_iload_n (x := a0) dX10_sends_67 rfl ?_
    refine e_iald (n := a0.toNatClampNeg) dX10_sends_68 (kM_mem (s := 64) (by decide)) rfl h1 rfl rfl ?_
    refine r_icmp_lt (tgt := 76) dX10_sends_69 (by decide) (fun hc => ?_) (fun hc => ?_)
    · have hf := (am_if hf).1 hc
      refine r_iconst (v := 0) dX10_sends_76 rfl ?_
      have hx := am_inj hf
      subst hx
      exact r_iret dX10_sends_77 rfl (am_bool (x := 0) (by decide)).1 (le_b rfl) (le_b rfl)
    · have hf := (am_if hf).2 hc
      refine r_iconst (v := 1) dX10_sends_72 rfl ?_
      refine r_goto (tgt := 77) dX10_sends_73 (by decide) ?_
      have hx := am_inj hf
      subst hx
      exact r_iret dX10_sends_77 rfl (am_bool (x := 1) (by decide)).1 (le_b rfl) (le_b rfl)
  have hf := (am_if hf).2 hs6
  refine r_tswOut (x := u.1 (63, 0, 0) a0.toNatClampNeg) (tgt := 78) dX10_sends_6 (by have ehs0 := am_neI hs0 (z := 0) rfl; have ehs1 := am_neI hs1 (z := 1) rfl; have ehs2 := am_neI hs2 (z := 2) rfl; have ehs3 := am_neI hs3 (z := 3) rfl; have ehs4 := am_neI hs4 (z := 4) rfl; have ehs5 := am_neI hs5 (z := 5) rfl; have ehs6 := am_neI hs6 (z := 6) rfl; omega) (by decide) ?_
  refine r_iconst (v := 1) dX10_sends_78 rfl ?_
  have hx := am_inj hf
  subst hx
  exact r_iret dX10_sends_79 rfl (am_bool (x := 1) (by decide)).1 (le_b rfl) (le_b rfl)
/-! FireFromFireModel.whereTo -/
theorem dX10_whereTo_0 : decode cX10_whereTo 0 = .ok (.iconst (-1), 1) := by decide +kernel
theorem dX10_whereTo_1 : decode cX10_whereTo 1 = .ok (.istore_n 2, 1) := by decide +kernel
theorem dX10_whereTo_2 : decode cX10_whereTo 2 = .ok (.iconst 0, 1) := by decide +kernel
theorem dX10_whereTo_3 : decode cX10_whereTo 3 = .ok (.istore_n 3, 1) := by decide +kernel
theorem dX10_whereTo_4 : decode cX10_whereTo 4 = .ok (.iload_n 3, 1) := by decide +kernel
theorem dX10_whereTo_5 : decode cX10_whereTo 5 = .ok (.aload_n 0, 1) := by decide +kernel
theorem dX10_whereTo_6 : decode cX10_whereTo 6 = .ok (.getfield 7, 3) := by decide +kernel
theorem dX10_whereTo_9 : decode cX10_whereTo 9 = .ok (.if_icmp .ge 61, 3) := by decide +kernel
theorem dX10_whereTo_12 : decode cX10_whereTo 12 = .ok (.aload_n 0, 1) := by decide +kernel
theorem dX10_whereTo_13 : decode cX10_whereTo 13 = .ok (.getfield 47, 3) := by decide +kernel
theorem dX10_whereTo_16 : decode cX10_whereTo 16 = .ok (.bipush 6, 2) := by decide +kernel
theorem dX10_whereTo_18 : decode cX10_whereTo 18 = .ok (.iload_n 1, 1) := by decide +kernel
theorem dX10_whereTo_19 : decode cX10_whereTo 19 = .ok (.imul, 1) := by decide +kernel
theorem dX10_whereTo_20 : decode cX10_whereTo 20 = .ok (.iload_n 3, 1) := by decide +kernel
theorem dX10_whereTo_21 : decode cX10_whereTo 21 = .ok (.iadd, 1) := by decide +kernel
theorem dX10_whereTo_22 : decode cX10_whereTo 22 = .ok (.iaload, 1) := by decide +kernel
theorem dX10_whereTo_23 : decode cX10_whereTo 23 = .ok (.istore 4, 2) := by decide +kernel
theorem dX10_whereTo_25 : decode cX10_whereTo 25 = .ok (.aload_n 0, 1) := by decide +kernel
theorem dX10_whereTo_26 : decode cX10_whereTo 26 = .ok (.aload_n 0, 1) := by decide +kernel
theorem dX10_whereTo_27 : decode cX10_whereTo 27 = .ok (.getfield 113, 3) := by decide +kernel
theorem dX10_whereTo_30 : decode cX10_whereTo 30 = .ok (.iload_n 3, 1) := by decide +kernel
theorem dX10_whereTo_31 : decode cX10_whereTo 31 = .ok (.invokevirtual 275, 3) := by decide +kernel
theorem dX10_whereTo_34 : decode cX10_whereTo 34 = .ok (.ifCond .eq 30, 3) := by decide +kernel
theorem dX10_whereTo_37 : decode cX10_whereTo 37 = .ok (.iload 4, 2) := by decide +kernel
theorem dX10_whereTo_39 : decode cX10_whereTo 39 = .ok (.ifCond .le 25, 3) := by decide +kernel
theorem dX10_whereTo_42 : decode cX10_whereTo 42 = .ok (.iload_n 2, 1) := by decide +kernel
theorem dX10_whereTo_43 : decode cX10_whereTo 43 = .ok (.ifCond .lt 19, 3) := by decide +kernel
theorem dX10_whereTo_46 : decode cX10_whereTo 46 = .ok (.iload 4, 2) := by decide +kernel
theorem dX10_whereTo_48 : decode cX10_whereTo 48 = .ok (.aload_n 0, 1) := by decide +kernel
theorem dX10_whereTo_49 : decode cX10_whereTo 49 = .ok (.getfield 47, 3) := by decide +kernel
theorem dX10_whereTo_52 : decode cX10_whereTo 52 = .ok (.bipush 6, 2) := by decide +kernel
theorem dX10_whereTo_54 : decode cX10_whereTo 54 = .ok (.iload_n 1, 1) := by decide +kernel
theorem dX10_whereTo_55 : decode cX10_whereTo 55 = .ok (.imul, 1) := by decide +kernel
theorem dX10_whereTo_56 : decode cX10_whereTo 56 = .ok (.iload_n 2, 1) := by decide +kernel
theorem dX10_whereTo_57 : decode cX10_whereTo 57 = .ok (.iadd, 1) := by decide +kernel
theorem dX10_whereTo_58 : decode cX10_whereTo 58 = .ok (.iaload, 1) := by decide +kernel
theorem dX10_whereTo_59 : decode cX10_whereTo 59 = .ok (.if_icmp .ge 5, 3) := by decide +kernel
theorem dX10_whereTo_62 : decode cX10_whereTo 62 = .ok (.iload_n 3, 1) := by decide +kernel
theorem dX10_whereTo_63 : decode cX10_whereTo 63 = .ok (.istore_n 2, 1) := by decide +kernel
theorem dX10_whereTo_64 : decode cX10_whereTo 64 = .ok (.iinc 3 1, 3) := by decide +kernel
theorem dX10_whereTo_67 : decode cX10_whereTo 67 = .ok (.goto (-63), 3) := by decide +kernel
theorem dX10_whereTo_70 : decode cX10_whereTo 70 = .ok (.iload_n 2, 1) := by decide +kernel
theorem dX10_whereTo_71 : decode cX10_whereTo 71 = .ok (.ireturn, 1) := by decide +kernel
def f_X10_whereTo_L4  (c1 : Int32) (u : PM) : Int32 × Int32 → Option ((Int32 × Int32) ⊕ (Int32)) := fun (x2 , x3) =>
  if (u.1 (40, 0, 0) 0) ≤ x3 then
    some (.inr (x2))
  else
  if (((6 : Int32) * c1) + x3) < 0 ∨ 36 ≤ (((6 : Int32) * c1) + x3).toNatClampNeg then none else
  (f_X10_has (u.1 (40, 0, 0) 34) x3 u).bind fun r2 =>
  if r2 = 0 then
    some (.inl (x2, x3 + (1 : Int32)))
  else
  if (u.1 (49, 0, 0) ((((6 : Int32) * c1) + x3).toNatClampNeg)) ≤ 0 then
    some (.inl (x2, x3 + (1 : Int32)))
  else
  if x2 < 0 then
    some (.inl (x3, x3 + (1 : Int32)))
  else
  if (((6 : Int32) * c1) + x2) < 0 ∨ 36 ≤ (((6 : Int32) * c1) + x2).toNatClampNeg then none else
  if (u.1 (49, 0, 0) ((((6 : Int32) * c1) + x2).toNatClampNeg)) ≤ (u.1 (49, 0, 0) ((((6 : Int32) * c1) + x3).toNatClampNeg)) then
    some (.inl (x2, x3 + (1 : Int32)))
  else
  some (.inl (x3, x3 + (1 : Int32)))
set_option maxHeartbeats 4000000 in
set_option maxRecDepth 20000 in
theorem K_X10_whereTo_L4 {l : Launch} {T : Option AV × List Key × AM}  {c1 : Int32} {u : PM} : ∀ (n : Nat) (s : Int32 × Int32) (e0 : Int32), am_loop (f_X10_whereTo_L4 c1 u) n s = some e0 → (fun e : Int32 => X l mX10_whereTo 2 0 0 false T kM 0 0 70 [none, none, some (vI e), none, none] [] (en u)) e0 → X l mX10_whereTo 2 0 0 false T kM 0 0 4 [some (vR (40, 0, 0)), some (vI c1), some (vI s.1), some (vI s.2), none] [] (en u) := by
  refine am_loop_of ?_
  intro s x hf k1 k2
  obtain ⟨x2 , x3⟩ := s
  unfold f_X10_whereTo_L4 at hf
  show X l mX10_whereTo 2 0 0 false T kM 0 0 4 [some (vR (40, 0, 0)), some (vI c1), some (vI x2), some (vI x3), none] [] (en u)
  refine r_iload_n (x := x3) dX10_whereTo_4 rfl ?_
  refine r_aload_n (x := (40, 0, 0)) dX10_whereTo_5 rfl ?_
  refine e_geti fw_X10_7 dX10_whereTo_6 (kM_mem (s := 40) (by decide)) rfl (lt_b rfl) ?_
  refine r_icmp_ge (tgt := 70) dX10_whereTo_9 (by decide) (fun hc => ?_) (fun hc => ?_)
  · have hf := (am_if hf).1 hc
    refine r_weak (L' := [none, none, some (vI x2), none, none]) (And.intro rfl trivial) ?_
    exact k2 (x2) (am_inj hf).symm
  · have hf := (am_if hf).2 hc
    refine r_aload_n (x := (40, 0, 0)) dX10_whereTo_12 rfl ?_
    refine e_getr (z := some (49, 0, 0)) fw_X10_47 dX10_whereTo_13 (kM_mem (s := 40) (by decide)) rfl (lt_b rfl) rfl ?_
    refine r_bipush (v := 6) dX10_whereTo_16 rfl ?_
    refine r_iload_n (x := c1) dX10_whereTo_18 rfl ?_
    refine r_imul dX10_whereTo_19 ?_
    refine r_iload_n (x := x3) dX10_whereTo_20 rfl ?_
    refine r_iadd dX10_whereTo_21 ?_
    obtain ⟨h1, hf⟩ := am_nchk hf
    refine e_iald (n := (((6 : Int32) * c1) + x3).toNatClampNeg) dX10_whereTo_22 (kM_mem (s := 49) (by decide)) rfl h1 rfl rfl ?_
    refine r_istore (L' := [some (vR (40, 0, 0)), some (vI c1), some (vI x2), some (vI x3), some (vI (u.1 (49, 0, 0) ((((6 : Int32) * c1) + x3).toNatClampNeg)))]) dX10_whereTo_23 (by decide) rfl ?_
    refine r_aload_n (x := (40, 0, 0)) dX10_whereTo_25 rfl ?_
    refine r_aload_n (x := (40, 0, 0)) dX10_whereTo_26 rfl ?_
    refine e_geti fw_X10_113 dX10_whereTo_27 (kM_mem (s := 40) (by decide)) rfl (lt_b rfl) ?_
    refine r_iload_n (x := x3) dX10_whereTo_30 rfl ?_
    obtain ⟨r2, hr3, hf⟩ := am_bind hf
    refine r_callV (as := [vI (u.1 (40, 0, 0) 34), vI x3]) (st := []) (n := 2) mw_X10_275 mv_X10_has (C_X10_has (l := l) hr3) (le_b rfl) dX10_whereTo_31 (kM_mem (s := 40) (by decide)) rfl rfl rfl (le_b rfl) (le_b rfl) (le_b rfl) ?_
    show X l _ _ 0 0 false _ kM 0 0 34 [some (vR (40, 0, 0)), some (vI c1), some (vI x2), some (vI x3), some (vI (u.1 (49, 0, 0) ((((6 : Int32) * c1) + x3).toNatClampNeg)))] [vI r2] (en u)
    refine r_if_eq (tgt := 64) dX10_whereTo_34 (by decide) (fun hc => ?_) (fun hc => ?_)
    · have hf := (am_if hf).1 hc
      refine r_iinc (x := x3) (v := x3 + (1 : Int32)) (L' := [some (vR (40, 0, 0)), some (vI c1), some (vI x2), some (vI (x3 + (1 : Int32))), some (vI (u.1 (49, 0, 0) ((((6 : Int32) * c1) + x3).toNatClampNeg)))]) dX10_whereTo_64 rfl rfl (lt_b rfl) rfl ?_
      refine r_goto (tgt := 4) dX10_whereTo_67 (by decide) ?_
      refine r_weak (L' := [some (vR (40, 0, 0)), some (vI c1), some (vI x2), some (vI (x3 + (1 : Int32))), none]) (And.intro rfl (And.intro rfl (And.intro rfl (And.intro rfl trivial)))) ?_
      exact k1 (x2, x3 + (1 : Int32)) (am_inj hf).symm
    · have hf := (am_if hf).2 hc
      refine r_iload (x := u.1 (49, 0, 0) ((((6 : Int32) * c1) + x3).toNatClampNeg)) dX10_whereTo_37 rfl ?_
      refine r_if_le (tgt := 64) dX10_whereTo_39 (by decide) (fun hc => ?_) (fun hc => ?_)
      · have hf := (am_if hf).1 hc
        refine r_iinc (x := x3) (v := x3 + (1 : Int32)) (L' := [some (vR (40, 0, 0)), some (vI c1), some (vI x2), some (vI (x3 + (1 : Int32))), some (vI (u.1 (49, 0, 0) ((((6 : Int32) * c1) + x3).toNatClampNeg)))]) dX10_whereTo_64 rfl rfl (lt_b rfl) rfl ?_
        refine r_goto (tgt := 4) dX10_whereTo_67 (by decide) ?_
        refine r_weak (L' := [some (vR (40, 0, 0)), some (vI c1), some (vI x2), some (vI (x3 + (1 : Int32))), none]) (And.intro rfl (And.intro rfl (And.intro rfl (And.intro rfl trivial)))) ?_
        exact k1 (x2, x3 + (1 : Int32)) (am_inj hf).symm
      · have hf := (am_if hf).2 hc
        refine r_iload_n (x := x2) dX10_whereTo_42 rfl ?_
        refine r_if_lt (tgt := 62) dX10_whereTo_43 (by decide) (fun hc => ?_) (fun hc => ?_)
        · have hf := (am_if hf).1 hc
          refine r_iload_n (x := x3) dX10_whereTo_62 rfl ?_
          refine r_istore_n (L' := [some (vR (40, 0, 0)), some (vI c1), some (vI x3), some (vI x3), some (vI (u.1 (49, 0, 0) ((((6 : Int32) * c1) + x3).toNatClampNeg)))]) dX10_whereTo_63 (by decide) rfl ?_
          refine r_iinc (x := x3) (v := x3 + (1 : Int32)) (L' := [some (vR (40, 0, 0)), some (vI c1), some (vI x3), some (vI (x3 + (1 : Int32))), some (vI (u.1 (49, 0, 0) ((((6 : Int32) * c1) + x3).toNatClampNeg)))]) dX10_whereTo_64 rfl rfl (lt_b rfl) rfl ?_
          refine r_goto (tgt := 4) dX10_whereTo_67 (by decide) ?_
          refine r_weak (L' := [some (vR (40, 0, 0)), some (vI c1), some (vI x3), some (vI (x3 + (1 : Int32))), none]) (And.intro rfl (And.intro rfl (And.intro rfl (And.intro rfl trivial)))) ?_
          exact k1 (x3, x3 + (1 : Int32)) (am_inj hf).symm
        · have hf := (am_if hf).2 hc
          refine r_iload (x := u.1 (49, 0, 0) ((((6 : Int32) * c1) + x3).toNatClampNeg)) dX10_whereTo_46 rfl ?_
          refine r_aload_n (x := (40, 0, 0)) dX10_whereTo_48 rfl ?_
          refine e_getr (z := some (49, 0, 0)) fw_X10_47 dX10_whereTo_49 (kM_mem (s := 40) (by decide)) rfl (lt_b rfl) rfl ?_
          refine r_bipush (v := 6) dX10_whereTo_52 rfl ?_
          refine r_iload_n (x := c1) dX10_whereTo_54 rfl ?_
          refine r_imul dX10_whereTo_55 ?_
          refine r_iload_n (x := x2) dX10_whereTo_56 rfl ?_
          refine r_iadd dX10_whereTo_57 ?_
          obtain ⟨h4, hf⟩ := am_nchk hf
          refine e_iald (n := (((6 : Int32) * c1) + x2).toNatClampNeg) dX10_whereTo_58 (kM_mem (s := 49) (by decide)) rfl h4 rfl rfl ?_
          refine r_icmp_ge (tgt := 64) dX10_whereTo_59 (by decide) (fun hc => ?_) (fun hc => ?_)
          · have hf := (am_if hf).1 hc
            refine r_iinc (x := x3) (v := x3 + (1 : Int32)) (L' := [some (vR (40, 0, 0)), some (vI c1), some (vI x2), some (vI (x3 + (1 : Int32))), some (vI (u.1 (49, 0, 0) ((((6 : Int32) * c1) + x3).toNatClampNeg)))]) dX10_whereTo_64 rfl rfl (lt_b rfl) rfl ?_
            refine r_goto (tgt := 4) dX10_whereTo_67 (by decide) ?_
            refine r_weak (L' := [some (vR (40, 0, 0)), some (vI c1), some (vI x2), some (vI (x3 + (1 : Int32))), none]) (And.intro rfl (And.intro rfl (And.intro rfl (And.intro rfl trivial)))) ?_
            exact k1 (x2, x3 + (1 : Int32)) (am_inj hf).symm
          · have hf := (am_if hf).2 hc
            refine r_iload_n (x := x3) dX10_whereTo_62 rfl ?_
            refine r_istore_n (L' := [some (vR (40, 0, 0)), some (vI c1), some (vI x3), some (vI x3), some (vI (u.1 (49, 0, 0) ((((6 : Int32) * c1) + x3).toNatClampNeg)))]) dX10_whereTo_63 (by decide) rfl ?_
            refine r_iinc (x := x3) (v := x3 + (1 : Int32)) (L' := [some (vR (40, 0, 0)), some (vI c1), some (vI x3), some (vI (x3 + (1 : Int32))), some (vI (u.1 (49, 0, 0) ((((6 : Int32) * c1) + x3).toNatClampNeg)))]) dX10_whereTo_64 rfl rfl (lt_b rfl) rfl ?_
            refine r_goto (tgt := 4) dX10_whereTo_67 (by decide) ?_
            refine r_weak (L' := [some (vR (40, 0, 0)), some (vI c1), some (vI x3), some (vI (x3 + (1 : Int32))), none]) (And.intro rfl (And.intro rfl (And.intro rfl (And.intro rfl trivial)))) ?_
            exact k1 (x3, x3 + (1 : Int32)) (am_inj hf).symm
def f_X10_whereTo  (a0 : Int32) (u : PM) : Option (Int32) :=
  (am_loop (f_X10_whereTo_L4 a0 u) 2000 ((-1 : Int32), (0 : Int32))).bind fun y7 =>
  some y7
set_option maxHeartbeats 4000000 in
set_option maxRecDepth 20000 in
theorem C_X10_whereTo {l : Launch}  {a0 : Int32} {u : PM} {x : Int32} (hf : f_X10_whereTo a0 u = some x) : Ev l mX10_whereTo 2 0 0 false [vR (40, 0, 0), vI a0] kM (en u) (some (vI x), kM, en u) := by
  refine Ev_of (by decide +kernel) (le_b rfl) ?_
  unfold f_X10_whereTo at hf
  show X l mX10_whereTo 2 0 0 false _ kM 0 0 0 [some (vR (40, 0, 0)), some (vI a0), none, none, none] [] (en u)
  refine r_iconst (v := -1) dX10_whereTo_0 rfl ?_
  refine r_istore_n (L' := [some (vR (40, 0, 0)), some (vI a0), some (vI (-1 : Int32)), none, none]) dX10_whereTo_1 (by decide) rfl ?_
  refine r_iconst (v := 0) dX10_whereTo_2 rfl ?_
  refine r_istore_n (L' := [some (vR (40, 0, 0)), some (vI a0), some (vI (-1 : Int32)), some (vI (0 : Int32)), none]) dX10_whereTo_3 (by decide) rfl ?_
  refine r_weak (L' := [some (vR (40, 0, 0)), some (vI a0), some (vI (-1 : Int32)), some (vI (0 : Int32)), none]) (And.intro rfl (And.intro rfl (And.intro rfl (And.intro rfl trivial)))) ?_
  obtain ⟨e5, he6, hf⟩ := am_bind hf
  refine K_X10_whereTo_L4  2000 ((-1 : Int32), (0 : Int32)) _ he6 ?_
  obtain ⟨y7, rfl⟩ : ∃ z, z = e5 := ⟨_, rfl⟩
  show X l _ _ 0 0 false _ kM 0 0 70 [none, none, some (vI y7), none, none] [] (en u)
  refine r_iload_n (x := y7) dX10_whereTo_70 rfl ?_
  have hx := am_inj hf
  subst hx
  exact r_iret dX10_whereTo_71 rfl rfl (le_b rfl) (le_b rfl)
/-! FireFromFireModel.would -/
theorem dX10_would_0 : decode cX10_would 0 = .ok (.aload_n 0, 1) := by decide +kernel
theorem dX10_would_1 : decode cX10_would 1 = .ok (.iload_n 1, 1) := by decide +kernel
theorem dX10_would_2 : decode cX10_would 2 = .ok (.invokevirtual 271, 3) := by decide +kernel
theorem dX10_would_5 : decode cX10_would 5 = .ok (.ifCond .eq 11, 3) := by decide +kernel
theorem dX10_would_8 : decode cX10_would 8 = .ok (.aload_n 0, 1) := by decide +kernel
theorem dX10_would_9 : decode cX10_would 9 = .ok (.iload_n 2, 1) := by decide +kernel
theorem dX10_would_10 : decode cX10_would 10 = .ok (.invokevirtual 342, 3) := by decide +kernel
theorem dX10_would_13 : decode cX10_would 13 = .ok (.ifCond .ne 5, 3) := by decide +kernel
theorem dX10_would_16 : decode cX10_would 16 = .ok (.iconst (-1), 1) := by decide +kernel
theorem dX10_would_17 : decode cX10_would 17 = .ok (.ireturn, 1) := by decide +kernel
theorem dX10_would_18 : decode cX10_would 18 = .ok (.aload_n 0, 1) := by decide +kernel
theorem dX10_would_19 : decode cX10_would 19 = .ok (.invokevirtual 361, 3) := by decide +kernel
theorem dX10_would_22 : decode cX10_would 22 = .ok (.aload_n 0, 1) := by decide +kernel
theorem dX10_would_23 : decode cX10_would 23 = .ok (.aload_n 0, 1) := by decide +kernel
theorem dX10_would_24 : decode cX10_would 24 = .ok (.getfield 13, 3) := by decide +kernel
theorem dX10_would_27 : decode cX10_would 27 = .ok (.iload_n 1, 1) := by decide +kernel
theorem dX10_would_28 : decode cX10_would 28 = .ok (.invokevirtual 275, 3) := by decide +kernel
theorem dX10_would_31 : decode cX10_would 31 = .ok (.ifCond .eq 18, 3) := by decide +kernel
theorem dX10_would_34 : decode cX10_would 34 = .ok (.aload_n 0, 1) := by decide +kernel
theorem dX10_would_35 : decode cX10_would 35 = .ok (.iload_n 1, 1) := by decide +kernel
theorem dX10_would_36 : decode cX10_would 36 = .ok (.iload_n 2, 1) := by decide +kernel
theorem dX10_would_37 : decode cX10_would 37 = .ok (.invokevirtual 370, 3) := by decide +kernel
theorem dX10_would_40 : decode cX10_would 40 = .ok (.ifCond .eq 7, 3) := by decide +kernel
theorem dX10_would_43 : decode cX10_would 43 = .ok (.iconst 1, 1) := by decide +kernel
theorem dX10_would_44 : decode cX10_would 44 = .ok (.goto 4, 3) := by decide +kernel
theorem dX10_would_47 : decode cX10_would 47 = .ok (.iconst 2, 1) := by decide +kernel
theorem dX10_would_48 : decode cX10_would 48 = .ok (.ireturn, 1) := by decide +kernel
theorem dX10_would_49 : decode cX10_would 49 = .ok (.aload_n 0, 1) := by decide +kernel
theorem dX10_would_50 : decode cX10_would 50 = .ok (.getfield 35, 3) := by decide +kernel
theorem dX10_would_53 : decode cX10_would 53 = .ok (.iload_n 1, 1) := by decide +kernel
theorem dX10_would_54 : decode cX10_would 54 = .ok (.iaload, 1) := by decide +kernel
theorem dX10_would_55 : decode cX10_would 55 = .ok (.ifCond .ne 24, 3) := by decide +kernel
theorem dX10_would_58 : decode cX10_would 58 = .ok (.aload_n 0, 1) := by decide +kernel
theorem dX10_would_59 : decode cX10_would 59 = .ok (.iload_n 1, 1) := by decide +kernel
theorem dX10_would_60 : decode cX10_would 60 = .ok (.iload_n 2, 1) := by decide +kernel
theorem dX10_would_61 : decode cX10_would 61 = .ok (.invokevirtual 373, 3) := by decide +kernel
theorem dX10_would_64 : decode cX10_would 64 = .ok (.ifCond .eq 15, 3) := by decide +kernel
theorem dX10_would_67 : decode cX10_would 67 = .ok (.aload_n 0, 1) := by decide +kernel
theorem dX10_would_68 : decode cX10_would 68 = .ok (.iload_n 1, 1) := by decide +kernel
theorem dX10_would_69 : decode cX10_would 69 = .ok (.invokevirtual 376, 3) := by decide +kernel
theorem dX10_would_72 : decode cX10_would 72 = .ok (.ifCond .lt 7, 3) := by decide +kernel
theorem dX10_would_75 : decode cX10_would 75 = .ok (.iconst 3, 1) := by decide +kernel
theorem dX10_would_76 : decode cX10_would 76 = .ok (.goto 4, 3) := by decide +kernel
theorem dX10_would_79 : decode cX10_would 79 = .ok (.iconst 0, 1) := by decide +kernel
theorem dX10_would_80 : decode cX10_would 80 = .ok (.ireturn, 1) := by decide +kernel
def f_X10_would  (a0 : Int32) (a1 : Int32) (u : PM) : Option (Int32 × PM) :=
  (f_X10_isHouse a0 u).bind fun r1 =>
  if r1 = 0 then
    some ((-1 : Int32), u)
  else
  (f_X10_isWeather a1 u).bind fun r3 =>
  if r3 = 0 then
    some ((-1 : Int32), u)
  else
  (f_X10_asIs u).bind fun r5 =>
  (f_X10_has (r5.1 (40, 0, 0) 1) a0 r5).bind fun r7 =>
  if r7 = 0 then
    if a0 < 0 ∨ 6 ≤ a0.toNatClampNeg then none else
    if (r5.1 (45, 0, 0) a0.toNatClampNeg) = 0 then
      (f_X10_sends a0 a1 r5).bind fun (r10, u12) =>
      if r10 = 0 then
        some ((0 : Int32), u12)
      else
      (f_X10_whereTo a0 u12).bind fun r13 =>
      if r13 < 0 then
        some ((0 : Int32), u12)
      else
      some ((3 : Int32), u12)
    else
    some ((0 : Int32), r5)
  else
  (f_X10_keeps a0 a1 r5).bind fun (r15, u17) =>
  if r15 = 0 then
    some ((2 : Int32), u17)
  else
  some ((1 : Int32), u17)
set_option maxHeartbeats 4000000 in
set_option maxRecDepth 20000 in
theorem C_X10_would {l : Launch}  {a0 : Int32} {a1 : Int32} {u : PM} {x : Int32 × PM} (hf : f_X10_would a0 a1 u = some x) : Ev l mX10_would 6 0 0 false [vR (40, 0, 0), vI a0, vI a1] kM (en u) (some (vI x.1), kM, en x.2) := by
  refine Ev_of (by decide +kernel) (le_b rfl) ?_
  unfold f_X10_would at hf
  show X l mX10_would 6 0 0 false _ kM 0 0 0 [some (vR (40, 0, 0)), some (vI a0), some (vI a1)] [] (en u)
  refine r_aload_n (x := (40, 0, 0)) dX10_would_0 rfl ?_
  refine r_iload_n (x := a0) dX10_would_1 rfl ?_
  obtain ⟨r1, hr2, hf⟩ := am_bind hf
  refine r_callV (as := [vI a0]) (st := []) (n := 1) mw_X10_271 mv_X10_isHouse (C_X10_isHouse (l := l) hr2) (le_b rfl) dX10_would_2 (kM_mem (s := 40) (by decide)) rfl rfl rfl (le_b rfl) (le_b rfl) (le_b rfl) ?_
  show X l _ _ 0 0 false _ kM 0 0 5 [some (vR (40, 0, 0)), some (vI a0), some (vI a1)] [vI r1] (en u)
  refine r_if_eq (tgt := 16) dX10_would_5 (by decide) (fun hc => ?_) (fun hc => ?_)
  · have hf := (am_if hf).1 hc
    refine r_iconst (v := -1) dX10_would_16 rfl ?_
    have hx := am_inj hf
    subst hx
    exact r_iret dX10_would_17 rfl rfl (le_b rfl) (le_b rfl)
  · have hf := (am_if hf).2 hc
    refine r_aload_n (x := (40, 0, 0)) dX10_would_8 rfl ?_
    refine r_iload_n (x := a1) dX10_would_9 rfl ?_
    obtain ⟨r3, hr4, hf⟩ := am_bind hf
    refine r_callV (as := [vI a1]) (st := []) (n := 1) mw_X10_342 mv_X10_isWeather (C_X10_isWeather (l := l) hr4) (le_b rfl) dX10_would_10 (kM_mem (s := 40) (by decide)) rfl rfl rfl (le_b rfl) (le_b rfl) (le_b rfl) ?_
    show X l _ _ 0 0 false _ kM 0 0 13 [some (vR (40, 0, 0)), some (vI a0), some (vI a1)] [vI r3] (en u)
    refine r_if_ne (tgt := 18) dX10_would_13 (by decide) (fun hc => ?_) (fun hc => ?_)
    · have hf := (am_if hf).2 hc
      refine r_aload_n (x := (40, 0, 0)) dX10_would_18 rfl ?_
      obtain ⟨r5, hr6, hf⟩ := am_bind hf
      refine r_callV (as := []) (st := []) (n := 0) mw_X10_361 mv_X10_asIs (C_X10_asIs (l := l) hr6) (le_b rfl) dX10_would_19 (kM_mem (s := 40) (by decide)) rfl rfl rfl (le_b rfl) (le_b rfl) (le_b rfl) ?_
      show X l _ _ 0 0 false _ kM 0 0 22 [some (vR (40, 0, 0)), some (vI a0), some (vI a1)] [] (en r5)
      refine r_aload_n (x := (40, 0, 0)) dX10_would_22 rfl ?_
      refine r_aload_n (x := (40, 0, 0)) dX10_would_23 rfl ?_
      refine e_geti fw_X10_13 dX10_would_24 (kM_mem (s := 40) (by decide)) rfl (lt_b rfl) ?_
      refine r_iload_n (x := a0) dX10_would_27 rfl ?_
      obtain ⟨r7, hr8, hf⟩ := am_bind hf
      refine r_callV (as := [vI (r5.1 (40, 0, 0) 1), vI a0]) (st := []) (n := 2) mw_X10_275 mv_X10_has (C_X10_has (l := l) hr8) (le_b rfl) dX10_would_28 (kM_mem (s := 40) (by decide)) rfl rfl rfl (le_b rfl) (le_b rfl) (le_b rfl) ?_
      show X l _ _ 0 0 false _ kM 0 0 31 [some (vR (40, 0, 0)), some (vI a0), some (vI a1)] [vI r7] (en r5)
      refine r_if_eq (tgt := 49) dX10_would_31 (by decide) (fun hc => ?_) (fun hc => ?_)
      · have hf := (am_if hf).1 hc
        refine r_aload_n (x := (40, 0, 0)) dX10_would_49 rfl ?_
        refine e_getr (z := some (45, 0, 0)) fw_X10_35 dX10_would_50 (kM_mem (s := 40) (by decide)) rfl (lt_b rfl) rfl ?_
        refine r_iload_n (x := a0) dX10_would_53 rfl ?_
        obtain ⟨h9, hf⟩ := am_nchk hf
        refine e_iald (n := a0.toNatClampNeg) dX10_would_54 (kM_mem (s := 45) (by decide)) rfl h9 rfl rfl ?_
        refine r_if_ne (tgt := 79) dX10_would_55 (by decide) (fun hc => ?_) (fun hc => ?_)
        · have hf := (am_if hf).2 hc
          refine r_iconst (v := 0) dX10_would_79 rfl ?_
          have hx := am_inj hf
          subst hx
          exact r_iret dX10_would_80 rfl rfl (le_b rfl) (le_b rfl)
        · have hf := (am_if hf).1 hc
          refine r_aload_n (x := (40, 0, 0)) dX10_would_58 rfl ?_
          refine r_iload_n (x := a0) dX10_would_59 rfl ?_
          refine r_iload_n (x := a1) dX10_would_60 rfl ?_
          obtain ⟨⟨r10, u12⟩, hr11, hf⟩ := am_bind hf
          refine r_callV (as := [vI a0, vI a1]) (st := []) (n := 2) mw_X10_373 mv_X10_sends (C_X10_sends (l := l) hr11) (le_b rfl) dX10_would_61 (kM_mem (s := 40) (by decide)) rfl rfl rfl (le_b rfl) (le_b rfl) (le_b rfl) ?_
          show X l _ _ 0 0 false _ kM 0 0 64 [some (vR (40, 0, 0)), some (vI a0), some (vI a1)] [vI r10] (en u12)
          refine r_if_eq (tgt := 79) dX10_would_64 (by decide) (fun hc => ?_) (fun hc => ?_)
          · have hf := (am_if hf).1 hc
            refine r_iconst (v := 0) dX10_would_79 rfl ?_
            have hx := am_inj hf
            subst hx
            exact r_iret dX10_would_80 rfl rfl (le_b rfl) (le_b rfl)
          · have hf := (am_if hf).2 hc
            refine r_aload_n (x := (40, 0, 0)) dX10_would_67 rfl ?_
            refine r_iload_n (x := a0) dX10_would_68 rfl ?_
            obtain ⟨r13, hr14, hf⟩ := am_bind hf
            refine r_callV (as := [vI a0]) (st := []) (n := 1) mw_X10_376 mv_X10_whereTo (C_X10_whereTo (l := l) hr14) (le_b rfl) dX10_would_69 (kM_mem (s := 40) (by decide)) rfl rfl rfl (le_b rfl) (le_b rfl) (le_b rfl) ?_
            show X l _ _ 0 0 false _ kM 0 0 72 [some (vR (40, 0, 0)), some (vI a0), some (vI a1)] [vI r13] (en u12)
            refine r_if_lt (tgt := 79) dX10_would_72 (by decide) (fun hc => ?_) (fun hc => ?_)
            · have hf := (am_if hf).1 hc
              refine r_iconst (v := 0) dX10_would_79 rfl ?_
              have hx := am_inj hf
              subst hx
              exact r_iret dX10_would_80 rfl rfl (le_b rfl) (le_b rfl)
            · have hf := (am_if hf).2 hc
              refine r_iconst (v := 3) dX10_would_75 rfl ?_
              refine r_goto (tgt := 80) dX10_would_76 (by decide) ?_
              have hx := am_inj hf
              subst hx
              exact r_iret dX10_would_80 rfl rfl (le_b rfl) (le_b rfl)
      · have hf := (am_if hf).2 hc
        refine r_aload_n (x := (40, 0, 0)) dX10_would_34 rfl ?_
        refine r_iload_n (x := a0) dX10_would_35 rfl ?_
        refine r_iload_n (x := a1) dX10_would_36 rfl ?_
        obtain ⟨⟨r15, u17⟩, hr16, hf⟩ := am_bind hf
        refine r_callV (as := [vI a0, vI a1]) (st := []) (n := 2) mw_X10_370 mv_X10_keeps (C_X10_keeps (l := l) hr16) (le_b rfl) dX10_would_37 (kM_mem (s := 40) (by decide)) rfl rfl rfl (le_b rfl) (le_b rfl) (le_b rfl) ?_
        show X l _ _ 0 0 false _ kM 0 0 40 [some (vR (40, 0, 0)), some (vI a0), some (vI a1)] [vI r15] (en u17)
        refine r_if_eq (tgt := 47) dX10_would_40 (by decide) (fun hc => ?_) (fun hc => ?_)
        · have hf := (am_if hf).1 hc
          refine r_iconst (v := 2) dX10_would_47 rfl ?_
          have hx := am_inj hf
          subst hx
          exact r_iret dX10_would_48 rfl rfl (le_b rfl) (le_b rfl)
        · have hf := (am_if hf).2 hc
          refine r_iconst (v := 1) dX10_would_43 rfl ?_
          refine r_goto (tgt := 48) dX10_would_44 (by decide) ?_
          have hx := am_inj hf
          subst hx
          exact r_iret dX10_would_48 rfl rfl (le_b rfl) (le_b rfl)
    · have hf := (am_if hf).1 hc
      refine r_iconst (v := -1) dX10_would_16 rfl ?_
      have hx := am_inj hf
      subst hx
      exact r_iret dX10_would_17 rfl rfl (le_b rfl) (le_b rfl)
/-! FireFromFireModel.burns -/
theorem dX10_burns_0 : decode cX10_burns 0 = .ok (.aload_n 0, 1) := by decide +kernel
theorem dX10_burns_1 : decode cX10_burns 1 = .ok (.iconst 1, 1) := by decide +kernel
theorem dX10_burns_2 : decode cX10_burns 2 = .ok (.iload_n 1, 1) := by decide +kernel
theorem dX10_burns_3 : decode cX10_burns 3 = .ok (.iload_n 2, 1) := by decide +kernel
theorem dX10_burns_4 : decode cX10_burns 4 = .ok (.invokevirtual 364, 3) := by decide +kernel
theorem dX10_burns_7 : decode cX10_burns 7 = .ok (.istore 4, 2) := by decide +kernel
theorem dX10_burns_9 : decode cX10_burns 9 = .ok (.aload_n 0, 1) := by decide +kernel
theorem dX10_burns_10 : decode cX10_burns 10 = .ok (.iload_n 1, 1) := by decide +kernel
theorem dX10_burns_11 : decode cX10_burns 11 = .ok (.iload_n 2, 1) := by decide +kernel
theorem dX10_burns_12 : decode cX10_burns 12 = .ok (.invokevirtual 370, 3) := by decide +kernel
theorem dX10_burns_15 : decode cX10_burns 15 = .ok (.ifCond .eq 23, 3) := by decide +kernel
theorem dX10_burns_18 : decode cX10_burns 18 = .ok (.aload_n 0, 1) := by decide +kernel
theorem dX10_burns_19 : decode cX10_burns 19 = .ok (.getfield 125, 3) := by decide +kernel
theorem dX10_burns_22 : decode cX10_burns 22 = .ok (.iload_n 1, 1) := by decide +kernel
theorem dX10_burns_23 : decode cX10_burns 23 = .ok (.iaload, 1) := by decide +kernel
theorem dX10_burns_24 : decode cX10_burns 24 = .ok (.iload 4, 2) := by decide +kernel
theorem dX10_burns_26 : decode cX10_burns 26 = .ok (.if_icmp .lt 12, 3) := by decide +kernel
theorem dX10_burns_29 : decode cX10_burns 29 = .ok (.aload_n 0, 1) := by decide +kernel
theorem dX10_burns_30 : decode cX10_burns 30 = .ok (.iload_n 3, 1) := by decide +kernel
theorem dX10_burns_31 : decode cX10_burns 31 = .ok (.iload_n 1, 1) := by decide +kernel
theorem dX10_burns_32 : decode cX10_burns 32 = .ok (.invokevirtual 275, 3) := by decide +kernel
theorem dX10_burns_35 : decode cX10_burns 35 = .ok (.ifCond .eq 20, 3) := by decide +kernel
theorem dX10_burns_38 : decode cX10_burns 38 = .ok (.aload_n 0, 1) := by decide +kernel
theorem dX10_burns_39 : decode cX10_burns 39 = .ok (.dup, 1) := by decide +kernel
theorem dX10_burns_40 : decode cX10_burns 40 = .ok (.getfield 107, 3) := by decide +kernel
theorem dX10_burns_43 : decode cX10_burns 43 = .ok (.iconst 1, 1) := by decide +kernel
theorem dX10_burns_44 : decode cX10_burns 44 = .ok (.iload_n 1, 1) := by decide +kernel
theorem dX10_burns_45 : decode cX10_burns 45 = .ok (.ishl, 1) := by decide +kernel
theorem dX10_burns_46 : decode cX10_burns 46 = .ok (.iconst (-1), 1) := by decide +kernel
theorem dX10_burns_47 : decode cX10_burns 47 = .ok (.ixor, 1) := by decide +kernel
theorem dX10_burns_48 : decode cX10_burns 48 = .ok (.iand, 1) := by decide +kernel
theorem dX10_burns_49 : decode cX10_burns 49 = .ok (.putfield 107, 3) := by decide +kernel
theorem dX10_burns_52 : decode cX10_burns 52 = .ok (.goto 14, 3) := by decide +kernel
theorem dX10_burns_55 : decode cX10_burns 55 = .ok (.aload_n 0, 1) := by decide +kernel
theorem dX10_burns_56 : decode cX10_burns 56 = .ok (.getfield 122, 3) := by decide +kernel
theorem dX10_burns_59 : decode cX10_burns 59 = .ok (.iload_n 1, 1) := by decide +kernel
theorem dX10_burns_60 : decode cX10_burns 60 = .ok (.dup2, 1) := by decide +kernel
theorem dX10_burns_61 : decode cX10_burns 61 = .ok (.iaload, 1) := by decide +kernel
theorem dX10_burns_62 : decode cX10_burns 62 = .ok (.iload 4, 2) := by decide +kernel
theorem dX10_burns_64 : decode cX10_burns 64 = .ok (.isub, 1) := by decide +kernel
theorem dX10_burns_65 : decode cX10_burns 65 = .ok (.iastore, 1) := by decide +kernel
theorem dX10_burns_66 : decode cX10_burns 66 = .ok (.return_, 1) := by decide +kernel
def f_X10_burns  (a0 : Int32) (a1 : Int32) (a2 : Int32) (u : PM) : Option (PM) :=
  (f_X10_sumOf (1 : Int32) a0 a1 u).bind fun (r1, u3) =>
  (f_X10_keeps a0 a1 u3).bind fun (r4, u6) =>
  if r4 = 0 then
    some (pi u6 (40, 0, 0) 32 ((u6.1 (40, 0, 0) 32) &&& (((1 : Int32) <<< (a0 &&& 31)) ^^^ (-1 : Int32))))
  else
  if a0 < 0 ∨ 6 ≤ a0.toNatClampNeg then none else
  if (u6.1 (62, 0, 0) a0.toNatClampNeg) < r1 then
    some (pi u6 (40, 0, 0) 32 ((u6.1 (40, 0, 0) 32) &&& (((1 : Int32) <<< (a0 &&& 31)) ^^^ (-1 : Int32))))
  else
  (f_X10_has a2 a0 u6).bind fun r8 =>
  if r8 = 0 then
    some (pi u6 (61, 0, 0) a0.toNatClampNeg ((u6.1 (61, 0, 0) a0.toNatClampNeg) - r1))
  else
  some (pi u6 (40, 0, 0) 32 ((u6.1 (40, 0, 0) 32) &&& (((1 : Int32) <<< (a0 &&& 31)) ^^^ (-1 : Int32))))
set_option maxHeartbeats 4000000 in
set_option maxRecDepth 20000 in
theorem C_X10_burns {l : Launch}  {a0 : Int32} {a1 : Int32} {a2 : Int32} {u : PM} {x : PM} (hf : f_X10_burns a0 a1 a2 u = some x) : Ev l mX10_burns 6 0 0 false [vR (40, 0, 0), vI a0, vI a1, vI a2] kM (en u) (none, kM, en x) := by
  refine Ev_of (by decide +kernel) (le_b rfl) ?_
  unfold f_X10_burns at hf
  show X l mX10_burns 6 0 0 false _ kM 0 0 0 [some (vR (40, 0, 0)), some (vI a0), some (vI a1), some (vI a2), none] [] (en u)
  refine r_aload_n (x := (40, 0, 0)) dX10_burns_0 rfl ?_
  refine r_iconst (v := 1) dX10_burns_1 rfl ?_
  refine r_iload_n (x := a0) dX10_burns_2 rfl ?_
  refine r_iload_n (x := a1) dX10_burns_3 rfl ?_
  obtain ⟨⟨r1, u3⟩, hr2, hf⟩ := am_bind hf
  refine r_callV (as := [vI (1 : Int32), vI a0, vI a1]) (st := []) (n := 3) mw_X10_364 mv_X10_sumOf (C_X10_sumOf (l := l) hr2) (le_b rfl) dX10_burns_4 (kM_mem (s := 40) (by decide)) rfl rfl rfl (le_b rfl) (le_b rfl) (le_b rfl) ?_
  show X l _ _ 0 0 false _ kM 0 0 7 [some (vR (40, 0, 0)), some (vI a0), some (vI a1), some (vI a2), none] [vI r1] (en u3)
  refine r_istore (L' := [some (vR (40, 0, 0)), some (vI a0), some (vI a1), some (vI a2), some (vI r1)]) dX10_burns_7 (by decide) rfl ?_
  refine r_aload_n (x := (40, 0, 0)) dX10_burns_9 rfl ?_
  refine r_iload_n (x := a0) dX10_burns_10 rfl ?_
  refine r_iload_n (x := a1) dX10_burns_11 rfl ?_
  obtain ⟨⟨r4, u6⟩, hr5, hf⟩ := am_bind hf
  refine r_callV (as := [vI a0, vI a1]) (st := []) (n := 2) mw_X10_370 mv_X10_keeps (C_X10_keeps (l := l) hr5) (le_b rfl) dX10_burns_12 (kM_mem (s := 40) (by decide)) rfl rfl rfl (le_b rfl) (le_b rfl) (le_b rfl) ?_
  show X l _ _ 0 0 false _ kM 0 0 15 [some (vR (40, 0, 0)), some (vI a0), some (vI a1), some (vI a2), some (vI r1)] [vI r4] (en u6)
  refine r_if_eq (tgt := 38) dX10_burns_15 (by decide) (fun hc => ?_) (fun hc => ?_)
  · have hf := (am_if hf).1 hc
    refine r_aload_n (x := (40, 0, 0)) dX10_burns_38 rfl ?_
    refine r_dup dX10_burns_39 rfl ?_
    refine e_geti fw_X10_107 dX10_burns_40 (kM_mem (s := 40) (by decide)) rfl (lt_b rfl) ?_
    refine r_iconst (v := 1) dX10_burns_43 rfl ?_
    refine r_iload_n (x := a0) dX10_burns_44 rfl ?_
    refine r_ishl dX10_burns_45 ?_
    refine r_iconst (v := -1) dX10_burns_46 rfl ?_
    refine r_ixor dX10_burns_47 ?_
    refine r_iand dX10_burns_48 ?_
    refine e_puti fp_X10_107 dX10_burns_49 (kM_mem (s := 40) (by decide)) rfl (lt_b rfl) rfl rfl rfl ?_
    refine r_goto (tgt := 66) dX10_burns_52 (by decide) ?_
    have hx := am_inj hf
    subst hx
    exact r_vret dX10_burns_66 rfl (le_b rfl) (le_b rfl)
  · have hf := (am_if hf).2 hc
    refine r_aload_n (x := (40, 0, 0)) dX10_burns_18 rfl ?_
    refine e_getr (z := some (62, 0, 0)) fw_X10_125 dX10_burns_19 (kM_mem (s := 40) (by decide)) rfl (lt_b rfl) rfl ?_
    refine r_iload_n (x := a0) dX10_burns_22 rfl ?_
    obtain ⟨h7, hf⟩ := am_nchk hf
    refine e_iald (n := a0.toNatClampNeg) dX10_burns_23 (kM_mem (s := 62) (by decide)) rfl h7 rfl rfl ?_
    refine r_iload (x := r1) dX10_burns_24 rfl ?_
    refine r_icmp_lt (tgt := 38) dX10_burns_26 (by decide) (fun hc => ?_) (fun hc => ?_)
    · have hf := (am_if hf).1 hc
      refine r_aload_n (x := (40, 0, 0)) dX10_burns_38 rfl ?_
      refine r_dup dX10_burns_39 rfl ?_
      refine e_geti fw_X10_107 dX10_burns_40 (kM_mem (s := 40) (by decide)) rfl (lt_b rfl) ?_
      refine r_iconst (v := 1) dX10_burns_43 rfl ?_
      refine r_iload_n (x := a0) dX10_burns_44 rfl ?_
      refine r_ishl dX10_burns_45 ?_
      refine r_iconst (v := -1) dX10_burns_46 rfl ?_
      refine r_ixor dX10_burns_47 ?_
      refine r_iand dX10_burns_48 ?_
      refine e_puti fp_X10_107 dX10_burns_49 (kM_mem (s := 40) (by decide)) rfl (lt_b rfl) rfl rfl rfl ?_
      refine r_goto (tgt := 66) dX10_burns_52 (by decide) ?_
      have hx := am_inj hf
      subst hx
      exact r_vret dX10_burns_66 rfl (le_b rfl) (le_b rfl)
    · have hf := (am_if hf).2 hc
      refine r_aload_n (x := (40, 0, 0)) dX10_burns_29 rfl ?_
      refine r_iload_n (x := a2) dX10_burns_30 rfl ?_
      refine r_iload_n (x := a0) dX10_burns_31 rfl ?_
      obtain ⟨r8, hr9, hf⟩ := am_bind hf
      refine r_callV (as := [vI a2, vI a0]) (st := []) (n := 2) mw_X10_275 mv_X10_has (C_X10_has (l := l) hr9) (le_b rfl) dX10_burns_32 (kM_mem (s := 40) (by decide)) rfl rfl rfl (le_b rfl) (le_b rfl) (le_b rfl) ?_
      show X l _ _ 0 0 false _ kM 0 0 35 [some (vR (40, 0, 0)), some (vI a0), some (vI a1), some (vI a2), some (vI r1)] [vI r8] (en u6)
      refine r_if_eq (tgt := 55) dX10_burns_35 (by decide) (fun hc => ?_) (fun hc => ?_)
      · have hf := (am_if hf).1 hc
        refine r_aload_n (x := (40, 0, 0)) dX10_burns_55 rfl ?_
        refine e_getr (z := some (61, 0, 0)) fw_X10_122 dX10_burns_56 (kM_mem (s := 40) (by decide)) rfl (lt_b rfl) rfl ?_
        refine r_iload_n (x := a0) dX10_burns_59 rfl ?_
        refine r_dup2 dX10_burns_60 rfl rfl ?_
        refine e_iald (n := a0.toNatClampNeg) dX10_burns_61 (kM_mem (s := 61) (by decide)) rfl h7 rfl rfl ?_
        refine r_iload (x := r1) dX10_burns_62 rfl ?_
        refine r_isub dX10_burns_64 ?_
        refine e_iast (n := a0.toNatClampNeg) dX10_burns_65 (kM_mem (s := 61) (by decide)) rfl h7 rfl ?_
        have hx := am_inj hf
        subst hx
        exact r_vret dX10_burns_66 rfl (le_b rfl) (le_b rfl)
      · have hf := (am_if hf).2 hc
        refine r_aload_n (x := (40, 0, 0)) dX10_burns_38 rfl ?_
        refine r_dup dX10_burns_39 rfl ?_
        refine e_geti fw_X10_107 dX10_burns_40 (kM_mem (s := 40) (by decide)) rfl (lt_b rfl) ?_
        refine r_iconst (v := 1) dX10_burns_43 rfl ?_
        refine r_iload_n (x := a0) dX10_burns_44 rfl ?_
        refine r_ishl dX10_burns_45 ?_
        refine r_iconst (v := -1) dX10_burns_46 rfl ?_
        refine r_ixor dX10_burns_47 ?_
        refine r_iand dX10_burns_48 ?_
        refine e_puti fp_X10_107 dX10_burns_49 (kM_mem (s := 40) (by decide)) rfl (lt_b rfl) rfl rfl rfl ?_
        refine r_goto (tgt := 66) dX10_burns_52 (by decide) ?_
        have hx := am_inj hf
        subst hx
        exact r_vret dX10_burns_66 rfl (le_b rfl) (le_b rfl)
/-! FireFromFireModel.setsOut -/
theorem dX10_setsOut_0 : decode cX10_setsOut 0 = .ok (.aload_n 0, 1) := by decide +kernel
theorem dX10_setsOut_1 : decode cX10_setsOut 1 = .ok (.iload_n 1, 1) := by decide +kernel
theorem dX10_setsOut_2 : decode cX10_setsOut 2 = .ok (.iload_n 2, 1) := by decide +kernel
theorem dX10_setsOut_3 : decode cX10_setsOut 3 = .ok (.invokevirtual 373, 3) := by decide +kernel
theorem dX10_setsOut_6 : decode cX10_setsOut 6 = .ok (.ifCond .eq 11, 3) := by decide +kernel
theorem dX10_setsOut_9 : decode cX10_setsOut 9 = .ok (.aload_n 0, 1) := by decide +kernel
theorem dX10_setsOut_10 : decode cX10_setsOut 10 = .ok (.iload_n 1, 1) := by decide +kernel
theorem dX10_setsOut_11 : decode cX10_setsOut 11 = .ok (.invokevirtual 376, 3) := by decide +kernel
theorem dX10_setsOut_14 : decode cX10_setsOut 14 = .ok (.goto 4, 3) := by decide +kernel
theorem dX10_setsOut_17 : decode cX10_setsOut 17 = .ok (.iconst (-1), 1) := by decide +kernel
theorem dX10_setsOut_18 : decode cX10_setsOut 18 = .ok (.istore_n 3, 1) := by decide +kernel
theorem dX10_setsOut_19 : decode cX10_setsOut 19 = .ok (.iload_n 3, 1) := by decide +kernel
theorem dX10_setsOut_20 : decode cX10_setsOut 20 = .ok (.ifCond .ge 4, 3) := by decide +kernel
theorem dX10_setsOut_23 : decode cX10_setsOut 23 = .ok (.return_, 1) := by decide +kernel
theorem dX10_setsOut_24 : decode cX10_setsOut 24 = .ok (.aload_n 0, 1) := by decide +kernel
theorem dX10_setsOut_25 : decode cX10_setsOut 25 = .ok (.getfield 134, 3) := by decide +kernel
theorem dX10_setsOut_28 : decode cX10_setsOut 28 = .ok (.iload_n 1, 1) := by decide +kernel
theorem dX10_setsOut_29 : decode cX10_setsOut 29 = .ok (.iconst 1, 1) := by decide +kernel
theorem dX10_setsOut_30 : decode cX10_setsOut 30 = .ok (.iastore, 1) := by decide +kernel
theorem dX10_setsOut_31 : decode cX10_setsOut 31 = .ok (.aload_n 0, 1) := by decide +kernel
theorem dX10_setsOut_32 : decode cX10_setsOut 32 = .ok (.getfield 140, 3) := by decide +kernel
theorem dX10_setsOut_35 : decode cX10_setsOut 35 = .ok (.iload_n 1, 1) := by decide +kernel
theorem dX10_setsOut_36 : decode cX10_setsOut 36 = .ok (.iload_n 3, 1) := by decide +kernel
theorem dX10_setsOut_37 : decode cX10_setsOut 37 = .ok (.iastore, 1) := by decide +kernel
theorem dX10_setsOut_38 : decode cX10_setsOut 38 = .ok (.aload_n 0, 1) := by decide +kernel
theorem dX10_setsOut_39 : decode cX10_setsOut 39 = .ok (.getfield 137, 3) := by decide +kernel
theorem dX10_setsOut_42 : decode cX10_setsOut 42 = .ok (.iload_n 1, 1) := by decide +kernel
theorem dX10_setsOut_43 : decode cX10_setsOut 43 = .ok (.aload_n 0, 1) := by decide +kernel
theorem dX10_setsOut_44 : decode cX10_setsOut 44 = .ok (.getfield 47, 3) := by decide +kernel
theorem dX10_setsOut_47 : decode cX10_setsOut 47 = .ok (.bipush 6, 2) := by decide +kernel
theorem dX10_setsOut_49 : decode cX10_setsOut 49 = .ok (.iload_n 1, 1) := by decide +kernel
theorem dX10_setsOut_50 : decode cX10_setsOut 50 = .ok (.imul, 1) := by decide +kernel
theorem dX10_setsOut_51 : decode cX10_setsOut 51 = .ok (.iload_n 3, 1) := by decide +kernel
theorem dX10_setsOut_52 : decode cX10_setsOut 52 = .ok (.iadd, 1) := by decide +kernel
theorem dX10_setsOut_53 : decode cX10_setsOut 53 = .ok (.iaload, 1) := by decide +kernel
theorem dX10_setsOut_54 : decode cX10_setsOut 54 = .ok (.iastore, 1) := by decide +kernel
theorem dX10_setsOut_55 : decode cX10_setsOut 55 = .ok (.return_, 1) := by decide +kernel
def f_X10_setsOut  (a0 : Int32) (a1 : Int32) (u : PM) : Option (PM) :=
  (f_X10_sends a0 a1 u).bind fun (r1, u3) =>
  if r1 = 0 then
    some u3
  else
  (f_X10_whereTo a0 u3).bind fun r4 =>
  if 0 ≤ r4 then
    if a0 < 0 ∨ 6 ≤ a0.toNatClampNeg then none else
    if (((6 : Int32) * a0) + r4) < 0 ∨ 36 ≤ (((6 : Int32) * a0) + r4).toNatClampNeg then none else
    some (pi (pi (pi u3 (65, 0, 0) a0.toNatClampNeg (1 : Int32)) (67, 0, 0) a0.toNatClampNeg r4) (66, 0, 0) a0.toNatClampNeg (u3.1 (49, 0, 0) ((((6 : Int32) * a0) + r4).toNatClampNeg)))
  else
  some u3
set_option maxHeartbeats 4000000 in
set_option maxRecDepth 20000 in
theorem C_X10_setsOut {l : Launch}  {a0 : Int32} {a1 : Int32} {u : PM} {x : PM} (hf : f_X10_setsOut a0 a1 u = some x) : Ev l mX10_setsOut 6 0 0 false [vR (40, 0, 0), vI a0, vI a1] kM (en u) (none, kM, en x) := by
  refine Ev_of (by decide +kernel) (le_b rfl) ?_
  unfold f_X10_setsOut at hf
  show X l mX10_setsOut 6 0 0 false _ kM 0 0 0 [some (vR (40, 0, 0)), some (vI a0), some (vI a1), none] [] (en u)
  refine r_aload_n (x := (40, 0, 0)) dX10_setsOut_0 rfl ?_
  refine r_iload_n (x := a0) dX10_setsOut_1 rfl ?_
  refine r_iload_n (x := a1) dX10_setsOut_2 rfl ?_
  obtain ⟨⟨r1, u3⟩, hr2, hf⟩ := am_bind hf
  refine r_callV (as := [vI a0, vI a1]) (st := []) (n := 2) mw_X10_373 mv_X10_sends (C_X10_sends (l := l) hr2) (le_b rfl) dX10_setsOut_3 (kM_mem (s := 40) (by decide)) rfl rfl rfl (le_b rfl) (le_b rfl) (le_b rfl) ?_
  show X l _ _ 0 0 false _ kM 0 0 6 [some (vR (40, 0, 0)), some (vI a0), some (vI a1), none] [vI r1] (en u3)
  refine r_if_eq (tgt := 17) dX10_setsOut_6 (by decide) (fun hc => ?_) (fun hc => ?_)
  · have hf := (am_if hf).1 hc
    refine r_iconst (v := -1) dX10_setsOut_17 rfl ?_
    refine r_istore_n (L' := [some (vR (40, 0, 0)), some (vI a0), some (vI a1), some (vI (-1 : Int32))]) dX10_setsOut_18 (by decide) rfl ?_
    refine r_iload_n (x := (-1 : Int32)) dX10_setsOut_19 rfl ?_
    refine r_if_ge (tgt := 24) dX10_setsOut_20 (by decide) (fun hc => absurd hc (by decide)) (fun hc => ?_)
    have hx := am_inj hf
    subst hx
    exact r_vret dX10_setsOut_23 rfl (le_b rfl) (le_b rfl)
  · have hf := (am_if hf).2 hc
    refine r_aload_n (x := (40, 0, 0)) dX10_setsOut_9 rfl ?_
    refine r_iload_n (x := a0) dX10_setsOut_10 rfl ?_
    obtain ⟨r4, hr5, hf⟩ := am_bind hf
    refine r_callV (as := [vI a0]) (st := []) (n := 1) mw_X10_376 mv_X10_whereTo (C_X10_whereTo (l := l) hr5) (le_b rfl) dX10_setsOut_11 (kM_mem (s := 40) (by decide)) rfl rfl rfl (le_b rfl) (le_b rfl) (le_b rfl) ?_
    show X l _ _ 0 0 false _ kM 0 0 14 [some (vR (40, 0, 0)), some (vI a0), some (vI a1), none] [vI r4] (en u3)
    refine r_goto (tgt := 18) dX10_setsOut_14 (by decide) ?_
    refine r_istore_n (L' := [some (vR (40, 0, 0)), some (vI a0), some (vI a1), some (vI r4)]) dX10_setsOut_18 (by decide) rfl ?_
    refine r_iload_n (x := r4) dX10_setsOut_19 rfl ?_
    refine r_if_ge (tgt := 24) dX10_setsOut_20 (by decide) (fun hc => ?_) (fun hc => ?_)
    · have hf := (am_if hf).1 hc
      refine r_aload_n (x := (40, 0, 0)) dX10_setsOut_24 rfl ?_
      refine e_getr (z := some (65, 0, 0)) fw_X10_134 dX10_setsOut_25 (kM_mem (s := 40) (by decide)) rfl (lt_b rfl) rfl ?_
      refine r_iload_n (x := a0) dX10_setsOut_28 rfl ?_
      refine r_iconst (v := 1) dX10_setsOut_29 rfl ?_
      obtain ⟨h6, hf⟩ := am_nchk hf
      refine e_iast (n := a0.toNatClampNeg) dX10_setsOut_30 (kM_mem (s := 65) (by decide)) rfl h6 rfl ?_
      refine r_aload_n (x := (40, 0, 0)) dX10_setsOut_31 rfl ?_
      refine e_getr (z := some (67, 0, 0)) fw_X10_140 dX10_setsOut_32 (kM_mem (s := 40) (by decide)) rfl (lt_b rfl) rfl ?_
      refine r_iload_n (x := a0) dX10_setsOut_35 rfl ?_
      refine r_iload_n (x := r4) dX10_setsOut_36 rfl ?_
      refine e_iast (n := a0.toNatClampNeg) dX10_setsOut_37 (kM_mem (s := 67) (by decide)) rfl h6 rfl ?_
      refine r_aload_n (x := (40, 0, 0)) dX10_setsOut_38 rfl ?_
      refine e_getr (z := some (66, 0, 0)) fw_X10_137 dX10_setsOut_39 (kM_mem (s := 40) (by decide)) rfl (lt_b rfl) rfl ?_
      refine r_iload_n (x := a0) dX10_setsOut_42 rfl ?_
      refine r_aload_n (x := (40, 0, 0)) dX10_setsOut_43 rfl ?_
      refine e_getr (z := some (49, 0, 0)) fw_X10_47 dX10_setsOut_44 (kM_mem (s := 40) (by decide)) rfl (lt_b rfl) rfl ?_
      refine r_bipush (v := 6) dX10_setsOut_47 rfl ?_
      refine r_iload_n (x := a0) dX10_setsOut_49 rfl ?_
      refine r_imul dX10_setsOut_50 ?_
      refine r_iload_n (x := r4) dX10_setsOut_51 rfl ?_
      refine r_iadd dX10_setsOut_52 ?_
      obtain ⟨h7, hf⟩ := am_nchk hf
      refine e_iald (n := (((6 : Int32) * a0) + r4).toNatClampNeg) (x := u3.1 (49, 0, 0) ((((6 : Int32) * a0) + r4).toNatClampNeg)) dX10_setsOut_53 (kM_mem (s := 49) (by decide)) rfl h7 rfl (by simp [pi, pl, pr, pci, pcl]) ?_
      refine e_iast (n := a0.toNatClampNeg) dX10_setsOut_54 (kM_mem (s := 66) (by decide)) rfl h6 rfl ?_
      have hx := am_inj hf
      subst hx
      exact r_vret dX10_setsOut_55 rfl (le_b rfl) (le_b rfl)
    · have hf := (am_if hf).2 hc
      have hx := am_inj hf
      subst hx
      exact r_vret dX10_setsOut_23 rfl (le_b rfl) (le_b rfl)
/-! FireFromFireModel.walks -/
theorem dX10_walks_0 : decode cX10_walks 0 = .ok (.aload_n 0, 1) := by decide +kernel
theorem dX10_walks_1 : decode cX10_walks 1 = .ok (.getfield 137, 3) := by decide +kernel
theorem dX10_walks_4 : decode cX10_walks 4 = .ok (.iload_n 1, 1) := by decide +kernel
theorem dX10_walks_5 : decode cX10_walks 5 = .ok (.dup2, 1) := by decide +kernel
theorem dX10_walks_6 : decode cX10_walks 6 = .ok (.iaload, 1) := by decide +kernel
theorem dX10_walks_7 : decode cX10_walks 7 = .ok (.iconst 1, 1) := by decide +kernel
theorem dX10_walks_8 : decode cX10_walks 8 = .ok (.isub, 1) := by decide +kernel
theorem dX10_walks_9 : decode cX10_walks 9 = .ok (.iastore, 1) := by decide +kernel
theorem dX10_walks_10 : decode cX10_walks 10 = .ok (.aload_n 0, 1) := by decide +kernel
theorem dX10_walks_11 : decode cX10_walks 11 = .ok (.getfield 134, 3) := by decide +kernel
theorem dX10_walks_14 : decode cX10_walks 14 = .ok (.iload_n 1, 1) := by decide +kernel
theorem dX10_walks_15 : decode cX10_walks 15 = .ok (.iaload, 1) := by decide +kernel
theorem dX10_walks_16 : decode cX10_walks 16 = .ok (.iconst 1, 1) := by decide +kernel
theorem dX10_walks_17 : decode cX10_walks 17 = .ok (.if_icmp .ne 86, 3) := by decide +kernel
theorem dX10_walks_20 : decode cX10_walks 20 = .ok (.aload_n 0, 1) := by decide +kernel
theorem dX10_walks_21 : decode cX10_walks 21 = .ok (.getfield 137, 3) := by decide +kernel
theorem dX10_walks_24 : decode cX10_walks 24 = .ok (.iload_n 1, 1) := by decide +kernel
theorem dX10_walks_25 : decode cX10_walks 25 = .ok (.iaload, 1) := by decide +kernel
theorem dX10_walks_26 : decode cX10_walks 26 = .ok (.ifCond .le 4, 3) := by decide +kernel
theorem dX10_walks_29 : decode cX10_walks 29 = .ok (.return_, 1) := by decide +kernel
theorem dX10_walks_30 : decode cX10_walks 30 = .ok (.aload_n 0, 1) := by decide +kernel
theorem dX10_walks_31 : decode cX10_walks 31 = .ok (.aload_n 0, 1) := by decide +kernel
theorem dX10_walks_32 : decode cX10_walks 32 = .ok (.getfield 107, 3) := by decide +kernel
theorem dX10_walks_35 : decode cX10_walks 35 = .ok (.aload_n 0, 1) := by decide +kernel
theorem dX10_walks_36 : decode cX10_walks 36 = .ok (.getfield 140, 3) := by decide +kernel
theorem dX10_walks_39 : decode cX10_walks 39 = .ok (.iload_n 1, 1) := by decide +kernel
theorem dX10_walks_40 : decode cX10_walks 40 = .ok (.iaload, 1) := by decide +kernel
theorem dX10_walks_41 : decode cX10_walks 41 = .ok (.invokevirtual 275, 3) := by decide +kernel
theorem dX10_walks_44 : decode cX10_walks 44 = .ok (.istore_n 3, 1) := by decide +kernel
theorem dX10_walks_45 : decode cX10_walks 45 = .ok (.aload_n 0, 1) := by decide +kernel
theorem dX10_walks_46 : decode cX10_walks 46 = .ok (.getfield 47, 3) := by decide +kernel
theorem dX10_walks_49 : decode cX10_walks 49 = .ok (.bipush 6, 2) := by decide +kernel
theorem dX10_walks_51 : decode cX10_walks 51 = .ok (.iload_n 1, 1) := by decide +kernel
theorem dX10_walks_52 : decode cX10_walks 52 = .ok (.imul, 1) := by decide +kernel
theorem dX10_walks_53 : decode cX10_walks 53 = .ok (.aload_n 0, 1) := by decide +kernel
theorem dX10_walks_54 : decode cX10_walks 54 = .ok (.getfield 140, 3) := by decide +kernel
theorem dX10_walks_57 : decode cX10_walks 57 = .ok (.iload_n 1, 1) := by decide +kernel
theorem dX10_walks_58 : decode cX10_walks 58 = .ok (.iaload, 1) := by decide +kernel
theorem dX10_walks_59 : decode cX10_walks 59 = .ok (.iadd, 1) := by decide +kernel
theorem dX10_walks_60 : decode cX10_walks 60 = .ok (.iaload, 1) := by decide +kernel
theorem dX10_walks_61 : decode cX10_walks 61 = .ok (.istore 4, 2) := by decide +kernel
theorem dX10_walks_63 : decode cX10_walks 63 = .ok (.aload_n 0, 1) := by decide +kernel
theorem dX10_walks_64 : decode cX10_walks 64 = .ok (.getfield 134, 3) := by decide +kernel
theorem dX10_walks_67 : decode cX10_walks 67 = .ok (.iload_n 1, 1) := by decide +kernel
theorem dX10_walks_68 : decode cX10_walks 68 = .ok (.iload_n 3, 1) := by decide +kernel
theorem dX10_walks_69 : decode cX10_walks 69 = .ok (.ifCond .eq 7, 3) := by decide +kernel
theorem dX10_walks_72 : decode cX10_walks 72 = .ok (.iconst 2, 1) := by decide +kernel
theorem dX10_walks_73 : decode cX10_walks 73 = .ok (.goto 4, 3) := by decide +kernel
theorem dX10_walks_76 : decode cX10_walks 76 = .ok (.iconst 0, 1) := by decide +kernel
theorem dX10_walks_77 : decode cX10_walks 77 = .ok (.iastore, 1) := by decide +kernel
theorem dX10_walks_78 : decode cX10_walks 78 = .ok (.aload_n 0, 1) := by decide +kernel
theorem dX10_walks_79 : decode cX10_walks 79 = .ok (.getfield 137, 3) := by decide +kernel
theorem dX10_walks_82 : decode cX10_walks 82 = .ok (.iload_n 1, 1) := by decide +kernel
theorem dX10_walks_83 : decode cX10_walks 83 = .ok (.iload 4, 2) := by decide +kernel
theorem dX10_walks_85 : decode cX10_walks 85 = .ok (.ifCond .ne 7, 3) := by decide +kernel
theorem dX10_walks_88 : decode cX10_walks 88 = .ok (.iconst 1, 1) := by decide +kernel
theorem dX10_walks_89 : decode cX10_walks 89 = .ok (.goto 5, 3) := by decide +kernel
theorem dX10_walks_92 : decode cX10_walks 92 = .ok (.iload 4, 2) := by decide +kernel
theorem dX10_walks_94 : decode cX10_walks 94 = .ok (.iastore, 1) := by decide +kernel
theorem dX10_walks_95 : decode cX10_walks 95 = .ok (.aload_n 0, 1) := by decide +kernel
theorem dX10_walks_96 : decode cX10_walks 96 = .ok (.getfield 143, 3) := by decide +kernel
theorem dX10_walks_99 : decode cX10_walks 99 = .ok (.iload_n 1, 1) := by decide +kernel
theorem dX10_walks_100 : decode cX10_walks 100 = .ok (.iconst 0, 1) := by decide +kernel
theorem dX10_walks_101 : decode cX10_walks 101 = .ok (.iastore, 1) := by decide +kernel
theorem dX10_walks_102 : decode cX10_walks 102 = .ok (.return_, 1) := by decide +kernel
theorem dX10_walks_103 : decode cX10_walks 103 = .ok (.aload_n 0, 1) := by decide +kernel
theorem dX10_walks_104 : decode cX10_walks 104 = .ok (.getfield 143, 3) := by decide +kernel
theorem dX10_walks_107 : decode cX10_walks 107 = .ok (.iload_n 1, 1) := by decide +kernel
theorem dX10_walks_108 : decode cX10_walks 108 = .ok (.dup2, 1) := by decide +kernel
theorem dX10_walks_109 : decode cX10_walks 109 = .ok (.iaload, 1) := by decide +kernel
theorem dX10_walks_110 : decode cX10_walks 110 = .ok (.iconst 1, 1) := by decide +kernel
theorem dX10_walks_111 : decode cX10_walks 111 = .ok (.iadd, 1) := by decide +kernel
theorem dX10_walks_112 : decode cX10_walks 112 = .ok (.iastore, 1) := by decide +kernel
theorem dX10_walks_113 : decode cX10_walks 113 = .ok (.aload_n 0, 1) := by decide +kernel
theorem dX10_walks_114 : decode cX10_walks 114 = .ok (.getfield 143, 3) := by decide +kernel
theorem dX10_walks_117 : decode cX10_walks 117 = .ok (.iload_n 1, 1) := by decide +kernel
theorem dX10_walks_118 : decode cX10_walks 118 = .ok (.iaload, 1) := by decide +kernel
theorem dX10_walks_119 : decode cX10_walks 119 = .ok (.aload_n 0, 1) := by decide +kernel
theorem dX10_walks_120 : decode cX10_walks 120 = .ok (.iconst 2, 1) := by decide +kernel
theorem dX10_walks_121 : decode cX10_walks 121 = .ok (.iload_n 1, 1) := by decide +kernel
theorem dX10_walks_122 : decode cX10_walks 122 = .ok (.iload_n 2, 1) := by decide +kernel
theorem dX10_walks_123 : decode cX10_walks 123 = .ok (.invokevirtual 364, 3) := by decide +kernel
theorem dX10_walks_126 : decode cX10_walks 126 = .ok (.if_icmp .le 13, 3) := by decide +kernel
theorem dX10_walks_129 : decode cX10_walks 129 = .ok (.aload_n 0, 1) := by decide +kernel
theorem dX10_walks_130 : decode cX10_walks 130 = .ok (.getfield 134, 3) := by decide +kernel
theorem dX10_walks_133 : decode cX10_walks 133 = .ok (.iload_n 1, 1) := by decide +kernel
theorem dX10_walks_134 : decode cX10_walks 134 = .ok (.iconst 0, 1) := by decide +kernel
theorem dX10_walks_135 : decode cX10_walks 135 = .ok (.iastore, 1) := by decide +kernel
theorem dX10_walks_136 : decode cX10_walks 136 = .ok (.goto 31, 3) := by decide +kernel
theorem dX10_walks_139 : decode cX10_walks 139 = .ok (.aload_n 0, 1) := by decide +kernel
theorem dX10_walks_140 : decode cX10_walks 140 = .ok (.getfield 137, 3) := by decide +kernel
theorem dX10_walks_143 : decode cX10_walks 143 = .ok (.iload_n 1, 1) := by decide +kernel
theorem dX10_walks_144 : decode cX10_walks 144 = .ok (.iaload, 1) := by decide +kernel
theorem dX10_walks_145 : decode cX10_walks 145 = .ok (.ifCond .gt 22, 3) := by decide +kernel
theorem dX10_walks_148 : decode cX10_walks 148 = .ok (.aload_n 0, 1) := by decide +kernel
theorem dX10_walks_149 : decode cX10_walks 149 = .ok (.getfield 134, 3) := by decide +kernel
theorem dX10_walks_152 : decode cX10_walks 152 = .ok (.iload_n 1, 1) := by decide +kernel
theorem dX10_walks_153 : decode cX10_walks 153 = .ok (.iconst 0, 1) := by decide +kernel
theorem dX10_walks_154 : decode cX10_walks 154 = .ok (.iastore, 1) := by decide +kernel
theorem dX10_walks_155 : decode cX10_walks 155 = .ok (.aload_n 0, 1) := by decide +kernel
theorem dX10_walks_156 : decode cX10_walks 156 = .ok (.dup, 1) := by decide +kernel
theorem dX10_walks_157 : decode cX10_walks 157 = .ok (.getfield 107, 3) := by decide +kernel
theorem dX10_walks_160 : decode cX10_walks 160 = .ok (.iconst 1, 1) := by decide +kernel
theorem dX10_walks_161 : decode cX10_walks 161 = .ok (.iload_n 1, 1) := by decide +kernel
theorem dX10_walks_162 : decode cX10_walks 162 = .ok (.ishl, 1) := by decide +kernel
theorem dX10_walks_163 : decode cX10_walks 163 = .ok (.ior, 1) := by decide +kernel
theorem dX10_walks_164 : decode cX10_walks 164 = .ok (.putfield 107, 3) := by decide +kernel
theorem dX10_walks_167 : decode cX10_walks 167 = .ok (.return_, 1) := by decide +kernel
def f_X10_walks  (a0 : Int32) (a1 : Int32) (u : PM) : Option (PM) :=
  if a0 < 0 ∨ 6 ≤ a0.toNatClampNeg then none else
  if (u.1 (65, 0, 0) a0.toNatClampNeg) = (1 : Int32) then
    if ((u.1 (66, 0, 0) a0.toNatClampNeg) - (1 : Int32)) ≤ 0 then
      (f_X10_has (u.1 (40, 0, 0) 32) (u.1 (67, 0, 0) a0.toNatClampNeg) (pi u (66, 0, 0) a0.toNatClampNeg ((u.1 (66, 0, 0) a0.toNatClampNeg) - (1 : Int32)))).bind fun r5 =>
      if (((6 : Int32) * a0) + (u.1 (67, 0, 0) a0.toNatClampNeg)) < 0 ∨ 36 ≤ (((6 : Int32) * a0) + (u.1 (67, 0, 0) a0.toNatClampNeg)).toNatClampNeg then none else
      if r5 = 0 then
        if (u.1 (49, 0, 0) ((((6 : Int32) * a0) + (u.1 (67, 0, 0) a0.toNatClampNeg)).toNatClampNeg)) = 0 then
          some (pi (pi (pi (pi u (66, 0, 0) a0.toNatClampNeg ((u.1 (66, 0, 0) a0.toNatClampNeg) - (1 : Int32))) (65, 0, 0) a0.toNatClampNeg (0 : Int32)) (66, 0, 0) a0.toNatClampNeg (1 : Int32)) (68, 0, 0) a0.toNatClampNeg (0 : Int32))
        else
        some (pi (pi (pi (pi u (66, 0, 0) a0.toNatClampNeg ((u.1 (66, 0, 0) a0.toNatClampNeg) - (1 : Int32))) (65, 0, 0) a0.toNatClampNeg (0 : Int32)) (66, 0, 0) a0.toNatClampNeg (u.1 (49, 0, 0) ((((6 : Int32) * a0) + (u.1 (67, 0, 0) a0.toNatClampNeg)).toNatClampNeg))) (68, 0, 0) a0.toNatClampNeg (0 : Int32))
      else
      if (u.1 (49, 0, 0) ((((6 : Int32) * a0) + (u.1 (67, 0, 0) a0.toNatClampNeg)).toNatClampNeg)) = 0 then
        some (pi (pi (pi (pi u (66, 0, 0) a0.toNatClampNeg ((u.1 (66, 0, 0) a0.toNatClampNeg) - (1 : Int32))) (65, 0, 0) a0.toNatClampNeg (2 : Int32)) (66, 0, 0) a0.toNatClampNeg (1 : Int32)) (68, 0, 0) a0.toNatClampNeg (0 : Int32))
      else
      some (pi (pi (pi (pi u (66, 0, 0) a0.toNatClampNeg ((u.1 (66, 0, 0) a0.toNatClampNeg) - (1 : Int32))) (65, 0, 0) a0.toNatClampNeg (2 : Int32)) (66, 0, 0) a0.toNatClampNeg (u.1 (49, 0, 0) ((((6 : Int32) * a0) + (u.1 (67, 0, 0) a0.toNatClampNeg)).toNatClampNeg))) (68, 0, 0) a0.toNatClampNeg (0 : Int32))
    else
    some (pi u (66, 0, 0) a0.toNatClampNeg ((u.1 (66, 0, 0) a0.toNatClampNeg) - (1 : Int32)))
  else
  (f_X10_sumOf (2 : Int32) a0 a1 (pi (pi u (66, 0, 0) a0.toNatClampNeg ((u.1 (66, 0, 0) a0.toNatClampNeg) - (1 : Int32))) (68, 0, 0) a0.toNatClampNeg ((u.1 (68, 0, 0) a0.toNatClampNeg) + (1 : Int32)))).bind fun (r2, u4) =>
  if ((u.1 (68, 0, 0) a0.toNatClampNeg) + (1 : Int32)) ≤ r2 then
    if 0 < (u4.1 (66, 0, 0) a0.toNatClampNeg) then
      some u4
    else
    some (pi (pi u4 (65, 0, 0) a0.toNatClampNeg (0 : Int32)) (40, 0, 0) 32 ((u4.1 (40, 0, 0) 32) ||| ((1 : Int32) <<< (a0 &&& 31))))
  else
  some (pi u4 (65, 0, 0) a0.toNatClampNeg (0 : Int32))
set_option maxHeartbeats 4000000 in
set_option maxRecDepth 20000 in
theorem C_X10_walks {l : Launch}  {a0 : Int32} {a1 : Int32} {u : PM} {x : PM} (hf : f_X10_walks a0 a1 u = some x) : Ev l mX10_walks 5 0 0 false [vR (40, 0, 0), vI a0, vI a1] kM (en u) (none, kM, en x) := by
  refine Ev_of (by decide +kernel) (le_b rfl) ?_
  unfold f_X10_walks at hf
  show X l mX10_walks 5 0 0 false _ kM 0 0 0 [some (vR (40, 0, 0)), some (vI a0), some (vI a1), none, none] [] (en u)
  refine r_aload_n (x := (40, 0, 0)) dX10_walks_0 rfl ?_
  refine e_getr (z := some (66, 0, 0)) fw_X10_137 dX10_walks_1 (kM_mem (s := 40) (by decide)) rfl (lt_b rfl) rfl ?_
  refine r_iload_n (x := a0) dX10_walks_4 rfl ?_
  refine r_dup2 dX10_walks_5 rfl rfl ?_
  obtain ⟨h1, hf⟩ := am_nchk hf
  refine e_iald (n := a0.toNatClampNeg) dX10_walks_6 (kM_mem (s := 66) (by decide)) rfl h1 rfl rfl ?_
  refine r_iconst (v := 1) dX10_walks_7 rfl ?_
  refine r_isub dX10_walks_8 ?_
  refine e_iast (n := a0.toNatClampNeg) dX10_walks_9 (kM_mem (s := 66) (by decide)) rfl h1 rfl ?_
  refine r_aload_n (x := (40, 0, 0)) dX10_walks_10 rfl ?_
  refine e_getr (z := some (65, 0, 0)) fw_X10_134 dX10_walks_11 (kM_mem (s := 40) (by decide)) rfl (lt_b rfl) rfl ?_
  refine r_iload_n (x := a0) dX10_walks_14 rfl ?_
  refine e_iald (n := a0.toNatClampNeg) (x := u.1 (65, 0, 0) a0.toNatClampNeg) dX10_walks_15 (kM_mem (s := 65) (by decide)) rfl h1 rfl (by simp [pi, pl, pr, pci, pcl]) ?_
  refine r_iconst (v := 1) dX10_walks_16 rfl ?_
  refine r_icmp_ne (tgt := 103) dX10_walks_17 (by decide) (fun hc => ?_) (fun hc => ?_)
  · have hf := (am_if hf).2 hc
    refine r_aload_n (x := (40, 0, 0)) dX10_walks_103 rfl ?_
    refine e_getr (z := some (68, 0, 0)) fw_X10_143 dX10_walks_104 (kM_mem (s := 40) (by decide)) rfl (lt_b rfl) rfl ?_
    refine r_iload_n (x := a0) dX10_walks_107 rfl ?_
    refine r_dup2 dX10_walks_108 rfl rfl ?_
    refine e_iald (n := a0.toNatClampNeg) (x := u.1 (68, 0, 0) a0.toNatClampNeg) dX10_walks_109 (kM_mem (s := 68) (by decide)) rfl h1 rfl (by simp [pi, pl, pr, pci, pcl]) ?_
    refine r_iconst (v := 1) dX10_walks_110 rfl ?_
    refine r_iadd dX10_walks_111 ?_
    refine e_iast (n := a0.toNatClampNeg) dX10_walks_112 (kM_mem (s := 68) (by decide)) rfl h1 rfl ?_
    refine r_aload_n (x := (40, 0, 0)) dX10_walks_113 rfl ?_
    refine e_getr (z := some (68, 0, 0)) fw_X10_143 dX10_walks_114 (kM_mem (s := 40) (by decide)) rfl (lt_b rfl) rfl ?_
    refine r_iload_n (x := a0) dX10_walks_117 rfl ?_
    refine e_iald (n := a0.toNatClampNeg) (x := (u.1 (68, 0, 0) a0.toNatClampNeg) + (1 : Int32)) dX10_walks_118 (kM_mem (s := 68) (by decide)) rfl h1 rfl (by simp [pi, pl, pr, pci, pcl]) ?_
    refine r_aload_n (x := (40, 0, 0)) dX10_walks_119 rfl ?_
    refine r_iconst (v := 2) dX10_walks_120 rfl ?_
    refine r_iload_n (x := a0) dX10_walks_121 rfl ?_
    refine r_iload_n (x := a1) dX10_walks_122 rfl ?_
    obtain ⟨⟨r2, u4⟩, hr3, hf⟩ := am_bind hf
    refine r_callV (as := [vI (2 : Int32), vI a0, vI a1]) (st := [vI ((u.1 (68, 0, 0) a0.toNatClampNeg) + (1 : Int32))]) (n := 3) mw_X10_364 mv_X10_sumOf (C_X10_sumOf (l := l) hr3) (le_b rfl) dX10_walks_123 (kM_mem (s := 40) (by decide)) rfl rfl rfl (le_b rfl) (le_b rfl) (le_b rfl) ?_
    show X l _ _ 0 0 false _ kM 0 0 126 [some (vR (40, 0, 0)), some (vI a0), some (vI a1), none, none] [vI r2, vI ((u.1 (68, 0, 0) a0.toNatClampNeg) + (1 : Int32))] (en u4)
    refine r_icmp_le (tgt := 139) dX10_walks_126 (by decide) (fun hc => ?_) (fun hc => ?_)
    · have hf := (am_if hf).1 hc
      refine r_aload_n (x := (40, 0, 0)) dX10_walks_139 rfl ?_
      refine e_getr (z := some (66, 0, 0)) fw_X10_137 dX10_walks_140 (kM_mem (s := 40) (by decide)) rfl (lt_b rfl) rfl ?_
      refine r_iload_n (x := a0) dX10_walks_143 rfl ?_
      refine e_iald (n := a0.toNatClampNeg) dX10_walks_144 (kM_mem (s := 66) (by decide)) rfl h1 rfl rfl ?_
      refine r_if_gt (tgt := 167) dX10_walks_145 (by decide) (fun hc => ?_) (fun hc => ?_)
      · have hf := (am_if hf).1 hc
        have hx := am_inj hf
        subst hx
        exact r_vret dX10_walks_167 rfl (le_b rfl) (le_b rfl)
      · have hf := (am_if hf).2 hc
        refine r_aload_n (x := (40, 0, 0)) dX10_walks_148 rfl ?_
        refine e_getr (z := some (65, 0, 0)) fw_X10_134 dX10_walks_149 (kM_mem (s := 40) (by decide)) rfl (lt_b rfl) rfl ?_
        refine r_iload_n (x := a0) dX10_walks_152 rfl ?_
        refine r_iconst (v := 0) dX10_walks_153 rfl ?_
        refine e_iast (n := a0.toNatClampNeg) dX10_walks_154 (kM_mem (s := 65) (by decide)) rfl h1 rfl ?_
        refine r_aload_n (x := (40, 0, 0)) dX10_walks_155 rfl ?_
        refine r_dup dX10_walks_156 rfl ?_
        refine e_geti_ (x := u4.1 (40, 0, 0) 32) fw_X10_107 dX10_walks_157 (kM_mem (s := 40) (by decide)) rfl (lt_b rfl) (by simp [pi, pl, pr, pci, pcl]) ?_
        refine r_iconst (v := 1) dX10_walks_160 rfl ?_
        refine r_iload_n (x := a0) dX10_walks_161 rfl ?_
        refine r_ishl dX10_walks_162 ?_
        refine r_ior dX10_walks_163 ?_
        refine e_puti fp_X10_107 dX10_walks_164 (kM_mem (s := 40) (by decide)) rfl (lt_b rfl) rfl rfl rfl ?_
        have hx := am_inj hf
        subst hx
        exact r_vret dX10_walks_167 rfl (le_b rfl) (le_b rfl)
    · have hf := (am_if hf).2 hc
      refine r_aload_n (x := (40, 0, 0)) dX10_walks_129 rfl ?_
      refine e_getr (z := some (65, 0, 0)) fw_X10_134 dX10_walks_130 (kM_mem (s := 40) (by decide)) rfl (lt_b rfl) rfl ?_
      refine r_iload_n (x := a0) dX10_walks_133 rfl ?_
      refine r_iconst (v := 0) dX10_walks_134 rfl ?_
      refine e_iast (n := a0.toNatClampNeg) dX10_walks_135 (kM_mem (s := 65) (by decide)) rfl h1 rfl ?_
      refine r_goto (tgt := 167) dX10_walks_136 (by decide) ?_
      have hx := am_inj hf
      subst hx
      exact r_vret dX10_walks_167 rfl (le_b rfl) (le_b rfl)
  · have hf := (am_if hf).1 hc
    refine r_aload_n (x := (40, 0, 0)) dX10_walks_20 rfl ?_
    refine e_getr (z := some (66, 0, 0)) fw_X10_137 dX10_walks_21 (kM_mem (s := 40) (by decide)) rfl (lt_b rfl) rfl ?_
    refine r_iload_n (x := a0) dX10_walks_24 rfl ?_
    refine e_iald (n := a0.toNatClampNeg) (x := (u.1 (66, 0, 0) a0.toNatClampNeg) - (1 : Int32)) dX10_walks_25 (kM_mem (s := 66) (by decide)) rfl h1 rfl (by simp [pi, pl, pr, pci, pcl]) ?_
    refine r_if_le (tgt := 30) dX10_walks_26 (by decide) (fun hc => ?_) (fun hc => ?_)
    · have hf := (am_if hf).1 hc
      refine r_aload_n (x := (40, 0, 0)) dX10_walks_30 rfl ?_
      refine r_aload_n (x := (40, 0, 0)) dX10_walks_31 rfl ?_
      refine e_geti_ (x := u.1 (40, 0, 0) 32) fw_X10_107 dX10_walks_32 (kM_mem (s := 40) (by decide)) rfl (lt_b rfl) (by simp [pi, pl, pr, pci, pcl]) ?_
      refine r_aload_n (x := (40, 0, 0)) dX10_walks_35 rfl ?_
      refine e_getr (z := some (67, 0, 0)) fw_X10_140 dX10_walks_36 (kM_mem (s := 40) (by decide)) rfl (lt_b rfl) rfl ?_
      refine r_iload_n (x := a0) dX10_walks_39 rfl ?_
      refine e_iald (n := a0.toNatClampNeg) (x := u.1 (67, 0, 0) a0.toNatClampNeg) dX10_walks_40 (kM_mem (s := 67) (by decide)) rfl h1 rfl (by simp [pi, pl, pr, pci, pcl]) ?_
      obtain ⟨r5, hr6, hf⟩ := am_bind hf
      refine r_callV (as := [vI (u.1 (40, 0, 0) 32), vI (u.1 (67, 0, 0) a0.toNatClampNeg)]) (st := []) (n := 2) mw_X10_275 mv_X10_has (C_X10_has (l := l) hr6) (le_b rfl) dX10_walks_41 (kM_mem (s := 40) (by decide)) rfl rfl rfl (le_b rfl) (le_b rfl) (le_b rfl) ?_
      show X l _ _ 0 0 false _ kM 0 0 44 [some (vR (40, 0, 0)), some (vI a0), some (vI a1), none, none] [vI r5] (en (pi u (66, 0, 0) a0.toNatClampNeg ((u.1 (66, 0, 0) a0.toNatClampNeg) - (1 : Int32))))
      refine r_istore_n (L' := [some (vR (40, 0, 0)), some (vI a0), some (vI a1), some (vI r5), none]) dX10_walks_44 (by decide) rfl ?_
      refine r_aload_n (x := (40, 0, 0)) dX10_walks_45 rfl ?_
      refine e_getr (z := some (49, 0, 0)) fw_X10_47 dX10_walks_46 (kM_mem (s := 40) (by decide)) rfl (lt_b rfl) rfl ?_
      refine r_bipush (v := 6) dX10_walks_49 rfl ?_
      refine r_iload_n (x := a0) dX10_walks_51 rfl ?_
      refine r_imul dX10_walks_52 ?_
      refine r_aload_n (x := (40, 0, 0)) dX10_walks_53 rfl ?_
      refine e_getr (z := some (67, 0, 0)) fw_X10_140 dX10_walks_54 (kM_mem (s := 40) (by decide)) rfl (lt_b rfl) rfl ?_
      refine r_iload_n (x := a0) dX10_walks_57 rfl ?_
      refine e_iald (n := a0.toNatClampNeg) (x := u.1 (67, 0, 0) a0.toNatClampNeg) dX10_walks_58 (kM_mem (s := 67) (by decide)) rfl h1 rfl (by simp [pi, pl, pr, pci, pcl]) ?_
      refine r_iadd dX10_walks_59 ?_
      obtain ⟨h7, hf⟩ := am_nchk hf
      refine e_iald (n := (((6 : Int32) * a0) + (u.1 (67, 0, 0) a0.toNatClampNeg)).toNatClampNeg) (x := u.1 (49, 0, 0) ((((6 : Int32) * a0) + (u.1 (67, 0, 0) a0.toNatClampNeg)).toNatClampNeg)) dX10_walks_60 (kM_mem (s := 49) (by decide)) rfl h7 rfl (by simp [pi, pl, pr, pci, pcl]) ?_
      refine r_istore (L' := [some (vR (40, 0, 0)), some (vI a0), some (vI a1), some (vI r5), some (vI (u.1 (49, 0, 0) ((((6 : Int32) * a0) + (u.1 (67, 0, 0) a0.toNatClampNeg)).toNatClampNeg)))]) dX10_walks_61 (by decide) rfl ?_
      refine r_aload_n (x := (40, 0, 0)) dX10_walks_63 rfl ?_
      refine e_getr (z := some (65, 0, 0)) fw_X10_134 dX10_walks_64 (kM_mem (s := 40) (by decide)) rfl (lt_b rfl) rfl ?_
      refine r_iload_n (x := a0) dX10_walks_67 rfl ?_
      refine r_iload_n (x := r5) dX10_walks_68 rfl ?_
      refine r_if_eq (tgt := 76) dX10_walks_69 (by decide) (fun hc => ?_) (fun hc => ?_)
      · have hf := (am_if hf).1 hc
        refine r_iconst (v := 0) dX10_walks_76 rfl ?_
        refine e_iast (n := a0.toNatClampNeg) dX10_walks_77 (kM_mem (s := 65) (by decide)) rfl h1 rfl ?_
        refine r_aload_n (x := (40, 0, 0)) dX10_walks_78 rfl ?_
        refine e_getr (z := some (66, 0, 0)) fw_X10_137 dX10_walks_79 (kM_mem (s := 40) (by decide)) rfl (lt_b rfl) rfl ?_
        refine r_iload_n (x := a0) dX10_walks_82 rfl ?_
        refine r_iload (x := u.1 (49, 0, 0) ((((6 : Int32) * a0) + (u.1 (67, 0, 0) a0.toNatClampNeg)).toNatClampNeg)) dX10_walks_83 rfl ?_
        refine r_if_ne (tgt := 92) dX10_walks_85 (by decide) (fun hc => ?_) (fun hc => ?_)
        · have hf := (am_if hf).2 hc
          refine r_iload (x := u.1 (49, 0, 0) ((((6 : Int32) * a0) + (u.1 (67, 0, 0) a0.toNatClampNeg)).toNatClampNeg)) dX10_walks_92 rfl ?_
          refine e_iast (n := a0.toNatClampNeg) dX10_walks_94 (kM_mem (s := 66) (by decide)) rfl h1 rfl ?_
          refine r_aload_n (x := (40, 0, 0)) dX10_walks_95 rfl ?_
          refine e_getr (z := some (68, 0, 0)) fw_X10_143 dX10_walks_96 (kM_mem (s := 40) (by decide)) rfl (lt_b rfl) rfl ?_
          refine r_iload_n (x := a0) dX10_walks_99 rfl ?_
          refine r_iconst (v := 0) dX10_walks_100 rfl ?_
          refine e_iast (n := a0.toNatClampNeg) dX10_walks_101 (kM_mem (s := 68) (by decide)) rfl h1 rfl ?_
          have hx := am_inj hf
          subst hx
          exact r_vret dX10_walks_102 rfl (le_b rfl) (le_b rfl)
        · have hf := (am_if hf).1 hc
          refine r_iconst (v := 1) dX10_walks_88 rfl ?_
          refine r_goto (tgt := 94) dX10_walks_89 (by decide) ?_
          refine e_iast (n := a0.toNatClampNeg) dX10_walks_94 (kM_mem (s := 66) (by decide)) rfl h1 rfl ?_
          refine r_aload_n (x := (40, 0, 0)) dX10_walks_95 rfl ?_
          refine e_getr (z := some (68, 0, 0)) fw_X10_143 dX10_walks_96 (kM_mem (s := 40) (by decide)) rfl (lt_b rfl) rfl ?_
          refine r_iload_n (x := a0) dX10_walks_99 rfl ?_
          refine r_iconst (v := 0) dX10_walks_100 rfl ?_
          refine e_iast (n := a0.toNatClampNeg) dX10_walks_101 (kM_mem (s := 68) (by decide)) rfl h1 rfl ?_
          have hx := am_inj hf
          subst hx
          exact r_vret dX10_walks_102 rfl (le_b rfl) (le_b rfl)
      · have hf := (am_if hf).2 hc
        refine r_iconst (v := 2) dX10_walks_72 rfl ?_
        refine r_goto (tgt := 77) dX10_walks_73 (by decide) ?_
        refine e_iast (n := a0.toNatClampNeg) dX10_walks_77 (kM_mem (s := 65) (by decide)) rfl h1 rfl ?_
        refine r_aload_n (x := (40, 0, 0)) dX10_walks_78 rfl ?_
        refine e_getr (z := some (66, 0, 0)) fw_X10_137 dX10_walks_79 (kM_mem (s := 40) (by decide)) rfl (lt_b rfl) rfl ?_
        refine r_iload_n (x := a0) dX10_walks_82 rfl ?_
        refine r_iload (x := u.1 (49, 0, 0) ((((6 : Int32) * a0) + (u.1 (67, 0, 0) a0.toNatClampNeg)).toNatClampNeg)) dX10_walks_83 rfl ?_
        refine r_if_ne (tgt := 92) dX10_walks_85 (by decide) (fun hc => ?_) (fun hc => ?_)
        · have hf := (am_if hf).2 hc
          refine r_iload (x := u.1 (49, 0, 0) ((((6 : Int32) * a0) + (u.1 (67, 0, 0) a0.toNatClampNeg)).toNatClampNeg)) dX10_walks_92 rfl ?_
          refine e_iast (n := a0.toNatClampNeg) dX10_walks_94 (kM_mem (s := 66) (by decide)) rfl h1 rfl ?_
          refine r_aload_n (x := (40, 0, 0)) dX10_walks_95 rfl ?_
          refine e_getr (z := some (68, 0, 0)) fw_X10_143 dX10_walks_96 (kM_mem (s := 40) (by decide)) rfl (lt_b rfl) rfl ?_
          refine r_iload_n (x := a0) dX10_walks_99 rfl ?_
          refine r_iconst (v := 0) dX10_walks_100 rfl ?_
          refine e_iast (n := a0.toNatClampNeg) dX10_walks_101 (kM_mem (s := 68) (by decide)) rfl h1 rfl ?_
          have hx := am_inj hf
          subst hx
          exact r_vret dX10_walks_102 rfl (le_b rfl) (le_b rfl)
        · have hf := (am_if hf).1 hc
          refine r_iconst (v := 1) dX10_walks_88 rfl ?_
          refine r_goto (tgt := 94) dX10_walks_89 (by decide) ?_
          refine e_iast (n := a0.toNatClampNeg) dX10_walks_94 (kM_mem (s := 66) (by decide)) rfl h1 rfl ?_
          refine r_aload_n (x := (40, 0, 0)) dX10_walks_95 rfl ?_
          refine e_getr (z := some (68, 0, 0)) fw_X10_143 dX10_walks_96 (kM_mem (s := 40) (by decide)) rfl (lt_b rfl) rfl ?_
          refine r_iload_n (x := a0) dX10_walks_99 rfl ?_
          refine r_iconst (v := 0) dX10_walks_100 rfl ?_
          refine e_iast (n := a0.toNatClampNeg) dX10_walks_101 (kM_mem (s := 68) (by decide)) rfl h1 rfl ?_
          have hx := am_inj hf
          subst hx
          exact r_vret dX10_walks_102 rfl (le_b rfl) (le_b rfl)
    · have hf := (am_if hf).2 hc
      have hx := am_inj hf
      subst hx
      exact r_vret dX10_walks_29 rfl (le_b rfl) (le_b rfl)
