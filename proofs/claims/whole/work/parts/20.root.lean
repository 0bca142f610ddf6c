/-! FireFromFire.house -/
theorem dX9_house_0 : decode cX9_house 0 = .ok (.iload_n 1, 1) := by decide +kernel
theorem dX9_house_1 : decode cX9_house 1 = .ok (.ifCond .lt 9, 3) := by decide +kernel
theorem dX9_house_4 : decode cX9_house 4 = .ok (.iload_n 1, 1) := by decide +kernel
theorem dX9_house_5 : decode cX9_house 5 = .ok (.bipush 99, 2) := by decide +kernel
theorem dX9_house_7 : decode cX9_house 7 = .ok (.if_icmp .le 6, 3) := by decide +kernel
theorem dX9_house_10 : decode cX9_house 10 = .ok (.bipush (-2), 2) := by decide +kernel
theorem dX9_house_12 : decode cX9_house 12 = .ok (.ireturn, 1) := by decide +kernel
theorem dX9_house_13 : decode cX9_house 13 = .ok (.aload_n 0, 1) := by decide +kernel
theorem dX9_house_14 : decode cX9_house 14 = .ok (.getfield 14, 3) := by decide +kernel
theorem dX9_house_17 : decode cX9_house 17 = .ok (.getfield 81, 3) := by decide +kernel
theorem dX9_house_20 : decode cX9_house 20 = .ok (.ifCond .lt 15, 3) := by decide +kernel
theorem dX9_house_23 : decode cX9_house 23 = .ok (.aload_n 0, 1) := by decide +kernel
theorem dX9_house_24 : decode cX9_house 24 = .ok (.getfield 14, 3) := by decide +kernel
theorem dX9_house_27 : decode cX9_house 27 = .ok (.getfield 81, 3) := by decide +kernel
theorem dX9_house_30 : decode cX9_house 30 = .ok (.bipush 6, 2) := by decide +kernel
theorem dX9_house_32 : decode cX9_house 32 = .ok (.if_icmp .lt 6, 3) := by decide +kernel
theorem dX9_house_35 : decode cX9_house 35 = .ok (.bipush (-4), 2) := by decide +kernel
theorem dX9_house_37 : decode cX9_house 37 = .ok (.ireturn, 1) := by decide +kernel
theorem dX9_house_38 : decode cX9_house 38 = .ok (.aload_n 0, 1) := by decide +kernel
theorem dX9_house_39 : decode cX9_house 39 = .ok (.getfield 14, 3) := by decide +kernel
theorem dX9_house_42 : decode cX9_house 42 = .ok (.getfield 84, 3) := by decide +kernel
theorem dX9_house_45 : decode cX9_house 45 = .ok (.aload_n 0, 1) := by decide +kernel
theorem dX9_house_46 : decode cX9_house 46 = .ok (.getfield 14, 3) := by decide +kernel
theorem dX9_house_49 : decode cX9_house 49 = .ok (.getfield 81, 3) := by decide +kernel
theorem dX9_house_52 : decode cX9_house 52 = .ok (.aaload, 1) := by decide +kernel
theorem dX9_house_53 : decode cX9_house 53 = .ok (.iload_n 1, 1) := by decide +kernel
theorem dX9_house_54 : decode cX9_house 54 = .ok (.iload_n 2, 1) := by decide +kernel
theorem dX9_house_55 : decode cX9_house 55 = .ok (.invokevirtual 88, 3) := by decide +kernel
theorem dX9_house_58 : decode cX9_house 58 = .ok (.aload_n 0, 1) := by decide +kernel
theorem dX9_house_59 : decode cX9_house 59 = .ok (.getfield 14, 3) := by decide +kernel
theorem dX9_house_62 : decode cX9_house 62 = .ok (.dup, 1) := by decide +kernel
theorem dX9_house_63 : decode cX9_house 63 = .ok (.getfield 81, 3) := by decide +kernel
theorem dX9_house_66 : decode cX9_house 66 = .ok (.dup_x1, 1) := by decide +kernel
theorem dX9_house_67 : decode cX9_house 67 = .ok (.iconst 1, 1) := by decide +kernel
theorem dX9_house_68 : decode cX9_house 68 = .ok (.iadd, 1) := by decide +kernel
theorem dX9_house_69 : decode cX9_house 69 = .ok (.putfield 81, 3) := by decide +kernel
theorem dX9_house_72 : decode cX9_house 72 = .ok (.ireturn, 1) := by decide +kernel
def f_X9_house  (a0 : Int32) (a1 : Int32) (u : PM) : Option (Int32 × PM) :=
  if a0 < 0 then
    some ((-2 : Int32), u)
  else
  if a0 ≤ (99 : Int32) then
    if (u.1 (1, 0, 0) 0) < 0 then
      some ((-4 : Int32), u)
    else
    if (u.1 (1, 0, 0) 0) < (6 : Int32) then
      if (u.1 (1, 0, 0) 0) < 0 ∨ 6 ≤ (u.1 (1, 0, 0) 0).toNatClampNeg then none else
      (f_X2_start 0 ((u.1 (1, 0, 0) 0).toNatClampNeg) a0 a1 u).bind fun r2 =>
      some (r2.1 (1, 0, 0) 0, (pi r2 (1, 0, 0) 0 ((r2.1 (1, 0, 0) 0) + (1 : Int32))))
    else
    some ((-4 : Int32), u)
  else
  some ((-2 : Int32), u)
set_option maxHeartbeats 4000000 in
set_option maxRecDepth 20000 in
theorem C_X9_house {l : Launch}  {a0 : Int32} {a1 : Int32} {u : PM} {x : Int32 × PM} (hf : f_X9_house a0 a1 u = some x) : Ev l mX9_house 3 0 0 false [vR (0, 0, 0), vI a0, vI a1] kC (en u) (some (vI x.1), kC, en x.2) := by
  refine Ev_of (by decide +kernel) (le_b rfl) ?_
  unfold f_X9_house at hf
  show X l mX9_house 3 0 0 false _ kC 0 0 0 [some (vR (0, 0, 0)), some (vI a0), some (vI a1)] [] (en u)
  refine r_iload_n (x := a0) dX9_house_0 rfl ?_
  refine r_if_lt (tgt := 10) dX9_house_1 (by decide) (fun hc => ?_) (fun hc => ?_)
  · have hf := (am_if hf).1 hc
    refine r_bipush (v := -2) dX9_house_10 rfl ?_
    have hx := am_inj hf
    subst hx
    exact r_iret dX9_house_12 rfl rfl (le_b rfl) (le_b rfl)
  · have hf := (am_if hf).2 hc
    refine r_iload_n (x := a0) dX9_house_4 rfl ?_
    refine r_bipush (v := 99) dX9_house_5 rfl ?_
    refine r_icmp_le (tgt := 13) dX9_house_7 (by decide) (fun hc => ?_) (fun hc => ?_)
    · have hf := (am_if hf).1 hc
      refine r_aload_n (x := (0, 0, 0)) dX9_house_13 rfl ?_
      refine e_getr (z := some (1, 0, 0)) fw_X9_14 dX9_house_14 (kC_mem (s := 0) (by decide) (by decide) (by decide)) rfl (lt_b rfl) rfl ?_
      refine e_geti fw_X9_81 dX9_house_17 (kC_mem (s := 1) (by decide) (by decide) (by decide)) rfl (lt_b rfl) ?_
      refine r_if_lt (tgt := 35) dX9_house_20 (by decide) (fun hc => ?_) (fun hc => ?_)
      · have hf := (am_if hf).1 hc
        refine r_bipush (v := -4) dX9_house_35 rfl ?_
        have hx := am_inj hf
        subst hx
        exact r_iret dX9_house_37 rfl rfl (le_b rfl) (le_b rfl)
      · have hf := (am_if hf).2 hc
        refine r_aload_n (x := (0, 0, 0)) dX9_house_23 rfl ?_
        refine e_getr (z := some (1, 0, 0)) fw_X9_14 dX9_house_24 (kC_mem (s := 0) (by decide) (by decide) (by decide)) rfl (lt_b rfl) rfl ?_
        refine e_geti fw_X9_81 dX9_house_27 (kC_mem (s := 1) (by decide) (by decide) (by decide)) rfl (lt_b rfl) ?_
        refine r_bipush (v := 6) dX9_house_30 rfl ?_
        refine r_icmp_lt (tgt := 38) dX9_house_32 (by decide) (fun hc => ?_) (fun hc => ?_)
        · have hf := (am_if hf).1 hc
          refine r_aload_n (x := (0, 0, 0)) dX9_house_38 rfl ?_
          refine e_getr (z := some (1, 0, 0)) fw_X9_14 dX9_house_39 (kC_mem (s := 0) (by decide) (by decide) (by decide)) rfl (lt_b rfl) rfl ?_
          refine e_getr (z := some (2, 0, 0)) fw_X9_84 dX9_house_42 (kC_mem (s := 1) (by decide) (by decide) (by decide)) rfl (lt_b rfl) rfl ?_
          refine r_aload_n (x := (0, 0, 0)) dX9_house_45 rfl ?_
          refine e_getr (z := some (1, 0, 0)) fw_X9_14 dX9_house_46 (kC_mem (s := 0) (by decide) (by decide) (by decide)) rfl (lt_b rfl) rfl ?_
          refine e_geti fw_X9_81 dX9_house_49 (kC_mem (s := 1) (by decide) (by decide) (by decide)) rfl (lt_b rfl) ?_
          obtain ⟨h1, hf⟩ := am_nchk hf
          refine e_aald (n := (u.1 (1, 0, 0) 0).toNatClampNeg) (z := some (3, 0, (u.1 (1, 0, 0) 0).toNatClampNeg)) dX9_house_52 (kC_mem (s := 2) (by decide) (by decide) (by decide)) ⟨le_b rfl, lt_b rfl⟩ h1 rfl rfl ?_
          refine r_iload_n (x := a0) dX9_house_53 rfl ?_
          refine r_iload_n (x := a1) dX9_house_54 rfl ?_
          obtain ⟨r2, hr3, hf⟩ := am_bind hf
          refine r_callV (as := [vI a0, vI a1]) (st := []) (n := 2) mw_X9_88 mv_X2_start (C_X2_start (l := l) (by decide) (vp_lt h1) hr3) (le_b rfl) dX9_house_55 (kC_mem (s := 3) (by decide) (by decide) (vp_lt h1)) rfl rfl rfl (le_b rfl) (le_b rfl) (le_b rfl) ?_
          show X l _ _ 0 0 false _ kC 0 0 58 [some (vR (0, 0, 0)), some (vI a0), some (vI a1)] [] (en r2)
          refine r_aload_n (x := (0, 0, 0)) dX9_house_58 rfl ?_
          refine e_getr (z := some (1, 0, 0)) fw_X9_14 dX9_house_59 (kC_mem (s := 0) (by decide) (by decide) (by decide)) rfl (lt_b rfl) rfl ?_
          refine r_dup dX9_house_62 rfl ?_
          refine e_geti fw_X9_81 dX9_house_63 (kC_mem (s := 1) (by decide) (by decide) (by decide)) rfl (lt_b rfl) ?_
          refine r_dup_x1 dX9_house_66 rfl rfl ?_
          refine r_iconst (v := 1) dX9_house_67 rfl ?_
          refine r_iadd dX9_house_68 ?_
          refine e_puti fp_X9_81 dX9_house_69 (kC_mem (s := 1) (by decide) (by decide) (by decide)) rfl (lt_b rfl) rfl rfl rfl ?_
          have hx := am_inj hf
          subst hx
          exact r_iret dX9_house_72 rfl rfl (le_b rfl) (le_b rfl)
        · have hf := (am_if hf).2 hc
          refine r_bipush (v := -4) dX9_house_35 rfl ?_
          have hx := am_inj hf
          subst hx
          exact r_iret dX9_house_37 rfl rfl (le_b rfl) (le_b rfl)
    · have hf := (am_if hf).2 hc
      refine r_bipush (v := -2) dX9_house_10 rfl ?_
      have hx := am_inj hf
      subst hx
      exact r_iret dX9_house_12 rfl rfl (le_b rfl) (le_b rfl)
/-! FireFromFire.of -/
theorem dX9_of_0 : decode cX9_of 0 = .ok (.aload_n 0, 1) := by decide +kernel
theorem dX9_of_1 : decode cX9_of 1 = .ok (.getfield 14, 3) := by decide +kernel
theorem dX9_of_4 : decode cX9_of 4 = .ok (.iload_n 1, 1) := by decide +kernel
theorem dX9_of_5 : decode cX9_of 5 = .ok (.invokevirtual 94, 3) := by decide +kernel
theorem dX9_of_8 : decode cX9_of 8 = .ok (.astore_n 3, 1) := by decide +kernel
theorem dX9_of_9 : decode cX9_of 9 = .ok (.aload_n 3, 1) := by decide +kernel
theorem dX9_of_10 : decode cX9_of 10 = .ok (.ifnonnull 5, 3) := by decide +kernel
theorem dX9_of_13 : decode cX9_of 13 = .ok (.iconst (-1), 1) := by decide +kernel
theorem dX9_of_14 : decode cX9_of 14 = .ok (.ireturn, 1) := by decide +kernel
theorem dX9_of_15 : decode cX9_of 15 = .ok (.iload_n 2, 1) := by decide +kernel
theorem dX9_of_16 : decode cX9_of 16 = .ok (.tableswitch 132 0 7 #[48, 53, 66, 71, 76, 81, 97, 114], 48) := by decide +kernel
theorem dX9_of_64 : decode cX9_of 64 = .ok (.aload_n 3, 1) := by decide +kernel
theorem dX9_of_65 : decode cX9_of 65 = .ok (.getfield 98, 3) := by decide +kernel
theorem dX9_of_68 : decode cX9_of 68 = .ok (.ireturn, 1) := by decide +kernel
theorem dX9_of_69 : decode cX9_of 69 = .ok (.aload_n 3, 1) := by decide +kernel
theorem dX9_of_70 : decode cX9_of 70 = .ok (.getfield 101, 3) := by decide +kernel
theorem dX9_of_73 : decode cX9_of 73 = .ok (.ifCond .eq 7, 3) := by decide +kernel
theorem dX9_of_76 : decode cX9_of 76 = .ok (.iconst 1, 1) := by decide +kernel
theorem dX9_of_77 : decode cX9_of 77 = .ok (.goto 4, 3) := by decide +kernel
theorem dX9_of_80 : decode cX9_of 80 = .ok (.iconst 0, 1) := by decide +kernel
theorem dX9_of_81 : decode cX9_of 81 = .ok (.ireturn, 1) := by decide +kernel
theorem dX9_of_82 : decode cX9_of 82 = .ok (.aload_n 3, 1) := by decide +kernel
theorem dX9_of_83 : decode cX9_of 83 = .ok (.getfield 104, 3) := by decide +kernel
theorem dX9_of_86 : decode cX9_of 86 = .ok (.ireturn, 1) := by decide +kernel
theorem dX9_of_87 : decode cX9_of 87 = .ok (.aload_n 3, 1) := by decide +kernel
theorem dX9_of_88 : decode cX9_of 88 = .ok (.getfield 107, 3) := by decide +kernel
theorem dX9_of_91 : decode cX9_of 91 = .ok (.ireturn, 1) := by decide +kernel
theorem dX9_of_92 : decode cX9_of 92 = .ok (.aload_n 3, 1) := by decide +kernel
theorem dX9_of_93 : decode cX9_of 93 = .ok (.getfield 110, 3) := by decide +kernel
theorem dX9_of_96 : decode cX9_of 96 = .ok (.ireturn, 1) := by decide +kernel
theorem dX9_of_97 : decode cX9_of 97 = .ok (.aload_n 3, 1) := by decide +kernel
theorem dX9_of_98 : decode cX9_of 98 = .ok (.getfield 110, 3) := by decide +kernel
theorem dX9_of_101 : decode cX9_of 101 = .ok (.ifCond .ne 7, 3) := by decide +kernel
theorem dX9_of_104 : decode cX9_of 104 = .ok (.iconst 0, 1) := by decide +kernel
theorem dX9_of_105 : decode cX9_of 105 = .ok (.goto 7, 3) := by decide +kernel
theorem dX9_of_108 : decode cX9_of 108 = .ok (.aload_n 3, 1) := by decide +kernel
theorem dX9_of_109 : decode cX9_of 109 = .ok (.getfield 113, 3) := by decide +kernel
theorem dX9_of_112 : decode cX9_of 112 = .ok (.ireturn, 1) := by decide +kernel
theorem dX9_of_113 : decode cX9_of 113 = .ok (.aload_n 3, 1) := by decide +kernel
theorem dX9_of_114 : decode cX9_of 114 = .ok (.getfield 110, 3) := by decide +kernel
theorem dX9_of_117 : decode cX9_of 117 = .ok (.ifCond .ne 8, 3) := by decide +kernel
theorem dX9_of_120 : decode cX9_of 120 = .ok (.bipush (-5), 2) := by decide +kernel
theorem dX9_of_122 : decode cX9_of 122 = .ok (.goto 7, 3) := by decide +kernel
theorem dX9_of_125 : decode cX9_of 125 = .ok (.aload_n 3, 1) := by decide +kernel
theorem dX9_of_126 : decode cX9_of 126 = .ok (.getfield 116, 3) := by decide +kernel
theorem dX9_of_129 : decode cX9_of 129 = .ok (.ireturn, 1) := by decide +kernel
theorem dX9_of_130 : decode cX9_of 130 = .ok (.aload_n 3, 1) := by decide +kernel
theorem dX9_of_131 : decode cX9_of 131 = .ok (.getfield 110, 3) := by decide +kernel
theorem dX9_of_134 : decode cX9_of 134 = .ok (.iconst 2, 1) := by decide +kernel
theorem dX9_of_135 : decode cX9_of 135 = .ok (.if_icmp .ne 10, 3) := by decide +kernel
theorem dX9_of_138 : decode cX9_of 138 = .ok (.aload_n 3, 1) := by decide +kernel
theorem dX9_of_139 : decode cX9_of 139 = .ok (.getfield 119, 3) := by decide +kernel
theorem dX9_of_142 : decode cX9_of 142 = .ok (.goto 5, 3) := by decide +kernel
theorem dX9_of_145 : decode cX9_of 145 = .ok (.bipush (-5), 2) := by decide +kernel
theorem dX9_of_147 : decode cX9_of 147 = .ok (.ireturn, 1) := by decide +kernel
theorem dX9_of_148 : decode cX9_of 148 = .ok (.iconst (-1), 1) := by decide +kernel
theorem dX9_of_149 : decode cX9_of 149 = .ok (.ireturn, 1) := by decide +kernel
def f_X9_of  (a0 : Int32) (a1 : Int32) (u : PM) : Option (Int32) :=
  (f_X8_find 0 a0 u).bind fun r1 =>
  match r1 with
  | none =>
    some (-1 : Int32)
  | some p3 =>
    if p3 < 6 then
      if a1 = (0 : Int32) then
        some (u.1 (3, 0, p3) 0)
      else if a1 = (1 : Int32) then
        if (u.1 (3, 0, p3) 1) = 0 then
          some (0 : Int32)
        else
        some (1 : Int32)
      else if a1 = (2 : Int32) then
        some (u.1 (3, 0, p3) 2)
      else if a1 = (3 : Int32) then
        some (u.1 (3, 0, p3) 3)
      else if a1 = (4 : Int32) then
        some (u.1 (3, 0, p3) 5)
      else if a1 = (5 : Int32) then
        if (u.1 (3, 0, p3) 5) = 0 then
          some (0 : Int32)
        else
        some (u.1 (3, 0, p3) 6)
      else if a1 = (6 : Int32) then
        if (u.1 (3, 0, p3) 5) = 0 then
          some (-5 : Int32)
        else
        some (u.1 (3, 0, p3) 7)
      else if a1 = (7 : Int32) then
        if (u.1 (3, 0, p3) 5) = (2 : Int32) then
          some (u.1 (3, 0, p3) 8)
        else
        some (-5 : Int32)
      else 
      some (-1 : Int32)
    else none
set_option maxHeartbeats 4000000 in
set_option maxRecDepth 20000 in
theorem C_X9_of {l : Launch}  {a0 : Int32} {a1 : Int32} {u : PM} {x : Int32} (hf : f_X9_of a0 a1 u = some x) : Ev l mX9_of 2 0 0 false [vR (0, 0, 0), vI a0, vI a1] kC (en u) (some (vI x), kC, en u) := by
  refine Ev_of (by decide +kernel) (le_b rfl) ?_
  unfold f_X9_of at hf
  show X l mX9_of 2 0 0 false _ kC 0 0 0 [some (vR (0, 0, 0)), some (vI a0), some (vI a1), none] [] (en u)
  refine r_aload_n (x := (0, 0, 0)) dX9_of_0 rfl ?_
  refine e_getr (z := some (1, 0, 0)) fw_X9_14 dX9_of_1 (kC_mem (s := 0) (by decide) (by decide) (by decide)) rfl (lt_b rfl) rfl ?_
  refine r_iload_n (x := a0) dX9_of_4 rfl ?_
  obtain ⟨r1, hr2, hf⟩ := am_bind hf
  refine r_callV (as := [vI a0]) (st := []) (n := 1) mw_X9_94 mv_X8_find (C_X8_find (l := l) (by decide) hr2) (le_b rfl) dX9_of_5 (kC_mem (s := 1) (by decide) (by decide) (by decide)) rfl rfl rfl (le_b rfl) (le_b rfl) (le_b rfl) ?_
  cases r1 with
  | none =>
    show X l _ _ 0 0 false _ kC 0 0 8 [some (vR (0, 0, 0)), some (vI a0), some (vI a1), none] [vN] (en u)
    refine r_astore_nN (L' := [some (vR (0, 0, 0)), some (vI a0), some (vI a1), some (vN)]) dX9_of_8 (by decide) rfl ?_
    refine r_aload_nN dX9_of_9 rfl ?_
    refine r_ifnonnullN dX9_of_10 ?_
    refine r_iconst (v := -1) dX9_of_13 rfl ?_
    have hx := am_inj hf
    subst hx
    exact r_iret dX9_of_14 rfl rfl (le_b rfl) (le_b rfl)
  | some p3 =>
    obtain ⟨h4, hf⟩ := am_chk hf
    show X l _ _ 0 0 false _ kC 0 0 8 [some (vR (0, 0, 0)), some (vI a0), some (vI a1), none] [vR (3, 0, p3)] (en u)
    refine r_astore_n (L' := [some (vR (0, 0, 0)), some (vI a0), some (vI a1), some (vR (3, 0, p3))]) dX9_of_8 (by decide) rfl ?_
    refine r_aload_n (x := (3, 0, p3)) dX9_of_9 rfl ?_
    refine r_ifnonnullR (tgt := 15) dX9_of_10 (by decide) ?_
    refine r_iload_n (x := a1) dX9_of_15 rfl ?_
    by_cases hs0 : a1 = (0 : Int32)
    · have hf := (am_if hf).1 hs0
      refine r_tswIn (x := a1) (kx := 0) (tgt := 64) dX9_of_16 hs0 (by decide) (by decide) rfl (by decide) ?_
      refine r_aload_n (x := (3, 0, p3)) dX9_of_64 rfl ?_
      refine e_geti fw_X9_98 dX9_of_65 (kC_mem (s := 3) (by decide) (by decide) h4) rfl (lt_b rfl) ?_
      have hx := am_inj hf
      subst hx
      exact r_iret dX9_of_68 rfl rfl (le_b rfl) (le_b rfl)
    have hf := (am_if hf).2 hs0
    by_cases hs1 : a1 = (1 : Int32)
    · have hf := (am_if hf).1 hs1
      refine r_tswIn (x := a1) (kx := 1) (tgt := 69) dX9_of_16 hs1 (by decide) (by decide) rfl (by decide) ?_
      refine r_aload_n (x := (3, 0, p3)) dX9_of_69 rfl ?_
      refine e_geti fw_X9_101 dX9_of_70 (kC_mem (s := 3) (by decide) (by decide) h4) rfl (lt_b rfl) ?_
      refine r_if_eq (tgt := 80) dX9_of_73 (by decide) (fun hc => ?_) (fun hc => ?_)
      · have hf := (am_if hf).1 hc
        refine r_iconst (v := 0) dX9_of_80 rfl ?_
        have hx := am_inj hf
        subst hx
        exact r_iret dX9_of_81 rfl rfl (le_b rfl) (le_b rfl)
      · have hf := (am_if hf).2 hc
        refine r_iconst (v := 1) dX9_of_76 rfl ?_
        refine r_goto (tgt := 81) dX9_of_77 (by decide) ?_
        have hx := am_inj hf
        subst hx
        exact r_iret dX9_of_81 rfl rfl (le_b rfl) (le_b rfl)
    have hf := (am_if hf).2 hs1
    by_cases hs2 : a1 = (2 : Int32)
    · have hf := (am_if hf).1 hs2
      refine r_tswIn (x := a1) (kx := 2) (tgt := 82) dX9_of_16 hs2 (by decide) (by decide) rfl (by decide) ?_
      refine r_aload_n (x := (3, 0, p3)) dX9_of_82 rfl ?_
      refine e_geti fw_X9_104 dX9_of_83 (kC_mem (s := 3) (by decide) (by decide) h4) rfl (lt_b rfl) ?_
      have hx := am_inj hf
      subst hx
      exact r_iret dX9_of_86 rfl rfl (le_b rfl) (le_b rfl)
    have hf := (am_if hf).2 hs2
    by_cases hs3 : a1 = (3 : Int32)
    · have hf := (am_if hf).1 hs3
      refine r_tswIn (x := a1) (kx := 3) (tgt := 87) dX9_of_16 hs3 (by decide) (by decide) rfl (by decide) ?_
      refine r_aload_n (x := (3, 0, p3)) dX9_of_87 rfl ?_
      refine e_geti fw_X9_107 dX9_of_88 (kC_mem (s := 3) (by decide) (by decide) h4) rfl (lt_b rfl) ?_
      have hx := am_inj hf
      subst hx
      exact r_iret dX9_of_91 rfl rfl (le_b rfl) (le_b rfl)
    have hf := (am_if hf).2 hs3
    by_cases hs4 : a1 = (4 : Int32)
    · have hf := (am_if hf).1 hs4
      refine r_tswIn (x := a1) (kx := 4) (tgt := 92) dX9_of_16 hs4 (by decide) (by decide) rfl (by decide) ?_
      refine r_aload_n (x := (3, 0, p3)) dX9_of_92 rfl ?_
      refine e_geti fw_X9_110 dX9_of_93 (kC_mem (s := 3) (by decide) (by decide) h4) rfl (lt_b rfl) ?_
      have hx := am_inj hf
      subst hx
      exact r_iret dX9_of_96 rfl rfl (le_b rfl) (le_b rfl)
    have hf := (am_if hf).2 hs4
    by_cases hs5 : a1 = (5 : Int32)
    · have hf := (am_if hf).1 hs5
      refine r_tswIn (x := a1) (kx := 5) (tgt := 97) dX9_of_16 hs5 (by decide) (by decide) rfl (by decide) ?_
      refine r_aload_n (x := (3, 0, p3)) dX9_of_97 rfl ?_
      refine e_geti fw_X9_110 dX9_of_98 (kC_mem (s := 3) (by decide) (by decide) h4) rfl (lt_b rfl) ?_
      refine r_if_ne (tgt := 108) dX9_of_101 (by decide) (fun hc => ?_) (fun hc => ?_)
      · have hf := (am_if hf).2 hc
        refine r_aload_n (x := (3, 0, p3)) dX9_of_108 rfl ?_
        refine e_geti fw_X9_113 dX9_of_109 (kC_mem (s := 3) (by decide) (by decide) h4) rfl (lt_b rfl) ?_
        have hx := am_inj hf
        subst hx
        exact r_iret dX9_of_112 rfl rfl (le_b rfl) (le_b rfl)
      · have hf := (am_if hf).1 hc
        refine r_iconst (v := 0) dX9_of_104 rfl ?_
        refine r_goto (tgt := 112) dX9_of_105 (by decide) ?_
        have hx := am_inj hf
        subst hx
        exact r_iret dX9_of_112 rfl rfl (le_b rfl) (le_b rfl)
    have hf := (am_if hf).2 hs5
    by_cases hs6 : a1 = (6 : Int32)
    · have hf := (am_if hf).1 hs6
      refine r_tswIn (x := a1) (kx := 6) (tgt := 113) dX9_of_16 hs6 (by decide) (by decide) rfl (by decide) ?_
      refine r_aload_n (x := (3, 0, p3)) dX9_of_113 rfl ?_
      refine e_geti fw_X9_110 dX9_of_114 (kC_mem (s := 3) (by decide) (by decide) h4) rfl (lt_b rfl) ?_
      refine r_if_ne (tgt := 125) dX9_of_117 (by decide) (fun hc => ?_) (fun hc => ?_)
      · have hf := (am_if hf).2 hc
        refine r_aload_n (x := (3, 0, p3)) dX9_of_125 rfl ?_
        refine e_geti fw_X9_116 dX9_of_126 (kC_mem (s := 3) (by decide) (by decide) h4) rfl (lt_b rfl) ?_
        have hx := am_inj hf
        subst hx
        exact r_iret dX9_of_129 rfl rfl (le_b rfl) (le_b rfl)
      · have hf := (am_if hf).1 hc
        refine r_bipush (v := -5) dX9_of_120 rfl ?_
        refine r_goto (tgt := 129) dX9_of_122 (by decide) ?_
        have hx := am_inj hf
        subst hx
        exact r_iret dX9_of_129 rfl rfl (le_b rfl) (le_b rfl)
    have hf := (am_if hf).2 hs6
    by_cases hs7 : a1 = (7 : Int32)
    · have hf := (am_if hf).1 hs7
      refine r_tswIn (x := a1) (kx := 7) (tgt := 130) dX9_of_16 hs7 (by decide) (by decide) rfl (by decide) ?_
      refine r_aload_n (x := (3, 0, p3)) dX9_of_130 rfl ?_
      refine e_geti fw_X9_110 dX9_of_131 (kC_mem (s := 3) (by decide) (by decide) h4) rfl (lt_b rfl) ?_
      refine r_iconst (v := 2) dX9_of_134 rfl ?_
      refine r_icmp_ne (tgt := 145) dX9_of_135 (by decide) (fun hc => ?_) (fun hc => ?_)
      · have hf := (am_if hf).2 hc
        refine r_bipush (v := -5) dX9_of_145 rfl ?_
        have hx := am_inj hf
        subst hx
        exact r_iret dX9_of_147 rfl rfl (le_b rfl) (le_b rfl)
      · have hf := (am_if hf).1 hc
        refine r_aload_n (x := (3, 0, p3)) dX9_of_138 rfl ?_
        refine e_geti fw_X9_119 dX9_of_139 (kC_mem (s := 3) (by decide) (by decide) h4) rfl (lt_b rfl) ?_
        refine r_goto (tgt := 147) dX9_of_142 (by decide) ?_
        have hx := am_inj hf
        subst hx
        exact r_iret dX9_of_147 rfl rfl (le_b rfl) (le_b rfl)
    have hf := (am_if hf).2 hs7
    refine r_tswOut (x := a1) (tgt := 148) dX9_of_16 (by have ehs0 := am_neI hs0 (z := 0) rfl; have ehs1 := am_neI hs1 (z := 1) rfl; have ehs2 := am_neI hs2 (z := 2) rfl; have ehs3 := am_neI hs3 (z := 3) rfl; have ehs4 := am_neI hs4 (z := 4) rfl; have ehs5 := am_neI hs5 (z := 5) rfl; have ehs6 := am_neI hs6 (z := 6) rfl; have ehs7 := am_neI hs7 (z := 7) rfl; omega) (by decide) ?_
    refine r_iconst (v := -1) dX9_of_148 rfl ?_
    have hx := am_inj hf
    subst hx
    exact r_iret dX9_of_149 rfl rfl (le_b rfl) (le_b rfl)
/-! FireFromFire.wood -/
theorem dX9_wood_0 : decode cX9_wood 0 = .ok (.aload_n 0, 1) := by decide +kernel
theorem dX9_wood_1 : decode cX9_wood 1 = .ok (.getfield 14, 3) := by decide +kernel
theorem dX9_wood_4 : decode cX9_wood 4 = .ok (.iload_n 1, 1) := by decide +kernel
theorem dX9_wood_5 : decode cX9_wood 5 = .ok (.invokevirtual 94, 3) := by decide +kernel
theorem dX9_wood_8 : decode cX9_wood 8 = .ok (.astore_n 3, 1) := by decide +kernel
theorem dX9_wood_9 : decode cX9_wood 9 = .ok (.aload_n 3, 1) := by decide +kernel
theorem dX9_wood_10 : decode cX9_wood 10 = .ok (.ifnonnull 5, 3) := by decide +kernel
theorem dX9_wood_13 : decode cX9_wood 13 = .ok (.iconst (-1), 1) := by decide +kernel
theorem dX9_wood_14 : decode cX9_wood 14 = .ok (.ireturn, 1) := by decide +kernel
theorem dX9_wood_15 : decode cX9_wood 15 = .ok (.iload_n 2, 1) := by decide +kernel
theorem dX9_wood_16 : decode cX9_wood 16 = .ok (.ifCond .lt 9, 3) := by decide +kernel
theorem dX9_wood_19 : decode cX9_wood 19 = .ok (.iload_n 2, 1) := by decide +kernel
theorem dX9_wood_20 : decode cX9_wood 20 = .ok (.bipush 99, 2) := by decide +kernel
theorem dX9_wood_22 : decode cX9_wood 22 = .ok (.if_icmp .le 6, 3) := by decide +kernel
theorem dX9_wood_25 : decode cX9_wood 25 = .ok (.bipush (-2), 2) := by decide +kernel
theorem dX9_wood_27 : decode cX9_wood 27 = .ok (.ireturn, 1) := by decide +kernel
theorem dX9_wood_28 : decode cX9_wood 28 = .ok (.aload_n 3, 1) := by decide +kernel
theorem dX9_wood_29 : decode cX9_wood 29 = .ok (.getfield 98, 3) := by decide +kernel
theorem dX9_wood_32 : decode cX9_wood 32 = .ok (.istore 4, 2) := by decide +kernel
theorem dX9_wood_34 : decode cX9_wood 34 = .ok (.aload_n 3, 1) := by decide +kernel
theorem dX9_wood_35 : decode cX9_wood 35 = .ok (.iload_n 2, 1) := by decide +kernel
theorem dX9_wood_36 : decode cX9_wood 36 = .ok (.putfield 98, 3) := by decide +kernel
theorem dX9_wood_39 : decode cX9_wood 39 = .ok (.iload 4, 2) := by decide +kernel
theorem dX9_wood_41 : decode cX9_wood 41 = .ok (.ireturn, 1) := by decide +kernel
def f_X9_wood  (a0 : Int32) (a1 : Int32) (u : PM) : Option (Int32 × PM) :=
  (f_X8_find 0 a0 u).bind fun r1 =>
  match r1 with
  | none =>
    some ((-1 : Int32), u)
  | some p3 =>
    if p3 < 6 then
      if a1 < 0 then
        some ((-2 : Int32), u)
      else
      if a1 ≤ (99 : Int32) then
        some (u.1 (3, 0, p3) 0, (pi u (3, 0, p3) 0 a1))
      else
      some ((-2 : Int32), u)
    else none
set_option maxHeartbeats 4000000 in
set_option maxRecDepth 20000 in
theorem C_X9_wood {l : Launch}  {a0 : Int32} {a1 : Int32} {u : PM} {x : Int32 × PM} (hf : f_X9_wood a0 a1 u = some x) : Ev l mX9_wood 2 0 0 false [vR (0, 0, 0), vI a0, vI a1] kC (en u) (some (vI x.1), kC, en x.2) := by
  refine Ev_of (by decide +kernel) (le_b rfl) ?_
  unfold f_X9_wood at hf
  show X l mX9_wood 2 0 0 false _ kC 0 0 0 [some (vR (0, 0, 0)), some (vI a0), some (vI a1), none, none] [] (en u)
  refine r_aload_n (x := (0, 0, 0)) dX9_wood_0 rfl ?_
  refine e_getr (z := some (1, 0, 0)) fw_X9_14 dX9_wood_1 (kC_mem (s := 0) (by decide) (by decide) (by decide)) rfl (lt_b rfl) rfl ?_
  refine r_iload_n (x := a0) dX9_wood_4 rfl ?_
  obtain ⟨r1, hr2, hf⟩ := am_bind hf
  refine r_callV (as := [vI a0]) (st := []) (n := 1) mw_X9_94 mv_X8_find (C_X8_find (l := l) (by decide) hr2) (le_b rfl) dX9_wood_5 (kC_mem (s := 1) (by decide) (by decide) (by decide)) rfl rfl rfl (le_b rfl) (le_b rfl) (le_b rfl) ?_
  cases r1 with
  | none =>
    show X l _ _ 0 0 false _ kC 0 0 8 [some (vR (0, 0, 0)), some (vI a0), some (vI a1), none, none] [vN] (en u)
    refine r_astore_nN (L' := [some (vR (0, 0, 0)), some (vI a0), some (vI a1), some (vN), none]) dX9_wood_8 (by decide) rfl ?_
    refine r_aload_nN dX9_wood_9 rfl ?_
    refine r_ifnonnullN dX9_wood_10 ?_
    refine r_iconst (v := -1) dX9_wood_13 rfl ?_
    have hx := am_inj hf
    subst hx
    exact r_iret dX9_wood_14 rfl rfl (le_b rfl) (le_b rfl)
  | some p3 =>
    obtain ⟨h4, hf⟩ := am_chk hf
    show X l _ _ 0 0 false _ kC 0 0 8 [some (vR (0, 0, 0)), some (vI a0), some (vI a1), none, none] [vR (3, 0, p3)] (en u)
    refine r_astore_n (L' := [some (vR (0, 0, 0)), some (vI a0), some (vI a1), some (vR (3, 0, p3)), none]) dX9_wood_8 (by decide) rfl ?_
    refine r_aload_n (x := (3, 0, p3)) dX9_wood_9 rfl ?_
    refine r_ifnonnullR (tgt := 15) dX9_wood_10 (by decide) ?_
    refine r_iload_n (x := a1) dX9_wood_15 rfl ?_
    refine r_if_lt (tgt := 25) dX9_wood_16 (by decide) (fun hc => ?_) (fun hc => ?_)
    · have hf := (am_if hf).1 hc
      refine r_bipush (v := -2) dX9_wood_25 rfl ?_
      have hx := am_inj hf
      subst hx
      exact r_iret dX9_wood_27 rfl rfl (le_b rfl) (le_b rfl)
    · have hf := (am_if hf).2 hc
      refine r_iload_n (x := a1) dX9_wood_19 rfl ?_
      refine r_bipush (v := 99) dX9_wood_20 rfl ?_
      refine r_icmp_le (tgt := 28) dX9_wood_22 (by decide) (fun hc => ?_) (fun hc => ?_)
      · have hf := (am_if hf).1 hc
        refine r_aload_n (x := (3, 0, p3)) dX9_wood_28 rfl ?_
        refine e_geti fw_X9_98 dX9_wood_29 (kC_mem (s := 3) (by decide) (by decide) h4) rfl (lt_b rfl) ?_
        refine r_istore (L' := [some (vR (0, 0, 0)), some (vI a0), some (vI a1), some (vR (3, 0, p3)), some (vI (u.1 (3, 0, p3) 0))]) dX9_wood_32 (by decide) rfl ?_
        refine r_aload_n (x := (3, 0, p3)) dX9_wood_34 rfl ?_
        refine r_iload_n (x := a1) dX9_wood_35 rfl ?_
        refine e_puti fp_X9_98 dX9_wood_36 (kC_mem (s := 3) (by decide) (by decide) h4) rfl (lt_b rfl) rfl rfl rfl ?_
        refine r_iload (x := u.1 (3, 0, p3) 0) dX9_wood_39 rfl ?_
        have hx := am_inj hf
        subst hx
        exact r_iret dX9_wood_41 rfl rfl (le_b rfl) (le_b rfl)
      · have hf := (am_if hf).2 hc
        refine r_bipush (v := -2) dX9_wood_25 rfl ?_
        have hx := am_inj hf
        subst hx
        exact r_iret dX9_wood_27 rfl rfl (le_b rfl) (le_b rfl)
/-! FireFromFire.light -/
theorem dX9_light_0 : decode cX9_light 0 = .ok (.aload_n 0, 1) := by decide +kernel
theorem dX9_light_1 : decode cX9_light 1 = .ok (.getfield 14, 3) := by decide +kernel
theorem dX9_light_4 : decode cX9_light 4 = .ok (.iload_n 1, 1) := by decide +kernel
theorem dX9_light_5 : decode cX9_light 5 = .ok (.invokevirtual 94, 3) := by decide +kernel
theorem dX9_light_8 : decode cX9_light 8 = .ok (.astore_n 3, 1) := by decide +kernel
theorem dX9_light_9 : decode cX9_light 9 = .ok (.aload_n 3, 1) := by decide +kernel
theorem dX9_light_10 : decode cX9_light 10 = .ok (.ifnonnull 5, 3) := by decide +kernel
theorem dX9_light_13 : decode cX9_light 13 = .ok (.iconst (-1), 1) := by decide +kernel
theorem dX9_light_14 : decode cX9_light 14 = .ok (.ireturn, 1) := by decide +kernel
theorem dX9_light_15 : decode cX9_light 15 = .ok (.aload_n 3, 1) := by decide +kernel
theorem dX9_light_16 : decode cX9_light 16 = .ok (.getfield 101, 3) := by decide +kernel
theorem dX9_light_19 : decode cX9_light 19 = .ok (.ifCond .eq 7, 3) := by decide +kernel
theorem dX9_light_22 : decode cX9_light 22 = .ok (.iconst 1, 1) := by decide +kernel
theorem dX9_light_23 : decode cX9_light 23 = .ok (.goto 4, 3) := by decide +kernel
theorem dX9_light_26 : decode cX9_light 26 = .ok (.iconst 0, 1) := by decide +kernel
theorem dX9_light_27 : decode cX9_light 27 = .ok (.istore 4, 2) := by decide +kernel
theorem dX9_light_29 : decode cX9_light 29 = .ok (.aload_n 3, 1) := by decide +kernel
theorem dX9_light_30 : decode cX9_light 30 = .ok (.iload_n 2, 1) := by decide +kernel
theorem dX9_light_31 : decode cX9_light 31 = .ok (.putfield 101, 3) := by decide +kernel
theorem dX9_light_34 : decode cX9_light 34 = .ok (.iload 4, 2) := by decide +kernel
theorem dX9_light_36 : decode cX9_light 36 = .ok (.ireturn, 1) := by decide +kernel
def f_X9_light  (a0 : Int32) (a1 : Int32) (u : PM) : Option (Int32 × PM) :=
  (f_X8_find 0 a0 u).bind fun r1 =>
  match r1 with
  | none =>
    some ((-1 : Int32), u)
  | some p3 =>
    if p3 < 6 then
      if (u.1 (3, 0, p3) 1) = 0 then
        if a1 = 0 ∨ a1 = 1 then
          some ((0 : Int32), (pi u (3, 0, p3) 1 a1))
        else none
      else
      if a1 = 0 ∨ a1 = 1 then
        some ((1 : Int32), (pi u (3, 0, p3) 1 a1))
      else none
    else none
set_option maxHeartbeats 4000000 in
set_option maxRecDepth 20000 in
theorem C_X9_light {l : Launch}  {a0 : Int32} {a1 : Int32} {u : PM} {x : Int32 × PM} (hf : f_X9_light a0 a1 u = some x) : Ev l mX9_light 2 0 0 false [vR (0, 0, 0), vI a0, vI a1] kC (en u) (some (vI x.1), kC, en x.2) := by
  refine Ev_of (by decide +kernel) (le_b rfl) ?_
  unfold f_X9_light at hf
  show X l mX9_light 2 0 0 false _ kC 0 0 0 [some (vR (0, 0, 0)), some (vI a0), some (vI a1), none, none] [] (en u)
  refine r_aload_n (x := (0, 0, 0)) dX9_light_0 rfl ?_
  refine e_getr (z := some (1, 0, 0)) fw_X9_14 dX9_light_1 (kC_mem (s := 0) (by decide) (by decide) (by decide)) rfl (lt_b rfl) rfl ?_
  refine r_iload_n (x := a0) dX9_light_4 rfl ?_
  obtain ⟨r1, hr2, hf⟩ := am_bind hf
  refine r_callV (as := [vI a0]) (st := []) (n := 1) mw_X9_94 mv_X8_find (C_X8_find (l := l) (by decide) hr2) (le_b rfl) dX9_light_5 (kC_mem (s := 1) (by decide) (by decide) (by decide)) rfl rfl rfl (le_b rfl) (le_b rfl) (le_b rfl) ?_
  cases r1 with
  | none =>
    show X l _ _ 0 0 false _ kC 0 0 8 [some (vR (0, 0, 0)), some (vI a0), some (vI a1), none, none] [vN] (en u)
    refine r_astore_nN (L' := [some (vR (0, 0, 0)), some (vI a0), some (vI a1), some (vN), none]) dX9_light_8 (by decide) rfl ?_
    refine r_aload_nN dX9_light_9 rfl ?_
    refine r_ifnonnullN dX9_light_10 ?_
    refine r_iconst (v := -1) dX9_light_13 rfl ?_
    have hx := am_inj hf
    subst hx
    exact r_iret dX9_light_14 rfl rfl (le_b rfl) (le_b rfl)
  | some p3 =>
    obtain ⟨h4, hf⟩ := am_chk hf
    show X l _ _ 0 0 false _ kC 0 0 8 [some (vR (0, 0, 0)), some (vI a0), some (vI a1), none, none] [vR (3, 0, p3)] (en u)
    refine r_astore_n (L' := [some (vR (0, 0, 0)), some (vI a0), some (vI a1), some (vR (3, 0, p3)), none]) dX9_light_8 (by decide) rfl ?_
    refine r_aload_n (x := (3, 0, p3)) dX9_light_9 rfl ?_
    refine r_ifnonnullR (tgt := 15) dX9_light_10 (by decide) ?_
    refine r_aload_n (x := (3, 0, p3)) dX9_light_15 rfl ?_
    refine e_geti fw_X9_101 dX9_light_16 (kC_mem (s := 3) (by decide) (by decide) h4) rfl (lt_b rfl) ?_
    refine r_if_eq (tgt := 26) dX9_light_19 (by decide) (fun hc => ?_) (fun hc => ?_)
    · have hf := (am_if hf).1 hc
      refine r_iconst (v := 0) dX9_light_26 rfl ?_
      refine r_istore (L' := [some (vR (0, 0, 0)), some (vI a0), some (vI a1), some (vR (3, 0, p3)), some (vI (0 : Int32))]) dX9_light_27 (by decide) rfl ?_
      refine r_aload_n (x := (3, 0, p3)) dX9_light_29 rfl ?_
      refine r_iload_n (x := a1) dX9_light_30 rfl ?_
      obtain ⟨h5, hf⟩ := am_chk hf
      refine e_puti fp_X9_101 dX9_light_31 (kC_mem (s := 3) (by decide) (by decide) h4) rfl (lt_b rfl) rfl (am_bool h5).1 (am_bool h5).2 ?_
      refine r_iload (x := (0 : Int32)) dX9_light_34 rfl ?_
      have hx := am_inj hf
      subst hx
      exact r_iret dX9_light_36 rfl rfl (le_b rfl) (le_b rfl)
    · have hf := (am_if hf).2 hc
      refine r_iconst (v := 1) dX9_light_22 rfl ?_
      refine r_goto (tgt := 27) dX9_light_23 (by decide) ?_
      refine r_istore (L' := [some (vR (0, 0, 0)), some (vI a0), some (vI a1), some (vR (3, 0, p3)), some (vI (1 : Int32))]) dX9_light_27 (by decide) rfl ?_
      refine r_aload_n (x := (3, 0, p3)) dX9_light_29 rfl ?_
      refine r_iload_n (x := a1) dX9_light_30 rfl ?_
      obtain ⟨h6, hf⟩ := am_chk hf
      refine e_puti fp_X9_101 dX9_light_31 (kC_mem (s := 3) (by decide) (by decide) h4) rfl (lt_b rfl) rfl (am_bool h6).1 (am_bool h6).2 ?_
      refine r_iload (x := (1 : Int32)) dX9_light_34 rfl ?_
      have hx := am_inj hf
      subst hx
      exact r_iret dX9_light_36 rfl rfl (le_b rfl) (le_b rfl)
/-! FireFromFire.way -/
theorem dX9_way_0 : decode cX9_way 0 = .ok (.aload_n 0, 1) := by decide +kernel
theorem dX9_way_1 : decode cX9_way 1 = .ok (.getfield 14, 3) := by decide +kernel
theorem dX9_way_4 : decode cX9_way 4 = .ok (.iload_n 1, 1) := by decide +kernel
theorem dX9_way_5 : decode cX9_way 5 = .ok (.invokevirtual 94, 3) := by decide +kernel
theorem dX9_way_8 : decode cX9_way 8 = .ok (.ifnull 14, 3) := by decide +kernel
theorem dX9_way_11 : decode cX9_way 11 = .ok (.aload_n 0, 1) := by decide +kernel
theorem dX9_way_12 : decode cX9_way 12 = .ok (.getfield 14, 3) := by decide +kernel
theorem dX9_way_15 : decode cX9_way 15 = .ok (.iload_n 2, 1) := by decide +kernel
theorem dX9_way_16 : decode cX9_way 16 = .ok (.invokevirtual 94, 3) := by decide +kernel
theorem dX9_way_19 : decode cX9_way 19 = .ok (.ifnonnull 5, 3) := by decide +kernel
theorem dX9_way_22 : decode cX9_way 22 = .ok (.iconst (-1), 1) := by decide +kernel
theorem dX9_way_23 : decode cX9_way 23 = .ok (.ireturn, 1) := by decide +kernel
theorem dX9_way_24 : decode cX9_way 24 = .ok (.iload_n 1, 1) := by decide +kernel
theorem dX9_way_25 : decode cX9_way 25 = .ok (.iload_n 2, 1) := by decide +kernel
theorem dX9_way_26 : decode cX9_way 26 = .ok (.if_icmp .eq 13, 3) := by decide +kernel
theorem dX9_way_29 : decode cX9_way 29 = .ok (.iload_n 3, 1) := by decide +kernel
theorem dX9_way_30 : decode cX9_way 30 = .ok (.ifCond .lt 9, 3) := by decide +kernel
theorem dX9_way_33 : decode cX9_way 33 = .ok (.iload_n 3, 1) := by decide +kernel
theorem dX9_way_34 : decode cX9_way 34 = .ok (.bipush 9, 2) := by decide +kernel
theorem dX9_way_36 : decode cX9_way 36 = .ok (.if_icmp .le 6, 3) := by decide +kernel
theorem dX9_way_39 : decode cX9_way 39 = .ok (.bipush (-2), 2) := by decide +kernel
theorem dX9_way_41 : decode cX9_way 41 = .ok (.ireturn, 1) := by decide +kernel
theorem dX9_way_42 : decode cX9_way 42 = .ok (.aload_n 0, 1) := by decide +kernel
theorem dX9_way_43 : decode cX9_way 43 = .ok (.getfield 14, 3) := by decide +kernel
theorem dX9_way_46 : decode cX9_way 46 = .ok (.iload_n 1, 1) := by decide +kernel
theorem dX9_way_47 : decode cX9_way 47 = .ok (.iload_n 2, 1) := by decide +kernel
theorem dX9_way_48 : decode cX9_way 48 = .ok (.invokevirtual 122, 3) := by decide +kernel
theorem dX9_way_51 : decode cX9_way 51 = .ok (.istore 4, 2) := by decide +kernel
theorem dX9_way_53 : decode cX9_way 53 = .ok (.aload_n 0, 1) := by decide +kernel
theorem dX9_way_54 : decode cX9_way 54 = .ok (.getfield 14, 3) := by decide +kernel
theorem dX9_way_57 : decode cX9_way 57 = .ok (.iload_n 1, 1) := by decide +kernel
theorem dX9_way_58 : decode cX9_way 58 = .ok (.iload_n 2, 1) := by decide +kernel
theorem dX9_way_59 : decode cX9_way 59 = .ok (.iload_n 3, 1) := by decide +kernel
theorem dX9_way_60 : decode cX9_way 60 = .ok (.invokevirtual 126, 3) := by decide +kernel
theorem dX9_way_63 : decode cX9_way 63 = .ok (.iload 4, 2) := by decide +kernel
theorem dX9_way_65 : decode cX9_way 65 = .ok (.ireturn, 1) := by decide +kernel
def f_X9_way  (a0 : Int32) (a1 : Int32) (a2 : Int32) (u : PM) : Option (Int32 × PM) :=
  (f_X8_find 0 a0 u).bind fun r1 =>
  match r1 with
  | none =>
    some ((-1 : Int32), u)
  | some p3 =>
    if p3 < 6 then
      (f_X8_find 0 a1 u).bind fun r5 =>
      match r5 with
      | none =>
        some ((-1 : Int32), u)
      | some p7 =>
        if p7 < 6 then
          if a0 = a1 then
            some ((-2 : Int32), u)
          else
          if a2 < 0 then
            some ((-2 : Int32), u)
          else
          if a2 ≤ (9 : Int32) then
            (f_X8_hoursBetween 0 a0 a1 u).bind fun r9 =>
            (f_X8_join 0 a0 a1 a2 u).bind fun r11 =>
            some (r9, r11)
          else
          some ((-2 : Int32), u)
        else none
    else none
set_option maxHeartbeats 4000000 in
set_option maxRecDepth 20000 in
theorem C_X9_way {l : Launch}  {a0 : Int32} {a1 : Int32} {a2 : Int32} {u : PM} {x : Int32 × PM} (hf : f_X9_way a0 a1 a2 u = some x) : Ev l mX9_way 2 0 0 false [vR (0, 0, 0), vI a0, vI a1, vI a2] kC (en u) (some (vI x.1), kC, en x.2) := by
  refine Ev_of (by decide +kernel) (le_b rfl) ?_
  unfold f_X9_way at hf
  show X l mX9_way 2 0 0 false _ kC 0 0 0 [some (vR (0, 0, 0)), some (vI a0), some (vI a1), some (vI a2), none] [] (en u)
  refine r_aload_n (x := (0, 0, 0)) dX9_way_0 rfl ?_
  refine e_getr (z := some (1, 0, 0)) fw_X9_14 dX9_way_1 (kC_mem (s := 0) (by decide) (by decide) (by decide)) rfl (lt_b rfl) rfl ?_
  refine r_iload_n (x := a0) dX9_way_4 rfl ?_
  obtain ⟨r1, hr2, hf⟩ := am_bind hf
  refine r_callV (as := [vI a0]) (st := []) (n := 1) mw_X9_94 mv_X8_find (C_X8_find (l := l) (by decide) hr2) (le_b rfl) dX9_way_5 (kC_mem (s := 1) (by decide) (by decide) (by decide)) rfl rfl rfl (le_b rfl) (le_b rfl) (le_b rfl) ?_
  cases r1 with
  | none =>
    show X l _ _ 0 0 false _ kC 0 0 8 [some (vR (0, 0, 0)), some (vI a0), some (vI a1), some (vI a2), none] [vN] (en u)
    refine r_ifnullN (tgt := 22) dX9_way_8 (by decide) ?_
    refine r_iconst (v := -1) dX9_way_22 rfl ?_
    have hx := am_inj hf
    subst hx
    exact r_iret dX9_way_23 rfl rfl (le_b rfl) (le_b rfl)
  | some p3 =>
    obtain ⟨h4, hf⟩ := am_chk hf
    show X l _ _ 0 0 false _ kC 0 0 8 [some (vR (0, 0, 0)), some (vI a0), some (vI a1), some (vI a2), none] [vR (3, 0, p3)] (en u)
    refine r_ifnullR dX9_way_8 ?_
    refine r_aload_n (x := (0, 0, 0)) dX9_way_11 rfl ?_
    refine e_getr (z := some (1, 0, 0)) fw_X9_14 dX9_way_12 (kC_mem (s := 0) (by decide) (by decide) (by decide)) rfl (lt_b rfl) rfl ?_
    refine r_iload_n (x := a1) dX9_way_15 rfl ?_
    obtain ⟨r5, hr6, hf⟩ := am_bind hf
    refine r_callV (as := [vI a1]) (st := []) (n := 1) mw_X9_94 mv_X8_find (C_X8_find (l := l) (by decide) hr6) (le_b rfl) dX9_way_16 (kC_mem (s := 1) (by decide) (by decide) (by decide)) rfl rfl rfl (le_b rfl) (le_b rfl) (le_b rfl) ?_
    cases r5 with
    | none =>
      show X l _ _ 0 0 false _ kC 0 0 19 [some (vR (0, 0, 0)), some (vI a0), some (vI a1), some (vI a2), none] [vN] (en u)
      refine r_ifnonnullN dX9_way_19 ?_
      refine r_iconst (v := -1) dX9_way_22 rfl ?_
      have hx := am_inj hf
      subst hx
      exact r_iret dX9_way_23 rfl rfl (le_b rfl) (le_b rfl)
    | some p7 =>
      obtain ⟨h8, hf⟩ := am_chk hf
      show X l _ _ 0 0 false _ kC 0 0 19 [some (vR (0, 0, 0)), some (vI a0), some (vI a1), some (vI a2), none] [vR (3, 0, p7)] (en u)
      refine r_ifnonnullR (tgt := 24) dX9_way_19 (by decide) ?_
      refine r_iload_n (x := a0) dX9_way_24 rfl ?_
      refine r_iload_n (x := a1) dX9_way_25 rfl ?_
      refine r_icmp_eq (tgt := 39) dX9_way_26 (by decide) (fun hc => ?_) (fun hc => ?_)
      · have hf := (am_if hf).1 hc
        refine r_bipush (v := -2) dX9_way_39 rfl ?_
        have hx := am_inj hf
        subst hx
        exact r_iret dX9_way_41 rfl rfl (le_b rfl) (le_b rfl)
      · have hf := (am_if hf).2 hc
        refine r_iload_n (x := a2) dX9_way_29 rfl ?_
        refine r_if_lt (tgt := 39) dX9_way_30 (by decide) (fun hc => ?_) (fun hc => ?_)
        · have hf := (am_if hf).1 hc
          refine r_bipush (v := -2) dX9_way_39 rfl ?_
          have hx := am_inj hf
          subst hx
          exact r_iret dX9_way_41 rfl rfl (le_b rfl) (le_b rfl)
        · have hf := (am_if hf).2 hc
          refine r_iload_n (x := a2) dX9_way_33 rfl ?_
          refine r_bipush (v := 9) dX9_way_34 rfl ?_
          refine r_icmp_le (tgt := 42) dX9_way_36 (by decide) (fun hc => ?_) (fun hc => ?_)
          · have hf := (am_if hf).1 hc
            refine r_aload_n (x := (0, 0, 0)) dX9_way_42 rfl ?_
            refine e_getr (z := some (1, 0, 0)) fw_X9_14 dX9_way_43 (kC_mem (s := 0) (by decide) (by decide) (by decide)) rfl (lt_b rfl) rfl ?_
            refine r_iload_n (x := a0) dX9_way_46 rfl ?_
            refine r_iload_n (x := a1) dX9_way_47 rfl ?_
            obtain ⟨r9, hr10, hf⟩ := am_bind hf
            refine r_callV (as := [vI a0, vI a1]) (st := []) (n := 2) mw_X9_122 mv_X8_hoursBetween (C_X8_hoursBetween (l := l) (by decide) hr10) (le_b rfl) dX9_way_48 (kC_mem (s := 1) (by decide) (by decide) (by decide)) rfl rfl rfl (le_b rfl) (le_b rfl) (le_b rfl) ?_
            show X l _ _ 0 0 false _ kC 0 0 51 [some (vR (0, 0, 0)), some (vI a0), some (vI a1), some (vI a2), none] [vI r9] (en u)
            refine r_istore (L' := [some (vR (0, 0, 0)), some (vI a0), some (vI a1), some (vI a2), some (vI r9)]) dX9_way_51 (by decide) rfl ?_
            refine r_aload_n (x := (0, 0, 0)) dX9_way_53 rfl ?_
            refine e_getr (z := some (1, 0, 0)) fw_X9_14 dX9_way_54 (kC_mem (s := 0) (by decide) (by decide) (by decide)) rfl (lt_b rfl) rfl ?_
            refine r_iload_n (x := a0) dX9_way_57 rfl ?_
            refine r_iload_n (x := a1) dX9_way_58 rfl ?_
            refine r_iload_n (x := a2) dX9_way_59 rfl ?_
            obtain ⟨r11, hr12, hf⟩ := am_bind hf
            refine r_callV (as := [vI a0, vI a1, vI a2]) (st := []) (n := 3) mw_X9_126 mv_X8_join (C_X8_join (l := l) (by decide) hr12) (le_b rfl) dX9_way_60 (kC_mem (s := 1) (by decide) (by decide) (by decide)) rfl rfl rfl (le_b rfl) (le_b rfl) (le_b rfl) ?_
            show X l _ _ 0 0 false _ kC 0 0 63 [some (vR (0, 0, 0)), some (vI a0), some (vI a1), some (vI a2), some (vI r9)] [] (en r11)
            refine r_iload (x := r9) dX9_way_63 rfl ?_
            have hx := am_inj hf
            subst hx
            exact r_iret dX9_way_65 rfl rfl (le_b rfl) (le_b rfl)
          · have hf := (am_if hf).2 hc
            refine r_bipush (v := -2) dX9_way_39 rfl ?_
            have hx := am_inj hf
            subst hx
            exact r_iret dX9_way_41 rfl rfl (le_b rfl) (le_b rfl)
/-! FireFromFire.feed -/
theorem dX9_feed_0 : decode cX9_feed 0 = .ok (.iload_n 2, 1) := by decide +kernel
theorem dX9_feed_1 : decode cX9_feed 1 = .ok (.ifCond .lt 8, 3) := by decide +kernel
theorem dX9_feed_4 : decode cX9_feed 4 = .ok (.iload_n 2, 1) := by decide +kernel
theorem dX9_feed_5 : decode cX9_feed 5 = .ok (.iconst 4, 1) := by decide +kernel
theorem dX9_feed_6 : decode cX9_feed 6 = .ok (.if_icmp .le 6, 3) := by decide +kernel
theorem dX9_feed_9 : decode cX9_feed 9 = .ok (.bipush (-2), 2) := by decide +kernel
theorem dX9_feed_11 : decode cX9_feed 11 = .ok (.ireturn, 1) := by decide +kernel
theorem dX9_feed_12 : decode cX9_feed 12 = .ok (.iload_n 2, 1) := by decide +kernel
theorem dX9_feed_13 : decode cX9_feed 13 = .ok (.bipush 100, 2) := by decide +kernel
theorem dX9_feed_15 : decode cX9_feed 15 = .ok (.aload_n 0, 1) := by decide +kernel
theorem dX9_feed_16 : decode cX9_feed 16 = .ok (.getfield 31, 3) := by decide +kernel
theorem dX9_feed_19 : decode cX9_feed 19 = .ok (.getfield 130, 3) := by decide +kernel
theorem dX9_feed_22 : decode cX9_feed 22 = .ok (.isub, 1) := by decide +kernel
theorem dX9_feed_23 : decode cX9_feed 23 = .ok (.if_icmp .le 6, 3) := by decide +kernel
theorem dX9_feed_26 : decode cX9_feed 26 = .ok (.bipush (-4), 2) := by decide +kernel
theorem dX9_feed_28 : decode cX9_feed 28 = .ok (.ireturn, 1) := by decide +kernel
theorem dX9_feed_29 : decode cX9_feed 29 = .ok (.iload_n 2, 1) := by decide +kernel
theorem dX9_feed_30 : decode cX9_feed 30 = .ok (.iconst 1, 1) := by decide +kernel
theorem dX9_feed_31 : decode cX9_feed 31 = .ok (.isub, 1) := by decide +kernel
theorem dX9_feed_32 : decode cX9_feed 32 = .ok (.istore_n 3, 1) := by decide +kernel
theorem dX9_feed_33 : decode cX9_feed 33 = .ok (.iload_n 3, 1) := by decide +kernel
theorem dX9_feed_34 : decode cX9_feed 34 = .ok (.ifCond .lt 26, 3) := by decide +kernel
theorem dX9_feed_37 : decode cX9_feed 37 = .ok (.aload_n 0, 1) := by decide +kernel
theorem dX9_feed_38 : decode cX9_feed 38 = .ok (.getfield 31, 3) := by decide +kernel
theorem dX9_feed_41 : decode cX9_feed 41 = .ok (.iload_n 1, 1) := by decide +kernel
theorem dX9_feed_42 : decode cX9_feed 42 = .ok (.bipush 8, 2) := by decide +kernel
theorem dX9_feed_44 : decode cX9_feed 44 = .ok (.iload_n 3, 1) := by decide +kernel
theorem dX9_feed_45 : decode cX9_feed 45 = .ok (.imul, 1) := by decide +kernel
theorem dX9_feed_46 : decode cX9_feed 46 = .ok (.iushr, 1) := by decide +kernel
theorem dX9_feed_47 : decode cX9_feed 47 = .ok (.sipush 255, 3) := by decide +kernel
theorem dX9_feed_50 : decode cX9_feed 50 = .ok (.iand, 1) := by decide +kernel
theorem dX9_feed_51 : decode cX9_feed 51 = .ok (.invokevirtual 133, 3) := by decide +kernel
theorem dX9_feed_54 : decode cX9_feed 54 = .ok (.iinc 3 (-1), 3) := by decide +kernel
theorem dX9_feed_57 : decode cX9_feed 57 = .ok (.goto (-24), 3) := by decide +kernel
theorem dX9_feed_60 : decode cX9_feed 60 = .ok (.aload_n 0, 1) := by decide +kernel
theorem dX9_feed_61 : decode cX9_feed 61 = .ok (.getfield 31, 3) := by decide +kernel
theorem dX9_feed_64 : decode cX9_feed 64 = .ok (.getfield 130, 3) := by decide +kernel
theorem dX9_feed_67 : decode cX9_feed 67 = .ok (.ireturn, 1) := by decide +kernel
def f_X9_feed_L33  (c1 : Int32) : Int32 × PM → Option ((Int32 × PM) ⊕ (PM)) := fun (x3 , u) =>
  if x3 < 0 then
    some (.inr (u))
  else
  (f_X6_append (((c1.toUInt32 >>> (((8 : Int32) * x3).toUInt32 &&& Int32.toUInt32 31)).toInt32) &&& (255 : Int32)) u).bind fun r1 =>
  some (.inl (x3 + (-1 : Int32), r1))
set_option maxHeartbeats 4000000 in
set_option maxRecDepth 20000 in
theorem K_X9_feed_L33 {l : Launch} {T : Option AV × List Key × AM}  {c1 : Int32} : ∀ (n : Nat) (s : Int32 × PM) (e0 : PM), am_loop (f_X9_feed_L33 c1) n s = some e0 → (fun e : PM => X l mX9_feed 2 0 0 false T kC 0 0 60 [some (vR (0, 0, 0)), none, none, none] [] (en e)) e0 → X l mX9_feed 2 0 0 false T kC 0 0 33 [some (vR (0, 0, 0)), some (vI c1), none, some (vI s.1)] [] (en s.2) := by
  refine am_loop_of ?_
  intro s x hf k1 k2
  obtain ⟨x3 , u⟩ := s
  unfold f_X9_feed_L33 at hf
  show X l mX9_feed 2 0 0 false T kC 0 0 33 [some (vR (0, 0, 0)), some (vI c1), none, some (vI x3)] [] (en u)
  refine r_iload_n (x := x3) dX9_feed_33 rfl ?_
  refine r_if_lt (tgt := 60) dX9_feed_34 (by decide) (fun hc => ?_) (fun hc => ?_)
  · have hf := (am_if hf).1 hc
    refine r_weak (L' := [some (vR (0, 0, 0)), none, none, none]) (And.intro rfl trivial) ?_
    exact k2 (u) (am_inj hf).symm
  · have hf := (am_if hf).2 hc
    refine r_aload_n (x := (0, 0, 0)) dX9_feed_37 rfl ?_
    refine e_getr (z := some (9, 0, 0)) fw_X9_31 dX9_feed_38 (kC_mem (s := 0) (by decide) (by decide) (by decide)) rfl (lt_b rfl) rfl ?_
    refine r_iload_n (x := c1) dX9_feed_41 rfl ?_
    refine r_bipush (v := 8) dX9_feed_42 rfl ?_
    refine r_iload_n (x := x3) dX9_feed_44 rfl ?_
    refine r_imul dX9_feed_45 ?_
    refine r_iushr dX9_feed_46 ?_
    refine r_sipush (v := 255) dX9_feed_47 rfl ?_
    refine r_iand dX9_feed_50 ?_
    obtain ⟨r1, hr2, hf⟩ := am_bind hf
    refine r_callV (as := [vI (((c1.toUInt32 >>> (((8 : Int32) * x3).toUInt32 &&& Int32.toUInt32 31)).toInt32) &&& (255 : Int32))]) (st := []) (n := 1) mw_X9_133 mv_X6_append (C_X6_append (l := l) hr2) (le_b rfl) dX9_feed_51 (kC_mem (s := 9) (by decide) (by decide) (by decide)) rfl rfl rfl (le_b rfl) (le_b rfl) (le_b rfl) ?_
    show X l _ _ 0 0 false _ kC 0 0 54 [some (vR (0, 0, 0)), some (vI c1), none, some (vI x3)] [] (en r1)
    refine r_iinc (x := x3) (v := x3 + (-1 : Int32)) (L' := [some (vR (0, 0, 0)), some (vI c1), none, some (vI (x3 + (-1 : Int32)))]) dX9_feed_54 rfl rfl (lt_b rfl) rfl ?_
    refine r_goto (tgt := 33) dX9_feed_57 (by decide) ?_
    refine r_weak (L' := [some (vR (0, 0, 0)), some (vI c1), none, some (vI (x3 + (-1 : Int32)))]) (And.intro rfl (And.intro rfl (And.intro rfl trivial))) ?_
    exact k1 (x3 + (-1 : Int32), r1) (am_inj hf).symm
def f_X9_feed  (a0 : Int32) (a1 : Int32) (u : PM) : Option (Int32 × PM) :=
  if a1 < 0 then
    some ((-2 : Int32), u)
  else
  if a1 ≤ (4 : Int32) then
    if a1 ≤ ((100 : Int32) - (u.1 (9, 0, 0) 1)) then
      (am_loop (f_X9_feed_L33 a0) 2000 (a1 - (1 : Int32), u)).bind fun u5 =>
      some (u5.1 (9, 0, 0) 1, u5)
    else
    some ((-4 : Int32), u)
  else
  some ((-2 : Int32), u)
set_option maxHeartbeats 4000000 in
set_option maxRecDepth 20000 in
theorem C_X9_feed {l : Launch}  {a0 : Int32} {a1 : Int32} {u : PM} {x : Int32 × PM} (hf : f_X9_feed a0 a1 u = some x) : Ev l mX9_feed 2 0 0 false [vR (0, 0, 0), vI a0, vI a1] kC (en u) (some (vI x.1), kC, en x.2) := by
  refine Ev_of (by decide +kernel) (le_b rfl) ?_
  unfold f_X9_feed at hf
  show X l mX9_feed 2 0 0 false _ kC 0 0 0 [some (vR (0, 0, 0)), some (vI a0), some (vI a1), none] [] (en u)
  refine r_iload_n (x := a1) dX9_feed_0 rfl ?_
  refine r_if_lt (tgt := 9) dX9_feed_1 (by decide) (fun hc => ?_) (fun hc => ?_)
  · have hf := (am_if hf).1 hc
    refine r_bipush (v := -2) dX9_feed_9 rfl ?_
    have hx := am_inj hf
    subst hx
    exact r_iret dX9_feed_11 rfl rfl (le_b rfl) (le_b rfl)
  · have hf := (am_if hf).2 hc
    refine r_iload_n (x := a1) dX9_feed_4 rfl ?_
    refine r_iconst (v := 4) dX9_feed_5 rfl ?_
    refine r_icmp_le (tgt := 12) dX9_feed_6 (by decide) (fun hc => ?_) (fun hc => ?_)
    · have hf := (am_if hf).1 hc
      refine r_iload_n (x := a1) dX9_feed_12 rfl ?_
      refine r_bipush (v := 100) dX9_feed_13 rfl ?_
      refine r_aload_n (x := (0, 0, 0)) dX9_feed_15 rfl ?_
      refine e_getr (z := some (9, 0, 0)) fw_X9_31 dX9_feed_16 (kC_mem (s := 0) (by decide) (by decide) (by decide)) rfl (lt_b rfl) rfl ?_
      refine e_geti fw_X9_130 dX9_feed_19 (kC_mem (s := 9) (by decide) (by decide) (by decide)) rfl (lt_b rfl) ?_
      refine r_isub dX9_feed_22 ?_
      refine r_icmp_le (tgt := 29) dX9_feed_23 (by decide) (fun hc => ?_) (fun hc => ?_)
      · have hf := (am_if hf).1 hc
        refine r_iload_n (x := a1) dX9_feed_29 rfl ?_
        refine r_iconst (v := 1) dX9_feed_30 rfl ?_
        refine r_isub dX9_feed_31 ?_
        refine r_istore_n (L' := [some (vR (0, 0, 0)), some (vI a0), some (vI a1), some (vI (a1 - (1 : Int32)))]) dX9_feed_32 (by decide) rfl ?_
        refine r_weak (L' := [some (vR (0, 0, 0)), some (vI a0), none, some (vI (a1 - (1 : Int32)))]) (And.intro rfl (And.intro rfl (And.intro rfl trivial))) ?_
        obtain ⟨e3, he4, hf⟩ := am_bind hf
        refine K_X9_feed_L33  2000 (a1 - (1 : Int32), u) _ he4 ?_
        obtain ⟨u5, rfl⟩ : ∃ z, z = e3 := ⟨_, rfl⟩
        show X l _ _ 0 0 false _ kC 0 0 60 [some (vR (0, 0, 0)), none, none, none] [] (en u5)
        refine r_aload_n (x := (0, 0, 0)) dX9_feed_60 rfl ?_
        refine e_getr (z := some (9, 0, 0)) fw_X9_31 dX9_feed_61 (kC_mem (s := 0) (by decide) (by decide) (by decide)) rfl (lt_b rfl) rfl ?_
        refine e_geti fw_X9_130 dX9_feed_64 (kC_mem (s := 9) (by decide) (by decide) (by decide)) rfl (lt_b rfl) ?_
        have hx := am_inj hf
        subst hx
        exact r_iret dX9_feed_67 rfl rfl (le_b rfl) (le_b rfl)
      · have hf := (am_if hf).2 hc
        refine r_bipush (v := -4) dX9_feed_26 rfl ?_
        have hx := am_inj hf
        subst hx
        exact r_iret dX9_feed_28 rfl rfl (le_b rfl) (le_b rfl)
    · have hf := (am_if hf).2 hc
      refine r_bipush (v := -2) dX9_feed_9 rfl ?_
      have hx := am_inj hf
      subst hx
      exact r_iret dX9_feed_11 rfl rfl (le_b rfl) (le_b rfl)
/-! FireFromFire.land -/
theorem dX9_land_0 : decode cX9_land 0 = .ok (.aload_n 0, 1) := by decide +kernel
theorem dX9_land_1 : decode cX9_land 1 = .ok (.getfield 41, 3) := by decide +kernel
theorem dX9_land_4 : decode cX9_land 4 = .ok (.ifCond .lt 11, 3) := by decide +kernel
theorem dX9_land_7 : decode cX9_land 7 = .ok (.aload_n 0, 1) := by decide +kernel
theorem dX9_land_8 : decode cX9_land 8 = .ok (.getfield 41, 3) := by decide +kernel
theorem dX9_land_11 : decode cX9_land 11 = .ok (.iconst 5, 1) := by decide +kernel
theorem dX9_land_12 : decode cX9_land 12 = .ok (.if_icmp .lt 6, 3) := by decide +kernel
theorem dX9_land_15 : decode cX9_land 15 = .ok (.bipush (-4), 2) := by decide +kernel
theorem dX9_land_17 : decode cX9_land 17 = .ok (.ireturn, 1) := by decide +kernel
theorem dX9_land_18 : decode cX9_land 18 = .ok (.aload_n 0, 1) := by decide +kernel
theorem dX9_land_19 : decode cX9_land 19 = .ok (.getfield 37, 3) := by decide +kernel
theorem dX9_land_22 : decode cX9_land 22 = .ok (.aload_n 0, 1) := by decide +kernel
theorem dX9_land_23 : decode cX9_land 23 = .ok (.getfield 41, 3) := by decide +kernel
theorem dX9_land_26 : decode cX9_land 26 = .ok (.aaload, 1) := by decide +kernel
theorem dX9_land_27 : decode cX9_land 27 = .ok (.astore_n 1, 1) := by decide +kernel
theorem dX9_land_28 : decode cX9_land 28 = .ok (.aload_n 0, 1) := by decide +kernel
theorem dX9_land_29 : decode cX9_land 29 = .ok (.getfield 31, 3) := by decide +kernel
theorem dX9_land_32 : decode cX9_land 32 = .ok (.aload_n 1, 1) := by decide +kernel
theorem dX9_land_33 : decode cX9_land 33 = .ok (.invokevirtual 137, 3) := by decide +kernel
theorem dX9_land_36 : decode cX9_land 36 = .ok (.istore_n 2, 1) := by decide +kernel
theorem dX9_land_37 : decode cX9_land 37 = .ok (.aload_n 0, 1) := by decide +kernel
theorem dX9_land_38 : decode cX9_land 38 = .ok (.getfield 31, 3) := by decide +kernel
theorem dX9_land_41 : decode cX9_land 41 = .ok (.iconst 0, 1) := by decide +kernel
theorem dX9_land_42 : decode cX9_land 42 = .ok (.putfield 130, 3) := by decide +kernel
theorem dX9_land_45 : decode cX9_land 45 = .ok (.iload_n 2, 1) := by decide +kernel
theorem dX9_land_46 : decode cX9_land 46 = .ok (.ifCond .ne 14, 3) := by decide +kernel
theorem dX9_land_49 : decode cX9_land 49 = .ok (.bipush (-10), 2) := by decide +kernel
theorem dX9_land_51 : decode cX9_land 51 = .ok (.aload_n 0, 1) := by decide +kernel
theorem dX9_land_52 : decode cX9_land 52 = .ok (.getfield 31, 3) := by decide +kernel
theorem dX9_land_55 : decode cX9_land 55 = .ok (.getfield 141, 3) := by decide +kernel
theorem dX9_land_58 : decode cX9_land 58 = .ok (.isub, 1) := by decide +kernel
theorem dX9_land_59 : decode cX9_land 59 = .ok (.ireturn, 1) := by decide +kernel
theorem dX9_land_60 : decode cX9_land 60 = .ok (.aload_n 0, 1) := by decide +kernel
theorem dX9_land_61 : decode cX9_land 61 = .ok (.getfield 14, 3) := by decide +kernel
theorem dX9_land_64 : decode cX9_land 64 = .ok (.aload_n 1, 1) := by decide +kernel
theorem dX9_land_65 : decode cX9_land 65 = .ok (.putfield 144, 3) := by decide +kernel
theorem dX9_land_68 : decode cX9_land 68 = .ok (.aload_n 0, 1) := by decide +kernel
theorem dX9_land_69 : decode cX9_land 69 = .ok (.dup, 1) := by decide +kernel
theorem dX9_land_70 : decode cX9_land 70 = .ok (.getfield 41, 3) := by decide +kernel
theorem dX9_land_73 : decode cX9_land 73 = .ok (.dup_x1, 1) := by decide +kernel
theorem dX9_land_74 : decode cX9_land 74 = .ok (.iconst 1, 1) := by decide +kernel
theorem dX9_land_75 : decode cX9_land 75 = .ok (.iadd, 1) := by decide +kernel
theorem dX9_land_76 : decode cX9_land 76 = .ok (.putfield 41, 3) := by decide +kernel
theorem dX9_land_79 : decode cX9_land 79 = .ok (.ireturn, 1) := by decide +kernel
def f_X9_land   (u : PM) : Option (Int32 × PM) :=
  if (u.1 (0, 0, 0) 6) < 0 then
    some ((-4 : Int32), u)
  else
  if (u.1 (0, 0, 0) 6) < (5 : Int32) then
    if (u.1 (0, 0, 0) 6) < 0 ∨ 5 ≤ (u.1 (0, 0, 0) 6).toNatClampNeg then none else
    (f_X6_parse ((u.1 (0, 0, 0) 6).toNatClampNeg) u).bind fun (r2, u4) =>
    if r2 = 0 then
      some ((-10 : Int32) - (u4.1 (9, 0, 0) 2), (pi u4 (9, 0, 0) 1 (0 : Int32)))
    else
    some (u4.1 (0, 0, 0) 6, (pi (pr (pi u4 (9, 0, 0) 1 (0 : Int32)) 1 (some ((u.1 (0, 0, 0) 6).toNatClampNeg))) (0, 0, 0) 6 ((u4.1 (0, 0, 0) 6) + (1 : Int32))))
  else
  some ((-4 : Int32), u)
set_option maxHeartbeats 4000000 in
set_option maxRecDepth 20000 in
theorem C_X9_land {l : Launch}   {u : PM} {x : Int32 × PM} (hf : f_X9_land u = some x) : Ev l mX9_land 29 0 0 false [vR (0, 0, 0)] kC (en u) (some (vI x.1), kC, en x.2) := by
  refine Ev_of (by decide +kernel) (le_b rfl) ?_
  unfold f_X9_land at hf
  show X l mX9_land 29 0 0 false _ kC 0 0 0 [some (vR (0, 0, 0)), none, none] [] (en u)
  refine r_aload_n (x := (0, 0, 0)) dX9_land_0 rfl ?_
  refine e_geti fw_X9_41 dX9_land_1 (kC_mem (s := 0) (by decide) (by decide) (by decide)) rfl (lt_b rfl) ?_
  refine r_if_lt (tgt := 15) dX9_land_4 (by decide) (fun hc => ?_) (fun hc => ?_)
  · have hf := (am_if hf).1 hc
    refine r_bipush (v := -4) dX9_land_15 rfl ?_
    have hx := am_inj hf
    subst hx
    exact r_iret dX9_land_17 rfl rfl (le_b rfl) (le_b rfl)
  · have hf := (am_if hf).2 hc
    refine r_aload_n (x := (0, 0, 0)) dX9_land_7 rfl ?_
    refine e_geti fw_X9_41 dX9_land_8 (kC_mem (s := 0) (by decide) (by decide) (by decide)) rfl (lt_b rfl) ?_
    refine r_iconst (v := 5) dX9_land_11 rfl ?_
    refine r_icmp_lt (tgt := 18) dX9_land_12 (by decide) (fun hc => ?_) (fun hc => ?_)
    · have hf := (am_if hf).1 hc
      refine r_aload_n (x := (0, 0, 0)) dX9_land_18 rfl ?_
      refine e_getr (z := some (19, 0, 0)) fw_X9_37 dX9_land_19 (kC_mem (s := 0) (by decide) (by decide) (by decide)) rfl (lt_b rfl) rfl ?_
      refine r_aload_n (x := (0, 0, 0)) dX9_land_22 rfl ?_
      refine e_geti fw_X9_41 dX9_land_23 (kC_mem (s := 0) (by decide) (by decide) (by decide)) rfl (lt_b rfl) ?_
      obtain ⟨h1, hf⟩ := am_nchk hf
      refine e_aald (n := (u.1 (0, 0, 0) 6).toNatClampNeg) (z := some (11, (u.1 (0, 0, 0) 6).toNatClampNeg, 0)) dX9_land_26 (kC_mem (s := 19) (by decide) (by decide) (by decide)) ⟨le_b rfl, lt_b rfl⟩ h1 rfl rfl ?_
      refine r_astore_n (L' := [some (vR (0, 0, 0)), some (vR (11, (u.1 (0, 0, 0) 6).toNatClampNeg, 0)), none]) dX9_land_27 (by decide) rfl ?_
      refine r_aload_n (x := (0, 0, 0)) dX9_land_28 rfl ?_
      refine e_getr (z := some (9, 0, 0)) fw_X9_31 dX9_land_29 (kC_mem (s := 0) (by decide) (by decide) (by decide)) rfl (lt_b rfl) rfl ?_
      refine r_aload_n (x := (11, (u.1 (0, 0, 0) 6).toNatClampNeg, 0)) dX9_land_32 rfl ?_
      obtain ⟨⟨r2, u4⟩, hr3, hf⟩ := am_bind hf
      refine r_callV (as := [vR (11, (u.1 (0, 0, 0) 6).toNatClampNeg, 0)]) (st := []) (n := 1) mw_X9_137 mv_X6_parse (C_X6_parse (l := l) (vp_lt h1) hr3) (le_b rfl) dX9_land_33 (kC_mem (s := 9) (by decide) (by decide) (by decide)) rfl rfl rfl (le_b rfl) (le_b rfl) (le_b rfl) ?_
      show X l _ _ 0 0 false _ kC 0 0 36 [some (vR (0, 0, 0)), some (vR (11, (u.1 (0, 0, 0) 6).toNatClampNeg, 0)), none] [vI r2] (en u4)
      refine r_istore_n (L' := [some (vR (0, 0, 0)), some (vR (11, (u.1 (0, 0, 0) 6).toNatClampNeg, 0)), some (vI r2)]) dX9_land_36 (by decide) rfl ?_
      refine r_aload_n (x := (0, 0, 0)) dX9_land_37 rfl ?_
      refine e_getr (z := some (9, 0, 0)) fw_X9_31 dX9_land_38 (kC_mem (s := 0) (by decide) (by decide) (by decide)) rfl (lt_b rfl) rfl ?_
      refine r_iconst (v := 0) dX9_land_41 rfl ?_
      refine e_puti fp_X9_130 dX9_land_42 (kC_mem (s := 9) (by decide) (by decide) (by decide)) rfl (lt_b rfl) rfl rfl rfl ?_
      refine r_iload_n (x := r2) dX9_land_45 rfl ?_
      refine r_if_ne (tgt := 60) dX9_land_46 (by decide) (fun hc => ?_) (fun hc => ?_)
      · have hf := (am_if hf).2 hc
        refine r_aload_n (x := (0, 0, 0)) dX9_land_60 rfl ?_
        refine e_getr (z := some (1, 0, 0)) fw_X9_14 dX9_land_61 (kC_mem (s := 0) (by decide) (by decide) (by decide)) rfl (lt_b rfl) rfl ?_
        refine r_aload_n (x := (11, (u.1 (0, 0, 0) 6).toNatClampNeg, 0)) dX9_land_64 rfl ?_
        refine e_put1 (x := some ((u.1 (0, 0, 0) 6).toNatClampNeg)) fp_X9_144 dX9_land_65 (kC_mem (s := 1) (by decide) (by decide) (by decide)) (fun v => by cases v <;> exact ⟨rfl, rfl⟩) ?_
        refine r_aload_n (x := (0, 0, 0)) dX9_land_68 rfl ?_
        refine r_dup dX9_land_69 rfl ?_
        refine e_geti_ (x := u4.1 (0, 0, 0) 6) fw_X9_41 dX9_land_70 (kC_mem (s := 0) (by decide) (by decide) (by decide)) rfl (lt_b rfl) (by simp [pi, pl, pr, pci, pcl]) ?_
        refine r_dup_x1 dX9_land_73 rfl rfl ?_
        refine r_iconst (v := 1) dX9_land_74 rfl ?_
        refine r_iadd dX9_land_75 ?_
        refine e_puti fp_X9_41 dX9_land_76 (kC_mem (s := 0) (by decide) (by decide) (by decide)) rfl (lt_b rfl) rfl rfl rfl ?_
        have hx := am_inj hf
        subst hx
        exact r_iret dX9_land_79 rfl rfl (le_b rfl) (le_b rfl)
      · have hf := (am_if hf).1 hc
        refine r_bipush (v := -10) dX9_land_49 rfl ?_
        refine r_aload_n (x := (0, 0, 0)) dX9_land_51 rfl ?_
        refine e_getr (z := some (9, 0, 0)) fw_X9_31 dX9_land_52 (kC_mem (s := 0) (by decide) (by decide) (by decide)) rfl (lt_b rfl) rfl ?_
        refine e_geti_ (x := u4.1 (9, 0, 0) 2) fw_X9_141 dX9_land_55 (kC_mem (s := 9) (by decide) (by decide) (by decide)) rfl (lt_b rfl) (by simp [pi, pl, pr, pci, pcl]) ?_
        refine r_isub dX9_land_58 ?_
        have hx := am_inj hf
        subst hx
        exact r_iret dX9_land_59 rfl rfl (le_b rfl) (le_b rfl)
    · have hf := (am_if hf).2 hc
      refine r_bipush (v := -4) dX9_land_15 rfl ?_
      have hx := am_inj hf
      subst hx
      exact r_iret dX9_land_17 rfl rfl (le_b rfl) (le_b rfl)
/-! FireFromFire.isWeather -/
theorem dX9_isWeather_0 : decode cX9_isWeather 0 = .ok (.iload_n 0, 1) := by decide +kernel
theorem dX9_isWeather_1 : decode cX9_isWeather 1 = .ok (.ifCond .lt 12, 3) := by decide +kernel
theorem dX9_isWeather_4 : decode cX9_isWeather 4 = .ok (.iload_n 0, 1) := by decide +kernel
theorem dX9_isWeather_5 : decode cX9_isWeather 5 = .ok (.iconst 3, 1) := by decide +kernel
theorem dX9_isWeather_6 : decode cX9_isWeather 6 = .ok (.if_icmp .ge 7, 3) := by decide +kernel
theorem dX9_isWeather_9 : decode cX9_isWeather 9 = .ok (.iconst 1, 1) := by decide +kernel
theorem dX9_isWeather_10 : decode cX9_isWeather 10 = .ok (.goto 4, 3) := by decide +kernel
theorem dX9_isWeather_13 : decode cX9_isWeather 13 = .ok (.iconst 0, 1) := by decide +kernel
theorem dX9_isWeather_14 : decode cX9_isWeather 14 = .ok (.ireturn, 1) := by decide +kernel
def f_X9_isWeather  (a0 : Int32) (u : PM) : Option (Int32) :=
  if a0 < 0 then
    some (0 : Int32)
  else
  if (3 : Int32) ≤ a0 then
    some (0 : Int32)
  else
  some (1 : Int32)
set_option maxHeartbeats 4000000 in
set_option maxRecDepth 20000 in
theorem C_X9_isWeather {l : Launch}  {a0 : Int32} {u : PM} {x : Int32} (hf : f_X9_isWeather a0 u = some x) : Ev l mX9_isWeather 1 0 0 false [vI a0] kC (en u) (some (vI x), kC, en u) := by
  refine Ev_of (by decide +kernel) (le_b rfl) ?_
  unfold f_X9_isWeather at hf
  show X l mX9_isWeather 1 0 0 false _ kC 0 0 0 [some (vI a0)] [] (en u)
  refine r_iload_n (x := a0) dX9_isWeather_0 rfl ?_
  refine r_if_lt (tgt := 13) dX9_isWeather_1 (by decide) (fun hc => ?_) (fun hc => ?_)
  · have hf := (am_if hf).1 hc
    refine r_iconst (v := 0) dX9_isWeather_13 rfl ?_
    have hx := am_inj hf
    subst hx
    exact r_iret dX9_isWeather_14 rfl (am_bool (x := 0) (by decide)).1 (le_b rfl) (le_b rfl)
  · have hf := (am_if hf).2 hc
    refine r_iload_n (x := a0) dX9_isWeather_4 rfl ?_
    refine r_iconst (v := 3) dX9_isWeather_5 rfl ?_
    refine r_icmp_ge (tgt := 13) dX9_isWeather_6 (by decide) (fun hc => ?_) (fun hc => ?_)
    · have hf := (am_if hf).1 hc
      refine r_iconst (v := 0) dX9_isWeather_13 rfl ?_
      have hx := am_inj hf
      subst hx
      exact r_iret dX9_isWeather_14 rfl (am_bool (x := 0) (by decide)).1 (le_b rfl) (le_b rfl)
    · have hf := (am_if hf).2 hc
      refine r_iconst (v := 1) dX9_isWeather_9 rfl ?_
      refine r_goto (tgt := 14) dX9_isWeather_10 (by decide) ?_
      have hx := am_inj hf
      subst hx
      exact r_iret dX9_isWeather_14 rfl (am_bool (x := 1) (by decide)).1 (le_b rfl) (le_b rfl)
/-! FireFromFire.told -/
theorem dX9_told_0 : decode cX9_told 0 = .ok (.aload_n 0, 1) := by decide +kernel
theorem dX9_told_1 : decode cX9_told 1 = .ok (.getfield 14, 3) := by decide +kernel
theorem dX9_told_4 : decode cX9_told 4 = .ok (.iload_n 1, 1) := by decide +kernel
theorem dX9_told_5 : decode cX9_told 5 = .ok (.invokevirtual 94, 3) := by decide +kernel
theorem dX9_told_8 : decode cX9_told 8 = .ok (.ifnull 19, 3) := by decide +kernel
theorem dX9_told_11 : decode cX9_told 11 = .ok (.iload_n 2, 1) := by decide +kernel
theorem dX9_told_12 : decode cX9_told 12 = .ok (.invokestatic 148, 3) := by decide +kernel
theorem dX9_told_15 : decode cX9_told 15 = .ok (.ifCond .eq 12, 3) := by decide +kernel
theorem dX9_told_18 : decode cX9_told 18 = .ok (.iload_n 3, 1) := by decide +kernel
theorem dX9_told_19 : decode cX9_told 19 = .ok (.ifCond .lt 8, 3) := by decide +kernel
theorem dX9_told_22 : decode cX9_told 22 = .ok (.iload_n 3, 1) := by decide +kernel
theorem dX9_told_23 : decode cX9_told 23 = .ok (.iconst 3, 1) := by decide +kernel
theorem dX9_told_24 : decode cX9_told 24 = .ok (.if_icmp .le 5, 3) := by decide +kernel
theorem dX9_told_27 : decode cX9_told 27 = .ok (.iconst (-1), 1) := by decide +kernel
theorem dX9_told_28 : decode cX9_told 28 = .ok (.ireturn, 1) := by decide +kernel
theorem dX9_told_29 : decode cX9_told 29 = .ok (.aload_n 0, 1) := by decide +kernel
theorem dX9_told_30 : decode cX9_told 30 = .ok (.getfield 14, 3) := by decide +kernel
theorem dX9_told_33 : decode cX9_told 33 = .ok (.iload_n 3, 1) := by decide +kernel
theorem dX9_told_34 : decode cX9_told 34 = .ok (.iload_n 1, 1) := by decide +kernel
theorem dX9_told_35 : decode cX9_told 35 = .ok (.iload_n 2, 1) := by decide +kernel
theorem dX9_told_36 : decode cX9_told 36 = .ok (.invokevirtual 152, 3) := by decide +kernel
theorem dX9_told_39 : decode cX9_told 39 = .ok (.ireturn, 1) := by decide +kernel
def f_X9_told  (a0 : Int32) (a1 : Int32) (a2 : Int32) (u : PM) : Option (Int32 × PM) :=
  (f_X8_find 0 a0 u).bind fun r1 =>
  match r1 with
  | none =>
    some ((-1 : Int32), u)
  | some p3 =>
    if p3 < 6 then
      (f_X9_isWeather a1 u).bind fun r5 =>
      if r5 = 0 then
        some ((-1 : Int32), u)
      else
      if a2 < 0 then
        some ((-1 : Int32), u)
      else
      if a2 ≤ (3 : Int32) then
        (f_X8_sum 0 a2 a0 a1 u).bind fun (r7, u9) =>
        some (r7, u9)
      else
      some ((-1 : Int32), u)
    else none
set_option maxHeartbeats 4000000 in
set_option maxRecDepth 20000 in
theorem C_X9_told {l : Launch}  {a0 : Int32} {a1 : Int32} {a2 : Int32} {u : PM} {x : Int32 × PM} (hf : f_X9_told a0 a1 a2 u = some x) : Ev l mX9_told 4 0 0 false [vR (0, 0, 0), vI a0, vI a1, vI a2] kC (en u) (some (vI x.1), kC, en x.2) := by
  refine Ev_of (by decide +kernel) (le_b rfl) ?_
  unfold f_X9_told at hf
  show X l mX9_told 4 0 0 false _ kC 0 0 0 [some (vR (0, 0, 0)), some (vI a0), some (vI a1), some (vI a2)] [] (en u)
  refine r_aload_n (x := (0, 0, 0)) dX9_told_0 rfl ?_
  refine e_getr (z := some (1, 0, 0)) fw_X9_14 dX9_told_1 (kC_mem (s := 0) (by decide) (by decide) (by decide)) rfl (lt_b rfl) rfl ?_
  refine r_iload_n (x := a0) dX9_told_4 rfl ?_
  obtain ⟨r1, hr2, hf⟩ := am_bind hf
  refine r_callV (as := [vI a0]) (st := []) (n := 1) mw_X9_94 mv_X8_find (C_X8_find (l := l) (by decide) hr2) (le_b rfl) dX9_told_5 (kC_mem (s := 1) (by decide) (by decide) (by decide)) rfl rfl rfl (le_b rfl) (le_b rfl) (le_b rfl) ?_
  cases r1 with
  | none =>
    show X l _ _ 0 0 false _ kC 0 0 8 [some (vR (0, 0, 0)), some (vI a0), some (vI a1), some (vI a2)] [vN] (en u)
    refine r_ifnullN (tgt := 27) dX9_told_8 (by decide) ?_
    refine r_iconst (v := -1) dX9_told_27 rfl ?_
    have hx := am_inj hf
    subst hx
    exact r_iret dX9_told_28 rfl rfl (le_b rfl) (le_b rfl)
  | some p3 =>
    obtain ⟨h4, hf⟩ := am_chk hf
    show X l _ _ 0 0 false _ kC 0 0 8 [some (vR (0, 0, 0)), some (vI a0), some (vI a1), some (vI a2)] [vR (3, 0, p3)] (en u)
    refine r_ifnullR dX9_told_8 ?_
    refine r_iload_n (x := a1) dX9_told_11 rfl ?_
    obtain ⟨r5, hr6, hf⟩ := am_bind hf
    refine r_callS (as := [vI a1]) (st := []) (n := 1) mw_X9_148 ms_X9_isWeather (C_X9_isWeather (l := l) hr6) (le_b rfl) dX9_told_12 rfl (le_b rfl) (le_b rfl) (le_b rfl) ?_
    show X l _ _ 0 0 false _ kC 0 0 15 [some (vR (0, 0, 0)), some (vI a0), some (vI a1), some (vI a2)] [vI r5] (en u)
    refine r_if_eq (tgt := 27) dX9_told_15 (by decide) (fun hc => ?_) (fun hc => ?_)
    · have hf := (am_if hf).1 hc
      refine r_iconst (v := -1) dX9_told_27 rfl ?_
      have hx := am_inj hf
      subst hx
      exact r_iret dX9_told_28 rfl rfl (le_b rfl) (le_b rfl)
    · have hf := (am_if hf).2 hc
      refine r_iload_n (x := a2) dX9_told_18 rfl ?_
      refine r_if_lt (tgt := 27) dX9_told_19 (by decide) (fun hc => ?_) (fun hc => ?_)
      · have hf := (am_if hf).1 hc
        refine r_iconst (v := -1) dX9_told_27 rfl ?_
        have hx := am_inj hf
        subst hx
        exact r_iret dX9_told_28 rfl rfl (le_b rfl) (le_b rfl)
      · have hf := (am_if hf).2 hc
        refine r_iload_n (x := a2) dX9_told_22 rfl ?_
        refine r_iconst (v := 3) dX9_told_23 rfl ?_
        refine r_icmp_le (tgt := 29) dX9_told_24 (by decide) (fun hc => ?_) (fun hc => ?_)
        · have hf := (am_if hf).1 hc
          refine r_aload_n (x := (0, 0, 0)) dX9_told_29 rfl ?_
          refine e_getr (z := some (1, 0, 0)) fw_X9_14 dX9_told_30 (kC_mem (s := 0) (by decide) (by decide) (by decide)) rfl (lt_b rfl) rfl ?_
          refine r_iload_n (x := a2) dX9_told_33 rfl ?_
          refine r_iload_n (x := a0) dX9_told_34 rfl ?_
          refine r_iload_n (x := a1) dX9_told_35 rfl ?_
          obtain ⟨⟨r7, u9⟩, hr8, hf⟩ := am_bind hf
          refine r_callV (as := [vI a2, vI a0, vI a1]) (st := []) (n := 3) mw_X9_152 mv_X8_sum (C_X8_sum (l := l) (by decide) hr8) (le_b rfl) dX9_told_36 (kC_mem (s := 1) (by decide) (by decide) (by decide)) rfl rfl rfl (le_b rfl) (le_b rfl) (le_b rfl) ?_
          show X l _ _ 0 0 false _ kC 0 0 39 [some (vR (0, 0, 0)), some (vI a0), some (vI a1), some (vI a2)] [vI r7] (en u9)
          have hx := am_inj hf
          subst hx
          exact r_iret dX9_told_39 rfl rfl (le_b rfl) (le_b rfl)
        · have hf := (am_if hf).2 hc
          refine r_iconst (v := -1) dX9_told_27 rfl ?_
          have hx := am_inj hf
          subst hx
          exact r_iret dX9_told_28 rfl rfl (le_b rfl) (le_b rfl)
/-! FireFromFire.follows -/
theorem dX9_follows_0 : decode cX9_follows 0 = .ok (.iload_n 1, 1) := by decide +kernel
theorem dX9_follows_1 : decode cX9_follows 1 = .ok (.invokestatic 148, 3) := by decide +kernel
theorem dX9_follows_4 : decode cX9_follows 4 = .ok (.ifCond .eq 10, 3) := by decide +kernel
theorem dX9_follows_7 : decode cX9_follows 7 = .ok (.iload_n 2, 1) := by decide +kernel
theorem dX9_follows_8 : decode cX9_follows 8 = .ok (.invokestatic 148, 3) := by decide +kernel
theorem dX9_follows_11 : decode cX9_follows 11 = .ok (.ifCond .ne 5, 3) := by decide +kernel
theorem dX9_follows_14 : decode cX9_follows 14 = .ok (.iconst (-1), 1) := by decide +kernel
theorem dX9_follows_15 : decode cX9_follows 15 = .ok (.ireturn, 1) := by decide +kernel
theorem dX9_follows_16 : decode cX9_follows 16 = .ok (.aload_n 0, 1) := by decide +kernel
theorem dX9_follows_17 : decode cX9_follows 17 = .ok (.getfield 14, 3) := by decide +kernel
theorem dX9_follows_20 : decode cX9_follows 20 = .ok (.iload_n 1, 1) := by decide +kernel
theorem dX9_follows_21 : decode cX9_follows 21 = .ok (.iload_n 2, 1) := by decide +kernel
theorem dX9_follows_22 : decode cX9_follows 22 = .ok (.invokevirtual 156, 3) := by decide +kernel
theorem dX9_follows_25 : decode cX9_follows 25 = .ok (.ireturn, 1) := by decide +kernel
def f_X9_follows  (a0 : Int32) (a1 : Int32) (u : PM) : Option (Int32) :=
  (f_X9_isWeather a0 u).bind fun r1 =>
  if r1 = 0 then
    some (-1 : Int32)
  else
  (f_X9_isWeather a1 u).bind fun r3 =>
  if r3 = 0 then
    some (-1 : Int32)
  else
  (f_X8_tenthsOf 0 a0 a1 u).bind fun r5 =>
  some r5
set_option maxHeartbeats 4000000 in
set_option maxRecDepth 20000 in
theorem C_X9_follows {l : Launch}  {a0 : Int32} {a1 : Int32} {u : PM} {x : Int32} (hf : f_X9_follows a0 a1 u = some x) : Ev l mX9_follows 3 0 0 false [vR (0, 0, 0), vI a0, vI a1] kC (en u) (some (vI x), kC, en u) := by
  refine Ev_of (by decide +kernel) (le_b rfl) ?_
  unfold f_X9_follows at hf
  show X l mX9_follows 3 0 0 false _ kC 0 0 0 [some (vR (0, 0, 0)), some (vI a0), some (vI a1)] [] (en u)
  refine r_iload_n (x := a0) dX9_follows_0 rfl ?_
  obtain ⟨r1, hr2, hf⟩ := am_bind hf
  refine r_callS (as := [vI a0]) (st := []) (n := 1) mw_X9_148 ms_X9_isWeather (C_X9_isWeather (l := l) hr2) (le_b rfl) dX9_follows_1 rfl (le_b rfl) (le_b rfl) (le_b rfl) ?_
  show X l _ _ 0 0 false _ kC 0 0 4 [some (vR (0, 0, 0)), some (vI a0), some (vI a1)] [vI r1] (en u)
  refine r_if_eq (tgt := 14) dX9_follows_4 (by decide) (fun hc => ?_) (fun hc => ?_)
  · have hf := (am_if hf).1 hc
    refine r_iconst (v := -1) dX9_follows_14 rfl ?_
    have hx := am_inj hf
    subst hx
    exact r_iret dX9_follows_15 rfl rfl (le_b rfl) (le_b rfl)
  · have hf := (am_if hf).2 hc
    refine r_iload_n (x := a1) dX9_follows_7 rfl ?_
    obtain ⟨r3, hr4, hf⟩ := am_bind hf
    refine r_callS (as := [vI a1]) (st := []) (n := 1) mw_X9_148 ms_X9_isWeather (C_X9_isWeather (l := l) hr4) (le_b rfl) dX9_follows_8 rfl (le_b rfl) (le_b rfl) (le_b rfl) ?_
    show X l _ _ 0 0 false _ kC 0 0 11 [some (vR (0, 0, 0)), some (vI a0), some (vI a1)] [vI r3] (en u)
    refine r_if_ne (tgt := 16) dX9_follows_11 (by decide) (fun hc => ?_) (fun hc => ?_)
    · have hf := (am_if hf).2 hc
      refine r_aload_n (x := (0, 0, 0)) dX9_follows_16 rfl ?_
      refine e_getr (z := some (1, 0, 0)) fw_X9_14 dX9_follows_17 (kC_mem (s := 0) (by decide) (by decide) (by decide)) rfl (lt_b rfl) rfl ?_
      refine r_iload_n (x := a0) dX9_follows_20 rfl ?_
      refine r_iload_n (x := a1) dX9_follows_21 rfl ?_
      obtain ⟨r5, hr6, hf⟩ := am_bind hf
      refine r_callV (as := [vI a0, vI a1]) (st := []) (n := 2) mw_X9_156 mv_X8_tenthsOf (C_X8_tenthsOf (l := l) (by decide) hr6) (le_b rfl) dX9_follows_22 (kC_mem (s := 1) (by decide) (by decide) (by decide)) rfl rfl rfl (le_b rfl) (le_b rfl) (le_b rfl) ?_
      show X l _ _ 0 0 false _ kC 0 0 25 [some (vR (0, 0, 0)), some (vI a0), some (vI a1)] [vI r5] (en u)
      have hx := am_inj hf
      subst hx
      exact r_iret dX9_follows_25 rfl rfl (le_b rfl) (le_b rfl)
    · have hf := (am_if hf).1 hc
      refine r_iconst (v := -1) dX9_follows_14 rfl ?_
      have hx := am_inj hf
      subst hx
      exact r_iret dX9_follows_15 rfl rfl (le_b rfl) (le_b rfl)
/-! FireFromFire.isKind -/
theorem dX9_isKind_0 : decode cX9_isKind 0 = .ok (.iload_n 0, 1) := by decide +kernel
theorem dX9_isKind_1 : decode cX9_isKind 1 = .ok (.ifCond .lt 13, 3) := by decide +kernel
theorem dX9_isKind_4 : decode cX9_isKind 4 = .ok (.iload_n 0, 1) := by decide +kernel
theorem dX9_isKind_5 : decode cX9_isKind 5 = .ok (.bipush 7, 2) := by decide +kernel
theorem dX9_isKind_7 : decode cX9_isKind 7 = .ok (.if_icmp .ge 7, 3) := by decide +kernel
theorem dX9_isKind_10 : decode cX9_isKind 10 = .ok (.iconst 1, 1) := by decide +kernel
theorem dX9_isKind_11 : decode cX9_isKind 11 = .ok (.goto 4, 3) := by decide +kernel
theorem dX9_isKind_14 : decode cX9_isKind 14 = .ok (.iconst 0, 1) := by decide +kernel
theorem dX9_isKind_15 : decode cX9_isKind 15 = .ok (.ireturn, 1) := by decide +kernel
def f_X9_isKind  (a0 : Int32) (u : PM) : Option (Int32) :=
  if a0 < 0 then
    some (0 : Int32)
  else
  if (7 : Int32) ≤ a0 then
    some (0 : Int32)
  else
  some (1 : Int32)
set_option maxHeartbeats 4000000 in
set_option maxRecDepth 20000 in
theorem C_X9_isKind {l : Launch}  {a0 : Int32} {u : PM} {x : Int32} (hf : f_X9_isKind a0 u = some x) : Ev l mX9_isKind 1 0 0 false [vI a0] kC (en u) (some (vI x), kC, en u) := by
  refine Ev_of (by decide +kernel) (le_b rfl) ?_
  unfold f_X9_isKind at hf
  show X l mX9_isKind 1 0 0 false _ kC 0 0 0 [some (vI a0)] [] (en u)
  refine r_iload_n (x := a0) dX9_isKind_0 rfl ?_
  refine r_if_lt (tgt := 14) dX9_isKind_1 (by decide) (fun hc => ?_) (fun hc => ?_)
  · have hf := (am_if hf).1 hc
    refine r_iconst (v := 0) dX9_isKind_14 rfl ?_
    have hx := am_inj hf
    subst hx
    exact r_iret dX9_isKind_15 rfl (am_bool (x := 0) (by decide)).1 (le_b rfl) (le_b rfl)
  · have hf := (am_if hf).2 hc
    refine r_iload_n (x := a0) dX9_isKind_4 rfl ?_
    refine r_bipush (v := 7) dX9_isKind_5 rfl ?_
    refine r_icmp_ge (tgt := 14) dX9_isKind_7 (by decide) (fun hc => ?_) (fun hc => ?_)
    · have hf := (am_if hf).1 hc
      refine r_iconst (v := 0) dX9_isKind_14 rfl ?_
      have hx := am_inj hf
      subst hx
      exact r_iret dX9_isKind_15 rfl (am_bool (x := 0) (by decide)).1 (le_b rfl) (le_b rfl)
    · have hf := (am_if hf).2 hc
      refine r_iconst (v := 1) dX9_isKind_10 rfl ?_
      refine r_goto (tgt := 15) dX9_isKind_11 (by decide) ?_
      have hx := am_inj hf
      subst hx
      exact r_iret dX9_isKind_15 rfl (am_bool (x := 1) (by decide)).1 (le_b rfl) (le_b rfl)
/-! FireFromFire.keeper -/
theorem dX9_keeper_0 : decode cX9_keeper 0 = .ok (.aload_n 0, 1) := by decide +kernel
theorem dX9_keeper_1 : decode cX9_keeper 1 = .ok (.getfield 14, 3) := by decide +kernel
theorem dX9_keeper_4 : decode cX9_keeper 4 = .ok (.iload_n 1, 1) := by decide +kernel
theorem dX9_keeper_5 : decode cX9_keeper 5 = .ok (.invokevirtual 94, 3) := by decide +kernel
theorem dX9_keeper_8 : decode cX9_keeper 8 = .ok (.astore 5, 2) := by decide +kernel
theorem dX9_keeper_10 : decode cX9_keeper 10 = .ok (.aload 5, 2) := by decide +kernel
theorem dX9_keeper_12 : decode cX9_keeper 12 = .ok (.ifnull 10, 3) := by decide +kernel
theorem dX9_keeper_15 : decode cX9_keeper 15 = .ok (.iload_n 2, 1) := by decide +kernel
theorem dX9_keeper_16 : decode cX9_keeper 16 = .ok (.invokestatic 159, 3) := by decide +kernel
theorem dX9_keeper_19 : decode cX9_keeper 19 = .ok (.ifCond .ne 5, 3) := by decide +kernel
theorem dX9_keeper_22 : decode cX9_keeper 22 = .ok (.iconst (-1), 1) := by decide +kernel
theorem dX9_keeper_23 : decode cX9_keeper 23 = .ok (.ireturn, 1) := by decide +kernel
theorem dX9_keeper_24 : decode cX9_keeper 24 = .ok (.iload_n 3, 1) := by decide +kernel
theorem dX9_keeper_25 : decode cX9_keeper 25 = .ok (.ifCond .lt 21, 3) := by decide +kernel
theorem dX9_keeper_28 : decode cX9_keeper 28 = .ok (.iload_n 3, 1) := by decide +kernel
theorem dX9_keeper_29 : decode cX9_keeper 29 = .ok (.bipush 9, 2) := by decide +kernel
theorem dX9_keeper_31 : decode cX9_keeper 31 = .ok (.if_icmp .gt 15, 3) := by decide +kernel
theorem dX9_keeper_34 : decode cX9_keeper 34 = .ok (.iload 4, 2) := by decide +kernel
theorem dX9_keeper_36 : decode cX9_keeper 36 = .ok (.ifCond .lt 10, 3) := by decide +kernel
theorem dX9_keeper_39 : decode cX9_keeper 39 = .ok (.iload 4, 2) := by decide +kernel
theorem dX9_keeper_41 : decode cX9_keeper 41 = .ok (.ldc 162, 2) := by decide +kernel
theorem dX9_keeper_43 : decode cX9_keeper 43 = .ok (.if_icmp .le 6, 3) := by decide +kernel
theorem dX9_keeper_46 : decode cX9_keeper 46 = .ok (.bipush (-2), 2) := by decide +kernel
theorem dX9_keeper_48 : decode cX9_keeper 48 = .ok (.ireturn, 1) := by decide +kernel
theorem dX9_keeper_49 : decode cX9_keeper 49 = .ok (.aload 5, 2) := by decide +kernel
theorem dX9_keeper_51 : decode cX9_keeper 51 = .ok (.getfield 104, 3) := by decide +kernel
theorem dX9_keeper_54 : decode cX9_keeper 54 = .ok (.istore 6, 2) := by decide +kernel
theorem dX9_keeper_56 : decode cX9_keeper 56 = .ok (.aload 5, 2) := by decide +kernel
theorem dX9_keeper_58 : decode cX9_keeper 58 = .ok (.iload_n 2, 1) := by decide +kernel
theorem dX9_keeper_59 : decode cX9_keeper 59 = .ok (.putfield 104, 3) := by decide +kernel
theorem dX9_keeper_62 : decode cX9_keeper 62 = .ok (.aload 5, 2) := by decide +kernel
theorem dX9_keeper_64 : decode cX9_keeper 64 = .ok (.iload_n 3, 1) := by decide +kernel
theorem dX9_keeper_65 : decode cX9_keeper 65 = .ok (.putfield 107, 3) := by decide +kernel
theorem dX9_keeper_68 : decode cX9_keeper 68 = .ok (.aload 5, 2) := by decide +kernel
theorem dX9_keeper_70 : decode cX9_keeper 70 = .ok (.iload 4, 2) := by decide +kernel
theorem dX9_keeper_72 : decode cX9_keeper 72 = .ok (.putfield 163, 3) := by decide +kernel
theorem dX9_keeper_75 : decode cX9_keeper 75 = .ok (.iload 6, 2) := by decide +kernel
theorem dX9_keeper_77 : decode cX9_keeper 77 = .ok (.ireturn, 1) := by decide +kernel
def f_X9_keeper  (a0 : Int32) (a1 : Int32) (a2 : Int32) (a3 : Int32) (u : PM) : Option (Int32 × PM) :=
  (f_X8_find 0 a0 u).bind fun r1 =>
  match r1 with
  | none =>
    some ((-1 : Int32), u)
  | some p3 =>
    if p3 < 6 then
      (f_X9_isKind a1 u).bind fun r5 =>
      if r5 = 0 then
        some ((-1 : Int32), u)
      else
      if a2 < 0 then
        some ((-2 : Int32), u)
      else
      if (9 : Int32) < a2 then
        some ((-2 : Int32), u)
      else
      if a3 < 0 then
        some ((-2 : Int32), u)
      else
      if a3 ≤ (16777215 : Int32) then
        some (u.1 (3, 0, p3) 2, (pi (pi (pi u (3, 0, p3) 2 a1) (3, 0, p3) 3 a2) (3, 0, p3) 4 a3))
      else
      some ((-2 : Int32), u)
    else none
set_option maxHeartbeats 4000000 in
set_option maxRecDepth 20000 in
theorem C_X9_keeper {l : Launch}  {a0 : Int32} {a1 : Int32} {a2 : Int32} {a3 : Int32} {u : PM} {x : Int32 × PM} (hf : f_X9_keeper a0 a1 a2 a3 u = some x) : Ev l mX9_keeper 2 0 0 false [vR (0, 0, 0), vI a0, vI a1, vI a2, vI a3] kC (en u) (some (vI x.1), kC, en x.2) := by
  refine Ev_of (by decide +kernel) (le_b rfl) ?_
  unfold f_X9_keeper at hf
  show X l mX9_keeper 2 0 0 false _ kC 0 0 0 [some (vR (0, 0, 0)), some (vI a0), some (vI a1), some (vI a2), some (vI a3), none, none] [] (en u)
  refine r_aload_n (x := (0, 0, 0)) dX9_keeper_0 rfl ?_
  refine e_getr (z := some (1, 0, 0)) fw_X9_14 dX9_keeper_1 (kC_mem (s := 0) (by decide) (by decide) (by decide)) rfl (lt_b rfl) rfl ?_
  refine r_iload_n (x := a0) dX9_keeper_4 rfl ?_
  obtain ⟨r1, hr2, hf⟩ := am_bind hf
  refine r_callV (as := [vI a0]) (st := []) (n := 1) mw_X9_94 mv_X8_find (C_X8_find (l := l) (by decide) hr2) (le_b rfl) dX9_keeper_5 (kC_mem (s := 1) (by decide) (by decide) (by decide)) rfl rfl rfl (le_b rfl) (le_b rfl) (le_b rfl) ?_
  cases r1 with
  | none =>
    show X l _ _ 0 0 false _ kC 0 0 8 [some (vR (0, 0, 0)), some (vI a0), some (vI a1), some (vI a2), some (vI a3), none, none] [vN] (en u)
    refine r_astoreN (L' := [some (vR (0, 0, 0)), some (vI a0), some (vI a1), some (vI a2), some (vI a3), some (vN), none]) dX9_keeper_8 (by decide) rfl ?_
    refine r_aloadN dX9_keeper_10 rfl ?_
    refine r_ifnullN (tgt := 22) dX9_keeper_12 (by decide) ?_
    refine r_iconst (v := -1) dX9_keeper_22 rfl ?_
    have hx := am_inj hf
    subst hx
    exact r_iret dX9_keeper_23 rfl rfl (le_b rfl) (le_b rfl)
  | some p3 =>
    obtain ⟨h4, hf⟩ := am_chk hf
    show X l _ _ 0 0 false _ kC 0 0 8 [some (vR (0, 0, 0)), some (vI a0), some (vI a1), some (vI a2), some (vI a3), none, none] [vR (3, 0, p3)] (en u)
    refine r_astore (L' := [some (vR (0, 0, 0)), some (vI a0), some (vI a1), some (vI a2), some (vI a3), some (vR (3, 0, p3)), none]) dX9_keeper_8 (by decide) rfl ?_
    refine r_aload (x := (3, 0, p3)) dX9_keeper_10 rfl ?_
    refine r_ifnullR dX9_keeper_12 ?_
    refine r_iload_n (x := a1) dX9_keeper_15 rfl ?_
    obtain ⟨r5, hr6, hf⟩ := am_bind hf
    refine r_callS (as := [vI a1]) (st := []) (n := 1) mw_X9_159 ms_X9_isKind (C_X9_isKind (l := l) hr6) (le_b rfl) dX9_keeper_16 rfl (le_b rfl) (le_b rfl) (le_b rfl) ?_
    show X l _ _ 0 0 false _ kC 0 0 19 [some (vR (0, 0, 0)), some (vI a0), some (vI a1), some (vI a2), some (vI a3), some (vR (3, 0, p3)), none] [vI r5] (en u)
    refine r_if_ne (tgt := 24) dX9_keeper_19 (by decide) (fun hc => ?_) (fun hc => ?_)
    · have hf := (am_if hf).2 hc
      refine r_iload_n (x := a2) dX9_keeper_24 rfl ?_
      refine r_if_lt (tgt := 46) dX9_keeper_25 (by decide) (fun hc => ?_) (fun hc => ?_)
      · have hf := (am_if hf).1 hc
        refine r_bipush (v := -2) dX9_keeper_46 rfl ?_
        have hx := am_inj hf
        subst hx
        exact r_iret dX9_keeper_48 rfl rfl (le_b rfl) (le_b rfl)
      · have hf := (am_if hf).2 hc
        refine r_iload_n (x := a2) dX9_keeper_28 rfl ?_
        refine r_bipush (v := 9) dX9_keeper_29 rfl ?_
        refine r_icmp_gt (tgt := 46) dX9_keeper_31 (by decide) (fun hc => ?_) (fun hc => ?_)
        · have hf := (am_if hf).1 hc
          refine r_bipush (v := -2) dX9_keeper_46 rfl ?_
          have hx := am_inj hf
          subst hx
          exact r_iret dX9_keeper_48 rfl rfl (le_b rfl) (le_b rfl)
        · have hf := (am_if hf).2 hc
          refine r_iload (x := a3) dX9_keeper_34 rfl ?_
          refine r_if_lt (tgt := 46) dX9_keeper_36 (by decide) (fun hc => ?_) (fun hc => ?_)
          · have hf := (am_if hf).1 hc
            refine r_bipush (v := -2) dX9_keeper_46 rfl ?_
            have hx := am_inj hf
            subst hx
            exact r_iret dX9_keeper_48 rfl rfl (le_b rfl) (le_b rfl)
          · have hf := (am_if hf).2 hc
            refine r_iload (x := a3) dX9_keeper_39 rfl ?_
            refine r_ldc (v := 16777215) dX9_keeper_41 cc_X9_162 ?_
            refine r_icmp_le (tgt := 49) dX9_keeper_43 (by decide) (fun hc => ?_) (fun hc => ?_)
            · have hf := (am_if hf).1 hc
              refine r_aload (x := (3, 0, p3)) dX9_keeper_49 rfl ?_
              refine e_geti fw_X9_104 dX9_keeper_51 (kC_mem (s := 3) (by decide) (by decide) h4) rfl (lt_b rfl) ?_
              refine r_istore (L' := [some (vR (0, 0, 0)), some (vI a0), some (vI a1), some (vI a2), some (vI a3), some (vR (3, 0, p3)), some (vI (u.1 (3, 0, p3) 2))]) dX9_keeper_54 (by decide) rfl ?_
              refine r_aload (x := (3, 0, p3)) dX9_keeper_56 rfl ?_
              refine r_iload_n (x := a1) dX9_keeper_58 rfl ?_
              refine e_puti fp_X9_104 dX9_keeper_59 (kC_mem (s := 3) (by decide) (by decide) h4) rfl (lt_b rfl) rfl rfl rfl ?_
              refine r_aload (x := (3, 0, p3)) dX9_keeper_62 rfl ?_
              refine r_iload_n (x := a2) dX9_keeper_64 rfl ?_
              refine e_puti fp_X9_107 dX9_keeper_65 (kC_mem (s := 3) (by decide) (by decide) h4) rfl (lt_b rfl) rfl rfl rfl ?_
              refine r_aload (x := (3, 0, p3)) dX9_keeper_68 rfl ?_
              refine r_iload (x := a3) dX9_keeper_70 rfl ?_
              refine e_puti fp_X9_163 dX9_keeper_72 (kC_mem (s := 3) (by decide) (by decide) h4) rfl (lt_b rfl) rfl rfl rfl ?_
              refine r_iload (x := u.1 (3, 0, p3) 2) dX9_keeper_75 rfl ?_
              have hx := am_inj hf
              subst hx
              exact r_iret dX9_keeper_77 rfl rfl (le_b rfl) (le_b rfl)
            · have hf := (am_if hf).2 hc
              refine r_bipush (v := -2) dX9_keeper_46 rfl ?_
              have hx := am_inj hf
              subst hx
              exact r_iret dX9_keeper_48 rfl rfl (le_b rfl) (le_b rfl)
    · have hf := (am_if hf).1 hc
      refine r_iconst (v := -1) dX9_keeper_22 rfl ?_
      have hx := am_inj hf
      subst hx
      exact r_iret dX9_keeper_23 rfl rfl (le_b rfl) (le_b rfl)
/-! FireFromFire.would -/
theorem dX9_would_0 : decode cX9_would 0 = .ok (.aload_n 0, 1) := by decide +kernel
theorem dX9_would_1 : decode cX9_would 1 = .ok (.getfield 14, 3) := by decide +kernel
theorem dX9_would_4 : decode cX9_would 4 = .ok (.iload_n 1, 1) := by decide +kernel
theorem dX9_would_5 : decode cX9_would 5 = .ok (.invokevirtual 94, 3) := by decide +kernel
theorem dX9_would_8 : decode cX9_would 8 = .ok (.ifnull 10, 3) := by decide +kernel
theorem dX9_would_11 : decode cX9_would 11 = .ok (.iload_n 2, 1) := by decide +kernel
theorem dX9_would_12 : decode cX9_would 12 = .ok (.invokestatic 148, 3) := by decide +kernel
theorem dX9_would_15 : decode cX9_would 15 = .ok (.ifCond .ne 5, 3) := by decide +kernel
theorem dX9_would_18 : decode cX9_would 18 = .ok (.iconst (-1), 1) := by decide +kernel
theorem dX9_would_19 : decode cX9_would 19 = .ok (.ireturn, 1) := by decide +kernel
theorem dX9_would_20 : decode cX9_would 20 = .ok (.aload_n 0, 1) := by decide +kernel
theorem dX9_would_21 : decode cX9_would 21 = .ok (.getfield 14, 3) := by decide +kernel
theorem dX9_would_24 : decode cX9_would 24 = .ok (.iload_n 1, 1) := by decide +kernel
theorem dX9_would_25 : decode cX9_would 25 = .ok (.iload_n 2, 1) := by decide +kernel
theorem dX9_would_26 : decode cX9_would 26 = .ok (.invokevirtual 166, 3) := by decide +kernel
theorem dX9_would_29 : decode cX9_would 29 = .ok (.ireturn, 1) := by decide +kernel
def f_X9_would  (a0 : Int32) (a1 : Int32) (u : PM) : Option (Int32 × PM) :=
  (f_X8_find 0 a0 u).bind fun r1 =>
  match r1 with
  | none =>
    some ((-1 : Int32), u)
  | some p3 =>
    if p3 < 6 then
      (f_X9_isWeather a1 u).bind fun r5 =>
      if r5 = 0 then
        some ((-1 : Int32), u)
      else
      (f_X8_choice 0 a0 a1 u).bind fun (r7, u9) =>
      some (r7, u9)
    else none
set_option maxHeartbeats 4000000 in
set_option maxRecDepth 20000 in
theorem C_X9_would {l : Launch}  {a0 : Int32} {a1 : Int32} {u : PM} {x : Int32 × PM} (hf : f_X9_would a0 a1 u = some x) : Ev l mX9_would 6 0 0 false [vR (0, 0, 0), vI a0, vI a1] kC (en u) (some (vI x.1), kC, en x.2) := by
  refine Ev_of (by decide +kernel) (le_b rfl) ?_
  unfold f_X9_would at hf
  show X l mX9_would 6 0 0 false _ kC 0 0 0 [some (vR (0, 0, 0)), some (vI a0), some (vI a1)] [] (en u)
  refine r_aload_n (x := (0, 0, 0)) dX9_would_0 rfl ?_
  refine e_getr (z := some (1, 0, 0)) fw_X9_14 dX9_would_1 (kC_mem (s := 0) (by decide) (by decide) (by decide)) rfl (lt_b rfl) rfl ?_
  refine r_iload_n (x := a0) dX9_would_4 rfl ?_
  obtain ⟨r1, hr2, hf⟩ := am_bind hf
  refine r_callV (as := [vI a0]) (st := []) (n := 1) mw_X9_94 mv_X8_find (C_X8_find (l := l) (by decide) hr2) (le_b rfl) dX9_would_5 (kC_mem (s := 1) (by decide) (by decide) (by decide)) rfl rfl rfl (le_b rfl) (le_b rfl) (le_b rfl) ?_
  cases r1 with
  | none =>
    show X l _ _ 0 0 false _ kC 0 0 8 [some (vR (0, 0, 0)), some (vI a0), some (vI a1)] [vN] (en u)
    refine r_ifnullN (tgt := 18) dX9_would_8 (by decide) ?_
    refine r_iconst (v := -1) dX9_would_18 rfl ?_
    have hx := am_inj hf
    subst hx
    exact r_iret dX9_would_19 rfl rfl (le_b rfl) (le_b rfl)
  | some p3 =>
    obtain ⟨h4, hf⟩ := am_chk hf
    show X l _ _ 0 0 false _ kC 0 0 8 [some (vR (0, 0, 0)), some (vI a0), some (vI a1)] [vR (3, 0, p3)] (en u)
    refine r_ifnullR dX9_would_8 ?_
    refine r_iload_n (x := a1) dX9_would_11 rfl ?_
    obtain ⟨r5, hr6, hf⟩ := am_bind hf
    refine r_callS (as := [vI a1]) (st := []) (n := 1) mw_X9_148 ms_X9_isWeather (C_X9_isWeather (l := l) hr6) (le_b rfl) dX9_would_12 rfl (le_b rfl) (le_b rfl) (le_b rfl) ?_
    show X l _ _ 0 0 false _ kC 0 0 15 [some (vR (0, 0, 0)), some (vI a0), some (vI a1)] [vI r5] (en u)
    refine r_if_ne (tgt := 20) dX9_would_15 (by decide) (fun hc => ?_) (fun hc => ?_)
    · have hf := (am_if hf).2 hc
      refine r_aload_n (x := (0, 0, 0)) dX9_would_20 rfl ?_
      refine e_getr (z := some (1, 0, 0)) fw_X9_14 dX9_would_21 (kC_mem (s := 0) (by decide) (by decide) (by decide)) rfl (lt_b rfl) rfl ?_
      refine r_iload_n (x := a0) dX9_would_24 rfl ?_
      refine r_iload_n (x := a1) dX9_would_25 rfl ?_
      obtain ⟨⟨r7, u9⟩, hr8, hf⟩ := am_bind hf
      refine r_callV (as := [vI a0, vI a1]) (st := []) (n := 2) mw_X9_166 mv_X8_choice (C_X8_choice (l := l) (by decide) hr8) (le_b rfl) dX9_would_26 (kC_mem (s := 1) (by decide) (by decide) (by decide)) rfl rfl rfl (le_b rfl) (le_b rfl) (le_b rfl) ?_
      show X l _ _ 0 0 false _ kC 0 0 29 [some (vR (0, 0, 0)), some (vI a0), some (vI a1)] [vI r7] (en u9)
      have hx := am_inj hf
      subst hx
      exact r_iret dX9_would_29 rfl rfl (le_b rfl) (le_b rfl)
    · have hf := (am_if hf).1 hc
      refine r_iconst (v := -1) dX9_would_18 rfl ?_
      have hx := am_inj hf
      subst hx
      exact r_iret dX9_would_19 rfl rfl (le_b rfl) (le_b rfl)
/-! FireFromFire.go -/
theorem dX9_go_0 : decode cX9_go 0 = .ok (.iload_n 1, 1) := by decide +kernel
theorem dX9_go_1 : decode cX9_go 1 = .ok (.invokestatic 148, 3) := by decide +kernel
theorem dX9_go_4 : decode cX9_go 4 = .ok (.ifCond .ne 5, 3) := by decide +kernel
theorem dX9_go_7 : decode cX9_go 7 = .ok (.iconst (-1), 1) := by decide +kernel
theorem dX9_go_8 : decode cX9_go 8 = .ok (.ireturn, 1) := by decide +kernel
theorem dX9_go_9 : decode cX9_go 9 = .ok (.iload_n 2, 1) := by decide +kernel
theorem dX9_go_10 : decode cX9_go 10 = .ok (.ifCond .lt 16, 3) := by decide +kernel
theorem dX9_go_13 : decode cX9_go 13 = .ok (.iload_n 2, 1) := by decide +kernel
theorem dX9_go_14 : decode cX9_go 14 = .ok (.iconst 1, 1) := by decide +kernel
theorem dX9_go_15 : decode cX9_go 15 = .ok (.aload_n 0, 1) := by decide +kernel
theorem dX9_go_16 : decode cX9_go 16 = .ok (.getfield 14, 3) := by decide +kernel
theorem dX9_go_19 : decode cX9_go 19 = .ok (.getfield 81, 3) := by decide +kernel
theorem dX9_go_22 : decode cX9_go 22 = .ok (.ishl, 1) := by decide +kernel
theorem dX9_go_23 : decode cX9_go 23 = .ok (.if_icmp .lt 6, 3) := by decide +kernel
theorem dX9_go_26 : decode cX9_go 26 = .ok (.bipush (-2), 2) := by decide +kernel
theorem dX9_go_28 : decode cX9_go 28 = .ok (.ireturn, 1) := by decide +kernel
theorem dX9_go_29 : decode cX9_go 29 = .ok (.aload_n 0, 1) := by decide +kernel
theorem dX9_go_30 : decode cX9_go 30 = .ok (.getfield 14, 3) := by decide +kernel
theorem dX9_go_33 : decode cX9_go 33 = .ok (.getfield 169, 3) := by decide +kernel
theorem dX9_go_36 : decode cX9_go 36 = .ok (.sipush 9999, 3) := by decide +kernel
theorem dX9_go_39 : decode cX9_go 39 = .ok (.if_icmp .lt 6, 3) := by decide +kernel
theorem dX9_go_42 : decode cX9_go 42 = .ok (.bipush (-3), 2) := by decide +kernel
theorem dX9_go_44 : decode cX9_go 44 = .ok (.ireturn, 1) := by decide +kernel
theorem dX9_go_45 : decode cX9_go 45 = .ok (.aload_n 0, 1) := by decide +kernel
theorem dX9_go_46 : decode cX9_go 46 = .ok (.getfield 48, 3) := by decide +kernel
theorem dX9_go_49 : decode cX9_go 49 = .ok (.aload_n 0, 1) := by decide +kernel
theorem dX9_go_50 : decode cX9_go 50 = .ok (.getfield 14, 3) := by decide +kernel
theorem dX9_go_53 : decode cX9_go 53 = .ok (.iload_n 1, 1) := by decide +kernel
theorem dX9_go_54 : decode cX9_go 54 = .ok (.iload_n 2, 1) := by decide +kernel
theorem dX9_go_55 : decode cX9_go 55 = .ok (.invokevirtual 172, 3) := by decide +kernel
theorem dX9_go_58 : decode cX9_go 58 = .ok (.aload_n 0, 1) := by decide +kernel
theorem dX9_go_59 : decode cX9_go 59 = .ok (.getfield 14, 3) := by decide +kernel
theorem dX9_go_62 : decode cX9_go 62 = .ok (.invokevirtual 176, 3) := by decide +kernel
theorem dX9_go_65 : decode cX9_go 65 = .ok (.ireturn, 1) := by decide +kernel
def f_X9_go  (a0 : Int32) (a1 : Int32) (u : PM) : Option (Int32 × PM) :=
  (f_X9_isWeather a0 u).bind fun r1 =>
  if r1 = 0 then
    some ((-1 : Int32), u)
  else
  if a1 < 0 then
    some ((-2 : Int32), u)
  else
  if a1 < ((1 : Int32) <<< ((u.1 (1, 0, 0) 0) &&& 31)) then
    if (u.1 (1, 0, 0) 4) < (9999 : Int32) then
      (f_X1_pass 0 a0 a1 u).bind fun r3 =>
      (f_X8_litBits 0 r3).bind fun r5 =>
      some (r5, r3)
    else
    some ((-3 : Int32), u)
  else
  some ((-2 : Int32), u)
set_option maxHeartbeats 4000000 in
set_option maxRecDepth 20000 in
theorem C_X9_go {l : Launch}  {a0 : Int32} {a1 : Int32} {u : PM} {x : Int32 × PM} (hf : f_X9_go a0 a1 u = some x) : Ev l mX9_go 7 0 0 false [vR (0, 0, 0), vI a0, vI a1] kC (en u) (some (vI x.1), kC, en x.2) := by
  refine Ev_of (by decide +kernel) (le_b rfl) ?_
  unfold f_X9_go at hf
  show X l mX9_go 7 0 0 false _ kC 0 0 0 [some (vR (0, 0, 0)), some (vI a0), some (vI a1)] [] (en u)
  refine r_iload_n (x := a0) dX9_go_0 rfl ?_
  obtain ⟨r1, hr2, hf⟩ := am_bind hf
  refine r_callS (as := [vI a0]) (st := []) (n := 1) mw_X9_148 ms_X9_isWeather (C_X9_isWeather (l := l) hr2) (le_b rfl) dX9_go_1 rfl (le_b rfl) (le_b rfl) (le_b rfl) ?_
  show X l _ _ 0 0 false _ kC 0 0 4 [some (vR (0, 0, 0)), some (vI a0), some (vI a1)] [vI r1] (en u)
  refine r_if_ne (tgt := 9) dX9_go_4 (by decide) (fun hc => ?_) (fun hc => ?_)
  · have hf := (am_if hf).2 hc
    refine r_iload_n (x := a1) dX9_go_9 rfl ?_
    refine r_if_lt (tgt := 26) dX9_go_10 (by decide) (fun hc => ?_) (fun hc => ?_)
    · have hf := (am_if hf).1 hc
      refine r_bipush (v := -2) dX9_go_26 rfl ?_
      have hx := am_inj hf
      subst hx
      exact r_iret dX9_go_28 rfl rfl (le_b rfl) (le_b rfl)
    · have hf := (am_if hf).2 hc
      refine r_iload_n (x := a1) dX9_go_13 rfl ?_
      refine r_iconst (v := 1) dX9_go_14 rfl ?_
      refine r_aload_n (x := (0, 0, 0)) dX9_go_15 rfl ?_
      refine e_getr (z := some (1, 0, 0)) fw_X9_14 dX9_go_16 (kC_mem (s := 0) (by decide) (by decide) (by decide)) rfl (lt_b rfl) rfl ?_
      refine e_geti fw_X9_81 dX9_go_19 (kC_mem (s := 1) (by decide) (by decide) (by decide)) rfl (lt_b rfl) ?_
      refine r_ishl dX9_go_22 ?_
      refine r_icmp_lt (tgt := 29) dX9_go_23 (by decide) (fun hc => ?_) (fun hc => ?_)
      · have hf := (am_if hf).1 hc
        refine r_aload_n (x := (0, 0, 0)) dX9_go_29 rfl ?_
        refine e_getr (z := some (1, 0, 0)) fw_X9_14 dX9_go_30 (kC_mem (s := 0) (by decide) (by decide) (by decide)) rfl (lt_b rfl) rfl ?_
        refine e_geti fw_X9_169 dX9_go_33 (kC_mem (s := 1) (by decide) (by decide) (by decide)) rfl (lt_b rfl) ?_
        refine r_sipush (v := 9999) dX9_go_36 rfl ?_
        refine r_icmp_lt (tgt := 45) dX9_go_39 (by decide) (fun hc => ?_) (fun hc => ?_)
        · have hf := (am_if hf).1 hc
          refine r_aload_n (x := (0, 0, 0)) dX9_go_45 rfl ?_
          refine e_getr (z := some (20, 0, 0)) fw_X9_48 dX9_go_46 (kC_mem (s := 0) (by decide) (by decide) (by decide)) rfl (lt_b rfl) rfl ?_
          refine r_aload_n (x := (0, 0, 0)) dX9_go_49 rfl ?_
          refine e_getr (z := some (1, 0, 0)) fw_X9_14 dX9_go_50 (kC_mem (s := 0) (by decide) (by decide) (by decide)) rfl (lt_b rfl) rfl ?_
          refine r_iload_n (x := a0) dX9_go_53 rfl ?_
          refine r_iload_n (x := a1) dX9_go_54 rfl ?_
          obtain ⟨r3, hr4, hf⟩ := am_bind hf
          refine r_callV (as := [vR (1, 0, 0), vI a0, vI a1]) (st := []) (n := 3) mw_X9_172 mv_X1_pass (C_X1_pass (l := l) (by decide) hr4) (le_b rfl) dX9_go_55 (kC_mem (s := 20) (by decide) (by decide) (by decide)) rfl rfl rfl (le_b rfl) (le_b rfl) (le_b rfl) ?_
          show X l _ _ 0 0 false _ kC 0 0 58 [some (vR (0, 0, 0)), some (vI a0), some (vI a1)] [] (en r3)
          refine r_aload_n (x := (0, 0, 0)) dX9_go_58 rfl ?_
          refine e_getr (z := some (1, 0, 0)) fw_X9_14 dX9_go_59 (kC_mem (s := 0) (by decide) (by decide) (by decide)) rfl (lt_b rfl) rfl ?_
          obtain ⟨r5, hr6, hf⟩ := am_bind hf
          refine r_callV (as := []) (st := []) (n := 0) mw_X9_176 mv_X8_litBits (C_X8_litBits (l := l) (by decide) hr6) (le_b rfl) dX9_go_62 (kC_mem (s := 1) (by decide) (by decide) (by decide)) rfl rfl rfl (le_b rfl) (le_b rfl) (le_b rfl) ?_
          show X l _ _ 0 0 false _ kC 0 0 65 [some (vR (0, 0, 0)), some (vI a0), some (vI a1)] [vI r5] (en r3)
          have hx := am_inj hf
          subst hx
          exact r_iret dX9_go_65 rfl rfl (le_b rfl) (le_b rfl)
        · have hf := (am_if hf).2 hc
          refine r_bipush (v := -3) dX9_go_42 rfl ?_
          have hx := am_inj hf
          subst hx
          exact r_iret dX9_go_44 rfl rfl (le_b rfl) (le_b rfl)
      · have hf := (am_if hf).2 hc
        refine r_bipush (v := -2) dX9_go_26 rfl ?_
        have hx := am_inj hf
        subst hx
        exact r_iret dX9_go_28 rfl rfl (le_b rfl) (le_b rfl)
  · have hf := (am_if hf).1 hc
    refine r_iconst (v := -1) dX9_go_7 rfl ?_
    have hx := am_inj hf
    subst hx
    exact r_iret dX9_go_8 rfl rfl (le_b rfl) (le_b rfl)
/-! FireFromFire.night -/
theorem dX9_night_0 : decode cX9_night 0 = .ok (.iload_n 1, 1) := by decide +kernel
theorem dX9_night_1 : decode cX9_night 1 = .ok (.iconst (-1), 1) := by decide +kernel
theorem dX9_night_2 : decode cX9_night 2 = .ok (.if_icmp .ne 13, 3) := by decide +kernel
theorem dX9_night_5 : decode cX9_night 5 = .ok (.aload_n 0, 1) := by decide +kernel
theorem dX9_night_6 : decode cX9_night 6 = .ok (.getfield 14, 3) := by decide +kernel
theorem dX9_night_9 : decode cX9_night 9 = .ok (.iconst 0, 1) := by decide +kernel
theorem dX9_night_10 : decode cX9_night 10 = .ok (.putfield 180, 3) := by decide +kernel
theorem dX9_night_13 : decode cX9_night 13 = .ok (.iconst 0, 1) := by decide +kernel
theorem dX9_night_14 : decode cX9_night 14 = .ok (.ireturn, 1) := by decide +kernel
theorem dX9_night_15 : decode cX9_night 15 = .ok (.iload_n 1, 1) := by decide +kernel
theorem dX9_night_16 : decode cX9_night 16 = .ok (.invokestatic 148, 3) := by decide +kernel
theorem dX9_night_19 : decode cX9_night 19 = .ok (.ifCond .ne 5, 3) := by decide +kernel
theorem dX9_night_22 : decode cX9_night 22 = .ok (.iconst (-1), 1) := by decide +kernel
theorem dX9_night_23 : decode cX9_night 23 = .ok (.ireturn, 1) := by decide +kernel
theorem dX9_night_24 : decode cX9_night 24 = .ok (.iload_n 2, 1) := by decide +kernel
theorem dX9_night_25 : decode cX9_night 25 = .ok (.ifCond .lt 9, 3) := by decide +kernel
theorem dX9_night_28 : decode cX9_night 28 = .ok (.iload_n 2, 1) := by decide +kernel
theorem dX9_night_29 : decode cX9_night 29 = .ok (.bipush 64, 2) := by decide +kernel
theorem dX9_night_31 : decode cX9_night 31 = .ok (.if_icmp .lt 6, 3) := by decide +kernel
theorem dX9_night_34 : decode cX9_night 34 = .ok (.bipush (-2), 2) := by decide +kernel
theorem dX9_night_36 : decode cX9_night 36 = .ok (.ireturn, 1) := by decide +kernel
theorem dX9_night_37 : decode cX9_night 37 = .ok (.aload_n 0, 1) := by decide +kernel
theorem dX9_night_38 : decode cX9_night 38 = .ok (.getfield 14, 3) := by decide +kernel
theorem dX9_night_41 : decode cX9_night 41 = .ok (.getfield 180, 3) := by decide +kernel
theorem dX9_night_44 : decode cX9_night 44 = .ok (.ifCond .lt 15, 3) := by decide +kernel
theorem dX9_night_47 : decode cX9_night 47 = .ok (.aload_n 0, 1) := by decide +kernel
theorem dX9_night_48 : decode cX9_night 48 = .ok (.getfield 14, 3) := by decide +kernel
theorem dX9_night_51 : decode cX9_night 51 = .ok (.getfield 180, 3) := by decide +kernel
theorem dX9_night_54 : decode cX9_night 54 = .ok (.bipush 12, 2) := by decide +kernel
theorem dX9_night_56 : decode cX9_night 56 = .ok (.if_icmp .lt 6, 3) := by decide +kernel
theorem dX9_night_59 : decode cX9_night 59 = .ok (.bipush (-4), 2) := by decide +kernel
theorem dX9_night_61 : decode cX9_night 61 = .ok (.ireturn, 1) := by decide +kernel
theorem dX9_night_62 : decode cX9_night 62 = .ok (.aload_n 0, 1) := by decide +kernel
theorem dX9_night_63 : decode cX9_night 63 = .ok (.getfield 14, 3) := by decide +kernel
theorem dX9_night_66 : decode cX9_night 66 = .ok (.getfield 183, 3) := by decide +kernel
theorem dX9_night_69 : decode cX9_night 69 = .ok (.aload_n 0, 1) := by decide +kernel
theorem dX9_night_70 : decode cX9_night 70 = .ok (.getfield 14, 3) := by decide +kernel
theorem dX9_night_73 : decode cX9_night 73 = .ok (.getfield 180, 3) := by decide +kernel
theorem dX9_night_76 : decode cX9_night 76 = .ok (.iload_n 1, 1) := by decide +kernel
theorem dX9_night_77 : decode cX9_night 77 = .ok (.iastore, 1) := by decide +kernel
theorem dX9_night_78 : decode cX9_night 78 = .ok (.aload_n 0, 1) := by decide +kernel
theorem dX9_night_79 : decode cX9_night 79 = .ok (.getfield 14, 3) := by decide +kernel
theorem dX9_night_82 : decode cX9_night 82 = .ok (.getfield 187, 3) := by decide +kernel
theorem dX9_night_85 : decode cX9_night 85 = .ok (.aload_n 0, 1) := by decide +kernel
theorem dX9_night_86 : decode cX9_night 86 = .ok (.getfield 14, 3) := by decide +kernel
theorem dX9_night_89 : decode cX9_night 89 = .ok (.getfield 180, 3) := by decide +kernel
theorem dX9_night_92 : decode cX9_night 92 = .ok (.iload_n 2, 1) := by decide +kernel
theorem dX9_night_93 : decode cX9_night 93 = .ok (.iastore, 1) := by decide +kernel
theorem dX9_night_94 : decode cX9_night 94 = .ok (.aload_n 0, 1) := by decide +kernel
theorem dX9_night_95 : decode cX9_night 95 = .ok (.getfield 14, 3) := by decide +kernel
theorem dX9_night_98 : decode cX9_night 98 = .ok (.dup, 1) := by decide +kernel
theorem dX9_night_99 : decode cX9_night 99 = .ok (.getfield 180, 3) := by decide +kernel
theorem dX9_night_102 : decode cX9_night 102 = .ok (.iconst 1, 1) := by decide +kernel
theorem dX9_night_103 : decode cX9_night 103 = .ok (.iadd, 1) := by decide +kernel
theorem dX9_night_104 : decode cX9_night 104 = .ok (.dup_x1, 1) := by decide +kernel
theorem dX9_night_105 : decode cX9_night 105 = .ok (.putfield 180, 3) := by decide +kernel
theorem dX9_night_108 : decode cX9_night 108 = .ok (.ireturn, 1) := by decide +kernel
def f_X9_night  (a0 : Int32) (a1 : Int32) (u : PM) : Option (Int32 × PM) :=
  if a0 = (-1 : Int32) then
    some ((0 : Int32), (pi u (1, 0, 0) 6 (0 : Int32)))
  else
  (f_X9_isWeather a0 u).bind fun r1 =>
  if r1 = 0 then
    some ((-1 : Int32), u)
  else
  if a1 < 0 then
    some ((-2 : Int32), u)
  else
  if a1 < (64 : Int32) then
    if (u.1 (1, 0, 0) 6) < 0 then
      some ((-4 : Int32), u)
    else
    if (u.1 (1, 0, 0) 6) < (12 : Int32) then
      if (u.1 (1, 0, 0) 6) < 0 ∨ 12 ≤ (u.1 (1, 0, 0) 6).toNatClampNeg then none else
      some ((u.1 (1, 0, 0) 6) + (1 : Int32), (pi (pi (pi u (6, 0, 0) ((u.1 (1, 0, 0) 6).toNatClampNeg) a0) (7, 0, 0) ((u.1 (1, 0, 0) 6).toNatClampNeg) a1) (1, 0, 0) 6 ((u.1 (1, 0, 0) 6) + (1 : Int32))))
    else
    some ((-4 : Int32), u)
  else
  some ((-2 : Int32), u)
set_option maxHeartbeats 4000000 in
set_option maxRecDepth 20000 in
theorem C_X9_night {l : Launch}  {a0 : Int32} {a1 : Int32} {u : PM} {x : Int32 × PM} (hf : f_X9_night a0 a1 u = some x) : Ev l mX9_night 2 0 0 false [vR (0, 0, 0), vI a0, vI a1] kC (en u) (some (vI x.1), kC, en x.2) := by
  refine Ev_of (by decide +kernel) (le_b rfl) ?_
  unfold f_X9_night at hf
  show X l mX9_night 2 0 0 false _ kC 0 0 0 [some (vR (0, 0, 0)), some (vI a0), some (vI a1)] [] (en u)
  refine r_iload_n (x := a0) dX9_night_0 rfl ?_
  refine r_iconst (v := -1) dX9_night_1 rfl ?_
  refine r_icmp_ne (tgt := 15) dX9_night_2 (by decide) (fun hc => ?_) (fun hc => ?_)
  · have hf := (am_if hf).2 hc
    refine r_iload_n (x := a0) dX9_night_15 rfl ?_
    obtain ⟨r1, hr2, hf⟩ := am_bind hf
    refine r_callS (as := [vI a0]) (st := []) (n := 1) mw_X9_148 ms_X9_isWeather (C_X9_isWeather (l := l) hr2) (le_b rfl) dX9_night_16 rfl (le_b rfl) (le_b rfl) (le_b rfl) ?_
    show X l _ _ 0 0 false _ kC 0 0 19 [some (vR (0, 0, 0)), some (vI a0), some (vI a1)] [vI r1] (en u)
    refine r_if_ne (tgt := 24) dX9_night_19 (by decide) (fun hc => ?_) (fun hc => ?_)
    · have hf := (am_if hf).2 hc
      refine r_iload_n (x := a1) dX9_night_24 rfl ?_
      refine r_if_lt (tgt := 34) dX9_night_25 (by decide) (fun hc => ?_) (fun hc => ?_)
      · have hf := (am_if hf).1 hc
        refine r_bipush (v := -2) dX9_night_34 rfl ?_
        have hx := am_inj hf
        subst hx
        exact r_iret dX9_night_36 rfl rfl (le_b rfl) (le_b rfl)
      · have hf := (am_if hf).2 hc
        refine r_iload_n (x := a1) dX9_night_28 rfl ?_
        refine r_bipush (v := 64) dX9_night_29 rfl ?_
        refine r_icmp_lt (tgt := 37) dX9_night_31 (by decide) (fun hc => ?_) (fun hc => ?_)
        · have hf := (am_if hf).1 hc
          refine r_aload_n (x := (0, 0, 0)) dX9_night_37 rfl ?_
          refine e_getr (z := some (1, 0, 0)) fw_X9_14 dX9_night_38 (kC_mem (s := 0) (by decide) (by decide) (by decide)) rfl (lt_b rfl) rfl ?_
          refine e_geti fw_X9_180 dX9_night_41 (kC_mem (s := 1) (by decide) (by decide) (by decide)) rfl (lt_b rfl) ?_
          refine r_if_lt (tgt := 59) dX9_night_44 (by decide) (fun hc => ?_) (fun hc => ?_)
          · have hf := (am_if hf).1 hc
            refine r_bipush (v := -4) dX9_night_59 rfl ?_
            have hx := am_inj hf
            subst hx
            exact r_iret dX9_night_61 rfl rfl (le_b rfl) (le_b rfl)
          · have hf := (am_if hf).2 hc
            refine r_aload_n (x := (0, 0, 0)) dX9_night_47 rfl ?_
            refine e_getr (z := some (1, 0, 0)) fw_X9_14 dX9_night_48 (kC_mem (s := 0) (by decide) (by decide) (by decide)) rfl (lt_b rfl) rfl ?_
            refine e_geti fw_X9_180 dX9_night_51 (kC_mem (s := 1) (by decide) (by decide) (by decide)) rfl (lt_b rfl) ?_
            refine r_bipush (v := 12) dX9_night_54 rfl ?_
            refine r_icmp_lt (tgt := 62) dX9_night_56 (by decide) (fun hc => ?_) (fun hc => ?_)
            · have hf := (am_if hf).1 hc
              refine r_aload_n (x := (0, 0, 0)) dX9_night_62 rfl ?_
              refine e_getr (z := some (1, 0, 0)) fw_X9_14 dX9_night_63 (kC_mem (s := 0) (by decide) (by decide) (by decide)) rfl (lt_b rfl) rfl ?_
              refine e_getr (z := some (6, 0, 0)) fw_X9_183 dX9_night_66 (kC_mem (s := 1) (by decide) (by decide) (by decide)) rfl (lt_b rfl) rfl ?_
              refine r_aload_n (x := (0, 0, 0)) dX9_night_69 rfl ?_
              refine e_getr (z := some (1, 0, 0)) fw_X9_14 dX9_night_70 (kC_mem (s := 0) (by decide) (by decide) (by decide)) rfl (lt_b rfl) rfl ?_
              refine e_geti fw_X9_180 dX9_night_73 (kC_mem (s := 1) (by decide) (by decide) (by decide)) rfl (lt_b rfl) ?_
              refine r_iload_n (x := a0) dX9_night_76 rfl ?_
              obtain ⟨h3, hf⟩ := am_nchk hf
              refine e_iast (n := (u.1 (1, 0, 0) 6).toNatClampNeg) dX9_night_77 (kC_mem (s := 6) (by decide) (by decide) (by decide)) rfl h3 rfl ?_
              refine r_aload_n (x := (0, 0, 0)) dX9_night_78 rfl ?_
              refine e_getr (z := some (1, 0, 0)) fw_X9_14 dX9_night_79 (kC_mem (s := 0) (by decide) (by decide) (by decide)) rfl (lt_b rfl) rfl ?_
              refine e_getr (z := some (7, 0, 0)) fw_X9_187 dX9_night_82 (kC_mem (s := 1) (by decide) (by decide) (by decide)) rfl (lt_b rfl) rfl ?_
              refine r_aload_n (x := (0, 0, 0)) dX9_night_85 rfl ?_
              refine e_getr (z := some (1, 0, 0)) fw_X9_14 dX9_night_86 (kC_mem (s := 0) (by decide) (by decide) (by decide)) rfl (lt_b rfl) rfl ?_
              refine e_geti_ (x := u.1 (1, 0, 0) 6) fw_X9_180 dX9_night_89 (kC_mem (s := 1) (by decide) (by decide) (by decide)) rfl (lt_b rfl) (by simp [pi, pl, pr, pci, pcl]) ?_
              refine r_iload_n (x := a1) dX9_night_92 rfl ?_
              refine e_iast (n := (u.1 (1, 0, 0) 6).toNatClampNeg) dX9_night_93 (kC_mem (s := 7) (by decide) (by decide) (by decide)) rfl h3 rfl ?_
              refine r_aload_n (x := (0, 0, 0)) dX9_night_94 rfl ?_
              refine e_getr (z := some (1, 0, 0)) fw_X9_14 dX9_night_95 (kC_mem (s := 0) (by decide) (by decide) (by decide)) rfl (lt_b rfl) rfl ?_
              refine r_dup dX9_night_98 rfl ?_
              refine e_geti_ (x := u.1 (1, 0, 0) 6) fw_X9_180 dX9_night_99 (kC_mem (s := 1) (by decide) (by decide) (by decide)) rfl (lt_b rfl) (by simp [pi, pl, pr, pci, pcl]) ?_
              refine r_iconst (v := 1) dX9_night_102 rfl ?_
              refine r_iadd dX9_night_103 ?_
              refine r_dup_x1 dX9_night_104 rfl rfl ?_
              refine e_puti fp_X9_180 dX9_night_105 (kC_mem (s := 1) (by decide) (by decide) (by decide)) rfl (lt_b rfl) rfl rfl rfl ?_
              have hx := am_inj hf
              subst hx
              exact r_iret dX9_night_108 rfl rfl (le_b rfl) (le_b rfl)
            · have hf := (am_if hf).2 hc
              refine r_bipush (v := -4) dX9_night_59 rfl ?_
              have hx := am_inj hf
              subst hx
              exact r_iret dX9_night_61 rfl rfl (le_b rfl) (le_b rfl)
        · have hf := (am_if hf).2 hc
          refine r_bipush (v := -2) dX9_night_34 rfl ?_
          have hx := am_inj hf
          subst hx
          exact r_iret dX9_night_36 rfl rfl (le_b rfl) (le_b rfl)
    · have hf := (am_if hf).1 hc
      refine r_iconst (v := -1) dX9_night_22 rfl ?_
      have hx := am_inj hf
      subst hx
      exact r_iret dX9_night_23 rfl rfl (le_b rfl) (le_b rfl)
  · have hf := (am_if hf).1 hc
    refine r_aload_n (x := (0, 0, 0)) dX9_night_5 rfl ?_
    refine e_getr (z := some (1, 0, 0)) fw_X9_14 dX9_night_6 (kC_mem (s := 0) (by decide) (by decide) (by decide)) rfl (lt_b rfl) rfl ?_
    refine r_iconst (v := 0) dX9_night_9 rfl ?_
    refine e_puti fp_X9_180 dX9_night_10 (kC_mem (s := 1) (by decide) (by decide) (by decide)) rfl (lt_b rfl) rfl rfl rfl ?_
    refine r_iconst (v := 0) dX9_night_13 rfl ?_
    have hx := am_inj hf
    subst hx
    exact r_iret dX9_night_14 rfl rfl (le_b rfl) (le_b rfl)
/-! FireFromFire.hand -/
theorem dX9_hand_0 : decode cX9_hand 0 = .ok (.iload_n 2, 1) := by decide +kernel
theorem dX9_hand_1 : decode cX9_hand 1 = .ok (.ifCond .lt 26, 3) := by decide +kernel
theorem dX9_hand_4 : decode cX9_hand 4 = .ok (.iload_n 2, 1) := by decide +kernel
theorem dX9_hand_5 : decode cX9_hand 5 = .ok (.bipush 8, 2) := by decide +kernel
theorem dX9_hand_7 : decode cX9_hand 7 = .ok (.if_icmp .gt 20, 3) := by decide +kernel
theorem dX9_hand_10 : decode cX9_hand 10 = .ok (.iload_n 2, 1) := by decide +kernel
theorem dX9_hand_11 : decode cX9_hand 11 = .ok (.bipush 6, 2) := by decide +kernel
theorem dX9_hand_13 : decode cX9_hand 13 = .ok (.if_icmp .ge 18, 3) := by decide +kernel
theorem dX9_hand_16 : decode cX9_hand 16 = .ok (.aload_n 0, 1) := by decide +kernel
theorem dX9_hand_17 : decode cX9_hand 17 = .ok (.getfield 14, 3) := by decide +kernel
theorem dX9_hand_20 : decode cX9_hand 20 = .ok (.iload_n 2, 1) := by decide +kernel
theorem dX9_hand_21 : decode cX9_hand 21 = .ok (.invokevirtual 94, 3) := by decide +kernel
theorem dX9_hand_24 : decode cX9_hand 24 = .ok (.ifnonnull 7, 3) := by decide +kernel
theorem dX9_hand_27 : decode cX9_hand 27 = .ok (.sipush (-1001), 3) := by decide +kernel
theorem dX9_hand_30 : decode cX9_hand 30 = .ok (.ireturn, 1) := by decide +kernel
theorem dX9_hand_31 : decode cX9_hand 31 = .ok (.iload_n 1, 1) := by decide +kernel
theorem dX9_hand_32 : decode cX9_hand 32 = .ok (.ifCond .lt 14, 3) := by decide +kernel
theorem dX9_hand_35 : decode cX9_hand 35 = .ok (.iload_n 1, 1) := by decide +kernel
theorem dX9_hand_36 : decode cX9_hand 36 = .ok (.aload_n 0, 1) := by decide +kernel
theorem dX9_hand_37 : decode cX9_hand 37 = .ok (.getfield 14, 3) := by decide +kernel
theorem dX9_hand_40 : decode cX9_hand 40 = .ok (.getfield 180, 3) := by decide +kernel
theorem dX9_hand_43 : decode cX9_hand 43 = .ok (.if_icmp .le 7, 3) := by decide +kernel
theorem dX9_hand_46 : decode cX9_hand 46 = .ok (.sipush (-1002), 3) := by decide +kernel
theorem dX9_hand_49 : decode cX9_hand 49 = .ok (.ireturn, 1) := by decide +kernel
theorem dX9_hand_50 : decode cX9_hand 50 = .ok (.aload_n 0, 1) := by decide +kernel
theorem dX9_hand_51 : decode cX9_hand 51 = .ok (.getfield 48, 3) := by decide +kernel
theorem dX9_hand_54 : decode cX9_hand 54 = .ok (.aload_n 0, 1) := by decide +kernel
theorem dX9_hand_55 : decode cX9_hand 55 = .ok (.getfield 14, 3) := by decide +kernel
theorem dX9_hand_58 : decode cX9_hand 58 = .ok (.aload_n 0, 1) := by decide +kernel
theorem dX9_hand_59 : decode cX9_hand 59 = .ok (.getfield 21, 3) := by decide +kernel
theorem dX9_hand_62 : decode cX9_hand 62 = .ok (.iload_n 1, 1) := by decide +kernel
theorem dX9_hand_63 : decode cX9_hand 63 = .ok (.invokevirtual 190, 3) := by decide +kernel
theorem dX9_hand_66 : decode cX9_hand 66 = .ok (.iload_n 2, 1) := by decide +kernel
theorem dX9_hand_67 : decode cX9_hand 67 = .ok (.bipush 6, 2) := by decide +kernel
theorem dX9_hand_69 : decode cX9_hand 69 = .ok (.if_icmp .ne 11, 3) := by decide +kernel
theorem dX9_hand_72 : decode cX9_hand 72 = .ok (.aload_n 0, 1) := by decide +kernel
theorem dX9_hand_73 : decode cX9_hand 73 = .ok (.getfield 21, 3) := by decide +kernel
theorem dX9_hand_76 : decode cX9_hand 76 = .ok (.invokevirtual 176, 3) := by decide +kernel
theorem dX9_hand_79 : decode cX9_hand 79 = .ok (.ireturn, 1) := by decide +kernel
theorem dX9_hand_80 : decode cX9_hand 80 = .ok (.iload_n 2, 1) := by decide +kernel
theorem dX9_hand_81 : decode cX9_hand 81 = .ok (.bipush 7, 2) := by decide +kernel
theorem dX9_hand_83 : decode cX9_hand 83 = .ok (.if_icmp .ne 11, 3) := by decide +kernel
theorem dX9_hand_86 : decode cX9_hand 86 = .ok (.aload_n 0, 1) := by decide +kernel
theorem dX9_hand_87 : decode cX9_hand 87 = .ok (.getfield 48, 3) := by decide +kernel
theorem dX9_hand_90 : decode cX9_hand 90 = .ok (.getfield 194, 3) := by decide +kernel
theorem dX9_hand_93 : decode cX9_hand 93 = .ok (.ireturn, 1) := by decide +kernel
theorem dX9_hand_94 : decode cX9_hand 94 = .ok (.iload_n 2, 1) := by decide +kernel
theorem dX9_hand_95 : decode cX9_hand 95 = .ok (.bipush 8, 2) := by decide +kernel
theorem dX9_hand_97 : decode cX9_hand 97 = .ok (.if_icmp .ne 11, 3) := by decide +kernel
theorem dX9_hand_100 : decode cX9_hand 100 = .ok (.aload_n 0, 1) := by decide +kernel
theorem dX9_hand_101 : decode cX9_hand 101 = .ok (.getfield 48, 3) := by decide +kernel
theorem dX9_hand_104 : decode cX9_hand 104 = .ok (.getfield 197, 3) := by decide +kernel
theorem dX9_hand_107 : decode cX9_hand 107 = .ok (.ireturn, 1) := by decide +kernel
theorem dX9_hand_108 : decode cX9_hand 108 = .ok (.aload_n 0, 1) := by decide +kernel
theorem dX9_hand_109 : decode cX9_hand 109 = .ok (.getfield 21, 3) := by decide +kernel
theorem dX9_hand_112 : decode cX9_hand 112 = .ok (.iload_n 2, 1) := by decide +kernel
theorem dX9_hand_113 : decode cX9_hand 113 = .ok (.invokevirtual 94, 3) := by decide +kernel
theorem dX9_hand_116 : decode cX9_hand 116 = .ok (.astore_n 3, 1) := by decide +kernel
theorem dX9_hand_117 : decode cX9_hand 117 = .ok (.aload_n 3, 1) := by decide +kernel
theorem dX9_hand_118 : decode cX9_hand 118 = .ok (.ifnonnull 9, 3) := by decide +kernel
theorem dX9_hand_121 : decode cX9_hand 121 = .ok (.sipush (-1001), 3) := by decide +kernel
theorem dX9_hand_124 : decode cX9_hand 124 = .ok (.goto 7, 3) := by decide +kernel
theorem dX9_hand_127 : decode cX9_hand 127 = .ok (.aload_n 3, 1) := by decide +kernel
theorem dX9_hand_128 : decode cX9_hand 128 = .ok (.getfield 98, 3) := by decide +kernel
theorem dX9_hand_131 : decode cX9_hand 131 = .ok (.ireturn, 1) := by decide +kernel
def f_X9_hand  (a0 : Int32) (a1 : Int32) (u : PM) : Option (Int32 × PM) :=
  if a1 < 0 then
    some ((-1001 : Int32), u)
  else
  if (8 : Int32) < a1 then
    some ((-1001 : Int32), u)
  else
  if (6 : Int32) ≤ a1 then
    if a0 < 0 then
      some ((-1002 : Int32), u)
    else
    if a0 ≤ (u.1 (1, 0, 0) 6) then
      (f_X1_passNights 0 2 a0 u).bind fun r1 =>
      if a1 = (6 : Int32) then
        (f_X8_litBits 2 r1).bind fun r7 =>
        some (r7, r1)
      else
      if a1 = (7 : Int32) then
        some (r1.1 (20, 0, 0) 1, r1)
      else
      if a1 = (8 : Int32) then
        some (r1.1 (20, 0, 0) 0, r1)
      else
      (f_X8_find 2 a1 r1).bind fun r3 =>
      match r3 with
      | none =>
        some ((-1001 : Int32), r1)
      | some p5 =>
        if p5 < 6 then
          some (r1.1 (3, 2, p5) 0, r1)
        else none
    else
    some ((-1002 : Int32), u)
  else
  (f_X8_find 0 a1 u).bind fun r9 =>
  match r9 with
  | none =>
    some ((-1001 : Int32), u)
  | some p11 =>
    if p11 < 6 then
      if a0 < 0 then
        some ((-1002 : Int32), u)
      else
      if a0 ≤ (u.1 (1, 0, 0) 6) then
        (f_X1_passNights 0 2 a0 u).bind fun r13 =>
        if a1 = (6 : Int32) then
          (f_X8_litBits 2 r13).bind fun r19 =>
          some (r19, r13)
        else
        if a1 = (7 : Int32) then
          some (r13.1 (20, 0, 0) 1, r13)
        else
        if a1 = (8 : Int32) then
          some (r13.1 (20, 0, 0) 0, r13)
        else
        (f_X8_find 2 a1 r13).bind fun r15 =>
        match r15 with
        | none =>
          some ((-1001 : Int32), r13)
        | some p17 =>
          if p17 < 6 then
            some (r13.1 (3, 2, p17) 0, r13)
          else none
      else
      some ((-1002 : Int32), u)
    else none
set_option maxHeartbeats 4000000 in
set_option maxRecDepth 20000 in
theorem C_X9_hand {l : Launch}  {a0 : Int32} {a1 : Int32} {u : PM} {x : Int32 × PM} (hf : f_X9_hand a0 a1 u = some x) : Ev l mX9_hand 8 0 0 false [vR (0, 0, 0), vI a0, vI a1] kC (en u) (some (vI x.1), kC, en x.2) := by
  refine Ev_of (by decide +kernel) (le_b rfl) ?_
  unfold f_X9_hand at hf
  show X l mX9_hand 8 0 0 false _ kC 0 0 0 [some (vR (0, 0, 0)), some (vI a0), some (vI a1), none] [] (en u)
  refine r_iload_n (x := a1) dX9_hand_0 rfl ?_
  refine r_if_lt (tgt := 27) dX9_hand_1 (by decide) (fun hc => ?_) (fun hc => ?_)
  · have hf := (am_if hf).1 hc
    refine r_sipush (v := -1001) dX9_hand_27 rfl ?_
    have hx := am_inj hf
    subst hx
    exact r_iret dX9_hand_30 rfl rfl (le_b rfl) (le_b rfl)
  · have hf := (am_if hf).2 hc
    refine r_iload_n (x := a1) dX9_hand_4 rfl ?_
    refine r_bipush (v := 8) dX9_hand_5 rfl ?_
    refine r_icmp_gt (tgt := 27) dX9_hand_7 (by decide) (fun hc => ?_) (fun hc => ?_)
    · have hf := (am_if hf).1 hc
      refine r_sipush (v := -1001) dX9_hand_27 rfl ?_
      have hx := am_inj hf
      subst hx
      exact r_iret dX9_hand_30 rfl rfl (le_b rfl) (le_b rfl)
    · have hf := (am_if hf).2 hc
      refine r_iload_n (x := a1) dX9_hand_10 rfl ?_
      refine r_bipush (v := 6) dX9_hand_11 rfl ?_
      refine r_icmp_ge (tgt := 31) dX9_hand_13 (by decide) (fun hc => ?_) (fun hc => ?_)
      · have hf := (am_if hf).1 hc
        refine r_iload_n (x := a0) dX9_hand_31 rfl ?_
        refine r_if_lt (tgt := 46) dX9_hand_32 (by decide) (fun hc => ?_) (fun hc => ?_)
        · have hf := (am_if hf).1 hc
          refine r_sipush (v := -1002) dX9_hand_46 rfl ?_
          have hx := am_inj hf
          subst hx
          exact r_iret dX9_hand_49 rfl rfl (le_b rfl) (le_b rfl)
        · have hf := (am_if hf).2 hc
          refine r_iload_n (x := a0) dX9_hand_35 rfl ?_
          refine r_aload_n (x := (0, 0, 0)) dX9_hand_36 rfl ?_
          refine e_getr (z := some (1, 0, 0)) fw_X9_14 dX9_hand_37 (kC_mem (s := 0) (by decide) (by decide) (by decide)) rfl (lt_b rfl) rfl ?_
          refine e_geti fw_X9_180 dX9_hand_40 (kC_mem (s := 1) (by decide) (by decide) (by decide)) rfl (lt_b rfl) ?_
          refine r_icmp_le (tgt := 50) dX9_hand_43 (by decide) (fun hc => ?_) (fun hc => ?_)
          · have hf := (am_if hf).1 hc
            refine r_aload_n (x := (0, 0, 0)) dX9_hand_50 rfl ?_
            refine e_getr (z := some (20, 0, 0)) fw_X9_48 dX9_hand_51 (kC_mem (s := 0) (by decide) (by decide) (by decide)) rfl (lt_b rfl) rfl ?_
            refine r_aload_n (x := (0, 0, 0)) dX9_hand_54 rfl ?_
            refine e_getr (z := some (1, 0, 0)) fw_X9_14 dX9_hand_55 (kC_mem (s := 0) (by decide) (by decide) (by decide)) rfl (lt_b rfl) rfl ?_
            refine r_aload_n (x := (0, 0, 0)) dX9_hand_58 rfl ?_
            refine e_getr (z := some (1, 2, 0)) fw_X9_21 dX9_hand_59 (kC_mem (s := 0) (by decide) (by decide) (by decide)) rfl (lt_b rfl) rfl ?_
            refine r_iload_n (x := a0) dX9_hand_62 rfl ?_
            obtain ⟨r1, hr2, hf⟩ := am_bind hf
            refine r_callV (as := [vR (1, 0, 0), vR (1, 2, 0), vI a0]) (st := []) (n := 3) mw_X9_190 mv_X1_passNights (C_X1_passNights (l := l) (by decide) (by decide) hr2) (le_b rfl) dX9_hand_63 (kC_mem (s := 20) (by decide) (by decide) (by decide)) rfl rfl rfl (le_b rfl) (le_b rfl) (le_b rfl) ?_
            show X l _ _ 0 0 false _ kC 0 0 66 [some (vR (0, 0, 0)), some (vI a0), some (vI a1), none] [] (en r1)
            refine r_iload_n (x := a1) dX9_hand_66 rfl ?_
            refine r_bipush (v := 6) dX9_hand_67 rfl ?_
            refine r_icmp_ne (tgt := 80) dX9_hand_69 (by decide) (fun hc => ?_) (fun hc => ?_)
            · have hf := (am_if hf).2 hc
              refine r_iload_n (x := a1) dX9_hand_80 rfl ?_
              refine r_bipush (v := 7) dX9_hand_81 rfl ?_
              refine r_icmp_ne (tgt := 94) dX9_hand_83 (by decide) (fun hc => ?_) (fun hc => ?_)
              · have hf := (am_if hf).2 hc
                refine r_iload_n (x := a1) dX9_hand_94 rfl ?_
                refine r_bipush (v := 8) dX9_hand_95 rfl ?_
                refine r_icmp_ne (tgt := 108) dX9_hand_97 (by decide) (fun hc => ?_) (fun hc => ?_)
                · have hf := (am_if hf).2 hc
                  refine r_aload_n (x := (0, 0, 0)) dX9_hand_108 rfl ?_
                  refine e_getr (z := some (1, 2, 0)) fw_X9_21 dX9_hand_109 (kC_mem (s := 0) (by decide) (by decide) (by decide)) rfl (lt_b rfl) rfl ?_
                  refine r_iload_n (x := a1) dX9_hand_112 rfl ?_
                  obtain ⟨r3, hr4, hf⟩ := am_bind hf
                  refine r_callV (as := [vI a1]) (st := []) (n := 1) mw_X9_94 mv_X8_find (C_X8_find (l := l) (by decide) hr4) (le_b rfl) dX9_hand_113 (kC_mem (s := 1) (by decide) (by decide) (by decide)) rfl rfl rfl (le_b rfl) (le_b rfl) (le_b rfl) ?_
                  cases r3 with
                  | none =>
                    show X l _ _ 0 0 false _ kC 0 0 116 [some (vR (0, 0, 0)), some (vI a0), some (vI a1), none] [vN] (en r1)
                    refine r_astore_nN (L' := [some (vR (0, 0, 0)), some (vI a0), some (vI a1), some (vN)]) dX9_hand_116 (by decide) rfl ?_
                    refine r_aload_nN dX9_hand_117 rfl ?_
                    refine r_ifnonnullN dX9_hand_118 ?_
                    refine r_sipush (v := -1001) dX9_hand_121 rfl ?_
                    refine r_goto (tgt := 131) dX9_hand_124 (by decide) ?_
                    have hx := am_inj hf
                    subst hx
                    exact r_iret dX9_hand_131 rfl rfl (le_b rfl) (le_b rfl)
                  | some p5 =>
                    obtain ⟨h6, hf⟩ := am_chk hf
                    show X l _ _ 0 0 false _ kC 0 0 116 [some (vR (0, 0, 0)), some (vI a0), some (vI a1), none] [vR (3, 2, p5)] (en r1)
                    refine r_astore_n (L' := [some (vR (0, 0, 0)), some (vI a0), some (vI a1), some (vR (3, 2, p5))]) dX9_hand_116 (by decide) rfl ?_
                    refine r_aload_n (x := (3, 2, p5)) dX9_hand_117 rfl ?_
                    refine r_ifnonnullR (tgt := 127) dX9_hand_118 (by decide) ?_
                    refine r_aload_n (x := (3, 2, p5)) dX9_hand_127 rfl ?_
                    refine e_geti fw_X9_98 dX9_hand_128 (kC_mem (s := 3) (by decide) (by decide) h6) rfl (lt_b rfl) ?_
                    have hx := am_inj hf
                    subst hx
                    exact r_iret dX9_hand_131 rfl rfl (le_b rfl) (le_b rfl)
                · have hf := (am_if hf).1 hc
                  refine r_aload_n (x := (0, 0, 0)) dX9_hand_100 rfl ?_
                  refine e_getr (z := some (20, 0, 0)) fw_X9_48 dX9_hand_101 (kC_mem (s := 0) (by decide) (by decide) (by decide)) rfl (lt_b rfl) rfl ?_
                  refine e_geti fw_X9_197 dX9_hand_104 (kC_mem (s := 20) (by decide) (by decide) (by decide)) rfl (lt_b rfl) ?_
                  have hx := am_inj hf
                  subst hx
                  exact r_iret dX9_hand_107 rfl rfl (le_b rfl) (le_b rfl)
              · have hf := (am_if hf).1 hc
                refine r_aload_n (x := (0, 0, 0)) dX9_hand_86 rfl ?_
                refine e_getr (z := some (20, 0, 0)) fw_X9_48 dX9_hand_87 (kC_mem (s := 0) (by decide) (by decide) (by decide)) rfl (lt_b rfl) rfl ?_
                refine e_geti fw_X9_194 dX9_hand_90 (kC_mem (s := 20) (by decide) (by decide) (by decide)) rfl (lt_b rfl) ?_
                have hx := am_inj hf
                subst hx
                exact r_iret dX9_hand_93 rfl rfl (le_b rfl) (le_b rfl)
            · have hf := (am_if hf).1 hc
              refine r_aload_n (x := (0, 0, 0)) dX9_hand_72 rfl ?_
              refine e_getr (z := some (1, 2, 0)) fw_X9_21 dX9_hand_73 (kC_mem (s := 0) (by decide) (by decide) (by decide)) rfl (lt_b rfl) rfl ?_
              obtain ⟨r7, hr8, hf⟩ := am_bind hf
              refine r_callV (as := []) (st := []) (n := 0) mw_X9_176 mv_X8_litBits (C_X8_litBits (l := l) (by decide) hr8) (le_b rfl) dX9_hand_76 (kC_mem (s := 1) (by decide) (by decide) (by decide)) rfl rfl rfl (le_b rfl) (le_b rfl) (le_b rfl) ?_
              show X l _ _ 0 0 false _ kC 0 0 79 [some (vR (0, 0, 0)), some (vI a0), some (vI a1), none] [vI r7] (en r1)
              have hx := am_inj hf
              subst hx
              exact r_iret dX9_hand_79 rfl rfl (le_b rfl) (le_b rfl)
          · have hf := (am_if hf).2 hc
            refine r_sipush (v := -1002) dX9_hand_46 rfl ?_
            have hx := am_inj hf
            subst hx
            exact r_iret dX9_hand_49 rfl rfl (le_b rfl) (le_b rfl)
      · have hf := (am_if hf).2 hc
        refine r_aload_n (x := (0, 0, 0)) dX9_hand_16 rfl ?_
        refine e_getr (z := some (1, 0, 0)) fw_X9_14 dX9_hand_17 (kC_mem (s := 0) (by decide) (by decide) (by decide)) rfl (lt_b rfl) rfl ?_
        refine r_iload_n (x := a1) dX9_hand_20 rfl ?_
        obtain ⟨r9, hr10, hf⟩ := am_bind hf
        refine r_callV (as := [vI a1]) (st := []) (n := 1) mw_X9_94 mv_X8_find (C_X8_find (l := l) (by decide) hr10) (le_b rfl) dX9_hand_21 (kC_mem (s := 1) (by decide) (by decide) (by decide)) rfl rfl rfl (le_b rfl) (le_b rfl) (le_b rfl) ?_
        cases r9 with
        | none =>
          show X l _ _ 0 0 false _ kC 0 0 24 [some (vR (0, 0, 0)), some (vI a0), some (vI a1), none] [vN] (en u)
          refine r_ifnonnullN dX9_hand_24 ?_
          refine r_sipush (v := -1001) dX9_hand_27 rfl ?_
          have hx := am_inj hf
          subst hx
          exact r_iret dX9_hand_30 rfl rfl (le_b rfl) (le_b rfl)
        | some p11 =>
          obtain ⟨h12, hf⟩ := am_chk hf
          show X l _ _ 0 0 false _ kC 0 0 24 [some (vR (0, 0, 0)), some (vI a0), some (vI a1), none] [vR (3, 0, p11)] (en u)
          refine r_ifnonnullR (tgt := 31) dX9_hand_24 (by decide) ?_
          refine r_iload_n (x := a0) dX9_hand_31 rfl ?_
          refine r_if_lt (tgt := 46) dX9_hand_32 (by decide) (fun hc => ?_) (fun hc => ?_)
          · have hf := (am_if hf).1 hc
            refine r_sipush (v := -1002) dX9_hand_46 rfl ?_
            have hx := am_inj hf
            subst hx
            exact r_iret dX9_hand_49 rfl rfl (le_b rfl) (le_b rfl)
          · have hf := (am_if hf).2 hc
            refine r_iload_n (x := a0) dX9_hand_35 rfl ?_
            refine r_aload_n (x := (0, 0, 0)) dX9_hand_36 rfl ?_
            refine e_getr (z := some (1, 0, 0)) fw_X9_14 dX9_hand_37 (kC_mem (s := 0) (by decide) (by decide) (by decide)) rfl (lt_b rfl) rfl ?_
            refine e_geti fw_X9_180 dX9_hand_40 (kC_mem (s := 1) (by decide) (by decide) (by decide)) rfl (lt_b rfl) ?_
            refine r_icmp_le (tgt := 50) dX9_hand_43 (by decide) (fun hc => ?_) (fun hc => ?_)
            · have hf := (am_if hf).1 hc
              refine r_aload_n (x := (0, 0, 0)) dX9_hand_50 rfl ?_
              refine e_getr (z := some (20, 0, 0)) fw_X9_48 dX9_hand_51 (kC_mem (s := 0) (by decide) (by decide) (by decide)) rfl (lt_b rfl) rfl ?_
              refine r_aload_n (x := (0, 0, 0)) dX9_hand_54 rfl ?_
              refine e_getr (z := some (1, 0, 0)) fw_X9_14 dX9_hand_55 (kC_mem (s := 0) (by decide) (by decide) (by decide)) rfl (lt_b rfl) rfl ?_
              refine r_aload_n (x := (0, 0, 0)) dX9_hand_58 rfl ?_
              refine e_getr (z := some (1, 2, 0)) fw_X9_21 dX9_hand_59 (kC_mem (s := 0) (by decide) (by decide) (by decide)) rfl (lt_b rfl) rfl ?_
              refine r_iload_n (x := a0) dX9_hand_62 rfl ?_
              obtain ⟨r13, hr14, hf⟩ := am_bind hf
              refine r_callV (as := [vR (1, 0, 0), vR (1, 2, 0), vI a0]) (st := []) (n := 3) mw_X9_190 mv_X1_passNights (C_X1_passNights (l := l) (by decide) (by decide) hr14) (le_b rfl) dX9_hand_63 (kC_mem (s := 20) (by decide) (by decide) (by decide)) rfl rfl rfl (le_b rfl) (le_b rfl) (le_b rfl) ?_
              show X l _ _ 0 0 false _ kC 0 0 66 [some (vR (0, 0, 0)), some (vI a0), some (vI a1), none] [] (en r13)
              refine r_iload_n (x := a1) dX9_hand_66 rfl ?_
              refine r_bipush (v := 6) dX9_hand_67 rfl ?_
              refine r_icmp_ne (tgt := 80) dX9_hand_69 (by decide) (fun hc => ?_) (fun hc => ?_)
              · have hf := (am_if hf).2 hc
                refine r_iload_n (x := a1) dX9_hand_80 rfl ?_
                refine r_bipush (v := 7) dX9_hand_81 rfl ?_
                refine r_icmp_ne (tgt := 94) dX9_hand_83 (by decide) (fun hc => ?_) (fun hc => ?_)
                · have hf := (am_if hf).2 hc
                  refine r_iload_n (x := a1) dX9_hand_94 rfl ?_
                  refine r_bipush (v := 8) dX9_hand_95 rfl ?_
                  refine r_icmp_ne (tgt := 108) dX9_hand_97 (by decide) (fun hc => ?_) (fun hc => ?_)
                  · have hf := (am_if hf).2 hc
                    refine r_aload_n (x := (0, 0, 0)) dX9_hand_108 rfl ?_
                    refine e_getr (z := some (1, 2, 0)) fw_X9_21 dX9_hand_109 (kC_mem (s := 0) (by decide) (by decide) (by decide)) rfl (lt_b rfl) rfl ?_
                    refine r_iload_n (x := a1) dX9_hand_112 rfl ?_
                    obtain ⟨r15, hr16, hf⟩ := am_bind hf
                    refine r_callV (as := [vI a1]) (st := []) (n := 1) mw_X9_94 mv_X8_find (C_X8_find (l := l) (by decide) hr16) (le_b rfl) dX9_hand_113 (kC_mem (s := 1) (by decide) (by decide) (by decide)) rfl rfl rfl (le_b rfl) (le_b rfl) (le_b rfl) ?_
                    cases r15 with
                    | none =>
                      show X l _ _ 0 0 false _ kC 0 0 116 [some (vR (0, 0, 0)), some (vI a0), some (vI a1), none] [vN] (en r13)
                      refine r_astore_nN (L' := [some (vR (0, 0, 0)), some (vI a0), some (vI a1), some (vN)]) dX9_hand_116 (by decide) rfl ?_
                      refine r_aload_nN dX9_hand_117 rfl ?_
                      refine r_ifnonnullN dX9_hand_118 ?_
                      refine r_sipush (v := -1001) dX9_hand_121 rfl ?_
                      refine r_goto (tgt := 131) dX9_hand_124 (by decide) ?_
                      have hx := am_inj hf
                      subst hx
                      exact r_iret dX9_hand_131 rfl rfl (le_b rfl) (le_b rfl)
                    | some p17 =>
                      obtain ⟨h18, hf⟩ := am_chk hf
                      show X l _ _ 0 0 false _ kC 0 0 116 [some (vR (0, 0, 0)), some (vI a0), some (vI a1), none] [vR (3, 2, p17)] (en r13)
                      refine r_astore_n (L' := [some (vR (0, 0, 0)), some (vI a0), some (vI a1), some (vR (3, 2, p17))]) dX9_hand_116 (by decide) rfl ?_
                      refine r_aload_n (x := (3, 2, p17)) dX9_hand_117 rfl ?_
                      refine r_ifnonnullR (tgt := 127) dX9_hand_118 (by decide) ?_
                      refine r_aload_n (x := (3, 2, p17)) dX9_hand_127 rfl ?_
                      refine e_geti fw_X9_98 dX9_hand_128 (kC_mem (s := 3) (by decide) (by decide) h18) rfl (lt_b rfl) ?_
                      have hx := am_inj hf
                      subst hx
                      exact r_iret dX9_hand_131 rfl rfl (le_b rfl) (le_b rfl)
                  · have hf := (am_if hf).1 hc
                    refine r_aload_n (x := (0, 0, 0)) dX9_hand_100 rfl ?_
                    refine e_getr (z := some (20, 0, 0)) fw_X9_48 dX9_hand_101 (kC_mem (s := 0) (by decide) (by decide) (by decide)) rfl (lt_b rfl) rfl ?_
                    refine e_geti fw_X9_197 dX9_hand_104 (kC_mem (s := 20) (by decide) (by decide) (by decide)) rfl (lt_b rfl) ?_
                    have hx := am_inj hf
                    subst hx
                    exact r_iret dX9_hand_107 rfl rfl (le_b rfl) (le_b rfl)
                · have hf := (am_if hf).1 hc
                  refine r_aload_n (x := (0, 0, 0)) dX9_hand_86 rfl ?_
                  refine e_getr (z := some (20, 0, 0)) fw_X9_48 dX9_hand_87 (kC_mem (s := 0) (by decide) (by decide) (by decide)) rfl (lt_b rfl) rfl ?_
                  refine e_geti fw_X9_194 dX9_hand_90 (kC_mem (s := 20) (by decide) (by decide) (by decide)) rfl (lt_b rfl) ?_
                  have hx := am_inj hf
                  subst hx
                  exact r_iret dX9_hand_93 rfl rfl (le_b rfl) (le_b rfl)
              · have hf := (am_if hf).1 hc
                refine r_aload_n (x := (0, 0, 0)) dX9_hand_72 rfl ?_
                refine e_getr (z := some (1, 2, 0)) fw_X9_21 dX9_hand_73 (kC_mem (s := 0) (by decide) (by decide) (by decide)) rfl (lt_b rfl) rfl ?_
                obtain ⟨r19, hr20, hf⟩ := am_bind hf
                refine r_callV (as := []) (st := []) (n := 0) mw_X9_176 mv_X8_litBits (C_X8_litBits (l := l) (by decide) hr20) (le_b rfl) dX9_hand_76 (kC_mem (s := 1) (by decide) (by decide) (by decide)) rfl rfl rfl (le_b rfl) (le_b rfl) (le_b rfl) ?_
                show X l _ _ 0 0 false _ kC 0 0 79 [some (vR (0, 0, 0)), some (vI a0), some (vI a1), none] [vI r19] (en r13)
                have hx := am_inj hf
                subst hx
                exact r_iret dX9_hand_79 rfl rfl (le_b rfl) (le_b rfl)
            · have hf := (am_if hf).2 hc
              refine r_sipush (v := -1002) dX9_hand_46 rfl ?_
              have hx := am_inj hf
              subst hx
              exact r_iret dX9_hand_49 rfl rfl (le_b rfl) (le_b rfl)
/-! FireFromFire.quickest -/
theorem dX9_quickest_0 : decode cX9_quickest 0 = .ok (.aload_n 0, 1) := by decide +kernel
theorem dX9_quickest_1 : decode cX9_quickest 1 = .ok (.getfield 14, 3) := by decide +kernel
theorem dX9_quickest_4 : decode cX9_quickest 4 = .ok (.iload_n 1, 1) := by decide +kernel
theorem dX9_quickest_5 : decode cX9_quickest 5 = .ok (.invokevirtual 94, 3) := by decide +kernel
theorem dX9_quickest_8 : decode cX9_quickest 8 = .ok (.ifnull 12, 3) := by decide +kernel
theorem dX9_quickest_11 : decode cX9_quickest 11 = .ok (.iload_n 2, 1) := by decide +kernel
theorem dX9_quickest_12 : decode cX9_quickest 12 = .ok (.ifCond .lt 8, 3) := by decide +kernel
theorem dX9_quickest_15 : decode cX9_quickest 15 = .ok (.iload_n 2, 1) := by decide +kernel
theorem dX9_quickest_16 : decode cX9_quickest 16 = .ok (.iconst 1, 1) := by decide +kernel
theorem dX9_quickest_17 : decode cX9_quickest 17 = .ok (.if_icmp .le 5, 3) := by decide +kernel
theorem dX9_quickest_20 : decode cX9_quickest 20 = .ok (.iconst (-1), 1) := by decide +kernel
theorem dX9_quickest_21 : decode cX9_quickest 21 = .ok (.ireturn, 1) := by decide +kernel
theorem dX9_quickest_22 : decode cX9_quickest 22 = .ok (.aload_n 0, 1) := by decide +kernel
theorem dX9_quickest_23 : decode cX9_quickest 23 = .ok (.getfield 55, 3) := by decide +kernel
theorem dX9_quickest_26 : decode cX9_quickest 26 = .ok (.aload_n 0, 1) := by decide +kernel
theorem dX9_quickest_27 : decode cX9_quickest 27 = .ok (.getfield 14, 3) := by decide +kernel
theorem dX9_quickest_30 : decode cX9_quickest 30 = .ok (.invokevirtual 200, 3) := by decide +kernel
theorem dX9_quickest_33 : decode cX9_quickest 33 = .ok (.aload_n 0, 1) := by decide +kernel
theorem dX9_quickest_34 : decode cX9_quickest 34 = .ok (.getfield 55, 3) := by decide +kernel
theorem dX9_quickest_37 : decode cX9_quickest 37 = .ok (.aload_n 0, 1) := by decide +kernel
theorem dX9_quickest_38 : decode cX9_quickest 38 = .ok (.getfield 14, 3) := by decide +kernel
theorem dX9_quickest_41 : decode cX9_quickest 41 = .ok (.iload_n 1, 1) := by decide +kernel
theorem dX9_quickest_42 : decode cX9_quickest 42 = .ok (.invokevirtual 204, 3) := by decide +kernel
theorem dX9_quickest_45 : decode cX9_quickest 45 = .ok (.istore_n 3, 1) := by decide +kernel
theorem dX9_quickest_46 : decode cX9_quickest 46 = .ok (.iload_n 2, 1) := by decide +kernel
theorem dX9_quickest_47 : decode cX9_quickest 47 = .ok (.ifCond .ne 5, 3) := by decide +kernel
theorem dX9_quickest_50 : decode cX9_quickest 50 = .ok (.iload_n 3, 1) := by decide +kernel
theorem dX9_quickest_51 : decode cX9_quickest 51 = .ok (.ireturn, 1) := by decide +kernel
theorem dX9_quickest_52 : decode cX9_quickest 52 = .ok (.iload_n 3, 1) := by decide +kernel
theorem dX9_quickest_53 : decode cX9_quickest 53 = .ok (.ifCond .lt 27, 3) := by decide +kernel
theorem dX9_quickest_56 : decode cX9_quickest 56 = .ok (.aload_n 0, 1) := by decide +kernel
theorem dX9_quickest_57 : decode cX9_quickest 57 = .ok (.getfield 14, 3) := by decide +kernel
theorem dX9_quickest_60 : decode cX9_quickest 60 = .ok (.iconst 2, 1) := by decide +kernel
theorem dX9_quickest_61 : decode cX9_quickest 61 = .ok (.iload_n 1, 1) := by decide +kernel
theorem dX9_quickest_62 : decode cX9_quickest 62 = .ok (.aload_n 0, 1) := by decide +kernel
theorem dX9_quickest_63 : decode cX9_quickest 63 = .ok (.getfield 14, 3) := by decide +kernel
theorem dX9_quickest_66 : decode cX9_quickest 66 = .ok (.getfield 208, 3) := by decide +kernel
theorem dX9_quickest_69 : decode cX9_quickest 69 = .ok (.invokevirtual 152, 3) := by decide +kernel
theorem dX9_quickest_72 : decode cX9_quickest 72 = .ok (.iload_n 3, 1) := by decide +kernel
theorem dX9_quickest_73 : decode cX9_quickest 73 = .ok (.if_icmp .lt 7, 3) := by decide +kernel
theorem dX9_quickest_76 : decode cX9_quickest 76 = .ok (.iconst 1, 1) := by decide +kernel
theorem dX9_quickest_77 : decode cX9_quickest 77 = .ok (.goto 4, 3) := by decide +kernel
theorem dX9_quickest_80 : decode cX9_quickest 80 = .ok (.iconst 0, 1) := by decide +kernel
theorem dX9_quickest_81 : decode cX9_quickest 81 = .ok (.ireturn, 1) := by decide +kernel
def f_X9_quickest  (a0 : Int32) (a1 : Int32) (u : PM) : Option (Int32 × PM) :=
  (f_X8_find 0 a0 u).bind fun r1 =>
  match r1 with
  | none =>
    some ((-1 : Int32), u)
  | some p3 =>
    if p3 < 6 then
      if a1 < 0 then
        some ((-1 : Int32), u)
      else
      if a1 ≤ (1 : Int32) then
        (f_X5_measure 0 u).bind fun r5 =>
        (f_X5_toFire 0 a0 r5).bind fun r7 =>
        if a1 = 0 then
          some (r7, r5)
        else
        if r7 < 0 then
          some ((0 : Int32), r5)
        else
        (f_X8_sum 0 (2 : Int32) a0 (r5.1 (1, 0, 0) 3) r5).bind fun (r9, u11) =>
        if r9 < r7 then
          some ((0 : Int32), u11)
        else
        some ((1 : Int32), u11)
      else
      some ((-1 : Int32), u)
    else none
set_option maxHeartbeats 4000000 in
set_option maxRecDepth 20000 in
theorem C_X9_quickest {l : Launch}  {a0 : Int32} {a1 : Int32} {u : PM} {x : Int32 × PM} (hf : f_X9_quickest a0 a1 u = some x) : Ev l mX9_quickest 4 0 0 false [vR (0, 0, 0), vI a0, vI a1] kC (en u) (some (vI x.1), kC, en x.2) := by
  refine Ev_of (by decide +kernel) (le_b rfl) ?_
  unfold f_X9_quickest at hf
  show X l mX9_quickest 4 0 0 false _ kC 0 0 0 [some (vR (0, 0, 0)), some (vI a0), some (vI a1), none] [] (en u)
  refine r_aload_n (x := (0, 0, 0)) dX9_quickest_0 rfl ?_
  refine e_getr (z := some (1, 0, 0)) fw_X9_14 dX9_quickest_1 (kC_mem (s := 0) (by decide) (by decide) (by decide)) rfl (lt_b rfl) rfl ?_
  refine r_iload_n (x := a0) dX9_quickest_4 rfl ?_
  obtain ⟨r1, hr2, hf⟩ := am_bind hf
  refine r_callV (as := [vI a0]) (st := []) (n := 1) mw_X9_94 mv_X8_find (C_X8_find (l := l) (by decide) hr2) (le_b rfl) dX9_quickest_5 (kC_mem (s := 1) (by decide) (by decide) (by decide)) rfl rfl rfl (le_b rfl) (le_b rfl) (le_b rfl) ?_
  cases r1 with
  | none =>
    show X l _ _ 0 0 false _ kC 0 0 8 [some (vR (0, 0, 0)), some (vI a0), some (vI a1), none] [vN] (en u)
    refine r_ifnullN (tgt := 20) dX9_quickest_8 (by decide) ?_
    refine r_iconst (v := -1) dX9_quickest_20 rfl ?_
    have hx := am_inj hf
    subst hx
    exact r_iret dX9_quickest_21 rfl rfl (le_b rfl) (le_b rfl)
  | some p3 =>
    obtain ⟨h4, hf⟩ := am_chk hf
    show X l _ _ 0 0 false _ kC 0 0 8 [some (vR (0, 0, 0)), some (vI a0), some (vI a1), none] [vR (3, 0, p3)] (en u)
    refine r_ifnullR dX9_quickest_8 ?_
    refine r_iload_n (x := a1) dX9_quickest_11 rfl ?_
    refine r_if_lt (tgt := 20) dX9_quickest_12 (by decide) (fun hc => ?_) (fun hc => ?_)
    · have hf := (am_if hf).1 hc
      refine r_iconst (v := -1) dX9_quickest_20 rfl ?_
      have hx := am_inj hf
      subst hx
      exact r_iret dX9_quickest_21 rfl rfl (le_b rfl) (le_b rfl)
    · have hf := (am_if hf).2 hc
      refine r_iload_n (x := a1) dX9_quickest_15 rfl ?_
      refine r_iconst (v := 1) dX9_quickest_16 rfl ?_
      refine r_icmp_le (tgt := 22) dX9_quickest_17 (by decide) (fun hc => ?_) (fun hc => ?_)
      · have hf := (am_if hf).1 hc
        refine r_aload_n (x := (0, 0, 0)) dX9_quickest_22 rfl ?_
        refine e_getr (z := some (25, 0, 0)) fw_X9_55 dX9_quickest_23 (kC_mem (s := 0) (by decide) (by decide) (by decide)) rfl (lt_b rfl) rfl ?_
        refine r_aload_n (x := (0, 0, 0)) dX9_quickest_26 rfl ?_
        refine e_getr (z := some (1, 0, 0)) fw_X9_14 dX9_quickest_27 (kC_mem (s := 0) (by decide) (by decide) (by decide)) rfl (lt_b rfl) rfl ?_
        obtain ⟨r5, hr6, hf⟩ := am_bind hf
        refine r_callV (as := [vR (1, 0, 0)]) (st := []) (n := 1) mw_X9_200 mv_X5_measure (C_X5_measure (l := l) (by decide) hr6) (le_b rfl) dX9_quickest_30 (kC_mem (s := 25) (by decide) (by decide) (by decide)) rfl rfl rfl (le_b rfl) (le_b rfl) (le_b rfl) ?_
        show X l _ _ 0 0 false _ kC 0 0 33 [some (vR (0, 0, 0)), some (vI a0), some (vI a1), none] [] (en r5)
        refine r_aload_n (x := (0, 0, 0)) dX9_quickest_33 rfl ?_
        refine e_getr (z := some (25, 0, 0)) fw_X9_55 dX9_quickest_34 (kC_mem (s := 0) (by decide) (by decide) (by decide)) rfl (lt_b rfl) rfl ?_
        refine r_aload_n (x := (0, 0, 0)) dX9_quickest_37 rfl ?_
        refine e_getr (z := some (1, 0, 0)) fw_X9_14 dX9_quickest_38 (kC_mem (s := 0) (by decide) (by decide) (by decide)) rfl (lt_b rfl) rfl ?_
        refine r_iload_n (x := a0) dX9_quickest_41 rfl ?_
        obtain ⟨r7, hr8, hf⟩ := am_bind hf
        refine r_callV (as := [vR (1, 0, 0), vI a0]) (st := []) (n := 2) mw_X9_204 mv_X5_toFire (C_X5_toFire (l := l) (by decide) hr8) (le_b rfl) dX9_quickest_42 (kC_mem (s := 25) (by decide) (by decide) (by decide)) rfl rfl rfl (le_b rfl) (le_b rfl) (le_b rfl) ?_
        show X l _ _ 0 0 false _ kC 0 0 45 [some (vR (0, 0, 0)), some (vI a0), some (vI a1), none] [vI r7] (en r5)
        refine r_istore_n (L' := [some (vR (0, 0, 0)), some (vI a0), some (vI a1), some (vI r7)]) dX9_quickest_45 (by decide) rfl ?_
        refine r_iload_n (x := a1) dX9_quickest_46 rfl ?_
        refine r_if_ne (tgt := 52) dX9_quickest_47 (by decide) (fun hc => ?_) (fun hc => ?_)
        · have hf := (am_if hf).2 hc
          refine r_iload_n (x := r7) dX9_quickest_52 rfl ?_
          refine r_if_lt (tgt := 80) dX9_quickest_53 (by decide) (fun hc => ?_) (fun hc => ?_)
          · have hf := (am_if hf).1 hc
            refine r_iconst (v := 0) dX9_quickest_80 rfl ?_
            have hx := am_inj hf
            subst hx
            exact r_iret dX9_quickest_81 rfl rfl (le_b rfl) (le_b rfl)
          · have hf := (am_if hf).2 hc
            refine r_aload_n (x := (0, 0, 0)) dX9_quickest_56 rfl ?_
            refine e_getr (z := some (1, 0, 0)) fw_X9_14 dX9_quickest_57 (kC_mem (s := 0) (by decide) (by decide) (by decide)) rfl (lt_b rfl) rfl ?_
            refine r_iconst (v := 2) dX9_quickest_60 rfl ?_
            refine r_iload_n (x := a0) dX9_quickest_61 rfl ?_
            refine r_aload_n (x := (0, 0, 0)) dX9_quickest_62 rfl ?_
            refine e_getr (z := some (1, 0, 0)) fw_X9_14 dX9_quickest_63 (kC_mem (s := 0) (by decide) (by decide) (by decide)) rfl (lt_b rfl) rfl ?_
            refine e_geti fw_X9_208 dX9_quickest_66 (kC_mem (s := 1) (by decide) (by decide) (by decide)) rfl (lt_b rfl) ?_
            obtain ⟨⟨r9, u11⟩, hr10, hf⟩ := am_bind hf
            refine r_callV (as := [vI (2 : Int32), vI a0, vI (r5.1 (1, 0, 0) 3)]) (st := []) (n := 3) mw_X9_152 mv_X8_sum (C_X8_sum (l := l) (by decide) hr10) (le_b rfl) dX9_quickest_69 (kC_mem (s := 1) (by decide) (by decide) (by decide)) rfl rfl rfl (le_b rfl) (le_b rfl) (le_b rfl) ?_
            show X l _ _ 0 0 false _ kC 0 0 72 [some (vR (0, 0, 0)), some (vI a0), some (vI a1), some (vI r7)] [vI r9] (en u11)
            refine r_iload_n (x := r7) dX9_quickest_72 rfl ?_
            refine r_icmp_lt (tgt := 80) dX9_quickest_73 (by decide) (fun hc => ?_) (fun hc => ?_)
            · have hf := (am_if hf).1 hc
              refine r_iconst (v := 0) dX9_quickest_80 rfl ?_
              have hx := am_inj hf
              subst hx
              exact r_iret dX9_quickest_81 rfl rfl (le_b rfl) (le_b rfl)
            · have hf := (am_if hf).2 hc
              refine r_iconst (v := 1) dX9_quickest_76 rfl ?_
              refine r_goto (tgt := 81) dX9_quickest_77 (by decide) ?_
              have hx := am_inj hf
              subst hx
              exact r_iret dX9_quickest_81 rfl rfl (le_b rfl) (le_b rfl)
        · have hf := (am_if hf).1 hc
          refine r_iload_n (x := r7) dX9_quickest_50 rfl ?_
          have hx := am_inj hf
          subst hx
          exact r_iret dX9_quickest_51 rfl rfl (le_b rfl) (le_b rfl)
      · have hf := (am_if hf).2 hc
        refine r_iconst (v := -1) dX9_quickest_20 rfl ?_
        have hx := am_inj hf
        subst hx
        exact r_iret dX9_quickest_21 rfl rfl (le_b rfl) (le_b rfl)
/-! FireFromFire.where -/
theorem dX9_where_0 : decode cX9_where 0 = .ok (.iload_n 1, 1) := by decide +kernel
theorem dX9_where_1 : decode cX9_where 1 = .ok (.ifCond .lt 9, 3) := by decide +kernel
theorem dX9_where_4 : decode cX9_where 4 = .ok (.iload_n 1, 1) := by decide +kernel
theorem dX9_where_5 : decode cX9_where 5 = .ok (.bipush 40, 2) := by decide +kernel
theorem dX9_where_7 : decode cX9_where 7 = .ok (.if_icmp .le 6, 3) := by decide +kernel
theorem dX9_where_10 : decode cX9_where 10 = .ok (.bipush (-2), 2) := by decide +kernel
theorem dX9_where_12 : decode cX9_where 12 = .ok (.ireturn, 1) := by decide +kernel
theorem dX9_where_13 : decode cX9_where 13 = .ok (.aload_n 0, 1) := by decide +kernel
theorem dX9_where_14 : decode cX9_where 14 = .ok (.getfield 55, 3) := by decide +kernel
theorem dX9_where_17 : decode cX9_where 17 = .ok (.aload_n 0, 1) := by decide +kernel
theorem dX9_where_18 : decode cX9_where 18 = .ok (.getfield 14, 3) := by decide +kernel
theorem dX9_where_21 : decode cX9_where 21 = .ok (.invokevirtual 200, 3) := by decide +kernel
theorem dX9_where_24 : decode cX9_where 24 = .ok (.aload_n 0, 1) := by decide +kernel
theorem dX9_where_25 : decode cX9_where 25 = .ok (.getfield 55, 3) := by decide +kernel
theorem dX9_where_28 : decode cX9_where 28 = .ok (.iload_n 1, 1) := by decide +kernel
theorem dX9_where_29 : decode cX9_where 29 = .ok (.invokevirtual 211, 3) := by decide +kernel
theorem dX9_where_32 : decode cX9_where 32 = .ok (.ireturn, 1) := by decide +kernel
def f_X9_where  (a0 : Int32) (u : PM) : Option (Int32 × PM) :=
  if a0 < 0 then
    some ((-2 : Int32), u)
  else
  if a0 ≤ (40 : Int32) then
    (f_X5_measure 0 u).bind fun r1 =>
    (f_X5_fewest a0 r1).bind fun r3 =>
    some (r3, r1)
  else
  some ((-2 : Int32), u)
set_option maxHeartbeats 4000000 in
set_option maxRecDepth 20000 in
theorem C_X9_where {l : Launch}  {a0 : Int32} {u : PM} {x : Int32 × PM} (hf : f_X9_where a0 u = some x) : Ev l mX9_where 3 0 0 false [vR (0, 0, 0), vI a0] kC (en u) (some (vI x.1), kC, en x.2) := by
  refine Ev_of (by decide +kernel) (le_b rfl) ?_
  unfold f_X9_where at hf
  show X l mX9_where 3 0 0 false _ kC 0 0 0 [some (vR (0, 0, 0)), some (vI a0)] [] (en u)
  refine r_iload_n (x := a0) dX9_where_0 rfl ?_
  refine r_if_lt (tgt := 10) dX9_where_1 (by decide) (fun hc => ?_) (fun hc => ?_)
  · have hf := (am_if hf).1 hc
    refine r_bipush (v := -2) dX9_where_10 rfl ?_
    have hx := am_inj hf
    subst hx
    exact r_iret dX9_where_12 rfl rfl (le_b rfl) (le_b rfl)
  · have hf := (am_if hf).2 hc
    refine r_iload_n (x := a0) dX9_where_4 rfl ?_
    refine r_bipush (v := 40) dX9_where_5 rfl ?_
    refine r_icmp_le (tgt := 13) dX9_where_7 (by decide) (fun hc => ?_) (fun hc => ?_)
    · have hf := (am_if hf).1 hc
      refine r_aload_n (x := (0, 0, 0)) dX9_where_13 rfl ?_
      refine e_getr (z := some (25, 0, 0)) fw_X9_55 dX9_where_14 (kC_mem (s := 0) (by decide) (by decide) (by decide)) rfl (lt_b rfl) rfl ?_
      refine r_aload_n (x := (0, 0, 0)) dX9_where_17 rfl ?_
      refine e_getr (z := some (1, 0, 0)) fw_X9_14 dX9_where_18 (kC_mem (s := 0) (by decide) (by decide) (by decide)) rfl (lt_b rfl) rfl ?_
      obtain ⟨r1, hr2, hf⟩ := am_bind hf
      refine r_callV (as := [vR (1, 0, 0)]) (st := []) (n := 1) mw_X9_200 mv_X5_measure (C_X5_measure (l := l) (by decide) hr2) (le_b rfl) dX9_where_21 (kC_mem (s := 25) (by decide) (by decide) (by decide)) rfl rfl rfl (le_b rfl) (le_b rfl) (le_b rfl) ?_
      show X l _ _ 0 0 false _ kC 0 0 24 [some (vR (0, 0, 0)), some (vI a0)] [] (en r1)
      refine r_aload_n (x := (0, 0, 0)) dX9_where_24 rfl ?_
      refine e_getr (z := some (25, 0, 0)) fw_X9_55 dX9_where_25 (kC_mem (s := 0) (by decide) (by decide) (by decide)) rfl (lt_b rfl) rfl ?_
      refine r_iload_n (x := a0) dX9_where_28 rfl ?_
      obtain ⟨r3, hr4, hf⟩ := am_bind hf
      refine r_callV (as := [vI a0]) (st := []) (n := 1) mw_X9_211 mv_X5_fewest (C_X5_fewest (l := l) hr4) (le_b rfl) dX9_where_29 (kC_mem (s := 25) (by decide) (by decide) (by decide)) rfl rfl rfl (le_b rfl) (le_b rfl) (le_b rfl) ?_
      show X l _ _ 0 0 false _ kC 0 0 32 [some (vR (0, 0, 0)), some (vI a0)] [vI r3] (en r1)
      have hx := am_inj hf
      subst hx
      exact r_iret dX9_where_32 rfl rfl (le_b rfl) (le_b rfl)
    · have hf := (am_if hf).2 hc
      refine r_bipush (v := -2) dX9_where_10 rfl ?_
      have hx := am_inj hf
      subst hx
      exact r_iret dX9_where_12 rfl rfl (le_b rfl) (le_b rfl)
/-! FireFromFire.apart -/
theorem dX9_apart_0 : decode cX9_apart 0 = .ok (.aload_n 0, 1) := by decide +kernel
theorem dX9_apart_1 : decode cX9_apart 1 = .ok (.getfield 55, 3) := by decide +kernel
theorem dX9_apart_4 : decode cX9_apart 4 = .ok (.aload_n 0, 1) := by decide +kernel
theorem dX9_apart_5 : decode cX9_apart 5 = .ok (.getfield 14, 3) := by decide +kernel
theorem dX9_apart_8 : decode cX9_apart 8 = .ok (.invokevirtual 200, 3) := by decide +kernel
theorem dX9_apart_11 : decode cX9_apart 11 = .ok (.aload_n 0, 1) := by decide +kernel
theorem dX9_apart_12 : decode cX9_apart 12 = .ok (.getfield 55, 3) := by decide +kernel
theorem dX9_apart_15 : decode cX9_apart 15 = .ok (.invokevirtual 215, 3) := by decide +kernel
theorem dX9_apart_18 : decode cX9_apart 18 = .ok (.ireturn, 1) := by decide +kernel
def f_X9_apart   (u : PM) : Option (Int32 × PM) :=
  (f_X5_measure 0 u).bind fun r1 =>
  (f_X5_widest r1).bind fun r3 =>
  some (r3, r1)
set_option maxHeartbeats 4000000 in
set_option maxRecDepth 20000 in
theorem C_X9_apart {l : Launch}   {u : PM} {x : Int32 × PM} (hf : f_X9_apart u = some x) : Ev l mX9_apart 3 0 0 false [vR (0, 0, 0)] kC (en u) (some (vI x.1), kC, en x.2) := by
  refine Ev_of (by decide +kernel) (le_b rfl) ?_
  unfold f_X9_apart at hf
  show X l mX9_apart 3 0 0 false _ kC 0 0 0 [some (vR (0, 0, 0))] [] (en u)
  refine r_aload_n (x := (0, 0, 0)) dX9_apart_0 rfl ?_
  refine e_getr (z := some (25, 0, 0)) fw_X9_55 dX9_apart_1 (kC_mem (s := 0) (by decide) (by decide) (by decide)) rfl (lt_b rfl) rfl ?_
  refine r_aload_n (x := (0, 0, 0)) dX9_apart_4 rfl ?_
  refine e_getr (z := some (1, 0, 0)) fw_X9_14 dX9_apart_5 (kC_mem (s := 0) (by decide) (by decide) (by decide)) rfl (lt_b rfl) rfl ?_
  obtain ⟨r1, hr2, hf⟩ := am_bind hf
  refine r_callV (as := [vR (1, 0, 0)]) (st := []) (n := 1) mw_X9_200 mv_X5_measure (C_X5_measure (l := l) (by decide) hr2) (le_b rfl) dX9_apart_8 (kC_mem (s := 25) (by decide) (by decide) (by decide)) rfl rfl rfl (le_b rfl) (le_b rfl) (le_b rfl) ?_
  show X l _ _ 0 0 false _ kC 0 0 11 [some (vR (0, 0, 0))] [] (en r1)
  refine r_aload_n (x := (0, 0, 0)) dX9_apart_11 rfl ?_
  refine e_getr (z := some (25, 0, 0)) fw_X9_55 dX9_apart_12 (kC_mem (s := 0) (by decide) (by decide) (by decide)) rfl (lt_b rfl) rfl ?_
  obtain ⟨r3, hr4, hf⟩ := am_bind hf
  refine r_callV (as := []) (st := []) (n := 0) mw_X9_215 mv_X5_widest (C_X5_widest (l := l) hr4) (le_b rfl) dX9_apart_15 (kC_mem (s := 25) (by decide) (by decide) (by decide)) rfl rfl rfl (le_b rfl) (le_b rfl) (le_b rfl) ?_
  show X l _ _ 0 0 false _ kC 0 0 18 [some (vR (0, 0, 0))] [vI r3] (en r1)
  have hx := am_inj hf
  subst hx
  exact r_iret dX9_apart_18 rfl rfl (le_b rfl) (le_b rfl)
/-! FireFromFire.ends -/
theorem dX9_ends_0 : decode cX9_ends 0 = .ok (.iload_n 1, 1) := by decide +kernel
theorem dX9_ends_1 : decode cX9_ends 1 = .ok (.iconst 1, 1) := by decide +kernel
theorem dX9_ends_2 : decode cX9_ends 2 = .ok (.if_icmp .lt 37, 3) := by decide +kernel
theorem dX9_ends_5 : decode cX9_ends 5 = .ok (.iload_n 1, 1) := by decide +kernel
theorem dX9_ends_6 : decode cX9_ends 6 = .ok (.iconst 2, 1) := by decide +kernel
theorem dX9_ends_7 : decode cX9_ends 7 = .ok (.if_icmp .gt 32, 3) := by decide +kernel
theorem dX9_ends_10 : decode cX9_ends 10 = .ok (.iload_n 2, 1) := by decide +kernel
theorem dX9_ends_11 : decode cX9_ends 11 = .ok (.ifCond .lt 28, 3) := by decide +kernel
theorem dX9_ends_14 : decode cX9_ends 14 = .ok (.iload_n 2, 1) := by decide +kernel
theorem dX9_ends_15 : decode cX9_ends 15 = .ok (.iconst 1, 1) := by decide +kernel
theorem dX9_ends_16 : decode cX9_ends 16 = .ok (.if_icmp .gt 23, 3) := by decide +kernel
theorem dX9_ends_19 : decode cX9_ends 19 = .ok (.iload_n 3, 1) := by decide +kernel
theorem dX9_ends_20 : decode cX9_ends 20 = .ok (.ifCond .lt 19, 3) := by decide +kernel
theorem dX9_ends_23 : decode cX9_ends 23 = .ok (.iload_n 3, 1) := by decide +kernel
theorem dX9_ends_24 : decode cX9_ends 24 = .ok (.iconst 1, 1) := by decide +kernel
theorem dX9_ends_25 : decode cX9_ends 25 = .ok (.if_icmp .gt 14, 3) := by decide +kernel
theorem dX9_ends_28 : decode cX9_ends 28 = .ok (.aload_n 0, 1) := by decide +kernel
theorem dX9_ends_29 : decode cX9_ends 29 = .ok (.getfield 14, 3) := by decide +kernel
theorem dX9_ends_32 : decode cX9_ends 32 = .ok (.getfield 81, 3) := by decide +kernel
theorem dX9_ends_35 : decode cX9_ends 35 = .ok (.iconst 3, 1) := by decide +kernel
theorem dX9_ends_36 : decode cX9_ends 36 = .ok (.if_icmp .le 7, 3) := by decide +kernel
theorem dX9_ends_39 : decode cX9_ends 39 = .ok (.ldc2_w 218, 3) := by decide +kernel
theorem dX9_ends_42 : decode cX9_ends 42 = .ok (.lreturn, 1) := by decide +kernel
theorem dX9_ends_43 : decode cX9_ends 43 = .ok (.aload_n 0, 1) := by decide +kernel
theorem dX9_ends_44 : decode cX9_ends 44 = .ok (.getfield 62, 3) := by decide +kernel
theorem dX9_ends_47 : decode cX9_ends 47 = .ok (.aload_n 0, 1) := by decide +kernel
theorem dX9_ends_48 : decode cX9_ends 48 = .ok (.getfield 14, 3) := by decide +kernel
theorem dX9_ends_51 : decode cX9_ends 51 = .ok (.getfield 81, 3) := by decide +kernel
theorem dX9_ends_54 : decode cX9_ends 54 = .ok (.iload_n 1, 1) := by decide +kernel
theorem dX9_ends_55 : decode cX9_ends 55 = .ok (.invokevirtual 220, 3) := by decide +kernel
theorem dX9_ends_58 : decode cX9_ends 58 = .ok (.istore 4, 2) := by decide +kernel
theorem dX9_ends_60 : decode cX9_ends 60 = .ok (.iconst 0, 1) := by decide +kernel
theorem dX9_ends_61 : decode cX9_ends 61 = .ok (.istore 5, 2) := by decide +kernel
theorem dX9_ends_63 : decode cX9_ends 63 = .ok (.iload 5, 2) := by decide +kernel
theorem dX9_ends_65 : decode cX9_ends 65 = .ok (.iload 4, 2) := by decide +kernel
theorem dX9_ends_67 : decode cX9_ends 67 = .ok (.if_icmp .ge 27, 3) := by decide +kernel
theorem dX9_ends_70 : decode cX9_ends 70 = .ok (.aload_n 0, 1) := by decide +kernel
theorem dX9_ends_71 : decode cX9_ends 71 = .ok (.getfield 62, 3) := by decide +kernel
theorem dX9_ends_74 : decode cX9_ends 74 = .ok (.aload_n 0, 1) := by decide +kernel
theorem dX9_ends_75 : decode cX9_ends 75 = .ok (.getfield 48, 3) := by decide +kernel
theorem dX9_ends_78 : decode cX9_ends 78 = .ok (.aload_n 0, 1) := by decide +kernel
theorem dX9_ends_79 : decode cX9_ends 79 = .ok (.getfield 14, 3) := by decide +kernel
theorem dX9_ends_82 : decode cX9_ends 82 = .ok (.iload_n 1, 1) := by decide +kernel
theorem dX9_ends_83 : decode cX9_ends 83 = .ok (.iload 5, 2) := by decide +kernel
theorem dX9_ends_85 : decode cX9_ends 85 = .ok (.invokevirtual 223, 3) := by decide +kernel
theorem dX9_ends_88 : decode cX9_ends 88 = .ok (.iinc 5 1, 3) := by decide +kernel
theorem dX9_ends_91 : decode cX9_ends 91 = .ok (.goto (-28), 3) := by decide +kernel
theorem dX9_ends_94 : decode cX9_ends 94 = .ok (.iload_n 2, 1) := by decide +kernel
theorem dX9_ends_95 : decode cX9_ends 95 = .ok (.ifCond .ne 13, 3) := by decide +kernel
theorem dX9_ends_98 : decode cX9_ends 98 = .ok (.aload_n 0, 1) := by decide +kernel
theorem dX9_ends_99 : decode cX9_ends 99 = .ok (.getfield 62, 3) := by decide +kernel
theorem dX9_ends_102 : decode cX9_ends 102 = .ok (.getfield 227, 3) := by decide +kernel
theorem dX9_ends_105 : decode cX9_ends 105 = .ok (.goto 10, 3) := by decide +kernel
theorem dX9_ends_108 : decode cX9_ends 108 = .ok (.aload_n 0, 1) := by decide +kernel
theorem dX9_ends_109 : decode cX9_ends 109 = .ok (.getfield 62, 3) := by decide +kernel
theorem dX9_ends_112 : decode cX9_ends 112 = .ok (.getfield 231, 3) := by decide +kernel
theorem dX9_ends_115 : decode cX9_ends 115 = .ok (.lstore 5, 2) := by decide +kernel
theorem dX9_ends_117 : decode cX9_ends 117 = .ok (.lload 5, 2) := by decide +kernel
theorem dX9_ends_119 : decode cX9_ends 119 = .ok (.aload_n 0, 1) := by decide +kernel
theorem dX9_ends_120 : decode cX9_ends 120 = .ok (.getfield 62, 3) := by decide +kernel
theorem dX9_ends_123 : decode cX9_ends 123 = .ok (.getfield 233, 3) := by decide +kernel
theorem dX9_ends_126 : decode cX9_ends 126 = .ok (.invokestatic 236, 3) := by decide +kernel
theorem dX9_ends_129 : decode cX9_ends 129 = .ok (.lstore 7, 2) := by decide +kernel
theorem dX9_ends_131 : decode cX9_ends 131 = .ok (.lload 7, 2) := by decide +kernel
theorem dX9_ends_133 : decode cX9_ends 133 = .ok (.lconst 1, 1) := by decide +kernel
theorem dX9_ends_134 : decode cX9_ends 134 = .ok (.lcmp, 1) := by decide +kernel
theorem dX9_ends_135 : decode cX9_ends 135 = .ok (.ifCond .ge 7, 3) := by decide +kernel
theorem dX9_ends_138 : decode cX9_ends 138 = .ok (.ldc2_w 218, 3) := by decide +kernel
theorem dX9_ends_141 : decode cX9_ends 141 = .ok (.lreturn, 1) := by decide +kernel
theorem dX9_ends_142 : decode cX9_ends 142 = .ok (.iload_n 3, 1) := by decide +kernel
theorem dX9_ends_143 : decode cX9_ends 143 = .ok (.ifCond .ne 8, 3) := by decide +kernel
theorem dX9_ends_146 : decode cX9_ends 146 = .ok (.lload 5, 2) := by decide +kernel
theorem dX9_ends_148 : decode cX9_ends 148 = .ok (.goto 10, 3) := by decide +kernel
theorem dX9_ends_151 : decode cX9_ends 151 = .ok (.aload_n 0, 1) := by decide +kernel
theorem dX9_ends_152 : decode cX9_ends 152 = .ok (.getfield 62, 3) := by decide +kernel
theorem dX9_ends_155 : decode cX9_ends 155 = .ok (.getfield 233, 3) := by decide +kernel
theorem dX9_ends_158 : decode cX9_ends 158 = .ok (.lload 7, 2) := by decide +kernel
theorem dX9_ends_160 : decode cX9_ends 160 = .ok (.ldiv, 1) := by decide +kernel
theorem dX9_ends_161 : decode cX9_ends 161 = .ok (.lreturn, 1) := by decide +kernel
def f_X9_ends_L63  (c1 : Int32) (c2 : Int32) (c3 : Int32) (c4 : Int32) : Int32 × PM → Option ((Int32 × PM) ⊕ (PM)) := fun (x5 , u) =>
  if c4 ≤ x5 then
    some (.inr (u))
  else
  (f_X4_follow 0 c1 x5 u).bind fun r4 =>
  some (.inl (x5 + (1 : Int32), r4))
set_option maxHeartbeats 4000000 in
set_option maxRecDepth 20000 in
theorem K_X9_ends_L63 {l : Launch} {T : Option AV × List Key × AM}  {c1 : Int32} {c2 : Int32} {c3 : Int32} {c4 : Int32} : ∀ (n : Nat) (s : Int32 × PM) (e0 : PM), am_loop (f_X9_ends_L63 c1 c2 c3 c4) n s = some e0 → (fun e : PM => X l mX9_ends 8 0 0 false T kC 0 0 94 [some (vR (0, 0, 0)), none, some (vI c2), some (vI c3), none, none, none, none, none] [] (en e)) e0 → X l mX9_ends 8 0 0 false T kC 0 0 63 [some (vR (0, 0, 0)), some (vI c1), some (vI c2), some (vI c3), some (vI c4), some (vI s.1), none, none, none] [] (en s.2) := by
  refine am_loop_of ?_
  intro s x hf k1 k2
  obtain ⟨x5 , u⟩ := s
  unfold f_X9_ends_L63 at hf
  show X l mX9_ends 8 0 0 false T kC 0 0 63 [some (vR (0, 0, 0)), some (vI c1), some (vI c2), some (vI c3), some (vI c4), some (vI x5), none, none, none] [] (en u)
  refine r_iload (x := x5) dX9_ends_63 rfl ?_
  refine r_iload (x := c4) dX9_ends_65 rfl ?_
  refine r_icmp_ge (tgt := 94) dX9_ends_67 (by decide) (fun hc => ?_) (fun hc => ?_)
  · have hf := (am_if hf).1 hc
    refine r_weak (L' := [some (vR (0, 0, 0)), none, some (vI c2), some (vI c3), none, none, none, none, none]) (And.intro rfl (And.intro rfl (And.intro rfl trivial))) ?_
    exact k2 (u) (am_inj hf).symm
  · have hf := (am_if hf).2 hc
    refine r_aload_n (x := (0, 0, 0)) dX9_ends_70 rfl ?_
    refine e_getr (z := some (28, 0, 0)) fw_X9_62 dX9_ends_71 (kC_mem (s := 0) (by decide) (by decide) (by decide)) rfl (lt_b rfl) rfl ?_
    refine r_aload_n (x := (0, 0, 0)) dX9_ends_74 rfl ?_
    refine e_getr (z := some (20, 0, 0)) fw_X9_48 dX9_ends_75 (kC_mem (s := 0) (by decide) (by decide) (by decide)) rfl (lt_b rfl) rfl ?_
    refine r_aload_n (x := (0, 0, 0)) dX9_ends_78 rfl ?_
    refine e_getr (z := some (1, 0, 0)) fw_X9_14 dX9_ends_79 (kC_mem (s := 0) (by decide) (by decide) (by decide)) rfl (lt_b rfl) rfl ?_
    refine r_iload_n (x := c1) dX9_ends_82 rfl ?_
    refine r_iload (x := x5) dX9_ends_83 rfl ?_
    obtain ⟨r4, hr5, hf⟩ := am_bind hf
    refine r_callV (as := [vR (20, 0, 0), vR (1, 0, 0), vI c1, vI x5]) (st := []) (n := 4) mw_X9_223 mv_X4_follow (C_X4_follow (l := l) (by decide) hr5) (le_b rfl) dX9_ends_85 (kC_mem (s := 28) (by decide) (by decide) (by decide)) rfl rfl rfl (le_b rfl) (le_b rfl) (le_b rfl) ?_
    show X l _ _ 0 0 false _ kC 0 0 88 [some (vR (0, 0, 0)), some (vI c1), some (vI c2), some (vI c3), some (vI c4), some (vI x5), none, none, none] [] (en r4)
    refine r_iinc (x := x5) (v := x5 + (1 : Int32)) (L' := [some (vR (0, 0, 0)), some (vI c1), some (vI c2), some (vI c3), some (vI c4), some (vI (x5 + (1 : Int32))), none, none, none]) dX9_ends_88 rfl rfl (lt_b rfl) rfl ?_
    refine r_goto (tgt := 63) dX9_ends_91 (by decide) ?_
    refine r_weak (L' := [some (vR (0, 0, 0)), some (vI c1), some (vI c2), some (vI c3), some (vI c4), some (vI (x5 + (1 : Int32))), none, none, none]) (And.intro rfl (And.intro rfl (And.intro rfl (And.intro rfl (And.intro rfl (And.intro rfl trivial)))))) ?_
    exact k1 (x5 + (1 : Int32), r4) (am_inj hf).symm
def f_X9_ends  (a0 : Int32) (a1 : Int32) (a2 : Int32) (u : PM) : Option (Int64 × PM) :=
  if a0 < (1 : Int32) then
    some ((-9223372036854775808 : Int64), u)
  else
  if (2 : Int32) < a0 then
    some ((-9223372036854775808 : Int64), u)
  else
  if a1 < 0 then
    some ((-9223372036854775808 : Int64), u)
  else
  if (1 : Int32) < a1 then
    some ((-9223372036854775808 : Int64), u)
  else
  if a2 < 0 then
    some ((-9223372036854775808 : Int64), u)
  else
  if (1 : Int32) < a2 then
    some ((-9223372036854775808 : Int64), u)
  else
  if (u.1 (1, 0, 0) 0) ≤ (3 : Int32) then
    (f_X4_begin (u.1 (1, 0, 0) 0) a0 u).bind fun (r1, u3) =>
    (am_loop (f_X9_ends_L63 a0 a1 a2 r1) 2000 ((0 : Int32), u3)).bind fun u8 =>
    if a1 = 0 then
      (f_X4_commonDivisor (u8.2.1 (28, 0, 0) 0) (u8.2.1 (28, 0, 0) 2) u8).bind fun r13 =>
      if 0 ≤ (lg_cmp r13 (1 : Int64)) then
        if a2 = 0 then
          if r13 = 0 then none else
          some ((u8.2.1 (28, 0, 0) 0) / r13, u8)
        else
        if r13 = 0 then none else
        some ((u8.2.1 (28, 0, 0) 2) / r13, u8)
      else
      some ((-9223372036854775808 : Int64), u8)
    else
    (f_X4_commonDivisor (u8.2.1 (28, 0, 0) 1) (u8.2.1 (28, 0, 0) 2) u8).bind fun r9 =>
    if 0 ≤ (lg_cmp r9 (1 : Int64)) then
      if a2 = 0 then
        if r9 = 0 then none else
        some ((u8.2.1 (28, 0, 0) 1) / r9, u8)
      else
      if r9 = 0 then none else
      some ((u8.2.1 (28, 0, 0) 2) / r9, u8)
    else
    some ((-9223372036854775808 : Int64), u8)
  else
  some ((-9223372036854775808 : Int64), u)
set_option maxHeartbeats 4000000 in
set_option maxRecDepth 20000 in
theorem C_X9_ends {l : Launch}  {a0 : Int32} {a1 : Int32} {a2 : Int32} {u : PM} {x : Int64 × PM} (hf : f_X9_ends a0 a1 a2 u = some x) : Ev l mX9_ends 8 0 0 false [vR (0, 0, 0), vI a0, vI a1, vI a2] kC (en u) (some (vJ x.1), kC, en x.2) := by
  refine Ev_of (by decide +kernel) (le_b rfl) ?_
  unfold f_X9_ends at hf
  show X l mX9_ends 8 0 0 false _ kC 0 0 0 [some (vR (0, 0, 0)), some (vI a0), some (vI a1), some (vI a2), none, none, none, none, none] [] (en u)
  refine r_iload_n (x := a0) dX9_ends_0 rfl ?_
  refine r_iconst (v := 1) dX9_ends_1 rfl ?_
  refine r_icmp_lt (tgt := 39) dX9_ends_2 (by decide) (fun hc => ?_) (fun hc => ?_)
  · have hf := (am_if hf).1 hc
    refine r_ldc2 (v := -9223372036854775808) dX9_ends_39 cc_X9_218 ?_
    have hx := am_inj hf
    subst hx
    exact r_lret dX9_ends_42 rfl (le_b rfl) (le_b rfl)
  · have hf := (am_if hf).2 hc
    refine r_iload_n (x := a0) dX9_ends_5 rfl ?_
    refine r_iconst (v := 2) dX9_ends_6 rfl ?_
    refine r_icmp_gt (tgt := 39) dX9_ends_7 (by decide) (fun hc => ?_) (fun hc => ?_)
    · have hf := (am_if hf).1 hc
      refine r_ldc2 (v := -9223372036854775808) dX9_ends_39 cc_X9_218 ?_
      have hx := am_inj hf
      subst hx
      exact r_lret dX9_ends_42 rfl (le_b rfl) (le_b rfl)
    · have hf := (am_if hf).2 hc
      refine r_iload_n (x := a1) dX9_ends_10 rfl ?_
      refine r_if_lt (tgt := 39) dX9_ends_11 (by decide) (fun hc => ?_) (fun hc => ?_)
      · have hf := (am_if hf).1 hc
        refine r_ldc2 (v := -9223372036854775808) dX9_ends_39 cc_X9_218 ?_
        have hx := am_inj hf
        subst hx
        exact r_lret dX9_ends_42 rfl (le_b rfl) (le_b rfl)
      · have hf := (am_if hf).2 hc
        refine r_iload_n (x := a1) dX9_ends_14 rfl ?_
        refine r_iconst (v := 1) dX9_ends_15 rfl ?_
        refine r_icmp_gt (tgt := 39) dX9_ends_16 (by decide) (fun hc => ?_) (fun hc => ?_)
        · have hf := (am_if hf).1 hc
          refine r_ldc2 (v := -9223372036854775808) dX9_ends_39 cc_X9_218 ?_
          have hx := am_inj hf
          subst hx
          exact r_lret dX9_ends_42 rfl (le_b rfl) (le_b rfl)
        · have hf := (am_if hf).2 hc
          refine r_iload_n (x := a2) dX9_ends_19 rfl ?_
          refine r_if_lt (tgt := 39) dX9_ends_20 (by decide) (fun hc => ?_) (fun hc => ?_)
          · have hf := (am_if hf).1 hc
            refine r_ldc2 (v := -9223372036854775808) dX9_ends_39 cc_X9_218 ?_
            have hx := am_inj hf
            subst hx
            exact r_lret dX9_ends_42 rfl (le_b rfl) (le_b rfl)
          · have hf := (am_if hf).2 hc
            refine r_iload_n (x := a2) dX9_ends_23 rfl ?_
            refine r_iconst (v := 1) dX9_ends_24 rfl ?_
            refine r_icmp_gt (tgt := 39) dX9_ends_25 (by decide) (fun hc => ?_) (fun hc => ?_)
            · have hf := (am_if hf).1 hc
              refine r_ldc2 (v := -9223372036854775808) dX9_ends_39 cc_X9_218 ?_
              have hx := am_inj hf
              subst hx
              exact r_lret dX9_ends_42 rfl (le_b rfl) (le_b rfl)
            · have hf := (am_if hf).2 hc
              refine r_aload_n (x := (0, 0, 0)) dX9_ends_28 rfl ?_
              refine e_getr (z := some (1, 0, 0)) fw_X9_14 dX9_ends_29 (kC_mem (s := 0) (by decide) (by decide) (by decide)) rfl (lt_b rfl) rfl ?_
              refine e_geti fw_X9_81 dX9_ends_32 (kC_mem (s := 1) (by decide) (by decide) (by decide)) rfl (lt_b rfl) ?_
              refine r_iconst (v := 3) dX9_ends_35 rfl ?_
              refine r_icmp_le (tgt := 43) dX9_ends_36 (by decide) (fun hc => ?_) (fun hc => ?_)
              · have hf := (am_if hf).1 hc
                refine r_aload_n (x := (0, 0, 0)) dX9_ends_43 rfl ?_
                refine e_getr (z := some (28, 0, 0)) fw_X9_62 dX9_ends_44 (kC_mem (s := 0) (by decide) (by decide) (by decide)) rfl (lt_b rfl) rfl ?_
                refine r_aload_n (x := (0, 0, 0)) dX9_ends_47 rfl ?_
                refine e_getr (z := some (1, 0, 0)) fw_X9_14 dX9_ends_48 (kC_mem (s := 0) (by decide) (by decide) (by decide)) rfl (lt_b rfl) rfl ?_
                refine e_geti fw_X9_81 dX9_ends_51 (kC_mem (s := 1) (by decide) (by decide) (by decide)) rfl (lt_b rfl) ?_
                refine r_iload_n (x := a0) dX9_ends_54 rfl ?_
                obtain ⟨⟨r1, u3⟩, hr2, hf⟩ := am_bind hf
                refine r_callV (as := [vI (u.1 (1, 0, 0) 0), vI a0]) (st := []) (n := 2) mw_X9_220 mv_X4_begin (C_X4_begin (l := l) hr2) (le_b rfl) dX9_ends_55 (kC_mem (s := 28) (by decide) (by decide) (by decide)) rfl rfl rfl (le_b rfl) (le_b rfl) (le_b rfl) ?_
                show X l _ _ 0 0 false _ kC 0 0 58 [some (vR (0, 0, 0)), some (vI a0), some (vI a1), some (vI a2), none, none, none, none, none] [vI r1] (en u3)
                refine r_istore (L' := [some (vR (0, 0, 0)), some (vI a0), some (vI a1), some (vI a2), some (vI r1), none, none, none, none]) dX9_ends_58 (by decide) rfl ?_
                refine r_iconst (v := 0) dX9_ends_60 rfl ?_
                refine r_istore (L' := [some (vR (0, 0, 0)), some (vI a0), some (vI a1), some (vI a2), some (vI r1), some (vI (0 : Int32)), none, none, none]) dX9_ends_61 (by decide) rfl ?_
                refine r_weak (L' := [some (vR (0, 0, 0)), some (vI a0), some (vI a1), some (vI a2), some (vI r1), some (vI (0 : Int32)), none, none, none]) (And.intro rfl (And.intro rfl (And.intro rfl (And.intro rfl (And.intro rfl (And.intro rfl trivial)))))) ?_
                obtain ⟨e6, he7, hf⟩ := am_bind hf
                refine K_X9_ends_L63  2000 ((0 : Int32), u3) _ he7 ?_
                obtain ⟨u8, rfl⟩ : ∃ z, z = e6 := ⟨_, rfl⟩
                show X l _ _ 0 0 false _ kC 0 0 94 [some (vR (0, 0, 0)), none, some (vI a1), some (vI a2), none, none, none, none, none] [] (en u8)
                refine r_iload_n (x := a1) dX9_ends_94 rfl ?_
                refine r_if_ne (tgt := 108) dX9_ends_95 (by decide) (fun hc => ?_) (fun hc => ?_)
                · have hf := (am_if hf).2 hc
                  refine r_aload_n (x := (0, 0, 0)) dX9_ends_108 rfl ?_
                  refine e_getr (z := some (28, 0, 0)) fw_X9_62 dX9_ends_109 (kC_mem (s := 0) (by decide) (by decide) (by decide)) rfl (lt_b rfl) rfl ?_
                  refine e_getl fw_X9_231 dX9_ends_112 (kC_mem (s := 28) (by decide) (by decide) (by decide)) rfl (lt_b rfl) ?_
                  refine r_lstore (L' := [some (vR (0, 0, 0)), none, some (vI a1), some (vI a2), none, some (vJ (u8.2.1 (28, 0, 0) 1)), none, none, none]) dX9_ends_115 (by decide) rfl ?_
                  refine r_lload (x := u8.2.1 (28, 0, 0) 1) dX9_ends_117 rfl ?_
                  refine r_aload_n (x := (0, 0, 0)) dX9_ends_119 rfl ?_
                  refine e_getr (z := some (28, 0, 0)) fw_X9_62 dX9_ends_120 (kC_mem (s := 0) (by decide) (by decide) (by decide)) rfl (lt_b rfl) rfl ?_
                  refine e_getl fw_X9_233 dX9_ends_123 (kC_mem (s := 28) (by decide) (by decide) (by decide)) rfl (lt_b rfl) ?_
                  obtain ⟨r9, hr10, hf⟩ := am_bind hf
                  refine r_callS (as := [vJ (u8.2.1 (28, 0, 0) 1), vJ (u8.2.1 (28, 0, 0) 2)]) (st := []) (n := 2) mw_X9_236 ms_X4_commonDivisor (C_X4_commonDivisor (l := l) hr10) (le_b rfl) dX9_ends_126 rfl (le_b rfl) (le_b rfl) (le_b rfl) ?_
                  show X l _ _ 0 0 false _ kC 0 0 129 [some (vR (0, 0, 0)), none, some (vI a1), some (vI a2), none, some (vJ (u8.2.1 (28, 0, 0) 1)), none, none, none] [vJ r9] (en u8)
                  refine r_lstore (L' := [some (vR (0, 0, 0)), none, some (vI a1), some (vI a2), none, some (vJ (u8.2.1 (28, 0, 0) 1)), none, some (vJ r9), none]) dX9_ends_129 (by decide) rfl ?_
                  refine r_lload (x := r9) dX9_ends_131 rfl ?_
                  refine r_lconst (v := 1) dX9_ends_133 rfl ?_
                  refine r_lcmp dX9_ends_134 ?_
                  refine r_if_ge (tgt := 142) dX9_ends_135 (by decide) (fun hc => ?_) (fun hc => ?_)
                  · have hf := (am_if hf).1 hc
                    refine r_iload_n (x := a2) dX9_ends_142 rfl ?_
                    refine r_if_ne (tgt := 151) dX9_ends_143 (by decide) (fun hc => ?_) (fun hc => ?_)
                    · have hf := (am_if hf).2 hc
                      refine r_aload_n (x := (0, 0, 0)) dX9_ends_151 rfl ?_
                      refine e_getr (z := some (28, 0, 0)) fw_X9_62 dX9_ends_152 (kC_mem (s := 0) (by decide) (by decide) (by decide)) rfl (lt_b rfl) rfl ?_
                      refine e_getl fw_X9_233 dX9_ends_155 (kC_mem (s := 28) (by decide) (by decide) (by decide)) rfl (lt_b rfl) ?_
                      refine r_lload (x := r9) dX9_ends_158 rfl ?_
                      obtain ⟨h11, hf⟩ := am_nchk hf
                      refine r_ldiv dX9_ends_160 h11 ?_
                      have hx := am_inj hf
                      subst hx
                      exact r_lret dX9_ends_161 rfl (le_b rfl) (le_b rfl)
                    · have hf := (am_if hf).1 hc
                      refine r_lload (x := u8.2.1 (28, 0, 0) 1) dX9_ends_146 rfl ?_
                      refine r_goto (tgt := 158) dX9_ends_148 (by decide) ?_
                      refine r_lload (x := r9) dX9_ends_158 rfl ?_
                      obtain ⟨h12, hf⟩ := am_nchk hf
                      refine r_ldiv dX9_ends_160 h12 ?_
                      have hx := am_inj hf
                      subst hx
                      exact r_lret dX9_ends_161 rfl (le_b rfl) (le_b rfl)
                  · have hf := (am_if hf).2 hc
                    refine r_ldc2 (v := -9223372036854775808) dX9_ends_138 cc_X9_218 ?_
                    have hx := am_inj hf
                    subst hx
                    exact r_lret dX9_ends_141 rfl (le_b rfl) (le_b rfl)
                · have hf := (am_if hf).1 hc
                  refine r_aload_n (x := (0, 0, 0)) dX9_ends_98 rfl ?_
                  refine e_getr (z := some (28, 0, 0)) fw_X9_62 dX9_ends_99 (kC_mem (s := 0) (by decide) (by decide) (by decide)) rfl (lt_b rfl) rfl ?_
                  refine e_getl fw_X9_227 dX9_ends_102 (kC_mem (s := 28) (by decide) (by decide) (by decide)) rfl (lt_b rfl) ?_
                  refine r_goto (tgt := 115) dX9_ends_105 (by decide) ?_
                  refine r_lstore (L' := [some (vR (0, 0, 0)), none, some (vI a1), some (vI a2), none, some (vJ (u8.2.1 (28, 0, 0) 0)), none, none, none]) dX9_ends_115 (by decide) rfl ?_
                  refine r_lload (x := u8.2.1 (28, 0, 0) 0) dX9_ends_117 rfl ?_
                  refine r_aload_n (x := (0, 0, 0)) dX9_ends_119 rfl ?_
                  refine e_getr (z := some (28, 0, 0)) fw_X9_62 dX9_ends_120 (kC_mem (s := 0) (by decide) (by decide) (by decide)) rfl (lt_b rfl) rfl ?_
                  refine e_getl fw_X9_233 dX9_ends_123 (kC_mem (s := 28) (by decide) (by decide) (by decide)) rfl (lt_b rfl) ?_
                  obtain ⟨r13, hr14, hf⟩ := am_bind hf
                  refine r_callS (as := [vJ (u8.2.1 (28, 0, 0) 0), vJ (u8.2.1 (28, 0, 0) 2)]) (st := []) (n := 2) mw_X9_236 ms_X4_commonDivisor (C_X4_commonDivisor (l := l) hr14) (le_b rfl) dX9_ends_126 rfl (le_b rfl) (le_b rfl) (le_b rfl) ?_
                  show X l _ _ 0 0 false _ kC 0 0 129 [some (vR (0, 0, 0)), none, some (vI a1), some (vI a2), none, some (vJ (u8.2.1 (28, 0, 0) 0)), none, none, none] [vJ r13] (en u8)
                  refine r_lstore (L' := [some (vR (0, 0, 0)), none, some (vI a1), some (vI a2), none, some (vJ (u8.2.1 (28, 0, 0) 0)), none, some (vJ r13), none]) dX9_ends_129 (by decide) rfl ?_
                  refine r_lload (x := r13) dX9_ends_131 rfl ?_
                  refine r_lconst (v := 1) dX9_ends_133 rfl ?_
                  refine r_lcmp dX9_ends_134 ?_
                  refine r_if_ge (tgt := 142) dX9_ends_135 (by decide) (fun hc => ?_) (fun hc => ?_)
                  · have hf := (am_if hf).1 hc
                    refine r_iload_n (x := a2) dX9_ends_142 rfl ?_
                    refine r_if_ne (tgt := 151) dX9_ends_143 (by decide) (fun hc => ?_) (fun hc => ?_)
                    · have hf := (am_if hf).2 hc
                      refine r_aload_n (x := (0, 0, 0)) dX9_ends_151 rfl ?_
                      refine e_getr (z := some (28, 0, 0)) fw_X9_62 dX9_ends_152 (kC_mem (s := 0) (by decide) (by decide) (by decide)) rfl (lt_b rfl) rfl ?_
                      refine e_getl fw_X9_233 dX9_ends_155 (kC_mem (s := 28) (by decide) (by decide) (by decide)) rfl (lt_b rfl) ?_
                      refine r_lload (x := r13) dX9_ends_158 rfl ?_
                      obtain ⟨h15, hf⟩ := am_nchk hf
                      refine r_ldiv dX9_ends_160 h15 ?_
                      have hx := am_inj hf
                      subst hx
                      exact r_lret dX9_ends_161 rfl (le_b rfl) (le_b rfl)
                    · have hf := (am_if hf).1 hc
                      refine r_lload (x := u8.2.1 (28, 0, 0) 0) dX9_ends_146 rfl ?_
                      refine r_goto (tgt := 158) dX9_ends_148 (by decide) ?_
                      refine r_lload (x := r13) dX9_ends_158 rfl ?_
                      obtain ⟨h16, hf⟩ := am_nchk hf
                      refine r_ldiv dX9_ends_160 h16 ?_
                      have hx := am_inj hf
                      subst hx
                      exact r_lret dX9_ends_161 rfl (le_b rfl) (le_b rfl)
                  · have hf := (am_if hf).2 hc
                    refine r_ldc2 (v := -9223372036854775808) dX9_ends_138 cc_X9_218 ?_
                    have hx := am_inj hf
                    subst hx
                    exact r_lret dX9_ends_141 rfl (le_b rfl) (le_b rfl)
              · have hf := (am_if hf).2 hc
                refine r_ldc2 (v := -9223372036854775808) dX9_ends_39 cc_X9_218 ?_
                have hx := am_inj hf
                subst hx
                exact r_lret dX9_ends_42 rfl (le_b rfl) (le_b rfl)
/-! FireFromFire.lasts -/
theorem dX9_lasts_0 : decode cX9_lasts 0 = .ok (.aload_n 0, 1) := by decide +kernel
theorem dX9_lasts_1 : decode cX9_lasts 1 = .ok (.getfield 21, 3) := by decide +kernel
theorem dX9_lasts_4 : decode cX9_lasts 4 = .ok (.aload_n 0, 1) := by decide +kernel
theorem dX9_lasts_5 : decode cX9_lasts 5 = .ok (.getfield 14, 3) := by decide +kernel
theorem dX9_lasts_8 : decode cX9_lasts 8 = .ok (.invokevirtual 240, 3) := by decide +kernel
theorem dX9_lasts_11 : decode cX9_lasts 11 = .ok (.iconst 0, 1) := by decide +kernel
theorem dX9_lasts_12 : decode cX9_lasts 12 = .ok (.istore_n 1, 1) := by decide +kernel
theorem dX9_lasts_13 : decode cX9_lasts 13 = .ok (.iload_n 1, 1) := by decide +kernel
theorem dX9_lasts_14 : decode cX9_lasts 14 = .ok (.sipush 200, 3) := by decide +kernel
theorem dX9_lasts_17 : decode cX9_lasts 17 = .ok (.if_icmp .gt 40, 3) := by decide +kernel
theorem dX9_lasts_20 : decode cX9_lasts 20 = .ok (.aload_n 0, 1) := by decide +kernel
theorem dX9_lasts_21 : decode cX9_lasts 21 = .ok (.getfield 21, 3) := by decide +kernel
theorem dX9_lasts_24 : decode cX9_lasts 24 = .ok (.invokevirtual 243, 3) := by decide +kernel
theorem dX9_lasts_27 : decode cX9_lasts 27 = .ok (.ifCond .ne 5, 3) := by decide +kernel
theorem dX9_lasts_30 : decode cX9_lasts 30 = .ok (.iload_n 1, 1) := by decide +kernel
theorem dX9_lasts_31 : decode cX9_lasts 31 = .ok (.ireturn, 1) := by decide +kernel
theorem dX9_lasts_32 : decode cX9_lasts 32 = .ok (.aload_n 0, 1) := by decide +kernel
theorem dX9_lasts_33 : decode cX9_lasts 33 = .ok (.getfield 48, 3) := by decide +kernel
theorem dX9_lasts_36 : decode cX9_lasts 36 = .ok (.aload_n 0, 1) := by decide +kernel
theorem dX9_lasts_37 : decode cX9_lasts 37 = .ok (.getfield 21, 3) := by decide +kernel
theorem dX9_lasts_40 : decode cX9_lasts 40 = .ok (.aload_n 0, 1) := by decide +kernel
theorem dX9_lasts_41 : decode cX9_lasts 41 = .ok (.getfield 14, 3) := by decide +kernel
theorem dX9_lasts_44 : decode cX9_lasts 44 = .ok (.getfield 208, 3) := by decide +kernel
theorem dX9_lasts_47 : decode cX9_lasts 47 = .ok (.iconst 0, 1) := by decide +kernel
theorem dX9_lasts_48 : decode cX9_lasts 48 = .ok (.invokevirtual 172, 3) := by decide +kernel
theorem dX9_lasts_51 : decode cX9_lasts 51 = .ok (.iinc 1 1, 3) := by decide +kernel
theorem dX9_lasts_54 : decode cX9_lasts 54 = .ok (.goto (-41), 3) := by decide +kernel
theorem dX9_lasts_57 : decode cX9_lasts 57 = .ok (.bipush (-5), 2) := by decide +kernel
theorem dX9_lasts_59 : decode cX9_lasts 59 = .ok (.ireturn, 1) := by decide +kernel
def f_X9_lasts_L13   : Int32 × PM → Option ((Int32 × PM) ⊕ ((Int32 × PM) ⊕ (PM))) := fun (x1 , u) =>
  if (200 : Int32) < x1 then
    some (.inr (.inr (u)))
  else
  (f_X8_litCount 2 u).bind fun r3 =>
  if r3 = 0 then
    some (.inr (.inl (x1, u)))
  else
  (f_X1_pass 2 (u.1 (1, 0, 0) 3) (0 : Int32) u).bind fun r5 =>
  some (.inl (x1 + (1 : Int32), r5))
set_option maxHeartbeats 4000000 in
set_option maxRecDepth 20000 in
theorem K_X9_lasts_L13 {l : Launch} {T : Option AV × List Key × AM}   : ∀ (n : Nat) (s : Int32 × PM) (e0 : (Int32 × PM) ⊕ (PM)), am_loop (f_X9_lasts_L13) n s = some e0 → Sum.elim (fun r : Int32 × PM => T = (some (vI r.1), kC, en r.2)) (fun e : PM => X l mX9_lasts 7 0 0 false T kC 0 0 57 [none, none] [] (en e)) e0 → X l mX9_lasts 7 0 0 false T kC 0 0 13 [some (vR (0, 0, 0)), some (vI s.1)] [] (en s.2) := by
  refine am_loop_of ?_
  intro s x hf k1 k2
  obtain ⟨x1 , u⟩ := s
  unfold f_X9_lasts_L13 at hf
  show X l mX9_lasts 7 0 0 false T kC 0 0 13 [some (vR (0, 0, 0)), some (vI x1)] [] (en u)
  refine r_iload_n (x := x1) dX9_lasts_13 rfl ?_
  refine r_sipush (v := 200) dX9_lasts_14 rfl ?_
  refine r_icmp_gt (tgt := 57) dX9_lasts_17 (by decide) (fun hc => ?_) (fun hc => ?_)
  · have hf := (am_if hf).1 hc
    refine r_weak (L' := [none, none]) trivial ?_
    exact k2 (.inr (u)) (am_inj hf).symm
  · have hf := (am_if hf).2 hc
    refine r_aload_n (x := (0, 0, 0)) dX9_lasts_20 rfl ?_
    refine e_getr (z := some (1, 2, 0)) fw_X9_21 dX9_lasts_21 (kC_mem (s := 0) (by decide) (by decide) (by decide)) rfl (lt_b rfl) rfl ?_
    obtain ⟨r3, hr4, hf⟩ := am_bind hf
    refine r_callV (as := []) (st := []) (n := 0) mw_X9_243 mv_X8_litCount (C_X8_litCount (l := l) (by decide) hr4) (le_b rfl) dX9_lasts_24 (kC_mem (s := 1) (by decide) (by decide) (by decide)) rfl rfl rfl (le_b rfl) (le_b rfl) (le_b rfl) ?_
    show X l _ _ 0 0 false _ kC 0 0 27 [some (vR (0, 0, 0)), some (vI x1)] [vI r3] (en u)
    refine r_if_ne (tgt := 32) dX9_lasts_27 (by decide) (fun hc => ?_) (fun hc => ?_)
    · have hf := (am_if hf).2 hc
      refine r_aload_n (x := (0, 0, 0)) dX9_lasts_32 rfl ?_
      refine e_getr (z := some (20, 0, 0)) fw_X9_48 dX9_lasts_33 (kC_mem (s := 0) (by decide) (by decide) (by decide)) rfl (lt_b rfl) rfl ?_
      refine r_aload_n (x := (0, 0, 0)) dX9_lasts_36 rfl ?_
      refine e_getr (z := some (1, 2, 0)) fw_X9_21 dX9_lasts_37 (kC_mem (s := 0) (by decide) (by decide) (by decide)) rfl (lt_b rfl) rfl ?_
      refine r_aload_n (x := (0, 0, 0)) dX9_lasts_40 rfl ?_
      refine e_getr (z := some (1, 0, 0)) fw_X9_14 dX9_lasts_41 (kC_mem (s := 0) (by decide) (by decide) (by decide)) rfl (lt_b rfl) rfl ?_
      refine e_geti fw_X9_208 dX9_lasts_44 (kC_mem (s := 1) (by decide) (by decide) (by decide)) rfl (lt_b rfl) ?_
      refine r_iconst (v := 0) dX9_lasts_47 rfl ?_
      obtain ⟨r5, hr6, hf⟩ := am_bind hf
      refine r_callV (as := [vR (1, 2, 0), vI (u.1 (1, 0, 0) 3), vI (0 : Int32)]) (st := []) (n := 3) mw_X9_172 mv_X1_pass (C_X1_pass (l := l) (by decide) hr6) (le_b rfl) dX9_lasts_48 (kC_mem (s := 20) (by decide) (by decide) (by decide)) rfl rfl rfl (le_b rfl) (le_b rfl) (le_b rfl) ?_
      show X l _ _ 0 0 false _ kC 0 0 51 [some (vR (0, 0, 0)), some (vI x1)] [] (en r5)
      refine r_iinc (x := x1) (v := x1 + (1 : Int32)) (L' := [some (vR (0, 0, 0)), some (vI (x1 + (1 : Int32)))]) dX9_lasts_51 rfl rfl (lt_b rfl) rfl ?_
      refine r_goto (tgt := 13) dX9_lasts_54 (by decide) ?_
      refine r_weak (L' := [some (vR (0, 0, 0)), some (vI (x1 + (1 : Int32)))]) (And.intro rfl (And.intro rfl trivial)) ?_
      exact k1 (x1 + (1 : Int32), r5) (am_inj hf).symm
    · have hf := (am_if hf).1 hc
      refine r_iload_n (x := x1) dX9_lasts_30 rfl ?_
      have hT := k2 _ (am_inj hf).symm
      replace hT : T = (some (vI x1), kC, en u) := hT
      subst hT
      exact r_iret dX9_lasts_31 rfl rfl (le_b rfl) (le_b rfl)
def f_X9_lasts   (u : PM) : Option (Int32 × PM) :=
  (f_X8_copy 2 0 u).bind fun r1 =>
  (am_loop (f_X9_lasts_L13) 2000 ((0 : Int32), r1)).bind fun e7 =>
  match e7 with
  | .inl q10 => some q10
  | .inr u9 =>
    some ((-5 : Int32), u9)
set_option maxHeartbeats 4000000 in
set_option maxRecDepth 20000 in
theorem C_X9_lasts {l : Launch}   {u : PM} {x : Int32 × PM} (hf : f_X9_lasts u = some x) : Ev l mX9_lasts 7 0 0 false [vR (0, 0, 0)] kC (en u) (some (vI x.1), kC, en x.2) := by
  refine Ev_of (by decide +kernel) (le_b rfl) ?_
  unfold f_X9_lasts at hf
  show X l mX9_lasts 7 0 0 false _ kC 0 0 0 [some (vR (0, 0, 0)), none] [] (en u)
  refine r_aload_n (x := (0, 0, 0)) dX9_lasts_0 rfl ?_
  refine e_getr (z := some (1, 2, 0)) fw_X9_21 dX9_lasts_1 (kC_mem (s := 0) (by decide) (by decide) (by decide)) rfl (lt_b rfl) rfl ?_
  refine r_aload_n (x := (0, 0, 0)) dX9_lasts_4 rfl ?_
  refine e_getr (z := some (1, 0, 0)) fw_X9_14 dX9_lasts_5 (kC_mem (s := 0) (by decide) (by decide) (by decide)) rfl (lt_b rfl) rfl ?_
  obtain ⟨r1, hr2, hf⟩ := am_bind hf
  refine r_callV (as := [vR (1, 0, 0)]) (st := []) (n := 1) mw_X9_240 mv_X8_copy (C_X8_copy (l := l) (by decide) (by decide) hr2) (le_b rfl) dX9_lasts_8 (kC_mem (s := 1) (by decide) (by decide) (by decide)) rfl rfl rfl (le_b rfl) (le_b rfl) (le_b rfl) ?_
  show X l _ _ 0 0 false _ kC 0 0 11 [some (vR (0, 0, 0)), none] [] (en r1)
  refine r_iconst (v := 0) dX9_lasts_11 rfl ?_
  refine r_istore_n (L' := [some (vR (0, 0, 0)), some (vI (0 : Int32))]) dX9_lasts_12 (by decide) rfl ?_
  refine r_weak (L' := [some (vR (0, 0, 0)), some (vI (0 : Int32))]) (And.intro rfl (And.intro rfl trivial)) ?_
  obtain ⟨e7, he8, hf⟩ := am_bind hf
  refine K_X9_lasts_L13  2000 ((0 : Int32), r1) _ he8 ?_
  rcases e7 with q10 | e7
  · have hx := am_inj hf
    subst hx
    rfl
  · obtain ⟨u9, rfl⟩ : ∃ z, z = e7 := ⟨_, rfl⟩
    show X l _ _ 0 0 false _ kC 0 0 57 [none, none] [] (en u9)
    refine r_bipush (v := -5) dX9_lasts_57 rfl ?_
    have hx := am_inj hf
    subst hx
    exact r_iret dX9_lasts_59 rfl rfl (le_b rfl) (le_b rfl)
/-! FireFromFire.match -/
theorem dX9_match_0 : decode cX9_match 0 = .ok (.aload_n 0, 1) := by decide +kernel
theorem dX9_match_1 : decode cX9_match 1 = .ok (.getfield 14, 3) := by decide +kernel
theorem dX9_match_4 : decode cX9_match 4 = .ok (.iload_n 1, 1) := by decide +kernel
theorem dX9_match_5 : decode cX9_match 5 = .ok (.invokevirtual 94, 3) := by decide +kernel
theorem dX9_match_8 : decode cX9_match 8 = .ok (.ifnonnull 6, 3) := by decide +kernel
theorem dX9_match_11 : decode cX9_match 11 = .ok (.ldc 246, 2) := by decide +kernel
theorem dX9_match_13 : decode cX9_match 13 = .ok (.ireturn, 1) := by decide +kernel
theorem dX9_match_14 : decode cX9_match 14 = .ok (.iload_n 2, 1) := by decide +kernel
theorem dX9_match_15 : decode cX9_match 15 = .ok (.iconst 1, 1) := by decide +kernel
theorem dX9_match_16 : decode cX9_match 16 = .ok (.if_icmp .lt 9, 3) := by decide +kernel
theorem dX9_match_19 : decode cX9_match 19 = .ok (.iload_n 2, 1) := by decide +kernel
theorem dX9_match_20 : decode cX9_match 20 = .ok (.bipush 48, 2) := by decide +kernel
theorem dX9_match_22 : decode cX9_match 22 = .ok (.if_icmp .le 6, 3) := by decide +kernel
theorem dX9_match_25 : decode cX9_match 25 = .ok (.ldc 247, 2) := by decide +kernel
theorem dX9_match_27 : decode cX9_match 27 = .ok (.ireturn, 1) := by decide +kernel
theorem dX9_match_28 : decode cX9_match 28 = .ok (.aload_n 0, 1) := by decide +kernel
theorem dX9_match_29 : decode cX9_match 29 = .ok (.getfield 48, 3) := by decide +kernel
theorem dX9_match_32 : decode cX9_match 32 = .ok (.aload_n 0, 1) := by decide +kernel
theorem dX9_match_33 : decode cX9_match 33 = .ok (.getfield 14, 3) := by decide +kernel
theorem dX9_match_36 : decode cX9_match 36 = .ok (.aload_n 0, 1) := by decide +kernel
theorem dX9_match_37 : decode cX9_match 37 = .ok (.getfield 21, 3) := by decide +kernel
theorem dX9_match_40 : decode cX9_match 40 = .ok (.iload_n 1, 1) := by decide +kernel
theorem dX9_match_41 : decode cX9_match 41 = .ok (.iload_n 2, 1) := by decide +kernel
theorem dX9_match_42 : decode cX9_match 42 = .ok (.invokevirtual 248, 3) := by decide +kernel
theorem dX9_match_45 : decode cX9_match 45 = .ok (.ireturn, 1) := by decide +kernel
def f_X9_match  (a0 : Int32) (a1 : Int32) (u : PM) : Option (Int32 × PM) :=
  (f_X8_find 0 a0 u).bind fun r1 =>
  match r1 with
  | none =>
    some ((-100001 : Int32), u)
  | some p3 =>
    if p3 < 6 then
      if a1 < (1 : Int32) then
        some ((-100002 : Int32), u)
      else
      if a1 ≤ (48 : Int32) then
        (f_X1_gain 0 2 a0 a1 u).bind fun (r5, u7) =>
        some (r5, u7)
      else
      some ((-100002 : Int32), u)
    else none
set_option maxHeartbeats 4000000 in
set_option maxRecDepth 20000 in
theorem C_X9_match {l : Launch}  {a0 : Int32} {a1 : Int32} {u : PM} {x : Int32 × PM} (hf : f_X9_match a0 a1 u = some x) : Ev l mX9_match 8 0 0 false [vR (0, 0, 0), vI a0, vI a1] kC (en u) (some (vI x.1), kC, en x.2) := by
  refine Ev_of (by decide +kernel) (le_b rfl) ?_
  unfold f_X9_match at hf
  show X l mX9_match 8 0 0 false _ kC 0 0 0 [some (vR (0, 0, 0)), some (vI a0), some (vI a1)] [] (en u)
  refine r_aload_n (x := (0, 0, 0)) dX9_match_0 rfl ?_
  refine e_getr (z := some (1, 0, 0)) fw_X9_14 dX9_match_1 (kC_mem (s := 0) (by decide) (by decide) (by decide)) rfl (lt_b rfl) rfl ?_
  refine r_iload_n (x := a0) dX9_match_4 rfl ?_
  obtain ⟨r1, hr2, hf⟩ := am_bind hf
  refine r_callV (as := [vI a0]) (st := []) (n := 1) mw_X9_94 mv_X8_find (C_X8_find (l := l) (by decide) hr2) (le_b rfl) dX9_match_5 (kC_mem (s := 1) (by decide) (by decide) (by decide)) rfl rfl rfl (le_b rfl) (le_b rfl) (le_b rfl) ?_
  cases r1 with
  | none =>
    show X l _ _ 0 0 false _ kC 0 0 8 [some (vR (0, 0, 0)), some (vI a0), some (vI a1)] [vN] (en u)
    refine r_ifnonnullN dX9_match_8 ?_
    refine r_ldc (v := -100001) dX9_match_11 cc_X9_246 ?_
    have hx := am_inj hf
    subst hx
    exact r_iret dX9_match_13 rfl rfl (le_b rfl) (le_b rfl)
  | some p3 =>
    obtain ⟨h4, hf⟩ := am_chk hf
    show X l _ _ 0 0 false _ kC 0 0 8 [some (vR (0, 0, 0)), some (vI a0), some (vI a1)] [vR (3, 0, p3)] (en u)
    refine r_ifnonnullR (tgt := 14) dX9_match_8 (by decide) ?_
    refine r_iload_n (x := a1) dX9_match_14 rfl ?_
    refine r_iconst (v := 1) dX9_match_15 rfl ?_
    refine r_icmp_lt (tgt := 25) dX9_match_16 (by decide) (fun hc => ?_) (fun hc => ?_)
    · have hf := (am_if hf).1 hc
      refine r_ldc (v := -100002) dX9_match_25 cc_X9_247 ?_
      have hx := am_inj hf
      subst hx
      exact r_iret dX9_match_27 rfl rfl (le_b rfl) (le_b rfl)
    · have hf := (am_if hf).2 hc
      refine r_iload_n (x := a1) dX9_match_19 rfl ?_
      refine r_bipush (v := 48) dX9_match_20 rfl ?_
      refine r_icmp_le (tgt := 28) dX9_match_22 (by decide) (fun hc => ?_) (fun hc => ?_)
      · have hf := (am_if hf).1 hc
        refine r_aload_n (x := (0, 0, 0)) dX9_match_28 rfl ?_
        refine e_getr (z := some (20, 0, 0)) fw_X9_48 dX9_match_29 (kC_mem (s := 0) (by decide) (by decide) (by decide)) rfl (lt_b rfl) rfl ?_
        refine r_aload_n (x := (0, 0, 0)) dX9_match_32 rfl ?_
        refine e_getr (z := some (1, 0, 0)) fw_X9_14 dX9_match_33 (kC_mem (s := 0) (by decide) (by decide) (by decide)) rfl (lt_b rfl) rfl ?_
        refine r_aload_n (x := (0, 0, 0)) dX9_match_36 rfl ?_
        refine e_getr (z := some (1, 2, 0)) fw_X9_21 dX9_match_37 (kC_mem (s := 0) (by decide) (by decide) (by decide)) rfl (lt_b rfl) rfl ?_
        refine r_iload_n (x := a0) dX9_match_40 rfl ?_
        refine r_iload_n (x := a1) dX9_match_41 rfl ?_
        obtain ⟨⟨r5, u7⟩, hr6, hf⟩ := am_bind hf
        refine r_callV (as := [vR (1, 0, 0), vR (1, 2, 0), vI a0, vI a1]) (st := []) (n := 4) mw_X9_248 mv_X1_gain (C_X1_gain (l := l) (by decide) (by decide) hr6) (le_b rfl) dX9_match_42 (kC_mem (s := 20) (by decide) (by decide) (by decide)) rfl rfl rfl (le_b rfl) (le_b rfl) (le_b rfl) ?_
        show X l _ _ 0 0 false _ kC 0 0 45 [some (vR (0, 0, 0)), some (vI a0), some (vI a1)] [vI r5] (en u7)
        have hx := am_inj hf
        subst hx
        exact r_iret dX9_match_45 rfl rfl (le_b rfl) (le_b rfl)
      · have hf := (am_if hf).2 hc
        refine r_ldc (v := -100002) dX9_match_25 cc_X9_247 ?_
        have hx := am_inj hf
        subst hx
        exact r_iret dX9_match_27 rfl rfl (le_b rfl) (le_b rfl)
/-! FireFromFire.asked -/
theorem dX9_asked_0 : decode cX9_asked 0 = .ok (.aload_n 0, 1) := by decide +kernel
theorem dX9_asked_1 : decode cX9_asked 1 = .ok (.getfield 14, 3) := by decide +kernel
theorem dX9_asked_4 : decode cX9_asked 4 = .ok (.iload_n 1, 1) := by decide +kernel
theorem dX9_asked_5 : decode cX9_asked 5 = .ok (.invokevirtual 94, 3) := by decide +kernel
theorem dX9_asked_8 : decode cX9_asked 8 = .ok (.astore_n 2, 1) := by decide +kernel
theorem dX9_asked_9 : decode cX9_asked 9 = .ok (.aload_n 2, 1) := by decide +kernel
theorem dX9_asked_10 : decode cX9_asked 10 = .ok (.ifnonnull 5, 3) := by decide +kernel
theorem dX9_asked_13 : decode cX9_asked 13 = .ok (.iconst (-1), 1) := by decide +kernel
theorem dX9_asked_14 : decode cX9_asked 14 = .ok (.ireturn, 1) := by decide +kernel
theorem dX9_asked_15 : decode cX9_asked 15 = .ok (.aload_n 2, 1) := by decide +kernel
theorem dX9_asked_16 : decode cX9_asked 16 = .ok (.getfield 101, 3) := by decide +kernel
theorem dX9_asked_19 : decode cX9_asked 19 = .ok (.ifCond .ne 6, 3) := by decide +kernel
theorem dX9_asked_22 : decode cX9_asked 22 = .ok (.bipush (-3), 2) := by decide +kernel
theorem dX9_asked_24 : decode cX9_asked 24 = .ok (.ireturn, 1) := by decide +kernel
theorem dX9_asked_25 : decode cX9_asked 25 = .ok (.iconst 0, 1) := by decide +kernel
theorem dX9_asked_26 : decode cX9_asked 26 = .ok (.istore_n 3, 1) := by decide +kernel
theorem dX9_asked_27 : decode cX9_asked 27 = .ok (.iconst 0, 1) := by decide +kernel
theorem dX9_asked_28 : decode cX9_asked 28 = .ok (.istore 4, 2) := by decide +kernel
theorem dX9_asked_30 : decode cX9_asked 30 = .ok (.iload 4, 2) := by decide +kernel
theorem dX9_asked_32 : decode cX9_asked 32 = .ok (.aload_n 0, 1) := by decide +kernel
theorem dX9_asked_33 : decode cX9_asked 33 = .ok (.getfield 14, 3) := by decide +kernel
theorem dX9_asked_36 : decode cX9_asked 36 = .ok (.getfield 81, 3) := by decide +kernel
theorem dX9_asked_39 : decode cX9_asked 39 = .ok (.if_icmp .ge 70, 3) := by decide +kernel
theorem dX9_asked_42 : decode cX9_asked 42 = .ok (.aload_n 0, 1) := by decide +kernel
theorem dX9_asked_43 : decode cX9_asked 43 = .ok (.getfield 14, 3) := by decide +kernel
theorem dX9_asked_46 : decode cX9_asked 46 = .ok (.iload 4, 2) := by decide +kernel
theorem dX9_asked_48 : decode cX9_asked 48 = .ok (.invokevirtual 94, 3) := by decide +kernel
theorem dX9_asked_51 : decode cX9_asked 51 = .ok (.astore 5, 2) := by decide +kernel
theorem dX9_asked_53 : decode cX9_asked 53 = .ok (.aload 5, 2) := by decide +kernel
theorem dX9_asked_55 : decode cX9_asked 55 = .ok (.ifnull 48, 3) := by decide +kernel
theorem dX9_asked_58 : decode cX9_asked 58 = .ok (.aload 5, 2) := by decide +kernel
theorem dX9_asked_60 : decode cX9_asked 60 = .ok (.getfield 101, 3) := by decide +kernel
theorem dX9_asked_63 : decode cX9_asked 63 = .ok (.ifCond .ne 40, 3) := by decide +kernel
theorem dX9_asked_66 : decode cX9_asked 66 = .ok (.aload_n 0, 1) := by decide +kernel
theorem dX9_asked_67 : decode cX9_asked 67 = .ok (.getfield 14, 3) := by decide +kernel
theorem dX9_asked_70 : decode cX9_asked 70 = .ok (.iload 4, 2) := by decide +kernel
theorem dX9_asked_72 : decode cX9_asked 72 = .ok (.invokevirtual 252, 3) := by decide +kernel
theorem dX9_asked_75 : decode cX9_asked 75 = .ok (.iload_n 1, 1) := by decide +kernel
theorem dX9_asked_76 : decode cX9_asked 76 = .ok (.if_icmp .ne 27, 3) := by decide +kernel
theorem dX9_asked_79 : decode cX9_asked 79 = .ok (.iload_n 3, 1) := by decide +kernel
theorem dX9_asked_80 : decode cX9_asked 80 = .ok (.aload_n 0, 1) := by decide +kernel
theorem dX9_asked_81 : decode cX9_asked 81 = .ok (.getfield 48, 3) := by decide +kernel
theorem dX9_asked_84 : decode cX9_asked 84 = .ok (.aload_n 0, 1) := by decide +kernel
theorem dX9_asked_85 : decode cX9_asked 85 = .ok (.getfield 14, 3) := by decide +kernel
theorem dX9_asked_88 : decode cX9_asked 88 = .ok (.aload_n 0, 1) := by decide +kernel
theorem dX9_asked_89 : decode cX9_asked 89 = .ok (.getfield 21, 3) := by decide +kernel
theorem dX9_asked_92 : decode cX9_asked 92 = .ok (.iload 4, 2) := by decide +kernel
theorem dX9_asked_94 : decode cX9_asked 94 = .ok (.bipush 24, 2) := by decide +kernel
theorem dX9_asked_96 : decode cX9_asked 96 = .ok (.invokevirtual 248, 3) := by decide +kernel
theorem dX9_asked_99 : decode cX9_asked 99 = .ok (.invokestatic 255, 3) := by decide +kernel
theorem dX9_asked_102 : decode cX9_asked 102 = .ok (.istore_n 3, 1) := by decide +kernel
theorem dX9_asked_103 : decode cX9_asked 103 = .ok (.iinc 4 1, 3) := by decide +kernel
theorem dX9_asked_106 : decode cX9_asked 106 = .ok (.goto (-76), 3) := by decide +kernel
theorem dX9_asked_109 : decode cX9_asked 109 = .ok (.iload_n 3, 1) := by decide +kernel
theorem dX9_asked_110 : decode cX9_asked 110 = .ok (.bipush 99, 2) := by decide +kernel
theorem dX9_asked_112 : decode cX9_asked 112 = .ok (.invokestatic 260, 3) := by decide +kernel
theorem dX9_asked_115 : decode cX9_asked 115 = .ok (.ireturn, 1) := by decide +kernel
def f_X9_asked_L30  (c1 : Int32) : Int32 × Int32 × PM → Option ((Int32 × Int32 × PM) ⊕ (Int32 × PM)) := fun (x3 , x4 , u) =>
  if (u.1 (1, 0, 0) 0) ≤ x4 then
    some (.inr (x3, u))
  else
  (f_X8_find 0 x4 u).bind fun r5 =>
  match r5 with
  | none =>
    some (.inl (x3, x4 + (1 : Int32), u))
  | some p7 =>
    if p7 < 6 then
      if (u.1 (3, 0, p7) 1) = 0 then
        (f_X8_nearestFire 0 x4 u).bind fun r9 =>
        if r9 = c1 then
          (f_X1_gain 0 2 x4 (24 : Int32) u).bind fun (r11, u13) =>
          some (.inl ((if x3 < r11 then r11 else x3), x4 + (1 : Int32), u13))
        else
        some (.inl (x3, x4 + (1 : Int32), u))
      else
      some (.inl (x3, x4 + (1 : Int32), u))
    else none
set_option maxHeartbeats 4000000 in
set_option maxRecDepth 20000 in
theorem K_X9_asked_L30 {l : Launch} {T : Option AV × List Key × AM}  {c1 : Int32} : ∀ (n : Nat) (s : Int32 × Int32 × PM) (e0 : Int32 × PM), am_loop (f_X9_asked_L30 c1) n s = some e0 → (fun e : Int32 × PM => X l mX9_asked 8 0 0 false T kC 0 0 109 [none, none, none, some (vI e.1), none, none] [] (en e.2)) e0 → X l mX9_asked 8 0 0 false T kC 0 0 30 [some (vR (0, 0, 0)), some (vI c1), none, some (vI s.1), some (vI s.2.1), none] [] (en s.2.2) := by
  refine am_loop_of ?_
  intro s x hf k1 k2
  obtain ⟨x3 , x4 , u⟩ := s
  unfold f_X9_asked_L30 at hf
  show X l mX9_asked 8 0 0 false T kC 0 0 30 [some (vR (0, 0, 0)), some (vI c1), none, some (vI x3), some (vI x4), none] [] (en u)
  refine r_iload (x := x4) dX9_asked_30 rfl ?_
  refine r_aload_n (x := (0, 0, 0)) dX9_asked_32 rfl ?_
  refine e_getr (z := some (1, 0, 0)) fw_X9_14 dX9_asked_33 (kC_mem (s := 0) (by decide) (by decide) (by decide)) rfl (lt_b rfl) rfl ?_
  refine e_geti fw_X9_81 dX9_asked_36 (kC_mem (s := 1) (by decide) (by decide) (by decide)) rfl (lt_b rfl) ?_
  refine r_icmp_ge (tgt := 109) dX9_asked_39 (by decide) (fun hc => ?_) (fun hc => ?_)
  · have hf := (am_if hf).1 hc
    refine r_weak (L' := [none, none, none, some (vI x3), none, none]) (And.intro rfl trivial) ?_
    exact k2 (x3, u) (am_inj hf).symm
  · have hf := (am_if hf).2 hc
    refine r_aload_n (x := (0, 0, 0)) dX9_asked_42 rfl ?_
    refine e_getr (z := some (1, 0, 0)) fw_X9_14 dX9_asked_43 (kC_mem (s := 0) (by decide) (by decide) (by decide)) rfl (lt_b rfl) rfl ?_
    refine r_iload (x := x4) dX9_asked_46 rfl ?_
    obtain ⟨r5, hr6, hf⟩ := am_bind hf
    refine r_callV (as := [vI x4]) (st := []) (n := 1) mw_X9_94 mv_X8_find (C_X8_find (l := l) (by decide) hr6) (le_b rfl) dX9_asked_48 (kC_mem (s := 1) (by decide) (by decide) (by decide)) rfl rfl rfl (le_b rfl) (le_b rfl) (le_b rfl) ?_
    cases r5 with
    | none =>
      show X l _ _ 0 0 false _ kC 0 0 51 [some (vR (0, 0, 0)), some (vI c1), none, some (vI x3), some (vI x4), none] [vN] (en u)
      refine r_astoreN (L' := [some (vR (0, 0, 0)), some (vI c1), none, some (vI x3), some (vI x4), some (vN)]) dX9_asked_51 (by decide) rfl ?_
      refine r_aloadN dX9_asked_53 rfl ?_
      refine r_ifnullN (tgt := 103) dX9_asked_55 (by decide) ?_
      refine r_iinc (x := x4) (v := x4 + (1 : Int32)) (L' := [some (vR (0, 0, 0)), some (vI c1), none, some (vI x3), some (vI (x4 + (1 : Int32))), some (vN)]) dX9_asked_103 rfl rfl (lt_b rfl) rfl ?_
      refine r_goto (tgt := 30) dX9_asked_106 (by decide) ?_
      refine r_weak (L' := [some (vR (0, 0, 0)), some (vI c1), none, some (vI x3), some (vI (x4 + (1 : Int32))), none]) (And.intro rfl (And.intro rfl (And.intro rfl (And.intro rfl trivial)))) ?_
      exact k1 (x3, x4 + (1 : Int32), u) (am_inj hf).symm
    | some p7 =>
      obtain ⟨h8, hf⟩ := am_chk hf
      show X l _ _ 0 0 false _ kC 0 0 51 [some (vR (0, 0, 0)), some (vI c1), none, some (vI x3), some (vI x4), none] [vR (3, 0, p7)] (en u)
      refine r_astore (L' := [some (vR (0, 0, 0)), some (vI c1), none, some (vI x3), some (vI x4), some (vR (3, 0, p7))]) dX9_asked_51 (by decide) rfl ?_
      refine r_aload (x := (3, 0, p7)) dX9_asked_53 rfl ?_
      refine r_ifnullR dX9_asked_55 ?_
      refine r_aload (x := (3, 0, p7)) dX9_asked_58 rfl ?_
      refine e_geti fw_X9_101 dX9_asked_60 (kC_mem (s := 3) (by decide) (by decide) h8) rfl (lt_b rfl) ?_
      refine r_if_ne (tgt := 103) dX9_asked_63 (by decide) (fun hc => ?_) (fun hc => ?_)
      · have hf := (am_if hf).2 hc
        refine r_iinc (x := x4) (v := x4 + (1 : Int32)) (L' := [some (vR (0, 0, 0)), some (vI c1), none, some (vI x3), some (vI (x4 + (1 : Int32))), some (vR (3, 0, p7))]) dX9_asked_103 rfl rfl (lt_b rfl) rfl ?_
        refine r_goto (tgt := 30) dX9_asked_106 (by decide) ?_
        refine r_weak (L' := [some (vR (0, 0, 0)), some (vI c1), none, some (vI x3), some (vI (x4 + (1 : Int32))), none]) (And.intro rfl (And.intro rfl (And.intro rfl (And.intro rfl trivial)))) ?_
        exact k1 (x3, x4 + (1 : Int32), u) (am_inj hf).symm
      · have hf := (am_if hf).1 hc
        refine r_aload_n (x := (0, 0, 0)) dX9_asked_66 rfl ?_
        refine e_getr (z := some (1, 0, 0)) fw_X9_14 dX9_asked_67 (kC_mem (s := 0) (by decide) (by decide) (by decide)) rfl (lt_b rfl) rfl ?_
        refine r_iload (x := x4) dX9_asked_70 rfl ?_
        obtain ⟨r9, hr10, hf⟩ := am_bind hf
        refine r_callV (as := [vI x4]) (st := []) (n := 1) mw_X9_252 mv_X8_nearestFire (C_X8_nearestFire (l := l) (by decide) hr10) (le_b rfl) dX9_asked_72 (kC_mem (s := 1) (by decide) (by decide) (by decide)) rfl rfl rfl (le_b rfl) (le_b rfl) (le_b rfl) ?_
        show X l _ _ 0 0 false _ kC 0 0 75 [some (vR (0, 0, 0)), some (vI c1), none, some (vI x3), some (vI x4), some (vR (3, 0, p7))] [vI r9] (en u)
        refine r_iload_n (x := c1) dX9_asked_75 rfl ?_
        refine r_icmp_ne (tgt := 103) dX9_asked_76 (by decide) (fun hc => ?_) (fun hc => ?_)
        · have hf := (am_if hf).2 hc
          refine r_iinc (x := x4) (v := x4 + (1 : Int32)) (L' := [some (vR (0, 0, 0)), some (vI c1), none, some (vI x3), some (vI (x4 + (1 : Int32))), some (vR (3, 0, p7))]) dX9_asked_103 rfl rfl (lt_b rfl) rfl ?_
          refine r_goto (tgt := 30) dX9_asked_106 (by decide) ?_
          refine r_weak (L' := [some (vR (0, 0, 0)), some (vI c1), none, some (vI x3), some (vI (x4 + (1 : Int32))), none]) (And.intro rfl (And.intro rfl (And.intro rfl (And.intro rfl trivial)))) ?_
          exact k1 (x3, x4 + (1 : Int32), u) (am_inj hf).symm
        · have hf := (am_if hf).1 hc
          refine r_iload_n (x := x3) dX9_asked_79 rfl ?_
          refine r_aload_n (x := (0, 0, 0)) dX9_asked_80 rfl ?_
          refine e_getr (z := some (20, 0, 0)) fw_X9_48 dX9_asked_81 (kC_mem (s := 0) (by decide) (by decide) (by decide)) rfl (lt_b rfl) rfl ?_
          refine r_aload_n (x := (0, 0, 0)) dX9_asked_84 rfl ?_
          refine e_getr (z := some (1, 0, 0)) fw_X9_14 dX9_asked_85 (kC_mem (s := 0) (by decide) (by decide) (by decide)) rfl (lt_b rfl) rfl ?_
          refine r_aload_n (x := (0, 0, 0)) dX9_asked_88 rfl ?_
          refine e_getr (z := some (1, 2, 0)) fw_X9_21 dX9_asked_89 (kC_mem (s := 0) (by decide) (by decide) (by decide)) rfl (lt_b rfl) rfl ?_
          refine r_iload (x := x4) dX9_asked_92 rfl ?_
          refine r_bipush (v := 24) dX9_asked_94 rfl ?_
          obtain ⟨⟨r11, u13⟩, hr12, hf⟩ := am_bind hf
          refine r_callV (as := [vR (1, 0, 0), vR (1, 2, 0), vI x4, vI (24 : Int32)]) (st := [vI x3]) (n := 4) mw_X9_248 mv_X1_gain (C_X1_gain (l := l) (by decide) (by decide) hr12) (le_b rfl) dX9_asked_96 (kC_mem (s := 20) (by decide) (by decide) (by decide)) rfl rfl rfl (le_b rfl) (le_b rfl) (le_b rfl) ?_
          show X l _ _ 0 0 false _ kC 0 0 99 [some (vR (0, 0, 0)), some (vI c1), none, some (vI x3), some (vI x4), some (vR (3, 0, p7))] [vI r11, vI x3] (en u13)
          refine r_mmax jm_X9_255 js_max.1 js_max.2.1 js_max.2.2 dX9_asked_99 (le_b rfl) (le_b rfl) (le_b rfl) (le_b rfl) ?_
          refine r_istore_n (L' := [some (vR (0, 0, 0)), some (vI c1), none, some (vI (if x3 < r11 then r11 else x3)), some (vI x4), some (vR (3, 0, p7))]) dX9_asked_102 (by decide) rfl ?_
          refine r_iinc (x := x4) (v := x4 + (1 : Int32)) (L' := [some (vR (0, 0, 0)), some (vI c1), none, some (vI (if x3 < r11 then r11 else x3)), some (vI (x4 + (1 : Int32))), some (vR (3, 0, p7))]) dX9_asked_103 rfl rfl (lt_b rfl) rfl ?_
          refine r_goto (tgt := 30) dX9_asked_106 (by decide) ?_
          refine r_weak (L' := [some (vR (0, 0, 0)), some (vI c1), none, some (vI (if x3 < r11 then r11 else x3)), some (vI (x4 + (1 : Int32))), none]) (And.intro rfl (And.intro rfl (And.intro rfl (And.intro rfl trivial)))) ?_
          exact k1 ((if x3 < r11 then r11 else x3), x4 + (1 : Int32), u13) (am_inj hf).symm
def f_X9_asked  (a0 : Int32) (u : PM) : Option (Int32 × PM) :=
  (f_X8_find 0 a0 u).bind fun r1 =>
  match r1 with
  | none =>
    some ((-1 : Int32), u)
  | some p3 =>
    if p3 < 6 then
      if (u.1 (3, 0, p3) 1) = 0 then
        some ((-3 : Int32), u)
      else
      (am_loop (f_X9_asked_L30 a0) 2000 ((0 : Int32), (0 : Int32), u)).bind fun (y16, u17) =>
      some ((if (99 : Int32) < y16 then (99 : Int32) else y16), u17)
    else none
set_option maxHeartbeats 4000000 in
set_option maxRecDepth 20000 in
theorem C_X9_asked {l : Launch}  {a0 : Int32} {u : PM} {x : Int32 × PM} (hf : f_X9_asked a0 u = some x) : Ev l mX9_asked 8 0 0 false [vR (0, 0, 0), vI a0] kC (en u) (some (vI x.1), kC, en x.2) := by
  refine Ev_of (by decide +kernel) (le_b rfl) ?_
  unfold f_X9_asked at hf
  show X l mX9_asked 8 0 0 false _ kC 0 0 0 [some (vR (0, 0, 0)), some (vI a0), none, none, none, none] [] (en u)
  refine r_aload_n (x := (0, 0, 0)) dX9_asked_0 rfl ?_
  refine e_getr (z := some (1, 0, 0)) fw_X9_14 dX9_asked_1 (kC_mem (s := 0) (by decide) (by decide) (by decide)) rfl (lt_b rfl) rfl ?_
  refine r_iload_n (x := a0) dX9_asked_4 rfl ?_
  obtain ⟨r1, hr2, hf⟩ := am_bind hf
  refine r_callV (as := [vI a0]) (st := []) (n := 1) mw_X9_94 mv_X8_find (C_X8_find (l := l) (by decide) hr2) (le_b rfl) dX9_asked_5 (kC_mem (s := 1) (by decide) (by decide) (by decide)) rfl rfl rfl (le_b rfl) (le_b rfl) (le_b rfl) ?_
  cases r1 with
  | none =>
    show X l _ _ 0 0 false _ kC 0 0 8 [some (vR (0, 0, 0)), some (vI a0), none, none, none, none] [vN] (en u)
    refine r_astore_nN (L' := [some (vR (0, 0, 0)), some (vI a0), some (vN), none, none, none]) dX9_asked_8 (by decide) rfl ?_
    refine r_aload_nN dX9_asked_9 rfl ?_
    refine r_ifnonnullN dX9_asked_10 ?_
    refine r_iconst (v := -1) dX9_asked_13 rfl ?_
    have hx := am_inj hf
    subst hx
    exact r_iret dX9_asked_14 rfl rfl (le_b rfl) (le_b rfl)
  | some p3 =>
    obtain ⟨h4, hf⟩ := am_chk hf
    show X l _ _ 0 0 false _ kC 0 0 8 [some (vR (0, 0, 0)), some (vI a0), none, none, none, none] [vR (3, 0, p3)] (en u)
    refine r_astore_n (L' := [some (vR (0, 0, 0)), some (vI a0), some (vR (3, 0, p3)), none, none, none]) dX9_asked_8 (by decide) rfl ?_
    refine r_aload_n (x := (3, 0, p3)) dX9_asked_9 rfl ?_
    refine r_ifnonnullR (tgt := 15) dX9_asked_10 (by decide) ?_
    refine r_aload_n (x := (3, 0, p3)) dX9_asked_15 rfl ?_
    refine e_geti fw_X9_101 dX9_asked_16 (kC_mem (s := 3) (by decide) (by decide) h4) rfl (lt_b rfl) ?_
    refine r_if_ne (tgt := 25) dX9_asked_19 (by decide) (fun hc => ?_) (fun hc => ?_)
    · have hf := (am_if hf).2 hc
      refine r_iconst (v := 0) dX9_asked_25 rfl ?_
      refine r_istore_n (L' := [some (vR (0, 0, 0)), some (vI a0), some (vR (3, 0, p3)), some (vI (0 : Int32)), none, none]) dX9_asked_26 (by decide) rfl ?_
      refine r_iconst (v := 0) dX9_asked_27 rfl ?_
      refine r_istore (L' := [some (vR (0, 0, 0)), some (vI a0), some (vR (3, 0, p3)), some (vI (0 : Int32)), some (vI (0 : Int32)), none]) dX9_asked_28 (by decide) rfl ?_
      refine r_weak (L' := [some (vR (0, 0, 0)), some (vI a0), none, some (vI (0 : Int32)), some (vI (0 : Int32)), none]) (And.intro rfl (And.intro rfl (And.intro rfl (And.intro rfl trivial)))) ?_
      obtain ⟨e14, he15, hf⟩ := am_bind hf
      refine K_X9_asked_L30  2000 ((0 : Int32), (0 : Int32), u) _ he15 ?_
      obtain ⟨y16, u17⟩ := e14
      show X l _ _ 0 0 false _ kC 0 0 109 [none, none, none, some (vI y16), none, none] [] (en u17)
      refine r_iload_n (x := y16) dX9_asked_109 rfl ?_
      refine r_bipush (v := 99) dX9_asked_110 rfl ?_
      refine r_mmin jm_X9_260 js_min.1 js_min.2.1 js_min.2.2 dX9_asked_112 (le_b rfl) (le_b rfl) (le_b rfl) (le_b rfl) ?_
      have hx := am_inj hf
      subst hx
      exact r_iret dX9_asked_115 rfl rfl (le_b rfl) (le_b rfl)
    · have hf := (am_if hf).1 hc
      refine r_bipush (v := -3) dX9_asked_22 rfl ?_
      have hx := am_inj hf
      subst hx
      exact r_iret dX9_asked_24 rfl rfl (le_b rfl) (le_b rfl)
/-! FireFromFire.law -/
theorem dX9_law_0 : decode cX9_law 0 = .ok (.iload_n 1, 1) := by decide +kernel
theorem dX9_law_1 : decode cX9_law 1 = .ok (.iconst 1, 1) := by decide +kernel
theorem dX9_law_2 : decode cX9_law 2 = .ok (.if_icmp .lt 9, 3) := by decide +kernel
theorem dX9_law_5 : decode cX9_law 5 = .ok (.iload_n 1, 1) := by decide +kernel
theorem dX9_law_6 : decode cX9_law 6 = .ok (.bipush 99, 2) := by decide +kernel
theorem dX9_law_8 : decode cX9_law 8 = .ok (.if_icmp .le 6, 3) := by decide +kernel
theorem dX9_law_11 : decode cX9_law 11 = .ok (.bipush (-2), 2) := by decide +kernel
theorem dX9_law_13 : decode cX9_law 13 = .ok (.ireturn, 1) := by decide +kernel
theorem dX9_law_14 : decode cX9_law 14 = .ok (.iconst 0, 1) := by decide +kernel
theorem dX9_law_15 : decode cX9_law 15 = .ok (.istore_n 2, 1) := by decide +kernel
theorem dX9_law_16 : decode cX9_law 16 = .ok (.iload_n 2, 1) := by decide +kernel
theorem dX9_law_17 : decode cX9_law 17 = .ok (.bipush 9, 2) := by decide +kernel
theorem dX9_law_19 : decode cX9_law 19 = .ok (.if_icmp .gt 72, 3) := by decide +kernel
theorem dX9_law_22 : decode cX9_law 22 = .ok (.aload_n 0, 1) := by decide +kernel
theorem dX9_law_23 : decode cX9_law 23 = .ok (.getfield 21, 3) := by decide +kernel
theorem dX9_law_26 : decode cX9_law 26 = .ok (.aload_n 0, 1) := by decide +kernel
theorem dX9_law_27 : decode cX9_law 27 = .ok (.getfield 14, 3) := by decide +kernel
theorem dX9_law_30 : decode cX9_law 30 = .ok (.invokevirtual 240, 3) := by decide +kernel
theorem dX9_law_33 : decode cX9_law 33 = .ok (.aload_n 0, 1) := by decide +kernel
theorem dX9_law_34 : decode cX9_law 34 = .ok (.getfield 21, 3) := by decide +kernel
theorem dX9_law_37 : decode cX9_law 37 = .ok (.iload_n 2, 1) := by decide +kernel
theorem dX9_law_38 : decode cX9_law 38 = .ok (.invokevirtual 263, 3) := by decide +kernel
theorem dX9_law_41 : decode cX9_law 41 = .ok (.iconst 0, 1) := by decide +kernel
theorem dX9_law_42 : decode cX9_law 42 = .ok (.istore_n 3, 1) := by decide +kernel
theorem dX9_law_43 : decode cX9_law 43 = .ok (.iload_n 3, 1) := by decide +kernel
theorem dX9_law_44 : decode cX9_law 44 = .ok (.iload_n 1, 1) := by decide +kernel
theorem dX9_law_45 : decode cX9_law 45 = .ok (.if_icmp .ge 28, 3) := by decide +kernel
theorem dX9_law_48 : decode cX9_law 48 = .ok (.aload_n 0, 1) := by decide +kernel
theorem dX9_law_49 : decode cX9_law 49 = .ok (.getfield 48, 3) := by decide +kernel
theorem dX9_law_52 : decode cX9_law 52 = .ok (.aload_n 0, 1) := by decide +kernel
theorem dX9_law_53 : decode cX9_law 53 = .ok (.getfield 21, 3) := by decide +kernel
theorem dX9_law_56 : decode cX9_law 56 = .ok (.aload_n 0, 1) := by decide +kernel
theorem dX9_law_57 : decode cX9_law 57 = .ok (.getfield 14, 3) := by decide +kernel
theorem dX9_law_60 : decode cX9_law 60 = .ok (.getfield 208, 3) := by decide +kernel
theorem dX9_law_63 : decode cX9_law 63 = .ok (.iconst 0, 1) := by decide +kernel
theorem dX9_law_64 : decode cX9_law 64 = .ok (.invokevirtual 172, 3) := by decide +kernel
theorem dX9_law_67 : decode cX9_law 67 = .ok (.iinc 3 1, 3) := by decide +kernel
theorem dX9_law_70 : decode cX9_law 70 = .ok (.goto (-27), 3) := by decide +kernel
theorem dX9_law_73 : decode cX9_law 73 = .ok (.aload_n 0, 1) := by decide +kernel
theorem dX9_law_74 : decode cX9_law 74 = .ok (.getfield 21, 3) := by decide +kernel
theorem dX9_law_77 : decode cX9_law 77 = .ok (.invokevirtual 243, 3) := by decide +kernel
theorem dX9_law_80 : decode cX9_law 80 = .ok (.ifCond .le 5, 3) := by decide +kernel
theorem dX9_law_83 : decode cX9_law 83 = .ok (.iload_n 2, 1) := by decide +kernel
theorem dX9_law_84 : decode cX9_law 84 = .ok (.ireturn, 1) := by decide +kernel
theorem dX9_law_85 : decode cX9_law 85 = .ok (.iinc 2 1, 3) := by decide +kernel
theorem dX9_law_88 : decode cX9_law 88 = .ok (.goto (-72), 3) := by decide +kernel
theorem dX9_law_91 : decode cX9_law 91 = .ok (.bipush (-5), 2) := by decide +kernel
theorem dX9_law_93 : decode cX9_law 93 = .ok (.ireturn, 1) := by decide +kernel
def f_X9_law_L43  (c1 : Int32) (c2 : Int32) : Int32 × PM → Option ((Int32 × PM) ⊕ (PM)) := fun (x3 , u) =>
  if c1 ≤ x3 then
    some (.inr (u))
  else
  (f_X1_pass 2 (u.1 (1, 0, 0) 3) (0 : Int32) u).bind fun r5 =>
  some (.inl (x3 + (1 : Int32), r5))
set_option maxHeartbeats 4000000 in
set_option maxRecDepth 20000 in
theorem K_X9_law_L43 {l : Launch} {T : Option AV × List Key × AM}  {c1 : Int32} {c2 : Int32} : ∀ (n : Nat) (s : Int32 × PM) (e0 : PM), am_loop (f_X9_law_L43 c1 c2) n s = some e0 → (fun e : PM => X l mX9_law 7 0 0 false T kC 0 0 73 [some (vR (0, 0, 0)), some (vI c1), some (vI c2), none] [] (en e)) e0 → X l mX9_law 7 0 0 false T kC 0 0 43 [some (vR (0, 0, 0)), some (vI c1), some (vI c2), some (vI s.1)] [] (en s.2) := by
  refine am_loop_of ?_
  intro s x hf k1 k2
  obtain ⟨x3 , u⟩ := s
  unfold f_X9_law_L43 at hf
  show X l mX9_law 7 0 0 false T kC 0 0 43 [some (vR (0, 0, 0)), some (vI c1), some (vI c2), some (vI x3)] [] (en u)
  refine r_iload_n (x := x3) dX9_law_43 rfl ?_
  refine r_iload_n (x := c1) dX9_law_44 rfl ?_
  refine r_icmp_ge (tgt := 73) dX9_law_45 (by decide) (fun hc => ?_) (fun hc => ?_)
  · have hf := (am_if hf).1 hc
    refine r_weak (L' := [some (vR (0, 0, 0)), some (vI c1), some (vI c2), none]) (And.intro rfl (And.intro rfl (And.intro rfl trivial))) ?_
    exact k2 (u) (am_inj hf).symm
  · have hf := (am_if hf).2 hc
    refine r_aload_n (x := (0, 0, 0)) dX9_law_48 rfl ?_
    refine e_getr (z := some (20, 0, 0)) fw_X9_48 dX9_law_49 (kC_mem (s := 0) (by decide) (by decide) (by decide)) rfl (lt_b rfl) rfl ?_
    refine r_aload_n (x := (0, 0, 0)) dX9_law_52 rfl ?_
    refine e_getr (z := some (1, 2, 0)) fw_X9_21 dX9_law_53 (kC_mem (s := 0) (by decide) (by decide) (by decide)) rfl (lt_b rfl) rfl ?_
    refine r_aload_n (x := (0, 0, 0)) dX9_law_56 rfl ?_
    refine e_getr (z := some (1, 0, 0)) fw_X9_14 dX9_law_57 (kC_mem (s := 0) (by decide) (by decide) (by decide)) rfl (lt_b rfl) rfl ?_
    refine e_geti fw_X9_208 dX9_law_60 (kC_mem (s := 1) (by decide) (by decide) (by decide)) rfl (lt_b rfl) ?_
    refine r_iconst (v := 0) dX9_law_63 rfl ?_
    obtain ⟨r5, hr6, hf⟩ := am_bind hf
    refine r_callV (as := [vR (1, 2, 0), vI (u.1 (1, 0, 0) 3), vI (0 : Int32)]) (st := []) (n := 3) mw_X9_172 mv_X1_pass (C_X1_pass (l := l) (by decide) hr6) (le_b rfl) dX9_law_64 (kC_mem (s := 20) (by decide) (by decide) (by decide)) rfl rfl rfl (le_b rfl) (le_b rfl) (le_b rfl) ?_
    show X l _ _ 0 0 false _ kC 0 0 67 [some (vR (0, 0, 0)), some (vI c1), some (vI c2), some (vI x3)] [] (en r5)
    refine r_iinc (x := x3) (v := x3 + (1 : Int32)) (L' := [some (vR (0, 0, 0)), some (vI c1), some (vI c2), some (vI (x3 + (1 : Int32)))]) dX9_law_67 rfl rfl (lt_b rfl) rfl ?_
    refine r_goto (tgt := 43) dX9_law_70 (by decide) ?_
    refine r_weak (L' := [some (vR (0, 0, 0)), some (vI c1), some (vI c2), some (vI (x3 + (1 : Int32)))]) (And.intro rfl (And.intro rfl (And.intro rfl (And.intro rfl trivial)))) ?_
    exact k1 (x3 + (1 : Int32), r5) (am_inj hf).symm
def f_X9_law_L16  (c1 : Int32) : Int32 × PM → Option ((Int32 × PM) ⊕ ((Int32 × PM) ⊕ (PM))) := fun (x2 , u) =>
  if (9 : Int32) < x2 then
    some (.inr (.inr (u)))
  else
  (f_X8_copy 2 0 u).bind fun r1 =>
  (f_X8_payAll 2 x2 r1).bind fun r3 =>
  (am_loop (f_X9_law_L43 c1 x2) 2000 ((0 : Int32), r3)).bind fun u9 =>
  (f_X8_litCount 2 u9).bind fun r10 =>
  if r10 ≤ 0 then
    some (.inl (x2 + (1 : Int32), u9))
  else
  some (.inr (.inl (x2, u9)))
set_option maxHeartbeats 4000000 in
set_option maxRecDepth 20000 in
theorem K_X9_law_L16 {l : Launch} {T : Option AV × List Key × AM}  {c1 : Int32} : ∀ (n : Nat) (s : Int32 × PM) (e0 : (Int32 × PM) ⊕ (PM)), am_loop (f_X9_law_L16 c1) n s = some e0 → Sum.elim (fun r : Int32 × PM => T = (some (vI r.1), kC, en r.2)) (fun e : PM => X l mX9_law 7 0 0 false T kC 0 0 91 [none, none, none, none] [] (en e)) e0 → X l mX9_law 7 0 0 false T kC 0 0 16 [some (vR (0, 0, 0)), some (vI c1), some (vI s.1), none] [] (en s.2) := by
  refine am_loop_of ?_
  intro s x hf k1 k2
  obtain ⟨x2 , u⟩ := s
  unfold f_X9_law_L16 at hf
  show X l mX9_law 7 0 0 false T kC 0 0 16 [some (vR (0, 0, 0)), some (vI c1), some (vI x2), none] [] (en u)
  refine r_iload_n (x := x2) dX9_law_16 rfl ?_
  refine r_bipush (v := 9) dX9_law_17 rfl ?_
  refine r_icmp_gt (tgt := 91) dX9_law_19 (by decide) (fun hc => ?_) (fun hc => ?_)
  · have hf := (am_if hf).1 hc
    refine r_weak (L' := [none, none, none, none]) trivial ?_
    exact k2 (.inr (u)) (am_inj hf).symm
  · have hf := (am_if hf).2 hc
    refine r_aload_n (x := (0, 0, 0)) dX9_law_22 rfl ?_
    refine e_getr (z := some (1, 2, 0)) fw_X9_21 dX9_law_23 (kC_mem (s := 0) (by decide) (by decide) (by decide)) rfl (lt_b rfl) rfl ?_
    refine r_aload_n (x := (0, 0, 0)) dX9_law_26 rfl ?_
    refine e_getr (z := some (1, 0, 0)) fw_X9_14 dX9_law_27 (kC_mem (s := 0) (by decide) (by decide) (by decide)) rfl (lt_b rfl) rfl ?_
    obtain ⟨r1, hr2, hf⟩ := am_bind hf
    refine r_callV (as := [vR (1, 0, 0)]) (st := []) (n := 1) mw_X9_240 mv_X8_copy (C_X8_copy (l := l) (by decide) (by decide) hr2) (le_b rfl) dX9_law_30 (kC_mem (s := 1) (by decide) (by decide) (by decide)) rfl rfl rfl (le_b rfl) (le_b rfl) (le_b rfl) ?_
    show X l _ _ 0 0 false _ kC 0 0 33 [some (vR (0, 0, 0)), some (vI c1), some (vI x2), none] [] (en r1)
    refine r_aload_n (x := (0, 0, 0)) dX9_law_33 rfl ?_
    refine e_getr (z := some (1, 2, 0)) fw_X9_21 dX9_law_34 (kC_mem (s := 0) (by decide) (by decide) (by decide)) rfl (lt_b rfl) rfl ?_
    refine r_iload_n (x := x2) dX9_law_37 rfl ?_
    obtain ⟨r3, hr4, hf⟩ := am_bind hf
    refine r_callV (as := [vI x2]) (st := []) (n := 1) mw_X9_263 mv_X8_payAll (C_X8_payAll (l := l) (by decide) hr4) (le_b rfl) dX9_law_38 (kC_mem (s := 1) (by decide) (by decide) (by decide)) rfl rfl rfl (le_b rfl) (le_b rfl) (le_b rfl) ?_
    show X l _ _ 0 0 false _ kC 0 0 41 [some (vR (0, 0, 0)), some (vI c1), some (vI x2), none] [] (en r3)
    refine r_iconst (v := 0) dX9_law_41 rfl ?_
    refine r_istore_n (L' := [some (vR (0, 0, 0)), some (vI c1), some (vI x2), some (vI (0 : Int32))]) dX9_law_42 (by decide) rfl ?_
    refine r_weak (L' := [some (vR (0, 0, 0)), some (vI c1), some (vI x2), some (vI (0 : Int32))]) (And.intro rfl (And.intro rfl (And.intro rfl (And.intro rfl trivial)))) ?_
    obtain ⟨e7, he8, hf⟩ := am_bind hf
    refine K_X9_law_L43  2000 ((0 : Int32), r3) _ he8 ?_
    obtain ⟨u9, rfl⟩ : ∃ z, z = e7 := ⟨_, rfl⟩
    show X l _ _ 0 0 false _ kC 0 0 73 [some (vR (0, 0, 0)), some (vI c1), some (vI x2), none] [] (en u9)
    refine r_aload_n (x := (0, 0, 0)) dX9_law_73 rfl ?_
    refine e_getr (z := some (1, 2, 0)) fw_X9_21 dX9_law_74 (kC_mem (s := 0) (by decide) (by decide) (by decide)) rfl (lt_b rfl) rfl ?_
    obtain ⟨r10, hr11, hf⟩ := am_bind hf
    refine r_callV (as := []) (st := []) (n := 0) mw_X9_243 mv_X8_litCount (C_X8_litCount (l := l) (by decide) hr11) (le_b rfl) dX9_law_77 (kC_mem (s := 1) (by decide) (by decide) (by decide)) rfl rfl rfl (le_b rfl) (le_b rfl) (le_b rfl) ?_
    show X l _ _ 0 0 false _ kC 0 0 80 [some (vR (0, 0, 0)), some (vI c1), some (vI x2), none] [vI r10] (en u9)
    refine r_if_le (tgt := 85) dX9_law_80 (by decide) (fun hc => ?_) (fun hc => ?_)
    · have hf := (am_if hf).1 hc
      refine r_iinc (x := x2) (v := x2 + (1 : Int32)) (L' := [some (vR (0, 0, 0)), some (vI c1), some (vI (x2 + (1 : Int32))), none]) dX9_law_85 rfl rfl (lt_b rfl) rfl ?_
      refine r_goto (tgt := 16) dX9_law_88 (by decide) ?_
      refine r_weak (L' := [some (vR (0, 0, 0)), some (vI c1), some (vI (x2 + (1 : Int32))), none]) (And.intro rfl (And.intro rfl (And.intro rfl trivial))) ?_
      exact k1 (x2 + (1 : Int32), u9) (am_inj hf).symm
    · have hf := (am_if hf).2 hc
      refine r_iload_n (x := x2) dX9_law_83 rfl ?_
      have hT := k2 _ (am_inj hf).symm
      replace hT : T = (some (vI x2), kC, en u9) := hT
      subst hT
      exact r_iret dX9_law_84 rfl rfl (le_b rfl) (le_b rfl)
def f_X9_law  (a0 : Int32) (u : PM) : Option (Int32 × PM) :=
  if a0 < (1 : Int32) then
    some ((-2 : Int32), u)
  else
  if a0 ≤ (99 : Int32) then
    (am_loop (f_X9_law_L16 a0) 2000 ((0 : Int32), u)).bind fun e12 =>
    match e12 with
    | .inl q15 => some q15
    | .inr u14 =>
      some ((-5 : Int32), u14)
  else
  some ((-2 : Int32), u)
set_option maxHeartbeats 4000000 in
set_option maxRecDepth 20000 in
theorem C_X9_law {l : Launch}  {a0 : Int32} {u : PM} {x : Int32 × PM} (hf : f_X9_law a0 u = some x) : Ev l mX9_law 7 0 0 false [vR (0, 0, 0), vI a0] kC (en u) (some (vI x.1), kC, en x.2) := by
  refine Ev_of (by decide +kernel) (le_b rfl) ?_
  unfold f_X9_law at hf
  show X l mX9_law 7 0 0 false _ kC 0 0 0 [some (vR (0, 0, 0)), some (vI a0), none, none] [] (en u)
  refine r_iload_n (x := a0) dX9_law_0 rfl ?_
  refine r_iconst (v := 1) dX9_law_1 rfl ?_
  refine r_icmp_lt (tgt := 11) dX9_law_2 (by decide) (fun hc => ?_) (fun hc => ?_)
  · have hf := (am_if hf).1 hc
    refine r_bipush (v := -2) dX9_law_11 rfl ?_
    have hx := am_inj hf
    subst hx
    exact r_iret dX9_law_13 rfl rfl (le_b rfl) (le_b rfl)
  · have hf := (am_if hf).2 hc
    refine r_iload_n (x := a0) dX9_law_5 rfl ?_
    refine r_bipush (v := 99) dX9_law_6 rfl ?_
    refine r_icmp_le (tgt := 14) dX9_law_8 (by decide) (fun hc => ?_) (fun hc => ?_)
    · have hf := (am_if hf).1 hc
      refine r_iconst (v := 0) dX9_law_14 rfl ?_
      refine r_istore_n (L' := [some (vR (0, 0, 0)), some (vI a0), some (vI (0 : Int32)), none]) dX9_law_15 (by decide) rfl ?_
      refine r_weak (L' := [some (vR (0, 0, 0)), some (vI a0), some (vI (0 : Int32)), none]) (And.intro rfl (And.intro rfl (And.intro rfl trivial))) ?_
      obtain ⟨e12, he13, hf⟩ := am_bind hf
      refine K_X9_law_L16  2000 ((0 : Int32), u) _ he13 ?_
      rcases e12 with q15 | e12
      · have hx := am_inj hf
        subst hx
        rfl
      · obtain ⟨u14, rfl⟩ : ∃ z, z = e12 := ⟨_, rfl⟩
        show X l _ _ 0 0 false _ kC 0 0 91 [none, none, none, none] [] (en u14)
        refine r_bipush (v := -5) dX9_law_91 rfl ?_
        have hx := am_inj hf
        subst hx
        exact r_iret dX9_law_93 rfl rfl (le_b rfl) (le_b rfl)
    · have hf := (am_if hf).2 hc
      refine r_bipush (v := -2) dX9_law_11 rfl ?_
      have hx := am_inj hf
      subst hx
      exact r_iret dX9_law_13 rfl rfl (le_b rfl) (le_b rfl)
/-! FireFromFire.freed -/
theorem dX9_freed_0 : decode cX9_freed 0 = .ok (.iconst 0, 1) := by decide +kernel
theorem dX9_freed_1 : decode cX9_freed 1 = .ok (.istore_n 1, 1) := by decide +kernel
theorem dX9_freed_2 : decode cX9_freed 2 = .ok (.iconst 0, 1) := by decide +kernel
theorem dX9_freed_3 : decode cX9_freed 3 = .ok (.istore_n 2, 1) := by decide +kernel
theorem dX9_freed_4 : decode cX9_freed 4 = .ok (.iload_n 2, 1) := by decide +kernel
theorem dX9_freed_5 : decode cX9_freed 5 = .ok (.aload_n 0, 1) := by decide +kernel
theorem dX9_freed_6 : decode cX9_freed 6 = .ok (.getfield 14, 3) := by decide +kernel
theorem dX9_freed_9 : decode cX9_freed 9 = .ok (.getfield 81, 3) := by decide +kernel
theorem dX9_freed_12 : decode cX9_freed 12 = .ok (.if_icmp .ge 34, 3) := by decide +kernel
theorem dX9_freed_15 : decode cX9_freed 15 = .ok (.aload_n 0, 1) := by decide +kernel
theorem dX9_freed_16 : decode cX9_freed 16 = .ok (.getfield 14, 3) := by decide +kernel
theorem dX9_freed_19 : decode cX9_freed 19 = .ok (.iload_n 2, 1) := by decide +kernel
theorem dX9_freed_20 : decode cX9_freed 20 = .ok (.aload_n 0, 1) := by decide +kernel
theorem dX9_freed_21 : decode cX9_freed 21 = .ok (.getfield 14, 3) := by decide +kernel
theorem dX9_freed_24 : decode cX9_freed 24 = .ok (.getfield 208, 3) := by decide +kernel
theorem dX9_freed_27 : decode cX9_freed 27 = .ok (.invokevirtual 166, 3) := by decide +kernel
theorem dX9_freed_30 : decode cX9_freed 30 = .ok (.iconst 2, 1) := by decide +kernel
theorem dX9_freed_31 : decode cX9_freed 31 = .ok (.if_icmp .ne 9, 3) := by decide +kernel
theorem dX9_freed_34 : decode cX9_freed 34 = .ok (.iload_n 1, 1) := by decide +kernel
theorem dX9_freed_35 : decode cX9_freed 35 = .ok (.iconst 1, 1) := by decide +kernel
theorem dX9_freed_36 : decode cX9_freed 36 = .ok (.iload_n 2, 1) := by decide +kernel
theorem dX9_freed_37 : decode cX9_freed 37 = .ok (.ishl, 1) := by decide +kernel
theorem dX9_freed_38 : decode cX9_freed 38 = .ok (.ior, 1) := by decide +kernel
theorem dX9_freed_39 : decode cX9_freed 39 = .ok (.istore_n 1, 1) := by decide +kernel
theorem dX9_freed_40 : decode cX9_freed 40 = .ok (.iinc 2 1, 3) := by decide +kernel
theorem dX9_freed_43 : decode cX9_freed 43 = .ok (.goto (-39), 3) := by decide +kernel
theorem dX9_freed_46 : decode cX9_freed 46 = .ok (.iload_n 1, 1) := by decide +kernel
theorem dX9_freed_47 : decode cX9_freed 47 = .ok (.ireturn, 1) := by decide +kernel
def f_X9_freed_L4   : Int32 × Int32 × PM → Option ((Int32 × Int32 × PM) ⊕ (Int32 × PM)) := fun (x1 , x2 , u) =>
  if (u.1 (1, 0, 0) 0) ≤ x2 then
    some (.inr (x1, u))
  else
  (f_X8_choice 0 x2 (u.1 (1, 0, 0) 3) u).bind fun (r1, u3) =>
  if r1 = (2 : Int32) then
    some (.inl (x1 ||| ((1 : Int32) <<< (x2 &&& 31)), x2 + (1 : Int32), u3))
  else
  some (.inl (x1, x2 + (1 : Int32), u3))
set_option maxHeartbeats 4000000 in
set_option maxRecDepth 20000 in
theorem K_X9_freed_L4 {l : Launch} {T : Option AV × List Key × AM}   : ∀ (n : Nat) (s : Int32 × Int32 × PM) (e0 : Int32 × PM), am_loop (f_X9_freed_L4) n s = some e0 → (fun e : Int32 × PM => X l mX9_freed 6 0 0 false T kC 0 0 46 [none, some (vI e.1), none] [] (en e.2)) e0 → X l mX9_freed 6 0 0 false T kC 0 0 4 [some (vR (0, 0, 0)), some (vI s.1), some (vI s.2.1)] [] (en s.2.2) := by
  refine am_loop_of ?_
  intro s x hf k1 k2
  obtain ⟨x1 , x2 , u⟩ := s
  unfold f_X9_freed_L4 at hf
  show X l mX9_freed 6 0 0 false T kC 0 0 4 [some (vR (0, 0, 0)), some (vI x1), some (vI x2)] [] (en u)
  refine r_iload_n (x := x2) dX9_freed_4 rfl ?_
  refine r_aload_n (x := (0, 0, 0)) dX9_freed_5 rfl ?_
  refine e_getr (z := some (1, 0, 0)) fw_X9_14 dX9_freed_6 (kC_mem (s := 0) (by decide) (by decide) (by decide)) rfl (lt_b rfl) rfl ?_
  refine e_geti fw_X9_81 dX9_freed_9 (kC_mem (s := 1) (by decide) (by decide) (by decide)) rfl (lt_b rfl) ?_
  refine r_icmp_ge (tgt := 46) dX9_freed_12 (by decide) (fun hc => ?_) (fun hc => ?_)
  · have hf := (am_if hf).1 hc
    refine r_weak (L' := [none, some (vI x1), none]) (And.intro rfl trivial) ?_
    exact k2 (x1, u) (am_inj hf).symm
  · have hf := (am_if hf).2 hc
    refine r_aload_n (x := (0, 0, 0)) dX9_freed_15 rfl ?_
    refine e_getr (z := some (1, 0, 0)) fw_X9_14 dX9_freed_16 (kC_mem (s := 0) (by decide) (by decide) (by decide)) rfl (lt_b rfl) rfl ?_
    refine r_iload_n (x := x2) dX9_freed_19 rfl ?_
    refine r_aload_n (x := (0, 0, 0)) dX9_freed_20 rfl ?_
    refine e_getr (z := some (1, 0, 0)) fw_X9_14 dX9_freed_21 (kC_mem (s := 0) (by decide) (by decide) (by decide)) rfl (lt_b rfl) rfl ?_
    refine e_geti fw_X9_208 dX9_freed_24 (kC_mem (s := 1) (by decide) (by decide) (by decide)) rfl (lt_b rfl) ?_
    obtain ⟨⟨r1, u3⟩, hr2, hf⟩ := am_bind hf
    refine r_callV (as := [vI x2, vI (u.1 (1, 0, 0) 3)]) (st := []) (n := 2) mw_X9_166 mv_X8_choice (C_X8_choice (l := l) (by decide) hr2) (le_b rfl) dX9_freed_27 (kC_mem (s := 1) (by decide) (by decide) (by decide)) rfl rfl rfl (le_b rfl) (le_b rfl) (le_b rfl) ?_
    show X l _ _ 0 0 false _ kC 0 0 30 [some (vR (0, 0, 0)), some (vI x1), some (vI x2)] [vI r1] (en u3)
    refine r_iconst (v := 2) dX9_freed_30 rfl ?_
    refine r_icmp_ne (tgt := 40) dX9_freed_31 (by decide) (fun hc => ?_) (fun hc => ?_)
    · have hf := (am_if hf).2 hc
      refine r_iinc (x := x2) (v := x2 + (1 : Int32)) (L' := [some (vR (0, 0, 0)), some (vI x1), some (vI (x2 + (1 : Int32)))]) dX9_freed_40 rfl rfl (lt_b rfl) rfl ?_
      refine r_goto (tgt := 4) dX9_freed_43 (by decide) ?_
      refine r_weak (L' := [some (vR (0, 0, 0)), some (vI x1), some (vI (x2 + (1 : Int32)))]) (And.intro rfl (And.intro rfl (And.intro rfl trivial))) ?_
      exact k1 (x1, x2 + (1 : Int32), u3) (am_inj hf).symm
    · have hf := (am_if hf).1 hc
      refine r_iload_n (x := x1) dX9_freed_34 rfl ?_
      refine r_iconst (v := 1) dX9_freed_35 rfl ?_
      refine r_iload_n (x := x2) dX9_freed_36 rfl ?_
      refine r_ishl dX9_freed_37 ?_
      refine r_ior dX9_freed_38 ?_
      refine r_istore_n (L' := [some (vR (0, 0, 0)), some (vI (x1 ||| ((1 : Int32) <<< (x2 &&& 31)))), some (vI x2)]) dX9_freed_39 (by decide) rfl ?_
      refine r_iinc (x := x2) (v := x2 + (1 : Int32)) (L' := [some (vR (0, 0, 0)), some (vI (x1 ||| ((1 : Int32) <<< (x2 &&& 31)))), some (vI (x2 + (1 : Int32)))]) dX9_freed_40 rfl rfl (lt_b rfl) rfl ?_
      refine r_goto (tgt := 4) dX9_freed_43 (by decide) ?_
      refine r_weak (L' := [some (vR (0, 0, 0)), some (vI (x1 ||| ((1 : Int32) <<< (x2 &&& 31)))), some (vI (x2 + (1 : Int32)))]) (And.intro rfl (And.intro rfl (And.intro rfl trivial))) ?_
      exact k1 (x1 ||| ((1 : Int32) <<< (x2 &&& 31)), x2 + (1 : Int32), u3) (am_inj hf).symm
def f_X9_freed   (u : PM) : Option (Int32 × PM) :=
  (am_loop (f_X9_freed_L4) 2000 ((0 : Int32), (0 : Int32), u)).bind fun (y6, u7) =>
  some (y6, u7)
set_option maxHeartbeats 4000000 in
set_option maxRecDepth 20000 in
theorem C_X9_freed {l : Launch}   {u : PM} {x : Int32 × PM} (hf : f_X9_freed u = some x) : Ev l mX9_freed 6 0 0 false [vR (0, 0, 0)] kC (en u) (some (vI x.1), kC, en x.2) := by
  refine Ev_of (by decide +kernel) (le_b rfl) ?_
  unfold f_X9_freed at hf
  show X l mX9_freed 6 0 0 false _ kC 0 0 0 [some (vR (0, 0, 0)), none, none] [] (en u)
  refine r_iconst (v := 0) dX9_freed_0 rfl ?_
  refine r_istore_n (L' := [some (vR (0, 0, 0)), some (vI (0 : Int32)), none]) dX9_freed_1 (by decide) rfl ?_
  refine r_iconst (v := 0) dX9_freed_2 rfl ?_
  refine r_istore_n (L' := [some (vR (0, 0, 0)), some (vI (0 : Int32)), some (vI (0 : Int32))]) dX9_freed_3 (by decide) rfl ?_
  refine r_weak (L' := [some (vR (0, 0, 0)), some (vI (0 : Int32)), some (vI (0 : Int32))]) (And.intro rfl (And.intro rfl (And.intro rfl trivial))) ?_
  obtain ⟨e4, he5, hf⟩ := am_bind hf
  refine K_X9_freed_L4  2000 ((0 : Int32), (0 : Int32), u) _ he5 ?_
  obtain ⟨y6, u7⟩ := e4
  show X l _ _ 0 0 false _ kC 0 0 46 [none, some (vI y6), none] [] (en u7)
  refine r_iload_n (x := y6) dX9_freed_46 rfl ?_
  have hx := am_inj hf
  subst hx
  exact r_iret dX9_freed_47 rfl rfl (le_b rfl) (le_b rfl)
/-! FireFromFire.findTape -/
theorem dX9_findTape_0 : decode cX9_findTape 0 = .ok (.iload_n 1, 1) := by decide +kernel
theorem dX9_findTape_1 : decode cX9_findTape 1 = .ok (.ifCond .lt 18, 3) := by decide +kernel
theorem dX9_findTape_4 : decode cX9_findTape 4 = .ok (.iload_n 1, 1) := by decide +kernel
theorem dX9_findTape_5 : decode cX9_findTape 5 = .ok (.bipush 6, 2) := by decide +kernel
theorem dX9_findTape_7 : decode cX9_findTape 7 = .ok (.if_icmp .ge 12, 3) := by decide +kernel
theorem dX9_findTape_10 : decode cX9_findTape 10 = .ok (.aload_n 0, 1) := by decide +kernel
theorem dX9_findTape_11 : decode cX9_findTape 11 = .ok (.getfield 75, 3) := by decide +kernel
theorem dX9_findTape_14 : decode cX9_findTape 14 = .ok (.iload_n 1, 1) := by decide +kernel
theorem dX9_findTape_15 : decode cX9_findTape 15 = .ok (.aaload, 1) := by decide +kernel
theorem dX9_findTape_16 : decode cX9_findTape 16 = .ok (.goto 4, 3) := by decide +kernel
theorem dX9_findTape_19 : decode cX9_findTape 19 = .ok (.aconst_null, 1) := by decide +kernel
theorem dX9_findTape_20 : decode cX9_findTape 20 = .ok (.areturn, 1) := by decide +kernel
def f_X9_findTape  (a0 : Int32) (u : PM) : Option (Option Nat) :=
  if a0 < 0 then
    some none
  else
  if (6 : Int32) ≤ a0 then
    some none
  else
  if a0 < 0 ∨ 6 ≤ a0.toNatClampNeg then none else
  some (some a0.toNatClampNeg)
set_option maxHeartbeats 4000000 in
set_option maxRecDepth 20000 in
theorem C_X9_findTape {l : Launch}  {a0 : Int32} {u : PM} {x : Option Nat} (hf : f_X9_findTape a0 u = some x) : Ev l mX9_findTape 1 0 0 false [vR (0, 0, 0), vI a0] kC (en u) (some (vO (x.map fun z => (32, z, 0))), kC, en u) := by
  refine Ev_of (by decide +kernel) (le_b rfl) ?_
  unfold f_X9_findTape at hf
  show X l mX9_findTape 1 0 0 false _ kC 0 0 0 [some (vR (0, 0, 0)), some (vI a0)] [] (en u)
  refine r_iload_n (x := a0) dX9_findTape_0 rfl ?_
  refine r_if_lt (tgt := 19) dX9_findTape_1 (by decide) (fun hc => ?_) (fun hc => ?_)
  · have hf := (am_if hf).1 hc
    refine r_anull dX9_findTape_19 ?_
    have hx := am_inj hf
    subst hx
    exact r_aret dX9_findTape_20 rfl (le_b rfl) (le_b rfl)
  · have hf := (am_if hf).2 hc
    refine r_iload_n (x := a0) dX9_findTape_4 rfl ?_
    refine r_bipush (v := 6) dX9_findTape_5 rfl ?_
    refine r_icmp_ge (tgt := 19) dX9_findTape_7 (by decide) (fun hc => ?_) (fun hc => ?_)
    · have hf := (am_if hf).1 hc
      refine r_anull dX9_findTape_19 ?_
      have hx := am_inj hf
      subst hx
      exact r_aret dX9_findTape_20 rfl (le_b rfl) (le_b rfl)
    · have hf := (am_if hf).2 hc
      refine r_aload_n (x := (0, 0, 0)) dX9_findTape_10 rfl ?_
      refine e_getr (z := some (31, 0, 0)) fw_X9_75 dX9_findTape_11 (kC_mem (s := 0) (by decide) (by decide) (by decide)) rfl (lt_b rfl) rfl ?_
      refine r_iload_n (x := a0) dX9_findTape_14 rfl ?_
      obtain ⟨h1, hf⟩ := am_nchk hf
      refine e_aald (n := a0.toNatClampNeg) (z := some (32, a0.toNatClampNeg, 0)) dX9_findTape_15 (kC_mem (s := 31) (by decide) (by decide) (by decide)) ⟨le_b rfl, lt_b rfl⟩ h1 rfl rfl ?_
      refine r_goto (tgt := 20) dX9_findTape_16 (by decide) ?_
      have hx := am_inj hf
      subst hx
      exact r_aret dX9_findTape_20 rfl (le_b rfl) (le_b rfl)
/-! FireFromFire.judge -/
theorem dX9_judge_0 : decode cX9_judge 0 = .ok (.aload_n 0, 1) := by decide +kernel
theorem dX9_judge_1 : decode cX9_judge 1 = .ok (.iload_n 1, 1) := by decide +kernel
theorem dX9_judge_2 : decode cX9_judge 2 = .ok (.invokevirtual 266, 3) := by decide +kernel
theorem dX9_judge_5 : decode cX9_judge 5 = .ok (.astore 4, 2) := by decide +kernel
theorem dX9_judge_7 : decode cX9_judge 7 = .ok (.aload 4, 2) := by decide +kernel
theorem dX9_judge_9 : decode cX9_judge 9 = .ok (.ifnonnull 5, 3) := by decide +kernel
theorem dX9_judge_12 : decode cX9_judge 12 = .ok (.iconst (-1), 1) := by decide +kernel
theorem dX9_judge_13 : decode cX9_judge 13 = .ok (.ireturn, 1) := by decide +kernel
theorem dX9_judge_14 : decode cX9_judge 14 = .ok (.iload_n 3, 1) := by decide +kernel
theorem dX9_judge_15 : decode cX9_judge 15 = .ok (.ifCond .lt 14, 3) := by decide +kernel
theorem dX9_judge_18 : decode cX9_judge 18 = .ok (.iload_n 3, 1) := by decide +kernel
theorem dX9_judge_19 : decode cX9_judge 19 = .ok (.aload_n 0, 1) := by decide +kernel
theorem dX9_judge_20 : decode cX9_judge 20 = .ok (.getfield 14, 3) := by decide +kernel
theorem dX9_judge_23 : decode cX9_judge 23 = .ok (.getfield 180, 3) := by decide +kernel
theorem dX9_judge_26 : decode cX9_judge 26 = .ok (.if_icmp .le 6, 3) := by decide +kernel
theorem dX9_judge_29 : decode cX9_judge 29 = .ok (.bipush (-2), 2) := by decide +kernel
theorem dX9_judge_31 : decode cX9_judge 31 = .ok (.ireturn, 1) := by decide +kernel
theorem dX9_judge_32 : decode cX9_judge 32 = .ok (.aload 4, 2) := by decide +kernel
theorem dX9_judge_34 : decode cX9_judge 34 = .ok (.invokevirtual 270, 3) := by decide +kernel
theorem dX9_judge_37 : decode cX9_judge 37 = .ok (.ifCond .eq 15, 3) := by decide +kernel
theorem dX9_judge_40 : decode cX9_judge 40 = .ok (.aload 4, 2) := by decide +kernel
theorem dX9_judge_42 : decode cX9_judge 42 = .ok (.getfield 274, 3) := by decide +kernel
theorem dX9_judge_45 : decode cX9_judge 45 = .ok (.iconst 4, 1) := by decide +kernel
theorem dX9_judge_46 : decode cX9_judge 46 = .ok (.if_icmp .eq 6, 3) := by decide +kernel
theorem dX9_judge_49 : decode cX9_judge 49 = .ok (.bipush (-12), 2) := by decide +kernel
theorem dX9_judge_51 : decode cX9_judge 51 = .ok (.ireturn, 1) := by decide +kernel
theorem dX9_judge_52 : decode cX9_judge 52 = .ok (.aload_n 0, 1) := by decide +kernel
theorem dX9_judge_53 : decode cX9_judge 53 = .ok (.getfield 48, 3) := by decide +kernel
theorem dX9_judge_56 : decode cX9_judge 56 = .ok (.aload_n 0, 1) := by decide +kernel
theorem dX9_judge_57 : decode cX9_judge 57 = .ok (.getfield 14, 3) := by decide +kernel
theorem dX9_judge_60 : decode cX9_judge 60 = .ok (.aload_n 0, 1) := by decide +kernel
theorem dX9_judge_61 : decode cX9_judge 61 = .ok (.getfield 21, 3) := by decide +kernel
theorem dX9_judge_64 : decode cX9_judge 64 = .ok (.iload_n 3, 1) := by decide +kernel
theorem dX9_judge_65 : decode cX9_judge 65 = .ok (.invokevirtual 190, 3) := by decide +kernel
theorem dX9_judge_68 : decode cX9_judge 68 = .ok (.iconst 0, 1) := by decide +kernel
theorem dX9_judge_69 : decode cX9_judge 69 = .ok (.istore 5, 2) := by decide +kernel
theorem dX9_judge_71 : decode cX9_judge 71 = .ok (.iload 5, 2) := by decide +kernel
theorem dX9_judge_73 : decode cX9_judge 73 = .ok (.aload_n 0, 1) := by decide +kernel
theorem dX9_judge_74 : decode cX9_judge 74 = .ok (.getfield 21, 3) := by decide +kernel
theorem dX9_judge_77 : decode cX9_judge 77 = .ok (.getfield 81, 3) := by decide +kernel
theorem dX9_judge_80 : decode cX9_judge 80 = .ok (.if_icmp .ge 85, 3) := by decide +kernel
theorem dX9_judge_83 : decode cX9_judge 83 = .ok (.aload 4, 2) := by decide +kernel
theorem dX9_judge_85 : decode cX9_judge 85 = .ok (.invokevirtual 270, 3) := by decide +kernel
theorem dX9_judge_88 : decode cX9_judge 88 = .ok (.ifCond .eq 19, 3) := by decide +kernel
theorem dX9_judge_91 : decode cX9_judge 91 = .ok (.iload_n 2, 1) := by decide +kernel
theorem dX9_judge_92 : decode cX9_judge 92 = .ok (.ifCond .lt 15, 3) := by decide +kernel
theorem dX9_judge_95 : decode cX9_judge 95 = .ok (.iload_n 2, 1) := by decide +kernel
theorem dX9_judge_96 : decode cX9_judge 96 = .ok (.aload 4, 2) := by decide +kernel
theorem dX9_judge_98 : decode cX9_judge 98 = .ok (.getfield 277, 3) := by decide +kernel
theorem dX9_judge_101 : decode cX9_judge 101 = .ok (.iload 5, 2) := by decide +kernel
theorem dX9_judge_103 : decode cX9_judge 103 = .ok (.isub, 1) := by decide +kernel
theorem dX9_judge_104 : decode cX9_judge 104 = .ok (.if_icmp .lt 9, 3) := by decide +kernel
theorem dX9_judge_107 : decode cX9_judge 107 = .ok (.bipush 100, 2) := by decide +kernel
theorem dX9_judge_109 : decode cX9_judge 109 = .ok (.iload 5, 2) := by decide +kernel
theorem dX9_judge_111 : decode cX9_judge 111 = .ok (.iadd, 1) := by decide +kernel
theorem dX9_judge_112 : decode cX9_judge 112 = .ok (.ireturn, 1) := by decide +kernel
theorem dX9_judge_113 : decode cX9_judge 113 = .ok (.aload_n 0, 1) := by decide +kernel
theorem dX9_judge_114 : decode cX9_judge 114 = .ok (.getfield 21, 3) := by decide +kernel
theorem dX9_judge_117 : decode cX9_judge 117 = .ok (.iload 5, 2) := by decide +kernel
theorem dX9_judge_119 : decode cX9_judge 119 = .ok (.invokevirtual 94, 3) := by decide +kernel
theorem dX9_judge_122 : decode cX9_judge 122 = .ok (.astore 6, 2) := by decide +kernel
theorem dX9_judge_124 : decode cX9_judge 124 = .ok (.aload 6, 2) := by decide +kernel
theorem dX9_judge_126 : decode cX9_judge 126 = .ok (.ifnull 33, 3) := by decide +kernel
theorem dX9_judge_129 : decode cX9_judge 129 = .ok (.aload 6, 2) := by decide +kernel
theorem dX9_judge_131 : decode cX9_judge 131 = .ok (.getfield 101, 3) := by decide +kernel
theorem dX9_judge_134 : decode cX9_judge 134 = .ok (.aload 4, 2) := by decide +kernel
theorem dX9_judge_136 : decode cX9_judge 136 = .ok (.iload_n 2, 1) := by decide +kernel
theorem dX9_judge_137 : decode cX9_judge 137 = .ok (.iload 5, 2) := by decide +kernel
theorem dX9_judge_139 : decode cX9_judge 139 = .ok (.iadd, 1) := by decide +kernel
theorem dX9_judge_140 : decode cX9_judge 140 = .ok (.invokevirtual 280, 3) := by decide +kernel
theorem dX9_judge_143 : decode cX9_judge 143 = .ok (.lconst 0, 1) := by decide +kernel
theorem dX9_judge_144 : decode cX9_judge 144 = .ok (.lcmp, 1) := by decide +kernel
theorem dX9_judge_145 : decode cX9_judge 145 = .ok (.ifCond .eq 7, 3) := by decide +kernel
theorem dX9_judge_148 : decode cX9_judge 148 = .ok (.iconst 1, 1) := by decide +kernel
theorem dX9_judge_149 : decode cX9_judge 149 = .ok (.goto 4, 3) := by decide +kernel
theorem dX9_judge_152 : decode cX9_judge 152 = .ok (.iconst 0, 1) := by decide +kernel
theorem dX9_judge_153 : decode cX9_judge 153 = .ok (.if_icmp .eq 6, 3) := by decide +kernel
theorem dX9_judge_156 : decode cX9_judge 156 = .ok (.iload 5, 2) := by decide +kernel
theorem dX9_judge_158 : decode cX9_judge 158 = .ok (.ireturn, 1) := by decide +kernel
theorem dX9_judge_159 : decode cX9_judge 159 = .ok (.iinc 5 1, 3) := by decide +kernel
theorem dX9_judge_162 : decode cX9_judge 162 = .ok (.goto (-91), 3) := by decide +kernel
theorem dX9_judge_165 : decode cX9_judge 165 = .ok (.bipush (-5), 2) := by decide +kernel
theorem dX9_judge_167 : decode cX9_judge 167 = .ok (.ireturn, 1) := by decide +kernel
def f_X9_judge_L71 (n0 : Nat) (c2 : Int32) (u : PM) : Int32 → Option ((Int32) ⊕ ((Int32 × PM) ⊕ (Unit))) := fun x5 =>
  if (u.1 (1, 2, 0) 0) ≤ x5 then
    some (.inr (.inr ()))
  else
  (f_X7_isRow n0 u).bind fun r9 =>
  if r9 = 0 then
    some (.inr (.inl ((100 : Int32) + x5, u)))
  else
  if c2 < 0 then
    some (.inr (.inl ((100 : Int32) + x5, u)))
  else
  if c2 < ((u.1 (32, n0, 0) 1) - x5) then
    (f_X8_find 2 x5 u).bind fun r11 =>
    match r11 with
    | none =>
      some (.inl (x5 + (1 : Int32)))
    | some p13 =>
      if p13 < 6 then
        (f_X7_get n0 (c2 + x5) u).bind fun r15 =>
        if (lg_cmp r15 (0 : Int64)) = 0 then
          if (u.1 (3, 2, p13) 1) = (0 : Int32) then
            some (.inl (x5 + (1 : Int32)))
          else
          some (.inr (.inl (x5, u)))
        else
        if (u.1 (3, 2, p13) 1) = (1 : Int32) then
          some (.inl (x5 + (1 : Int32)))
        else
        some (.inr (.inl (x5, u)))
      else none
  else
  some (.inr (.inl ((100 : Int32) + x5, u)))
set_option maxHeartbeats 4000000 in
set_option maxRecDepth 20000 in
theorem K_X9_judge_L71 {l : Launch} {T : Option AV × List Key × AM} {n0 : Nat} (hn0 : n0 < 6) {c2 : Int32} {u : PM} : ∀ (n : Nat) (s : Int32) (e0 : (Int32 × PM) ⊕ (Unit)), am_loop (f_X9_judge_L71 n0 c2 u) n s = some e0 → Sum.elim (fun r : Int32 × PM => T = (some (vI r.1), kC, en r.2)) (fun e : Unit => X l mX9_judge 8 0 0 false T kC 0 0 165 [none, none, none, none, none, none, none] [] (en u)) e0 → X l mX9_judge 8 0 0 false T kC 0 0 71 [some (vR (0, 0, 0)), none, some (vI c2), none, some (vR (32, n0, 0)), some (vI s), none] [] (en u) := by
  refine am_loop_of ?_
  intro s x hf k1 k2
  obtain ⟨x5, rfl⟩ : ∃ z, z = s := ⟨_, rfl⟩
  unfold f_X9_judge_L71 at hf
  show X l mX9_judge 8 0 0 false T kC 0 0 71 [some (vR (0, 0, 0)), none, some (vI c2), none, some (vR (32, n0, 0)), some (vI x5), none] [] (en u)
  refine r_iload (x := x5) dX9_judge_71 rfl ?_
  refine r_aload_n (x := (0, 0, 0)) dX9_judge_73 rfl ?_
  refine e_getr (z := some (1, 2, 0)) fw_X9_21 dX9_judge_74 (kC_mem (s := 0) (by decide) (by decide) (by decide)) rfl (lt_b rfl) rfl ?_
  refine e_geti fw_X9_81 dX9_judge_77 (kC_mem (s := 1) (by decide) (by decide) (by decide)) rfl (lt_b rfl) ?_
  refine r_icmp_ge (tgt := 165) dX9_judge_80 (by decide) (fun hc => ?_) (fun hc => ?_)
  · have hf := (am_if hf).1 hc
    refine r_weak (L' := [none, none, none, none, none, none, none]) trivial ?_
    exact k2 (.inr ()) (am_inj hf).symm
  · have hf := (am_if hf).2 hc
    refine r_aload (x := (32, n0, 0)) dX9_judge_83 rfl ?_
    obtain ⟨r9, hr10, hf⟩ := am_bind hf
    refine r_callV (as := []) (st := []) (n := 0) mw_X9_270 mv_X7_isRow (C_X7_isRow (l := l) hn0 hr10) (le_b rfl) dX9_judge_85 (kC_mem (s := 32) (by decide) hn0 (by decide)) rfl rfl rfl (le_b rfl) (le_b rfl) (le_b rfl) ?_
    show X l _ _ 0 0 false _ kC 0 0 88 [some (vR (0, 0, 0)), none, some (vI c2), none, some (vR (32, n0, 0)), some (vI x5), none] [vI r9] (en u)
    refine r_if_eq (tgt := 107) dX9_judge_88 (by decide) (fun hc => ?_) (fun hc => ?_)
    · have hf := (am_if hf).1 hc
      refine r_bipush (v := 100) dX9_judge_107 rfl ?_
      refine r_iload (x := x5) dX9_judge_109 rfl ?_
      refine r_iadd dX9_judge_111 ?_
      have hT := k2 _ (am_inj hf).symm
      replace hT : T = (some (vI ((100 : Int32) + x5)), kC, en u) := hT
      subst hT
      exact r_iret dX9_judge_112 rfl rfl (le_b rfl) (le_b rfl)
    · have hf := (am_if hf).2 hc
      refine r_iload_n (x := c2) dX9_judge_91 rfl ?_
      refine r_if_lt (tgt := 107) dX9_judge_92 (by decide) (fun hc => ?_) (fun hc => ?_)
      · have hf := (am_if hf).1 hc
        refine r_bipush (v := 100) dX9_judge_107 rfl ?_
        refine r_iload (x := x5) dX9_judge_109 rfl ?_
        refine r_iadd dX9_judge_111 ?_
        have hT := k2 _ (am_inj hf).symm
        replace hT : T = (some (vI ((100 : Int32) + x5)), kC, en u) := hT
        subst hT
        exact r_iret dX9_judge_112 rfl rfl (le_b rfl) (le_b rfl)
      · have hf := (am_if hf).2 hc
        refine r_iload_n (x := c2) dX9_judge_95 rfl ?_
        refine r_aload (x := (32, n0, 0)) dX9_judge_96 rfl ?_
        refine e_geti fw_X9_277 dX9_judge_98 (kC_mem (s := 32) (by decide) hn0 (by decide)) rfl (lt_b rfl) ?_
        refine r_iload (x := x5) dX9_judge_101 rfl ?_
        refine r_isub dX9_judge_103 ?_
        refine r_icmp_lt (tgt := 113) dX9_judge_104 (by decide) (fun hc => ?_) (fun hc => ?_)
        · have hf := (am_if hf).1 hc
          refine r_aload_n (x := (0, 0, 0)) dX9_judge_113 rfl ?_
          refine e_getr (z := some (1, 2, 0)) fw_X9_21 dX9_judge_114 (kC_mem (s := 0) (by decide) (by decide) (by decide)) rfl (lt_b rfl) rfl ?_
          refine r_iload (x := x5) dX9_judge_117 rfl ?_
          obtain ⟨r11, hr12, hf⟩ := am_bind hf
          refine r_callV (as := [vI x5]) (st := []) (n := 1) mw_X9_94 mv_X8_find (C_X8_find (l := l) (by decide) hr12) (le_b rfl) dX9_judge_119 (kC_mem (s := 1) (by decide) (by decide) (by decide)) rfl rfl rfl (le_b rfl) (le_b rfl) (le_b rfl) ?_
          cases r11 with
          | none =>
            show X l _ _ 0 0 false _ kC 0 0 122 [some (vR (0, 0, 0)), none, some (vI c2), none, some (vR (32, n0, 0)), some (vI x5), none] [vN] (en u)
            refine r_astoreN (L' := [some (vR (0, 0, 0)), none, some (vI c2), none, some (vR (32, n0, 0)), some (vI x5), some (vN)]) dX9_judge_122 (by decide) rfl ?_
            refine r_aloadN dX9_judge_124 rfl ?_
            refine r_ifnullN (tgt := 159) dX9_judge_126 (by decide) ?_
            refine r_iinc (x := x5) (v := x5 + (1 : Int32)) (L' := [some (vR (0, 0, 0)), none, some (vI c2), none, some (vR (32, n0, 0)), some (vI (x5 + (1 : Int32))), some (vN)]) dX9_judge_159 rfl rfl (lt_b rfl) rfl ?_
            refine r_goto (tgt := 71) dX9_judge_162 (by decide) ?_
            refine r_weak (L' := [some (vR (0, 0, 0)), none, some (vI c2), none, some (vR (32, n0, 0)), some (vI (x5 + (1 : Int32))), none]) (And.intro rfl (And.intro rfl (And.intro rfl (And.intro rfl trivial)))) ?_
            exact k1 (x5 + (1 : Int32)) (am_inj hf).symm
          | some p13 =>
            obtain ⟨h14, hf⟩ := am_chk hf
            show X l _ _ 0 0 false _ kC 0 0 122 [some (vR (0, 0, 0)), none, some (vI c2), none, some (vR (32, n0, 0)), some (vI x5), none] [vR (3, 2, p13)] (en u)
            refine r_astore (L' := [some (vR (0, 0, 0)), none, some (vI c2), none, some (vR (32, n0, 0)), some (vI x5), some (vR (3, 2, p13))]) dX9_judge_122 (by decide) rfl ?_
            refine r_aload (x := (3, 2, p13)) dX9_judge_124 rfl ?_
            refine r_ifnullR dX9_judge_126 ?_
            refine r_aload (x := (3, 2, p13)) dX9_judge_129 rfl ?_
            refine e_geti fw_X9_101 dX9_judge_131 (kC_mem (s := 3) (by decide) (by decide) h14) rfl (lt_b rfl) ?_
            refine r_aload (x := (32, n0, 0)) dX9_judge_134 rfl ?_
            refine r_iload_n (x := c2) dX9_judge_136 rfl ?_
            refine r_iload (x := x5) dX9_judge_137 rfl ?_
            refine r_iadd dX9_judge_139 ?_
            obtain ⟨r15, hr16, hf⟩ := am_bind hf
            refine r_callV (as := [vI (c2 + x5)]) (st := [vI (u.1 (3, 2, p13) 1)]) (n := 1) mw_X9_280 mv_X7_get (C_X7_get (l := l) hn0 hr16) (le_b rfl) dX9_judge_140 (kC_mem (s := 32) (by decide) hn0 (by decide)) rfl rfl rfl (le_b rfl) (le_b rfl) (le_b rfl) ?_
            show X l _ _ 0 0 false _ kC 0 0 143 [some (vR (0, 0, 0)), none, some (vI c2), none, some (vR (32, n0, 0)), some (vI x5), some (vR (3, 2, p13))] [vJ r15, vI (u.1 (3, 2, p13) 1)] (en u)
            refine r_lconst (v := 0) dX9_judge_143 rfl ?_
            refine r_lcmp dX9_judge_144 ?_
            refine r_if_eq (tgt := 152) dX9_judge_145 (by decide) (fun hc => ?_) (fun hc => ?_)
            · have hf := (am_if hf).1 hc
              refine r_iconst (v := 0) dX9_judge_152 rfl ?_
              refine r_icmp_eq (tgt := 159) dX9_judge_153 (by decide) (fun hc => ?_) (fun hc => ?_)
              · have hf := (am_if hf).1 hc
                refine r_iinc (x := x5) (v := x5 + (1 : Int32)) (L' := [some (vR (0, 0, 0)), none, some (vI c2), none, some (vR (32, n0, 0)), some (vI (x5 + (1 : Int32))), some (vR (3, 2, p13))]) dX9_judge_159 rfl rfl (lt_b rfl) rfl ?_
                refine r_goto (tgt := 71) dX9_judge_162 (by decide) ?_
                refine r_weak (L' := [some (vR (0, 0, 0)), none, some (vI c2), none, some (vR (32, n0, 0)), some (vI (x5 + (1 : Int32))), none]) (And.intro rfl (And.intro rfl (And.intro rfl (And.intro rfl trivial)))) ?_
                exact k1 (x5 + (1 : Int32)) (am_inj hf).symm
              · have hf := (am_if hf).2 hc
                refine r_iload (x := x5) dX9_judge_156 rfl ?_
                have hT := k2 _ (am_inj hf).symm
                replace hT : T = (some (vI x5), kC, en u) := hT
                subst hT
                exact r_iret dX9_judge_158 rfl rfl (le_b rfl) (le_b rfl)
            · have hf := (am_if hf).2 hc
              refine r_iconst (v := 1) dX9_judge_148 rfl ?_
              refine r_goto (tgt := 153) dX9_judge_149 (by decide) ?_
              refine r_icmp_eq (tgt := 159) dX9_judge_153 (by decide) (fun hc => ?_) (fun hc => ?_)
              · have hf := (am_if hf).1 hc
                refine r_iinc (x := x5) (v := x5 + (1 : Int32)) (L' := [some (vR (0, 0, 0)), none, some (vI c2), none, some (vR (32, n0, 0)), some (vI (x5 + (1 : Int32))), some (vR (3, 2, p13))]) dX9_judge_159 rfl rfl (lt_b rfl) rfl ?_
                refine r_goto (tgt := 71) dX9_judge_162 (by decide) ?_
                refine r_weak (L' := [some (vR (0, 0, 0)), none, some (vI c2), none, some (vR (32, n0, 0)), some (vI (x5 + (1 : Int32))), none]) (And.intro rfl (And.intro rfl (And.intro rfl (And.intro rfl trivial)))) ?_
                exact k1 (x5 + (1 : Int32)) (am_inj hf).symm
              · have hf := (am_if hf).2 hc
                refine r_iload (x := x5) dX9_judge_156 rfl ?_
                have hT := k2 _ (am_inj hf).symm
                replace hT : T = (some (vI x5), kC, en u) := hT
                subst hT
                exact r_iret dX9_judge_158 rfl rfl (le_b rfl) (le_b rfl)
        · have hf := (am_if hf).2 hc
          refine r_bipush (v := 100) dX9_judge_107 rfl ?_
          refine r_iload (x := x5) dX9_judge_109 rfl ?_
          refine r_iadd dX9_judge_111 ?_
          have hT := k2 _ (am_inj hf).symm
          replace hT : T = (some (vI ((100 : Int32) + x5)), kC, en u) := hT
          subst hT
          exact r_iret dX9_judge_112 rfl rfl (le_b rfl) (le_b rfl)
def f_X9_judge  (a0 : Int32) (a1 : Int32) (a2 : Int32) (u : PM) : Option (Int32 × PM) :=
  (f_X9_findTape a0 u).bind fun r1 =>
  match r1 with
  | none =>
    some ((-1 : Int32), u)
  | some p3 =>
    if p3 < 6 then
      if a2 < 0 then
        some ((-2 : Int32), u)
      else
      if a2 ≤ (u.1 (1, 0, 0) 6) then
        (f_X7_isRow p3 u).bind fun r5 =>
        if r5 = 0 then
          (f_X1_passNights 0 2 a2 u).bind fun r7 =>
          (am_loop (f_X9_judge_L71 p3 a1 r7) 2000 ((0 : Int32))).bind fun e17 =>
          match e17 with
          | .inl q19 => some q19
          | .inr _ =>
            some ((-5 : Int32), r7)
        else
        if (u.1 (32, p3, 0) 0) = (4 : Int32) then
          (f_X1_passNights 0 2 a2 u).bind fun r20 =>
          (am_loop (f_X9_judge_L71 p3 a1 r20) 2000 ((0 : Int32))).bind fun e22 =>
          match e22 with
          | .inl q24 => some q24
          | .inr _ =>
            some ((-5 : Int32), r20)
        else
        some ((-12 : Int32), u)
      else
      some ((-2 : Int32), u)
    else none
set_option maxHeartbeats 4000000 in
set_option maxRecDepth 20000 in
theorem C_X9_judge {l : Launch}  {a0 : Int32} {a1 : Int32} {a2 : Int32} {u : PM} {x : Int32 × PM} (hf : f_X9_judge a0 a1 a2 u = some x) : Ev l mX9_judge 8 0 0 false [vR (0, 0, 0), vI a0, vI a1, vI a2] kC (en u) (some (vI x.1), kC, en x.2) := by
  refine Ev_of (by decide +kernel) (le_b rfl) ?_
  unfold f_X9_judge at hf
  show X l mX9_judge 8 0 0 false _ kC 0 0 0 [some (vR (0, 0, 0)), some (vI a0), some (vI a1), some (vI a2), none, none, none] [] (en u)
  refine r_aload_n (x := (0, 0, 0)) dX9_judge_0 rfl ?_
  refine r_iload_n (x := a0) dX9_judge_1 rfl ?_
  obtain ⟨r1, hr2, hf⟩ := am_bind hf
  refine r_callV (as := [vI a0]) (st := []) (n := 1) mw_X9_266 mv_X9_findTape (C_X9_findTape (l := l) hr2) (le_b rfl) dX9_judge_2 (kC_mem (s := 0) (by decide) (by decide) (by decide)) rfl rfl rfl (le_b rfl) (le_b rfl) (le_b rfl) ?_
  cases r1 with
  | none =>
    show X l _ _ 0 0 false _ kC 0 0 5 [some (vR (0, 0, 0)), some (vI a0), some (vI a1), some (vI a2), none, none, none] [vN] (en u)
    refine r_astoreN (L' := [some (vR (0, 0, 0)), some (vI a0), some (vI a1), some (vI a2), some (vN), none, none]) dX9_judge_5 (by decide) rfl ?_
    refine r_aloadN dX9_judge_7 rfl ?_
    refine r_ifnonnullN dX9_judge_9 ?_
    refine r_iconst (v := -1) dX9_judge_12 rfl ?_
    have hx := am_inj hf
    subst hx
    exact r_iret dX9_judge_13 rfl rfl (le_b rfl) (le_b rfl)
  | some p3 =>
    obtain ⟨h4, hf⟩ := am_chk hf
    show X l _ _ 0 0 false _ kC 0 0 5 [some (vR (0, 0, 0)), some (vI a0), some (vI a1), some (vI a2), none, none, none] [vR (32, p3, 0)] (en u)
    refine r_astore (L' := [some (vR (0, 0, 0)), some (vI a0), some (vI a1), some (vI a2), some (vR (32, p3, 0)), none, none]) dX9_judge_5 (by decide) rfl ?_
    refine r_aload (x := (32, p3, 0)) dX9_judge_7 rfl ?_
    refine r_ifnonnullR (tgt := 14) dX9_judge_9 (by decide) ?_
    refine r_iload_n (x := a2) dX9_judge_14 rfl ?_
    refine r_if_lt (tgt := 29) dX9_judge_15 (by decide) (fun hc => ?_) (fun hc => ?_)
    · have hf := (am_if hf).1 hc
      refine r_bipush (v := -2) dX9_judge_29 rfl ?_
      have hx := am_inj hf
      subst hx
      exact r_iret dX9_judge_31 rfl rfl (le_b rfl) (le_b rfl)
    · have hf := (am_if hf).2 hc
      refine r_iload_n (x := a2) dX9_judge_18 rfl ?_
      refine r_aload_n (x := (0, 0, 0)) dX9_judge_19 rfl ?_
      refine e_getr (z := some (1, 0, 0)) fw_X9_14 dX9_judge_20 (kC_mem (s := 0) (by decide) (by decide) (by decide)) rfl (lt_b rfl) rfl ?_
      refine e_geti fw_X9_180 dX9_judge_23 (kC_mem (s := 1) (by decide) (by decide) (by decide)) rfl (lt_b rfl) ?_
      refine r_icmp_le (tgt := 32) dX9_judge_26 (by decide) (fun hc => ?_) (fun hc => ?_)
      · have hf := (am_if hf).1 hc
        refine r_aload (x := (32, p3, 0)) dX9_judge_32 rfl ?_
        obtain ⟨r5, hr6, hf⟩ := am_bind hf
        refine r_callV (as := []) (st := []) (n := 0) mw_X9_270 mv_X7_isRow (C_X7_isRow (l := l) h4 hr6) (le_b rfl) dX9_judge_34 (kC_mem (s := 32) (by decide) h4 (by decide)) rfl rfl rfl (le_b rfl) (le_b rfl) (le_b rfl) ?_
        show X l _ _ 0 0 false _ kC 0 0 37 [some (vR (0, 0, 0)), some (vI a0), some (vI a1), some (vI a2), some (vR (32, p3, 0)), none, none] [vI r5] (en u)
        refine r_if_eq (tgt := 52) dX9_judge_37 (by decide) (fun hc => ?_) (fun hc => ?_)
        · have hf := (am_if hf).1 hc
          refine r_aload_n (x := (0, 0, 0)) dX9_judge_52 rfl ?_
          refine e_getr (z := some (20, 0, 0)) fw_X9_48 dX9_judge_53 (kC_mem (s := 0) (by decide) (by decide) (by decide)) rfl (lt_b rfl) rfl ?_
          refine r_aload_n (x := (0, 0, 0)) dX9_judge_56 rfl ?_
          refine e_getr (z := some (1, 0, 0)) fw_X9_14 dX9_judge_57 (kC_mem (s := 0) (by decide) (by decide) (by decide)) rfl (lt_b rfl) rfl ?_
          refine r_aload_n (x := (0, 0, 0)) dX9_judge_60 rfl ?_
          refine e_getr (z := some (1, 2, 0)) fw_X9_21 dX9_judge_61 (kC_mem (s := 0) (by decide) (by decide) (by decide)) rfl (lt_b rfl) rfl ?_
          refine r_iload_n (x := a2) dX9_judge_64 rfl ?_
          obtain ⟨r7, hr8, hf⟩ := am_bind hf
          refine r_callV (as := [vR (1, 0, 0), vR (1, 2, 0), vI a2]) (st := []) (n := 3) mw_X9_190 mv_X1_passNights (C_X1_passNights (l := l) (by decide) (by decide) hr8) (le_b rfl) dX9_judge_65 (kC_mem (s := 20) (by decide) (by decide) (by decide)) rfl rfl rfl (le_b rfl) (le_b rfl) (le_b rfl) ?_
          show X l _ _ 0 0 false _ kC 0 0 68 [some (vR (0, 0, 0)), some (vI a0), some (vI a1), some (vI a2), some (vR (32, p3, 0)), none, none] [] (en r7)
          refine r_iconst (v := 0) dX9_judge_68 rfl ?_
          refine r_istore (L' := [some (vR (0, 0, 0)), some (vI a0), some (vI a1), some (vI a2), some (vR (32, p3, 0)), some (vI (0 : Int32)), none]) dX9_judge_69 (by decide) rfl ?_
          refine r_weak (L' := [some (vR (0, 0, 0)), none, some (vI a1), none, some (vR (32, p3, 0)), some (vI (0 : Int32)), none]) (And.intro rfl (And.intro rfl (And.intro rfl (And.intro rfl trivial)))) ?_
          obtain ⟨e17, he18, hf⟩ := am_bind hf
          refine K_X9_judge_L71 h4 2000 ((0 : Int32)) _ he18 ?_
          rcases e17 with q19 | e17
          · have hx := am_inj hf
            subst hx
            rfl
          · show X l _ _ 0 0 false _ kC 0 0 165 [none, none, none, none, none, none, none] [] (en r7)
            refine r_bipush (v := -5) dX9_judge_165 rfl ?_
            have hx := am_inj hf
            subst hx
            exact r_iret dX9_judge_167 rfl rfl (le_b rfl) (le_b rfl)
        · have hf := (am_if hf).2 hc
          refine r_aload (x := (32, p3, 0)) dX9_judge_40 rfl ?_
          refine e_geti fw_X9_274 dX9_judge_42 (kC_mem (s := 32) (by decide) h4 (by decide)) rfl (lt_b rfl) ?_
          refine r_iconst (v := 4) dX9_judge_45 rfl ?_
          refine r_icmp_eq (tgt := 52) dX9_judge_46 (by decide) (fun hc => ?_) (fun hc => ?_)
          · have hf := (am_if hf).1 hc
            refine r_aload_n (x := (0, 0, 0)) dX9_judge_52 rfl ?_
            refine e_getr (z := some (20, 0, 0)) fw_X9_48 dX9_judge_53 (kC_mem (s := 0) (by decide) (by decide) (by decide)) rfl (lt_b rfl) rfl ?_
            refine r_aload_n (x := (0, 0, 0)) dX9_judge_56 rfl ?_
            refine e_getr (z := some (1, 0, 0)) fw_X9_14 dX9_judge_57 (kC_mem (s := 0) (by decide) (by decide) (by decide)) rfl (lt_b rfl) rfl ?_
            refine r_aload_n (x := (0, 0, 0)) dX9_judge_60 rfl ?_
            refine e_getr (z := some (1, 2, 0)) fw_X9_21 dX9_judge_61 (kC_mem (s := 0) (by decide) (by decide) (by decide)) rfl (lt_b rfl) rfl ?_
            refine r_iload_n (x := a2) dX9_judge_64 rfl ?_
            obtain ⟨r20, hr21, hf⟩ := am_bind hf
            refine r_callV (as := [vR (1, 0, 0), vR (1, 2, 0), vI a2]) (st := []) (n := 3) mw_X9_190 mv_X1_passNights (C_X1_passNights (l := l) (by decide) (by decide) hr21) (le_b rfl) dX9_judge_65 (kC_mem (s := 20) (by decide) (by decide) (by decide)) rfl rfl rfl (le_b rfl) (le_b rfl) (le_b rfl) ?_
            show X l _ _ 0 0 false _ kC 0 0 68 [some (vR (0, 0, 0)), some (vI a0), some (vI a1), some (vI a2), some (vR (32, p3, 0)), none, none] [] (en r20)
            refine r_iconst (v := 0) dX9_judge_68 rfl ?_
            refine r_istore (L' := [some (vR (0, 0, 0)), some (vI a0), some (vI a1), some (vI a2), some (vR (32, p3, 0)), some (vI (0 : Int32)), none]) dX9_judge_69 (by decide) rfl ?_
            refine r_weak (L' := [some (vR (0, 0, 0)), none, some (vI a1), none, some (vR (32, p3, 0)), some (vI (0 : Int32)), none]) (And.intro rfl (And.intro rfl (And.intro rfl (And.intro rfl trivial)))) ?_
            obtain ⟨e22, he23, hf⟩ := am_bind hf
            refine K_X9_judge_L71 h4 2000 ((0 : Int32)) _ he23 ?_
            rcases e22 with q24 | e22
            · have hx := am_inj hf
              subst hx
              rfl
            · show X l _ _ 0 0 false _ kC 0 0 165 [none, none, none, none, none, none, none] [] (en r20)
              refine r_bipush (v := -5) dX9_judge_165 rfl ?_
              have hx := am_inj hf
              subst hx
              exact r_iret dX9_judge_167 rfl rfl (le_b rfl) (le_b rfl)
          · have hf := (am_if hf).2 hc
            refine r_bipush (v := -12) dX9_judge_49 rfl ?_
            have hx := am_inj hf
            subst hx
            exact r_iret dX9_judge_51 rfl rfl (le_b rfl) (le_b rfl)
      · have hf := (am_if hf).2 hc
        refine r_bipush (v := -2) dX9_judge_29 rfl ?_
        have hx := am_inj hf
        subst hx
        exact r_iret dX9_judge_31 rfl rfl (le_b rfl) (le_b rfl)
/-! FireFromFire.image -/
theorem dX9_image_0 : decode cX9_image 0 = .ok (.aload_n 0, 1) := by decide +kernel
theorem dX9_image_1 : decode cX9_image 1 = .ok (.getfield 18, 3) := by decide +kernel
theorem dX9_image_4 : decode cX9_image 4 = .ok (.aload_n 0, 1) := by decide +kernel
theorem dX9_image_5 : decode cX9_image 5 = .ok (.getfield 14, 3) := by decide +kernel
theorem dX9_image_8 : decode cX9_image 8 = .ok (.invokevirtual 240, 3) := by decide +kernel
theorem dX9_image_11 : decode cX9_image 11 = .ok (.aload_n 0, 1) := by decide +kernel
theorem dX9_image_12 : decode cX9_image 12 = .ok (.iconst 1, 1) := by decide +kernel
theorem dX9_image_13 : decode cX9_image 13 = .ok (.putfield 24, 3) := by decide +kernel
theorem dX9_image_16 : decode cX9_image 16 = .ok (.aload_n 0, 1) := by decide +kernel
theorem dX9_image_17 : decode cX9_image 17 = .ok (.getfield 14, 3) := by decide +kernel
theorem dX9_image_20 : decode cX9_image 20 = .ok (.getfield 169, 3) := by decide +kernel
theorem dX9_image_23 : decode cX9_image 23 = .ok (.ireturn, 1) := by decide +kernel
def f_X9_image   (u : PM) : Option (Int32 × PM) :=
  (f_X8_copy 1 0 u).bind fun r1 =>
  some (r1.1 (1, 0, 0) 4, (pi r1 (0, 0, 0) 3 (1 : Int32)))
set_option maxHeartbeats 4000000 in
set_option maxRecDepth 20000 in
theorem C_X9_image {l : Launch}   {u : PM} {x : Int32 × PM} (hf : f_X9_image u = some x) : Ev l mX9_image 4 0 0 false [vR (0, 0, 0)] kC (en u) (some (vI x.1), kC, en x.2) := by
  refine Ev_of (by decide +kernel) (le_b rfl) ?_
  unfold f_X9_image at hf
  show X l mX9_image 4 0 0 false _ kC 0 0 0 [some (vR (0, 0, 0))] [] (en u)
  refine r_aload_n (x := (0, 0, 0)) dX9_image_0 rfl ?_
  refine e_getr (z := some (1, 1, 0)) fw_X9_18 dX9_image_1 (kC_mem (s := 0) (by decide) (by decide) (by decide)) rfl (lt_b rfl) rfl ?_
  refine r_aload_n (x := (0, 0, 0)) dX9_image_4 rfl ?_
  refine e_getr (z := some (1, 0, 0)) fw_X9_14 dX9_image_5 (kC_mem (s := 0) (by decide) (by decide) (by decide)) rfl (lt_b rfl) rfl ?_
  obtain ⟨r1, hr2, hf⟩ := am_bind hf
  refine r_callV (as := [vR (1, 0, 0)]) (st := []) (n := 1) mw_X9_240 mv_X8_copy (C_X8_copy (l := l) (by decide) (by decide) hr2) (le_b rfl) dX9_image_8 (kC_mem (s := 1) (by decide) (by decide) (by decide)) rfl rfl rfl (le_b rfl) (le_b rfl) (le_b rfl) ?_
  show X l _ _ 0 0 false _ kC 0 0 11 [some (vR (0, 0, 0))] [] (en r1)
  refine r_aload_n (x := (0, 0, 0)) dX9_image_11 rfl ?_
  refine r_iconst (v := 1) dX9_image_12 rfl ?_
  refine e_puti fp_X9_24 dX9_image_13 (kC_mem (s := 0) (by decide) (by decide) (by decide)) rfl (lt_b rfl) rfl (am_bool (x := 1) (by decide)).1 (am_bool (x := 1) (by decide)).2 ?_
  refine r_aload_n (x := (0, 0, 0)) dX9_image_16 rfl ?_
  refine e_getr (z := some (1, 0, 0)) fw_X9_14 dX9_image_17 (kC_mem (s := 0) (by decide) (by decide) (by decide)) rfl (lt_b rfl) rfl ?_
  refine e_geti_ (x := r1.1 (1, 0, 0) 4) fw_X9_169 dX9_image_20 (kC_mem (s := 1) (by decide) (by decide) (by decide)) rfl (lt_b rfl) (by simp [pi, pl, pr, pci, pcl]) ?_
  have hx := am_inj hf
  subst hx
  exact r_iret dX9_image_23 rfl rfl (le_b rfl) (le_b rfl)
/-! FireFromFire.undo -/
theorem dX9_undo_0 : decode cX9_undo 0 = .ok (.aload_n 0, 1) := by decide +kernel
theorem dX9_undo_1 : decode cX9_undo 1 = .ok (.getfield 24, 3) := by decide +kernel
theorem dX9_undo_4 : decode cX9_undo 4 = .ok (.ifCond .ne 6, 3) := by decide +kernel
theorem dX9_undo_7 : decode cX9_undo 7 = .ok (.bipush (-3), 2) := by decide +kernel
theorem dX9_undo_9 : decode cX9_undo 9 = .ok (.ireturn, 1) := by decide +kernel
theorem dX9_undo_10 : decode cX9_undo 10 = .ok (.aload_n 0, 1) := by decide +kernel
theorem dX9_undo_11 : decode cX9_undo 11 = .ok (.getfield 14, 3) := by decide +kernel
theorem dX9_undo_14 : decode cX9_undo 14 = .ok (.aload_n 0, 1) := by decide +kernel
theorem dX9_undo_15 : decode cX9_undo 15 = .ok (.getfield 18, 3) := by decide +kernel
theorem dX9_undo_18 : decode cX9_undo 18 = .ok (.invokevirtual 240, 3) := by decide +kernel
theorem dX9_undo_21 : decode cX9_undo 21 = .ok (.aload_n 0, 1) := by decide +kernel
theorem dX9_undo_22 : decode cX9_undo 22 = .ok (.getfield 14, 3) := by decide +kernel
theorem dX9_undo_25 : decode cX9_undo 25 = .ok (.getfield 169, 3) := by decide +kernel
theorem dX9_undo_28 : decode cX9_undo 28 = .ok (.ireturn, 1) := by decide +kernel
def f_X9_undo   (u : PM) : Option (Int32 × PM) :=
  if (u.1 (0, 0, 0) 3) = 0 then
    some ((-3 : Int32), u)
  else
  (f_X8_copy 0 1 u).bind fun r1 =>
  some (r1.1 (1, 0, 0) 4, r1)
set_option maxHeartbeats 4000000 in
set_option maxRecDepth 20000 in
theorem C_X9_undo {l : Launch}   {u : PM} {x : Int32 × PM} (hf : f_X9_undo u = some x) : Ev l mX9_undo 4 0 0 false [vR (0, 0, 0)] kC (en u) (some (vI x.1), kC, en x.2) := by
  refine Ev_of (by decide +kernel) (le_b rfl) ?_
  unfold f_X9_undo at hf
  show X l mX9_undo 4 0 0 false _ kC 0 0 0 [some (vR (0, 0, 0))] [] (en u)
  refine r_aload_n (x := (0, 0, 0)) dX9_undo_0 rfl ?_
  refine e_geti fw_X9_24 dX9_undo_1 (kC_mem (s := 0) (by decide) (by decide) (by decide)) rfl (lt_b rfl) ?_
  refine r_if_ne (tgt := 10) dX9_undo_4 (by decide) (fun hc => ?_) (fun hc => ?_)
  · have hf := (am_if hf).2 hc
    refine r_aload_n (x := (0, 0, 0)) dX9_undo_10 rfl ?_
    refine e_getr (z := some (1, 0, 0)) fw_X9_14 dX9_undo_11 (kC_mem (s := 0) (by decide) (by decide) (by decide)) rfl (lt_b rfl) rfl ?_
    refine r_aload_n (x := (0, 0, 0)) dX9_undo_14 rfl ?_
    refine e_getr (z := some (1, 1, 0)) fw_X9_18 dX9_undo_15 (kC_mem (s := 0) (by decide) (by decide) (by decide)) rfl (lt_b rfl) rfl ?_
    obtain ⟨r1, hr2, hf⟩ := am_bind hf
    refine r_callV (as := [vR (1, 1, 0)]) (st := []) (n := 1) mw_X9_240 mv_X8_copy (C_X8_copy (l := l) (by decide) (by decide) hr2) (le_b rfl) dX9_undo_18 (kC_mem (s := 1) (by decide) (by decide) (by decide)) rfl rfl rfl (le_b rfl) (le_b rfl) (le_b rfl) ?_
    show X l _ _ 0 0 false _ kC 0 0 21 [some (vR (0, 0, 0))] [] (en r1)
    refine r_aload_n (x := (0, 0, 0)) dX9_undo_21 rfl ?_
    refine e_getr (z := some (1, 0, 0)) fw_X9_14 dX9_undo_22 (kC_mem (s := 0) (by decide) (by decide) (by decide)) rfl (lt_b rfl) rfl ?_
    refine e_geti fw_X9_169 dX9_undo_25 (kC_mem (s := 1) (by decide) (by decide) (by decide)) rfl (lt_b rfl) ?_
    have hx := am_inj hf
    subst hx
    exact r_iret dX9_undo_28 rfl rfl (le_b rfl) (le_b rfl)
  · have hf := (am_if hf).1 hc
    refine r_bipush (v := -3) dX9_undo_7 rfl ?_
    have hx := am_inj hf
    subst hx
    exact r_iret dX9_undo_9 rfl rfl (le_b rfl) (le_b rfl)
/-! FireFromFire.act -/
theorem dX9_act_0 : decode cX9_act 0 = .ok (.aload_n 0, 1) := by decide +kernel
theorem dX9_act_1 : decode cX9_act 1 = .ok (.getfield 69, 3) := by decide +kernel
theorem dX9_act_4 : decode cX9_act 4 = .ok (.aload_n 0, 1) := by decide +kernel
theorem dX9_act_5 : decode cX9_act 5 = .ok (.getfield 14, 3) := by decide +kernel
theorem dX9_act_8 : decode cX9_act 8 = .ok (.iload_n 1, 1) := by decide +kernel
theorem dX9_act_9 : decode cX9_act 9 = .ok (.invokevirtual 94, 3) := by decide +kernel
theorem dX9_act_12 : decode cX9_act 12 = .ok (.iload_n 1, 1) := by decide +kernel
theorem dX9_act_13 : decode cX9_act 13 = .ok (.invokevirtual 284, 3) := by decide +kernel
theorem dX9_act_16 : decode cX9_act 16 = .ok (.aload_n 0, 1) := by decide +kernel
theorem dX9_act_17 : decode cX9_act 17 = .ok (.getfield 14, 3) := by decide +kernel
theorem dX9_act_20 : decode cX9_act 20 = .ok (.iload_n 1, 1) := by decide +kernel
theorem dX9_act_21 : decode cX9_act 21 = .ok (.invokevirtual 94, 3) := by decide +kernel
theorem dX9_act_24 : decode cX9_act 24 = .ok (.ifnonnull 5, 3) := by decide +kernel
theorem dX9_act_27 : decode cX9_act 27 = .ok (.iconst 0, 1) := by decide +kernel
theorem dX9_act_28 : decode cX9_act 28 = .ok (.ireturn, 1) := by decide +kernel
theorem dX9_act_29 : decode cX9_act 29 = .ok (.iload_n 2, 1) := by decide +kernel
theorem dX9_act_30 : decode cX9_act 30 = .ok (.tableswitch 53 0 2 #[26, 35, 44], 26) := by decide +kernel
theorem dX9_act_56 : decode cX9_act 56 = .ok (.aload_n 0, 1) := by decide +kernel
theorem dX9_act_57 : decode cX9_act 57 = .ok (.getfield 69, 3) := by decide +kernel
theorem dX9_act_60 : decode cX9_act 60 = .ok (.iload_n 3, 1) := by decide +kernel
theorem dX9_act_61 : decode cX9_act 61 = .ok (.invokevirtual 287, 3) := by decide +kernel
theorem dX9_act_64 : decode cX9_act 64 = .ok (.ireturn, 1) := by decide +kernel
theorem dX9_act_65 : decode cX9_act 65 = .ok (.aload_n 0, 1) := by decide +kernel
theorem dX9_act_66 : decode cX9_act 66 = .ok (.getfield 69, 3) := by decide +kernel
theorem dX9_act_69 : decode cX9_act 69 = .ok (.iload_n 3, 1) := by decide +kernel
theorem dX9_act_70 : decode cX9_act 70 = .ok (.invokevirtual 290, 3) := by decide +kernel
theorem dX9_act_73 : decode cX9_act 73 = .ok (.ireturn, 1) := by decide +kernel
theorem dX9_act_74 : decode cX9_act 74 = .ok (.aload_n 0, 1) := by decide +kernel
theorem dX9_act_75 : decode cX9_act 75 = .ok (.getfield 69, 3) := by decide +kernel
theorem dX9_act_78 : decode cX9_act 78 = .ok (.iload_n 3, 1) := by decide +kernel
theorem dX9_act_79 : decode cX9_act 79 = .ok (.invokevirtual 293, 3) := by decide +kernel
theorem dX9_act_82 : decode cX9_act 82 = .ok (.ireturn, 1) := by decide +kernel
theorem dX9_act_83 : decode cX9_act 83 = .ok (.iconst 0, 1) := by decide +kernel
theorem dX9_act_84 : decode cX9_act 84 = .ok (.ireturn, 1) := by decide +kernel
def f_X9_act  (a0 : Int32) (a1 : Int32) (a2 : Int32) (u : PM) : Option (Int32 × PM) :=
  (f_X8_find 0 a0 u).bind fun r1 =>
  match r1 with
  | none =>
    (f_X0_begin 0 none a0 u).bind fun r5 =>
    (f_X8_find 0 a0 r5).bind fun r7 =>
    match r7 with
    | none =>
      some ((0 : Int32), r5)
    | some p9 =>
      if p9 < 6 then
        if a1 = (0 : Int32) then
          (f_X0_keepsBody a2 r5).bind fun (r11, u13) =>
          some (r11, u13)
        else if a1 = (1 : Int32) then
          (f_X0_sendsBody a2 r5).bind fun (r14, u16) =>
          some (r14, u16)
        else if a1 = (2 : Int32) then
          (f_X0_tellsBody a2 r5).bind fun (r17, u19) =>
          some (r17, u19)
        else 
        some ((0 : Int32), r5)
      else none
  | some p3 =>
    if p3 < 6 then
      (f_X0_begin 0 (some p3) a0 u).bind fun r20 =>
      (f_X8_find 0 a0 r20).bind fun r22 =>
      match r22 with
      | none =>
        some ((0 : Int32), r20)
      | some p24 =>
        if p24 < 6 then
          if a1 = (0 : Int32) then
            (f_X0_keepsBody a2 r20).bind fun (r26, u28) =>
            some (r26, u28)
          else if a1 = (1 : Int32) then
            (f_X0_sendsBody a2 r20).bind fun (r29, u31) =>
            some (r29, u31)
          else if a1 = (2 : Int32) then
            (f_X0_tellsBody a2 r20).bind fun (r32, u34) =>
            some (r32, u34)
          else 
          some ((0 : Int32), r20)
        else none
    else none
set_option maxHeartbeats 4000000 in
set_option maxRecDepth 20000 in
theorem C_X9_act {l : Launch}  {a0 : Int32} {a1 : Int32} {a2 : Int32} {u : PM} {x : Int32 × PM} (hf : f_X9_act a0 a1 a2 u = some x) : Ev l mX9_act 7 0 0 false [vR (0, 0, 0), vI a0, vI a1, vI a2] kC (en u) (some (vI x.1), kC, en x.2) := by
  refine Ev_of (by decide +kernel) (le_b rfl) ?_
  unfold f_X9_act at hf
  show X l mX9_act 7 0 0 false _ kC 0 0 0 [some (vR (0, 0, 0)), some (vI a0), some (vI a1), some (vI a2)] [] (en u)
  refine r_aload_n (x := (0, 0, 0)) dX9_act_0 rfl ?_
  refine e_getr (z := some (29, 0, 0)) fw_X9_69 dX9_act_1 (kC_mem (s := 0) (by decide) (by decide) (by decide)) rfl (lt_b rfl) rfl ?_
  refine r_aload_n (x := (0, 0, 0)) dX9_act_4 rfl ?_
  refine e_getr (z := some (1, 0, 0)) fw_X9_14 dX9_act_5 (kC_mem (s := 0) (by decide) (by decide) (by decide)) rfl (lt_b rfl) rfl ?_
  refine r_iload_n (x := a0) dX9_act_8 rfl ?_
  obtain ⟨r1, hr2, hf⟩ := am_bind hf
  refine r_callV (as := [vI a0]) (st := [vR (29, 0, 0)]) (n := 1) mw_X9_94 mv_X8_find (C_X8_find (l := l) (by decide) hr2) (le_b rfl) dX9_act_9 (kC_mem (s := 1) (by decide) (by decide) (by decide)) rfl rfl rfl (le_b rfl) (le_b rfl) (le_b rfl) ?_
  cases r1 with
  | none =>
    show X l _ _ 0 0 false _ kC 0 0 12 [some (vR (0, 0, 0)), some (vI a0), some (vI a1), some (vI a2)] [vN, vR (29, 0, 0)] (en u)
    refine r_iload_n (x := a0) dX9_act_12 rfl ?_
    obtain ⟨r5, hr6, hf⟩ := am_bind hf
    refine r_callV (as := [vN, vI a0]) (st := []) (n := 2) mw_X9_284 mv_X0_begin (C_X0_begin (l := l) (by decide) hr6) (le_b rfl) dX9_act_13 (kC_mem (s := 29) (by decide) (by decide) (by decide)) rfl rfl rfl (le_b rfl) (le_b rfl) (le_b rfl) ?_
    show X l _ _ 0 0 false _ kC 0 0 16 [some (vR (0, 0, 0)), some (vI a0), some (vI a1), some (vI a2)] [] (en r5)
    refine r_aload_n (x := (0, 0, 0)) dX9_act_16 rfl ?_
    refine e_getr (z := some (1, 0, 0)) fw_X9_14 dX9_act_17 (kC_mem (s := 0) (by decide) (by decide) (by decide)) rfl (lt_b rfl) rfl ?_
    refine r_iload_n (x := a0) dX9_act_20 rfl ?_
    obtain ⟨r7, hr8, hf⟩ := am_bind hf
    refine r_callV (as := [vI a0]) (st := []) (n := 1) mw_X9_94 mv_X8_find (C_X8_find (l := l) (by decide) hr8) (le_b rfl) dX9_act_21 (kC_mem (s := 1) (by decide) (by decide) (by decide)) rfl rfl rfl (le_b rfl) (le_b rfl) (le_b rfl) ?_
    cases r7 with
    | none =>
      show X l _ _ 0 0 false _ kC 0 0 24 [some (vR (0, 0, 0)), some (vI a0), some (vI a1), some (vI a2)] [vN] (en r5)
      refine r_ifnonnullN dX9_act_24 ?_
      refine r_iconst (v := 0) dX9_act_27 rfl ?_
      have hx := am_inj hf
      subst hx
      exact r_iret dX9_act_28 rfl rfl (le_b rfl) (le_b rfl)
    | some p9 =>
      obtain ⟨h10, hf⟩ := am_chk hf
      show X l _ _ 0 0 false _ kC 0 0 24 [some (vR (0, 0, 0)), some (vI a0), some (vI a1), some (vI a2)] [vR (3, 0, p9)] (en r5)
      refine r_ifnonnullR (tgt := 29) dX9_act_24 (by decide) ?_
      refine r_iload_n (x := a1) dX9_act_29 rfl ?_
      by_cases hs0 : a1 = (0 : Int32)
      · have hf := (am_if hf).1 hs0
        refine r_tswIn (x := a1) (kx := 0) (tgt := 56) dX9_act_30 hs0 (by decide) (by decide) rfl (by decide) ?_
        refine r_aload_n (x := (0, 0, 0)) dX9_act_56 rfl ?_
        refine e_getr (z := some (29, 0, 0)) fw_X9_69 dX9_act_57 (kC_mem (s := 0) (by decide) (by decide) (by decide)) rfl (lt_b rfl) rfl ?_
        refine r_iload_n (x := a2) dX9_act_60 rfl ?_
        obtain ⟨⟨r11, u13⟩, hr12, hf⟩ := am_bind hf
        refine r_callV (as := [vI a2]) (st := []) (n := 1) mw_X9_287 mv_X0_keepsBody (C_X0_keepsBody (l := l) hr12) (le_b rfl) dX9_act_61 (kC_mem (s := 29) (by decide) (by decide) (by decide)) rfl rfl rfl (le_b rfl) (le_b rfl) (le_b rfl) ?_
        show X l _ _ 0 0 false _ kC 0 0 64 [some (vR (0, 0, 0)), some (vI a0), some (vI a1), some (vI a2)] [vI r11] (en u13)
        have hx := am_inj hf
        subst hx
        exact r_iret dX9_act_64 rfl rfl (le_b rfl) (le_b rfl)
      have hf := (am_if hf).2 hs0
      by_cases hs1 : a1 = (1 : Int32)
      · have hf := (am_if hf).1 hs1
        refine r_tswIn (x := a1) (kx := 1) (tgt := 65) dX9_act_30 hs1 (by decide) (by decide) rfl (by decide) ?_
        refine r_aload_n (x := (0, 0, 0)) dX9_act_65 rfl ?_
        refine e_getr (z := some (29, 0, 0)) fw_X9_69 dX9_act_66 (kC_mem (s := 0) (by decide) (by decide) (by decide)) rfl (lt_b rfl) rfl ?_
        refine r_iload_n (x := a2) dX9_act_69 rfl ?_
        obtain ⟨⟨r14, u16⟩, hr15, hf⟩ := am_bind hf
        refine r_callV (as := [vI a2]) (st := []) (n := 1) mw_X9_290 mv_X0_sendsBody (C_X0_sendsBody (l := l) hr15) (le_b rfl) dX9_act_70 (kC_mem (s := 29) (by decide) (by decide) (by decide)) rfl rfl rfl (le_b rfl) (le_b rfl) (le_b rfl) ?_
        show X l _ _ 0 0 false _ kC 0 0 73 [some (vR (0, 0, 0)), some (vI a0), some (vI a1), some (vI a2)] [vI r14] (en u16)
        have hx := am_inj hf
        subst hx
        exact r_iret dX9_act_73 rfl rfl (le_b rfl) (le_b rfl)
      have hf := (am_if hf).2 hs1
      by_cases hs2 : a1 = (2 : Int32)
      · have hf := (am_if hf).1 hs2
        refine r_tswIn (x := a1) (kx := 2) (tgt := 74) dX9_act_30 hs2 (by decide) (by decide) rfl (by decide) ?_
        refine r_aload_n (x := (0, 0, 0)) dX9_act_74 rfl ?_
        refine e_getr (z := some (29, 0, 0)) fw_X9_69 dX9_act_75 (kC_mem (s := 0) (by decide) (by decide) (by decide)) rfl (lt_b rfl) rfl ?_
        refine r_iload_n (x := a2) dX9_act_78 rfl ?_
        obtain ⟨⟨r17, u19⟩, hr18, hf⟩ := am_bind hf
        refine r_callV (as := [vI a2]) (st := []) (n := 1) mw_X9_293 mv_X0_tellsBody (C_X0_tellsBody (l := l) hr18) (le_b rfl) dX9_act_79 (kC_mem (s := 29) (by decide) (by decide) (by decide)) rfl rfl rfl (le_b rfl) (le_b rfl) (le_b rfl) ?_
        show X l _ _ 0 0 false _ kC 0 0 82 [some (vR (0, 0, 0)), some (vI a0), some (vI a1), some (vI a2)] [vI r17] (en u19)
        have hx := am_inj hf
        subst hx
        exact r_iret dX9_act_82 rfl rfl (le_b rfl) (le_b rfl)
      have hf := (am_if hf).2 hs2
      refine r_tswOut (x := a1) (tgt := 83) dX9_act_30 (by have ehs0 := am_neI hs0 (z := 0) rfl; have ehs1 := am_neI hs1 (z := 1) rfl; have ehs2 := am_neI hs2 (z := 2) rfl; omega) (by decide) ?_
      refine r_iconst (v := 0) dX9_act_83 rfl ?_
      have hx := am_inj hf
      subst hx
      exact r_iret dX9_act_84 rfl rfl (le_b rfl) (le_b rfl)
  | some p3 =>
    obtain ⟨h4, hf⟩ := am_chk hf
    show X l _ _ 0 0 false _ kC 0 0 12 [some (vR (0, 0, 0)), some (vI a0), some (vI a1), some (vI a2)] [vR (3, 0, p3), vR (29, 0, 0)] (en u)
    refine r_iload_n (x := a0) dX9_act_12 rfl ?_
    obtain ⟨r20, hr21, hf⟩ := am_bind hf
    refine r_callV (as := [vR (3, 0, p3), vI a0]) (st := []) (n := 2) mw_X9_284 mv_X0_begin (C_X0_begin (l := l) (by decide) hr21) (le_b rfl) dX9_act_13 (kC_mem (s := 29) (by decide) (by decide) (by decide)) rfl rfl rfl (le_b rfl) (le_b rfl) (le_b rfl) ?_
    show X l _ _ 0 0 false _ kC 0 0 16 [some (vR (0, 0, 0)), some (vI a0), some (vI a1), some (vI a2)] [] (en r20)
    refine r_aload_n (x := (0, 0, 0)) dX9_act_16 rfl ?_
    refine e_getr (z := some (1, 0, 0)) fw_X9_14 dX9_act_17 (kC_mem (s := 0) (by decide) (by decide) (by decide)) rfl (lt_b rfl) rfl ?_
    refine r_iload_n (x := a0) dX9_act_20 rfl ?_
    obtain ⟨r22, hr23, hf⟩ := am_bind hf
    refine r_callV (as := [vI a0]) (st := []) (n := 1) mw_X9_94 mv_X8_find (C_X8_find (l := l) (by decide) hr23) (le_b rfl) dX9_act_21 (kC_mem (s := 1) (by decide) (by decide) (by decide)) rfl rfl rfl (le_b rfl) (le_b rfl) (le_b rfl) ?_
    cases r22 with
    | none =>
      show X l _ _ 0 0 false _ kC 0 0 24 [some (vR (0, 0, 0)), some (vI a0), some (vI a1), some (vI a2)] [vN] (en r20)
      refine r_ifnonnullN dX9_act_24 ?_
      refine r_iconst (v := 0) dX9_act_27 rfl ?_
      have hx := am_inj hf
      subst hx
      exact r_iret dX9_act_28 rfl rfl (le_b rfl) (le_b rfl)
    | some p24 =>
      obtain ⟨h25, hf⟩ := am_chk hf
      show X l _ _ 0 0 false _ kC 0 0 24 [some (vR (0, 0, 0)), some (vI a0), some (vI a1), some (vI a2)] [vR (3, 0, p24)] (en r20)
      refine r_ifnonnullR (tgt := 29) dX9_act_24 (by decide) ?_
      refine r_iload_n (x := a1) dX9_act_29 rfl ?_
      by_cases hs0 : a1 = (0 : Int32)
      · have hf := (am_if hf).1 hs0
        refine r_tswIn (x := a1) (kx := 0) (tgt := 56) dX9_act_30 hs0 (by decide) (by decide) rfl (by decide) ?_
        refine r_aload_n (x := (0, 0, 0)) dX9_act_56 rfl ?_
        refine e_getr (z := some (29, 0, 0)) fw_X9_69 dX9_act_57 (kC_mem (s := 0) (by decide) (by decide) (by decide)) rfl (lt_b rfl) rfl ?_
        refine r_iload_n (x := a2) dX9_act_60 rfl ?_
        obtain ⟨⟨r26, u28⟩, hr27, hf⟩ := am_bind hf
        refine r_callV (as := [vI a2]) (st := []) (n := 1) mw_X9_287 mv_X0_keepsBody (C_X0_keepsBody (l := l) hr27) (le_b rfl) dX9_act_61 (kC_mem (s := 29) (by decide) (by decide) (by decide)) rfl rfl rfl (le_b rfl) (le_b rfl) (le_b rfl) ?_
        show X l _ _ 0 0 false _ kC 0 0 64 [some (vR (0, 0, 0)), some (vI a0), some (vI a1), some (vI a2)] [vI r26] (en u28)
        have hx := am_inj hf
        subst hx
        exact r_iret dX9_act_64 rfl rfl (le_b rfl) (le_b rfl)
      have hf := (am_if hf).2 hs0
      by_cases hs1 : a1 = (1 : Int32)
      · have hf := (am_if hf).1 hs1
        refine r_tswIn (x := a1) (kx := 1) (tgt := 65) dX9_act_30 hs1 (by decide) (by decide) rfl (by decide) ?_
        refine r_aload_n (x := (0, 0, 0)) dX9_act_65 rfl ?_
        refine e_getr (z := some (29, 0, 0)) fw_X9_69 dX9_act_66 (kC_mem (s := 0) (by decide) (by decide) (by decide)) rfl (lt_b rfl) rfl ?_
        refine r_iload_n (x := a2) dX9_act_69 rfl ?_
        obtain ⟨⟨r29, u31⟩, hr30, hf⟩ := am_bind hf
        refine r_callV (as := [vI a2]) (st := []) (n := 1) mw_X9_290 mv_X0_sendsBody (C_X0_sendsBody (l := l) hr30) (le_b rfl) dX9_act_70 (kC_mem (s := 29) (by decide) (by decide) (by decide)) rfl rfl rfl (le_b rfl) (le_b rfl) (le_b rfl) ?_
        show X l _ _ 0 0 false _ kC 0 0 73 [some (vR (0, 0, 0)), some (vI a0), some (vI a1), some (vI a2)] [vI r29] (en u31)
        have hx := am_inj hf
        subst hx
        exact r_iret dX9_act_73 rfl rfl (le_b rfl) (le_b rfl)
      have hf := (am_if hf).2 hs1
      by_cases hs2 : a1 = (2 : Int32)
      · have hf := (am_if hf).1 hs2
        refine r_tswIn (x := a1) (kx := 2) (tgt := 74) dX9_act_30 hs2 (by decide) (by decide) rfl (by decide) ?_
        refine r_aload_n (x := (0, 0, 0)) dX9_act_74 rfl ?_
        refine e_getr (z := some (29, 0, 0)) fw_X9_69 dX9_act_75 (kC_mem (s := 0) (by decide) (by decide) (by decide)) rfl (lt_b rfl) rfl ?_
        refine r_iload_n (x := a2) dX9_act_78 rfl ?_
        obtain ⟨⟨r32, u34⟩, hr33, hf⟩ := am_bind hf
        refine r_callV (as := [vI a2]) (st := []) (n := 1) mw_X9_293 mv_X0_tellsBody (C_X0_tellsBody (l := l) hr33) (le_b rfl) dX9_act_79 (kC_mem (s := 29) (by decide) (by decide) (by decide)) rfl rfl rfl (le_b rfl) (le_b rfl) (le_b rfl) ?_
        show X l _ _ 0 0 false _ kC 0 0 82 [some (vR (0, 0, 0)), some (vI a0), some (vI a1), some (vI a2)] [vI r32] (en u34)
        have hx := am_inj hf
        subst hx
        exact r_iret dX9_act_82 rfl rfl (le_b rfl) (le_b rfl)
      have hf := (am_if hf).2 hs2
      refine r_tswOut (x := a1) (tgt := 83) dX9_act_30 (by have ehs0 := am_neI hs0 (z := 0) rfl; have ehs1 := am_neI hs1 (z := 1) rfl; have ehs2 := am_neI hs2 (z := 2) rfl; omega) (by decide) ?_
      refine r_iconst (v := 0) dX9_act_83 rfl ?_
      have hx := am_inj hf
      subst hx
      exact r_iret dX9_act_84 rfl rfl (le_b rfl) (le_b rfl)
/-! FireFromFire.trace -/
theorem dX9_trace_0 : decode cX9_trace 0 = .ok (.iload_n 1, 1) := by decide +kernel
theorem dX9_trace_1 : decode cX9_trace 1 = .ok (.ifCond .lt 20, 3) := by decide +kernel
theorem dX9_trace_4 : decode cX9_trace 4 = .ok (.iload_n 1, 1) := by decide +kernel
theorem dX9_trace_5 : decode cX9_trace 5 = .ok (.aload_n 0, 1) := by decide +kernel
theorem dX9_trace_6 : decode cX9_trace 6 = .ok (.getfield 69, 3) := by decide +kernel
theorem dX9_trace_9 : decode cX9_trace 9 = .ok (.getfield 296, 3) := by decide +kernel
theorem dX9_trace_12 : decode cX9_trace 12 = .ok (.if_icmp .ge 9, 3) := by decide +kernel
theorem dX9_trace_15 : decode cX9_trace 15 = .ok (.iload_n 1, 1) := by decide +kernel
theorem dX9_trace_16 : decode cX9_trace 16 = .ok (.bipush 20, 2) := by decide +kernel
theorem dX9_trace_18 : decode cX9_trace 18 = .ok (.if_icmp .lt 5, 3) := by decide +kernel
theorem dX9_trace_21 : decode cX9_trace 21 = .ok (.iconst (-1), 1) := by decide +kernel
theorem dX9_trace_22 : decode cX9_trace 22 = .ok (.ireturn, 1) := by decide +kernel
theorem dX9_trace_23 : decode cX9_trace 23 = .ok (.aload_n 0, 1) := by decide +kernel
theorem dX9_trace_24 : decode cX9_trace 24 = .ok (.getfield 69, 3) := by decide +kernel
theorem dX9_trace_27 : decode cX9_trace 27 = .ok (.getfield 299, 3) := by decide +kernel
theorem dX9_trace_30 : decode cX9_trace 30 = .ok (.iload_n 1, 1) := by decide +kernel
theorem dX9_trace_31 : decode cX9_trace 31 = .ok (.iaload, 1) := by decide +kernel
theorem dX9_trace_32 : decode cX9_trace 32 = .ok (.ireturn, 1) := by decide +kernel
def f_X9_trace  (a0 : Int32) (u : PM) : Option (Int32) :=
  if a0 < 0 then
    some (-1 : Int32)
  else
  if (u.1 (29, 0, 0) 0) ≤ a0 then
    some (-1 : Int32)
  else
  if a0 < (20 : Int32) then
    if a0 < 0 ∨ 20 ≤ a0.toNatClampNeg then none else
    some (u.1 (30, 0, 0) a0.toNatClampNeg)
  else
  some (-1 : Int32)
set_option maxHeartbeats 4000000 in
set_option maxRecDepth 20000 in
theorem C_X9_trace {l : Launch}  {a0 : Int32} {u : PM} {x : Int32} (hf : f_X9_trace a0 u = some x) : Ev l mX9_trace 1 0 0 false [vR (0, 0, 0), vI a0] kC (en u) (some (vI x), kC, en u) := by
  refine Ev_of (by decide +kernel) (le_b rfl) ?_
  unfold f_X9_trace at hf
  show X l mX9_trace 1 0 0 false _ kC 0 0 0 [some (vR (0, 0, 0)), some (vI a0)] [] (en u)
  refine r_iload_n (x := a0) dX9_trace_0 rfl ?_
  refine r_if_lt (tgt := 21) dX9_trace_1 (by decide) (fun hc => ?_) (fun hc => ?_)
  · have hf := (am_if hf).1 hc
    refine r_iconst (v := -1) dX9_trace_21 rfl ?_
    have hx := am_inj hf
    subst hx
    exact r_iret dX9_trace_22 rfl rfl (le_b rfl) (le_b rfl)
  · have hf := (am_if hf).2 hc
    refine r_iload_n (x := a0) dX9_trace_4 rfl ?_
    refine r_aload_n (x := (0, 0, 0)) dX9_trace_5 rfl ?_
    refine e_getr (z := some (29, 0, 0)) fw_X9_69 dX9_trace_6 (kC_mem (s := 0) (by decide) (by decide) (by decide)) rfl (lt_b rfl) rfl ?_
    refine e_geti fw_X9_296 dX9_trace_9 (kC_mem (s := 29) (by decide) (by decide) (by decide)) rfl (lt_b rfl) ?_
    refine r_icmp_ge (tgt := 21) dX9_trace_12 (by decide) (fun hc => ?_) (fun hc => ?_)
    · have hf := (am_if hf).1 hc
      refine r_iconst (v := -1) dX9_trace_21 rfl ?_
      have hx := am_inj hf
      subst hx
      exact r_iret dX9_trace_22 rfl rfl (le_b rfl) (le_b rfl)
    · have hf := (am_if hf).2 hc
      refine r_iload_n (x := a0) dX9_trace_15 rfl ?_
      refine r_bipush (v := 20) dX9_trace_16 rfl ?_
      refine r_icmp_lt (tgt := 23) dX9_trace_18 (by decide) (fun hc => ?_) (fun hc => ?_)
      · have hf := (am_if hf).1 hc
        refine r_aload_n (x := (0, 0, 0)) dX9_trace_23 rfl ?_
        refine e_getr (z := some (29, 0, 0)) fw_X9_69 dX9_trace_24 (kC_mem (s := 0) (by decide) (by decide) (by decide)) rfl (lt_b rfl) rfl ?_
        refine e_getr (z := some (30, 0, 0)) fw_X9_299 dX9_trace_27 (kC_mem (s := 29) (by decide) (by decide) (by decide)) rfl (lt_b rfl) rfl ?_
        refine r_iload_n (x := a0) dX9_trace_30 rfl ?_
        obtain ⟨h1, hf⟩ := am_nchk hf
        refine e_iald (n := a0.toNatClampNeg) dX9_trace_31 (kC_mem (s := 30) (by decide) (by decide) (by decide)) rfl h1 rfl rfl ?_
        have hx := am_inj hf
        subst hx
        exact r_iret dX9_trace_32 rfl rfl (le_b rfl) (le_b rfl)
      · have hf := (am_if hf).2 hc
        refine r_iconst (v := -1) dX9_trace_21 rfl ?_
        have hx := am_inj hf
        subst hx
        exact r_iret dX9_trace_22 rfl rfl (le_b rfl) (le_b rfl)
/-! FireFromFire.kindAbove -/
theorem dX9_kindAbove_0 : decode cX9_kindAbove 0 = .ok (.iload_n 0, 1) := by decide +kernel
theorem dX9_kindAbove_1 : decode cX9_kindAbove 1 = .ok (.tableswitch 33 4 6 #[27, 29, 31], 27) := by decide +kernel
theorem dX9_kindAbove_28 : decode cX9_kindAbove 28 = .ok (.iconst 1, 1) := by decide +kernel
theorem dX9_kindAbove_29 : decode cX9_kindAbove 29 = .ok (.ireturn, 1) := by decide +kernel
theorem dX9_kindAbove_30 : decode cX9_kindAbove 30 = .ok (.iconst 2, 1) := by decide +kernel
theorem dX9_kindAbove_31 : decode cX9_kindAbove 31 = .ok (.ireturn, 1) := by decide +kernel
theorem dX9_kindAbove_32 : decode cX9_kindAbove 32 = .ok (.iconst 3, 1) := by decide +kernel
theorem dX9_kindAbove_33 : decode cX9_kindAbove 33 = .ok (.ireturn, 1) := by decide +kernel
theorem dX9_kindAbove_34 : decode cX9_kindAbove 34 = .ok (.iconst 0, 1) := by decide +kernel
theorem dX9_kindAbove_35 : decode cX9_kindAbove 35 = .ok (.ireturn, 1) := by decide +kernel
def f_X9_kindAbove  (a0 : Int32) (u : PM) : Option (Int32) :=
  if a0 = (4 : Int32) then
    some (1 : Int32)
  else if a0 = (5 : Int32) then
    some (2 : Int32)
  else if a0 = (6 : Int32) then
    some (3 : Int32)
  else 
  some (0 : Int32)
set_option maxHeartbeats 4000000 in
set_option maxRecDepth 20000 in
theorem C_X9_kindAbove {l : Launch}  {a0 : Int32} {u : PM} {x : Int32} (hf : f_X9_kindAbove a0 u = some x) : Ev l mX9_kindAbove 1 0 0 false [vI a0] kC (en u) (some (vI x), kC, en u) := by
  refine Ev_of (by decide +kernel) (le_b rfl) ?_
  unfold f_X9_kindAbove at hf
  show X l mX9_kindAbove 1 0 0 false _ kC 0 0 0 [some (vI a0)] [] (en u)
  refine r_iload_n (x := a0) dX9_kindAbove_0 rfl ?_
  by_cases hs0 : a0 = (4 : Int32)
  · have hf := (am_if hf).1 hs0
    refine r_tswIn (x := a0) (kx := 4) (tgt := 28) dX9_kindAbove_1 hs0 (by decide) (by decide) rfl (by decide) ?_
    refine r_iconst (v := 1) dX9_kindAbove_28 rfl ?_
    have hx := am_inj hf
    subst hx
    exact r_iret dX9_kindAbove_29 rfl rfl (le_b rfl) (le_b rfl)
  have hf := (am_if hf).2 hs0
  by_cases hs1 : a0 = (5 : Int32)
  · have hf := (am_if hf).1 hs1
    refine r_tswIn (x := a0) (kx := 5) (tgt := 30) dX9_kindAbove_1 hs1 (by decide) (by decide) rfl (by decide) ?_
    refine r_iconst (v := 2) dX9_kindAbove_30 rfl ?_
    have hx := am_inj hf
    subst hx
    exact r_iret dX9_kindAbove_31 rfl rfl (le_b rfl) (le_b rfl)
  have hf := (am_if hf).2 hs1
  by_cases hs2 : a0 = (6 : Int32)
  · have hf := (am_if hf).1 hs2
    refine r_tswIn (x := a0) (kx := 6) (tgt := 32) dX9_kindAbove_1 hs2 (by decide) (by decide) rfl (by decide) ?_
    refine r_iconst (v := 3) dX9_kindAbove_32 rfl ?_
    have hx := am_inj hf
    subst hx
    exact r_iret dX9_kindAbove_33 rfl rfl (le_b rfl) (le_b rfl)
  have hf := (am_if hf).2 hs2
  refine r_tswOut (x := a0) (tgt := 34) dX9_kindAbove_1 (by have ehs0 := am_neI hs0 (z := 4) rfl; have ehs1 := am_neI hs1 (z := 5) rfl; have ehs2 := am_neI hs2 (z := 6) rfl; omega) (by decide) ?_
  refine r_iconst (v := 0) dX9_kindAbove_34 rfl ?_
  have hx := am_inj hf
  subst hx
  exact r_iret dX9_kindAbove_35 rfl rfl (le_b rfl) (le_b rfl)
/-! FireFromFire.taken -/
theorem dX9_taken_0 : decode cX9_taken 0 = .ok (.iload_n 2, 1) := by decide +kernel
theorem dX9_taken_1 : decode cX9_taken 1 = .ok (.invokestatic 159, 3) := by decide +kernel
theorem dX9_taken_4 : decode cX9_taken 4 = .ok (.ifCond .ne 6, 3) := by decide +kernel
theorem dX9_taken_7 : decode cX9_taken 7 = .ok (.bipush (-2), 2) := by decide +kernel
theorem dX9_taken_9 : decode cX9_taken 9 = .ok (.ireturn, 1) := by decide +kernel
theorem dX9_taken_10 : decode cX9_taken 10 = .ok (.aload_n 0, 1) := by decide +kernel
theorem dX9_taken_11 : decode cX9_taken 11 = .ok (.getfield 14, 3) := by decide +kernel
theorem dX9_taken_14 : decode cX9_taken 14 = .ok (.iload_n 1, 1) := by decide +kernel
theorem dX9_taken_15 : decode cX9_taken 15 = .ok (.invokevirtual 94, 3) := by decide +kernel
theorem dX9_taken_18 : decode cX9_taken 18 = .ok (.astore_n 3, 1) := by decide +kernel
theorem dX9_taken_19 : decode cX9_taken 19 = .ok (.aload_n 3, 1) := by decide +kernel
theorem dX9_taken_20 : decode cX9_taken 20 = .ok (.ifnonnull 6, 3) := by decide +kernel
theorem dX9_taken_23 : decode cX9_taken 23 = .ok (.bipush (-11), 2) := by decide +kernel
theorem dX9_taken_25 : decode cX9_taken 25 = .ok (.ireturn, 1) := by decide +kernel
theorem dX9_taken_26 : decode cX9_taken 26 = .ok (.aload_n 3, 1) := by decide +kernel
theorem dX9_taken_27 : decode cX9_taken 27 = .ok (.getfield 104, 3) := by decide +kernel
theorem dX9_taken_30 : decode cX9_taken 30 = .ok (.istore 4, 2) := by decide +kernel
theorem dX9_taken_32 : decode cX9_taken 32 = .ok (.iload_n 2, 1) := by decide +kernel
theorem dX9_taken_33 : decode cX9_taken 33 = .ok (.ifCond .eq 18, 3) := by decide +kernel
theorem dX9_taken_36 : decode cX9_taken 36 = .ok (.iload 4, 2) := by decide +kernel
theorem dX9_taken_38 : decode cX9_taken 38 = .ok (.iload_n 2, 1) := by decide +kernel
theorem dX9_taken_39 : decode cX9_taken 39 = .ok (.if_icmp .eq 12, 3) := by decide +kernel
theorem dX9_taken_42 : decode cX9_taken 42 = .ok (.iload 4, 2) := by decide +kernel
theorem dX9_taken_44 : decode cX9_taken 44 = .ok (.invokestatic 302, 3) := by decide +kernel
theorem dX9_taken_47 : decode cX9_taken 47 = .ok (.iload_n 2, 1) := by decide +kernel
theorem dX9_taken_48 : decode cX9_taken 48 = .ok (.if_icmp .ne 7, 3) := by decide +kernel
theorem dX9_taken_51 : decode cX9_taken 51 = .ok (.iconst 1, 1) := by decide +kernel
theorem dX9_taken_52 : decode cX9_taken 52 = .ok (.goto 4, 3) := by decide +kernel
theorem dX9_taken_55 : decode cX9_taken 55 = .ok (.iconst 0, 1) := by decide +kernel
theorem dX9_taken_56 : decode cX9_taken 56 = .ok (.istore 5, 2) := by decide +kernel
theorem dX9_taken_58 : decode cX9_taken 58 = .ok (.iload 5, 2) := by decide +kernel
theorem dX9_taken_60 : decode cX9_taken 60 = .ok (.ifCond .eq 8, 3) := by decide +kernel
theorem dX9_taken_63 : decode cX9_taken 63 = .ok (.iload 4, 2) := by decide +kernel
theorem dX9_taken_65 : decode cX9_taken 65 = .ok (.goto 5, 3) := by decide +kernel
theorem dX9_taken_68 : decode cX9_taken 68 = .ok (.bipush (-12), 2) := by decide +kernel
theorem dX9_taken_70 : decode cX9_taken 70 = .ok (.ireturn, 1) := by decide +kernel
def f_X9_taken  (a0 : Int32) (a1 : Int32) (u : PM) : Option (Int32) :=
  (f_X9_isKind a1 u).bind fun r1 =>
  if r1 = 0 then
    some (-2 : Int32)
  else
  (f_X8_find 0 a0 u).bind fun r3 =>
  match r3 with
  | none =>
    some (-11 : Int32)
  | some p5 =>
    if p5 < 6 then
      if a1 = 0 then
        some (u.1 (3, 0, p5) 2)
      else
      if (u.1 (3, 0, p5) 2) = a1 then
        some (u.1 (3, 0, p5) 2)
      else
      (f_X9_kindAbove (u.1 (3, 0, p5) 2) u).bind fun r7 =>
      if r7 = a1 then
        some (u.1 (3, 0, p5) 2)
      else
      some (-12 : Int32)
    else none
set_option maxHeartbeats 4000000 in
set_option maxRecDepth 20000 in
theorem C_X9_taken {l : Launch}  {a0 : Int32} {a1 : Int32} {u : PM} {x : Int32} (hf : f_X9_taken a0 a1 u = some x) : Ev l mX9_taken 2 0 0 false [vR (0, 0, 0), vI a0, vI a1] kC (en u) (some (vI x), kC, en u) := by
  refine Ev_of (by decide +kernel) (le_b rfl) ?_
  unfold f_X9_taken at hf
  show X l mX9_taken 2 0 0 false _ kC 0 0 0 [some (vR (0, 0, 0)), some (vI a0), some (vI a1), none, none, none] [] (en u)
  refine r_iload_n (x := a1) dX9_taken_0 rfl ?_
  obtain ⟨r1, hr2, hf⟩ := am_bind hf
  refine r_callS (as := [vI a1]) (st := []) (n := 1) mw_X9_159 ms_X9_isKind (C_X9_isKind (l := l) hr2) (le_b rfl) dX9_taken_1 rfl (le_b rfl) (le_b rfl) (le_b rfl) ?_
  show X l _ _ 0 0 false _ kC 0 0 4 [some (vR (0, 0, 0)), some (vI a0), some (vI a1), none, none, none] [vI r1] (en u)
  refine r_if_ne (tgt := 10) dX9_taken_4 (by decide) (fun hc => ?_) (fun hc => ?_)
  · have hf := (am_if hf).2 hc
    refine r_aload_n (x := (0, 0, 0)) dX9_taken_10 rfl ?_
    refine e_getr (z := some (1, 0, 0)) fw_X9_14 dX9_taken_11 (kC_mem (s := 0) (by decide) (by decide) (by decide)) rfl (lt_b rfl) rfl ?_
    refine r_iload_n (x := a0) dX9_taken_14 rfl ?_
    obtain ⟨r3, hr4, hf⟩ := am_bind hf
    refine r_callV (as := [vI a0]) (st := []) (n := 1) mw_X9_94 mv_X8_find (C_X8_find (l := l) (by decide) hr4) (le_b rfl) dX9_taken_15 (kC_mem (s := 1) (by decide) (by decide) (by decide)) rfl rfl rfl (le_b rfl) (le_b rfl) (le_b rfl) ?_
    cases r3 with
    | none =>
      show X l _ _ 0 0 false _ kC 0 0 18 [some (vR (0, 0, 0)), some (vI a0), some (vI a1), none, none, none] [vN] (en u)
      refine r_astore_nN (L' := [some (vR (0, 0, 0)), some (vI a0), some (vI a1), some (vN), none, none]) dX9_taken_18 (by decide) rfl ?_
      refine r_aload_nN dX9_taken_19 rfl ?_
      refine r_ifnonnullN dX9_taken_20 ?_
      refine r_bipush (v := -11) dX9_taken_23 rfl ?_
      have hx := am_inj hf
      subst hx
      exact r_iret dX9_taken_25 rfl rfl (le_b rfl) (le_b rfl)
    | some p5 =>
      obtain ⟨h6, hf⟩ := am_chk hf
      show X l _ _ 0 0 false _ kC 0 0 18 [some (vR (0, 0, 0)), some (vI a0), some (vI a1), none, none, none] [vR (3, 0, p5)] (en u)
      refine r_astore_n (L' := [some (vR (0, 0, 0)), some (vI a0), some (vI a1), some (vR (3, 0, p5)), none, none]) dX9_taken_18 (by decide) rfl ?_
      refine r_aload_n (x := (3, 0, p5)) dX9_taken_19 rfl ?_
      refine r_ifnonnullR (tgt := 26) dX9_taken_20 (by decide) ?_
      refine r_aload_n (x := (3, 0, p5)) dX9_taken_26 rfl ?_
      refine e_geti fw_X9_104 dX9_taken_27 (kC_mem (s := 3) (by decide) (by decide) h6) rfl (lt_b rfl) ?_
      refine r_istore (L' := [some (vR (0, 0, 0)), some (vI a0), some (vI a1), some (vR (3, 0, p5)), some (vI (u.1 (3, 0, p5) 2)), none]) dX9_taken_30 (by decide) rfl ?_
      refine r_iload_n (x := a1) dX9_taken_32 rfl ?_
      refine r_if_eq (tgt := 51) dX9_taken_33 (by decide) (fun hc => ?_) (fun hc => ?_)
      · have hf := (am_if hf).1 hc
        refine r_iconst (v := 1) dX9_taken_51 rfl ?_
        refine r_goto (tgt := 56) dX9_taken_52 (by decide) ?_
        refine r_istore (L' := [some (vR (0, 0, 0)), some (vI a0), some (vI a1), some (vR (3, 0, p5)), some (vI (u.1 (3, 0, p5) 2)), some (vI (1 : Int32))]) dX9_taken_56 (by decide) rfl ?_
        refine r_iload (x := (1 : Int32)) dX9_taken_58 rfl ?_
        refine r_if_eq (tgt := 68) dX9_taken_60 (by decide) (fun hc => absurd hc (by decide)) (fun hc => ?_)
        refine r_iload (x := u.1 (3, 0, p5) 2) dX9_taken_63 rfl ?_
        refine r_goto (tgt := 70) dX9_taken_65 (by decide) ?_
        have hx := am_inj hf
        subst hx
        exact r_iret dX9_taken_70 rfl rfl (le_b rfl) (le_b rfl)
      · have hf := (am_if hf).2 hc
        refine r_iload (x := u.1 (3, 0, p5) 2) dX9_taken_36 rfl ?_
        refine r_iload_n (x := a1) dX9_taken_38 rfl ?_
        refine r_icmp_eq (tgt := 51) dX9_taken_39 (by decide) (fun hc => ?_) (fun hc => ?_)
        · have hf := (am_if hf).1 hc
          refine r_iconst (v := 1) dX9_taken_51 rfl ?_
          refine r_goto (tgt := 56) dX9_taken_52 (by decide) ?_
          refine r_istore (L' := [some (vR (0, 0, 0)), some (vI a0), some (vI a1), some (vR (3, 0, p5)), some (vI (u.1 (3, 0, p5) 2)), some (vI (1 : Int32))]) dX9_taken_56 (by decide) rfl ?_
          refine r_iload (x := (1 : Int32)) dX9_taken_58 rfl ?_
          refine r_if_eq (tgt := 68) dX9_taken_60 (by decide) (fun hc => absurd hc (by decide)) (fun hc => ?_)
          refine r_iload (x := u.1 (3, 0, p5) 2) dX9_taken_63 rfl ?_
          refine r_goto (tgt := 70) dX9_taken_65 (by decide) ?_
          have hx := am_inj hf
          subst hx
          exact r_iret dX9_taken_70 rfl rfl (le_b rfl) (le_b rfl)
        · have hf := (am_if hf).2 hc
          refine r_iload (x := u.1 (3, 0, p5) 2) dX9_taken_42 rfl ?_
          obtain ⟨r7, hr8, hf⟩ := am_bind hf
          refine r_callS (as := [vI (u.1 (3, 0, p5) 2)]) (st := []) (n := 1) mw_X9_302 ms_X9_kindAbove (C_X9_kindAbove (l := l) hr8) (le_b rfl) dX9_taken_44 rfl (le_b rfl) (le_b rfl) (le_b rfl) ?_
          show X l _ _ 0 0 false _ kC 0 0 47 [some (vR (0, 0, 0)), some (vI a0), some (vI a1), some (vR (3, 0, p5)), some (vI (u.1 (3, 0, p5) 2)), none] [vI r7] (en u)
          refine r_iload_n (x := a1) dX9_taken_47 rfl ?_
          refine r_icmp_ne (tgt := 55) dX9_taken_48 (by decide) (fun hc => ?_) (fun hc => ?_)
          · have hf := (am_if hf).2 hc
            refine r_iconst (v := 0) dX9_taken_55 rfl ?_
            refine r_istore (L' := [some (vR (0, 0, 0)), some (vI a0), some (vI a1), some (vR (3, 0, p5)), some (vI (u.1 (3, 0, p5) 2)), some (vI (0 : Int32))]) dX9_taken_56 (by decide) rfl ?_
            refine r_iload (x := (0 : Int32)) dX9_taken_58 rfl ?_
            refine r_if_eq (tgt := 68) dX9_taken_60 (by decide) (fun hc => ?_) (fun hc => absurd hc (by decide))
            refine r_bipush (v := -12) dX9_taken_68 rfl ?_
            have hx := am_inj hf
            subst hx
            exact r_iret dX9_taken_70 rfl rfl (le_b rfl) (le_b rfl)
          · have hf := (am_if hf).1 hc
            refine r_iconst (v := 1) dX9_taken_51 rfl ?_
            refine r_goto (tgt := 56) dX9_taken_52 (by decide) ?_
            refine r_istore (L' := [some (vR (0, 0, 0)), some (vI a0), some (vI a1), some (vR (3, 0, p5)), some (vI (u.1 (3, 0, p5) 2)), some (vI (1 : Int32))]) dX9_taken_56 (by decide) rfl ?_
            refine r_iload (x := (1 : Int32)) dX9_taken_58 rfl ?_
            refine r_if_eq (tgt := 68) dX9_taken_60 (by decide) (fun hc => absurd hc (by decide)) (fun hc => ?_)
            refine r_iload (x := u.1 (3, 0, p5) 2) dX9_taken_63 rfl ?_
            refine r_goto (tgt := 70) dX9_taken_65 (by decide) ?_
            have hx := am_inj hf
            subst hx
            exact r_iret dX9_taken_70 rfl rfl (le_b rfl) (le_b rfl)
  · have hf := (am_if hf).1 hc
    refine r_bipush (v := -2) dX9_taken_7 rfl ?_
    have hx := am_inj hf
    subst hx
    exact r_iret dX9_taken_9 rfl rfl (le_b rfl) (le_b rfl)
/-! FireFromFire.count -/
theorem dX9_count_0 : decode cX9_count 0 = .ok (.iload_n 1, 1) := by decide +kernel
theorem dX9_count_1 : decode cX9_count 1 = .ok (.tableswitch 108 0 7 #[47, 55, 60, 68, 76, 84, 92, 100], 47) := by decide +kernel
theorem dX9_count_48 : decode cX9_count 48 = .ok (.aload_n 0, 1) := by decide +kernel
theorem dX9_count_49 : decode cX9_count 49 = .ok (.getfield 14, 3) := by decide +kernel
theorem dX9_count_52 : decode cX9_count 52 = .ok (.getfield 81, 3) := by decide +kernel
theorem dX9_count_55 : decode cX9_count 55 = .ok (.ireturn, 1) := by decide +kernel
theorem dX9_count_56 : decode cX9_count 56 = .ok (.aload_n 0, 1) := by decide +kernel
theorem dX9_count_57 : decode cX9_count 57 = .ok (.getfield 41, 3) := by decide +kernel
theorem dX9_count_60 : decode cX9_count 60 = .ok (.ireturn, 1) := by decide +kernel
theorem dX9_count_61 : decode cX9_count 61 = .ok (.aload_n 0, 1) := by decide +kernel
theorem dX9_count_62 : decode cX9_count 62 = .ok (.getfield 14, 3) := by decide +kernel
theorem dX9_count_65 : decode cX9_count 65 = .ok (.getfield 180, 3) := by decide +kernel
theorem dX9_count_68 : decode cX9_count 68 = .ok (.ireturn, 1) := by decide +kernel
theorem dX9_count_69 : decode cX9_count 69 = .ok (.aload_n 0, 1) := by decide +kernel
theorem dX9_count_70 : decode cX9_count 70 = .ok (.getfield 31, 3) := by decide +kernel
theorem dX9_count_73 : decode cX9_count 73 = .ok (.getfield 130, 3) := by decide +kernel
theorem dX9_count_76 : decode cX9_count 76 = .ok (.ireturn, 1) := by decide +kernel
theorem dX9_count_77 : decode cX9_count 77 = .ok (.aload_n 0, 1) := by decide +kernel
theorem dX9_count_78 : decode cX9_count 78 = .ok (.getfield 14, 3) := by decide +kernel
theorem dX9_count_81 : decode cX9_count 81 = .ok (.getfield 169, 3) := by decide +kernel
theorem dX9_count_84 : decode cX9_count 84 = .ok (.ireturn, 1) := by decide +kernel
theorem dX9_count_85 : decode cX9_count 85 = .ok (.aload_n 0, 1) := by decide +kernel
theorem dX9_count_86 : decode cX9_count 86 = .ok (.getfield 14, 3) := by decide +kernel
theorem dX9_count_89 : decode cX9_count 89 = .ok (.getfield 208, 3) := by decide +kernel
theorem dX9_count_92 : decode cX9_count 92 = .ok (.ireturn, 1) := by decide +kernel
theorem dX9_count_93 : decode cX9_count 93 = .ok (.aload_n 0, 1) := by decide +kernel
theorem dX9_count_94 : decode cX9_count 94 = .ok (.getfield 14, 3) := by decide +kernel
theorem dX9_count_97 : decode cX9_count 97 = .ok (.invokevirtual 243, 3) := by decide +kernel
theorem dX9_count_100 : decode cX9_count 100 = .ok (.ireturn, 1) := by decide +kernel
theorem dX9_count_101 : decode cX9_count 101 = .ok (.aload_n 0, 1) := by decide +kernel
theorem dX9_count_102 : decode cX9_count 102 = .ok (.getfield 69, 3) := by decide +kernel
theorem dX9_count_105 : decode cX9_count 105 = .ok (.getfield 296, 3) := by decide +kernel
theorem dX9_count_108 : decode cX9_count 108 = .ok (.ireturn, 1) := by decide +kernel
theorem dX9_count_109 : decode cX9_count 109 = .ok (.bipush (-2), 2) := by decide +kernel
theorem dX9_count_111 : decode cX9_count 111 = .ok (.ireturn, 1) := by decide +kernel
def f_X9_count  (a0 : Int32) (u : PM) : Option (Int32) :=
  if a0 = (0 : Int32) then
    some (u.1 (1, 0, 0) 0)
  else if a0 = (1 : Int32) then
    some (u.1 (0, 0, 0) 6)
  else if a0 = (2 : Int32) then
    some (u.1 (1, 0, 0) 6)
  else if a0 = (3 : Int32) then
    some (u.1 (9, 0, 0) 1)
  else if a0 = (4 : Int32) then
    some (u.1 (1, 0, 0) 4)
  else if a0 = (5 : Int32) then
    some (u.1 (1, 0, 0) 3)
  else if a0 = (6 : Int32) then
    (f_X8_litCount 0 u).bind fun r1 =>
    some r1
  else if a0 = (7 : Int32) then
    some (u.1 (29, 0, 0) 0)
  else 
  some (-2 : Int32)
set_option maxHeartbeats 4000000 in
set_option maxRecDepth 20000 in
theorem C_X9_count {l : Launch}  {a0 : Int32} {u : PM} {x : Int32} (hf : f_X9_count a0 u = some x) : Ev l mX9_count 3 0 0 false [vR (0, 0, 0), vI a0] kC (en u) (some (vI x), kC, en u) := by
  refine Ev_of (by decide +kernel) (le_b rfl) ?_
  unfold f_X9_count at hf
  show X l mX9_count 3 0 0 false _ kC 0 0 0 [some (vR (0, 0, 0)), some (vI a0)] [] (en u)
  refine r_iload_n (x := a0) dX9_count_0 rfl ?_
  by_cases hs0 : a0 = (0 : Int32)
  · have hf := (am_if hf).1 hs0
    refine r_tswIn (x := a0) (kx := 0) (tgt := 48) dX9_count_1 hs0 (by decide) (by decide) rfl (by decide) ?_
    refine r_aload_n (x := (0, 0, 0)) dX9_count_48 rfl ?_
    refine e_getr (z := some (1, 0, 0)) fw_X9_14 dX9_count_49 (kC_mem (s := 0) (by decide) (by decide) (by decide)) rfl (lt_b rfl) rfl ?_
    refine e_geti fw_X9_81 dX9_count_52 (kC_mem (s := 1) (by decide) (by decide) (by decide)) rfl (lt_b rfl) ?_
    have hx := am_inj hf
    subst hx
    exact r_iret dX9_count_55 rfl rfl (le_b rfl) (le_b rfl)
  have hf := (am_if hf).2 hs0
  by_cases hs1 : a0 = (1 : Int32)
  · have hf := (am_if hf).1 hs1
    refine r_tswIn (x := a0) (kx := 1) (tgt := 56) dX9_count_1 hs1 (by decide) (by decide) rfl (by decide) ?_
    refine r_aload_n (x := (0, 0, 0)) dX9_count_56 rfl ?_
    refine e_geti fw_X9_41 dX9_count_57 (kC_mem (s := 0) (by decide) (by decide) (by decide)) rfl (lt_b rfl) ?_
    have hx := am_inj hf
    subst hx
    exact r_iret dX9_count_60 rfl rfl (le_b rfl) (le_b rfl)
  have hf := (am_if hf).2 hs1
  by_cases hs2 : a0 = (2 : Int32)
  · have hf := (am_if hf).1 hs2
    refine r_tswIn (x := a0) (kx := 2) (tgt := 61) dX9_count_1 hs2 (by decide) (by decide) rfl (by decide) ?_
    refine r_aload_n (x := (0, 0, 0)) dX9_count_61 rfl ?_
    refine e_getr (z := some (1, 0, 0)) fw_X9_14 dX9_count_62 (kC_mem (s := 0) (by decide) (by decide) (by decide)) rfl (lt_b rfl) rfl ?_
    refine e_geti fw_X9_180 dX9_count_65 (kC_mem (s := 1) (by decide) (by decide) (by decide)) rfl (lt_b rfl) ?_
    have hx := am_inj hf
    subst hx
    exact r_iret dX9_count_68 rfl rfl (le_b rfl) (le_b rfl)
  have hf := (am_if hf).2 hs2
  by_cases hs3 : a0 = (3 : Int32)
  · have hf := (am_if hf).1 hs3
    refine r_tswIn (x := a0) (kx := 3) (tgt := 69) dX9_count_1 hs3 (by decide) (by decide) rfl (by decide) ?_
    refine r_aload_n (x := (0, 0, 0)) dX9_count_69 rfl ?_
    refine e_getr (z := some (9, 0, 0)) fw_X9_31 dX9_count_70 (kC_mem (s := 0) (by decide) (by decide) (by decide)) rfl (lt_b rfl) rfl ?_
    refine e_geti fw_X9_130 dX9_count_73 (kC_mem (s := 9) (by decide) (by decide) (by decide)) rfl (lt_b rfl) ?_
    have hx := am_inj hf
    subst hx
    exact r_iret dX9_count_76 rfl rfl (le_b rfl) (le_b rfl)
  have hf := (am_if hf).2 hs3
  by_cases hs4 : a0 = (4 : Int32)
  · have hf := (am_if hf).1 hs4
    refine r_tswIn (x := a0) (kx := 4) (tgt := 77) dX9_count_1 hs4 (by decide) (by decide) rfl (by decide) ?_
    refine r_aload_n (x := (0, 0, 0)) dX9_count_77 rfl ?_
    refine e_getr (z := some (1, 0, 0)) fw_X9_14 dX9_count_78 (kC_mem (s := 0) (by decide) (by decide) (by decide)) rfl (lt_b rfl) rfl ?_
    refine e_geti fw_X9_169 dX9_count_81 (kC_mem (s := 1) (by decide) (by decide) (by decide)) rfl (lt_b rfl) ?_
    have hx := am_inj hf
    subst hx
    exact r_iret dX9_count_84 rfl rfl (le_b rfl) (le_b rfl)
  have hf := (am_if hf).2 hs4
  by_cases hs5 : a0 = (5 : Int32)
  · have hf := (am_if hf).1 hs5
    refine r_tswIn (x := a0) (kx := 5) (tgt := 85) dX9_count_1 hs5 (by decide) (by decide) rfl (by decide) ?_
    refine r_aload_n (x := (0, 0, 0)) dX9_count_85 rfl ?_
    refine e_getr (z := some (1, 0, 0)) fw_X9_14 dX9_count_86 (kC_mem (s := 0) (by decide) (by decide) (by decide)) rfl (lt_b rfl) rfl ?_
    refine e_geti fw_X9_208 dX9_count_89 (kC_mem (s := 1) (by decide) (by decide) (by decide)) rfl (lt_b rfl) ?_
    have hx := am_inj hf
    subst hx
    exact r_iret dX9_count_92 rfl rfl (le_b rfl) (le_b rfl)
  have hf := (am_if hf).2 hs5
  by_cases hs6 : a0 = (6 : Int32)
  · have hf := (am_if hf).1 hs6
    refine r_tswIn (x := a0) (kx := 6) (tgt := 93) dX9_count_1 hs6 (by decide) (by decide) rfl (by decide) ?_
    refine r_aload_n (x := (0, 0, 0)) dX9_count_93 rfl ?_
    refine e_getr (z := some (1, 0, 0)) fw_X9_14 dX9_count_94 (kC_mem (s := 0) (by decide) (by decide) (by decide)) rfl (lt_b rfl) rfl ?_
    obtain ⟨r1, hr2, hf⟩ := am_bind hf
    refine r_callV (as := []) (st := []) (n := 0) mw_X9_243 mv_X8_litCount (C_X8_litCount (l := l) (by decide) hr2) (le_b rfl) dX9_count_97 (kC_mem (s := 1) (by decide) (by decide) (by decide)) rfl rfl rfl (le_b rfl) (le_b rfl) (le_b rfl) ?_
    show X l _ _ 0 0 false _ kC 0 0 100 [some (vR (0, 0, 0)), some (vI a0)] [vI r1] (en u)
    have hx := am_inj hf
    subst hx
    exact r_iret dX9_count_100 rfl rfl (le_b rfl) (le_b rfl)
  have hf := (am_if hf).2 hs6
  by_cases hs7 : a0 = (7 : Int32)
  · have hf := (am_if hf).1 hs7
    refine r_tswIn (x := a0) (kx := 7) (tgt := 101) dX9_count_1 hs7 (by decide) (by decide) rfl (by decide) ?_
    refine r_aload_n (x := (0, 0, 0)) dX9_count_101 rfl ?_
    refine e_getr (z := some (29, 0, 0)) fw_X9_69 dX9_count_102 (kC_mem (s := 0) (by decide) (by decide) (by decide)) rfl (lt_b rfl) rfl ?_
    refine e_geti fw_X9_296 dX9_count_105 (kC_mem (s := 29) (by decide) (by decide) (by decide)) rfl (lt_b rfl) ?_
    have hx := am_inj hf
    subst hx
    exact r_iret dX9_count_108 rfl rfl (le_b rfl) (le_b rfl)
  have hf := (am_if hf).2 hs7
  refine r_tswOut (x := a0) (tgt := 109) dX9_count_1 (by have ehs0 := am_neI hs0 (z := 0) rfl; have ehs1 := am_neI hs1 (z := 1) rfl; have ehs2 := am_neI hs2 (z := 2) rfl; have ehs3 := am_neI hs3 (z := 3) rfl; have ehs4 := am_neI hs4 (z := 4) rfl; have ehs5 := am_neI hs5 (z := 5) rfl; have ehs6 := am_neI hs6 (z := 6) rfl; have ehs7 := am_neI hs7 (z := 7) rfl; omega) (by decide) ?_
  refine r_bipush (v := -2) dX9_count_109 rfl ?_
  have hx := am_inj hf
  subst hx
  exact r_iret dX9_count_111 rfl rfl (le_b rfl) (le_b rfl)
/-! FireFromFire.tape -/
theorem dX9_tape_0 : decode cX9_tape 0 = .ok (.aload_n 0, 1) := by decide +kernel
theorem dX9_tape_1 : decode cX9_tape 1 = .ok (.iload_n 1, 1) := by decide +kernel
theorem dX9_tape_2 : decode cX9_tape 2 = .ok (.invokevirtual 266, 3) := by decide +kernel
theorem dX9_tape_5 : decode cX9_tape 5 = .ok (.astore 4, 2) := by decide +kernel
theorem dX9_tape_7 : decode cX9_tape 7 = .ok (.aload 4, 2) := by decide +kernel
theorem dX9_tape_9 : decode cX9_tape 9 = .ok (.ifnonnull 5, 3) := by decide +kernel
theorem dX9_tape_12 : decode cX9_tape 12 = .ok (.iconst (-1), 1) := by decide +kernel
theorem dX9_tape_13 : decode cX9_tape 13 = .ok (.ireturn, 1) := by decide +kernel
theorem dX9_tape_14 : decode cX9_tape 14 = .ok (.iload_n 2, 1) := by decide +kernel
theorem dX9_tape_15 : decode cX9_tape 15 = .ok (.iconst (-1), 1) := by decide +kernel
theorem dX9_tape_16 : decode cX9_tape 16 = .ok (.if_icmp .ne 12, 3) := by decide +kernel
theorem dX9_tape_19 : decode cX9_tape 19 = .ok (.aload 4, 2) := by decide +kernel
theorem dX9_tape_21 : decode cX9_tape 21 = .ok (.iconst (-1), 1) := by decide +kernel
theorem dX9_tape_22 : decode cX9_tape 22 = .ok (.iconst 0, 1) := by decide +kernel
theorem dX9_tape_23 : decode cX9_tape 23 = .ok (.invokevirtual 305, 3) := by decide +kernel
theorem dX9_tape_26 : decode cX9_tape 26 = .ok (.iconst 1, 1) := by decide +kernel
theorem dX9_tape_27 : decode cX9_tape 27 = .ok (.ireturn, 1) := by decide +kernel
theorem dX9_tape_28 : decode cX9_tape 28 = .ok (.iload_n 2, 1) := by decide +kernel
theorem dX9_tape_29 : decode cX9_tape 29 = .ok (.ifCond .lt 14, 3) := by decide +kernel
theorem dX9_tape_32 : decode cX9_tape 32 = .ok (.iload_n 2, 1) := by decide +kernel
theorem dX9_tape_33 : decode cX9_tape 33 = .ok (.iconst 4, 1) := by decide +kernel
theorem dX9_tape_34 : decode cX9_tape 34 = .ok (.if_icmp .gt 9, 3) := by decide +kernel
theorem dX9_tape_37 : decode cX9_tape 37 = .ok (.iload_n 3, 1) := by decide +kernel
theorem dX9_tape_38 : decode cX9_tape 38 = .ok (.bipush 60, 2) := by decide +kernel
theorem dX9_tape_40 : decode cX9_tape 40 = .ok (.if_icmp .le 6, 3) := by decide +kernel
theorem dX9_tape_43 : decode cX9_tape 43 = .ok (.bipush (-2), 2) := by decide +kernel
theorem dX9_tape_45 : decode cX9_tape 45 = .ok (.ireturn, 1) := by decide +kernel
theorem dX9_tape_46 : decode cX9_tape 46 = .ok (.iload_n 3, 1) := by decide +kernel
theorem dX9_tape_47 : decode cX9_tape 47 = .ok (.ifCond .ge 6, 3) := by decide +kernel
theorem dX9_tape_50 : decode cX9_tape 50 = .ok (.bipush (-14), 2) := by decide +kernel
theorem dX9_tape_52 : decode cX9_tape 52 = .ok (.ireturn, 1) := by decide +kernel
theorem dX9_tape_53 : decode cX9_tape 53 = .ok (.aload 4, 2) := by decide +kernel
theorem dX9_tape_55 : decode cX9_tape 55 = .ok (.iload_n 2, 1) := by decide +kernel
theorem dX9_tape_56 : decode cX9_tape 56 = .ok (.iload_n 3, 1) := by decide +kernel
theorem dX9_tape_57 : decode cX9_tape 57 = .ok (.invokevirtual 305, 3) := by decide +kernel
theorem dX9_tape_60 : decode cX9_tape 60 = .ok (.iconst 1, 1) := by decide +kernel
theorem dX9_tape_61 : decode cX9_tape 61 = .ok (.ireturn, 1) := by decide +kernel
def f_X9_tape  (a0 : Int32) (a1 : Int32) (a2 : Int32) (u : PM) : Option (Int32 × PM) :=
  (f_X9_findTape a0 u).bind fun r1 =>
  match r1 with
  | none =>
    some ((-1 : Int32), u)
  | some p3 =>
    if p3 < 6 then
      if a1 = (-1 : Int32) then
        (f_X7_start p3 (-1 : Int32) (0 : Int32) u).bind fun r7 =>
        some ((1 : Int32), r7)
      else
      if a1 < 0 then
        some ((-2 : Int32), u)
      else
      if (4 : Int32) < a1 then
        some ((-2 : Int32), u)
      else
      if a2 ≤ (60 : Int32) then
        if 0 ≤ a2 then
          (f_X7_start p3 a1 a2 u).bind fun r5 =>
          some ((1 : Int32), r5)
        else
        some ((-14 : Int32), u)
      else
      some ((-2 : Int32), u)
    else none
set_option maxHeartbeats 4000000 in
set_option maxRecDepth 20000 in
theorem C_X9_tape {l : Launch}  {a0 : Int32} {a1 : Int32} {a2 : Int32} {u : PM} {x : Int32 × PM} (hf : f_X9_tape a0 a1 a2 u = some x) : Ev l mX9_tape 2 0 0 false [vR (0, 0, 0), vI a0, vI a1, vI a2] kC (en u) (some (vI x.1), kC, en x.2) := by
  refine Ev_of (by decide +kernel) (le_b rfl) ?_
  unfold f_X9_tape at hf
  show X l mX9_tape 2 0 0 false _ kC 0 0 0 [some (vR (0, 0, 0)), some (vI a0), some (vI a1), some (vI a2), none] [] (en u)
  refine r_aload_n (x := (0, 0, 0)) dX9_tape_0 rfl ?_
  refine r_iload_n (x := a0) dX9_tape_1 rfl ?_
  obtain ⟨r1, hr2, hf⟩ := am_bind hf
  refine r_callV (as := [vI a0]) (st := []) (n := 1) mw_X9_266 mv_X9_findTape (C_X9_findTape (l := l) hr2) (le_b rfl) dX9_tape_2 (kC_mem (s := 0) (by decide) (by decide) (by decide)) rfl rfl rfl (le_b rfl) (le_b rfl) (le_b rfl) ?_
  cases r1 with
  | none =>
    show X l _ _ 0 0 false _ kC 0 0 5 [some (vR (0, 0, 0)), some (vI a0), some (vI a1), some (vI a2), none] [vN] (en u)
    refine r_astoreN (L' := [some (vR (0, 0, 0)), some (vI a0), some (vI a1), some (vI a2), some (vN)]) dX9_tape_5 (by decide) rfl ?_
    refine r_aloadN dX9_tape_7 rfl ?_
    refine r_ifnonnullN dX9_tape_9 ?_
    refine r_iconst (v := -1) dX9_tape_12 rfl ?_
    have hx := am_inj hf
    subst hx
    exact r_iret dX9_tape_13 rfl rfl (le_b rfl) (le_b rfl)
  | some p3 =>
    obtain ⟨h4, hf⟩ := am_chk hf
    show X l _ _ 0 0 false _ kC 0 0 5 [some (vR (0, 0, 0)), some (vI a0), some (vI a1), some (vI a2), none] [vR (32, p3, 0)] (en u)
    refine r_astore (L' := [some (vR (0, 0, 0)), some (vI a0), some (vI a1), some (vI a2), some (vR (32, p3, 0))]) dX9_tape_5 (by decide) rfl ?_
    refine r_aload (x := (32, p3, 0)) dX9_tape_7 rfl ?_
    refine r_ifnonnullR (tgt := 14) dX9_tape_9 (by decide) ?_
    refine r_iload_n (x := a1) dX9_tape_14 rfl ?_
    refine r_iconst (v := -1) dX9_tape_15 rfl ?_
    refine r_icmp_ne (tgt := 28) dX9_tape_16 (by decide) (fun hc => ?_) (fun hc => ?_)
    · have hf := (am_if hf).2 hc
      refine r_iload_n (x := a1) dX9_tape_28 rfl ?_
      refine r_if_lt (tgt := 43) dX9_tape_29 (by decide) (fun hc => ?_) (fun hc => ?_)
      · have hf := (am_if hf).1 hc
        refine r_bipush (v := -2) dX9_tape_43 rfl ?_
        have hx := am_inj hf
        subst hx
        exact r_iret dX9_tape_45 rfl rfl (le_b rfl) (le_b rfl)
      · have hf := (am_if hf).2 hc
        refine r_iload_n (x := a1) dX9_tape_32 rfl ?_
        refine r_iconst (v := 4) dX9_tape_33 rfl ?_
        refine r_icmp_gt (tgt := 43) dX9_tape_34 (by decide) (fun hc => ?_) (fun hc => ?_)
        · have hf := (am_if hf).1 hc
          refine r_bipush (v := -2) dX9_tape_43 rfl ?_
          have hx := am_inj hf
          subst hx
          exact r_iret dX9_tape_45 rfl rfl (le_b rfl) (le_b rfl)
        · have hf := (am_if hf).2 hc
          refine r_iload_n (x := a2) dX9_tape_37 rfl ?_
          refine r_bipush (v := 60) dX9_tape_38 rfl ?_
          refine r_icmp_le (tgt := 46) dX9_tape_40 (by decide) (fun hc => ?_) (fun hc => ?_)
          · have hf := (am_if hf).1 hc
            refine r_iload_n (x := a2) dX9_tape_46 rfl ?_
            refine r_if_ge (tgt := 53) dX9_tape_47 (by decide) (fun hc => ?_) (fun hc => ?_)
            · have hf := (am_if hf).1 hc
              refine r_aload (x := (32, p3, 0)) dX9_tape_53 rfl ?_
              refine r_iload_n (x := a1) dX9_tape_55 rfl ?_
              refine r_iload_n (x := a2) dX9_tape_56 rfl ?_
              obtain ⟨r5, hr6, hf⟩ := am_bind hf
              refine r_callV (as := [vI a1, vI a2]) (st := []) (n := 2) mw_X9_305 mv_X7_start (C_X7_start (l := l) h4 hr6) (le_b rfl) dX9_tape_57 (kC_mem (s := 32) (by decide) h4 (by decide)) rfl rfl rfl (le_b rfl) (le_b rfl) (le_b rfl) ?_
              show X l _ _ 0 0 false _ kC 0 0 60 [some (vR (0, 0, 0)), some (vI a0), some (vI a1), some (vI a2), some (vR (32, p3, 0))] [] (en r5)
              refine r_iconst (v := 1) dX9_tape_60 rfl ?_
              have hx := am_inj hf
              subst hx
              exact r_iret dX9_tape_61 rfl rfl (le_b rfl) (le_b rfl)
            · have hf := (am_if hf).2 hc
              refine r_bipush (v := -14) dX9_tape_50 rfl ?_
              have hx := am_inj hf
              subst hx
              exact r_iret dX9_tape_52 rfl rfl (le_b rfl) (le_b rfl)
          · have hf := (am_if hf).2 hc
            refine r_bipush (v := -2) dX9_tape_43 rfl ?_
            have hx := am_inj hf
            subst hx
            exact r_iret dX9_tape_45 rfl rfl (le_b rfl) (le_b rfl)
    · have hf := (am_if hf).1 hc
      refine r_aload (x := (32, p3, 0)) dX9_tape_19 rfl ?_
      refine r_iconst (v := -1) dX9_tape_21 rfl ?_
      refine r_iconst (v := 0) dX9_tape_22 rfl ?_
      obtain ⟨r7, hr8, hf⟩ := am_bind hf
      refine r_callV (as := [vI (-1 : Int32), vI (0 : Int32)]) (st := []) (n := 2) mw_X9_305 mv_X7_start (C_X7_start (l := l) h4 hr8) (le_b rfl) dX9_tape_23 (kC_mem (s := 32) (by decide) h4 (by decide)) rfl rfl rfl (le_b rfl) (le_b rfl) (le_b rfl) ?_
      show X l _ _ 0 0 false _ kC 0 0 26 [some (vR (0, 0, 0)), some (vI a0), some (vI a1), some (vI a2), some (vR (32, p3, 0))] [] (en r7)
      refine r_iconst (v := 1) dX9_tape_26 rfl ?_
      have hx := am_inj hf
      subst hx
      exact r_iret dX9_tape_27 rfl rfl (le_b rfl) (le_b rfl)
/-! FireFromFire.item -/
theorem dX9_item_0 : decode cX9_item 0 = .ok (.aload_n 0, 1) := by decide +kernel
theorem dX9_item_1 : decode cX9_item 1 = .ok (.iload_n 1, 1) := by decide +kernel
theorem dX9_item_2 : decode cX9_item 2 = .ok (.invokevirtual 266, 3) := by decide +kernel
theorem dX9_item_5 : decode cX9_item 5 = .ok (.astore 5, 2) := by decide +kernel
theorem dX9_item_7 : decode cX9_item 7 = .ok (.aload 5, 2) := by decide +kernel
theorem dX9_item_9 : decode cX9_item 9 = .ok (.ifnonnull 5, 3) := by decide +kernel
theorem dX9_item_12 : decode cX9_item 12 = .ok (.iconst (-1), 1) := by decide +kernel
theorem dX9_item_13 : decode cX9_item 13 = .ok (.ireturn, 1) := by decide +kernel
theorem dX9_item_14 : decode cX9_item 14 = .ok (.aload 5, 2) := by decide +kernel
theorem dX9_item_16 : decode cX9_item 16 = .ok (.invokevirtual 270, 3) := by decide +kernel
theorem dX9_item_19 : decode cX9_item 19 = .ok (.ifCond .ne 6, 3) := by decide +kernel
theorem dX9_item_22 : decode cX9_item 22 = .ok (.bipush (-11), 2) := by decide +kernel
theorem dX9_item_24 : decode cX9_item 24 = .ok (.ireturn, 1) := by decide +kernel
theorem dX9_item_25 : decode cX9_item 25 = .ok (.iload_n 2, 1) := by decide +kernel
theorem dX9_item_26 : decode cX9_item 26 = .ok (.ifCond .lt 12, 3) := by decide +kernel
theorem dX9_item_29 : decode cX9_item 29 = .ok (.iload_n 2, 1) := by decide +kernel
theorem dX9_item_30 : decode cX9_item 30 = .ok (.aload 5, 2) := by decide +kernel
theorem dX9_item_32 : decode cX9_item 32 = .ok (.getfield 277, 3) := by decide +kernel
theorem dX9_item_35 : decode cX9_item 35 = .ok (.if_icmp .lt 6, 3) := by decide +kernel
theorem dX9_item_38 : decode cX9_item 38 = .ok (.bipush (-13), 2) := by decide +kernel
theorem dX9_item_40 : decode cX9_item 40 = .ok (.ireturn, 1) := by decide +kernel
theorem dX9_item_41 : decode cX9_item 41 = .ok (.aload 5, 2) := by decide +kernel
theorem dX9_item_43 : decode cX9_item 43 = .ok (.iload_n 2, 1) := by decide +kernel
theorem dX9_item_44 : decode cX9_item 44 = .ok (.lload_n 3, 1) := by decide +kernel
theorem dX9_item_45 : decode cX9_item 45 = .ok (.invokevirtual 308, 3) := by decide +kernel
theorem dX9_item_48 : decode cX9_item 48 = .ok (.iconst 1, 1) := by decide +kernel
theorem dX9_item_49 : decode cX9_item 49 = .ok (.ireturn, 1) := by decide +kernel
def f_X9_item  (a0 : Int32) (a1 : Int32) (a2 : Int64) (u : PM) : Option (Int32 × PM) :=
  (f_X9_findTape a0 u).bind fun r1 =>
  match r1 with
  | none =>
    some ((-1 : Int32), u)
  | some p3 =>
    if p3 < 6 then
      (f_X7_isRow p3 u).bind fun r5 =>
      if r5 = 0 then
        some ((-11 : Int32), u)
      else
      if a1 < 0 then
        some ((-13 : Int32), u)
      else
      if a1 < (u.1 (32, p3, 0) 1) then
        (f_X7_put p3 a1 a2 u).bind fun r7 =>
        some ((1 : Int32), r7)
      else
      some ((-13 : Int32), u)
    else none
set_option maxHeartbeats 4000000 in
set_option maxRecDepth 20000 in
theorem C_X9_item {l : Launch}  {a0 : Int32} {a1 : Int32} {a2 : Int64} {u : PM} {x : Int32 × PM} (hf : f_X9_item a0 a1 a2 u = some x) : Ev l mX9_item 3 0 0 false [vR (0, 0, 0), vI a0, vI a1, vJ a2] kC (en u) (some (vI x.1), kC, en x.2) := by
  refine Ev_of (by decide +kernel) (le_b rfl) ?_
  unfold f_X9_item at hf
  show X l mX9_item 3 0 0 false _ kC 0 0 0 [some (vR (0, 0, 0)), some (vI a0), some (vI a1), some (vJ a2), none, none] [] (en u)
  refine r_aload_n (x := (0, 0, 0)) dX9_item_0 rfl ?_
  refine r_iload_n (x := a0) dX9_item_1 rfl ?_
  obtain ⟨r1, hr2, hf⟩ := am_bind hf
  refine r_callV (as := [vI a0]) (st := []) (n := 1) mw_X9_266 mv_X9_findTape (C_X9_findTape (l := l) hr2) (le_b rfl) dX9_item_2 (kC_mem (s := 0) (by decide) (by decide) (by decide)) rfl rfl rfl (le_b rfl) (le_b rfl) (le_b rfl) ?_
  cases r1 with
  | none =>
    show X l _ _ 0 0 false _ kC 0 0 5 [some (vR (0, 0, 0)), some (vI a0), some (vI a1), some (vJ a2), none, none] [vN] (en u)
    refine r_astoreN (L' := [some (vR (0, 0, 0)), some (vI a0), some (vI a1), some (vJ a2), none, some (vN)]) dX9_item_5 (by decide) rfl ?_
    refine r_aloadN dX9_item_7 rfl ?_
    refine r_ifnonnullN dX9_item_9 ?_
    refine r_iconst (v := -1) dX9_item_12 rfl ?_
    have hx := am_inj hf
    subst hx
    exact r_iret dX9_item_13 rfl rfl (le_b rfl) (le_b rfl)
  | some p3 =>
    obtain ⟨h4, hf⟩ := am_chk hf
    show X l _ _ 0 0 false _ kC 0 0 5 [some (vR (0, 0, 0)), some (vI a0), some (vI a1), some (vJ a2), none, none] [vR (32, p3, 0)] (en u)
    refine r_astore (L' := [some (vR (0, 0, 0)), some (vI a0), some (vI a1), some (vJ a2), none, some (vR (32, p3, 0))]) dX9_item_5 (by decide) rfl ?_
    refine r_aload (x := (32, p3, 0)) dX9_item_7 rfl ?_
    refine r_ifnonnullR (tgt := 14) dX9_item_9 (by decide) ?_
    refine r_aload (x := (32, p3, 0)) dX9_item_14 rfl ?_
    obtain ⟨r5, hr6, hf⟩ := am_bind hf
    refine r_callV (as := []) (st := []) (n := 0) mw_X9_270 mv_X7_isRow (C_X7_isRow (l := l) h4 hr6) (le_b rfl) dX9_item_16 (kC_mem (s := 32) (by decide) h4 (by decide)) rfl rfl rfl (le_b rfl) (le_b rfl) (le_b rfl) ?_
    show X l _ _ 0 0 false _ kC 0 0 19 [some (vR (0, 0, 0)), some (vI a0), some (vI a1), some (vJ a2), none, some (vR (32, p3, 0))] [vI r5] (en u)
    refine r_if_ne (tgt := 25) dX9_item_19 (by decide) (fun hc => ?_) (fun hc => ?_)
    · have hf := (am_if hf).2 hc
      refine r_iload_n (x := a1) dX9_item_25 rfl ?_
      refine r_if_lt (tgt := 38) dX9_item_26 (by decide) (fun hc => ?_) (fun hc => ?_)
      · have hf := (am_if hf).1 hc
        refine r_bipush (v := -13) dX9_item_38 rfl ?_
        have hx := am_inj hf
        subst hx
        exact r_iret dX9_item_40 rfl rfl (le_b rfl) (le_b rfl)
      · have hf := (am_if hf).2 hc
        refine r_iload_n (x := a1) dX9_item_29 rfl ?_
        refine r_aload (x := (32, p3, 0)) dX9_item_30 rfl ?_
        refine e_geti fw_X9_277 dX9_item_32 (kC_mem (s := 32) (by decide) h4 (by decide)) rfl (lt_b rfl) ?_
        refine r_icmp_lt (tgt := 41) dX9_item_35 (by decide) (fun hc => ?_) (fun hc => ?_)
        · have hf := (am_if hf).1 hc
          refine r_aload (x := (32, p3, 0)) dX9_item_41 rfl ?_
          refine r_iload_n (x := a1) dX9_item_43 rfl ?_
          refine r_lload_n (x := a2) dX9_item_44 rfl ?_
          obtain ⟨r7, hr8, hf⟩ := am_bind hf
          refine r_callV (as := [vI a1, vJ a2]) (st := []) (n := 2) mw_X9_308 mv_X7_put (C_X7_put (l := l) h4 hr8) (le_b rfl) dX9_item_45 (kC_mem (s := 32) (by decide) h4 (by decide)) rfl rfl rfl (le_b rfl) (le_b rfl) (le_b rfl) ?_
          show X l _ _ 0 0 false _ kC 0 0 48 [some (vR (0, 0, 0)), some (vI a0), some (vI a1), some (vJ a2), none, some (vR (32, p3, 0))] [] (en r7)
          refine r_iconst (v := 1) dX9_item_48 rfl ?_
          have hx := am_inj hf
          subst hx
          exact r_iret dX9_item_49 rfl rfl (le_b rfl) (le_b rfl)
        · have hf := (am_if hf).2 hc
          refine r_bipush (v := -13) dX9_item_38 rfl ?_
          have hx := am_inj hf
          subst hx
          exact r_iret dX9_item_40 rfl rfl (le_b rfl) (le_b rfl)
    · have hf := (am_if hf).1 hc
      refine r_bipush (v := -11) dX9_item_22 rfl ?_
      have hx := am_inj hf
      subst hx
      exact r_iret dX9_item_24 rfl rfl (le_b rfl) (le_b rfl)
/-! FireFromFire.read -/
theorem dX9_read_0 : decode cX9_read 0 = .ok (.aload_n 0, 1) := by decide +kernel
theorem dX9_read_1 : decode cX9_read 1 = .ok (.iload_n 1, 1) := by decide +kernel
theorem dX9_read_2 : decode cX9_read 2 = .ok (.invokevirtual 266, 3) := by decide +kernel
theorem dX9_read_5 : decode cX9_read 5 = .ok (.astore_n 3, 1) := by decide +kernel
theorem dX9_read_6 : decode cX9_read 6 = .ok (.aload_n 3, 1) := by decide +kernel
theorem dX9_read_7 : decode cX9_read 7 = .ok (.ifnull 22, 3) := by decide +kernel
theorem dX9_read_10 : decode cX9_read 10 = .ok (.aload_n 3, 1) := by decide +kernel
theorem dX9_read_11 : decode cX9_read 11 = .ok (.invokevirtual 270, 3) := by decide +kernel
theorem dX9_read_14 : decode cX9_read 14 = .ok (.ifCond .eq 15, 3) := by decide +kernel
theorem dX9_read_17 : decode cX9_read 17 = .ok (.iload_n 2, 1) := by decide +kernel
theorem dX9_read_18 : decode cX9_read 18 = .ok (.ifCond .lt 11, 3) := by decide +kernel
theorem dX9_read_21 : decode cX9_read 21 = .ok (.iload_n 2, 1) := by decide +kernel
theorem dX9_read_22 : decode cX9_read 22 = .ok (.aload_n 3, 1) := by decide +kernel
theorem dX9_read_23 : decode cX9_read 23 = .ok (.getfield 277, 3) := by decide +kernel
theorem dX9_read_26 : decode cX9_read 26 = .ok (.if_icmp .lt 7, 3) := by decide +kernel
theorem dX9_read_29 : decode cX9_read 29 = .ok (.ldc2_w 218, 3) := by decide +kernel
theorem dX9_read_32 : decode cX9_read 32 = .ok (.lreturn, 1) := by decide +kernel
theorem dX9_read_33 : decode cX9_read 33 = .ok (.aload_n 3, 1) := by decide +kernel
theorem dX9_read_34 : decode cX9_read 34 = .ok (.iload_n 2, 1) := by decide +kernel
theorem dX9_read_35 : decode cX9_read 35 = .ok (.invokevirtual 280, 3) := by decide +kernel
theorem dX9_read_38 : decode cX9_read 38 = .ok (.lreturn, 1) := by decide +kernel
def f_X9_read  (a0 : Int32) (a1 : Int32) (u : PM) : Option (Int64) :=
  (f_X9_findTape a0 u).bind fun r1 =>
  match r1 with
  | none =>
    some (-9223372036854775808 : Int64)
  | some p3 =>
    if p3 < 6 then
      (f_X7_isRow p3 u).bind fun r5 =>
      if r5 = 0 then
        some (-9223372036854775808 : Int64)
      else
      if a1 < 0 then
        some (-9223372036854775808 : Int64)
      else
      if a1 < (u.1 (32, p3, 0) 1) then
        (f_X7_get p3 a1 u).bind fun r7 =>
        some r7
      else
      some (-9223372036854775808 : Int64)
    else none
set_option maxHeartbeats 4000000 in
set_option maxRecDepth 20000 in
theorem C_X9_read {l : Launch}  {a0 : Int32} {a1 : Int32} {u : PM} {x : Int64} (hf : f_X9_read a0 a1 u = some x) : Ev l mX9_read 2 0 0 false [vR (0, 0, 0), vI a0, vI a1] kC (en u) (some (vJ x), kC, en u) := by
  refine Ev_of (by decide +kernel) (le_b rfl) ?_
  unfold f_X9_read at hf
  show X l mX9_read 2 0 0 false _ kC 0 0 0 [some (vR (0, 0, 0)), some (vI a0), some (vI a1), none] [] (en u)
  refine r_aload_n (x := (0, 0, 0)) dX9_read_0 rfl ?_
  refine r_iload_n (x := a0) dX9_read_1 rfl ?_
  obtain ⟨r1, hr2, hf⟩ := am_bind hf
  refine r_callV (as := [vI a0]) (st := []) (n := 1) mw_X9_266 mv_X9_findTape (C_X9_findTape (l := l) hr2) (le_b rfl) dX9_read_2 (kC_mem (s := 0) (by decide) (by decide) (by decide)) rfl rfl rfl (le_b rfl) (le_b rfl) (le_b rfl) ?_
  cases r1 with
  | none =>
    show X l _ _ 0 0 false _ kC 0 0 5 [some (vR (0, 0, 0)), some (vI a0), some (vI a1), none] [vN] (en u)
    refine r_astore_nN (L' := [some (vR (0, 0, 0)), some (vI a0), some (vI a1), some (vN)]) dX9_read_5 (by decide) rfl ?_
    refine r_aload_nN dX9_read_6 rfl ?_
    refine r_ifnullN (tgt := 29) dX9_read_7 (by decide) ?_
    refine r_ldc2 (v := -9223372036854775808) dX9_read_29 cc_X9_218 ?_
    have hx := am_inj hf
    subst hx
    exact r_lret dX9_read_32 rfl (le_b rfl) (le_b rfl)
  | some p3 =>
    obtain ⟨h4, hf⟩ := am_chk hf
    show X l _ _ 0 0 false _ kC 0 0 5 [some (vR (0, 0, 0)), some (vI a0), some (vI a1), none] [vR (32, p3, 0)] (en u)
    refine r_astore_n (L' := [some (vR (0, 0, 0)), some (vI a0), some (vI a1), some (vR (32, p3, 0))]) dX9_read_5 (by decide) rfl ?_
    refine r_aload_n (x := (32, p3, 0)) dX9_read_6 rfl ?_
    refine r_ifnullR dX9_read_7 ?_
    refine r_aload_n (x := (32, p3, 0)) dX9_read_10 rfl ?_
    obtain ⟨r5, hr6, hf⟩ := am_bind hf
    refine r_callV (as := []) (st := []) (n := 0) mw_X9_270 mv_X7_isRow (C_X7_isRow (l := l) h4 hr6) (le_b rfl) dX9_read_11 (kC_mem (s := 32) (by decide) h4 (by decide)) rfl rfl rfl (le_b rfl) (le_b rfl) (le_b rfl) ?_
    show X l _ _ 0 0 false _ kC 0 0 14 [some (vR (0, 0, 0)), some (vI a0), some (vI a1), some (vR (32, p3, 0))] [vI r5] (en u)
    refine r_if_eq (tgt := 29) dX9_read_14 (by decide) (fun hc => ?_) (fun hc => ?_)
    · have hf := (am_if hf).1 hc
      refine r_ldc2 (v := -9223372036854775808) dX9_read_29 cc_X9_218 ?_
      have hx := am_inj hf
      subst hx
      exact r_lret dX9_read_32 rfl (le_b rfl) (le_b rfl)
    · have hf := (am_if hf).2 hc
      refine r_iload_n (x := a1) dX9_read_17 rfl ?_
      refine r_if_lt (tgt := 29) dX9_read_18 (by decide) (fun hc => ?_) (fun hc => ?_)
      · have hf := (am_if hf).1 hc
        refine r_ldc2 (v := -9223372036854775808) dX9_read_29 cc_X9_218 ?_
        have hx := am_inj hf
        subst hx
        exact r_lret dX9_read_32 rfl (le_b rfl) (le_b rfl)
      · have hf := (am_if hf).2 hc
        refine r_iload_n (x := a1) dX9_read_21 rfl ?_
        refine r_aload_n (x := (32, p3, 0)) dX9_read_22 rfl ?_
        refine e_geti fw_X9_277 dX9_read_23 (kC_mem (s := 32) (by decide) h4 (by decide)) rfl (lt_b rfl) ?_
        refine r_icmp_lt (tgt := 33) dX9_read_26 (by decide) (fun hc => ?_) (fun hc => ?_)
        · have hf := (am_if hf).1 hc
          refine r_aload_n (x := (32, p3, 0)) dX9_read_33 rfl ?_
          refine r_iload_n (x := a1) dX9_read_34 rfl ?_
          obtain ⟨r7, hr8, hf⟩ := am_bind hf
          refine r_callV (as := [vI a1]) (st := []) (n := 1) mw_X9_280 mv_X7_get (C_X7_get (l := l) h4 hr8) (le_b rfl) dX9_read_35 (kC_mem (s := 32) (by decide) h4 (by decide)) rfl rfl rfl (le_b rfl) (le_b rfl) (le_b rfl) ?_
          show X l _ _ 0 0 false _ kC 0 0 38 [some (vR (0, 0, 0)), some (vI a0), some (vI a1), some (vR (32, p3, 0))] [vJ r7] (en u)
          have hx := am_inj hf
          subst hx
          exact r_lret dX9_read_38 rfl (le_b rfl) (le_b rfl)
        · have hf := (am_if hf).2 hc
          refine r_ldc2 (v := -9223372036854775808) dX9_read_29 cc_X9_218 ?_
          have hx := am_inj hf
          subst hx
          exact r_lret dX9_read_32 rfl (le_b rfl) (le_b rfl)
/-! FireFromFire.shift -/
theorem dX9_shift_0 : decode cX9_shift 0 = .ok (.aload_n 0, 1) := by decide +kernel
theorem dX9_shift_1 : decode cX9_shift 1 = .ok (.iload_n 1, 1) := by decide +kernel
theorem dX9_shift_2 : decode cX9_shift 2 = .ok (.invokevirtual 266, 3) := by decide +kernel
theorem dX9_shift_5 : decode cX9_shift 5 = .ok (.astore 6, 2) := by decide +kernel
theorem dX9_shift_7 : decode cX9_shift 7 = .ok (.aload_n 0, 1) := by decide +kernel
theorem dX9_shift_8 : decode cX9_shift 8 = .ok (.iload_n 3, 1) := by decide +kernel
theorem dX9_shift_9 : decode cX9_shift 9 = .ok (.invokevirtual 266, 3) := by decide +kernel
theorem dX9_shift_12 : decode cX9_shift 12 = .ok (.astore 7, 2) := by decide +kernel
theorem dX9_shift_14 : decode cX9_shift 14 = .ok (.aload 6, 2) := by decide +kernel
theorem dX9_shift_16 : decode cX9_shift 16 = .ok (.ifnull 8, 3) := by decide +kernel
theorem dX9_shift_19 : decode cX9_shift 19 = .ok (.aload 7, 2) := by decide +kernel
theorem dX9_shift_21 : decode cX9_shift 21 = .ok (.ifnonnull 5, 3) := by decide +kernel
theorem dX9_shift_24 : decode cX9_shift 24 = .ok (.iconst (-1), 1) := by decide +kernel
theorem dX9_shift_25 : decode cX9_shift 25 = .ok (.ireturn, 1) := by decide +kernel
theorem dX9_shift_26 : decode cX9_shift 26 = .ok (.aload 6, 2) := by decide +kernel
theorem dX9_shift_28 : decode cX9_shift 28 = .ok (.invokevirtual 270, 3) := by decide +kernel
theorem dX9_shift_31 : decode cX9_shift 31 = .ok (.ifCond .eq 11, 3) := by decide +kernel
theorem dX9_shift_34 : decode cX9_shift 34 = .ok (.aload 7, 2) := by decide +kernel
theorem dX9_shift_36 : decode cX9_shift 36 = .ok (.invokevirtual 270, 3) := by decide +kernel
theorem dX9_shift_39 : decode cX9_shift 39 = .ok (.ifCond .ne 6, 3) := by decide +kernel
theorem dX9_shift_42 : decode cX9_shift 42 = .ok (.bipush (-11), 2) := by decide +kernel
theorem dX9_shift_44 : decode cX9_shift 44 = .ok (.ireturn, 1) := by decide +kernel
theorem dX9_shift_45 : decode cX9_shift 45 = .ok (.aload 6, 2) := by decide +kernel
theorem dX9_shift_47 : decode cX9_shift 47 = .ok (.getfield 274, 3) := by decide +kernel
theorem dX9_shift_50 : decode cX9_shift 50 = .ok (.aload 7, 2) := by decide +kernel
theorem dX9_shift_52 : decode cX9_shift 52 = .ok (.getfield 274, 3) := by decide +kernel
theorem dX9_shift_55 : decode cX9_shift 55 = .ok (.if_icmp .eq 6, 3) := by decide +kernel
theorem dX9_shift_58 : decode cX9_shift 58 = .ok (.bipush (-12), 2) := by decide +kernel
theorem dX9_shift_60 : decode cX9_shift 60 = .ok (.ireturn, 1) := by decide +kernel
theorem dX9_shift_61 : decode cX9_shift 61 = .ok (.aload 6, 2) := by decide +kernel
theorem dX9_shift_63 : decode cX9_shift 63 = .ok (.iload_n 2, 1) := by decide +kernel
theorem dX9_shift_64 : decode cX9_shift 64 = .ok (.iload 5, 2) := by decide +kernel
theorem dX9_shift_66 : decode cX9_shift 66 = .ok (.invokevirtual 312, 3) := by decide +kernel
theorem dX9_shift_69 : decode cX9_shift 69 = .ok (.ifCond .eq 15, 3) := by decide +kernel
theorem dX9_shift_72 : decode cX9_shift 72 = .ok (.aload 7, 2) := by decide +kernel
theorem dX9_shift_74 : decode cX9_shift 74 = .ok (.iload 4, 2) := by decide +kernel
theorem dX9_shift_76 : decode cX9_shift 76 = .ok (.iload 5, 2) := by decide +kernel
theorem dX9_shift_78 : decode cX9_shift 78 = .ok (.invokevirtual 312, 3) := by decide +kernel
theorem dX9_shift_81 : decode cX9_shift 81 = .ok (.ifCond .ne 6, 3) := by decide +kernel
theorem dX9_shift_84 : decode cX9_shift 84 = .ok (.bipush (-13), 2) := by decide +kernel
theorem dX9_shift_86 : decode cX9_shift 86 = .ok (.ireturn, 1) := by decide +kernel
theorem dX9_shift_87 : decode cX9_shift 87 = .ok (.aload 6, 2) := by decide +kernel
theorem dX9_shift_89 : decode cX9_shift 89 = .ok (.getfield 316, 3) := by decide +kernel
theorem dX9_shift_92 : decode cX9_shift 92 = .ok (.iload_n 2, 1) := by decide +kernel
theorem dX9_shift_93 : decode cX9_shift 93 = .ok (.aload 7, 2) := by decide +kernel
theorem dX9_shift_95 : decode cX9_shift 95 = .ok (.getfield 316, 3) := by decide +kernel
theorem dX9_shift_98 : decode cX9_shift 98 = .ok (.iload 4, 2) := by decide +kernel
theorem dX9_shift_100 : decode cX9_shift 100 = .ok (.iload 5, 2) := by decide +kernel
theorem dX9_shift_102 : decode cX9_shift 102 = .ok (.invokestatic 320, 3) := by decide +kernel
theorem dX9_shift_105 : decode cX9_shift 105 = .ok (.iload 5, 2) := by decide +kernel
theorem dX9_shift_107 : decode cX9_shift 107 = .ok (.ireturn, 1) := by decide +kernel
def f_X9_shift  (a0 : Int32) (a1 : Int32) (a2 : Int32) (a3 : Int32) (a4 : Int32) (u : PM) : Option (Int32 × PM) :=
  (f_X9_findTape a0 u).bind fun r1 =>
  match r1 with
  | none =>
    (f_X9_findTape a2 u).bind fun r5 =>
    match r5 with
    | none =>
      some ((-1 : Int32), u)
    | some p7 =>
      if p7 < 6 then
        some ((-1 : Int32), u)
      else none
  | some p3 =>
    if p3 < 6 then
      (f_X9_findTape a2 u).bind fun r9 =>
      match r9 with
      | none =>
        some ((-1 : Int32), u)
      | some p11 =>
        if p11 < 6 then
          (f_X7_isRow p3 u).bind fun r13 =>
          if r13 = 0 then
            some ((-11 : Int32), u)
          else
          (f_X7_isRow p11 u).bind fun r15 =>
          if r15 = 0 then
            some ((-11 : Int32), u)
          else
          if (u.1 (32, p3, 0) 0) = (u.1 (32, p11, 0) 0) then
            (f_X7_has p3 a1 a4 u).bind fun r17 =>
            if r17 = 0 then
              some ((-13 : Int32), u)
            else
            (f_X7_has p11 a3 a4 u).bind fun r19 =>
            if r19 = 0 then
              some ((-13 : Int32), u)
            else
            if ¬ a1 < 0 ∧ ¬ a3 < 0 ∧ ¬ a4 < 0 ∧ a1.toNatClampNeg + a4.toNatClampNeg ≤ 60 ∧ a3.toNatClampNeg + a4.toNatClampNeg ≤ 60 then
              some (a4, (pcl u (33, p11, 0) (va_cpy (u.2.1 (33, p3, 0)) (u.2.1 (33, p11, 0)) a1.toNatClampNeg a3.toNatClampNeg a4.toNatClampNeg)))
            else none
          else
          some ((-12 : Int32), u)
        else none
    else none
set_option maxHeartbeats 4000000 in
set_option maxRecDepth 20000 in
theorem C_X9_shift {l : Launch}  {a0 : Int32} {a1 : Int32} {a2 : Int32} {a3 : Int32} {a4 : Int32} {u : PM} {x : Int32 × PM} (hf : f_X9_shift a0 a1 a2 a3 a4 u = some x) : Ev l mX9_shift 2 0 0 false [vR (0, 0, 0), vI a0, vI a1, vI a2, vI a3, vI a4] kC (en u) (some (vI x.1), kC, en x.2) := by
  refine Ev_of (by decide +kernel) (le_b rfl) ?_
  unfold f_X9_shift at hf
  show X l mX9_shift 2 0 0 false _ kC 0 0 0 [some (vR (0, 0, 0)), some (vI a0), some (vI a1), some (vI a2), some (vI a3), some (vI a4), none, none] [] (en u)
  refine r_aload_n (x := (0, 0, 0)) dX9_shift_0 rfl ?_
  refine r_iload_n (x := a0) dX9_shift_1 rfl ?_
  obtain ⟨r1, hr2, hf⟩ := am_bind hf
  refine r_callV (as := [vI a0]) (st := []) (n := 1) mw_X9_266 mv_X9_findTape (C_X9_findTape (l := l) hr2) (le_b rfl) dX9_shift_2 (kC_mem (s := 0) (by decide) (by decide) (by decide)) rfl rfl rfl (le_b rfl) (le_b rfl) (le_b rfl) ?_
  cases r1 with
  | none =>
    show X l _ _ 0 0 false _ kC 0 0 5 [some (vR (0, 0, 0)), some (vI a0), some (vI a1), some (vI a2), some (vI a3), some (vI a4), none, none] [vN] (en u)
    refine r_astoreN (L' := [some (vR (0, 0, 0)), some (vI a0), some (vI a1), some (vI a2), some (vI a3), some (vI a4), some (vN), none]) dX9_shift_5 (by decide) rfl ?_
    refine r_aload_n (x := (0, 0, 0)) dX9_shift_7 rfl ?_
    refine r_iload_n (x := a2) dX9_shift_8 rfl ?_
    obtain ⟨r5, hr6, hf⟩ := am_bind hf
    refine r_callV (as := [vI a2]) (st := []) (n := 1) mw_X9_266 mv_X9_findTape (C_X9_findTape (l := l) hr6) (le_b rfl) dX9_shift_9 (kC_mem (s := 0) (by decide) (by decide) (by decide)) rfl rfl rfl (le_b rfl) (le_b rfl) (le_b rfl) ?_
    cases r5 with
    | none =>
      show X l _ _ 0 0 false _ kC 0 0 12 [some (vR (0, 0, 0)), some (vI a0), some (vI a1), some (vI a2), some (vI a3), some (vI a4), some (vN), none] [vN] (en u)
      refine r_astoreN (L' := [some (vR (0, 0, 0)), some (vI a0), some (vI a1), some (vI a2), some (vI a3), some (vI a4), some (vN), some (vN)]) dX9_shift_12 (by decide) rfl ?_
      refine r_aloadN dX9_shift_14 rfl ?_
      refine r_ifnullN (tgt := 24) dX9_shift_16 (by decide) ?_
      refine r_iconst (v := -1) dX9_shift_24 rfl ?_
      have hx := am_inj hf
      subst hx
      exact r_iret dX9_shift_25 rfl rfl (le_b rfl) (le_b rfl)
    | some p7 =>
      obtain ⟨h8, hf⟩ := am_chk hf
      show X l _ _ 0 0 false _ kC 0 0 12 [some (vR (0, 0, 0)), some (vI a0), some (vI a1), some (vI a2), some (vI a3), some (vI a4), some (vN), none] [vR (32, p7, 0)] (en u)
      refine r_astore (L' := [some (vR (0, 0, 0)), some (vI a0), some (vI a1), some (vI a2), some (vI a3), some (vI a4), some (vN), some (vR (32, p7, 0))]) dX9_shift_12 (by decide) rfl ?_
      refine r_aloadN dX9_shift_14 rfl ?_
      refine r_ifnullN (tgt := 24) dX9_shift_16 (by decide) ?_
      refine r_iconst (v := -1) dX9_shift_24 rfl ?_
      have hx := am_inj hf
      subst hx
      exact r_iret dX9_shift_25 rfl rfl (le_b rfl) (le_b rfl)
  | some p3 =>
    obtain ⟨h4, hf⟩ := am_chk hf
    show X l _ _ 0 0 false _ kC 0 0 5 [some (vR (0, 0, 0)), some (vI a0), some (vI a1), some (vI a2), some (vI a3), some (vI a4), none, none] [vR (32, p3, 0)] (en u)
    refine r_astore (L' := [some (vR (0, 0, 0)), some (vI a0), some (vI a1), some (vI a2), some (vI a3), some (vI a4), some (vR (32, p3, 0)), none]) dX9_shift_5 (by decide) rfl ?_
    refine r_aload_n (x := (0, 0, 0)) dX9_shift_7 rfl ?_
    refine r_iload_n (x := a2) dX9_shift_8 rfl ?_
    obtain ⟨r9, hr10, hf⟩ := am_bind hf
    refine r_callV (as := [vI a2]) (st := []) (n := 1) mw_X9_266 mv_X9_findTape (C_X9_findTape (l := l) hr10) (le_b rfl) dX9_shift_9 (kC_mem (s := 0) (by decide) (by decide) (by decide)) rfl rfl rfl (le_b rfl) (le_b rfl) (le_b rfl) ?_
    cases r9 with
    | none =>
      show X l _ _ 0 0 false _ kC 0 0 12 [some (vR (0, 0, 0)), some (vI a0), some (vI a1), some (vI a2), some (vI a3), some (vI a4), some (vR (32, p3, 0)), none] [vN] (en u)
      refine r_astoreN (L' := [some (vR (0, 0, 0)), some (vI a0), some (vI a1), some (vI a2), some (vI a3), some (vI a4), some (vR (32, p3, 0)), some (vN)]) dX9_shift_12 (by decide) rfl ?_
      refine r_aload (x := (32, p3, 0)) dX9_shift_14 rfl ?_
      refine r_ifnullR dX9_shift_16 ?_
      refine r_aloadN dX9_shift_19 rfl ?_
      refine r_ifnonnullN dX9_shift_21 ?_
      refine r_iconst (v := -1) dX9_shift_24 rfl ?_
      have hx := am_inj hf
      subst hx
      exact r_iret dX9_shift_25 rfl rfl (le_b rfl) (le_b rfl)
    | some p11 =>
      obtain ⟨h12, hf⟩ := am_chk hf
      show X l _ _ 0 0 false _ kC 0 0 12 [some (vR (0, 0, 0)), some (vI a0), some (vI a1), some (vI a2), some (vI a3), some (vI a4), some (vR (32, p3, 0)), none] [vR (32, p11, 0)] (en u)
      refine r_astore (L' := [some (vR (0, 0, 0)), some (vI a0), some (vI a1), some (vI a2), some (vI a3), some (vI a4), some (vR (32, p3, 0)), some (vR (32, p11, 0))]) dX9_shift_12 (by decide) rfl ?_
      refine r_aload (x := (32, p3, 0)) dX9_shift_14 rfl ?_
      refine r_ifnullR dX9_shift_16 ?_
      refine r_aload (x := (32, p11, 0)) dX9_shift_19 rfl ?_
      refine r_ifnonnullR (tgt := 26) dX9_shift_21 (by decide) ?_
      refine r_aload (x := (32, p3, 0)) dX9_shift_26 rfl ?_
      obtain ⟨r13, hr14, hf⟩ := am_bind hf
      refine r_callV (as := []) (st := []) (n := 0) mw_X9_270 mv_X7_isRow (C_X7_isRow (l := l) h4 hr14) (le_b rfl) dX9_shift_28 (kC_mem (s := 32) (by decide) h4 (by decide)) rfl rfl rfl (le_b rfl) (le_b rfl) (le_b rfl) ?_
      show X l _ _ 0 0 false _ kC 0 0 31 [some (vR (0, 0, 0)), some (vI a0), some (vI a1), some (vI a2), some (vI a3), some (vI a4), some (vR (32, p3, 0)), some (vR (32, p11, 0))] [vI r13] (en u)
      refine r_if_eq (tgt := 42) dX9_shift_31 (by decide) (fun hc => ?_) (fun hc => ?_)
      · have hf := (am_if hf).1 hc
        refine r_bipush (v := -11) dX9_shift_42 rfl ?_
        have hx := am_inj hf
        subst hx
        exact r_iret dX9_shift_44 rfl rfl (le_b rfl) (le_b rfl)
      · have hf := (am_if hf).2 hc
        refine r_aload (x := (32, p11, 0)) dX9_shift_34 rfl ?_
        obtain ⟨r15, hr16, hf⟩ := am_bind hf
        refine r_callV (as := []) (st := []) (n := 0) mw_X9_270 mv_X7_isRow (C_X7_isRow (l := l) h12 hr16) (le_b rfl) dX9_shift_36 (kC_mem (s := 32) (by decide) h12 (by decide)) rfl rfl rfl (le_b rfl) (le_b rfl) (le_b rfl) ?_
        show X l _ _ 0 0 false _ kC 0 0 39 [some (vR (0, 0, 0)), some (vI a0), some (vI a1), some (vI a2), some (vI a3), some (vI a4), some (vR (32, p3, 0)), some (vR (32, p11, 0))] [vI r15] (en u)
        refine r_if_ne (tgt := 45) dX9_shift_39 (by decide) (fun hc => ?_) (fun hc => ?_)
        · have hf := (am_if hf).2 hc
          refine r_aload (x := (32, p3, 0)) dX9_shift_45 rfl ?_
          refine e_geti fw_X9_274 dX9_shift_47 (kC_mem (s := 32) (by decide) h4 (by decide)) rfl (lt_b rfl) ?_
          refine r_aload (x := (32, p11, 0)) dX9_shift_50 rfl ?_
          refine e_geti fw_X9_274 dX9_shift_52 (kC_mem (s := 32) (by decide) h12 (by decide)) rfl (lt_b rfl) ?_
          refine r_icmp_eq (tgt := 61) dX9_shift_55 (by decide) (fun hc => ?_) (fun hc => ?_)
          · have hf := (am_if hf).1 hc
            refine r_aload (x := (32, p3, 0)) dX9_shift_61 rfl ?_
            refine r_iload_n (x := a1) dX9_shift_63 rfl ?_
            refine r_iload (x := a4) dX9_shift_64 rfl ?_
            obtain ⟨r17, hr18, hf⟩ := am_bind hf
            refine r_callV (as := [vI a1, vI a4]) (st := []) (n := 2) mw_X9_312 mv_X7_has (C_X7_has (l := l) h4 hr18) (le_b rfl) dX9_shift_66 (kC_mem (s := 32) (by decide) h4 (by decide)) rfl rfl rfl (le_b rfl) (le_b rfl) (le_b rfl) ?_
            show X l _ _ 0 0 false _ kC 0 0 69 [some (vR (0, 0, 0)), some (vI a0), some (vI a1), some (vI a2), some (vI a3), some (vI a4), some (vR (32, p3, 0)), some (vR (32, p11, 0))] [vI r17] (en u)
            refine r_if_eq (tgt := 84) dX9_shift_69 (by decide) (fun hc => ?_) (fun hc => ?_)
            · have hf := (am_if hf).1 hc
              refine r_bipush (v := -13) dX9_shift_84 rfl ?_
              have hx := am_inj hf
              subst hx
              exact r_iret dX9_shift_86 rfl rfl (le_b rfl) (le_b rfl)
            · have hf := (am_if hf).2 hc
              refine r_aload (x := (32, p11, 0)) dX9_shift_72 rfl ?_
              refine r_iload (x := a3) dX9_shift_74 rfl ?_
              refine r_iload (x := a4) dX9_shift_76 rfl ?_
              obtain ⟨r19, hr20, hf⟩ := am_bind hf
              refine r_callV (as := [vI a3, vI a4]) (st := []) (n := 2) mw_X9_312 mv_X7_has (C_X7_has (l := l) h12 hr20) (le_b rfl) dX9_shift_78 (kC_mem (s := 32) (by decide) h12 (by decide)) rfl rfl rfl (le_b rfl) (le_b rfl) (le_b rfl) ?_
              show X l _ _ 0 0 false _ kC 0 0 81 [some (vR (0, 0, 0)), some (vI a0), some (vI a1), some (vI a2), some (vI a3), some (vI a4), some (vR (32, p3, 0)), some (vR (32, p11, 0))] [vI r19] (en u)
              refine r_if_ne (tgt := 87) dX9_shift_81 (by decide) (fun hc => ?_) (fun hc => ?_)
              · have hf := (am_if hf).2 hc
                refine r_aload (x := (32, p3, 0)) dX9_shift_87 rfl ?_
                refine e_getr (z := some (33, p3, 0)) fw_X9_316 dX9_shift_89 (kC_mem (s := 32) (by decide) h4 (by decide)) rfl (lt_b rfl) rfl ?_
                refine r_iload_n (x := a1) dX9_shift_92 rfl ?_
                refine r_aload (x := (32, p11, 0)) dX9_shift_93 rfl ?_
                refine e_getr (z := some (33, p11, 0)) fw_X9_316 dX9_shift_95 (kC_mem (s := 32) (by decide) h12 (by decide)) rfl (lt_b rfl) rfl ?_
                refine r_iload (x := a3) dX9_shift_98 rfl ?_
                refine r_iload (x := a4) dX9_shift_100 rfl ?_
                obtain ⟨h21, hf⟩ := am_chk hf
                refine e_copyl jc_X9_320 dX9_shift_102 (kC_mem (s := 33) (by decide) h4 (by decide)) (kC_mem (s := 33) (by decide) h12 (by decide)) rfl rfl h21.1 h21.2.1 h21.2.2.1 rfl rfl rfl h21.2.2.2.1 h21.2.2.2.2 (le_b rfl) (le_b rfl) ?_
                refine r_iload (x := a4) dX9_shift_105 rfl ?_
                have hx := am_inj hf
                subst hx
                exact r_iret dX9_shift_107 rfl rfl (le_b rfl) (le_b rfl)
              · have hf := (am_if hf).1 hc
                refine r_bipush (v := -13) dX9_shift_84 rfl ?_
                have hx := am_inj hf
                subst hx
                exact r_iret dX9_shift_86 rfl rfl (le_b rfl) (le_b rfl)
          · have hf := (am_if hf).2 hc
            refine r_bipush (v := -12) dX9_shift_58 rfl ?_
            have hx := am_inj hf
            subst hx
            exact r_iret dX9_shift_60 rfl rfl (le_b rfl) (le_b rfl)
        · have hf := (am_if hf).1 hc
          refine r_bipush (v := -11) dX9_shift_42 rfl ?_
          have hx := am_inj hf
          subst hx
          exact r_iret dX9_shift_44 rfl rfl (le_b rfl) (le_b rfl)
