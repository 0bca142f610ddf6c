/-! FireFromFireModel.in -/
theorem dX10_in_0 : decode cX10_in 0 = .ok (.iload_n 1, 1) := by decide +kernel
theorem dX10_in_1 : decode cX10_in 1 = .ok (.iload_n 2, 1) := by decide +kernel
theorem dX10_in_2 : decode cX10_in 2 = .ok (.if_icmp .lt 12, 3) := by decide +kernel
theorem dX10_in_5 : decode cX10_in 5 = .ok (.iload_n 1, 1) := by decide +kernel
theorem dX10_in_6 : decode cX10_in 6 = .ok (.iload_n 3, 1) := by decide +kernel
theorem dX10_in_7 : decode cX10_in 7 = .ok (.if_icmp .gt 7, 3) := by decide +kernel
theorem dX10_in_10 : decode cX10_in 10 = .ok (.iconst 1, 1) := by decide +kernel
theorem dX10_in_11 : decode cX10_in 11 = .ok (.goto 4, 3) := by decide +kernel
theorem dX10_in_14 : decode cX10_in 14 = .ok (.iconst 0, 1) := by decide +kernel
theorem dX10_in_15 : decode cX10_in 15 = .ok (.ireturn, 1) := by decide +kernel
def f_X10_in  (a0 : Int32) (a1 : Int32) (a2 : Int32) (u : PM) : Option (Int32) :=
  if a0 < a1 then
    some (0 : Int32)
  else
  if a2 < a0 then
    some (0 : Int32)
  else
  some (1 : Int32)
set_option maxHeartbeats 4000000 in
set_option maxRecDepth 20000 in
theorem C_X10_in {l : Launch}  {a0 : Int32} {a1 : Int32} {a2 : Int32} {u : PM} {x : Int32} (hf : f_X10_in a0 a1 a2 u = some x) : Ev l mX10_in 1 0 0 false [vR (40, 0, 0), vI a0, vI a1, vI a2] kM (en u) (some (vI x), kM, en u) := by
  refine Ev_of (by decide +kernel) (le_b rfl) ?_
  unfold f_X10_in at hf
  show X l mX10_in 1 0 0 false _ kM 0 0 0 [some (vR (40, 0, 0)), some (vI a0), some (vI a1), some (vI a2)] [] (en u)
  refine r_iload_n (x := a0) dX10_in_0 rfl ?_
  refine r_iload_n (x := a1) dX10_in_1 rfl ?_
  refine r_icmp_lt (tgt := 14) dX10_in_2 (by decide) (fun hc => ?_) (fun hc => ?_)
  · have hf := (am_if hf).1 hc
    refine r_iconst (v := 0) dX10_in_14 rfl ?_
    have hx := am_inj hf
    subst hx
    exact r_iret dX10_in_15 rfl (am_bool (x := 0) (by decide)).1 (le_b rfl) (le_b rfl)
  · have hf := (am_if hf).2 hc
    refine r_iload_n (x := a0) dX10_in_5 rfl ?_
    refine r_iload_n (x := a2) dX10_in_6 rfl ?_
    refine r_icmp_gt (tgt := 14) dX10_in_7 (by decide) (fun hc => ?_) (fun hc => ?_)
    · have hf := (am_if hf).1 hc
      refine r_iconst (v := 0) dX10_in_14 rfl ?_
      have hx := am_inj hf
      subst hx
      exact r_iret dX10_in_15 rfl (am_bool (x := 0) (by decide)).1 (le_b rfl) (le_b rfl)
    · have hf := (am_if hf).2 hc
      refine r_iconst (v := 1) dX10_in_10 rfl ?_
      refine r_goto (tgt := 15) dX10_in_11 (by decide) ?_
      have hx := am_inj hf
      subst hx
      exact r_iret dX10_in_15 rfl (am_bool (x := 1) (by decide)).1 (le_b rfl) (le_b rfl)
/-! FireFromFireModel.min -/
theorem dX10_min_0 : decode cX10_min 0 = .ok (.iload_n 1, 1) := by decide +kernel
theorem dX10_min_1 : decode cX10_min 1 = .ok (.iload_n 2, 1) := by decide +kernel
theorem dX10_min_2 : decode cX10_min 2 = .ok (.if_icmp .ge 7, 3) := by decide +kernel
theorem dX10_min_5 : decode cX10_min 5 = .ok (.iload_n 1, 1) := by decide +kernel
theorem dX10_min_6 : decode cX10_min 6 = .ok (.goto 4, 3) := by decide +kernel
theorem dX10_min_9 : decode cX10_min 9 = .ok (.iload_n 2, 1) := by decide +kernel
theorem dX10_min_10 : decode cX10_min 10 = .ok (.ireturn, 1) := by decide +kernel
def f_X10_min  (a0 : Int32) (a1 : Int32) (u : PM) : Option (Int32) :=
  if a1 ≤ a0 then
    some a1
  else
  some a0
set_option maxHeartbeats 4000000 in
set_option maxRecDepth 20000 in
theorem C_X10_min {l : Launch}  {a0 : Int32} {a1 : Int32} {u : PM} {x : Int32} (hf : f_X10_min a0 a1 u = some x) : Ev l mX10_min 1 0 0 false [vR (40, 0, 0), vI a0, vI a1] kM (en u) (some (vI x), kM, en u) := by
  refine Ev_of (by decide +kernel) (le_b rfl) ?_
  unfold f_X10_min at hf
  show X l mX10_min 1 0 0 false _ kM 0 0 0 [some (vR (40, 0, 0)), some (vI a0), some (vI a1)] [] (en u)
  refine r_iload_n (x := a0) dX10_min_0 rfl ?_
  refine r_iload_n (x := a1) dX10_min_1 rfl ?_
  refine r_icmp_ge (tgt := 9) dX10_min_2 (by decide) (fun hc => ?_) (fun hc => ?_)
  · have hf := (am_if hf).1 hc
    refine r_iload_n (x := a1) dX10_min_9 rfl ?_
    have hx := am_inj hf
    subst hx
    exact r_iret dX10_min_10 rfl rfl (le_b rfl) (le_b rfl)
  · have hf := (am_if hf).2 hc
    refine r_iload_n (x := a0) dX10_min_5 rfl ?_
    refine r_goto (tgt := 10) dX10_min_6 (by decide) ?_
    have hx := am_inj hf
    subst hx
    exact r_iret dX10_min_10 rfl rfl (le_b rfl) (le_b rfl)
/-! FireFromFireModel.has -/
theorem dX10_has_0 : decode cX10_has 0 = .ok (.iload_n 1, 1) := by decide +kernel
theorem dX10_has_1 : decode cX10_has 1 = .ok (.iload_n 2, 1) := by decide +kernel
theorem dX10_has_2 : decode cX10_has 2 = .ok (.ishr, 1) := by decide +kernel
theorem dX10_has_3 : decode cX10_has 3 = .ok (.iconst 1, 1) := by decide +kernel
theorem dX10_has_4 : decode cX10_has 4 = .ok (.iand, 1) := by decide +kernel
theorem dX10_has_5 : decode cX10_has 5 = .ok (.iconst 1, 1) := by decide +kernel
theorem dX10_has_6 : decode cX10_has 6 = .ok (.if_icmp .ne 7, 3) := by decide +kernel
theorem dX10_has_9 : decode cX10_has 9 = .ok (.iconst 1, 1) := by decide +kernel
theorem dX10_has_10 : decode cX10_has 10 = .ok (.goto 4, 3) := by decide +kernel
theorem dX10_has_13 : decode cX10_has 13 = .ok (.iconst 0, 1) := by decide +kernel
theorem dX10_has_14 : decode cX10_has 14 = .ok (.ireturn, 1) := by decide +kernel
def f_X10_has  (a0 : Int32) (a1 : Int32) (u : PM) : Option (Int32) :=
  if ((a0 >>> (a1 &&& 31)) &&& (1 : Int32)) = (1 : Int32) then
    some (1 : Int32)
  else
  some (0 : Int32)
set_option maxHeartbeats 4000000 in
set_option maxRecDepth 20000 in
theorem C_X10_has {l : Launch}  {a0 : Int32} {a1 : Int32} {u : PM} {x : Int32} (hf : f_X10_has a0 a1 u = some x) : Ev l mX10_has 1 0 0 false [vR (40, 0, 0), vI a0, vI a1] kM (en u) (some (vI x), kM, en u) := by
  refine Ev_of (by decide +kernel) (le_b rfl) ?_
  unfold f_X10_has at hf
  show X l mX10_has 1 0 0 false _ kM 0 0 0 [some (vR (40, 0, 0)), some (vI a0), some (vI a1)] [] (en u)
  refine r_iload_n (x := a0) dX10_has_0 rfl ?_
  refine r_iload_n (x := a1) dX10_has_1 rfl ?_
  refine r_ishr dX10_has_2 ?_
  refine r_iconst (v := 1) dX10_has_3 rfl ?_
  refine r_iand dX10_has_4 ?_
  refine r_iconst (v := 1) dX10_has_5 rfl ?_
  refine r_icmp_ne (tgt := 13) dX10_has_6 (by decide) (fun hc => ?_) (fun hc => ?_)
  · have hf := (am_if hf).2 hc
    refine r_iconst (v := 0) dX10_has_13 rfl ?_
    have hx := am_inj hf
    subst hx
    exact r_iret dX10_has_14 rfl (am_bool (x := 0) (by decide)).1 (le_b rfl) (le_b rfl)
  · have hf := (am_if hf).1 hc
    refine r_iconst (v := 1) dX10_has_9 rfl ?_
    refine r_goto (tgt := 14) dX10_has_10 (by decide) ?_
    have hx := am_inj hf
    subst hx
    exact r_iret dX10_has_14 rfl (am_bool (x := 1) (by decide)).1 (le_b rfl) (le_b rfl)
/-! FireFromFireModel.isHouse -/
theorem dX10_isHouse_0 : decode cX10_isHouse 0 = .ok (.aload_n 0, 1) := by decide +kernel
theorem dX10_isHouse_1 : decode cX10_isHouse 1 = .ok (.iload_n 1, 1) := by decide +kernel
theorem dX10_isHouse_2 : decode cX10_isHouse 2 = .ok (.iconst 0, 1) := by decide +kernel
theorem dX10_isHouse_3 : decode cX10_isHouse 3 = .ok (.aload_n 0, 1) := by decide +kernel
theorem dX10_isHouse_4 : decode cX10_isHouse 4 = .ok (.getfield 7, 3) := by decide +kernel
theorem dX10_isHouse_7 : decode cX10_isHouse 7 = .ok (.iconst 1, 1) := by decide +kernel
theorem dX10_isHouse_8 : decode cX10_isHouse 8 = .ok (.isub, 1) := by decide +kernel
theorem dX10_isHouse_9 : decode cX10_isHouse 9 = .ok (.invokevirtual 267, 3) := by decide +kernel
theorem dX10_isHouse_12 : decode cX10_isHouse 12 = .ok (.ireturn, 1) := by decide +kernel
def f_X10_isHouse  (a0 : Int32) (u : PM) : Option (Int32) :=
  (f_X10_in a0 (0 : Int32) ((u.1 (40, 0, 0) 0) - (1 : Int32)) u).bind fun r1 =>
  if r1 = 0 ∨ r1 = 1 then
    some r1
  else none
set_option maxHeartbeats 4000000 in
set_option maxRecDepth 20000 in
theorem C_X10_isHouse {l : Launch}  {a0 : Int32} {u : PM} {x : Int32} (hf : f_X10_isHouse a0 u = some x) : Ev l mX10_isHouse 2 0 0 false [vR (40, 0, 0), vI a0] kM (en u) (some (vI x), kM, en u) := by
  refine Ev_of (by decide +kernel) (le_b rfl) ?_
  unfold f_X10_isHouse at hf
  show X l mX10_isHouse 2 0 0 false _ kM 0 0 0 [some (vR (40, 0, 0)), some (vI a0)] [] (en u)
  refine r_aload_n (x := (40, 0, 0)) dX10_isHouse_0 rfl ?_
  refine r_iload_n (x := a0) dX10_isHouse_1 rfl ?_
  refine r_iconst (v := 0) dX10_isHouse_2 rfl ?_
  refine r_aload_n (x := (40, 0, 0)) dX10_isHouse_3 rfl ?_
  refine e_geti fw_X10_7 dX10_isHouse_4 (kM_mem (s := 40) (by decide)) rfl (lt_b rfl) ?_
  refine r_iconst (v := 1) dX10_isHouse_7 rfl ?_
  refine r_isub dX10_isHouse_8 ?_
  obtain ⟨r1, hr2, hf⟩ := am_bind hf
  refine r_callV (as := [vI a0, vI (0 : Int32), vI ((u.1 (40, 0, 0) 0) - (1 : Int32))]) (st := []) (n := 3) mw_X10_267 mv_X10_in (C_X10_in (l := l) hr2) (le_b rfl) dX10_isHouse_9 (kM_mem (s := 40) (by decide)) rfl rfl rfl (le_b rfl) (le_b rfl) (le_b rfl) ?_
  show X l _ _ 0 0 false _ kM 0 0 12 [some (vR (40, 0, 0)), some (vI a0)] [vI r1] (en u)
  obtain ⟨h3, hf⟩ := am_chk hf
  have hx := am_inj hf
  subst hx
  exact r_iret dX10_isHouse_12 rfl (am_bool h3).1 (le_b rfl) (le_b rfl)
/-! FireFromFireModel.isWeather -/
theorem dX10_isWeather_0 : decode cX10_isWeather 0 = .ok (.aload_n 0, 1) := by decide +kernel
theorem dX10_isWeather_1 : decode cX10_isWeather 1 = .ok (.iload_n 1, 1) := by decide +kernel
theorem dX10_isWeather_2 : decode cX10_isWeather 2 = .ok (.iconst 0, 1) := by decide +kernel
theorem dX10_isWeather_3 : decode cX10_isWeather 3 = .ok (.iconst 2, 1) := by decide +kernel
theorem dX10_isWeather_4 : decode cX10_isWeather 4 = .ok (.invokevirtual 267, 3) := by decide +kernel
theorem dX10_isWeather_7 : decode cX10_isWeather 7 = .ok (.ireturn, 1) := by decide +kernel
def f_X10_isWeather  (a0 : Int32) (u : PM) : Option (Int32) :=
  (f_X10_in a0 (0 : Int32) (2 : Int32) u).bind fun r1 =>
  if r1 = 0 ∨ r1 = 1 then
    some r1
  else none
set_option maxHeartbeats 4000000 in
set_option maxRecDepth 20000 in
theorem C_X10_isWeather {l : Launch}  {a0 : Int32} {u : PM} {x : Int32} (hf : f_X10_isWeather a0 u = some x) : Ev l mX10_isWeather 2 0 0 false [vR (40, 0, 0), vI a0] kM (en u) (some (vI x), kM, en u) := by
  refine Ev_of (by decide +kernel) (le_b rfl) ?_
  unfold f_X10_isWeather at hf
  show X l mX10_isWeather 2 0 0 false _ kM 0 0 0 [some (vR (40, 0, 0)), some (vI a0)] [] (en u)
  refine r_aload_n (x := (40, 0, 0)) dX10_isWeather_0 rfl ?_
  refine r_iload_n (x := a0) dX10_isWeather_1 rfl ?_
  refine r_iconst (v := 0) dX10_isWeather_2 rfl ?_
  refine r_iconst (v := 2) dX10_isWeather_3 rfl ?_
  obtain ⟨r1, hr2, hf⟩ := am_bind hf
  refine r_callV (as := [vI a0, vI (0 : Int32), vI (2 : Int32)]) (st := []) (n := 3) mw_X10_267 mv_X10_in (C_X10_in (l := l) hr2) (le_b rfl) dX10_isWeather_4 (kM_mem (s := 40) (by decide)) rfl rfl rfl (le_b rfl) (le_b rfl) (le_b rfl) ?_
  show X l _ _ 0 0 false _ kM 0 0 7 [some (vR (40, 0, 0)), some (vI a0)] [vI r1] (en u)
  obtain ⟨h3, hf⟩ := am_chk hf
  have hx := am_inj hf
  subst hx
  exact r_iret dX10_isWeather_7 rfl (am_bool h3).1 (le_b rfl) (le_b rfl)
/-! FireFromFireModel.house -/
theorem dX10_house_0 : decode cX10_house 0 = .ok (.aload_n 0, 1) := by decide +kernel
theorem dX10_house_1 : decode cX10_house 1 = .ok (.iload_n 1, 1) := by decide +kernel
theorem dX10_house_2 : decode cX10_house 2 = .ok (.iconst 0, 1) := by decide +kernel
theorem dX10_house_3 : decode cX10_house 3 = .ok (.bipush 99, 2) := by decide +kernel
theorem dX10_house_5 : decode cX10_house 5 = .ok (.invokevirtual 267, 3) := by decide +kernel
theorem dX10_house_8 : decode cX10_house 8 = .ok (.ifCond .ne 6, 3) := by decide +kernel
theorem dX10_house_11 : decode cX10_house 11 = .ok (.bipush (-2), 2) := by decide +kernel
theorem dX10_house_13 : decode cX10_house 13 = .ok (.ireturn, 1) := by decide +kernel
theorem dX10_house_14 : decode cX10_house 14 = .ok (.aload_n 0, 1) := by decide +kernel
theorem dX10_house_15 : decode cX10_house 15 = .ok (.getfield 7, 3) := by decide +kernel
theorem dX10_house_18 : decode cX10_house 18 = .ok (.bipush 6, 2) := by decide +kernel
theorem dX10_house_20 : decode cX10_house 20 = .ok (.if_icmp .ne 6, 3) := by decide +kernel
theorem dX10_house_23 : decode cX10_house 23 = .ok (.bipush (-4), 2) := by decide +kernel
theorem dX10_house_25 : decode cX10_house 25 = .ok (.ireturn, 1) := by decide +kernel
theorem dX10_house_26 : decode cX10_house 26 = .ok (.aload_n 0, 1) := by decide +kernel
theorem dX10_house_27 : decode cX10_house 27 = .ok (.getfield 7, 3) := by decide +kernel
theorem dX10_house_30 : decode cX10_house 30 = .ok (.istore_n 3, 1) := by decide +kernel
theorem dX10_house_31 : decode cX10_house 31 = .ok (.aload_n 0, 1) := by decide +kernel
theorem dX10_house_32 : decode cX10_house 32 = .ok (.getfield 22, 3) := by decide +kernel
theorem dX10_house_35 : decode cX10_house 35 = .ok (.iload_n 3, 1) := by decide +kernel
theorem dX10_house_36 : decode cX10_house 36 = .ok (.iload_n 1, 1) := by decide +kernel
theorem dX10_house_37 : decode cX10_house 37 = .ok (.iastore, 1) := by decide +kernel
theorem dX10_house_38 : decode cX10_house 38 = .ok (.aload_n 0, 1) := by decide +kernel
theorem dX10_house_39 : decode cX10_house 39 = .ok (.iload_n 2, 1) := by decide +kernel
theorem dX10_house_40 : decode cX10_house 40 = .ok (.ifCond .eq 14, 3) := by decide +kernel
theorem dX10_house_43 : decode cX10_house 43 = .ok (.aload_n 0, 1) := by decide +kernel
theorem dX10_house_44 : decode cX10_house 44 = .ok (.getfield 13, 3) := by decide +kernel
theorem dX10_house_47 : decode cX10_house 47 = .ok (.iconst 1, 1) := by decide +kernel
theorem dX10_house_48 : decode cX10_house 48 = .ok (.iload_n 3, 1) := by decide +kernel
theorem dX10_house_49 : decode cX10_house 49 = .ok (.ishl, 1) := by decide +kernel
theorem dX10_house_50 : decode cX10_house 50 = .ok (.ior, 1) := by decide +kernel
theorem dX10_house_51 : decode cX10_house 51 = .ok (.goto 13, 3) := by decide +kernel
theorem dX10_house_54 : decode cX10_house 54 = .ok (.aload_n 0, 1) := by decide +kernel
theorem dX10_house_55 : decode cX10_house 55 = .ok (.getfield 13, 3) := by decide +kernel
theorem dX10_house_58 : decode cX10_house 58 = .ok (.iconst 1, 1) := by decide +kernel
theorem dX10_house_59 : decode cX10_house 59 = .ok (.iload_n 3, 1) := by decide +kernel
theorem dX10_house_60 : decode cX10_house 60 = .ok (.ishl, 1) := by decide +kernel
theorem dX10_house_61 : decode cX10_house 61 = .ok (.iconst (-1), 1) := by decide +kernel
theorem dX10_house_62 : decode cX10_house 62 = .ok (.ixor, 1) := by decide +kernel
theorem dX10_house_63 : decode cX10_house 63 = .ok (.iand, 1) := by decide +kernel
theorem dX10_house_64 : decode cX10_house 64 = .ok (.putfield 13, 3) := by decide +kernel
theorem dX10_house_67 : decode cX10_house 67 = .ok (.aload_n 0, 1) := by decide +kernel
theorem dX10_house_68 : decode cX10_house 68 = .ok (.getfield 26, 3) := by decide +kernel
theorem dX10_house_71 : decode cX10_house 71 = .ok (.iload_n 3, 1) := by decide +kernel
theorem dX10_house_72 : decode cX10_house 72 = .ok (.iconst 0, 1) := by decide +kernel
theorem dX10_house_73 : decode cX10_house 73 = .ok (.iastore, 1) := by decide +kernel
theorem dX10_house_74 : decode cX10_house 74 = .ok (.aload_n 0, 1) := by decide +kernel
theorem dX10_house_75 : decode cX10_house 75 = .ok (.getfield 29, 3) := by decide +kernel
theorem dX10_house_78 : decode cX10_house 78 = .ok (.iload_n 3, 1) := by decide +kernel
theorem dX10_house_79 : decode cX10_house 79 = .ok (.iconst 0, 1) := by decide +kernel
theorem dX10_house_80 : decode cX10_house 80 = .ok (.iastore, 1) := by decide +kernel
theorem dX10_house_81 : decode cX10_house 81 = .ok (.aload_n 0, 1) := by decide +kernel
theorem dX10_house_82 : decode cX10_house 82 = .ok (.getfield 32, 3) := by decide +kernel
theorem dX10_house_85 : decode cX10_house 85 = .ok (.iload_n 3, 1) := by decide +kernel
theorem dX10_house_86 : decode cX10_house 86 = .ok (.iconst 0, 1) := by decide +kernel
theorem dX10_house_87 : decode cX10_house 87 = .ok (.iastore, 1) := by decide +kernel
theorem dX10_house_88 : decode cX10_house 88 = .ok (.aload_n 0, 1) := by decide +kernel
theorem dX10_house_89 : decode cX10_house 89 = .ok (.getfield 35, 3) := by decide +kernel
theorem dX10_house_92 : decode cX10_house 92 = .ok (.iload_n 3, 1) := by decide +kernel
theorem dX10_house_93 : decode cX10_house 93 = .ok (.iconst 0, 1) := by decide +kernel
theorem dX10_house_94 : decode cX10_house 94 = .ok (.iastore, 1) := by decide +kernel
theorem dX10_house_95 : decode cX10_house 95 = .ok (.aload_n 0, 1) := by decide +kernel
theorem dX10_house_96 : decode cX10_house 96 = .ok (.getfield 38, 3) := by decide +kernel
theorem dX10_house_99 : decode cX10_house 99 = .ok (.iload_n 3, 1) := by decide +kernel
theorem dX10_house_100 : decode cX10_house 100 = .ok (.iconst 0, 1) := by decide +kernel
theorem dX10_house_101 : decode cX10_house 101 = .ok (.iastore, 1) := by decide +kernel
theorem dX10_house_102 : decode cX10_house 102 = .ok (.aload_n 0, 1) := by decide +kernel
theorem dX10_house_103 : decode cX10_house 103 = .ok (.getfield 41, 3) := by decide +kernel
theorem dX10_house_106 : decode cX10_house 106 = .ok (.iload_n 3, 1) := by decide +kernel
theorem dX10_house_107 : decode cX10_house 107 = .ok (.iconst (-1), 1) := by decide +kernel
theorem dX10_house_108 : decode cX10_house 108 = .ok (.iastore, 1) := by decide +kernel
theorem dX10_house_109 : decode cX10_house 109 = .ok (.aload_n 0, 1) := by decide +kernel
theorem dX10_house_110 : decode cX10_house 110 = .ok (.getfield 44, 3) := by decide +kernel
theorem dX10_house_113 : decode cX10_house 113 = .ok (.iload_n 3, 1) := by decide +kernel
theorem dX10_house_114 : decode cX10_house 114 = .ok (.iconst (-1), 1) := by decide +kernel
theorem dX10_house_115 : decode cX10_house 115 = .ok (.iastore, 1) := by decide +kernel
theorem dX10_house_116 : decode cX10_house 116 = .ok (.iconst 0, 1) := by decide +kernel
theorem dX10_house_117 : decode cX10_house 117 = .ok (.istore 4, 2) := by decide +kernel
theorem dX10_house_119 : decode cX10_house 119 = .ok (.iload 4, 2) := by decide +kernel
theorem dX10_house_121 : decode cX10_house 121 = .ok (.bipush 6, 2) := by decide +kernel
theorem dX10_house_123 : decode cX10_house 123 = .ok (.if_icmp .ge 35, 3) := by decide +kernel
theorem dX10_house_126 : decode cX10_house 126 = .ok (.aload_n 0, 1) := by decide +kernel
theorem dX10_house_127 : decode cX10_house 127 = .ok (.getfield 47, 3) := by decide +kernel
theorem dX10_house_130 : decode cX10_house 130 = .ok (.bipush 6, 2) := by decide +kernel
theorem dX10_house_132 : decode cX10_house 132 = .ok (.iload_n 3, 1) := by decide +kernel
theorem dX10_house_133 : decode cX10_house 133 = .ok (.imul, 1) := by decide +kernel
theorem dX10_house_134 : decode cX10_house 134 = .ok (.iload 4, 2) := by decide +kernel
theorem dX10_house_136 : decode cX10_house 136 = .ok (.iadd, 1) := by decide +kernel
theorem dX10_house_137 : decode cX10_house 137 = .ok (.iconst 0, 1) := by decide +kernel
theorem dX10_house_138 : decode cX10_house 138 = .ok (.iastore, 1) := by decide +kernel
theorem dX10_house_139 : decode cX10_house 139 = .ok (.aload_n 0, 1) := by decide +kernel
theorem dX10_house_140 : decode cX10_house 140 = .ok (.getfield 47, 3) := by decide +kernel
theorem dX10_house_143 : decode cX10_house 143 = .ok (.bipush 6, 2) := by decide +kernel
theorem dX10_house_145 : decode cX10_house 145 = .ok (.iload 4, 2) := by decide +kernel
theorem dX10_house_147 : decode cX10_house 147 = .ok (.imul, 1) := by decide +kernel
theorem dX10_house_148 : decode cX10_house 148 = .ok (.iload_n 3, 1) := by decide +kernel
theorem dX10_house_149 : decode cX10_house 149 = .ok (.iadd, 1) := by decide +kernel
theorem dX10_house_150 : decode cX10_house 150 = .ok (.iconst 0, 1) := by decide +kernel
theorem dX10_house_151 : decode cX10_house 151 = .ok (.iastore, 1) := by decide +kernel
theorem dX10_house_152 : decode cX10_house 152 = .ok (.iinc 4 1, 3) := by decide +kernel
theorem dX10_house_155 : decode cX10_house 155 = .ok (.goto (-36), 3) := by decide +kernel
theorem dX10_house_158 : decode cX10_house 158 = .ok (.aload_n 0, 1) := by decide +kernel
theorem dX10_house_159 : decode cX10_house 159 = .ok (.dup, 1) := by decide +kernel
theorem dX10_house_160 : decode cX10_house 160 = .ok (.getfield 7, 3) := by decide +kernel
theorem dX10_house_163 : decode cX10_house 163 = .ok (.iconst 1, 1) := by decide +kernel
theorem dX10_house_164 : decode cX10_house 164 = .ok (.iadd, 1) := by decide +kernel
theorem dX10_house_165 : decode cX10_house 165 = .ok (.putfield 7, 3) := by decide +kernel
theorem dX10_house_168 : decode cX10_house 168 = .ok (.iload_n 3, 1) := by decide +kernel
theorem dX10_house_169 : decode cX10_house 169 = .ok (.ireturn, 1) := by decide +kernel
def f_X10_house_L119  (c3 : Int32) : Int32 × PM → Option ((Int32 × PM) ⊕ (PM)) := fun (x4 , u) =>
  if (6 : Int32) ≤ x4 then
    some (.inr (u))
  else
  if (((6 : Int32) * c3) + x4) < 0 ∨ 36 ≤ (((6 : Int32) * c3) + x4).toNatClampNeg then none else
  if (((6 : Int32) * x4) + c3) < 0 ∨ 36 ≤ (((6 : Int32) * x4) + c3).toNatClampNeg then none else
  some (.inl (x4 + (1 : Int32), (pi (pi u (49, 0, 0) ((((6 : Int32) * c3) + x4).toNatClampNeg) (0 : Int32)) (49, 0, 0) ((((6 : Int32) * x4) + c3).toNatClampNeg) (0 : Int32))))
set_option maxHeartbeats 4000000 in
set_option maxRecDepth 20000 in
theorem K_X10_house_L119 {l : Launch} {T : Option AV × List Key × AM}  {c3 : Int32} : ∀ (n : Nat) (s : Int32 × PM) (e0 : PM), am_loop (f_X10_house_L119 c3) n s = some e0 → (fun e : PM => X l mX10_house 2 0 0 false T kM 0 0 158 [some (vR (40, 0, 0)), none, none, some (vI c3), none] [] (en e)) e0 → X l mX10_house 2 0 0 false T kM 0 0 119 [some (vR (40, 0, 0)), none, none, some (vI c3), some (vI s.1)] [] (en s.2) := by
  refine am_loop_of ?_
  intro s x hf k1 k2
  obtain ⟨x4 , u⟩ := s
  unfold f_X10_house_L119 at hf
  show X l mX10_house 2 0 0 false T kM 0 0 119 [some (vR (40, 0, 0)), none, none, some (vI c3), some (vI x4)] [] (en u)
  refine r_iload (x := x4) dX10_house_119 rfl ?_
  refine r_bipush (v := 6) dX10_house_121 rfl ?_
  refine r_icmp_ge (tgt := 158) dX10_house_123 (by decide) (fun hc => ?_) (fun hc => ?_)
  · have hf := (am_if hf).1 hc
    refine r_weak (L' := [some (vR (40, 0, 0)), none, none, some (vI c3), none]) (And.intro rfl (And.intro rfl trivial)) ?_
    exact k2 (u) (am_inj hf).symm
  · have hf := (am_if hf).2 hc
    refine r_aload_n (x := (40, 0, 0)) dX10_house_126 rfl ?_
    refine e_getr (z := some (49, 0, 0)) fw_X10_47 dX10_house_127 (kM_mem (s := 40) (by decide)) rfl (lt_b rfl) rfl ?_
    refine r_bipush (v := 6) dX10_house_130 rfl ?_
    refine r_iload_n (x := c3) dX10_house_132 rfl ?_
    refine r_imul dX10_house_133 ?_
    refine r_iload (x := x4) dX10_house_134 rfl ?_
    refine r_iadd dX10_house_136 ?_
    refine r_iconst (v := 0) dX10_house_137 rfl ?_
    obtain ⟨h4, hf⟩ := am_nchk hf
    refine e_iast (n := (((6 : Int32) * c3) + x4).toNatClampNeg) dX10_house_138 (kM_mem (s := 49) (by decide)) rfl h4 rfl ?_
    refine r_aload_n (x := (40, 0, 0)) dX10_house_139 rfl ?_
    refine e_getr (z := some (49, 0, 0)) fw_X10_47 dX10_house_140 (kM_mem (s := 40) (by decide)) rfl (lt_b rfl) rfl ?_
    refine r_bipush (v := 6) dX10_house_143 rfl ?_
    refine r_iload (x := x4) dX10_house_145 rfl ?_
    refine r_imul dX10_house_147 ?_
    refine r_iload_n (x := c3) dX10_house_148 rfl ?_
    refine r_iadd dX10_house_149 ?_
    refine r_iconst (v := 0) dX10_house_150 rfl ?_
    obtain ⟨h5, hf⟩ := am_nchk hf
    refine e_iast (n := (((6 : Int32) * x4) + c3).toNatClampNeg) dX10_house_151 (kM_mem (s := 49) (by decide)) rfl h5 rfl ?_
    refine r_iinc (x := x4) (v := x4 + (1 : Int32)) (L' := [some (vR (40, 0, 0)), none, none, some (vI c3), some (vI (x4 + (1 : Int32)))]) dX10_house_152 rfl rfl (lt_b rfl) rfl ?_
    refine r_goto (tgt := 119) dX10_house_155 (by decide) ?_
    refine r_weak (L' := [some (vR (40, 0, 0)), none, none, some (vI c3), some (vI (x4 + (1 : Int32)))]) (And.intro rfl (And.intro rfl (And.intro rfl trivial))) ?_
    exact k1 (x4 + (1 : Int32), (pi (pi u (49, 0, 0) ((((6 : Int32) * c3) + x4).toNatClampNeg) (0 : Int32)) (49, 0, 0) ((((6 : Int32) * x4) + c3).toNatClampNeg) (0 : Int32))) (am_inj hf).symm
def f_X10_house  (a0 : Int32) (a1 : Int32) (u : PM) : Option (Int32 × PM) :=
  (f_X10_in a0 (0 : Int32) (99 : Int32) u).bind fun r1 =>
  if r1 = 0 then
    some ((-2 : Int32), u)
  else
  if (u.1 (40, 0, 0) 0) = (6 : Int32) then
    some ((-4 : Int32), u)
  else
  if (u.1 (40, 0, 0) 0) < 0 ∨ 6 ≤ (u.1 (40, 0, 0) 0).toNatClampNeg then none else
  if a1 = 0 then
    (am_loop (f_X10_house_L119 (u.1 (40, 0, 0) 0)) 2000 ((0 : Int32), (pi (pi (pi (pi (pi (pi (pi (pi (pi u (41, 0, 0) ((u.1 (40, 0, 0) 0).toNatClampNeg) a0) (40, 0, 0) 1 ((u.1 (40, 0, 0) 1) &&& (((1 : Int32) <<< ((u.1 (40, 0, 0) 0) &&& 31)) ^^^ (-1 : Int32)))) (42, 0, 0) ((u.1 (40, 0, 0) 0).toNatClampNeg) (0 : Int32)) (43, 0, 0) ((u.1 (40, 0, 0) 0).toNatClampNeg) (0 : Int32)) (44, 0, 0) ((u.1 (40, 0, 0) 0).toNatClampNeg) (0 : Int32)) (45, 0, 0) ((u.1 (40, 0, 0) 0).toNatClampNeg) (0 : Int32)) (46, 0, 0) ((u.1 (40, 0, 0) 0).toNatClampNeg) (0 : Int32)) (47, 0, 0) ((u.1 (40, 0, 0) 0).toNatClampNeg) (-1 : Int32)) (48, 0, 0) ((u.1 (40, 0, 0) 0).toNatClampNeg) (-1 : Int32)))).bind fun u8 =>
    some (u.1 (40, 0, 0) 0, (pi u8 (40, 0, 0) 0 ((u8.1 (40, 0, 0) 0) + (1 : Int32))))
  else
  (am_loop (f_X10_house_L119 (u.1 (40, 0, 0) 0)) 2000 ((0 : Int32), (pi (pi (pi (pi (pi (pi (pi (pi (pi u (41, 0, 0) ((u.1 (40, 0, 0) 0).toNatClampNeg) a0) (40, 0, 0) 1 ((u.1 (40, 0, 0) 1) ||| ((1 : Int32) <<< ((u.1 (40, 0, 0) 0) &&& 31)))) (42, 0, 0) ((u.1 (40, 0, 0) 0).toNatClampNeg) (0 : Int32)) (43, 0, 0) ((u.1 (40, 0, 0) 0).toNatClampNeg) (0 : Int32)) (44, 0, 0) ((u.1 (40, 0, 0) 0).toNatClampNeg) (0 : Int32)) (45, 0, 0) ((u.1 (40, 0, 0) 0).toNatClampNeg) (0 : Int32)) (46, 0, 0) ((u.1 (40, 0, 0) 0).toNatClampNeg) (0 : Int32)) (47, 0, 0) ((u.1 (40, 0, 0) 0).toNatClampNeg) (-1 : Int32)) (48, 0, 0) ((u.1 (40, 0, 0) 0).toNatClampNeg) (-1 : Int32)))).bind fun u11 =>
  some (u.1 (40, 0, 0) 0, (pi u11 (40, 0, 0) 0 ((u11.1 (40, 0, 0) 0) + (1 : Int32))))
set_option maxHeartbeats 4000000 in
set_option maxRecDepth 20000 in
theorem C_X10_house {l : Launch}  {a0 : Int32} {a1 : Int32} {u : PM} {x : Int32 × PM} (hf : f_X10_house a0 a1 u = some x) : Ev l mX10_house 2 0 0 false [vR (40, 0, 0), vI a0, vI a1] kM (en u) (some (vI x.1), kM, en x.2) := by
  refine Ev_of (by decide +kernel) (le_b rfl) ?_
  unfold f_X10_house at hf
  show X l mX10_house 2 0 0 false _ kM 0 0 0 [some (vR (40, 0, 0)), some (vI a0), some (vI a1), none, none] [] (en u)
  refine r_aload_n (x := (40, 0, 0)) dX10_house_0 rfl ?_
  refine r_iload_n (x := a0) dX10_house_1 rfl ?_
  refine r_iconst (v := 0) dX10_house_2 rfl ?_
  refine r_bipush (v := 99) dX10_house_3 rfl ?_
  obtain ⟨r1, hr2, hf⟩ := am_bind hf
  refine r_callV (as := [vI a0, vI (0 : Int32), vI (99 : Int32)]) (st := []) (n := 3) mw_X10_267 mv_X10_in (C_X10_in (l := l) hr2) (le_b rfl) dX10_house_5 (kM_mem (s := 40) (by decide)) rfl rfl rfl (le_b rfl) (le_b rfl) (le_b rfl) ?_
  show X l _ _ 0 0 false _ kM 0 0 8 [some (vR (40, 0, 0)), some (vI a0), some (vI a1), none, none] [vI r1] (en u)
  refine r_if_ne (tgt := 14) dX10_house_8 (by decide) (fun hc => ?_) (fun hc => ?_)
  · have hf := (am_if hf).2 hc
    refine r_aload_n (x := (40, 0, 0)) dX10_house_14 rfl ?_
    refine e_geti fw_X10_7 dX10_house_15 (kM_mem (s := 40) (by decide)) rfl (lt_b rfl) ?_
    refine r_bipush (v := 6) dX10_house_18 rfl ?_
    refine r_icmp_ne (tgt := 26) dX10_house_20 (by decide) (fun hc => ?_) (fun hc => ?_)
    · have hf := (am_if hf).2 hc
      refine r_aload_n (x := (40, 0, 0)) dX10_house_26 rfl ?_
      refine e_geti fw_X10_7 dX10_house_27 (kM_mem (s := 40) (by decide)) rfl (lt_b rfl) ?_
      refine r_istore_n (L' := [some (vR (40, 0, 0)), some (vI a0), some (vI a1), some (vI (u.1 (40, 0, 0) 0)), none]) dX10_house_30 (by decide) rfl ?_
      refine r_aload_n (x := (40, 0, 0)) dX10_house_31 rfl ?_
      refine e_getr (z := some (41, 0, 0)) fw_X10_22 dX10_house_32 (kM_mem (s := 40) (by decide)) rfl (lt_b rfl) rfl ?_
      refine r_iload_n (x := u.1 (40, 0, 0) 0) dX10_house_35 rfl ?_
      refine r_iload_n (x := a0) dX10_house_36 rfl ?_
      obtain ⟨h3, hf⟩ := am_nchk hf
      refine e_iast (n := (u.1 (40, 0, 0) 0).toNatClampNeg) dX10_house_37 (kM_mem (s := 41) (by decide)) rfl h3 rfl ?_
      refine r_aload_n (x := (40, 0, 0)) dX10_house_38 rfl ?_
      refine r_iload_n (x := a1) dX10_house_39 rfl ?_
      refine r_if_eq (tgt := 54) dX10_house_40 (by decide) (fun hc => ?_) (fun hc => ?_)
      · have hf := (am_if hf).1 hc
        refine r_aload_n (x := (40, 0, 0)) dX10_house_54 rfl ?_
        refine e_geti_ (x := u.1 (40, 0, 0) 1) fw_X10_13 dX10_house_55 (kM_mem (s := 40) (by decide)) rfl (lt_b rfl) (by simp [pi, pl, pr, pci, pcl]) ?_
        refine r_iconst (v := 1) dX10_house_58 rfl ?_
        refine r_iload_n (x := u.1 (40, 0, 0) 0) dX10_house_59 rfl ?_
        refine r_ishl dX10_house_60 ?_
        refine r_iconst (v := -1) dX10_house_61 rfl ?_
        refine r_ixor dX10_house_62 ?_
        refine r_iand dX10_house_63 ?_
        refine e_puti fp_X10_13 dX10_house_64 (kM_mem (s := 40) (by decide)) rfl (lt_b rfl) rfl rfl rfl ?_
        refine r_aload_n (x := (40, 0, 0)) dX10_house_67 rfl ?_
        refine e_getr (z := some (42, 0, 0)) fw_X10_26 dX10_house_68 (kM_mem (s := 40) (by decide)) rfl (lt_b rfl) rfl ?_
        refine r_iload_n (x := u.1 (40, 0, 0) 0) dX10_house_71 rfl ?_
        refine r_iconst (v := 0) dX10_house_72 rfl ?_
        refine e_iast (n := (u.1 (40, 0, 0) 0).toNatClampNeg) dX10_house_73 (kM_mem (s := 42) (by decide)) rfl h3 rfl ?_
        refine r_aload_n (x := (40, 0, 0)) dX10_house_74 rfl ?_
        refine e_getr (z := some (43, 0, 0)) fw_X10_29 dX10_house_75 (kM_mem (s := 40) (by decide)) rfl (lt_b rfl) rfl ?_
        refine r_iload_n (x := u.1 (40, 0, 0) 0) dX10_house_78 rfl ?_
        refine r_iconst (v := 0) dX10_house_79 rfl ?_
        refine e_iast (n := (u.1 (40, 0, 0) 0).toNatClampNeg) dX10_house_80 (kM_mem (s := 43) (by decide)) rfl h3 rfl ?_
        refine r_aload_n (x := (40, 0, 0)) dX10_house_81 rfl ?_
        refine e_getr (z := some (44, 0, 0)) fw_X10_32 dX10_house_82 (kM_mem (s := 40) (by decide)) rfl (lt_b rfl) rfl ?_
        refine r_iload_n (x := u.1 (40, 0, 0) 0) dX10_house_85 rfl ?_
        refine r_iconst (v := 0) dX10_house_86 rfl ?_
        refine e_iast (n := (u.1 (40, 0, 0) 0).toNatClampNeg) dX10_house_87 (kM_mem (s := 44) (by decide)) rfl h3 rfl ?_
        refine r_aload_n (x := (40, 0, 0)) dX10_house_88 rfl ?_
        refine e_getr (z := some (45, 0, 0)) fw_X10_35 dX10_house_89 (kM_mem (s := 40) (by decide)) rfl (lt_b rfl) rfl ?_
        refine r_iload_n (x := u.1 (40, 0, 0) 0) dX10_house_92 rfl ?_
        refine r_iconst (v := 0) dX10_house_93 rfl ?_
        refine e_iast (n := (u.1 (40, 0, 0) 0).toNatClampNeg) dX10_house_94 (kM_mem (s := 45) (by decide)) rfl h3 rfl ?_
        refine r_aload_n (x := (40, 0, 0)) dX10_house_95 rfl ?_
        refine e_getr (z := some (46, 0, 0)) fw_X10_38 dX10_house_96 (kM_mem (s := 40) (by decide)) rfl (lt_b rfl) rfl ?_
        refine r_iload_n (x := u.1 (40, 0, 0) 0) dX10_house_99 rfl ?_
        refine r_iconst (v := 0) dX10_house_100 rfl ?_
        refine e_iast (n := (u.1 (40, 0, 0) 0).toNatClampNeg) dX10_house_101 (kM_mem (s := 46) (by decide)) rfl h3 rfl ?_
        refine r_aload_n (x := (40, 0, 0)) dX10_house_102 rfl ?_
        refine e_getr (z := some (47, 0, 0)) fw_X10_41 dX10_house_103 (kM_mem (s := 40) (by decide)) rfl (lt_b rfl) rfl ?_
        refine r_iload_n (x := u.1 (40, 0, 0) 0) dX10_house_106 rfl ?_
        refine r_iconst (v := -1) dX10_house_107 rfl ?_
        refine e_iast (n := (u.1 (40, 0, 0) 0).toNatClampNeg) dX10_house_108 (kM_mem (s := 47) (by decide)) rfl h3 rfl ?_
        refine r_aload_n (x := (40, 0, 0)) dX10_house_109 rfl ?_
        refine e_getr (z := some (48, 0, 0)) fw_X10_44 dX10_house_110 (kM_mem (s := 40) (by decide)) rfl (lt_b rfl) rfl ?_
        refine r_iload_n (x := u.1 (40, 0, 0) 0) dX10_house_113 rfl ?_
        refine r_iconst (v := -1) dX10_house_114 rfl ?_
        refine e_iast (n := (u.1 (40, 0, 0) 0).toNatClampNeg) dX10_house_115 (kM_mem (s := 48) (by decide)) rfl h3 rfl ?_
        refine r_iconst (v := 0) dX10_house_116 rfl ?_
        refine r_istore (L' := [some (vR (40, 0, 0)), some (vI a0), some (vI a1), some (vI (u.1 (40, 0, 0) 0)), some (vI (0 : Int32))]) dX10_house_117 (by decide) rfl ?_
        refine r_weak (L' := [some (vR (40, 0, 0)), none, none, some (vI (u.1 (40, 0, 0) 0)), some (vI (0 : Int32))]) (And.intro rfl (And.intro rfl (And.intro rfl trivial))) ?_
        obtain ⟨e6, he7, hf⟩ := am_bind hf
        refine K_X10_house_L119  2000 ((0 : Int32), (pi (pi (pi (pi (pi (pi (pi (pi (pi u (41, 0, 0) ((u.1 (40, 0, 0) 0).toNatClampNeg) a0) (40, 0, 0) 1 ((u.1 (40, 0, 0) 1) &&& (((1 : Int32) <<< ((u.1 (40, 0, 0) 0) &&& 31)) ^^^ (-1 : Int32)))) (42, 0, 0) ((u.1 (40, 0, 0) 0).toNatClampNeg) (0 : Int32)) (43, 0, 0) ((u.1 (40, 0, 0) 0).toNatClampNeg) (0 : Int32)) (44, 0, 0) ((u.1 (40, 0, 0) 0).toNatClampNeg) (0 : Int32)) (45, 0, 0) ((u.1 (40, 0, 0) 0).toNatClampNeg) (0 : Int32)) (46, 0, 0) ((u.1 (40, 0, 0) 0).toNatClampNeg) (0 : Int32)) (47, 0, 0) ((u.1 (40, 0, 0) 0).toNatClampNeg) (-1 : Int32)) (48, 0, 0) ((u.1 (40, 0, 0) 0).toNatClampNeg) (-1 : Int32))) _ he7 ?_
        obtain ⟨u8, rfl⟩ : ∃ z, z = e6 := ⟨_, rfl⟩
        show X l _ _ 0 0 false _ kM 0 0 158 [some (vR (40, 0, 0)), none, none, some (vI (u.1 (40, 0, 0) 0)), none] [] (en u8)
        refine r_aload_n (x := (40, 0, 0)) dX10_house_158 rfl ?_
        refine r_dup dX10_house_159 rfl ?_
        refine e_geti fw_X10_7 dX10_house_160 (kM_mem (s := 40) (by decide)) rfl (lt_b rfl) ?_
        refine r_iconst (v := 1) dX10_house_163 rfl ?_
        refine r_iadd dX10_house_164 ?_
        refine e_puti fp_X10_7 dX10_house_165 (kM_mem (s := 40) (by decide)) rfl (lt_b rfl) rfl rfl rfl ?_
        refine r_iload_n (x := u.1 (40, 0, 0) 0) dX10_house_168 rfl ?_
        have hx := am_inj hf
        subst hx
        exact r_iret dX10_house_169 rfl rfl (le_b rfl) (le_b rfl)
      · have hf := (am_if hf).2 hc
        refine r_aload_n (x := (40, 0, 0)) dX10_house_43 rfl ?_
        refine e_geti_ (x := u.1 (40, 0, 0) 1) fw_X10_13 dX10_house_44 (kM_mem (s := 40) (by decide)) rfl (lt_b rfl) (by simp [pi, pl, pr, pci, pcl]) ?_
        refine r_iconst (v := 1) dX10_house_47 rfl ?_
        refine r_iload_n (x := u.1 (40, 0, 0) 0) dX10_house_48 rfl ?_
        refine r_ishl dX10_house_49 ?_
        refine r_ior dX10_house_50 ?_
        refine r_goto (tgt := 64) dX10_house_51 (by decide) ?_
        refine e_puti fp_X10_13 dX10_house_64 (kM_mem (s := 40) (by decide)) rfl (lt_b rfl) rfl rfl rfl ?_
        refine r_aload_n (x := (40, 0, 0)) dX10_house_67 rfl ?_
        refine e_getr (z := some (42, 0, 0)) fw_X10_26 dX10_house_68 (kM_mem (s := 40) (by decide)) rfl (lt_b rfl) rfl ?_
        refine r_iload_n (x := u.1 (40, 0, 0) 0) dX10_house_71 rfl ?_
        refine r_iconst (v := 0) dX10_house_72 rfl ?_
        refine e_iast (n := (u.1 (40, 0, 0) 0).toNatClampNeg) dX10_house_73 (kM_mem (s := 42) (by decide)) rfl h3 rfl ?_
        refine r_aload_n (x := (40, 0, 0)) dX10_house_74 rfl ?_
        refine e_getr (z := some (43, 0, 0)) fw_X10_29 dX10_house_75 (kM_mem (s := 40) (by decide)) rfl (lt_b rfl) rfl ?_
        refine r_iload_n (x := u.1 (40, 0, 0) 0) dX10_house_78 rfl ?_
        refine r_iconst (v := 0) dX10_house_79 rfl ?_
        refine e_iast (n := (u.1 (40, 0, 0) 0).toNatClampNeg) dX10_house_80 (kM_mem (s := 43) (by decide)) rfl h3 rfl ?_
        refine r_aload_n (x := (40, 0, 0)) dX10_house_81 rfl ?_
        refine e_getr (z := some (44, 0, 0)) fw_X10_32 dX10_house_82 (kM_mem (s := 40) (by decide)) rfl (lt_b rfl) rfl ?_
        refine r_iload_n (x := u.1 (40, 0, 0) 0) dX10_house_85 rfl ?_
        refine r_iconst (v := 0) dX10_house_86 rfl ?_
        refine e_iast (n := (u.1 (40, 0, 0) 0).toNatClampNeg) dX10_house_87 (kM_mem (s := 44) (by decide)) rfl h3 rfl ?_
        refine r_aload_n (x := (40, 0, 0)) dX10_house_88 rfl ?_
        refine e_getr (z := some (45, 0, 0)) fw_X10_35 dX10_house_89 (kM_mem (s := 40) (by decide)) rfl (lt_b rfl) rfl ?_
        refine r_iload_n (x := u.1 (40, 0, 0) 0) dX10_house_92 rfl ?_
        refine r_iconst (v := 0) dX10_house_93 rfl ?_
        refine e_iast (n := (u.1 (40, 0, 0) 0).toNatClampNeg) dX10_house_94 (kM_mem (s := 45) (by decide)) rfl h3 rfl ?_
        refine r_aload_n (x := (40, 0, 0)) dX10_house_95 rfl ?_
        refine e_getr (z := some (46, 0, 0)) fw_X10_38 dX10_house_96 (kM_mem (s := 40) (by decide)) rfl (lt_b rfl) rfl ?_
        refine r_iload_n (x := u.1 (40, 0, 0) 0) dX10_house_99 rfl ?_
        refine r_iconst (v := 0) dX10_house_100 rfl ?_
        refine e_iast (n := (u.1 (40, 0, 0) 0).toNatClampNeg) dX10_house_101 (kM_mem (s := 46) (by decide)) rfl h3 rfl ?_
        refine r_aload_n (x := (40, 0, 0)) dX10_house_102 rfl ?_
        refine e_getr (z := some (47, 0, 0)) fw_X10_41 dX10_house_103 (kM_mem (s := 40) (by decide)) rfl (lt_b rfl) rfl ?_
        refine r_iload_n (x := u.1 (40, 0, 0) 0) dX10_house_106 rfl ?_
        refine r_iconst (v := -1) dX10_house_107 rfl ?_
        refine e_iast (n := (u.1 (40, 0, 0) 0).toNatClampNeg) dX10_house_108 (kM_mem (s := 47) (by decide)) rfl h3 rfl ?_
        refine r_aload_n (x := (40, 0, 0)) dX10_house_109 rfl ?_
        refine e_getr (z := some (48, 0, 0)) fw_X10_44 dX10_house_110 (kM_mem (s := 40) (by decide)) rfl (lt_b rfl) rfl ?_
        refine r_iload_n (x := u.1 (40, 0, 0) 0) dX10_house_113 rfl ?_
        refine r_iconst (v := -1) dX10_house_114 rfl ?_
        refine e_iast (n := (u.1 (40, 0, 0) 0).toNatClampNeg) dX10_house_115 (kM_mem (s := 48) (by decide)) rfl h3 rfl ?_
        refine r_iconst (v := 0) dX10_house_116 rfl ?_
        refine r_istore (L' := [some (vR (40, 0, 0)), some (vI a0), some (vI a1), some (vI (u.1 (40, 0, 0) 0)), some (vI (0 : Int32))]) dX10_house_117 (by decide) rfl ?_
        refine r_weak (L' := [some (vR (40, 0, 0)), none, none, some (vI (u.1 (40, 0, 0) 0)), some (vI (0 : Int32))]) (And.intro rfl (And.intro rfl (And.intro rfl trivial))) ?_
        obtain ⟨e9, he10, hf⟩ := am_bind hf
        refine K_X10_house_L119  2000 ((0 : Int32), (pi (pi (pi (pi (pi (pi (pi (pi (pi u (41, 0, 0) ((u.1 (40, 0, 0) 0).toNatClampNeg) a0) (40, 0, 0) 1 ((u.1 (40, 0, 0) 1) ||| ((1 : Int32) <<< ((u.1 (40, 0, 0) 0) &&& 31)))) (42, 0, 0) ((u.1 (40, 0, 0) 0).toNatClampNeg) (0 : Int32)) (43, 0, 0) ((u.1 (40, 0, 0) 0).toNatClampNeg) (0 : Int32)) (44, 0, 0) ((u.1 (40, 0, 0) 0).toNatClampNeg) (0 : Int32)) (45, 0, 0) ((u.1 (40, 0, 0) 0).toNatClampNeg) (0 : Int32)) (46, 0, 0) ((u.1 (40, 0, 0) 0).toNatClampNeg) (0 : Int32)) (47, 0, 0) ((u.1 (40, 0, 0) 0).toNatClampNeg) (-1 : Int32)) (48, 0, 0) ((u.1 (40, 0, 0) 0).toNatClampNeg) (-1 : Int32))) _ he10 ?_
        obtain ⟨u11, rfl⟩ : ∃ z, z = e9 := ⟨_, rfl⟩
        show X l _ _ 0 0 false _ kM 0 0 158 [some (vR (40, 0, 0)), none, none, some (vI (u.1 (40, 0, 0) 0)), none] [] (en u11)
        refine r_aload_n (x := (40, 0, 0)) dX10_house_158 rfl ?_
        refine r_dup dX10_house_159 rfl ?_
        refine e_geti fw_X10_7 dX10_house_160 (kM_mem (s := 40) (by decide)) rfl (lt_b rfl) ?_
        refine r_iconst (v := 1) dX10_house_163 rfl ?_
        refine r_iadd dX10_house_164 ?_
        refine e_puti fp_X10_7 dX10_house_165 (kM_mem (s := 40) (by decide)) rfl (lt_b rfl) rfl rfl rfl ?_
        refine r_iload_n (x := u.1 (40, 0, 0) 0) dX10_house_168 rfl ?_
        have hx := am_inj hf
        subst hx
        exact r_iret dX10_house_169 rfl rfl (le_b rfl) (le_b rfl)
    · have hf := (am_if hf).1 hc
      refine r_bipush (v := -4) dX10_house_23 rfl ?_
      have hx := am_inj hf
      subst hx
      exact r_iret dX10_house_25 rfl rfl (le_b rfl) (le_b rfl)
  · have hf := (am_if hf).1 hc
    refine r_bipush (v := -2) dX10_house_11 rfl ?_
    have hx := am_inj hf
    subst hx
    exact r_iret dX10_house_13 rfl rfl (le_b rfl) (le_b rfl)
/-! FireFromFireModel.of -/
theorem dX10_of_0 : decode cX10_of 0 = .ok (.aload_n 0, 1) := by decide +kernel
theorem dX10_of_1 : decode cX10_of 1 = .ok (.iload_n 1, 1) := by decide +kernel
theorem dX10_of_2 : decode cX10_of 2 = .ok (.invokevirtual 271, 3) := by decide +kernel
theorem dX10_of_5 : decode cX10_of 5 = .ok (.ifCond .ne 5, 3) := by decide +kernel
theorem dX10_of_8 : decode cX10_of 8 = .ok (.iconst (-1), 1) := by decide +kernel
theorem dX10_of_9 : decode cX10_of 9 = .ok (.ireturn, 1) := by decide +kernel
theorem dX10_of_10 : decode cX10_of 10 = .ok (.iload_n 2, 1) := by decide +kernel
theorem dX10_of_11 : decode cX10_of 11 = .ok (.tableswitch 154 0 7 #[45, 52, 70, 77, 84, 91, 111, 132], 45) := by decide +kernel
theorem dX10_of_56 : decode cX10_of 56 = .ok (.aload_n 0, 1) := by decide +kernel
theorem dX10_of_57 : decode cX10_of 57 = .ok (.getfield 22, 3) := by decide +kernel
theorem dX10_of_60 : decode cX10_of 60 = .ok (.iload_n 1, 1) := by decide +kernel
theorem dX10_of_61 : decode cX10_of 61 = .ok (.iaload, 1) := by decide +kernel
theorem dX10_of_62 : decode cX10_of 62 = .ok (.ireturn, 1) := by decide +kernel
theorem dX10_of_63 : decode cX10_of 63 = .ok (.aload_n 0, 1) := by decide +kernel
theorem dX10_of_64 : decode cX10_of 64 = .ok (.aload_n 0, 1) := by decide +kernel
theorem dX10_of_65 : decode cX10_of 65 = .ok (.getfield 13, 3) := by decide +kernel
theorem dX10_of_68 : decode cX10_of 68 = .ok (.iload_n 1, 1) := by decide +kernel
theorem dX10_of_69 : decode cX10_of 69 = .ok (.invokevirtual 275, 3) := by decide +kernel
theorem dX10_of_72 : decode cX10_of 72 = .ok (.ifCond .eq 7, 3) := by decide +kernel
theorem dX10_of_75 : decode cX10_of 75 = .ok (.iconst 1, 1) := by decide +kernel
theorem dX10_of_76 : decode cX10_of 76 = .ok (.goto 4, 3) := by decide +kernel
theorem dX10_of_79 : decode cX10_of 79 = .ok (.iconst 0, 1) := by decide +kernel
theorem dX10_of_80 : decode cX10_of 80 = .ok (.ireturn, 1) := by decide +kernel
theorem dX10_of_81 : decode cX10_of 81 = .ok (.aload_n 0, 1) := by decide +kernel
theorem dX10_of_82 : decode cX10_of 82 = .ok (.getfield 26, 3) := by decide +kernel
theorem dX10_of_85 : decode cX10_of 85 = .ok (.iload_n 1, 1) := by decide +kernel
theorem dX10_of_86 : decode cX10_of 86 = .ok (.iaload, 1) := by decide +kernel
theorem dX10_of_87 : decode cX10_of 87 = .ok (.ireturn, 1) := by decide +kernel
theorem dX10_of_88 : decode cX10_of 88 = .ok (.aload_n 0, 1) := by decide +kernel
theorem dX10_of_89 : decode cX10_of 89 = .ok (.getfield 29, 3) := by decide +kernel
theorem dX10_of_92 : decode cX10_of 92 = .ok (.iload_n 1, 1) := by decide +kernel
theorem dX10_of_93 : decode cX10_of 93 = .ok (.iaload, 1) := by decide +kernel
theorem dX10_of_94 : decode cX10_of 94 = .ok (.ireturn, 1) := by decide +kernel
theorem dX10_of_95 : decode cX10_of 95 = .ok (.aload_n 0, 1) := by decide +kernel
theorem dX10_of_96 : decode cX10_of 96 = .ok (.getfield 35, 3) := by decide +kernel
theorem dX10_of_99 : decode cX10_of 99 = .ok (.iload_n 1, 1) := by decide +kernel
theorem dX10_of_100 : decode cX10_of 100 = .ok (.iaload, 1) := by decide +kernel
theorem dX10_of_101 : decode cX10_of 101 = .ok (.ireturn, 1) := by decide +kernel
theorem dX10_of_102 : decode cX10_of 102 = .ok (.aload_n 0, 1) := by decide +kernel
theorem dX10_of_103 : decode cX10_of 103 = .ok (.getfield 35, 3) := by decide +kernel
theorem dX10_of_106 : decode cX10_of 106 = .ok (.iload_n 1, 1) := by decide +kernel
theorem dX10_of_107 : decode cX10_of 107 = .ok (.iaload, 1) := by decide +kernel
theorem dX10_of_108 : decode cX10_of 108 = .ok (.ifCond .ne 7, 3) := by decide +kernel
theorem dX10_of_111 : decode cX10_of 111 = .ok (.iconst 0, 1) := by decide +kernel
theorem dX10_of_112 : decode cX10_of 112 = .ok (.goto 9, 3) := by decide +kernel
theorem dX10_of_115 : decode cX10_of 115 = .ok (.aload_n 0, 1) := by decide +kernel
theorem dX10_of_116 : decode cX10_of 116 = .ok (.getfield 38, 3) := by decide +kernel
theorem dX10_of_119 : decode cX10_of 119 = .ok (.iload_n 1, 1) := by decide +kernel
theorem dX10_of_120 : decode cX10_of 120 = .ok (.iaload, 1) := by decide +kernel
theorem dX10_of_121 : decode cX10_of 121 = .ok (.ireturn, 1) := by decide +kernel
theorem dX10_of_122 : decode cX10_of 122 = .ok (.aload_n 0, 1) := by decide +kernel
theorem dX10_of_123 : decode cX10_of 123 = .ok (.getfield 35, 3) := by decide +kernel
theorem dX10_of_126 : decode cX10_of 126 = .ok (.iload_n 1, 1) := by decide +kernel
theorem dX10_of_127 : decode cX10_of 127 = .ok (.iaload, 1) := by decide +kernel
theorem dX10_of_128 : decode cX10_of 128 = .ok (.ifCond .ne 8, 3) := by decide +kernel
theorem dX10_of_131 : decode cX10_of 131 = .ok (.bipush (-5), 2) := by decide +kernel
theorem dX10_of_133 : decode cX10_of 133 = .ok (.goto 9, 3) := by decide +kernel
theorem dX10_of_136 : decode cX10_of 136 = .ok (.aload_n 0, 1) := by decide +kernel
theorem dX10_of_137 : decode cX10_of 137 = .ok (.getfield 41, 3) := by decide +kernel
theorem dX10_of_140 : decode cX10_of 140 = .ok (.iload_n 1, 1) := by decide +kernel
theorem dX10_of_141 : decode cX10_of 141 = .ok (.iaload, 1) := by decide +kernel
theorem dX10_of_142 : decode cX10_of 142 = .ok (.ireturn, 1) := by decide +kernel
theorem dX10_of_143 : decode cX10_of 143 = .ok (.aload_n 0, 1) := by decide +kernel
theorem dX10_of_144 : decode cX10_of 144 = .ok (.getfield 35, 3) := by decide +kernel
theorem dX10_of_147 : decode cX10_of 147 = .ok (.iload_n 1, 1) := by decide +kernel
theorem dX10_of_148 : decode cX10_of 148 = .ok (.iaload, 1) := by decide +kernel
theorem dX10_of_149 : decode cX10_of 149 = .ok (.iconst 2, 1) := by decide +kernel
theorem dX10_of_150 : decode cX10_of 150 = .ok (.if_icmp .ne 12, 3) := by decide +kernel
theorem dX10_of_153 : decode cX10_of 153 = .ok (.aload_n 0, 1) := by decide +kernel
theorem dX10_of_154 : decode cX10_of 154 = .ok (.getfield 44, 3) := by decide +kernel
theorem dX10_of_157 : decode cX10_of 157 = .ok (.iload_n 1, 1) := by decide +kernel
theorem dX10_of_158 : decode cX10_of 158 = .ok (.iaload, 1) := by decide +kernel
theorem dX10_of_159 : decode cX10_of 159 = .ok (.goto 5, 3) := by decide +kernel
theorem dX10_of_162 : decode cX10_of 162 = .ok (.bipush (-5), 2) := by decide +kernel
theorem dX10_of_164 : decode cX10_of 164 = .ok (.ireturn, 1) := by decide +kernel
theorem dX10_of_165 : decode cX10_of 165 = .ok (.iconst (-1), 1) := by decide +kernel
theorem dX10_of_166 : decode cX10_of 166 = .ok (.ireturn, 1) := by decide +kernel
def f_X10_of  (a0 : Int32) (a1 : Int32) (u : PM) : Option (Int32) :=
  (f_X10_isHouse a0 u).bind fun r1 =>
  if r1 = 0 then
    some (-1 : Int32)
  else
  if a1 = (0 : Int32) then
    if a0 < 0 ∨ 6 ≤ a0.toNatClampNeg then none else
    some (u.1 (41, 0, 0) a0.toNatClampNeg)
  else if a1 = (1 : Int32) then
    (f_X10_has (u.1 (40, 0, 0) 1) a0 u).bind fun r4 =>
    if r4 = 0 then
      some (0 : Int32)
    else
    some (1 : Int32)
  else if a1 = (2 : Int32) then
    if a0 < 0 ∨ 6 ≤ a0.toNatClampNeg then none else
    some (u.1 (42, 0, 0) a0.toNatClampNeg)
  else if a1 = (3 : Int32) then
    if a0 < 0 ∨ 6 ≤ a0.toNatClampNeg then none else
    some (u.1 (43, 0, 0) a0.toNatClampNeg)
  else if a1 = (4 : Int32) then
    if a0 < 0 ∨ 6 ≤ a0.toNatClampNeg then none else
    some (u.1 (45, 0, 0) a0.toNatClampNeg)
  else if a1 = (5 : Int32) then
    if a0 < 0 ∨ 6 ≤ a0.toNatClampNeg then none else
    if (u.1 (45, 0, 0) a0.toNatClampNeg) = 0 then
      some (0 : Int32)
    else
    some (u.1 (46, 0, 0) a0.toNatClampNeg)
  else if a1 = (6 : Int32) then
    if a0 < 0 ∨ 6 ≤ a0.toNatClampNeg then none else
    if (u.1 (45, 0, 0) a0.toNatClampNeg) = 0 then
      some (-5 : Int32)
    else
    some (u.1 (47, 0, 0) a0.toNatClampNeg)
  else if a1 = (7 : Int32) then
    if a0 < 0 ∨ 6 ≤ a0.toNatClampNeg then none else
    if (u.1 (45, 0, 0) a0.toNatClampNeg) = (2 : Int32) then
      some (u.1 (48, 0, 0) a0.toNatClampNeg)
    else
    some (-5 : Int32)
  else 
  some (-1 : Int32)
set_option maxHeartbeats 4000000 in
set_option maxRecDepth 20000 in
theorem C_X10_of {l : Launch}  {a0 : Int32} {a1 : Int32} {u : PM} {x : Int32} (hf : f_X10_of a0 a1 u = some x) : Ev l mX10_of 3 0 0 false [vR (40, 0, 0), vI a0, vI a1] kM (en u) (some (vI x), kM, en u) := by
  refine Ev_of (by decide +kernel) (le_b rfl) ?_
  unfold f_X10_of at hf
  show X l mX10_of 3 0 0 false _ kM 0 0 0 [some (vR (40, 0, 0)), some (vI a0), some (vI a1)] [] (en u)
  refine r_aload_n (x := (40, 0, 0)) dX10_of_0 rfl ?_
  refine r_iload_n (x := a0) dX10_of_1 rfl ?_
  obtain ⟨r1, hr2, hf⟩ := am_bind hf
  refine r_callV (as := [vI a0]) (st := []) (n := 1) mw_X10_271 mv_X10_isHouse (C_X10_isHouse (l := l) hr2) (le_b rfl) dX10_of_2 (kM_mem (s := 40) (by decide)) rfl rfl rfl (le_b rfl) (le_b rfl) (le_b rfl) ?_
  show X l _ _ 0 0 false _ kM 0 0 5 [some (vR (40, 0, 0)), some (vI a0), some (vI a1)] [vI r1] (en u)
  refine r_if_ne (tgt := 10) dX10_of_5 (by decide) (fun hc => ?_) (fun hc => ?_)
  · have hf := (am_if hf).2 hc
    refine r_iload_n (x := a1) dX10_of_10 rfl ?_
    by_cases hs0 : a1 = (0 : Int32)
    · have hf := (am_if hf).1 hs0
      refine r_tswIn (x := a1) (kx := 0) (tgt := 56) dX10_of_11 hs0 (by decide) (by decide) rfl (by decide) ?_
      refine r_aload_n (x := (40, 0, 0)) dX10_of_56 rfl ?_
      refine e_getr (z := some (41, 0, 0)) fw_X10_22 dX10_of_57 (kM_mem (s := 40) (by decide)) rfl (lt_b rfl) rfl ?_
      refine r_iload_n (x := a0) dX10_of_60 rfl ?_
      obtain ⟨h3, hf⟩ := am_nchk hf
      refine e_iald (n := a0.toNatClampNeg) dX10_of_61 (kM_mem (s := 41) (by decide)) rfl h3 rfl rfl ?_
      have hx := am_inj hf
      subst hx
      exact r_iret dX10_of_62 rfl rfl (le_b rfl) (le_b rfl)
    have hf := (am_if hf).2 hs0
    by_cases hs1 : a1 = (1 : Int32)
    · have hf := (am_if hf).1 hs1
      refine r_tswIn (x := a1) (kx := 1) (tgt := 63) dX10_of_11 hs1 (by decide) (by decide) rfl (by decide) ?_
      refine r_aload_n (x := (40, 0, 0)) dX10_of_63 rfl ?_
      refine r_aload_n (x := (40, 0, 0)) dX10_of_64 rfl ?_
      refine e_geti fw_X10_13 dX10_of_65 (kM_mem (s := 40) (by decide)) rfl (lt_b rfl) ?_
      refine r_iload_n (x := a0) dX10_of_68 rfl ?_
      obtain ⟨r4, hr5, hf⟩ := am_bind hf
      refine r_callV (as := [vI (u.1 (40, 0, 0) 1), vI a0]) (st := []) (n := 2) mw_X10_275 mv_X10_has (C_X10_has (l := l) hr5) (le_b rfl) dX10_of_69 (kM_mem (s := 40) (by decide)) rfl rfl rfl (le_b rfl) (le_b rfl) (le_b rfl) ?_
      show X l _ _ 0 0 false _ kM 0 0 72 [some (vR (40, 0, 0)), some (vI a0), some (vI a1)] [vI r4] (en u)
      refine r_if_eq (tgt := 79) dX10_of_72 (by decide) (fun hc => ?_) (fun hc => ?_)
      · have hf := (am_if hf).1 hc
        refine r_iconst (v := 0) dX10_of_79 rfl ?_
        have hx := am_inj hf
        subst hx
        exact r_iret dX10_of_80 rfl rfl (le_b rfl) (le_b rfl)
      · have hf := (am_if hf).2 hc
        refine r_iconst (v := 1) dX10_of_75 rfl ?_
        refine r_goto (tgt := 80) dX10_of_76 (by decide) ?_
        have hx := am_inj hf
        subst hx
        exact r_iret dX10_of_80 rfl rfl (le_b rfl) (le_b rfl)
    have hf := (am_if hf).2 hs1
    by_cases hs2 : a1 = (2 : Int32)
    · have hf := (am_if hf).1 hs2
      refine r_tswIn (x := a1) (kx := 2) (tgt := 81) dX10_of_11 hs2 (by decide) (by decide) rfl (by decide) ?_
      refine r_aload_n (x := (40, 0, 0)) dX10_of_81 rfl ?_
      refine e_getr (z := some (42, 0, 0)) fw_X10_26 dX10_of_82 (kM_mem (s := 40) (by decide)) rfl (lt_b rfl) rfl ?_
      refine r_iload_n (x := a0) dX10_of_85 rfl ?_
      obtain ⟨h6, hf⟩ := am_nchk hf
      refine e_iald (n := a0.toNatClampNeg) dX10_of_86 (kM_mem (s := 42) (by decide)) rfl h6 rfl rfl ?_
      have hx := am_inj hf
      subst hx
      exact r_iret dX10_of_87 rfl rfl (le_b rfl) (le_b rfl)
    have hf := (am_if hf).2 hs2
    by_cases hs3 : a1 = (3 : Int32)
    · have hf := (am_if hf).1 hs3
      refine r_tswIn (x := a1) (kx := 3) (tgt := 88) dX10_of_11 hs3 (by decide) (by decide) rfl (by decide) ?_
      refine r_aload_n (x := (40, 0, 0)) dX10_of_88 rfl ?_
      refine e_getr (z := some (43, 0, 0)) fw_X10_29 dX10_of_89 (kM_mem (s := 40) (by decide)) rfl (lt_b rfl) rfl ?_
      refine r_iload_n (x := a0) dX10_of_92 rfl ?_
      obtain ⟨h7, hf⟩ := am_nchk hf
      refine e_iald (n := a0.toNatClampNeg) dX10_of_93 (kM_mem (s := 43) (by decide)) rfl h7 rfl rfl ?_
      have hx := am_inj hf
      subst hx
      exact r_iret dX10_of_94 rfl rfl (le_b rfl) (le_b rfl)
    have hf := (am_if hf).2 hs3
    by_cases hs4 : a1 = (4 : Int32)
    · have hf := (am_if hf).1 hs4
      refine r_tswIn (x := a1) (kx := 4) (tgt := 95) dX10_of_11 hs4 (by decide) (by decide) rfl (by decide) ?_
      refine r_aload_n (x := (40, 0, 0)) dX10_of_95 rfl ?_
      refine e_getr (z := some (45, 0, 0)) fw_X10_35 dX10_of_96 (kM_mem (s := 40) (by decide)) rfl (lt_b rfl) rfl ?_
      refine r_iload_n (x := a0) dX10_of_99 rfl ?_
      obtain ⟨h8, hf⟩ := am_nchk hf
      refine e_iald (n := a0.toNatClampNeg) dX10_of_100 (kM_mem (s := 45) (by decide)) rfl h8 rfl rfl ?_
      have hx := am_inj hf
      subst hx
      exact r_iret dX10_of_101 rfl rfl (le_b rfl) (le_b rfl)
    have hf := (am_if hf).2 hs4
    by_cases hs5 : a1 = (5 : Int32)
    · have hf := (am_if hf).1 hs5
      refine r_tswIn (x := a1) (kx := 5) (tgt := 102) dX10_of_11 hs5 (by decide) (by decide) rfl (by decide) ?_
      refine r_aload_n (x := (40, 0, 0)) dX10_of_102 rfl ?_
      refine e_getr (z := some (45, 0, 0)) fw_X10_35 dX10_of_103 (kM_mem (s := 40) (by decide)) rfl (lt_b rfl) rfl ?_
      refine r_iload_n (x := a0) dX10_of_106 rfl ?_
      obtain ⟨h9, hf⟩ := am_nchk hf
      refine e_iald (n := a0.toNatClampNeg) dX10_of_107 (kM_mem (s := 45) (by decide)) rfl h9 rfl rfl ?_
      refine r_if_ne (tgt := 115) dX10_of_108 (by decide) (fun hc => ?_) (fun hc => ?_)
      · have hf := (am_if hf).2 hc
        refine r_aload_n (x := (40, 0, 0)) dX10_of_115 rfl ?_
        refine e_getr (z := some (46, 0, 0)) fw_X10_38 dX10_of_116 (kM_mem (s := 40) (by decide)) rfl (lt_b rfl) rfl ?_
        refine r_iload_n (x := a0) dX10_of_119 rfl ?_
        refine e_iald (n := a0.toNatClampNeg) dX10_of_120 (kM_mem (s := 46) (by decide)) rfl h9 rfl rfl ?_
        have hx := am_inj hf
        subst hx
        exact r_iret dX10_of_121 rfl rfl (le_b rfl) (le_b rfl)
      · have hf := (am_if hf).1 hc
        refine r_iconst (v := 0) dX10_of_111 rfl ?_
        refine r_goto (tgt := 121) dX10_of_112 (by decide) ?_
        have hx := am_inj hf
        subst hx
        exact r_iret dX10_of_121 rfl rfl (le_b rfl) (le_b rfl)
    have hf := (am_if hf).2 hs5
    by_cases hs6 : a1 = (6 : Int32)
    · have hf := (am_if hf).1 hs6
      refine r_tswIn (x := a1) (kx := 6) (tgt := 122) dX10_of_11 hs6 (by decide) (by decide) rfl (by decide) ?_
      refine r_aload_n (x := (40, 0, 0)) dX10_of_122 rfl ?_
      refine e_getr (z := some (45, 0, 0)) fw_X10_35 dX10_of_123 (kM_mem (s := 40) (by decide)) rfl (lt_b rfl) rfl ?_
      refine r_iload_n (x := a0) dX10_of_126 rfl ?_
      obtain ⟨h10, hf⟩ := am_nchk hf
      refine e_iald (n := a0.toNatClampNeg) dX10_of_127 (kM_mem (s := 45) (by decide)) rfl h10 rfl rfl ?_
      refine r_if_ne (tgt := 136) dX10_of_128 (by decide) (fun hc => ?_) (fun hc => ?_)
      · have hf := (am_if hf).2 hc
        refine r_aload_n (x := (40, 0, 0)) dX10_of_136 rfl ?_
        refine e_getr (z := some (47, 0, 0)) fw_X10_41 dX10_of_137 (kM_mem (s := 40) (by decide)) rfl (lt_b rfl) rfl ?_
        refine r_iload_n (x := a0) dX10_of_140 rfl ?_
        refine e_iald (n := a0.toNatClampNeg) dX10_of_141 (kM_mem (s := 47) (by decide)) rfl h10 rfl rfl ?_
        have hx := am_inj hf
        subst hx
        exact r_iret dX10_of_142 rfl rfl (le_b rfl) (le_b rfl)
      · have hf := (am_if hf).1 hc
        refine r_bipush (v := -5) dX10_of_131 rfl ?_
        refine r_goto (tgt := 142) dX10_of_133 (by decide) ?_
        have hx := am_inj hf
        subst hx
        exact r_iret dX10_of_142 rfl rfl (le_b rfl) (le_b rfl)
    have hf := (am_if hf).2 hs6
    by_cases hs7 : a1 = (7 : Int32)
    · have hf := (am_if hf).1 hs7
      refine r_tswIn (x := a1) (kx := 7) (tgt := 143) dX10_of_11 hs7 (by decide) (by decide) rfl (by decide) ?_
      refine r_aload_n (x := (40, 0, 0)) dX10_of_143 rfl ?_
      refine e_getr (z := some (45, 0, 0)) fw_X10_35 dX10_of_144 (kM_mem (s := 40) (by decide)) rfl (lt_b rfl) rfl ?_
      refine r_iload_n (x := a0) dX10_of_147 rfl ?_
      obtain ⟨h11, hf⟩ := am_nchk hf
      refine e_iald (n := a0.toNatClampNeg) dX10_of_148 (kM_mem (s := 45) (by decide)) rfl h11 rfl rfl ?_
      refine r_iconst (v := 2) dX10_of_149 rfl ?_
      refine r_icmp_ne (tgt := 162) dX10_of_150 (by decide) (fun hc => ?_) (fun hc => ?_)
      · have hf := (am_if hf).2 hc
        refine r_bipush (v := -5) dX10_of_162 rfl ?_
        have hx := am_inj hf
        subst hx
        exact r_iret dX10_of_164 rfl rfl (le_b rfl) (le_b rfl)
      · have hf := (am_if hf).1 hc
        refine r_aload_n (x := (40, 0, 0)) dX10_of_153 rfl ?_
        refine e_getr (z := some (48, 0, 0)) fw_X10_44 dX10_of_154 (kM_mem (s := 40) (by decide)) rfl (lt_b rfl) rfl ?_
        refine r_iload_n (x := a0) dX10_of_157 rfl ?_
        refine e_iald (n := a0.toNatClampNeg) dX10_of_158 (kM_mem (s := 48) (by decide)) rfl h11 rfl rfl ?_
        refine r_goto (tgt := 164) dX10_of_159 (by decide) ?_
        have hx := am_inj hf
        subst hx
        exact r_iret dX10_of_164 rfl rfl (le_b rfl) (le_b rfl)
    have hf := (am_if hf).2 hs7
    refine r_tswOut (x := a1) (tgt := 165) dX10_of_11 (by have ehs0 := am_neI hs0 (z := 0) rfl; have ehs1 := am_neI hs1 (z := 1) rfl; have ehs2 := am_neI hs2 (z := 2) rfl; have ehs3 := am_neI hs3 (z := 3) rfl; have ehs4 := am_neI hs4 (z := 4) rfl; have ehs5 := am_neI hs5 (z := 5) rfl; have ehs6 := am_neI hs6 (z := 6) rfl; have ehs7 := am_neI hs7 (z := 7) rfl; omega) (by decide) ?_
    refine r_iconst (v := -1) dX10_of_165 rfl ?_
    have hx := am_inj hf
    subst hx
    exact r_iret dX10_of_166 rfl rfl (le_b rfl) (le_b rfl)
  · have hf := (am_if hf).1 hc
    refine r_iconst (v := -1) dX10_of_8 rfl ?_
    have hx := am_inj hf
    subst hx
    exact r_iret dX10_of_9 rfl rfl (le_b rfl) (le_b rfl)
/-! FireFromFireModel.wood -/
theorem dX10_wood_0 : decode cX10_wood 0 = .ok (.aload_n 0, 1) := by decide +kernel
theorem dX10_wood_1 : decode cX10_wood 1 = .ok (.iload_n 1, 1) := by decide +kernel
theorem dX10_wood_2 : decode cX10_wood 2 = .ok (.invokevirtual 271, 3) := by decide +kernel
theorem dX10_wood_5 : decode cX10_wood 5 = .ok (.ifCond .ne 5, 3) := by decide +kernel
theorem dX10_wood_8 : decode cX10_wood 8 = .ok (.iconst (-1), 1) := by decide +kernel
theorem dX10_wood_9 : decode cX10_wood 9 = .ok (.ireturn, 1) := by decide +kernel
theorem dX10_wood_10 : decode cX10_wood 10 = .ok (.aload_n 0, 1) := by decide +kernel
theorem dX10_wood_11 : decode cX10_wood 11 = .ok (.iload_n 2, 1) := by decide +kernel
theorem dX10_wood_12 : decode cX10_wood 12 = .ok (.iconst 0, 1) := by decide +kernel
theorem dX10_wood_13 : decode cX10_wood 13 = .ok (.bipush 99, 2) := by decide +kernel
theorem dX10_wood_15 : decode cX10_wood 15 = .ok (.invokevirtual 267, 3) := by decide +kernel
theorem dX10_wood_18 : decode cX10_wood 18 = .ok (.ifCond .ne 6, 3) := by decide +kernel
theorem dX10_wood_21 : decode cX10_wood 21 = .ok (.bipush (-2), 2) := by decide +kernel
theorem dX10_wood_23 : decode cX10_wood 23 = .ok (.ireturn, 1) := by decide +kernel
theorem dX10_wood_24 : decode cX10_wood 24 = .ok (.aload_n 0, 1) := by decide +kernel
theorem dX10_wood_25 : decode cX10_wood 25 = .ok (.getfield 22, 3) := by decide +kernel
theorem dX10_wood_28 : decode cX10_wood 28 = .ok (.iload_n 1, 1) := by decide +kernel
theorem dX10_wood_29 : decode cX10_wood 29 = .ok (.iaload, 1) := by decide +kernel
theorem dX10_wood_30 : decode cX10_wood 30 = .ok (.istore_n 3, 1) := by decide +kernel
theorem dX10_wood_31 : decode cX10_wood 31 = .ok (.aload_n 0, 1) := by decide +kernel
theorem dX10_wood_32 : decode cX10_wood 32 = .ok (.getfield 22, 3) := by decide +kernel
theorem dX10_wood_35 : decode cX10_wood 35 = .ok (.iload_n 1, 1) := by decide +kernel
theorem dX10_wood_36 : decode cX10_wood 36 = .ok (.iload_n 2, 1) := by decide +kernel
theorem dX10_wood_37 : decode cX10_wood 37 = .ok (.iastore, 1) := by decide +kernel
theorem dX10_wood_38 : decode cX10_wood 38 = .ok (.iload_n 3, 1) := by decide +kernel
theorem dX10_wood_39 : decode cX10_wood 39 = .ok (.ireturn, 1) := by decide +kernel
def f_X10_wood  (a0 : Int32) (a1 : Int32) (u : PM) : Option (Int32 × PM) :=
  (f_X10_isHouse a0 u).bind fun r1 =>
  if r1 = 0 then
    some ((-1 : Int32), u)
  else
  (f_X10_in a1 (0 : Int32) (99 : Int32) u).bind fun r3 =>
  if r3 = 0 then
    some ((-2 : Int32), u)
  else
  if a0 < 0 ∨ 6 ≤ a0.toNatClampNeg then none else
  some (u.1 (41, 0, 0) a0.toNatClampNeg, (pi u (41, 0, 0) a0.toNatClampNeg a1))
set_option maxHeartbeats 4000000 in
set_option maxRecDepth 20000 in
theorem C_X10_wood {l : Launch}  {a0 : Int32} {a1 : Int32} {u : PM} {x : Int32 × PM} (hf : f_X10_wood a0 a1 u = some x) : Ev l mX10_wood 3 0 0 false [vR (40, 0, 0), vI a0, vI a1] kM (en u) (some (vI x.1), kM, en x.2) := by
  refine Ev_of (by decide +kernel) (le_b rfl) ?_
  unfold f_X10_wood at hf
  show X l mX10_wood 3 0 0 false _ kM 0 0 0 [some (vR (40, 0, 0)), some (vI a0), some (vI a1), none] [] (en u)
  refine r_aload_n (x := (40, 0, 0)) dX10_wood_0 rfl ?_
  refine r_iload_n (x := a0) dX10_wood_1 rfl ?_
  obtain ⟨r1, hr2, hf⟩ := am_bind hf
  refine r_callV (as := [vI a0]) (st := []) (n := 1) mw_X10_271 mv_X10_isHouse (C_X10_isHouse (l := l) hr2) (le_b rfl) dX10_wood_2 (kM_mem (s := 40) (by decide)) rfl rfl rfl (le_b rfl) (le_b rfl) (le_b rfl) ?_
  show X l _ _ 0 0 false _ kM 0 0 5 [some (vR (40, 0, 0)), some (vI a0), some (vI a1), none] [vI r1] (en u)
  refine r_if_ne (tgt := 10) dX10_wood_5 (by decide) (fun hc => ?_) (fun hc => ?_)
  · have hf := (am_if hf).2 hc
    refine r_aload_n (x := (40, 0, 0)) dX10_wood_10 rfl ?_
    refine r_iload_n (x := a1) dX10_wood_11 rfl ?_
    refine r_iconst (v := 0) dX10_wood_12 rfl ?_
    refine r_bipush (v := 99) dX10_wood_13 rfl ?_
    obtain ⟨r3, hr4, hf⟩ := am_bind hf
    refine r_callV (as := [vI a1, vI (0 : Int32), vI (99 : Int32)]) (st := []) (n := 3) mw_X10_267 mv_X10_in (C_X10_in (l := l) hr4) (le_b rfl) dX10_wood_15 (kM_mem (s := 40) (by decide)) rfl rfl rfl (le_b rfl) (le_b rfl) (le_b rfl) ?_
    show X l _ _ 0 0 false _ kM 0 0 18 [some (vR (40, 0, 0)), some (vI a0), some (vI a1), none] [vI r3] (en u)
    refine r_if_ne (tgt := 24) dX10_wood_18 (by decide) (fun hc => ?_) (fun hc => ?_)
    · have hf := (am_if hf).2 hc
      refine r_aload_n (x := (40, 0, 0)) dX10_wood_24 rfl ?_
      refine e_getr (z := some (41, 0, 0)) fw_X10_22 dX10_wood_25 (kM_mem (s := 40) (by decide)) rfl (lt_b rfl) rfl ?_
      refine r_iload_n (x := a0) dX10_wood_28 rfl ?_
      obtain ⟨h5, hf⟩ := am_nchk hf
      refine e_iald (n := a0.toNatClampNeg) dX10_wood_29 (kM_mem (s := 41) (by decide)) rfl h5 rfl rfl ?_
      refine r_istore_n (L' := [some (vR (40, 0, 0)), some (vI a0), some (vI a1), some (vI (u.1 (41, 0, 0) a0.toNatClampNeg))]) dX10_wood_30 (by decide) rfl ?_
      refine r_aload_n (x := (40, 0, 0)) dX10_wood_31 rfl ?_
      refine e_getr (z := some (41, 0, 0)) fw_X10_22 dX10_wood_32 (kM_mem (s := 40) (by decide)) rfl (lt_b rfl) rfl ?_
      refine r_iload_n (x := a0) dX10_wood_35 rfl ?_
      refine r_iload_n (x := a1) dX10_wood_36 rfl ?_
      refine e_iast (n := a0.toNatClampNeg) dX10_wood_37 (kM_mem (s := 41) (by decide)) rfl h5 rfl ?_
      refine r_iload_n (x := u.1 (41, 0, 0) a0.toNatClampNeg) dX10_wood_38 rfl ?_
      have hx := am_inj hf
      subst hx
      exact r_iret dX10_wood_39 rfl rfl (le_b rfl) (le_b rfl)
    · have hf := (am_if hf).1 hc
      refine r_bipush (v := -2) dX10_wood_21 rfl ?_
      have hx := am_inj hf
      subst hx
      exact r_iret dX10_wood_23 rfl rfl (le_b rfl) (le_b rfl)
  · have hf := (am_if hf).1 hc
    refine r_iconst (v := -1) dX10_wood_8 rfl ?_
    have hx := am_inj hf
    subst hx
    exact r_iret dX10_wood_9 rfl rfl (le_b rfl) (le_b rfl)
/-! FireFromFireModel.light -/
theorem dX10_light_0 : decode cX10_light 0 = .ok (.aload_n 0, 1) := by decide +kernel
theorem dX10_light_1 : decode cX10_light 1 = .ok (.iload_n 1, 1) := by decide +kernel
theorem dX10_light_2 : decode cX10_light 2 = .ok (.invokevirtual 271, 3) := by decide +kernel
theorem dX10_light_5 : decode cX10_light 5 = .ok (.ifCond .ne 5, 3) := by decide +kernel
theorem dX10_light_8 : decode cX10_light 8 = .ok (.iconst (-1), 1) := by decide +kernel
theorem dX10_light_9 : decode cX10_light 9 = .ok (.ireturn, 1) := by decide +kernel
theorem dX10_light_10 : decode cX10_light 10 = .ok (.aload_n 0, 1) := by decide +kernel
theorem dX10_light_11 : decode cX10_light 11 = .ok (.aload_n 0, 1) := by decide +kernel
theorem dX10_light_12 : decode cX10_light 12 = .ok (.getfield 13, 3) := by decide +kernel
theorem dX10_light_15 : decode cX10_light 15 = .ok (.iload_n 1, 1) := by decide +kernel
theorem dX10_light_16 : decode cX10_light 16 = .ok (.invokevirtual 275, 3) := by decide +kernel
theorem dX10_light_19 : decode cX10_light 19 = .ok (.ifCond .eq 7, 3) := by decide +kernel
theorem dX10_light_22 : decode cX10_light 22 = .ok (.iconst 1, 1) := by decide +kernel
theorem dX10_light_23 : decode cX10_light 23 = .ok (.goto 4, 3) := by decide +kernel
theorem dX10_light_26 : decode cX10_light 26 = .ok (.iconst 0, 1) := by decide +kernel
theorem dX10_light_27 : decode cX10_light 27 = .ok (.istore_n 3, 1) := by decide +kernel
theorem dX10_light_28 : decode cX10_light 28 = .ok (.aload_n 0, 1) := by decide +kernel
theorem dX10_light_29 : decode cX10_light 29 = .ok (.iload_n 2, 1) := by decide +kernel
theorem dX10_light_30 : decode cX10_light 30 = .ok (.ifCond .eq 14, 3) := by decide +kernel
theorem dX10_light_33 : decode cX10_light 33 = .ok (.aload_n 0, 1) := by decide +kernel
theorem dX10_light_34 : decode cX10_light 34 = .ok (.getfield 13, 3) := by decide +kernel
theorem dX10_light_37 : decode cX10_light 37 = .ok (.iconst 1, 1) := by decide +kernel
theorem dX10_light_38 : decode cX10_light 38 = .ok (.iload_n 1, 1) := by decide +kernel
theorem dX10_light_39 : decode cX10_light 39 = .ok (.ishl, 1) := by decide +kernel
theorem dX10_light_40 : decode cX10_light 40 = .ok (.ior, 1) := by decide +kernel
theorem dX10_light_41 : decode cX10_light 41 = .ok (.goto 13, 3) := by decide +kernel
theorem dX10_light_44 : decode cX10_light 44 = .ok (.aload_n 0, 1) := by decide +kernel
theorem dX10_light_45 : decode cX10_light 45 = .ok (.getfield 13, 3) := by decide +kernel
theorem dX10_light_48 : decode cX10_light 48 = .ok (.iconst 1, 1) := by decide +kernel
theorem dX10_light_49 : decode cX10_light 49 = .ok (.iload_n 1, 1) := by decide +kernel
theorem dX10_light_50 : decode cX10_light 50 = .ok (.ishl, 1) := by decide +kernel
theorem dX10_light_51 : decode cX10_light 51 = .ok (.iconst (-1), 1) := by decide +kernel
theorem dX10_light_52 : decode cX10_light 52 = .ok (.ixor, 1) := by decide +kernel
theorem dX10_light_53 : decode cX10_light 53 = .ok (.iand, 1) := by decide +kernel
theorem dX10_light_54 : decode cX10_light 54 = .ok (.putfield 13, 3) := by decide +kernel
theorem dX10_light_57 : decode cX10_light 57 = .ok (.iload_n 3, 1) := by decide +kernel
theorem dX10_light_58 : decode cX10_light 58 = .ok (.ireturn, 1) := by decide +kernel
def f_X10_light  (a0 : Int32) (a1 : Int32) (u : PM) : Option (Int32 × PM) :=
  (f_X10_isHouse a0 u).bind fun r1 =>
  if r1 = 0 then
    some ((-1 : Int32), u)
  else
  (f_X10_has (u.1 (40, 0, 0) 1) a0 u).bind fun r3 =>
  if r3 = 0 then
    if a1 = 0 then
      some ((0 : Int32), (pi u (40, 0, 0) 1 ((u.1 (40, 0, 0) 1) &&& (((1 : Int32) <<< (a0 &&& 31)) ^^^ (-1 : Int32)))))
    else
    some ((0 : Int32), (pi u (40, 0, 0) 1 ((u.1 (40, 0, 0) 1) ||| ((1 : Int32) <<< (a0 &&& 31)))))
  else
  if a1 = 0 then
    some ((1 : Int32), (pi u (40, 0, 0) 1 ((u.1 (40, 0, 0) 1) &&& (((1 : Int32) <<< (a0 &&& 31)) ^^^ (-1 : Int32)))))
  else
  some ((1 : Int32), (pi u (40, 0, 0) 1 ((u.1 (40, 0, 0) 1) ||| ((1 : Int32) <<< (a0 &&& 31)))))
set_option maxHeartbeats 4000000 in
set_option maxRecDepth 20000 in
theorem C_X10_light {l : Launch}  {a0 : Int32} {a1 : Int32} {u : PM} {x : Int32 × PM} (hf : f_X10_light a0 a1 u = some x) : Ev l mX10_light 3 0 0 false [vR (40, 0, 0), vI a0, vI a1] kM (en u) (some (vI x.1), kM, en x.2) := by
  refine Ev_of (by decide +kernel) (le_b rfl) ?_
  unfold f_X10_light at hf
  show X l mX10_light 3 0 0 false _ kM 0 0 0 [some (vR (40, 0, 0)), some (vI a0), some (vI a1), none] [] (en u)
  refine r_aload_n (x := (40, 0, 0)) dX10_light_0 rfl ?_
  refine r_iload_n (x := a0) dX10_light_1 rfl ?_
  obtain ⟨r1, hr2, hf⟩ := am_bind hf
  refine r_callV (as := [vI a0]) (st := []) (n := 1) mw_X10_271 mv_X10_isHouse (C_X10_isHouse (l := l) hr2) (le_b rfl) dX10_light_2 (kM_mem (s := 40) (by decide)) rfl rfl rfl (le_b rfl) (le_b rfl) (le_b rfl) ?_
  show X l _ _ 0 0 false _ kM 0 0 5 [some (vR (40, 0, 0)), some (vI a0), some (vI a1), none] [vI r1] (en u)
  refine r_if_ne (tgt := 10) dX10_light_5 (by decide) (fun hc => ?_) (fun hc => ?_)
  · have hf := (am_if hf).2 hc
    refine r_aload_n (x := (40, 0, 0)) dX10_light_10 rfl ?_
    refine r_aload_n (x := (40, 0, 0)) dX10_light_11 rfl ?_
    refine e_geti fw_X10_13 dX10_light_12 (kM_mem (s := 40) (by decide)) rfl (lt_b rfl) ?_
    refine r_iload_n (x := a0) dX10_light_15 rfl ?_
    obtain ⟨r3, hr4, hf⟩ := am_bind hf
    refine r_callV (as := [vI (u.1 (40, 0, 0) 1), vI a0]) (st := []) (n := 2) mw_X10_275 mv_X10_has (C_X10_has (l := l) hr4) (le_b rfl) dX10_light_16 (kM_mem (s := 40) (by decide)) rfl rfl rfl (le_b rfl) (le_b rfl) (le_b rfl) ?_
    show X l _ _ 0 0 false _ kM 0 0 19 [some (vR (40, 0, 0)), some (vI a0), some (vI a1), none] [vI r3] (en u)
    refine r_if_eq (tgt := 26) dX10_light_19 (by decide) (fun hc => ?_) (fun hc => ?_)
    · have hf := (am_if hf).1 hc
      refine r_iconst (v := 0) dX10_light_26 rfl ?_
      refine r_istore_n (L' := [some (vR (40, 0, 0)), some (vI a0), some (vI a1), some (vI (0 : Int32))]) dX10_light_27 (by decide) rfl ?_
      refine r_aload_n (x := (40, 0, 0)) dX10_light_28 rfl ?_
      refine r_iload_n (x := a1) dX10_light_29 rfl ?_
      refine r_if_eq (tgt := 44) dX10_light_30 (by decide) (fun hc => ?_) (fun hc => ?_)
      · have hf := (am_if hf).1 hc
        refine r_aload_n (x := (40, 0, 0)) dX10_light_44 rfl ?_
        refine e_geti fw_X10_13 dX10_light_45 (kM_mem (s := 40) (by decide)) rfl (lt_b rfl) ?_
        refine r_iconst (v := 1) dX10_light_48 rfl ?_
        refine r_iload_n (x := a0) dX10_light_49 rfl ?_
        refine r_ishl dX10_light_50 ?_
        refine r_iconst (v := -1) dX10_light_51 rfl ?_
        refine r_ixor dX10_light_52 ?_
        refine r_iand dX10_light_53 ?_
        refine e_puti fp_X10_13 dX10_light_54 (kM_mem (s := 40) (by decide)) rfl (lt_b rfl) rfl rfl rfl ?_
        refine r_iload_n (x := (0 : Int32)) dX10_light_57 rfl ?_
        have hx := am_inj hf
        subst hx
        exact r_iret dX10_light_58 rfl rfl (le_b rfl) (le_b rfl)
      · have hf := (am_if hf).2 hc
        refine r_aload_n (x := (40, 0, 0)) dX10_light_33 rfl ?_
        refine e_geti fw_X10_13 dX10_light_34 (kM_mem (s := 40) (by decide)) rfl (lt_b rfl) ?_
        refine r_iconst (v := 1) dX10_light_37 rfl ?_
        refine r_iload_n (x := a0) dX10_light_38 rfl ?_
        refine r_ishl dX10_light_39 ?_
        refine r_ior dX10_light_40 ?_
        refine r_goto (tgt := 54) dX10_light_41 (by decide) ?_
        refine e_puti fp_X10_13 dX10_light_54 (kM_mem (s := 40) (by decide)) rfl (lt_b rfl) rfl rfl rfl ?_
        refine r_iload_n (x := (0 : Int32)) dX10_light_57 rfl ?_
        have hx := am_inj hf
        subst hx
        exact r_iret dX10_light_58 rfl rfl (le_b rfl) (le_b rfl)
    · have hf := (am_if hf).2 hc
      refine r_iconst (v := 1) dX10_light_22 rfl ?_
      refine r_goto (tgt := 27) dX10_light_23 (by decide) ?_
      refine r_istore_n (L' := [some (vR (40, 0, 0)), some (vI a0), some (vI a1), some (vI (1 : Int32))]) dX10_light_27 (by decide) rfl ?_
      refine r_aload_n (x := (40, 0, 0)) dX10_light_28 rfl ?_
      refine r_iload_n (x := a1) dX10_light_29 rfl ?_
      refine r_if_eq (tgt := 44) dX10_light_30 (by decide) (fun hc => ?_) (fun hc => ?_)
      · have hf := (am_if hf).1 hc
        refine r_aload_n (x := (40, 0, 0)) dX10_light_44 rfl ?_
        refine e_geti fw_X10_13 dX10_light_45 (kM_mem (s := 40) (by decide)) rfl (lt_b rfl) ?_
        refine r_iconst (v := 1) dX10_light_48 rfl ?_
        refine r_iload_n (x := a0) dX10_light_49 rfl ?_
        refine r_ishl dX10_light_50 ?_
        refine r_iconst (v := -1) dX10_light_51 rfl ?_
        refine r_ixor dX10_light_52 ?_
        refine r_iand dX10_light_53 ?_
        refine e_puti fp_X10_13 dX10_light_54 (kM_mem (s := 40) (by decide)) rfl (lt_b rfl) rfl rfl rfl ?_
        refine r_iload_n (x := (1 : Int32)) dX10_light_57 rfl ?_
        have hx := am_inj hf
        subst hx
        exact r_iret dX10_light_58 rfl rfl (le_b rfl) (le_b rfl)
      · have hf := (am_if hf).2 hc
        refine r_aload_n (x := (40, 0, 0)) dX10_light_33 rfl ?_
        refine e_geti fw_X10_13 dX10_light_34 (kM_mem (s := 40) (by decide)) rfl (lt_b rfl) ?_
        refine r_iconst (v := 1) dX10_light_37 rfl ?_
        refine r_iload_n (x := a0) dX10_light_38 rfl ?_
        refine r_ishl dX10_light_39 ?_
        refine r_ior dX10_light_40 ?_
        refine r_goto (tgt := 54) dX10_light_41 (by decide) ?_
        refine e_puti fp_X10_13 dX10_light_54 (kM_mem (s := 40) (by decide)) rfl (lt_b rfl) rfl rfl rfl ?_
        refine r_iload_n (x := (1 : Int32)) dX10_light_57 rfl ?_
        have hx := am_inj hf
        subst hx
        exact r_iret dX10_light_58 rfl rfl (le_b rfl) (le_b rfl)
  · have hf := (am_if hf).1 hc
    refine r_iconst (v := -1) dX10_light_8 rfl ?_
    have hx := am_inj hf
    subst hx
    exact r_iret dX10_light_9 rfl rfl (le_b rfl) (le_b rfl)
/-! FireFromFireModel.way -/
theorem dX10_way_0 : decode cX10_way 0 = .ok (.aload_n 0, 1) := by decide +kernel
theorem dX10_way_1 : decode cX10_way 1 = .ok (.iload_n 1, 1) := by decide +kernel
theorem dX10_way_2 : decode cX10_way 2 = .ok (.invokevirtual 271, 3) := by decide +kernel
theorem dX10_way_5 : decode cX10_way 5 = .ok (.ifCond .eq 11, 3) := by decide +kernel
theorem dX10_way_8 : decode cX10_way 8 = .ok (.aload_n 0, 1) := by decide +kernel
theorem dX10_way_9 : decode cX10_way 9 = .ok (.iload_n 2, 1) := by decide +kernel
theorem dX10_way_10 : decode cX10_way 10 = .ok (.invokevirtual 271, 3) := by decide +kernel
theorem dX10_way_13 : decode cX10_way 13 = .ok (.ifCond .ne 5, 3) := by decide +kernel
theorem dX10_way_16 : decode cX10_way 16 = .ok (.iconst (-1), 1) := by decide +kernel
theorem dX10_way_17 : decode cX10_way 17 = .ok (.ireturn, 1) := by decide +kernel
theorem dX10_way_18 : decode cX10_way 18 = .ok (.iload_n 1, 1) := by decide +kernel
theorem dX10_way_19 : decode cX10_way 19 = .ok (.iload_n 2, 1) := by decide +kernel
theorem dX10_way_20 : decode cX10_way 20 = .ok (.if_icmp .eq 14, 3) := by decide +kernel
theorem dX10_way_23 : decode cX10_way 23 = .ok (.aload_n 0, 1) := by decide +kernel
theorem dX10_way_24 : decode cX10_way 24 = .ok (.iload_n 3, 1) := by decide +kernel
theorem dX10_way_25 : decode cX10_way 25 = .ok (.iconst 0, 1) := by decide +kernel
theorem dX10_way_26 : decode cX10_way 26 = .ok (.bipush 9, 2) := by decide +kernel
theorem dX10_way_28 : decode cX10_way 28 = .ok (.invokevirtual 267, 3) := by decide +kernel
theorem dX10_way_31 : decode cX10_way 31 = .ok (.ifCond .ne 6, 3) := by decide +kernel
theorem dX10_way_34 : decode cX10_way 34 = .ok (.bipush (-2), 2) := by decide +kernel
theorem dX10_way_36 : decode cX10_way 36 = .ok (.ireturn, 1) := by decide +kernel
theorem dX10_way_37 : decode cX10_way 37 = .ok (.aload_n 0, 1) := by decide +kernel
theorem dX10_way_38 : decode cX10_way 38 = .ok (.getfield 47, 3) := by decide +kernel
theorem dX10_way_41 : decode cX10_way 41 = .ok (.bipush 6, 2) := by decide +kernel
theorem dX10_way_43 : decode cX10_way 43 = .ok (.iload_n 1, 1) := by decide +kernel
theorem dX10_way_44 : decode cX10_way 44 = .ok (.imul, 1) := by decide +kernel
theorem dX10_way_45 : decode cX10_way 45 = .ok (.iload_n 2, 1) := by decide +kernel
theorem dX10_way_46 : decode cX10_way 46 = .ok (.iadd, 1) := by decide +kernel
theorem dX10_way_47 : decode cX10_way 47 = .ok (.iaload, 1) := by decide +kernel
theorem dX10_way_48 : decode cX10_way 48 = .ok (.istore 4, 2) := by decide +kernel
theorem dX10_way_50 : decode cX10_way 50 = .ok (.aload_n 0, 1) := by decide +kernel
theorem dX10_way_51 : decode cX10_way 51 = .ok (.getfield 47, 3) := by decide +kernel
theorem dX10_way_54 : decode cX10_way 54 = .ok (.bipush 6, 2) := by decide +kernel
theorem dX10_way_56 : decode cX10_way 56 = .ok (.iload_n 1, 1) := by decide +kernel
theorem dX10_way_57 : decode cX10_way 57 = .ok (.imul, 1) := by decide +kernel
theorem dX10_way_58 : decode cX10_way 58 = .ok (.iload_n 2, 1) := by decide +kernel
theorem dX10_way_59 : decode cX10_way 59 = .ok (.iadd, 1) := by decide +kernel
theorem dX10_way_60 : decode cX10_way 60 = .ok (.iload_n 3, 1) := by decide +kernel
theorem dX10_way_61 : decode cX10_way 61 = .ok (.iastore, 1) := by decide +kernel
theorem dX10_way_62 : decode cX10_way 62 = .ok (.aload_n 0, 1) := by decide +kernel
theorem dX10_way_63 : decode cX10_way 63 = .ok (.getfield 47, 3) := by decide +kernel
theorem dX10_way_66 : decode cX10_way 66 = .ok (.bipush 6, 2) := by decide +kernel
theorem dX10_way_68 : decode cX10_way 68 = .ok (.iload_n 2, 1) := by decide +kernel
theorem dX10_way_69 : decode cX10_way 69 = .ok (.imul, 1) := by decide +kernel
theorem dX10_way_70 : decode cX10_way 70 = .ok (.iload_n 1, 1) := by decide +kernel
theorem dX10_way_71 : decode cX10_way 71 = .ok (.iadd, 1) := by decide +kernel
theorem dX10_way_72 : decode cX10_way 72 = .ok (.iload_n 3, 1) := by decide +kernel
theorem dX10_way_73 : decode cX10_way 73 = .ok (.iastore, 1) := by decide +kernel
theorem dX10_way_74 : decode cX10_way 74 = .ok (.iload 4, 2) := by decide +kernel
theorem dX10_way_76 : decode cX10_way 76 = .ok (.ireturn, 1) := by decide +kernel
def f_X10_way  (a0 : Int32) (a1 : Int32) (a2 : Int32) (u : PM) : Option (Int32 × PM) :=
  (f_X10_isHouse a0 u).bind fun r1 =>
  if r1 = 0 then
    some ((-1 : Int32), u)
  else
  (f_X10_isHouse a1 u).bind fun r3 =>
  if r3 = 0 then
    some ((-1 : Int32), u)
  else
  if a0 = a1 then
    some ((-2 : Int32), u)
  else
  (f_X10_in a2 (0 : Int32) (9 : Int32) u).bind fun r5 =>
  if r5 = 0 then
    some ((-2 : Int32), u)
  else
  if (((6 : Int32) * a0) + a1) < 0 ∨ 36 ≤ (((6 : Int32) * a0) + a1).toNatClampNeg then none else
  if (((6 : Int32) * a1) + a0) < 0 ∨ 36 ≤ (((6 : Int32) * a1) + a0).toNatClampNeg then none else
  some (u.1 (49, 0, 0) ((((6 : Int32) * a0) + a1).toNatClampNeg), (pi (pi u (49, 0, 0) ((((6 : Int32) * a0) + a1).toNatClampNeg) a2) (49, 0, 0) ((((6 : Int32) * a1) + a0).toNatClampNeg) a2))
set_option maxHeartbeats 4000000 in
set_option maxRecDepth 20000 in
theorem C_X10_way {l : Launch}  {a0 : Int32} {a1 : Int32} {a2 : Int32} {u : PM} {x : Int32 × PM} (hf : f_X10_way a0 a1 a2 u = some x) : Ev l mX10_way 3 0 0 false [vR (40, 0, 0), vI a0, vI a1, vI a2] kM (en u) (some (vI x.1), kM, en x.2) := by
  refine Ev_of (by decide +kernel) (le_b rfl) ?_
  unfold f_X10_way at hf
  show X l mX10_way 3 0 0 false _ kM 0 0 0 [some (vR (40, 0, 0)), some (vI a0), some (vI a1), some (vI a2), none] [] (en u)
  refine r_aload_n (x := (40, 0, 0)) dX10_way_0 rfl ?_
  refine r_iload_n (x := a0) dX10_way_1 rfl ?_
  obtain ⟨r1, hr2, hf⟩ := am_bind hf
  refine r_callV (as := [vI a0]) (st := []) (n := 1) mw_X10_271 mv_X10_isHouse (C_X10_isHouse (l := l) hr2) (le_b rfl) dX10_way_2 (kM_mem (s := 40) (by decide)) rfl rfl rfl (le_b rfl) (le_b rfl) (le_b rfl) ?_
  show X l _ _ 0 0 false _ kM 0 0 5 [some (vR (40, 0, 0)), some (vI a0), some (vI a1), some (vI a2), none] [vI r1] (en u)
  refine r_if_eq (tgt := 16) dX10_way_5 (by decide) (fun hc => ?_) (fun hc => ?_)
  · have hf := (am_if hf).1 hc
    refine r_iconst (v := -1) dX10_way_16 rfl ?_
    have hx := am_inj hf
    subst hx
    exact r_iret dX10_way_17 rfl rfl (le_b rfl) (le_b rfl)
  · have hf := (am_if hf).2 hc
    refine r_aload_n (x := (40, 0, 0)) dX10_way_8 rfl ?_
    refine r_iload_n (x := a1) dX10_way_9 rfl ?_
    obtain ⟨r3, hr4, hf⟩ := am_bind hf
    refine r_callV (as := [vI a1]) (st := []) (n := 1) mw_X10_271 mv_X10_isHouse (C_X10_isHouse (l := l) hr4) (le_b rfl) dX10_way_10 (kM_mem (s := 40) (by decide)) rfl rfl rfl (le_b rfl) (le_b rfl) (le_b rfl) ?_
    show X l _ _ 0 0 false _ kM 0 0 13 [some (vR (40, 0, 0)), some (vI a0), some (vI a1), some (vI a2), none] [vI r3] (en u)
    refine r_if_ne (tgt := 18) dX10_way_13 (by decide) (fun hc => ?_) (fun hc => ?_)
    · have hf := (am_if hf).2 hc
      refine r_iload_n (x := a0) dX10_way_18 rfl ?_
      refine r_iload_n (x := a1) dX10_way_19 rfl ?_
      refine r_icmp_eq (tgt := 34) dX10_way_20 (by decide) (fun hc => ?_) (fun hc => ?_)
      · have hf := (am_if hf).1 hc
        refine r_bipush (v := -2) dX10_way_34 rfl ?_
        have hx := am_inj hf
        subst hx
        exact r_iret dX10_way_36 rfl rfl (le_b rfl) (le_b rfl)
      · have hf := (am_if hf).2 hc
        refine r_aload_n (x := (40, 0, 0)) dX10_way_23 rfl ?_
        refine r_iload_n (x := a2) dX10_way_24 rfl ?_
        refine r_iconst (v := 0) dX10_way_25 rfl ?_
        refine r_bipush (v := 9) dX10_way_26 rfl ?_
        obtain ⟨r5, hr6, hf⟩ := am_bind hf
        refine r_callV (as := [vI a2, vI (0 : Int32), vI (9 : Int32)]) (st := []) (n := 3) mw_X10_267 mv_X10_in (C_X10_in (l := l) hr6) (le_b rfl) dX10_way_28 (kM_mem (s := 40) (by decide)) rfl rfl rfl (le_b rfl) (le_b rfl) (le_b rfl) ?_
        show X l _ _ 0 0 false _ kM 0 0 31 [some (vR (40, 0, 0)), some (vI a0), some (vI a1), some (vI a2), none] [vI r5] (en u)
        refine r_if_ne (tgt := 37) dX10_way_31 (by decide) (fun hc => ?_) (fun hc => ?_)
        · have hf := (am_if hf).2 hc
          refine r_aload_n (x := (40, 0, 0)) dX10_way_37 rfl ?_
          refine e_getr (z := some (49, 0, 0)) fw_X10_47 dX10_way_38 (kM_mem (s := 40) (by decide)) rfl (lt_b rfl) rfl ?_
          refine r_bipush (v := 6) dX10_way_41 rfl ?_
          refine r_iload_n (x := a0) dX10_way_43 rfl ?_
          refine r_imul dX10_way_44 ?_
          refine r_iload_n (x := a1) dX10_way_45 rfl ?_
          refine r_iadd dX10_way_46 ?_
          obtain ⟨h7, hf⟩ := am_nchk hf
          refine e_iald (n := (((6 : Int32) * a0) + a1).toNatClampNeg) dX10_way_47 (kM_mem (s := 49) (by decide)) rfl h7 rfl rfl ?_
          refine r_istore (L' := [some (vR (40, 0, 0)), some (vI a0), some (vI a1), some (vI a2), some (vI (u.1 (49, 0, 0) ((((6 : Int32) * a0) + a1).toNatClampNeg)))]) dX10_way_48 (by decide) rfl ?_
          refine r_aload_n (x := (40, 0, 0)) dX10_way_50 rfl ?_
          refine e_getr (z := some (49, 0, 0)) fw_X10_47 dX10_way_51 (kM_mem (s := 40) (by decide)) rfl (lt_b rfl) rfl ?_
          refine r_bipush (v := 6) dX10_way_54 rfl ?_
          refine r_iload_n (x := a0) dX10_way_56 rfl ?_
          refine r_imul dX10_way_57 ?_
          refine r_iload_n (x := a1) dX10_way_58 rfl ?_
          refine r_iadd dX10_way_59 ?_
          refine r_iload_n (x := a2) dX10_way_60 rfl ?_
          refine e_iast (n := (((6 : Int32) * a0) + a1).toNatClampNeg) dX10_way_61 (kM_mem (s := 49) (by decide)) rfl h7 rfl ?_
          refine r_aload_n (x := (40, 0, 0)) dX10_way_62 rfl ?_
          refine e_getr (z := some (49, 0, 0)) fw_X10_47 dX10_way_63 (kM_mem (s := 40) (by decide)) rfl (lt_b rfl) rfl ?_
          refine r_bipush (v := 6) dX10_way_66 rfl ?_
          refine r_iload_n (x := a1) dX10_way_68 rfl ?_
          refine r_imul dX10_way_69 ?_
          refine r_iload_n (x := a0) dX10_way_70 rfl ?_
          refine r_iadd dX10_way_71 ?_
          refine r_iload_n (x := a2) dX10_way_72 rfl ?_
          obtain ⟨h8, hf⟩ := am_nchk hf
          refine e_iast (n := (((6 : Int32) * a1) + a0).toNatClampNeg) dX10_way_73 (kM_mem (s := 49) (by decide)) rfl h8 rfl ?_
          refine r_iload (x := u.1 (49, 0, 0) ((((6 : Int32) * a0) + a1).toNatClampNeg)) dX10_way_74 rfl ?_
          have hx := am_inj hf
          subst hx
          exact r_iret dX10_way_76 rfl rfl (le_b rfl) (le_b rfl)
        · have hf := (am_if hf).1 hc
          refine r_bipush (v := -2) dX10_way_34 rfl ?_
          have hx := am_inj hf
          subst hx
          exact r_iret dX10_way_36 rfl rfl (le_b rfl) (le_b rfl)
    · have hf := (am_if hf).1 hc
      refine r_iconst (v := -1) dX10_way_16 rfl ?_
      have hx := am_inj hf
      subst hx
      exact r_iret dX10_way_17 rfl rfl (le_b rfl) (le_b rfl)
/-! FireFromFireModel.keeper -/
theorem dX10_keeper_0 : decode cX10_keeper 0 = .ok (.aload_n 0, 1) := by decide +kernel
theorem dX10_keeper_1 : decode cX10_keeper 1 = .ok (.iload_n 1, 1) := by decide +kernel
theorem dX10_keeper_2 : decode cX10_keeper 2 = .ok (.invokevirtual 271, 3) := by decide +kernel
theorem dX10_keeper_5 : decode cX10_keeper 5 = .ok (.ifCond .eq 14, 3) := by decide +kernel
theorem dX10_keeper_8 : decode cX10_keeper 8 = .ok (.aload_n 0, 1) := by decide +kernel
theorem dX10_keeper_9 : decode cX10_keeper 9 = .ok (.iload_n 2, 1) := by decide +kernel
theorem dX10_keeper_10 : decode cX10_keeper 10 = .ok (.iconst 0, 1) := by decide +kernel
theorem dX10_keeper_11 : decode cX10_keeper 11 = .ok (.bipush 6, 2) := by decide +kernel
theorem dX10_keeper_13 : decode cX10_keeper 13 = .ok (.invokevirtual 267, 3) := by decide +kernel
theorem dX10_keeper_16 : decode cX10_keeper 16 = .ok (.ifCond .ne 5, 3) := by decide +kernel
theorem dX10_keeper_19 : decode cX10_keeper 19 = .ok (.iconst (-1), 1) := by decide +kernel
theorem dX10_keeper_20 : decode cX10_keeper 20 = .ok (.ireturn, 1) := by decide +kernel
theorem dX10_keeper_21 : decode cX10_keeper 21 = .ok (.aload_n 0, 1) := by decide +kernel
theorem dX10_keeper_22 : decode cX10_keeper 22 = .ok (.iload_n 3, 1) := by decide +kernel
theorem dX10_keeper_23 : decode cX10_keeper 23 = .ok (.iconst 0, 1) := by decide +kernel
theorem dX10_keeper_24 : decode cX10_keeper 24 = .ok (.bipush 9, 2) := by decide +kernel
theorem dX10_keeper_26 : decode cX10_keeper 26 = .ok (.invokevirtual 267, 3) := by decide +kernel
theorem dX10_keeper_29 : decode cX10_keeper 29 = .ok (.ifCond .eq 16, 3) := by decide +kernel
theorem dX10_keeper_32 : decode cX10_keeper 32 = .ok (.aload_n 0, 1) := by decide +kernel
theorem dX10_keeper_33 : decode cX10_keeper 33 = .ok (.iload 4, 2) := by decide +kernel
theorem dX10_keeper_35 : decode cX10_keeper 35 = .ok (.iconst 0, 1) := by decide +kernel
theorem dX10_keeper_36 : decode cX10_keeper 36 = .ok (.ldc_w 279, 3) := by decide +kernel
theorem dX10_keeper_39 : decode cX10_keeper 39 = .ok (.invokevirtual 267, 3) := by decide +kernel
theorem dX10_keeper_42 : decode cX10_keeper 42 = .ok (.ifCond .ne 6, 3) := by decide +kernel
theorem dX10_keeper_45 : decode cX10_keeper 45 = .ok (.bipush (-2), 2) := by decide +kernel
theorem dX10_keeper_47 : decode cX10_keeper 47 = .ok (.ireturn, 1) := by decide +kernel
theorem dX10_keeper_48 : decode cX10_keeper 48 = .ok (.aload_n 0, 1) := by decide +kernel
theorem dX10_keeper_49 : decode cX10_keeper 49 = .ok (.getfield 26, 3) := by decide +kernel
theorem dX10_keeper_52 : decode cX10_keeper 52 = .ok (.iload_n 1, 1) := by decide +kernel
theorem dX10_keeper_53 : decode cX10_keeper 53 = .ok (.iaload, 1) := by decide +kernel
theorem dX10_keeper_54 : decode cX10_keeper 54 = .ok (.istore 5, 2) := by decide +kernel
theorem dX10_keeper_56 : decode cX10_keeper 56 = .ok (.aload_n 0, 1) := by decide +kernel
theorem dX10_keeper_57 : decode cX10_keeper 57 = .ok (.getfield 26, 3) := by decide +kernel
theorem dX10_keeper_60 : decode cX10_keeper 60 = .ok (.iload_n 1, 1) := by decide +kernel
theorem dX10_keeper_61 : decode cX10_keeper 61 = .ok (.iload_n 2, 1) := by decide +kernel
theorem dX10_keeper_62 : decode cX10_keeper 62 = .ok (.iastore, 1) := by decide +kernel
theorem dX10_keeper_63 : decode cX10_keeper 63 = .ok (.aload_n 0, 1) := by decide +kernel
theorem dX10_keeper_64 : decode cX10_keeper 64 = .ok (.getfield 29, 3) := by decide +kernel
theorem dX10_keeper_67 : decode cX10_keeper 67 = .ok (.iload_n 1, 1) := by decide +kernel
theorem dX10_keeper_68 : decode cX10_keeper 68 = .ok (.iload_n 3, 1) := by decide +kernel
theorem dX10_keeper_69 : decode cX10_keeper 69 = .ok (.iastore, 1) := by decide +kernel
theorem dX10_keeper_70 : decode cX10_keeper 70 = .ok (.aload_n 0, 1) := by decide +kernel
theorem dX10_keeper_71 : decode cX10_keeper 71 = .ok (.getfield 32, 3) := by decide +kernel
theorem dX10_keeper_74 : decode cX10_keeper 74 = .ok (.iload_n 1, 1) := by decide +kernel
theorem dX10_keeper_75 : decode cX10_keeper 75 = .ok (.iload 4, 2) := by decide +kernel
theorem dX10_keeper_77 : decode cX10_keeper 77 = .ok (.iastore, 1) := by decide +kernel
theorem dX10_keeper_78 : decode cX10_keeper 78 = .ok (.iload 5, 2) := by decide +kernel
theorem dX10_keeper_80 : decode cX10_keeper 80 = .ok (.ireturn, 1) := by decide +kernel
def f_X10_keeper  (a0 : Int32) (a1 : Int32) (a2 : Int32) (a3 : Int32) (u : PM) : Option (Int32 × PM) :=
  (f_X10_isHouse a0 u).bind fun r1 =>
  if r1 = 0 then
    some ((-1 : Int32), u)
  else
  (f_X10_in a1 (0 : Int32) (6 : Int32) u).bind fun r3 =>
  if r3 = 0 then
    some ((-1 : Int32), u)
  else
  (f_X10_in a2 (0 : Int32) (9 : Int32) u).bind fun r5 =>
  if r5 = 0 then
    some ((-2 : Int32), u)
  else
  (f_X10_in a3 (0 : Int32) (16777215 : Int32) u).bind fun r7 =>
  if r7 = 0 then
    some ((-2 : Int32), u)
  else
  if a0 < 0 ∨ 6 ≤ a0.toNatClampNeg then none else
  some (u.1 (42, 0, 0) a0.toNatClampNeg, (pi (pi (pi u (42, 0, 0) a0.toNatClampNeg a1) (43, 0, 0) a0.toNatClampNeg a2) (44, 0, 0) a0.toNatClampNeg a3))
set_option maxHeartbeats 4000000 in
set_option maxRecDepth 20000 in
theorem C_X10_keeper {l : Launch}  {a0 : Int32} {a1 : Int32} {a2 : Int32} {a3 : Int32} {u : PM} {x : Int32 × PM} (hf : f_X10_keeper a0 a1 a2 a3 u = some x) : Ev l mX10_keeper 3 0 0 false [vR (40, 0, 0), vI a0, vI a1, vI a2, vI a3] kM (en u) (some (vI x.1), kM, en x.2) := by
  refine Ev_of (by decide +kernel) (le_b rfl) ?_
  unfold f_X10_keeper at hf
  show X l mX10_keeper 3 0 0 false _ kM 0 0 0 [some (vR (40, 0, 0)), some (vI a0), some (vI a1), some (vI a2), some (vI a3), none] [] (en u)
  refine r_aload_n (x := (40, 0, 0)) dX10_keeper_0 rfl ?_
  refine r_iload_n (x := a0) dX10_keeper_1 rfl ?_
  obtain ⟨r1, hr2, hf⟩ := am_bind hf
  refine r_callV (as := [vI a0]) (st := []) (n := 1) mw_X10_271 mv_X10_isHouse (C_X10_isHouse (l := l) hr2) (le_b rfl) dX10_keeper_2 (kM_mem (s := 40) (by decide)) rfl rfl rfl (le_b rfl) (le_b rfl) (le_b rfl) ?_
  show X l _ _ 0 0 false _ kM 0 0 5 [some (vR (40, 0, 0)), some (vI a0), some (vI a1), some (vI a2), some (vI a3), none] [vI r1] (en u)
  refine r_if_eq (tgt := 19) dX10_keeper_5 (by decide) (fun hc => ?_) (fun hc => ?_)
  · have hf := (am_if hf).1 hc
    refine r_iconst (v := -1) dX10_keeper_19 rfl ?_
    have hx := am_inj hf
    subst hx
    exact r_iret dX10_keeper_20 rfl rfl (le_b rfl) (le_b rfl)
  · have hf := (am_if hf).2 hc
    refine r_aload_n (x := (40, 0, 0)) dX10_keeper_8 rfl ?_
    refine r_iload_n (x := a1) dX10_keeper_9 rfl ?_
    refine r_iconst (v := 0) dX10_keeper_10 rfl ?_
    refine r_bipush (v := 6) dX10_keeper_11 rfl ?_
    obtain ⟨r3, hr4, hf⟩ := am_bind hf
    refine r_callV (as := [vI a1, vI (0 : Int32), vI (6 : Int32)]) (st := []) (n := 3) mw_X10_267 mv_X10_in (C_X10_in (l := l) hr4) (le_b rfl) dX10_keeper_13 (kM_mem (s := 40) (by decide)) rfl rfl rfl (le_b rfl) (le_b rfl) (le_b rfl) ?_
    show X l _ _ 0 0 false _ kM 0 0 16 [some (vR (40, 0, 0)), some (vI a0), some (vI a1), some (vI a2), some (vI a3), none] [vI r3] (en u)
    refine r_if_ne (tgt := 21) dX10_keeper_16 (by decide) (fun hc => ?_) (fun hc => ?_)
    · have hf := (am_if hf).2 hc
      refine r_aload_n (x := (40, 0, 0)) dX10_keeper_21 rfl ?_
      refine r_iload_n (x := a2) dX10_keeper_22 rfl ?_
      refine r_iconst (v := 0) dX10_keeper_23 rfl ?_
      refine r_bipush (v := 9) dX10_keeper_24 rfl ?_
      obtain ⟨r5, hr6, hf⟩ := am_bind hf
      refine r_callV (as := [vI a2, vI (0 : Int32), vI (9 : Int32)]) (st := []) (n := 3) mw_X10_267 mv_X10_in (C_X10_in (l := l) hr6) (le_b rfl) dX10_keeper_26 (kM_mem (s := 40) (by decide)) rfl rfl rfl (le_b rfl) (le_b rfl) (le_b rfl) ?_
      show X l _ _ 0 0 false _ kM 0 0 29 [some (vR (40, 0, 0)), some (vI a0), some (vI a1), some (vI a2), some (vI a3), none] [vI r5] (en u)
      refine r_if_eq (tgt := 45) dX10_keeper_29 (by decide) (fun hc => ?_) (fun hc => ?_)
      · have hf := (am_if hf).1 hc
        refine r_bipush (v := -2) dX10_keeper_45 rfl ?_
        have hx := am_inj hf
        subst hx
        exact r_iret dX10_keeper_47 rfl rfl (le_b rfl) (le_b rfl)
      · have hf := (am_if hf).2 hc
        refine r_aload_n (x := (40, 0, 0)) dX10_keeper_32 rfl ?_
        refine r_iload (x := a3) dX10_keeper_33 rfl ?_
        refine r_iconst (v := 0) dX10_keeper_35 rfl ?_
        refine r_ldcw (v := 16777215) dX10_keeper_36 cc_X10_279 ?_
        obtain ⟨r7, hr8, hf⟩ := am_bind hf
        refine r_callV (as := [vI a3, vI (0 : Int32), vI (16777215 : Int32)]) (st := []) (n := 3) mw_X10_267 mv_X10_in (C_X10_in (l := l) hr8) (le_b rfl) dX10_keeper_39 (kM_mem (s := 40) (by decide)) rfl rfl rfl (le_b rfl) (le_b rfl) (le_b rfl) ?_
        show X l _ _ 0 0 false _ kM 0 0 42 [some (vR (40, 0, 0)), some (vI a0), some (vI a1), some (vI a2), some (vI a3), none] [vI r7] (en u)
        refine r_if_ne (tgt := 48) dX10_keeper_42 (by decide) (fun hc => ?_) (fun hc => ?_)
        · have hf := (am_if hf).2 hc
          refine r_aload_n (x := (40, 0, 0)) dX10_keeper_48 rfl ?_
          refine e_getr (z := some (42, 0, 0)) fw_X10_26 dX10_keeper_49 (kM_mem (s := 40) (by decide)) rfl (lt_b rfl) rfl ?_
          refine r_iload_n (x := a0) dX10_keeper_52 rfl ?_
          obtain ⟨h9, hf⟩ := am_nchk hf
          refine e_iald (n := a0.toNatClampNeg) dX10_keeper_53 (kM_mem (s := 42) (by decide)) rfl h9 rfl rfl ?_
          refine r_istore (L' := [some (vR (40, 0, 0)), some (vI a0), some (vI a1), some (vI a2), some (vI a3), some (vI (u.1 (42, 0, 0) a0.toNatClampNeg))]) dX10_keeper_54 (by decide) rfl ?_
          refine r_aload_n (x := (40, 0, 0)) dX10_keeper_56 rfl ?_
          refine e_getr (z := some (42, 0, 0)) fw_X10_26 dX10_keeper_57 (kM_mem (s := 40) (by decide)) rfl (lt_b rfl) rfl ?_
          refine r_iload_n (x := a0) dX10_keeper_60 rfl ?_
          refine r_iload_n (x := a1) dX10_keeper_61 rfl ?_
          refine e_iast (n := a0.toNatClampNeg) dX10_keeper_62 (kM_mem (s := 42) (by decide)) rfl h9 rfl ?_
          refine r_aload_n (x := (40, 0, 0)) dX10_keeper_63 rfl ?_
          refine e_getr (z := some (43, 0, 0)) fw_X10_29 dX10_keeper_64 (kM_mem (s := 40) (by decide)) rfl (lt_b rfl) rfl ?_
          refine r_iload_n (x := a0) dX10_keeper_67 rfl ?_
          refine r_iload_n (x := a2) dX10_keeper_68 rfl ?_
          refine e_iast (n := a0.toNatClampNeg) dX10_keeper_69 (kM_mem (s := 43) (by decide)) rfl h9 rfl ?_
          refine r_aload_n (x := (40, 0, 0)) dX10_keeper_70 rfl ?_
          refine e_getr (z := some (44, 0, 0)) fw_X10_32 dX10_keeper_71 (kM_mem (s := 40) (by decide)) rfl (lt_b rfl) rfl ?_
          refine r_iload_n (x := a0) dX10_keeper_74 rfl ?_
          refine r_iload (x := a3) dX10_keeper_75 rfl ?_
          refine e_iast (n := a0.toNatClampNeg) dX10_keeper_77 (kM_mem (s := 44) (by decide)) rfl h9 rfl ?_
          refine r_iload (x := u.1 (42, 0, 0) a0.toNatClampNeg) dX10_keeper_78 rfl ?_
          have hx := am_inj hf
          subst hx
          exact r_iret dX10_keeper_80 rfl rfl (le_b rfl) (le_b rfl)
        · have hf := (am_if hf).1 hc
          refine r_bipush (v := -2) dX10_keeper_45 rfl ?_
          have hx := am_inj hf
          subst hx
          exact r_iret dX10_keeper_47 rfl rfl (le_b rfl) (le_b rfl)
    · have hf := (am_if hf).1 hc
      refine r_iconst (v := -1) dX10_keeper_19 rfl ?_
      have hx := am_inj hf
      subst hx
      exact r_iret dX10_keeper_20 rfl rfl (le_b rfl) (le_b rfl)
/-! FireFromFireModel.feed -/
theorem dX10_feed_0 : decode cX10_feed 0 = .ok (.aload_n 0, 1) := by decide +kernel
theorem dX10_feed_1 : decode cX10_feed 1 = .ok (.iload_n 2, 1) := by decide +kernel
theorem dX10_feed_2 : decode cX10_feed 2 = .ok (.iconst 0, 1) := by decide +kernel
theorem dX10_feed_3 : decode cX10_feed 3 = .ok (.iconst 4, 1) := by decide +kernel
theorem dX10_feed_4 : decode cX10_feed 4 = .ok (.invokevirtual 267, 3) := by decide +kernel
theorem dX10_feed_7 : decode cX10_feed 7 = .ok (.ifCond .ne 6, 3) := by decide +kernel
theorem dX10_feed_10 : decode cX10_feed 10 = .ok (.bipush (-2), 2) := by decide +kernel
theorem dX10_feed_12 : decode cX10_feed 12 = .ok (.ireturn, 1) := by decide +kernel
theorem dX10_feed_13 : decode cX10_feed 13 = .ok (.aload_n 0, 1) := by decide +kernel
theorem dX10_feed_14 : decode cX10_feed 14 = .ok (.getfield 56, 3) := by decide +kernel
theorem dX10_feed_17 : decode cX10_feed 17 = .ok (.iload_n 2, 1) := by decide +kernel
theorem dX10_feed_18 : decode cX10_feed 18 = .ok (.iadd, 1) := by decide +kernel
theorem dX10_feed_19 : decode cX10_feed 19 = .ok (.bipush 100, 2) := by decide +kernel
theorem dX10_feed_21 : decode cX10_feed 21 = .ok (.if_icmp .le 6, 3) := by decide +kernel
theorem dX10_feed_24 : decode cX10_feed 24 = .ok (.bipush (-4), 2) := by decide +kernel
theorem dX10_feed_26 : decode cX10_feed 26 = .ok (.ireturn, 1) := by decide +kernel
theorem dX10_feed_27 : decode cX10_feed 27 = .ok (.iload_n 2, 1) := by decide +kernel
theorem dX10_feed_28 : decode cX10_feed 28 = .ok (.iconst 1, 1) := by decide +kernel
theorem dX10_feed_29 : decode cX10_feed 29 = .ok (.isub, 1) := by decide +kernel
theorem dX10_feed_30 : decode cX10_feed 30 = .ok (.istore_n 3, 1) := by decide +kernel
theorem dX10_feed_31 : decode cX10_feed 31 = .ok (.iload_n 3, 1) := by decide +kernel
theorem dX10_feed_32 : decode cX10_feed 32 = .ok (.ifCond .lt 35, 3) := by decide +kernel
theorem dX10_feed_35 : decode cX10_feed 35 = .ok (.aload_n 0, 1) := by decide +kernel
theorem dX10_feed_36 : decode cX10_feed 36 = .ok (.getfield 65, 3) := by decide +kernel
theorem dX10_feed_39 : decode cX10_feed 39 = .ok (.aload_n 0, 1) := by decide +kernel
theorem dX10_feed_40 : decode cX10_feed 40 = .ok (.getfield 56, 3) := by decide +kernel
theorem dX10_feed_43 : decode cX10_feed 43 = .ok (.iload_n 1, 1) := by decide +kernel
theorem dX10_feed_44 : decode cX10_feed 44 = .ok (.bipush 8, 2) := by decide +kernel
theorem dX10_feed_46 : decode cX10_feed 46 = .ok (.iload_n 3, 1) := by decide +kernel
theorem dX10_feed_47 : decode cX10_feed 47 = .ok (.imul, 1) := by decide +kernel
theorem dX10_feed_48 : decode cX10_feed 48 = .ok (.ishr, 1) := by decide +kernel
theorem dX10_feed_49 : decode cX10_feed 49 = .ok (.i2b, 1) := by decide +kernel
theorem dX10_feed_50 : decode cX10_feed 50 = .ok (.iastore, 1) := by decide +kernel
theorem dX10_feed_51 : decode cX10_feed 51 = .ok (.aload_n 0, 1) := by decide +kernel
theorem dX10_feed_52 : decode cX10_feed 52 = .ok (.dup, 1) := by decide +kernel
theorem dX10_feed_53 : decode cX10_feed 53 = .ok (.getfield 56, 3) := by decide +kernel
theorem dX10_feed_56 : decode cX10_feed 56 = .ok (.iconst 1, 1) := by decide +kernel
theorem dX10_feed_57 : decode cX10_feed 57 = .ok (.iadd, 1) := by decide +kernel
theorem dX10_feed_58 : decode cX10_feed 58 = .ok (.putfield 56, 3) := by decide +kernel
theorem dX10_feed_61 : decode cX10_feed 61 = .ok (.iinc 3 (-1), 3) := by decide +kernel
theorem dX10_feed_64 : decode cX10_feed 64 = .ok (.goto (-33), 3) := by decide +kernel
theorem dX10_feed_67 : decode cX10_feed 67 = .ok (.aload_n 0, 1) := by decide +kernel
theorem dX10_feed_68 : decode cX10_feed 68 = .ok (.getfield 56, 3) := by decide +kernel
theorem dX10_feed_71 : decode cX10_feed 71 = .ok (.ireturn, 1) := by decide +kernel
def f_X10_feed_L31  (c1 : Int32) : Int32 × PM → Option ((Int32 × PM) ⊕ (PM)) := fun (x3 , u) =>
  if x3 < 0 then
    some (.inr (u))
  else
  if (u.1 (40, 0, 0) 15) < 0 ∨ 100 ≤ (u.1 (40, 0, 0) 15).toNatClampNeg then none else
  some (.inl (x3 + (-1 : Int32), (pi (pi u (50, 0, 0) ((u.1 (40, 0, 0) 15).toNatClampNeg) ((c1 >>> (((8 : Int32) * x3) &&& 31)).toInt8.toInt32)) (40, 0, 0) 15 ((u.1 (40, 0, 0) 15) + (1 : Int32)))))
set_option maxHeartbeats 4000000 in
set_option maxRecDepth 20000 in
theorem K_X10_feed_L31 {l : Launch} {T : Option AV × List Key × AM}  {c1 : Int32} : ∀ (n : Nat) (s : Int32 × PM) (e0 : PM), am_loop (f_X10_feed_L31 c1) n s = some e0 → (fun e : PM => X l mX10_feed 2 0 0 false T kM 0 0 67 [some (vR (40, 0, 0)), none, none, none] [] (en e)) e0 → X l mX10_feed 2 0 0 false T kM 0 0 31 [some (vR (40, 0, 0)), some (vI c1), none, some (vI s.1)] [] (en s.2) := by
  refine am_loop_of ?_
  intro s x hf k1 k2
  obtain ⟨x3 , u⟩ := s
  unfold f_X10_feed_L31 at hf
  show X l mX10_feed 2 0 0 false T kM 0 0 31 [some (vR (40, 0, 0)), some (vI c1), none, some (vI x3)] [] (en u)
  refine r_iload_n (x := x3) dX10_feed_31 rfl ?_
  refine r_if_lt (tgt := 67) dX10_feed_32 (by decide) (fun hc => ?_) (fun hc => ?_)
  · have hf := (am_if hf).1 hc
    refine r_weak (L' := [some (vR (40, 0, 0)), none, none, none]) (And.intro rfl trivial) ?_
    exact k2 (u) (am_inj hf).symm
  · have hf := (am_if hf).2 hc
    refine r_aload_n (x := (40, 0, 0)) dX10_feed_35 rfl ?_
    refine e_getr (z := some (50, 0, 0)) fw_X10_65 dX10_feed_36 (kM_mem (s := 40) (by decide)) rfl (lt_b rfl) rfl ?_
    refine r_aload_n (x := (40, 0, 0)) dX10_feed_39 rfl ?_
    refine e_geti fw_X10_56 dX10_feed_40 (kM_mem (s := 40) (by decide)) rfl (lt_b rfl) ?_
    refine r_iload_n (x := c1) dX10_feed_43 rfl ?_
    refine r_bipush (v := 8) dX10_feed_44 rfl ?_
    refine r_iload_n (x := x3) dX10_feed_46 rfl ?_
    refine r_imul dX10_feed_47 ?_
    refine r_ishr dX10_feed_48 ?_
    refine r_i2b dX10_feed_49 ?_
    obtain ⟨h3, hf⟩ := am_nchk hf
    refine e_iast (n := (u.1 (40, 0, 0) 15).toNatClampNeg) dX10_feed_50 (kM_mem (s := 50) (by decide)) rfl h3 rfl ?_
    refine r_aload_n (x := (40, 0, 0)) dX10_feed_51 rfl ?_
    refine r_dup dX10_feed_52 rfl ?_
    refine e_geti_ (x := u.1 (40, 0, 0) 15) fw_X10_56 dX10_feed_53 (kM_mem (s := 40) (by decide)) rfl (lt_b rfl) (by simp [pi, pl, pr, pci, pcl]) ?_
    refine r_iconst (v := 1) dX10_feed_56 rfl ?_
    refine r_iadd dX10_feed_57 ?_
    refine e_puti fp_X10_56 dX10_feed_58 (kM_mem (s := 40) (by decide)) rfl (lt_b rfl) rfl rfl rfl ?_
    refine r_iinc (x := x3) (v := x3 + (-1 : Int32)) (L' := [some (vR (40, 0, 0)), some (vI c1), none, some (vI (x3 + (-1 : Int32)))]) dX10_feed_61 rfl rfl (lt_b rfl) rfl ?_
    refine r_goto (tgt := 31) dX10_feed_64 (by decide) ?_
    refine r_weak (L' := [some (vR (40, 0, 0)), some (vI c1), none, some (vI (x3 + (-1 : Int32)))]) (And.intro rfl (And.intro rfl (And.intro rfl trivial))) ?_
    exact k1 (x3 + (-1 : Int32), (pi (pi u (50, 0, 0) ((u.1 (40, 0, 0) 15).toNatClampNeg) ((c1 >>> (((8 : Int32) * x3) &&& 31)).toInt8.toInt32)) (40, 0, 0) 15 ((u.1 (40, 0, 0) 15) + (1 : Int32)))) (am_inj hf).symm
def f_X10_feed  (a0 : Int32) (a1 : Int32) (u : PM) : Option (Int32 × PM) :=
  (f_X10_in a1 (0 : Int32) (4 : Int32) u).bind fun r1 =>
  if r1 = 0 then
    some ((-2 : Int32), u)
  else
  if ((u.1 (40, 0, 0) 15) + a1) ≤ (100 : Int32) then
    (am_loop (f_X10_feed_L31 a0) 2000 (a1 - (1 : Int32), u)).bind fun u6 =>
    some (u6.1 (40, 0, 0) 15, u6)
  else
  some ((-4 : Int32), u)
set_option maxHeartbeats 4000000 in
set_option maxRecDepth 20000 in
theorem C_X10_feed {l : Launch}  {a0 : Int32} {a1 : Int32} {u : PM} {x : Int32 × PM} (hf : f_X10_feed a0 a1 u = some x) : Ev l mX10_feed 2 0 0 false [vR (40, 0, 0), vI a0, vI a1] kM (en u) (some (vI x.1), kM, en x.2) := by
  refine Ev_of (by decide +kernel) (le_b rfl) ?_
  unfold f_X10_feed at hf
  show X l mX10_feed 2 0 0 false _ kM 0 0 0 [some (vR (40, 0, 0)), some (vI a0), some (vI a1), none] [] (en u)
  refine r_aload_n (x := (40, 0, 0)) dX10_feed_0 rfl ?_
  refine r_iload_n (x := a1) dX10_feed_1 rfl ?_
  refine r_iconst (v := 0) dX10_feed_2 rfl ?_
  refine r_iconst (v := 4) dX10_feed_3 rfl ?_
  obtain ⟨r1, hr2, hf⟩ := am_bind hf
  refine r_callV (as := [vI a1, vI (0 : Int32), vI (4 : Int32)]) (st := []) (n := 3) mw_X10_267 mv_X10_in (C_X10_in (l := l) hr2) (le_b rfl) dX10_feed_4 (kM_mem (s := 40) (by decide)) rfl rfl rfl (le_b rfl) (le_b rfl) (le_b rfl) ?_
  show X l _ _ 0 0 false _ kM 0 0 7 [some (vR (40, 0, 0)), some (vI a0), some (vI a1), none] [vI r1] (en u)
  refine r_if_ne (tgt := 13) dX10_feed_7 (by decide) (fun hc => ?_) (fun hc => ?_)
  · have hf := (am_if hf).2 hc
    refine r_aload_n (x := (40, 0, 0)) dX10_feed_13 rfl ?_
    refine e_geti fw_X10_56 dX10_feed_14 (kM_mem (s := 40) (by decide)) rfl (lt_b rfl) ?_
    refine r_iload_n (x := a1) dX10_feed_17 rfl ?_
    refine r_iadd dX10_feed_18 ?_
    refine r_bipush (v := 100) dX10_feed_19 rfl ?_
    refine r_icmp_le (tgt := 27) dX10_feed_21 (by decide) (fun hc => ?_) (fun hc => ?_)
    · have hf := (am_if hf).1 hc
      refine r_iload_n (x := a1) dX10_feed_27 rfl ?_
      refine r_iconst (v := 1) dX10_feed_28 rfl ?_
      refine r_isub dX10_feed_29 ?_
      refine r_istore_n (L' := [some (vR (40, 0, 0)), some (vI a0), some (vI a1), some (vI (a1 - (1 : Int32)))]) dX10_feed_30 (by decide) rfl ?_
      refine r_weak (L' := [some (vR (40, 0, 0)), some (vI a0), none, some (vI (a1 - (1 : Int32)))]) (And.intro rfl (And.intro rfl (And.intro rfl trivial))) ?_
      obtain ⟨e4, he5, hf⟩ := am_bind hf
      refine K_X10_feed_L31  2000 (a1 - (1 : Int32), u) _ he5 ?_
      obtain ⟨u6, rfl⟩ : ∃ z, z = e4 := ⟨_, rfl⟩
      show X l _ _ 0 0 false _ kM 0 0 67 [some (vR (40, 0, 0)), none, none, none] [] (en u6)
      refine r_aload_n (x := (40, 0, 0)) dX10_feed_67 rfl ?_
      refine e_geti fw_X10_56 dX10_feed_68 (kM_mem (s := 40) (by decide)) rfl (lt_b rfl) ?_
      have hx := am_inj hf
      subst hx
      exact r_iret dX10_feed_71 rfl rfl (le_b rfl) (le_b rfl)
    · have hf := (am_if hf).2 hc
      refine r_bipush (v := -4) dX10_feed_24 rfl ?_
      have hx := am_inj hf
      subst hx
      exact r_iret dX10_feed_26 rfl rfl (le_b rfl) (le_b rfl)
  · have hf := (am_if hf).1 hc
    refine r_bipush (v := -2) dX10_feed_10 rfl ?_
    have hx := am_inj hf
    subst hx
    exact r_iret dX10_feed_12 rfl rfl (le_b rfl) (le_b rfl)
/-! FireFromFireModel.next -/
theorem dX10_next_0 : decode cX10_next 0 = .ok (.aload_n 0, 1) := by decide +kernel
theorem dX10_next_1 : decode cX10_next 1 = .ok (.getfield 59, 3) := by decide +kernel
theorem dX10_next_4 : decode cX10_next 4 = .ok (.aload_n 0, 1) := by decide +kernel
theorem dX10_next_5 : decode cX10_next 5 = .ok (.getfield 56, 3) := by decide +kernel
theorem dX10_next_8 : decode cX10_next 8 = .ok (.if_icmp .ge 15, 3) := by decide +kernel
theorem dX10_next_11 : decode cX10_next 11 = .ok (.aload_n 0, 1) := by decide +kernel
theorem dX10_next_12 : decode cX10_next 12 = .ok (.getfield 65, 3) := by decide +kernel
theorem dX10_next_15 : decode cX10_next 15 = .ok (.aload_n 0, 1) := by decide +kernel
theorem dX10_next_16 : decode cX10_next 16 = .ok (.getfield 59, 3) := by decide +kernel
theorem dX10_next_19 : decode cX10_next 19 = .ok (.iaload, 1) := by decide +kernel
theorem dX10_next_20 : decode cX10_next 20 = .ok (.goto 4, 3) := by decide +kernel
theorem dX10_next_23 : decode cX10_next 23 = .ok (.iconst (-1), 1) := by decide +kernel
theorem dX10_next_24 : decode cX10_next 24 = .ok (.ireturn, 1) := by decide +kernel
def f_X10_next   (u : PM) : Option (Int32) :=
  if (u.1 (40, 0, 0) 15) ≤ (u.1 (40, 0, 0) 16) then
    some (-1 : Int32)
  else
  if (u.1 (40, 0, 0) 16) < 0 ∨ 100 ≤ (u.1 (40, 0, 0) 16).toNatClampNeg then none else
  some (u.1 (50, 0, 0) ((u.1 (40, 0, 0) 16).toNatClampNeg))
set_option maxHeartbeats 4000000 in
set_option maxRecDepth 20000 in
theorem C_X10_next {l : Launch}   {u : PM} {x : Int32} (hf : f_X10_next u = some x) : Ev l mX10_next 1 0 0 false [vR (40, 0, 0)] kM (en u) (some (vI x), kM, en u) := by
  refine Ev_of (by decide +kernel) (le_b rfl) ?_
  unfold f_X10_next at hf
  show X l mX10_next 1 0 0 false _ kM 0 0 0 [some (vR (40, 0, 0))] [] (en u)
  refine r_aload_n (x := (40, 0, 0)) dX10_next_0 rfl ?_
  refine e_geti fw_X10_59 dX10_next_1 (kM_mem (s := 40) (by decide)) rfl (lt_b rfl) ?_
  refine r_aload_n (x := (40, 0, 0)) dX10_next_4 rfl ?_
  refine e_geti fw_X10_56 dX10_next_5 (kM_mem (s := 40) (by decide)) rfl (lt_b rfl) ?_
  refine r_icmp_ge (tgt := 23) dX10_next_8 (by decide) (fun hc => ?_) (fun hc => ?_)
  · have hf := (am_if hf).1 hc
    refine r_iconst (v := -1) dX10_next_23 rfl ?_
    have hx := am_inj hf
    subst hx
    exact r_iret dX10_next_24 rfl rfl (le_b rfl) (le_b rfl)
  · have hf := (am_if hf).2 hc
    refine r_aload_n (x := (40, 0, 0)) dX10_next_11 rfl ?_
    refine e_getr (z := some (50, 0, 0)) fw_X10_65 dX10_next_12 (kM_mem (s := 40) (by decide)) rfl (lt_b rfl) rfl ?_
    refine r_aload_n (x := (40, 0, 0)) dX10_next_15 rfl ?_
    refine e_geti fw_X10_59 dX10_next_16 (kM_mem (s := 40) (by decide)) rfl (lt_b rfl) ?_
    obtain ⟨h1, hf⟩ := am_nchk hf
    refine e_iald (n := (u.1 (40, 0, 0) 16).toNatClampNeg) dX10_next_19 (kM_mem (s := 50) (by decide)) rfl h1 rfl rfl ?_
    refine r_goto (tgt := 24) dX10_next_20 (by decide) ?_
    have hx := am_inj hf
    subst hx
    exact r_iret dX10_next_24 rfl rfl (le_b rfl) (le_b rfl)
/-! FireFromFireModel.takesSign -/
theorem dX10_takesSign_0 : decode cX10_takesSign 0 = .ok (.aload_n 0, 1) := by decide +kernel
theorem dX10_takesSign_1 : decode cX10_takesSign 1 = .ok (.invokevirtual 280, 3) := by decide +kernel
theorem dX10_takesSign_4 : decode cX10_takesSign 4 = .ok (.iload_n 1, 1) := by decide +kernel
theorem dX10_takesSign_5 : decode cX10_takesSign 5 = .ok (.if_icmp .eq 5, 3) := by decide +kernel
theorem dX10_takesSign_8 : decode cX10_takesSign 8 = .ok (.iconst 0, 1) := by decide +kernel
theorem dX10_takesSign_9 : decode cX10_takesSign 9 = .ok (.ireturn, 1) := by decide +kernel
theorem dX10_takesSign_10 : decode cX10_takesSign 10 = .ok (.aload_n 0, 1) := by decide +kernel
theorem dX10_takesSign_11 : decode cX10_takesSign 11 = .ok (.dup, 1) := by decide +kernel
theorem dX10_takesSign_12 : decode cX10_takesSign 12 = .ok (.getfield 59, 3) := by decide +kernel
theorem dX10_takesSign_15 : decode cX10_takesSign 15 = .ok (.iconst 1, 1) := by decide +kernel
theorem dX10_takesSign_16 : decode cX10_takesSign 16 = .ok (.iadd, 1) := by decide +kernel
theorem dX10_takesSign_17 : decode cX10_takesSign 17 = .ok (.putfield 59, 3) := by decide +kernel
theorem dX10_takesSign_20 : decode cX10_takesSign 20 = .ok (.iconst 1, 1) := by decide +kernel
theorem dX10_takesSign_21 : decode cX10_takesSign 21 = .ok (.ireturn, 1) := by decide +kernel
def f_X10_takesSign  (a0 : Int32) (u : PM) : Option (Int32 × PM) :=
  (f_X10_next u).bind fun r1 =>
  if r1 = a0 then
    some ((1 : Int32), (pi u (40, 0, 0) 16 ((u.1 (40, 0, 0) 16) + (1 : Int32))))
  else
  some ((0 : Int32), u)
set_option maxHeartbeats 4000000 in
set_option maxRecDepth 20000 in
theorem C_X10_takesSign {l : Launch}  {a0 : Int32} {u : PM} {x : Int32 × PM} (hf : f_X10_takesSign a0 u = some x) : Ev l mX10_takesSign 2 0 0 false [vR (40, 0, 0), vI a0] kM (en u) (some (vI x.1), kM, en x.2) := by
  refine Ev_of (by decide +kernel) (le_b rfl) ?_
  unfold f_X10_takesSign at hf
  show X l mX10_takesSign 2 0 0 false _ kM 0 0 0 [some (vR (40, 0, 0)), some (vI a0)] [] (en u)
  refine r_aload_n (x := (40, 0, 0)) dX10_takesSign_0 rfl ?_
  obtain ⟨r1, hr2, hf⟩ := am_bind hf
  refine r_callV (as := []) (st := []) (n := 0) mw_X10_280 mv_X10_next (C_X10_next (l := l) hr2) (le_b rfl) dX10_takesSign_1 (kM_mem (s := 40) (by decide)) rfl rfl rfl (le_b rfl) (le_b rfl) (le_b rfl) ?_
  show X l _ _ 0 0 false _ kM 0 0 4 [some (vR (40, 0, 0)), some (vI a0)] [vI r1] (en u)
  refine r_iload_n (x := a0) dX10_takesSign_4 rfl ?_
  refine r_icmp_eq (tgt := 10) dX10_takesSign_5 (by decide) (fun hc => ?_) (fun hc => ?_)
  · have hf := (am_if hf).1 hc
    refine r_aload_n (x := (40, 0, 0)) dX10_takesSign_10 rfl ?_
    refine r_dup dX10_takesSign_11 rfl ?_
    refine e_geti fw_X10_59 dX10_takesSign_12 (kM_mem (s := 40) (by decide)) rfl (lt_b rfl) ?_
    refine r_iconst (v := 1) dX10_takesSign_15 rfl ?_
    refine r_iadd dX10_takesSign_16 ?_
    refine e_puti fp_X10_59 dX10_takesSign_17 (kM_mem (s := 40) (by decide)) rfl (lt_b rfl) rfl rfl rfl ?_
    refine r_iconst (v := 1) dX10_takesSign_20 rfl ?_
    have hx := am_inj hf
    subst hx
    exact r_iret dX10_takesSign_21 rfl (am_bool (x := 1) (by decide)).1 (le_b rfl) (le_b rfl)
  · have hf := (am_if hf).2 hc
    refine r_iconst (v := 0) dX10_takesSign_8 rfl ?_
    have hx := am_inj hf
    subst hx
    exact r_iret dX10_takesSign_9 rfl (am_bool (x := 0) (by decide)).1 (le_b rfl) (le_b rfl)
/-! FireFromFireModel.takesWord -/
theorem dX10_takesWord_0 : decode cX10_takesWord 0 = .ok (.iconst 0, 1) := by decide +kernel
theorem dX10_takesWord_1 : decode cX10_takesWord 1 = .ok (.istore_n 3, 1) := by decide +kernel
theorem dX10_takesWord_2 : decode cX10_takesWord 2 = .ok (.iload_n 3, 1) := by decide +kernel
theorem dX10_takesWord_3 : decode cX10_takesWord 3 = .ok (.iload_n 2, 1) := by decide +kernel
theorem dX10_takesWord_4 : decode cX10_takesWord 4 = .ok (.if_icmp .ge 26, 3) := by decide +kernel
theorem dX10_takesWord_7 : decode cX10_takesWord 7 = .ok (.aload_n 0, 1) := by decide +kernel
theorem dX10_takesWord_8 : decode cX10_takesWord 8 = .ok (.aload_n 0, 1) := by decide +kernel
theorem dX10_takesWord_9 : decode cX10_takesWord 9 = .ok (.getfield 101, 3) := by decide +kernel
theorem dX10_takesWord_12 : decode cX10_takesWord 12 = .ok (.iload_n 1, 1) := by decide +kernel
theorem dX10_takesWord_13 : decode cX10_takesWord 13 = .ok (.iload_n 3, 1) := by decide +kernel
theorem dX10_takesWord_14 : decode cX10_takesWord 14 = .ok (.iadd, 1) := by decide +kernel
theorem dX10_takesWord_15 : decode cX10_takesWord 15 = .ok (.iaload, 1) := by decide +kernel
theorem dX10_takesWord_16 : decode cX10_takesWord 16 = .ok (.invokevirtual 284, 3) := by decide +kernel
theorem dX10_takesWord_19 : decode cX10_takesWord 19 = .ok (.ifCond .ne 5, 3) := by decide +kernel
theorem dX10_takesWord_22 : decode cX10_takesWord 22 = .ok (.iconst 0, 1) := by decide +kernel
theorem dX10_takesWord_23 : decode cX10_takesWord 23 = .ok (.ireturn, 1) := by decide +kernel
theorem dX10_takesWord_24 : decode cX10_takesWord 24 = .ok (.iinc 3 1, 3) := by decide +kernel
theorem dX10_takesWord_27 : decode cX10_takesWord 27 = .ok (.goto (-25), 3) := by decide +kernel
theorem dX10_takesWord_30 : decode cX10_takesWord 30 = .ok (.aload_n 0, 1) := by decide +kernel
theorem dX10_takesWord_31 : decode cX10_takesWord 31 = .ok (.bipush 32, 2) := by decide +kernel
theorem dX10_takesWord_33 : decode cX10_takesWord 33 = .ok (.invokevirtual 284, 3) := by decide +kernel
theorem dX10_takesWord_36 : decode cX10_takesWord 36 = .ok (.ireturn, 1) := by decide +kernel
def f_X10_takesWord_L2  (c1 : Int32) (c2 : Int32) : Int32 × PM → Option ((Int32 × PM) ⊕ ((Int32 × PM) ⊕ (PM))) := fun (x3 , u) =>
  if c2 ≤ x3 then
    some (.inr (.inr (u)))
  else
  if (c1 + x3) < 0 ∨ 19 ≤ (c1 + x3).toNatClampNeg then none else
  (f_X10_takesSign (u.1 (59, 0, 0) ((c1 + x3).toNatClampNeg)) u).bind fun (r2, u4) =>
  if r2 = 0 then
    some (.inr (.inl ((0 : Int32), u4)))
  else
  some (.inl (x3 + (1 : Int32), u4))
set_option maxHeartbeats 4000000 in
set_option maxRecDepth 20000 in
theorem K_X10_takesWord_L2 {l : Launch} {T : Option AV × List Key × AM}  {c1 : Int32} {c2 : Int32} : ∀ (n : Nat) (s : Int32 × PM) (e0 : (Int32 × PM) ⊕ (PM)), am_loop (f_X10_takesWord_L2 c1 c2) n s = some e0 → Sum.elim (fun r : Int32 × PM => T = (some (vI r.1), kM, en r.2)) (fun e : PM => X l mX10_takesWord 3 0 0 false T kM 0 0 30 [some (vR (40, 0, 0)), none, none, none] [] (en e)) e0 → X l mX10_takesWord 3 0 0 false T kM 0 0 2 [some (vR (40, 0, 0)), some (vI c1), some (vI c2), some (vI s.1)] [] (en s.2) := by
  refine am_loop_of ?_
  intro s x hf k1 k2
  obtain ⟨x3 , u⟩ := s
  unfold f_X10_takesWord_L2 at hf
  show X l mX10_takesWord 3 0 0 false T kM 0 0 2 [some (vR (40, 0, 0)), some (vI c1), some (vI c2), some (vI x3)] [] (en u)
  refine r_iload_n (x := x3) dX10_takesWord_2 rfl ?_
  refine r_iload_n (x := c2) dX10_takesWord_3 rfl ?_
  refine r_icmp_ge (tgt := 30) dX10_takesWord_4 (by decide) (fun hc => ?_) (fun hc => ?_)
  · have hf := (am_if hf).1 hc
    refine r_weak (L' := [some (vR (40, 0, 0)), none, none, none]) (And.intro rfl trivial) ?_
    exact k2 (.inr (u)) (am_inj hf).symm
  · have hf := (am_if hf).2 hc
    refine r_aload_n (x := (40, 0, 0)) dX10_takesWord_7 rfl ?_
    refine r_aload_n (x := (40, 0, 0)) dX10_takesWord_8 rfl ?_
    refine e_getr (z := some (59, 0, 0)) fw_X10_101 dX10_takesWord_9 (kM_mem (s := 40) (by decide)) rfl (lt_b rfl) rfl ?_
    refine r_iload_n (x := c1) dX10_takesWord_12 rfl ?_
    refine r_iload_n (x := x3) dX10_takesWord_13 rfl ?_
    refine r_iadd dX10_takesWord_14 ?_
    obtain ⟨h1, hf⟩ := am_nchk hf
    refine e_iald (n := (c1 + x3).toNatClampNeg) dX10_takesWord_15 (kM_mem (s := 59) (by decide)) rfl h1 rfl rfl ?_
    obtain ⟨⟨r2, u4⟩, hr3, hf⟩ := am_bind hf
    refine r_callV (as := [vI (u.1 (59, 0, 0) ((c1 + x3).toNatClampNeg))]) (st := []) (n := 1) mw_X10_284 mv_X10_takesSign (C_X10_takesSign (l := l) hr3) (le_b rfl) dX10_takesWord_16 (kM_mem (s := 40) (by decide)) rfl rfl rfl (le_b rfl) (le_b rfl) (le_b rfl) ?_
    show X l _ _ 0 0 false _ kM 0 0 19 [some (vR (40, 0, 0)), some (vI c1), some (vI c2), some (vI x3)] [vI r2] (en u4)
    refine r_if_ne (tgt := 24) dX10_takesWord_19 (by decide) (fun hc => ?_) (fun hc => ?_)
    · have hf := (am_if hf).2 hc
      refine r_iinc (x := x3) (v := x3 + (1 : Int32)) (L' := [some (vR (40, 0, 0)), some (vI c1), some (vI c2), some (vI (x3 + (1 : Int32)))]) dX10_takesWord_24 rfl rfl (lt_b rfl) rfl ?_
      refine r_goto (tgt := 2) dX10_takesWord_27 (by decide) ?_
      refine r_weak (L' := [some (vR (40, 0, 0)), some (vI c1), some (vI c2), some (vI (x3 + (1 : Int32)))]) (And.intro rfl (And.intro rfl (And.intro rfl (And.intro rfl trivial)))) ?_
      exact k1 (x3 + (1 : Int32), u4) (am_inj hf).symm
    · have hf := (am_if hf).1 hc
      refine r_iconst (v := 0) dX10_takesWord_22 rfl ?_
      have hT := k2 _ (am_inj hf).symm
      replace hT : T = (some (vI (0 : Int32)), kM, en u4) := hT
      subst hT
      exact r_iret dX10_takesWord_23 rfl (am_bool (x := 0) (by decide)).1 (le_b rfl) (le_b rfl)
def f_X10_takesWord  (a0 : Int32) (a1 : Int32) (u : PM) : Option (Int32 × PM) :=
  (am_loop (f_X10_takesWord_L2 a0 a1) 2000 ((0 : Int32), u)).bind fun e5 =>
  match e5 with
  | .inl q12 => some q12
  | .inr u7 =>
    (f_X10_takesSign (32 : Int32) u7).bind fun (r8, u10) =>
    if r8 = 0 ∨ r8 = 1 then
      some (r8, u10)
    else none
set_option maxHeartbeats 4000000 in
set_option maxRecDepth 20000 in
theorem C_X10_takesWord {l : Launch}  {a0 : Int32} {a1 : Int32} {u : PM} {x : Int32 × PM} (hf : f_X10_takesWord a0 a1 u = some x) : Ev l mX10_takesWord 3 0 0 false [vR (40, 0, 0), vI a0, vI a1] kM (en u) (some (vI x.1), kM, en x.2) := by
  refine Ev_of (by decide +kernel) (le_b rfl) ?_
  unfold f_X10_takesWord at hf
  show X l mX10_takesWord 3 0 0 false _ kM 0 0 0 [some (vR (40, 0, 0)), some (vI a0), some (vI a1), none] [] (en u)
  refine r_iconst (v := 0) dX10_takesWord_0 rfl ?_
  refine r_istore_n (L' := [some (vR (40, 0, 0)), some (vI a0), some (vI a1), some (vI (0 : Int32))]) dX10_takesWord_1 (by decide) rfl ?_
  refine r_weak (L' := [some (vR (40, 0, 0)), some (vI a0), some (vI a1), some (vI (0 : Int32))]) (And.intro rfl (And.intro rfl (And.intro rfl (And.intro rfl trivial)))) ?_
  obtain ⟨e5, he6, hf⟩ := am_bind hf
  refine K_X10_takesWord_L2  2000 ((0 : Int32), u) _ he6 ?_
  rcases e5 with q12 | e5
  · have hx := am_inj hf
    subst hx
    rfl
  · obtain ⟨u7, rfl⟩ : ∃ z, z = e5 := ⟨_, rfl⟩
    show X l _ _ 0 0 false _ kM 0 0 30 [some (vR (40, 0, 0)), none, none, none] [] (en u7)
    refine r_aload_n (x := (40, 0, 0)) dX10_takesWord_30 rfl ?_
    refine r_bipush (v := 32) dX10_takesWord_31 rfl ?_
    obtain ⟨⟨r8, u10⟩, hr9, hf⟩ := am_bind hf
    refine r_callV (as := [vI (32 : Int32)]) (st := []) (n := 1) mw_X10_284 mv_X10_takesSign (C_X10_takesSign (l := l) hr9) (le_b rfl) dX10_takesWord_33 (kM_mem (s := 40) (by decide)) rfl rfl rfl (le_b rfl) (le_b rfl) (le_b rfl) ?_
    show X l _ _ 0 0 false _ kM 0 0 36 [some (vR (40, 0, 0)), none, none, none] [vI r8] (en u10)
    obtain ⟨h11, hf⟩ := am_chk hf
    have hx := am_inj hf
    subst hx
    exact r_iret dX10_takesWord_36 rfl (am_bool h11).1 (le_b rfl) (le_b rfl)
/-! FireFromFireModel.isDigit -/
theorem dX10_isDigit_0 : decode cX10_isDigit 0 = .ok (.aload_n 0, 1) := by decide +kernel
theorem dX10_isDigit_1 : decode cX10_isDigit 1 = .ok (.aload_n 0, 1) := by decide +kernel
theorem dX10_isDigit_2 : decode cX10_isDigit 2 = .ok (.invokevirtual 280, 3) := by decide +kernel
theorem dX10_isDigit_5 : decode cX10_isDigit 5 = .ok (.bipush 48, 2) := by decide +kernel
theorem dX10_isDigit_7 : decode cX10_isDigit 7 = .ok (.bipush 57, 2) := by decide +kernel
theorem dX10_isDigit_9 : decode cX10_isDigit 9 = .ok (.invokevirtual 267, 3) := by decide +kernel
theorem dX10_isDigit_12 : decode cX10_isDigit 12 = .ok (.ireturn, 1) := by decide +kernel
def f_X10_isDigit   (u : PM) : Option (Int32) :=
  (f_X10_next u).bind fun r1 =>
  (f_X10_in r1 (48 : Int32) (57 : Int32) u).bind fun r3 =>
  if r3 = 0 ∨ r3 = 1 then
    some r3
  else none
set_option maxHeartbeats 4000000 in
set_option maxRecDepth 20000 in
theorem C_X10_isDigit {l : Launch}   {u : PM} {x : Int32} (hf : f_X10_isDigit u = some x) : Ev l mX10_isDigit 2 0 0 false [vR (40, 0, 0)] kM (en u) (some (vI x), kM, en u) := by
  refine Ev_of (by decide +kernel) (le_b rfl) ?_
  unfold f_X10_isDigit at hf
  show X l mX10_isDigit 2 0 0 false _ kM 0 0 0 [some (vR (40, 0, 0))] [] (en u)
  refine r_aload_n (x := (40, 0, 0)) dX10_isDigit_0 rfl ?_
  refine r_aload_n (x := (40, 0, 0)) dX10_isDigit_1 rfl ?_
  obtain ⟨r1, hr2, hf⟩ := am_bind hf
  refine r_callV (as := []) (st := [vR (40, 0, 0)]) (n := 0) mw_X10_280 mv_X10_next (C_X10_next (l := l) hr2) (le_b rfl) dX10_isDigit_2 (kM_mem (s := 40) (by decide)) rfl rfl rfl (le_b rfl) (le_b rfl) (le_b rfl) ?_
  show X l _ _ 0 0 false _ kM 0 0 5 [some (vR (40, 0, 0))] [vI r1, vR (40, 0, 0)] (en u)
  refine r_bipush (v := 48) dX10_isDigit_5 rfl ?_
  refine r_bipush (v := 57) dX10_isDigit_7 rfl ?_
  obtain ⟨r3, hr4, hf⟩ := am_bind hf
  refine r_callV (as := [vI r1, vI (48 : Int32), vI (57 : Int32)]) (st := []) (n := 3) mw_X10_267 mv_X10_in (C_X10_in (l := l) hr4) (le_b rfl) dX10_isDigit_9 (kM_mem (s := 40) (by decide)) rfl rfl rfl (le_b rfl) (le_b rfl) (le_b rfl) ?_
  show X l _ _ 0 0 false _ kM 0 0 12 [some (vR (40, 0, 0))] [vI r3] (en u)
  obtain ⟨h5, hf⟩ := am_chk hf
  have hx := am_inj hf
  subst hx
  exact r_iret dX10_isDigit_12 rfl (am_bool h5).1 (le_b rfl) (le_b rfl)
/-! FireFromFireModel.takesNumber -/
theorem dX10_takesNumber_0 : decode cX10_takesNumber 0 = .ok (.aload_n 0, 1) := by decide +kernel
theorem dX10_takesNumber_1 : decode cX10_takesNumber 1 = .ok (.invokevirtual 287, 3) := by decide +kernel
theorem dX10_takesNumber_4 : decode cX10_takesNumber 4 = .ok (.ifCond .ne 5, 3) := by decide +kernel
theorem dX10_takesNumber_7 : decode cX10_takesNumber 7 = .ok (.iconst 0, 1) := by decide +kernel
theorem dX10_takesNumber_8 : decode cX10_takesNumber 8 = .ok (.ireturn, 1) := by decide +kernel
theorem dX10_takesNumber_9 : decode cX10_takesNumber 9 = .ok (.aload_n 0, 1) := by decide +kernel
theorem dX10_takesNumber_10 : decode cX10_takesNumber 10 = .ok (.iconst 0, 1) := by decide +kernel
theorem dX10_takesNumber_11 : decode cX10_takesNumber 11 = .ok (.putfield 62, 3) := by decide +kernel
theorem dX10_takesNumber_14 : decode cX10_takesNumber 14 = .ok (.iconst 0, 1) := by decide +kernel
theorem dX10_takesNumber_15 : decode cX10_takesNumber 15 = .ok (.istore_n 1, 1) := by decide +kernel
theorem dX10_takesNumber_16 : decode cX10_takesNumber 16 = .ok (.iload_n 1, 1) := by decide +kernel
theorem dX10_takesNumber_17 : decode cX10_takesNumber 17 = .ok (.iconst 2, 1) := by decide +kernel
theorem dX10_takesNumber_18 : decode cX10_takesNumber 18 = .ok (.if_icmp .ge 45, 3) := by decide +kernel
theorem dX10_takesNumber_21 : decode cX10_takesNumber 21 = .ok (.aload_n 0, 1) := by decide +kernel
theorem dX10_takesNumber_22 : decode cX10_takesNumber 22 = .ok (.invokevirtual 287, 3) := by decide +kernel
theorem dX10_takesNumber_25 : decode cX10_takesNumber 25 = .ok (.ifCond .eq 38, 3) := by decide +kernel
theorem dX10_takesNumber_28 : decode cX10_takesNumber 28 = .ok (.aload_n 0, 1) := by decide +kernel
theorem dX10_takesNumber_29 : decode cX10_takesNumber 29 = .ok (.bipush 10, 2) := by decide +kernel
theorem dX10_takesNumber_31 : decode cX10_takesNumber 31 = .ok (.aload_n 0, 1) := by decide +kernel
theorem dX10_takesNumber_32 : decode cX10_takesNumber 32 = .ok (.getfield 62, 3) := by decide +kernel
theorem dX10_takesNumber_35 : decode cX10_takesNumber 35 = .ok (.imul, 1) := by decide +kernel
theorem dX10_takesNumber_36 : decode cX10_takesNumber 36 = .ok (.aload_n 0, 1) := by decide +kernel
theorem dX10_takesNumber_37 : decode cX10_takesNumber 37 = .ok (.invokevirtual 280, 3) := by decide +kernel
theorem dX10_takesNumber_40 : decode cX10_takesNumber 40 = .ok (.iadd, 1) := by decide +kernel
theorem dX10_takesNumber_41 : decode cX10_takesNumber 41 = .ok (.bipush 48, 2) := by decide +kernel
theorem dX10_takesNumber_43 : decode cX10_takesNumber 43 = .ok (.isub, 1) := by decide +kernel
theorem dX10_takesNumber_44 : decode cX10_takesNumber 44 = .ok (.putfield 62, 3) := by decide +kernel
theorem dX10_takesNumber_47 : decode cX10_takesNumber 47 = .ok (.aload_n 0, 1) := by decide +kernel
theorem dX10_takesNumber_48 : decode cX10_takesNumber 48 = .ok (.dup, 1) := by decide +kernel
theorem dX10_takesNumber_49 : decode cX10_takesNumber 49 = .ok (.getfield 59, 3) := by decide +kernel
theorem dX10_takesNumber_52 : decode cX10_takesNumber 52 = .ok (.iconst 1, 1) := by decide +kernel
theorem dX10_takesNumber_53 : decode cX10_takesNumber 53 = .ok (.iadd, 1) := by decide +kernel
theorem dX10_takesNumber_54 : decode cX10_takesNumber 54 = .ok (.putfield 59, 3) := by decide +kernel
theorem dX10_takesNumber_57 : decode cX10_takesNumber 57 = .ok (.iinc 1 1, 3) := by decide +kernel
theorem dX10_takesNumber_60 : decode cX10_takesNumber 60 = .ok (.goto (-44), 3) := by decide +kernel
theorem dX10_takesNumber_63 : decode cX10_takesNumber 63 = .ok (.iconst 1, 1) := by decide +kernel
theorem dX10_takesNumber_64 : decode cX10_takesNumber 64 = .ok (.ireturn, 1) := by decide +kernel
def f_X10_takesNumber_L16   : Int32 × PM → Option ((Int32 × PM) ⊕ (PM)) := fun (x1 , u) =>
  if (2 : Int32) ≤ x1 then
    some (.inr (u))
  else
  (f_X10_isDigit u).bind fun r3 =>
  if r3 = 0 then
    some (.inr (u))
  else
  (f_X10_next u).bind fun r5 =>
  some (.inl (x1 + (1 : Int32), (pi (pi u (40, 0, 0) 17 ((((10 : Int32) * (u.1 (40, 0, 0) 17)) + r5) - (48 : Int32))) (40, 0, 0) 16 ((u.1 (40, 0, 0) 16) + (1 : Int32)))))
set_option maxHeartbeats 4000000 in
set_option maxRecDepth 20000 in
theorem K_X10_takesNumber_L16 {l : Launch} {T : Option AV × List Key × AM}   : ∀ (n : Nat) (s : Int32 × PM) (e0 : PM), am_loop (f_X10_takesNumber_L16) n s = some e0 → (fun e : PM => X l mX10_takesNumber 3 0 0 false T kM 0 0 63 [none, none] [] (en e)) e0 → X l mX10_takesNumber 3 0 0 false T kM 0 0 16 [some (vR (40, 0, 0)), some (vI s.1)] [] (en s.2) := by
  refine am_loop_of ?_
  intro s x hf k1 k2
  obtain ⟨x1 , u⟩ := s
  unfold f_X10_takesNumber_L16 at hf
  show X l mX10_takesNumber 3 0 0 false T kM 0 0 16 [some (vR (40, 0, 0)), some (vI x1)] [] (en u)
  refine r_iload_n (x := x1) dX10_takesNumber_16 rfl ?_
  refine r_iconst (v := 2) dX10_takesNumber_17 rfl ?_
  refine r_icmp_ge (tgt := 63) dX10_takesNumber_18 (by decide) (fun hc => ?_) (fun hc => ?_)
  · have hf := (am_if hf).1 hc
    refine r_weak (L' := [none, none]) trivial ?_
    exact k2 (u) (am_inj hf).symm
  · have hf := (am_if hf).2 hc
    refine r_aload_n (x := (40, 0, 0)) dX10_takesNumber_21 rfl ?_
    obtain ⟨r3, hr4, hf⟩ := am_bind hf
    refine r_callV (as := []) (st := []) (n := 0) mw_X10_287 mv_X10_isDigit (C_X10_isDigit (l := l) hr4) (le_b rfl) dX10_takesNumber_22 (kM_mem (s := 40) (by decide)) rfl rfl rfl (le_b rfl) (le_b rfl) (le_b rfl) ?_
    show X l _ _ 0 0 false _ kM 0 0 25 [some (vR (40, 0, 0)), some (vI x1)] [vI r3] (en u)
    refine r_if_eq (tgt := 63) dX10_takesNumber_25 (by decide) (fun hc => ?_) (fun hc => ?_)
    · have hf := (am_if hf).1 hc
      refine r_weak (L' := [none, none]) trivial ?_
      exact k2 (u) (am_inj hf).symm
    · have hf := (am_if hf).2 hc
      refine r_aload_n (x := (40, 0, 0)) dX10_takesNumber_28 rfl ?_
      refine r_bipush (v := 10) dX10_takesNumber_29 rfl ?_
      refine r_aload_n (x := (40, 0, 0)) dX10_takesNumber_31 rfl ?_
      refine e_geti fw_X10_62 dX10_takesNumber_32 (kM_mem (s := 40) (by decide)) rfl (lt_b rfl) ?_
      refine r_imul dX10_takesNumber_35 ?_
      refine r_aload_n (x := (40, 0, 0)) dX10_takesNumber_36 rfl ?_
      obtain ⟨r5, hr6, hf⟩ := am_bind hf
      refine r_callV (as := []) (st := [vI ((10 : Int32) * (u.1 (40, 0, 0) 17)), vR (40, 0, 0)]) (n := 0) mw_X10_280 mv_X10_next (C_X10_next (l := l) hr6) (le_b rfl) dX10_takesNumber_37 (kM_mem (s := 40) (by decide)) rfl rfl rfl (le_b rfl) (le_b rfl) (le_b rfl) ?_
      show X l _ _ 0 0 false _ kM 0 0 40 [some (vR (40, 0, 0)), some (vI x1)] [vI r5, vI ((10 : Int32) * (u.1 (40, 0, 0) 17)), vR (40, 0, 0)] (en u)
      refine r_iadd dX10_takesNumber_40 ?_
      refine r_bipush (v := 48) dX10_takesNumber_41 rfl ?_
      refine r_isub dX10_takesNumber_43 ?_
      refine e_puti fp_X10_62 dX10_takesNumber_44 (kM_mem (s := 40) (by decide)) rfl (lt_b rfl) rfl rfl rfl ?_
      refine r_aload_n (x := (40, 0, 0)) dX10_takesNumber_47 rfl ?_
      refine r_dup dX10_takesNumber_48 rfl ?_
      refine e_geti_ (x := u.1 (40, 0, 0) 16) fw_X10_59 dX10_takesNumber_49 (kM_mem (s := 40) (by decide)) rfl (lt_b rfl) (by simp [pi, pl, pr, pci, pcl]) ?_
      refine r_iconst (v := 1) dX10_takesNumber_52 rfl ?_
      refine r_iadd dX10_takesNumber_53 ?_
      refine e_puti fp_X10_59 dX10_takesNumber_54 (kM_mem (s := 40) (by decide)) rfl (lt_b rfl) rfl rfl rfl ?_
      refine r_iinc (x := x1) (v := x1 + (1 : Int32)) (L' := [some (vR (40, 0, 0)), some (vI (x1 + (1 : Int32)))]) dX10_takesNumber_57 rfl rfl (lt_b rfl) rfl ?_
      refine r_goto (tgt := 16) dX10_takesNumber_60 (by decide) ?_
      refine r_weak (L' := [some (vR (40, 0, 0)), some (vI (x1 + (1 : Int32)))]) (And.intro rfl (And.intro rfl trivial)) ?_
      exact k1 (x1 + (1 : Int32), (pi (pi u (40, 0, 0) 17 ((((10 : Int32) * (u.1 (40, 0, 0) 17)) + r5) - (48 : Int32))) (40, 0, 0) 16 ((u.1 (40, 0, 0) 16) + (1 : Int32)))) (am_inj hf).symm
def f_X10_takesNumber   (u : PM) : Option (Int32 × PM) :=
  (f_X10_isDigit u).bind fun r1 =>
  if r1 = 0 then
    some ((0 : Int32), u)
  else
  (am_loop (f_X10_takesNumber_L16) 2000 ((0 : Int32), (pi u (40, 0, 0) 17 (0 : Int32)))).bind fun u9 =>
  some ((1 : Int32), u9)
set_option maxHeartbeats 4000000 in
set_option maxRecDepth 20000 in
theorem C_X10_takesNumber {l : Launch}   {u : PM} {x : Int32 × PM} (hf : f_X10_takesNumber u = some x) : Ev l mX10_takesNumber 3 0 0 false [vR (40, 0, 0)] kM (en u) (some (vI x.1), kM, en x.2) := by
  refine Ev_of (by decide +kernel) (le_b rfl) ?_
  unfold f_X10_takesNumber at hf
  show X l mX10_takesNumber 3 0 0 false _ kM 0 0 0 [some (vR (40, 0, 0)), none] [] (en u)
  refine r_aload_n (x := (40, 0, 0)) dX10_takesNumber_0 rfl ?_
  obtain ⟨r1, hr2, hf⟩ := am_bind hf
  refine r_callV (as := []) (st := []) (n := 0) mw_X10_287 mv_X10_isDigit (C_X10_isDigit (l := l) hr2) (le_b rfl) dX10_takesNumber_1 (kM_mem (s := 40) (by decide)) rfl rfl rfl (le_b rfl) (le_b rfl) (le_b rfl) ?_
  show X l _ _ 0 0 false _ kM 0 0 4 [some (vR (40, 0, 0)), none] [vI r1] (en u)
  refine r_if_ne (tgt := 9) dX10_takesNumber_4 (by decide) (fun hc => ?_) (fun hc => ?_)
  · have hf := (am_if hf).2 hc
    refine r_aload_n (x := (40, 0, 0)) dX10_takesNumber_9 rfl ?_
    refine r_iconst (v := 0) dX10_takesNumber_10 rfl ?_
    refine e_puti fp_X10_62 dX10_takesNumber_11 (kM_mem (s := 40) (by decide)) rfl (lt_b rfl) rfl rfl rfl ?_
    refine r_iconst (v := 0) dX10_takesNumber_14 rfl ?_
    refine r_istore_n (L' := [some (vR (40, 0, 0)), some (vI (0 : Int32))]) dX10_takesNumber_15 (by decide) rfl ?_
    refine r_weak (L' := [some (vR (40, 0, 0)), some (vI (0 : Int32))]) (And.intro rfl (And.intro rfl trivial)) ?_
    obtain ⟨e7, he8, hf⟩ := am_bind hf
    refine K_X10_takesNumber_L16  2000 ((0 : Int32), (pi u (40, 0, 0) 17 (0 : Int32))) _ he8 ?_
    obtain ⟨u9, rfl⟩ : ∃ z, z = e7 := ⟨_, rfl⟩
    show X l _ _ 0 0 false _ kM 0 0 63 [none, none] [] (en u9)
    refine r_iconst (v := 1) dX10_takesNumber_63 rfl ?_
    have hx := am_inj hf
    subst hx
    exact r_iret dX10_takesNumber_64 rfl (am_bool (x := 1) (by decide)).1 (le_b rfl) (le_b rfl)
  · have hf := (am_if hf).1 hc
    refine r_iconst (v := 0) dX10_takesNumber_7 rfl ?_
    have hx := am_inj hf
    subst hx
    exact r_iret dX10_takesNumber_8 rfl (am_bool (x := 0) (by decide)).1 (le_b rfl) (le_b rfl)
/-! FireFromFireModel.put -/
theorem dX10_put_0 : decode cX10_put 0 = .ok (.aload_n 0, 1) := by decide +kernel
theorem dX10_put_1 : decode cX10_put 1 = .ok (.getfield 86, 3) := by decide +kernel
theorem dX10_put_4 : decode cX10_put 4 = .ok (.aload_n 0, 1) := by decide +kernel
theorem dX10_put_5 : decode cX10_put 5 = .ok (.getfield 92, 3) := by decide +kernel
theorem dX10_put_8 : decode cX10_put 8 = .ok (.iload_n 1, 1) := by decide +kernel
theorem dX10_put_9 : decode cX10_put 9 = .ok (.iastore, 1) := by decide +kernel
theorem dX10_put_10 : decode cX10_put 10 = .ok (.aload_n 0, 1) := by decide +kernel
theorem dX10_put_11 : decode cX10_put 11 = .ok (.dup, 1) := by decide +kernel
theorem dX10_put_12 : decode cX10_put 12 = .ok (.getfield 92, 3) := by decide +kernel
theorem dX10_put_15 : decode cX10_put 15 = .ok (.iconst 1, 1) := by decide +kernel
theorem dX10_put_16 : decode cX10_put 16 = .ok (.iadd, 1) := by decide +kernel
theorem dX10_put_17 : decode cX10_put 17 = .ok (.putfield 92, 3) := by decide +kernel
theorem dX10_put_20 : decode cX10_put 20 = .ok (.return_, 1) := by decide +kernel
def f_X10_put  (a0 : Int32) (u : PM) : Option (PM) :=
  if (u.1 (40, 0, 0) 27) < 0 ∨ 500 ≤ (u.1 (40, 0, 0) 27).toNatClampNeg then none else
  some (pi (pi u (57, 0, 0) ((u.1 (40, 0, 0) 27).toNatClampNeg) a0) (40, 0, 0) 27 ((u.1 (40, 0, 0) 27) + (1 : Int32)))
set_option maxHeartbeats 4000000 in
set_option maxRecDepth 20000 in
theorem C_X10_put {l : Launch}  {a0 : Int32} {u : PM} {x : PM} (hf : f_X10_put a0 u = some x) : Ev l mX10_put 1 0 0 false [vR (40, 0, 0), vI a0] kM (en u) (none, kM, en x) := by
  refine Ev_of (by decide +kernel) (le_b rfl) ?_
  unfold f_X10_put at hf
  show X l mX10_put 1 0 0 false _ kM 0 0 0 [some (vR (40, 0, 0)), some (vI a0)] [] (en u)
  refine r_aload_n (x := (40, 0, 0)) dX10_put_0 rfl ?_
  refine e_getr (z := some (57, 0, 0)) fw_X10_86 dX10_put_1 (kM_mem (s := 40) (by decide)) rfl (lt_b rfl) rfl ?_
  refine r_aload_n (x := (40, 0, 0)) dX10_put_4 rfl ?_
  refine e_geti fw_X10_92 dX10_put_5 (kM_mem (s := 40) (by decide)) rfl (lt_b rfl) ?_
  refine r_iload_n (x := a0) dX10_put_8 rfl ?_
  obtain ⟨h1, hf⟩ := am_nchk hf
  refine e_iast (n := (u.1 (40, 0, 0) 27).toNatClampNeg) dX10_put_9 (kM_mem (s := 57) (by decide)) rfl h1 rfl ?_
  refine r_aload_n (x := (40, 0, 0)) dX10_put_10 rfl ?_
  refine r_dup dX10_put_11 rfl ?_
  refine e_geti_ (x := u.1 (40, 0, 0) 27) fw_X10_92 dX10_put_12 (kM_mem (s := 40) (by decide)) rfl (lt_b rfl) (by simp [pi, pl, pr, pci, pcl]) ?_
  refine r_iconst (v := 1) dX10_put_15 rfl ?_
  refine r_iadd dX10_put_16 ?_
  refine e_puti fp_X10_92 dX10_put_17 (kM_mem (s := 40) (by decide)) rfl (lt_b rfl) rfl rfl rfl ?_
  have hx := am_inj hf
  subst hx
  exact r_vret dX10_put_20 rfl (le_b rfl) (le_b rfl)
/-! FireFromFireModel.whole -/
theorem dX10_whole_0 : decode cX10_whole 0 = .ok (.aload_n 0, 1) := by decide +kernel
theorem dX10_whole_1 : decode cX10_whole 1 = .ok (.getfield 95, 3) := by decide +kernel
theorem dX10_whole_4 : decode cX10_whole 4 = .ok (.ifCond .le 48, 3) := by decide +kernel
theorem dX10_whole_7 : decode cX10_whole 7 = .ok (.aload_n 0, 1) := by decide +kernel
theorem dX10_whole_8 : decode cX10_whole 8 = .ok (.getfield 89, 3) := by decide +kernel
theorem dX10_whole_11 : decode cX10_whole 11 = .ok (.aload_n 0, 1) := by decide +kernel
theorem dX10_whole_12 : decode cX10_whole 12 = .ok (.getfield 95, 3) := by decide +kernel
theorem dX10_whole_15 : decode cX10_whole 15 = .ok (.iconst 1, 1) := by decide +kernel
theorem dX10_whole_16 : decode cX10_whole 16 = .ok (.isub, 1) := by decide +kernel
theorem dX10_whole_17 : decode cX10_whole 17 = .ok (.iaload, 1) := by decide +kernel
theorem dX10_whole_18 : decode cX10_whole 18 = .ok (.bipush 33, 2) := by decide +kernel
theorem dX10_whole_20 : decode cX10_whole 20 = .ok (.if_icmp .ne 32, 3) := by decide +kernel
theorem dX10_whole_23 : decode cX10_whole 23 = .ok (.aload_n 0, 1) := by decide +kernel
theorem dX10_whole_24 : decode cX10_whole 24 = .ok (.bipush (-33), 2) := by decide +kernel
theorem dX10_whole_26 : decode cX10_whole 26 = .ok (.invokevirtual 291, 3) := by decide +kernel
theorem dX10_whole_29 : decode cX10_whole 29 = .ok (.aload_n 0, 1) := by decide +kernel
theorem dX10_whole_30 : decode cX10_whole 30 = .ok (.dup, 1) := by decide +kernel
theorem dX10_whole_31 : decode cX10_whole 31 = .ok (.getfield 95, 3) := by decide +kernel
theorem dX10_whole_34 : decode cX10_whole 34 = .ok (.iconst 1, 1) := by decide +kernel
theorem dX10_whole_35 : decode cX10_whole 35 = .ok (.isub, 1) := by decide +kernel
theorem dX10_whole_36 : decode cX10_whole 36 = .ok (.putfield 95, 3) := by decide +kernel
theorem dX10_whole_39 : decode cX10_whole 39 = .ok (.aload_n 0, 1) := by decide +kernel
theorem dX10_whole_40 : decode cX10_whole 40 = .ok (.dup, 1) := by decide +kernel
theorem dX10_whole_41 : decode cX10_whole 41 = .ok (.getfield 98, 3) := by decide +kernel
theorem dX10_whole_44 : decode cX10_whole 44 = .ok (.iconst 1, 1) := by decide +kernel
theorem dX10_whole_45 : decode cX10_whole 45 = .ok (.isub, 1) := by decide +kernel
theorem dX10_whole_46 : decode cX10_whole 46 = .ok (.putfield 98, 3) := by decide +kernel
theorem dX10_whole_49 : decode cX10_whole 49 = .ok (.goto (-49), 3) := by decide +kernel
theorem dX10_whole_52 : decode cX10_whole 52 = .ok (.return_, 1) := by decide +kernel
def f_X10_whole_L0   : PM → Option ((PM) ⊕ (PM)) := fun u =>
  if (u.1 (40, 0, 0) 28) ≤ 0 then
    some (.inr (u))
  else
  if ((u.1 (40, 0, 0) 28) - (1 : Int32)) < 0 ∨ 101 ≤ ((u.1 (40, 0, 0) 28) - (1 : Int32)).toNatClampNeg then none else
  if (u.1 (58, 0, 0) (((u.1 (40, 0, 0) 28) - (1 : Int32)).toNatClampNeg)) = (33 : Int32) then
    (f_X10_put (-33 : Int32) u).bind fun r2 =>
    some (.inl ((pi (pi r2 (40, 0, 0) 28 ((r2.1 (40, 0, 0) 28) - (1 : Int32))) (40, 0, 0) 29 ((r2.1 (40, 0, 0) 29) - (1 : Int32)))))
  else
  some (.inr (u))
set_option maxHeartbeats 4000000 in
set_option maxRecDepth 20000 in
theorem K_X10_whole_L0 {l : Launch} {T : Option AV × List Key × AM}   : ∀ (n : Nat) (s : PM) (e0 : PM), am_loop (f_X10_whole_L0) n s = some e0 → (fun e : PM => X l mX10_whole 2 0 0 false T kM 0 0 52 [none] [] (en e)) e0 → X l mX10_whole 2 0 0 false T kM 0 0 0 [some (vR (40, 0, 0))] [] (en s) := by
  refine am_loop_of ?_
  intro s x hf k1 k2
  obtain ⟨u, rfl⟩ : ∃ z, z = s := ⟨_, rfl⟩
  unfold f_X10_whole_L0 at hf
  show X l mX10_whole 2 0 0 false T kM 0 0 0 [some (vR (40, 0, 0))] [] (en u)
  refine r_aload_n (x := (40, 0, 0)) dX10_whole_0 rfl ?_
  refine e_geti fw_X10_95 dX10_whole_1 (kM_mem (s := 40) (by decide)) rfl (lt_b rfl) ?_
  refine r_if_le (tgt := 52) dX10_whole_4 (by decide) (fun hc => ?_) (fun hc => ?_)
  · have hf := (am_if hf).1 hc
    refine r_weak (L' := [none]) trivial ?_
    exact k2 (u) (am_inj hf).symm
  · have hf := (am_if hf).2 hc
    refine r_aload_n (x := (40, 0, 0)) dX10_whole_7 rfl ?_
    refine e_getr (z := some (58, 0, 0)) fw_X10_89 dX10_whole_8 (kM_mem (s := 40) (by decide)) rfl (lt_b rfl) rfl ?_
    refine r_aload_n (x := (40, 0, 0)) dX10_whole_11 rfl ?_
    refine e_geti fw_X10_95 dX10_whole_12 (kM_mem (s := 40) (by decide)) rfl (lt_b rfl) ?_
    refine r_iconst (v := 1) dX10_whole_15 rfl ?_
    refine r_isub dX10_whole_16 ?_
    obtain ⟨h1, hf⟩ := am_nchk hf
    refine e_iald (n := ((u.1 (40, 0, 0) 28) - (1 : Int32)).toNatClampNeg) dX10_whole_17 (kM_mem (s := 58) (by decide)) rfl h1 rfl rfl ?_
    refine r_bipush (v := 33) dX10_whole_18 rfl ?_
    refine r_icmp_ne (tgt := 52) dX10_whole_20 (by decide) (fun hc => ?_) (fun hc => ?_)
    · have hf := (am_if hf).2 hc
      refine r_weak (L' := [none]) trivial ?_
      exact k2 (u) (am_inj hf).symm
    · have hf := (am_if hf).1 hc
      refine r_aload_n (x := (40, 0, 0)) dX10_whole_23 rfl ?_
      refine r_bipush (v := -33) dX10_whole_24 rfl ?_
      obtain ⟨r2, hr3, hf⟩ := am_bind hf
      refine r_callV (as := [vI (-33 : Int32)]) (st := []) (n := 1) mw_X10_291 mv_X10_put (C_X10_put (l := l) hr3) (le_b rfl) dX10_whole_26 (kM_mem (s := 40) (by decide)) rfl rfl rfl (le_b rfl) (le_b rfl) (le_b rfl) ?_
      show X l _ _ 0 0 false _ kM 0 0 29 [some (vR (40, 0, 0))] [] (en r2)
      refine r_aload_n (x := (40, 0, 0)) dX10_whole_29 rfl ?_
      refine r_dup dX10_whole_30 rfl ?_
      refine e_geti fw_X10_95 dX10_whole_31 (kM_mem (s := 40) (by decide)) rfl (lt_b rfl) ?_
      refine r_iconst (v := 1) dX10_whole_34 rfl ?_
      refine r_isub dX10_whole_35 ?_
      refine e_puti fp_X10_95 dX10_whole_36 (kM_mem (s := 40) (by decide)) rfl (lt_b rfl) rfl rfl rfl ?_
      refine r_aload_n (x := (40, 0, 0)) dX10_whole_39 rfl ?_
      refine r_dup dX10_whole_40 rfl ?_
      refine e_geti_ (x := r2.1 (40, 0, 0) 29) fw_X10_98 dX10_whole_41 (kM_mem (s := 40) (by decide)) rfl (lt_b rfl) (by simp [pi, pl, pr, pci, pcl]) ?_
      refine r_iconst (v := 1) dX10_whole_44 rfl ?_
      refine r_isub dX10_whole_45 ?_
      refine e_puti fp_X10_98 dX10_whole_46 (kM_mem (s := 40) (by decide)) rfl (lt_b rfl) rfl rfl rfl ?_
      refine r_goto (tgt := 0) dX10_whole_49 (by decide) ?_
      refine r_weak (L' := [some (vR (40, 0, 0))]) (And.intro rfl trivial) ?_
      exact k1 ((pi (pi r2 (40, 0, 0) 28 ((r2.1 (40, 0, 0) 28) - (1 : Int32))) (40, 0, 0) 29 ((r2.1 (40, 0, 0) 29) - (1 : Int32)))) (am_inj hf).symm
def f_X10_whole   (u : PM) : Option (PM) :=
  (am_loop (f_X10_whole_L0) 2000 (u)).bind fun u6 =>
  some u6
set_option maxHeartbeats 4000000 in
set_option maxRecDepth 20000 in
theorem C_X10_whole {l : Launch}   {u : PM} {x : PM} (hf : f_X10_whole u = some x) : Ev l mX10_whole 2 0 0 false [vR (40, 0, 0)] kM (en u) (none, kM, en x) := by
  refine Ev_of (by decide +kernel) (le_b rfl) ?_
  unfold f_X10_whole at hf
  show X l mX10_whole 2 0 0 false _ kM 0 0 0 [some (vR (40, 0, 0))] [] (en u)
  refine r_weak (L' := [some (vR (40, 0, 0))]) (And.intro rfl trivial) ?_
  obtain ⟨e4, he5, hf⟩ := am_bind hf
  refine K_X10_whole_L0  2000 (u) _ he5 ?_
  obtain ⟨u6, rfl⟩ : ∃ z, z = e4 := ⟨_, rfl⟩
  show X l _ _ 0 0 false _ kM 0 0 52 [none] [] (en u6)
  have hx := am_inj hf
  subst hx
  exact r_vret dX10_whole_52 rfl (le_b rfl) (le_b rfl)
/-! FireFromFireModel.settle -/
theorem dX10_settle_0 : decode cX10_settle 0 = .ok (.aload_n 0, 1) := by decide +kernel
theorem dX10_settle_1 : decode cX10_settle 1 = .ok (.getfield 95, 3) := by decide +kernel
theorem dX10_settle_4 : decode cX10_settle 4 = .ok (.ifCond .le 68, 3) := by decide +kernel
theorem dX10_settle_7 : decode cX10_settle 7 = .ok (.aload_n 0, 1) := by decide +kernel
theorem dX10_settle_8 : decode cX10_settle 8 = .ok (.getfield 89, 3) := by decide +kernel
theorem dX10_settle_11 : decode cX10_settle 11 = .ok (.aload_n 0, 1) := by decide +kernel
theorem dX10_settle_12 : decode cX10_settle 12 = .ok (.getfield 95, 3) := by decide +kernel
theorem dX10_settle_15 : decode cX10_settle 15 = .ok (.iconst 1, 1) := by decide +kernel
theorem dX10_settle_16 : decode cX10_settle 16 = .ok (.isub, 1) := by decide +kernel
theorem dX10_settle_17 : decode cX10_settle 17 = .ok (.iaload, 1) := by decide +kernel
theorem dX10_settle_18 : decode cX10_settle 18 = .ok (.bipush 38, 2) := by decide +kernel
theorem dX10_settle_20 : decode cX10_settle 20 = .ok (.if_icmp .eq 25, 3) := by decide +kernel
theorem dX10_settle_23 : decode cX10_settle 23 = .ok (.aload_n 0, 1) := by decide +kernel
theorem dX10_settle_24 : decode cX10_settle 24 = .ok (.getfield 89, 3) := by decide +kernel
theorem dX10_settle_27 : decode cX10_settle 27 = .ok (.aload_n 0, 1) := by decide +kernel
theorem dX10_settle_28 : decode cX10_settle 28 = .ok (.getfield 95, 3) := by decide +kernel
theorem dX10_settle_31 : decode cX10_settle 31 = .ok (.iconst 1, 1) := by decide +kernel
theorem dX10_settle_32 : decode cX10_settle 32 = .ok (.isub, 1) := by decide +kernel
theorem dX10_settle_33 : decode cX10_settle 33 = .ok (.iaload, 1) := by decide +kernel
theorem dX10_settle_34 : decode cX10_settle 34 = .ok (.bipush 124, 2) := by decide +kernel
theorem dX10_settle_36 : decode cX10_settle 36 = .ok (.if_icmp .ne 36, 3) := by decide +kernel
theorem dX10_settle_39 : decode cX10_settle 39 = .ok (.iload_n 1, 1) := by decide +kernel
theorem dX10_settle_40 : decode cX10_settle 40 = .ok (.bipush 38, 2) := by decide +kernel
theorem dX10_settle_42 : decode cX10_settle 42 = .ok (.if_icmp .eq 30, 3) := by decide +kernel
theorem dX10_settle_45 : decode cX10_settle 45 = .ok (.aload_n 0, 1) := by decide +kernel
theorem dX10_settle_46 : decode cX10_settle 46 = .ok (.dup, 1) := by decide +kernel
theorem dX10_settle_47 : decode cX10_settle 47 = .ok (.getfield 95, 3) := by decide +kernel
theorem dX10_settle_50 : decode cX10_settle 50 = .ok (.iconst 1, 1) := by decide +kernel
theorem dX10_settle_51 : decode cX10_settle 51 = .ok (.isub, 1) := by decide +kernel
theorem dX10_settle_52 : decode cX10_settle 52 = .ok (.putfield 95, 3) := by decide +kernel
theorem dX10_settle_55 : decode cX10_settle 55 = .ok (.aload_n 0, 1) := by decide +kernel
theorem dX10_settle_56 : decode cX10_settle 56 = .ok (.aload_n 0, 1) := by decide +kernel
theorem dX10_settle_57 : decode cX10_settle 57 = .ok (.getfield 89, 3) := by decide +kernel
theorem dX10_settle_60 : decode cX10_settle 60 = .ok (.aload_n 0, 1) := by decide +kernel
theorem dX10_settle_61 : decode cX10_settle 61 = .ok (.getfield 95, 3) := by decide +kernel
theorem dX10_settle_64 : decode cX10_settle 64 = .ok (.iaload, 1) := by decide +kernel
theorem dX10_settle_65 : decode cX10_settle 65 = .ok (.ineg, 1) := by decide +kernel
theorem dX10_settle_66 : decode cX10_settle 66 = .ok (.invokevirtual 291, 3) := by decide +kernel
theorem dX10_settle_69 : decode cX10_settle 69 = .ok (.goto (-69), 3) := by decide +kernel
theorem dX10_settle_72 : decode cX10_settle 72 = .ok (.return_, 1) := by decide +kernel
def f_X10_settle_L0  (c1 : Int32) : PM → Option ((PM) ⊕ (PM)) := fun u =>
  if (u.1 (40, 0, 0) 28) ≤ 0 then
    some (.inr (u))
  else
  if ((u.1 (40, 0, 0) 28) - (1 : Int32)) < 0 ∨ 101 ≤ ((u.1 (40, 0, 0) 28) - (1 : Int32)).toNatClampNeg then none else
  if (u.1 (58, 0, 0) (((u.1 (40, 0, 0) 28) - (1 : Int32)).toNatClampNeg)) = (38 : Int32) then
    (f_X10_put (-(u.1 (58, 0, 0) (((u.1 (40, 0, 0) 28) - (1 : Int32)).toNatClampNeg))) (pi u (40, 0, 0) 28 ((u.1 (40, 0, 0) 28) - (1 : Int32)))).bind fun r2 =>
    some (.inl (r2))
  else
  if (u.1 (58, 0, 0) (((u.1 (40, 0, 0) 28) - (1 : Int32)).toNatClampNeg)) = (124 : Int32) then
    if c1 = (38 : Int32) then
      some (.inr (u))
    else
    (f_X10_put (-(u.1 (58, 0, 0) (((u.1 (40, 0, 0) 28) - (1 : Int32)).toNatClampNeg))) (pi u (40, 0, 0) 28 ((u.1 (40, 0, 0) 28) - (1 : Int32)))).bind fun r4 =>
    some (.inl (r4))
  else
  some (.inr (u))
set_option maxHeartbeats 4000000 in
set_option maxRecDepth 20000 in
theorem K_X10_settle_L0 {l : Launch} {T : Option AV × List Key × AM}  {c1 : Int32} : ∀ (n : Nat) (s : PM) (e0 : PM), am_loop (f_X10_settle_L0 c1) n s = some e0 → (fun e : PM => X l mX10_settle 2 0 0 false T kM 0 0 72 [none, none] [] (en e)) e0 → X l mX10_settle 2 0 0 false T kM 0 0 0 [some (vR (40, 0, 0)), some (vI c1)] [] (en s) := by
  refine am_loop_of ?_
  intro s x hf k1 k2
  obtain ⟨u, rfl⟩ : ∃ z, z = s := ⟨_, rfl⟩
  unfold f_X10_settle_L0 at hf
  show X l mX10_settle 2 0 0 false T kM 0 0 0 [some (vR (40, 0, 0)), some (vI c1)] [] (en u)
  refine r_aload_n (x := (40, 0, 0)) dX10_settle_0 rfl ?_
  refine e_geti fw_X10_95 dX10_settle_1 (kM_mem (s := 40) (by decide)) rfl (lt_b rfl) ?_
  refine r_if_le (tgt := 72) dX10_settle_4 (by decide) (fun hc => ?_) (fun hc => ?_)
  · have hf := (am_if hf).1 hc
    refine r_weak (L' := [none, none]) trivial ?_
    exact k2 (u) (am_inj hf).symm
  · have hf := (am_if hf).2 hc
    refine r_aload_n (x := (40, 0, 0)) dX10_settle_7 rfl ?_
    refine e_getr (z := some (58, 0, 0)) fw_X10_89 dX10_settle_8 (kM_mem (s := 40) (by decide)) rfl (lt_b rfl) rfl ?_
    refine r_aload_n (x := (40, 0, 0)) dX10_settle_11 rfl ?_
    refine e_geti fw_X10_95 dX10_settle_12 (kM_mem (s := 40) (by decide)) rfl (lt_b rfl) ?_
    refine r_iconst (v := 1) dX10_settle_15 rfl ?_
    refine r_isub dX10_settle_16 ?_
    obtain ⟨h1, hf⟩ := am_nchk hf
    refine e_iald (n := ((u.1 (40, 0, 0) 28) - (1 : Int32)).toNatClampNeg) dX10_settle_17 (kM_mem (s := 58) (by decide)) rfl h1 rfl rfl ?_
    refine r_bipush (v := 38) dX10_settle_18 rfl ?_
    refine r_icmp_eq (tgt := 45) dX10_settle_20 (by decide) (fun hc => ?_) (fun hc => ?_)
    · have hf := (am_if hf).1 hc
      refine r_aload_n (x := (40, 0, 0)) dX10_settle_45 rfl ?_
      refine r_dup dX10_settle_46 rfl ?_
      refine e_geti fw_X10_95 dX10_settle_47 (kM_mem (s := 40) (by decide)) rfl (lt_b rfl) ?_
      refine r_iconst (v := 1) dX10_settle_50 rfl ?_
      refine r_isub dX10_settle_51 ?_
      refine e_puti fp_X10_95 dX10_settle_52 (kM_mem (s := 40) (by decide)) rfl (lt_b rfl) rfl rfl rfl ?_
      refine r_aload_n (x := (40, 0, 0)) dX10_settle_55 rfl ?_
      refine r_aload_n (x := (40, 0, 0)) dX10_settle_56 rfl ?_
      refine e_getr (z := some (58, 0, 0)) fw_X10_89 dX10_settle_57 (kM_mem (s := 40) (by decide)) rfl (lt_b rfl) rfl ?_
      refine r_aload_n (x := (40, 0, 0)) dX10_settle_60 rfl ?_
      refine e_geti_ (x := (u.1 (40, 0, 0) 28) - (1 : Int32)) fw_X10_95 dX10_settle_61 (kM_mem (s := 40) (by decide)) rfl (lt_b rfl) (by simp [pi, pl, pr, pci, pcl]) ?_
      refine e_iald (n := ((u.1 (40, 0, 0) 28) - (1 : Int32)).toNatClampNeg) (x := u.1 (58, 0, 0) (((u.1 (40, 0, 0) 28) - (1 : Int32)).toNatClampNeg)) dX10_settle_64 (kM_mem (s := 58) (by decide)) rfl h1 rfl (by simp [pi, pl, pr, pci, pcl]) ?_
      refine r_ineg dX10_settle_65 ?_
      obtain ⟨r2, hr3, hf⟩ := am_bind hf
      refine r_callV (as := [vI (-(u.1 (58, 0, 0) (((u.1 (40, 0, 0) 28) - (1 : Int32)).toNatClampNeg)))]) (st := []) (n := 1) mw_X10_291 mv_X10_put (C_X10_put (l := l) hr3) (le_b rfl) dX10_settle_66 (kM_mem (s := 40) (by decide)) rfl rfl rfl (le_b rfl) (le_b rfl) (le_b rfl) ?_
      show X l _ _ 0 0 false _ kM 0 0 69 [some (vR (40, 0, 0)), some (vI c1)] [] (en r2)
      refine r_goto (tgt := 0) dX10_settle_69 (by decide) ?_
      refine r_weak (L' := [some (vR (40, 0, 0)), some (vI c1)]) (And.intro rfl (And.intro rfl trivial)) ?_
      exact k1 (r2) (am_inj hf).symm
    · have hf := (am_if hf).2 hc
      refine r_aload_n (x := (40, 0, 0)) dX10_settle_23 rfl ?_
      refine e_getr (z := some (58, 0, 0)) fw_X10_89 dX10_settle_24 (kM_mem (s := 40) (by decide)) rfl (lt_b rfl) rfl ?_
      refine r_aload_n (x := (40, 0, 0)) dX10_settle_27 rfl ?_
      refine e_geti fw_X10_95 dX10_settle_28 (kM_mem (s := 40) (by decide)) rfl (lt_b rfl) ?_
      refine r_iconst (v := 1) dX10_settle_31 rfl ?_
      refine r_isub dX10_settle_32 ?_
      refine e_iald (n := ((u.1 (40, 0, 0) 28) - (1 : Int32)).toNatClampNeg) dX10_settle_33 (kM_mem (s := 58) (by decide)) rfl h1 rfl rfl ?_
      refine r_bipush (v := 124) dX10_settle_34 rfl ?_
      refine r_icmp_ne (tgt := 72) dX10_settle_36 (by decide) (fun hc => ?_) (fun hc => ?_)
      · have hf := (am_if hf).2 hc
        refine r_weak (L' := [none, none]) trivial ?_
        exact k2 (u) (am_inj hf).symm
      · have hf := (am_if hf).1 hc
        refine r_iload_n (x := c1) dX10_settle_39 rfl ?_
        refine r_bipush (v := 38) dX10_settle_40 rfl ?_
        refine r_icmp_eq (tgt := 72) dX10_settle_42 (by decide) (fun hc => ?_) (fun hc => ?_)
        · have hf := (am_if hf).1 hc
          refine r_weak (L' := [none, none]) trivial ?_
          exact k2 (u) (am_inj hf).symm
        · have hf := (am_if hf).2 hc
          refine r_aload_n (x := (40, 0, 0)) dX10_settle_45 rfl ?_
          refine r_dup dX10_settle_46 rfl ?_
          refine e_geti fw_X10_95 dX10_settle_47 (kM_mem (s := 40) (by decide)) rfl (lt_b rfl) ?_
          refine r_iconst (v := 1) dX10_settle_50 rfl ?_
          refine r_isub dX10_settle_51 ?_
          refine e_puti fp_X10_95 dX10_settle_52 (kM_mem (s := 40) (by decide)) rfl (lt_b rfl) rfl rfl rfl ?_
          refine r_aload_n (x := (40, 0, 0)) dX10_settle_55 rfl ?_
          refine r_aload_n (x := (40, 0, 0)) dX10_settle_56 rfl ?_
          refine e_getr (z := some (58, 0, 0)) fw_X10_89 dX10_settle_57 (kM_mem (s := 40) (by decide)) rfl (lt_b rfl) rfl ?_
          refine r_aload_n (x := (40, 0, 0)) dX10_settle_60 rfl ?_
          refine e_geti_ (x := (u.1 (40, 0, 0) 28) - (1 : Int32)) fw_X10_95 dX10_settle_61 (kM_mem (s := 40) (by decide)) rfl (lt_b rfl) (by simp [pi, pl, pr, pci, pcl]) ?_
          refine e_iald (n := ((u.1 (40, 0, 0) 28) - (1 : Int32)).toNatClampNeg) (x := u.1 (58, 0, 0) (((u.1 (40, 0, 0) 28) - (1 : Int32)).toNatClampNeg)) dX10_settle_64 (kM_mem (s := 58) (by decide)) rfl h1 rfl (by simp [pi, pl, pr, pci, pcl]) ?_
          refine r_ineg dX10_settle_65 ?_
          obtain ⟨r4, hr5, hf⟩ := am_bind hf
          refine r_callV (as := [vI (-(u.1 (58, 0, 0) (((u.1 (40, 0, 0) 28) - (1 : Int32)).toNatClampNeg)))]) (st := []) (n := 1) mw_X10_291 mv_X10_put (C_X10_put (l := l) hr5) (le_b rfl) dX10_settle_66 (kM_mem (s := 40) (by decide)) rfl rfl rfl (le_b rfl) (le_b rfl) (le_b rfl) ?_
          show X l _ _ 0 0 false _ kM 0 0 69 [some (vR (40, 0, 0)), some (vI c1)] [] (en r4)
          refine r_goto (tgt := 0) dX10_settle_69 (by decide) ?_
          refine r_weak (L' := [some (vR (40, 0, 0)), some (vI c1)]) (And.intro rfl (And.intro rfl trivial)) ?_
          exact k1 (r4) (am_inj hf).symm
def f_X10_settle  (a0 : Int32) (u : PM) : Option (PM) :=
  (am_loop (f_X10_settle_L0 a0) 2000 (u)).bind fun u8 =>
  some u8
set_option maxHeartbeats 4000000 in
set_option maxRecDepth 20000 in
theorem C_X10_settle {l : Launch}  {a0 : Int32} {u : PM} {x : PM} (hf : f_X10_settle a0 u = some x) : Ev l mX10_settle 2 0 0 false [vR (40, 0, 0), vI a0] kM (en u) (none, kM, en x) := by
  refine Ev_of (by decide +kernel) (le_b rfl) ?_
  unfold f_X10_settle at hf
  show X l mX10_settle 2 0 0 false _ kM 0 0 0 [some (vR (40, 0, 0)), some (vI a0)] [] (en u)
  refine r_weak (L' := [some (vR (40, 0, 0)), some (vI a0)]) (And.intro rfl (And.intro rfl trivial)) ?_
  obtain ⟨e6, he7, hf⟩ := am_bind hf
  refine K_X10_settle_L0  2000 (u) _ he7 ?_
  obtain ⟨u8, rfl⟩ : ∃ z, z = e6 := ⟨_, rfl⟩
  show X l _ _ 0 0 false _ kM 0 0 72 [none, none] [] (en u8)
  have hx := am_inj hf
  subst hx
  exact r_vret dX10_settle_72 rfl (le_b rfl) (le_b rfl)
/-! FireFromFireModel.third -/
theorem dX10_third_0 : decode cX10_third 0 = .ok (.aload_n 0, 1) := by decide +kernel
theorem dX10_third_1 : decode cX10_third 1 = .ok (.getfield 59, 3) := by decide +kernel
theorem dX10_third_4 : decode cX10_third 4 = .ok (.iconst 2, 1) := by decide +kernel
theorem dX10_third_5 : decode cX10_third 5 = .ok (.iadd, 1) := by decide +kernel
theorem dX10_third_6 : decode cX10_third 6 = .ok (.aload_n 0, 1) := by decide +kernel
theorem dX10_third_7 : decode cX10_third 7 = .ok (.getfield 56, 3) := by decide +kernel
theorem dX10_third_10 : decode cX10_third 10 = .ok (.if_icmp .ge 17, 3) := by decide +kernel
theorem dX10_third_13 : decode cX10_third 13 = .ok (.aload_n 0, 1) := by decide +kernel
theorem dX10_third_14 : decode cX10_third 14 = .ok (.getfield 65, 3) := by decide +kernel
theorem dX10_third_17 : decode cX10_third 17 = .ok (.aload_n 0, 1) := by decide +kernel
theorem dX10_third_18 : decode cX10_third 18 = .ok (.getfield 59, 3) := by decide +kernel
theorem dX10_third_21 : decode cX10_third 21 = .ok (.iconst 2, 1) := by decide +kernel
theorem dX10_third_22 : decode cX10_third 22 = .ok (.iadd, 1) := by decide +kernel
theorem dX10_third_23 : decode cX10_third 23 = .ok (.iaload, 1) := by decide +kernel
theorem dX10_third_24 : decode cX10_third 24 = .ok (.goto 4, 3) := by decide +kernel
theorem dX10_third_27 : decode cX10_third 27 = .ok (.iconst (-1), 1) := by decide +kernel
theorem dX10_third_28 : decode cX10_third 28 = .ok (.ireturn, 1) := by decide +kernel
def f_X10_third   (u : PM) : Option (Int32) :=
  if (u.1 (40, 0, 0) 15) ≤ ((u.1 (40, 0, 0) 16) + (2 : Int32)) then
    some (-1 : Int32)
  else
  if ((u.1 (40, 0, 0) 16) + (2 : Int32)) < 0 ∨ 100 ≤ ((u.1 (40, 0, 0) 16) + (2 : Int32)).toNatClampNeg then none else
  some (u.1 (50, 0, 0) (((u.1 (40, 0, 0) 16) + (2 : Int32)).toNatClampNeg))
set_option maxHeartbeats 4000000 in
set_option maxRecDepth 20000 in
theorem C_X10_third {l : Launch}   {u : PM} {x : Int32} (hf : f_X10_third u = some x) : Ev l mX10_third 1 0 0 false [vR (40, 0, 0)] kM (en u) (some (vI x), kM, en u) := by
  refine Ev_of (by decide +kernel) (le_b rfl) ?_
  unfold f_X10_third at hf
  show X l mX10_third 1 0 0 false _ kM 0 0 0 [some (vR (40, 0, 0))] [] (en u)
  refine r_aload_n (x := (40, 0, 0)) dX10_third_0 rfl ?_
  refine e_geti fw_X10_59 dX10_third_1 (kM_mem (s := 40) (by decide)) rfl (lt_b rfl) ?_
  refine r_iconst (v := 2) dX10_third_4 rfl ?_
  refine r_iadd dX10_third_5 ?_
  refine r_aload_n (x := (40, 0, 0)) dX10_third_6 rfl ?_
  refine e_geti fw_X10_56 dX10_third_7 (kM_mem (s := 40) (by decide)) rfl (lt_b rfl) ?_
  refine r_icmp_ge (tgt := 27) dX10_third_10 (by decide) (fun hc => ?_) (fun hc => ?_)
  · have hf := (am_if hf).1 hc
    refine r_iconst (v := -1) dX10_third_27 rfl ?_
    have hx := am_inj hf
    subst hx
    exact r_iret dX10_third_28 rfl rfl (le_b rfl) (le_b rfl)
  · have hf := (am_if hf).2 hc
    refine r_aload_n (x := (40, 0, 0)) dX10_third_13 rfl ?_
    refine e_getr (z := some (50, 0, 0)) fw_X10_65 dX10_third_14 (kM_mem (s := 40) (by decide)) rfl (lt_b rfl) rfl ?_
    refine r_aload_n (x := (40, 0, 0)) dX10_third_17 rfl ?_
    refine e_geti fw_X10_59 dX10_third_18 (kM_mem (s := 40) (by decide)) rfl (lt_b rfl) ?_
    refine r_iconst (v := 2) dX10_third_21 rfl ?_
    refine r_iadd dX10_third_22 ?_
    obtain ⟨h1, hf⟩ := am_nchk hf
    refine e_iald (n := ((u.1 (40, 0, 0) 16) + (2 : Int32)).toNatClampNeg) dX10_third_23 (kM_mem (s := 50) (by decide)) rfl h1 rfl rfl ?_
    refine r_goto (tgt := 28) dX10_third_24 (by decide) ?_
    have hx := am_inj hf
    subst hx
    exact r_iret dX10_third_28 rfl rfl (le_b rfl) (le_b rfl)
/-! FireFromFireModel.place -/
theorem dX10_place_0 : decode cX10_place 0 = .ok (.iload_n 1, 1) := by decide +kernel
theorem dX10_place_1 : decode cX10_place 1 = .ok (.lookupswitch 71 #[(97, 69), (104, 61), (105, 63), (107, 65), (109, 67), (119, 59)], 59) := by decide +kernel
theorem dX10_place_60 : decode cX10_place 60 = .ok (.iconst 0, 1) := by decide +kernel
theorem dX10_place_61 : decode cX10_place 61 = .ok (.ireturn, 1) := by decide +kernel
theorem dX10_place_62 : decode cX10_place 62 = .ok (.iconst 1, 1) := by decide +kernel
theorem dX10_place_63 : decode cX10_place 63 = .ok (.ireturn, 1) := by decide +kernel
theorem dX10_place_64 : decode cX10_place 64 = .ok (.iconst 2, 1) := by decide +kernel
theorem dX10_place_65 : decode cX10_place 65 = .ok (.ireturn, 1) := by decide +kernel
theorem dX10_place_66 : decode cX10_place 66 = .ok (.iconst 3, 1) := by decide +kernel
theorem dX10_place_67 : decode cX10_place 67 = .ok (.ireturn, 1) := by decide +kernel
theorem dX10_place_68 : decode cX10_place 68 = .ok (.iconst 4, 1) := by decide +kernel
theorem dX10_place_69 : decode cX10_place 69 = .ok (.ireturn, 1) := by decide +kernel
theorem dX10_place_70 : decode cX10_place 70 = .ok (.iconst 5, 1) := by decide +kernel
theorem dX10_place_71 : decode cX10_place 71 = .ok (.ireturn, 1) := by decide +kernel
theorem dX10_place_72 : decode cX10_place 72 = .ok (.iconst (-1), 1) := by decide +kernel
theorem dX10_place_73 : decode cX10_place 73 = .ok (.ireturn, 1) := by decide +kernel
def f_X10_place  (a0 : Int32) (u : PM) : Option (Int32) :=
  if a0 = (97 : Int32) then
    some (5 : Int32)
  else if a0 = (104 : Int32) then
    some (1 : Int32)
  else if a0 = (105 : Int32) then
    some (2 : Int32)
  else if a0 = (107 : Int32) then
    some (3 : Int32)
  else if a0 = (109 : Int32) then
    some (4 : Int32)
  else if a0 = (119 : Int32) then
    some (0 : Int32)
  else 
  some (-1 : Int32)
set_option maxHeartbeats 4000000 in
set_option maxRecDepth 20000 in
theorem C_X10_place {l : Launch}  {a0 : Int32} {u : PM} {x : Int32} (hf : f_X10_place a0 u = some x) : Ev l mX10_place 1 0 0 false [vR (40, 0, 0), vI a0] kM (en u) (some (vI x), kM, en u) := by
  refine Ev_of (by decide +kernel) (le_b rfl) ?_
  unfold f_X10_place at hf
  show X l mX10_place 1 0 0 false _ kM 0 0 0 [some (vR (40, 0, 0)), some (vI a0)] [] (en u)
  refine r_iload_n (x := a0) dX10_place_0 rfl ?_
  by_cases hs0 : a0 = (97 : Int32)
  · have hf := (am_if hf).1 hs0
    refine r_lookup (x := a0) (tgt := 70) (off := 69) dX10_place_1 (by decide) (by rw [hs0]; rfl) (by decide) ?_
    refine r_iconst (v := 5) dX10_place_70 rfl ?_
    have hx := am_inj hf
    subst hx
    exact r_iret dX10_place_71 rfl rfl (le_b rfl) (le_b rfl)
  have hf := (am_if hf).2 hs0
  by_cases hs1 : a0 = (104 : Int32)
  · have hf := (am_if hf).1 hs1
    refine r_lookup (x := a0) (tgt := 62) (off := 61) dX10_place_1 (by decide) (by rw [hs1]; rfl) (by decide) ?_
    refine r_iconst (v := 1) dX10_place_62 rfl ?_
    have hx := am_inj hf
    subst hx
    exact r_iret dX10_place_63 rfl rfl (le_b rfl) (le_b rfl)
  have hf := (am_if hf).2 hs1
  by_cases hs2 : a0 = (105 : Int32)
  · have hf := (am_if hf).1 hs2
    refine r_lookup (x := a0) (tgt := 64) (off := 63) dX10_place_1 (by decide) (by rw [hs2]; rfl) (by decide) ?_
    refine r_iconst (v := 2) dX10_place_64 rfl ?_
    have hx := am_inj hf
    subst hx
    exact r_iret dX10_place_65 rfl rfl (le_b rfl) (le_b rfl)
  have hf := (am_if hf).2 hs2
  by_cases hs3 : a0 = (107 : Int32)
  · have hf := (am_if hf).1 hs3
    refine r_lookup (x := a0) (tgt := 66) (off := 65) dX10_place_1 (by decide) (by rw [hs3]; rfl) (by decide) ?_
    refine r_iconst (v := 3) dX10_place_66 rfl ?_
    have hx := am_inj hf
    subst hx
    exact r_iret dX10_place_67 rfl rfl (le_b rfl) (le_b rfl)
  have hf := (am_if hf).2 hs3
  by_cases hs4 : a0 = (109 : Int32)
  · have hf := (am_if hf).1 hs4
    refine r_lookup (x := a0) (tgt := 68) (off := 67) dX10_place_1 (by decide) (by rw [hs4]; rfl) (by decide) ?_
    refine r_iconst (v := 4) dX10_place_68 rfl ?_
    have hx := am_inj hf
    subst hx
    exact r_iret dX10_place_69 rfl rfl (le_b rfl) (le_b rfl)
  have hf := (am_if hf).2 hs4
  by_cases hs5 : a0 = (119 : Int32)
  · have hf := (am_if hf).1 hs5
    refine r_lookup (x := a0) (tgt := 60) (off := 59) dX10_place_1 (by decide) (by rw [hs5]; rfl) (by decide) ?_
    refine r_iconst (v := 0) dX10_place_60 rfl ?_
    have hx := am_inj hf
    subst hx
    exact r_iret dX10_place_61 rfl rfl (le_b rfl) (le_b rfl)
  have hf := (am_if hf).2 hs5
  refine r_lookup (x := a0) (tgt := 72) (off := 71) dX10_place_1 (by decide) (Eq.trans (lv_osw hs0 rfl) (Eq.trans (lv_osw hs1 rfl) (Eq.trans (lv_osw hs2 rfl) (Eq.trans (lv_osw hs3 rfl) (Eq.trans (lv_osw hs4 rfl) (Eq.trans (lv_osw hs5 rfl) rfl)))))) (by decide) ?_
  refine r_iconst (v := -1) dX10_place_72 rfl ?_
  have hx := am_inj hf
  subst hx
  exact r_iret dX10_place_73 rfl rfl (le_b rfl) (le_b rfl)
/-! FireFromFireModel.takesTest -/
theorem dX10_takesTest_0 : decode cX10_takesTest 0 = .ok (.aload_n 0, 1) := by decide +kernel
theorem dX10_takesTest_1 : decode cX10_takesTest 1 = .ok (.aload_n 0, 1) := by decide +kernel
theorem dX10_takesTest_2 : decode cX10_takesTest 2 = .ok (.invokevirtual 280, 3) := by decide +kernel
theorem dX10_takesTest_5 : decode cX10_takesTest 5 = .ok (.invokevirtual 295, 3) := by decide +kernel
theorem dX10_takesTest_8 : decode cX10_takesTest 8 = .ok (.istore_n 1, 1) := by decide +kernel
theorem dX10_takesTest_9 : decode cX10_takesTest 9 = .ok (.iload_n 1, 1) := by decide +kernel
theorem dX10_takesTest_10 : decode cX10_takesTest 10 = .ok (.ifCond .ge 5, 3) := by decide +kernel
theorem dX10_takesTest_13 : decode cX10_takesTest 13 = .ok (.iconst 0, 1) := by decide +kernel
theorem dX10_takesTest_14 : decode cX10_takesTest 14 = .ok (.ireturn, 1) := by decide +kernel
theorem dX10_takesTest_15 : decode cX10_takesTest 15 = .ok (.aload_n 0, 1) := by decide +kernel
theorem dX10_takesTest_16 : decode cX10_takesTest 16 = .ok (.dup, 1) := by decide +kernel
theorem dX10_takesTest_17 : decode cX10_takesTest 17 = .ok (.getfield 59, 3) := by decide +kernel
theorem dX10_takesTest_20 : decode cX10_takesTest 20 = .ok (.iconst 1, 1) := by decide +kernel
theorem dX10_takesTest_21 : decode cX10_takesTest 21 = .ok (.iadd, 1) := by decide +kernel
theorem dX10_takesTest_22 : decode cX10_takesTest 22 = .ok (.putfield 59, 3) := by decide +kernel
theorem dX10_takesTest_25 : decode cX10_takesTest 25 = .ok (.aload_n 0, 1) := by decide +kernel
theorem dX10_takesTest_26 : decode cX10_takesTest 26 = .ok (.invokevirtual 280, 3) := by decide +kernel
theorem dX10_takesTest_29 : decode cX10_takesTest 29 = .ok (.istore_n 2, 1) := by decide +kernel
theorem dX10_takesTest_30 : decode cX10_takesTest 30 = .ok (.aload_n 0, 1) := by decide +kernel
theorem dX10_takesTest_31 : decode cX10_takesTest 31 = .ok (.iload_n 2, 1) := by decide +kernel
theorem dX10_takesTest_32 : decode cX10_takesTest 32 = .ok (.bipush 60, 2) := by decide +kernel
theorem dX10_takesTest_34 : decode cX10_takesTest 34 = .ok (.bipush 62, 2) := by decide +kernel
theorem dX10_takesTest_36 : decode cX10_takesTest 36 = .ok (.invokevirtual 267, 3) := by decide +kernel
theorem dX10_takesTest_39 : decode cX10_takesTest 39 = .ok (.ifCond .ne 5, 3) := by decide +kernel
theorem dX10_takesTest_42 : decode cX10_takesTest 42 = .ok (.iconst 0, 1) := by decide +kernel
theorem dX10_takesTest_43 : decode cX10_takesTest 43 = .ok (.ireturn, 1) := by decide +kernel
theorem dX10_takesTest_44 : decode cX10_takesTest 44 = .ok (.aload_n 0, 1) := by decide +kernel
theorem dX10_takesTest_45 : decode cX10_takesTest 45 = .ok (.dup, 1) := by decide +kernel
theorem dX10_takesTest_46 : decode cX10_takesTest 46 = .ok (.getfield 59, 3) := by decide +kernel
theorem dX10_takesTest_49 : decode cX10_takesTest 49 = .ok (.iconst 1, 1) := by decide +kernel
theorem dX10_takesTest_50 : decode cX10_takesTest 50 = .ok (.iadd, 1) := by decide +kernel
theorem dX10_takesTest_51 : decode cX10_takesTest 51 = .ok (.putfield 59, 3) := by decide +kernel
theorem dX10_takesTest_54 : decode cX10_takesTest 54 = .ok (.aload_n 0, 1) := by decide +kernel
theorem dX10_takesTest_55 : decode cX10_takesTest 55 = .ok (.invokevirtual 299, 3) := by decide +kernel
theorem dX10_takesTest_58 : decode cX10_takesTest 58 = .ok (.ifCond .ne 5, 3) := by decide +kernel
theorem dX10_takesTest_61 : decode cX10_takesTest 61 = .ok (.iconst 0, 1) := by decide +kernel
theorem dX10_takesTest_62 : decode cX10_takesTest 62 = .ok (.ireturn, 1) := by decide +kernel
theorem dX10_takesTest_63 : decode cX10_takesTest 63 = .ok (.aload_n 0, 1) := by decide +kernel
theorem dX10_takesTest_64 : decode cX10_takesTest 64 = .ok (.sipush 1000, 3) := by decide +kernel
theorem dX10_takesTest_67 : decode cX10_takesTest 67 = .ok (.iload_n 1, 1) := by decide +kernel
theorem dX10_takesTest_68 : decode cX10_takesTest 68 = .ok (.imul, 1) := by decide +kernel
theorem dX10_takesTest_69 : decode cX10_takesTest 69 = .ok (.bipush 100, 2) := by decide +kernel
theorem dX10_takesTest_71 : decode cX10_takesTest 71 = .ok (.iload_n 2, 1) := by decide +kernel
theorem dX10_takesTest_72 : decode cX10_takesTest 72 = .ok (.bipush 60, 2) := by decide +kernel
theorem dX10_takesTest_74 : decode cX10_takesTest 74 = .ok (.isub, 1) := by decide +kernel
theorem dX10_takesTest_75 : decode cX10_takesTest 75 = .ok (.imul, 1) := by decide +kernel
theorem dX10_takesTest_76 : decode cX10_takesTest 76 = .ok (.iadd, 1) := by decide +kernel
theorem dX10_takesTest_77 : decode cX10_takesTest 77 = .ok (.aload_n 0, 1) := by decide +kernel
theorem dX10_takesTest_78 : decode cX10_takesTest 78 = .ok (.getfield 62, 3) := by decide +kernel
theorem dX10_takesTest_81 : decode cX10_takesTest 81 = .ok (.iadd, 1) := by decide +kernel
theorem dX10_takesTest_82 : decode cX10_takesTest 82 = .ok (.invokevirtual 291, 3) := by decide +kernel
theorem dX10_takesTest_85 : decode cX10_takesTest 85 = .ok (.aload_n 0, 1) := by decide +kernel
theorem dX10_takesTest_86 : decode cX10_takesTest 86 = .ok (.invokevirtual 302, 3) := by decide +kernel
theorem dX10_takesTest_89 : decode cX10_takesTest 89 = .ok (.iconst 1, 1) := by decide +kernel
theorem dX10_takesTest_90 : decode cX10_takesTest 90 = .ok (.ireturn, 1) := by decide +kernel
def f_X10_takesTest   (u : PM) : Option (Int32 × PM) :=
  (f_X10_next u).bind fun r1 =>
  (f_X10_place r1 u).bind fun r3 =>
  if 0 ≤ r3 then
    (f_X10_next (pi u (40, 0, 0) 16 ((u.1 (40, 0, 0) 16) + (1 : Int32)))).bind fun r5 =>
    (f_X10_in r5 (60 : Int32) (62 : Int32) (pi u (40, 0, 0) 16 ((u.1 (40, 0, 0) 16) + (1 : Int32)))).bind fun r7 =>
    if r7 = 0 then
      some ((0 : Int32), (pi u (40, 0, 0) 16 ((u.1 (40, 0, 0) 16) + (1 : Int32))))
    else
    (f_X10_takesNumber (pi (pi u (40, 0, 0) 16 ((u.1 (40, 0, 0) 16) + (1 : Int32))) (40, 0, 0) 16 (((u.1 (40, 0, 0) 16) + (1 : Int32)) + (1 : Int32)))).bind fun (r9, u11) =>
    if r9 = 0 then
      some ((0 : Int32), u11)
    else
    (f_X10_put ((((1000 : Int32) * r3) + ((100 : Int32) * (r5 - (60 : Int32)))) + (u11.1 (40, 0, 0) 17)) u11).bind fun r12 =>
    (f_X10_whole r12).bind fun r14 =>
    some ((1 : Int32), r14)
  else
  some ((0 : Int32), u)
set_option maxHeartbeats 4000000 in
set_option maxRecDepth 20000 in
theorem C_X10_takesTest {l : Launch}   {u : PM} {x : Int32 × PM} (hf : f_X10_takesTest u = some x) : Ev l mX10_takesTest 4 0 0 false [vR (40, 0, 0)] kM (en u) (some (vI x.1), kM, en x.2) := by
  refine Ev_of (by decide +kernel) (le_b rfl) ?_
  unfold f_X10_takesTest at hf
  show X l mX10_takesTest 4 0 0 false _ kM 0 0 0 [some (vR (40, 0, 0)), none, none] [] (en u)
  refine r_aload_n (x := (40, 0, 0)) dX10_takesTest_0 rfl ?_
  refine r_aload_n (x := (40, 0, 0)) dX10_takesTest_1 rfl ?_
  obtain ⟨r1, hr2, hf⟩ := am_bind hf
  refine r_callV (as := []) (st := [vR (40, 0, 0)]) (n := 0) mw_X10_280 mv_X10_next (C_X10_next (l := l) hr2) (le_b rfl) dX10_takesTest_2 (kM_mem (s := 40) (by decide)) rfl rfl rfl (le_b rfl) (le_b rfl) (le_b rfl) ?_
  show X l _ _ 0 0 false _ kM 0 0 5 [some (vR (40, 0, 0)), none, none] [vI r1, vR (40, 0, 0)] (en u)
  obtain ⟨r3, hr4, hf⟩ := am_bind hf
  refine r_callV (as := [vI r1]) (st := []) (n := 1) mw_X10_295 mv_X10_place (C_X10_place (l := l) hr4) (le_b rfl) dX10_takesTest_5 (kM_mem (s := 40) (by decide)) rfl rfl rfl (le_b rfl) (le_b rfl) (le_b rfl) ?_
  show X l _ _ 0 0 false _ kM 0 0 8 [some (vR (40, 0, 0)), none, none] [vI r3] (en u)
  refine r_istore_n (L' := [some (vR (40, 0, 0)), some (vI r3), none]) dX10_takesTest_8 (by decide) rfl ?_
  refine r_iload_n (x := r3) dX10_takesTest_9 rfl ?_
  refine r_if_ge (tgt := 15) dX10_takesTest_10 (by decide) (fun hc => ?_) (fun hc => ?_)
  · have hf := (am_if hf).1 hc
    refine r_aload_n (x := (40, 0, 0)) dX10_takesTest_15 rfl ?_
    refine r_dup dX10_takesTest_16 rfl ?_
    refine e_geti fw_X10_59 dX10_takesTest_17 (kM_mem (s := 40) (by decide)) rfl (lt_b rfl) ?_
    refine r_iconst (v := 1) dX10_takesTest_20 rfl ?_
    refine r_iadd dX10_takesTest_21 ?_
    refine e_puti fp_X10_59 dX10_takesTest_22 (kM_mem (s := 40) (by decide)) rfl (lt_b rfl) rfl rfl rfl ?_
    refine r_aload_n (x := (40, 0, 0)) dX10_takesTest_25 rfl ?_
    obtain ⟨r5, hr6, hf⟩ := am_bind hf
    refine r_callV (as := []) (st := []) (n := 0) mw_X10_280 mv_X10_next (C_X10_next (l := l) hr6) (le_b rfl) dX10_takesTest_26 (kM_mem (s := 40) (by decide)) rfl rfl rfl (le_b rfl) (le_b rfl) (le_b rfl) ?_
    show X l _ _ 0 0 false _ kM 0 0 29 [some (vR (40, 0, 0)), some (vI r3), none] [vI r5] (en (pi u (40, 0, 0) 16 ((u.1 (40, 0, 0) 16) + (1 : Int32))))
    refine r_istore_n (L' := [some (vR (40, 0, 0)), some (vI r3), some (vI r5)]) dX10_takesTest_29 (by decide) rfl ?_
    refine r_aload_n (x := (40, 0, 0)) dX10_takesTest_30 rfl ?_
    refine r_iload_n (x := r5) dX10_takesTest_31 rfl ?_
    refine r_bipush (v := 60) dX10_takesTest_32 rfl ?_
    refine r_bipush (v := 62) dX10_takesTest_34 rfl ?_
    obtain ⟨r7, hr8, hf⟩ := am_bind hf
    refine r_callV (as := [vI r5, vI (60 : Int32), vI (62 : Int32)]) (st := []) (n := 3) mw_X10_267 mv_X10_in (C_X10_in (l := l) hr8) (le_b rfl) dX10_takesTest_36 (kM_mem (s := 40) (by decide)) rfl rfl rfl (le_b rfl) (le_b rfl) (le_b rfl) ?_
    show X l _ _ 0 0 false _ kM 0 0 39 [some (vR (40, 0, 0)), some (vI r3), some (vI r5)] [vI r7] (en (pi u (40, 0, 0) 16 ((u.1 (40, 0, 0) 16) + (1 : Int32))))
    refine r_if_ne (tgt := 44) dX10_takesTest_39 (by decide) (fun hc => ?_) (fun hc => ?_)
    · have hf := (am_if hf).2 hc
      refine r_aload_n (x := (40, 0, 0)) dX10_takesTest_44 rfl ?_
      refine r_dup dX10_takesTest_45 rfl ?_
      refine e_geti_ (x := (u.1 (40, 0, 0) 16) + (1 : Int32)) fw_X10_59 dX10_takesTest_46 (kM_mem (s := 40) (by decide)) rfl (lt_b rfl) (by simp [pi, pl, pr, pci, pcl]) ?_
      refine r_iconst (v := 1) dX10_takesTest_49 rfl ?_
      refine r_iadd dX10_takesTest_50 ?_
      refine e_puti fp_X10_59 dX10_takesTest_51 (kM_mem (s := 40) (by decide)) rfl (lt_b rfl) rfl rfl rfl ?_
      refine r_aload_n (x := (40, 0, 0)) dX10_takesTest_54 rfl ?_
      obtain ⟨⟨r9, u11⟩, hr10, hf⟩ := am_bind hf
      refine r_callV (as := []) (st := []) (n := 0) mw_X10_299 mv_X10_takesNumber (C_X10_takesNumber (l := l) hr10) (le_b rfl) dX10_takesTest_55 (kM_mem (s := 40) (by decide)) rfl rfl rfl (le_b rfl) (le_b rfl) (le_b rfl) ?_
      show X l _ _ 0 0 false _ kM 0 0 58 [some (vR (40, 0, 0)), some (vI r3), some (vI r5)] [vI r9] (en u11)
      refine r_if_ne (tgt := 63) dX10_takesTest_58 (by decide) (fun hc => ?_) (fun hc => ?_)
      · have hf := (am_if hf).2 hc
        refine r_aload_n (x := (40, 0, 0)) dX10_takesTest_63 rfl ?_
        refine r_sipush (v := 1000) dX10_takesTest_64 rfl ?_
        refine r_iload_n (x := r3) dX10_takesTest_67 rfl ?_
        refine r_imul dX10_takesTest_68 ?_
        refine r_bipush (v := 100) dX10_takesTest_69 rfl ?_
        refine r_iload_n (x := r5) dX10_takesTest_71 rfl ?_
        refine r_bipush (v := 60) dX10_takesTest_72 rfl ?_
        refine r_isub dX10_takesTest_74 ?_
        refine r_imul dX10_takesTest_75 ?_
        refine r_iadd dX10_takesTest_76 ?_
        refine r_aload_n (x := (40, 0, 0)) dX10_takesTest_77 rfl ?_
        refine e_geti fw_X10_62 dX10_takesTest_78 (kM_mem (s := 40) (by decide)) rfl (lt_b rfl) ?_
        refine r_iadd dX10_takesTest_81 ?_
        obtain ⟨r12, hr13, hf⟩ := am_bind hf
        refine r_callV (as := [vI ((((1000 : Int32) * r3) + ((100 : Int32) * (r5 - (60 : Int32)))) + (u11.1 (40, 0, 0) 17))]) (st := []) (n := 1) mw_X10_291 mv_X10_put (C_X10_put (l := l) hr13) (le_b rfl) dX10_takesTest_82 (kM_mem (s := 40) (by decide)) rfl rfl rfl (le_b rfl) (le_b rfl) (le_b rfl) ?_
        show X l _ _ 0 0 false _ kM 0 0 85 [some (vR (40, 0, 0)), some (vI r3), some (vI r5)] [] (en r12)
        refine r_aload_n (x := (40, 0, 0)) dX10_takesTest_85 rfl ?_
        obtain ⟨r14, hr15, hf⟩ := am_bind hf
        refine r_callV (as := []) (st := []) (n := 0) mw_X10_302 mv_X10_whole (C_X10_whole (l := l) hr15) (le_b rfl) dX10_takesTest_86 (kM_mem (s := 40) (by decide)) rfl rfl rfl (le_b rfl) (le_b rfl) (le_b rfl) ?_
        show X l _ _ 0 0 false _ kM 0 0 89 [some (vR (40, 0, 0)), some (vI r3), some (vI r5)] [] (en r14)
        refine r_iconst (v := 1) dX10_takesTest_89 rfl ?_
        have hx := am_inj hf
        subst hx
        exact r_iret dX10_takesTest_90 rfl (am_bool (x := 1) (by decide)).1 (le_b rfl) (le_b rfl)
      · have hf := (am_if hf).1 hc
        refine r_iconst (v := 0) dX10_takesTest_61 rfl ?_
        have hx := am_inj hf
        subst hx
        exact r_iret dX10_takesTest_62 rfl (am_bool (x := 0) (by decide)).1 (le_b rfl) (le_b rfl)
    · have hf := (am_if hf).1 hc
      refine r_iconst (v := 0) dX10_takesTest_42 rfl ?_
      have hx := am_inj hf
      subst hx
      exact r_iret dX10_takesTest_43 rfl (am_bool (x := 0) (by decide)).1 (le_b rfl) (le_b rfl)
  · have hf := (am_if hf).2 hc
    refine r_iconst (v := 0) dX10_takesTest_13 rfl ?_
    have hx := am_inj hf
    subst hx
    exact r_iret dX10_takesTest_14 rfl (am_bool (x := 0) (by decide)).1 (le_b rfl) (le_b rfl)
/-! FireFromFireModel.takesE -/
theorem dX10_takesE_0 : decode cX10_takesE 0 = .ok (.aload_n 0, 1) := by decide +kernel
theorem dX10_takesE_1 : decode cX10_takesE 1 = .ok (.iconst 0, 1) := by decide +kernel
theorem dX10_takesE_2 : decode cX10_takesE 2 = .ok (.putfield 95, 3) := by decide +kernel
theorem dX10_takesE_5 : decode cX10_takesE 5 = .ok (.aload_n 0, 1) := by decide +kernel
theorem dX10_takesE_6 : decode cX10_takesE 6 = .ok (.iconst 0, 1) := by decide +kernel
theorem dX10_takesE_7 : decode cX10_takesE 7 = .ok (.putfield 98, 3) := by decide +kernel
theorem dX10_takesE_10 : decode cX10_takesE 10 = .ok (.aload_n 0, 1) := by decide +kernel
theorem dX10_takesE_11 : decode cX10_takesE 11 = .ok (.getfield 80, 3) := by decide +kernel
theorem dX10_takesE_14 : decode cX10_takesE 14 = .ok (.iload_n 1, 1) := by decide +kernel
theorem dX10_takesE_15 : decode cX10_takesE 15 = .ok (.aload_n 0, 1) := by decide +kernel
theorem dX10_takesE_16 : decode cX10_takesE 16 = .ok (.getfield 92, 3) := by decide +kernel
theorem dX10_takesE_19 : decode cX10_takesE 19 = .ok (.iastore, 1) := by decide +kernel
theorem dX10_takesE_20 : decode cX10_takesE 20 = .ok (.iconst 1, 1) := by decide +kernel
theorem dX10_takesE_21 : decode cX10_takesE 21 = .ok (.istore_n 2, 1) := by decide +kernel
theorem dX10_takesE_22 : decode cX10_takesE 22 = .ok (.aload_n 0, 1) := by decide +kernel
theorem dX10_takesE_23 : decode cX10_takesE 23 = .ok (.invokevirtual 280, 3) := by decide +kernel
theorem dX10_takesE_26 : decode cX10_takesE 26 = .ok (.istore_n 3, 1) := by decide +kernel
theorem dX10_takesE_27 : decode cX10_takesE 27 = .ok (.iload_n 2, 1) := by decide +kernel
theorem dX10_takesE_28 : decode cX10_takesE 28 = .ok (.ifCond .eq 82, 3) := by decide +kernel
theorem dX10_takesE_31 : decode cX10_takesE 31 = .ok (.iload_n 3, 1) := by decide +kernel
theorem dX10_takesE_32 : decode cX10_takesE 32 = .ok (.bipush 33, 2) := by decide +kernel
theorem dX10_takesE_34 : decode cX10_takesE 34 = .ok (.if_icmp .eq 9, 3) := by decide +kernel
theorem dX10_takesE_37 : decode cX10_takesE 37 = .ok (.iload_n 3, 1) := by decide +kernel
theorem dX10_takesE_38 : decode cX10_takesE 38 = .ok (.bipush 40, 2) := by decide +kernel
theorem dX10_takesE_40 : decode cX10_takesE 40 = .ok (.if_icmp .ne 56, 3) := by decide +kernel
theorem dX10_takesE_43 : decode cX10_takesE 43 = .ok (.aload_n 0, 1) := by decide +kernel
theorem dX10_takesE_44 : decode cX10_takesE 44 = .ok (.getfield 98, 3) := by decide +kernel
theorem dX10_takesE_47 : decode cX10_takesE 47 = .ok (.iconst 4, 1) := by decide +kernel
theorem dX10_takesE_48 : decode cX10_takesE 48 = .ok (.if_icmp .ne 5, 3) := by decide +kernel
theorem dX10_takesE_51 : decode cX10_takesE 51 = .ok (.iconst 0, 1) := by decide +kernel
theorem dX10_takesE_52 : decode cX10_takesE 52 = .ok (.ireturn, 1) := by decide +kernel
theorem dX10_takesE_53 : decode cX10_takesE 53 = .ok (.aload_n 0, 1) := by decide +kernel
theorem dX10_takesE_54 : decode cX10_takesE 54 = .ok (.dup, 1) := by decide +kernel
theorem dX10_takesE_55 : decode cX10_takesE 55 = .ok (.getfield 98, 3) := by decide +kernel
theorem dX10_takesE_58 : decode cX10_takesE 58 = .ok (.iconst 1, 1) := by decide +kernel
theorem dX10_takesE_59 : decode cX10_takesE 59 = .ok (.iadd, 1) := by decide +kernel
theorem dX10_takesE_60 : decode cX10_takesE 60 = .ok (.putfield 98, 3) := by decide +kernel
theorem dX10_takesE_63 : decode cX10_takesE 63 = .ok (.aload_n 0, 1) := by decide +kernel
theorem dX10_takesE_64 : decode cX10_takesE 64 = .ok (.getfield 89, 3) := by decide +kernel
theorem dX10_takesE_67 : decode cX10_takesE 67 = .ok (.aload_n 0, 1) := by decide +kernel
theorem dX10_takesE_68 : decode cX10_takesE 68 = .ok (.getfield 95, 3) := by decide +kernel
theorem dX10_takesE_71 : decode cX10_takesE 71 = .ok (.iload_n 3, 1) := by decide +kernel
theorem dX10_takesE_72 : decode cX10_takesE 72 = .ok (.iastore, 1) := by decide +kernel
theorem dX10_takesE_73 : decode cX10_takesE 73 = .ok (.aload_n 0, 1) := by decide +kernel
theorem dX10_takesE_74 : decode cX10_takesE 74 = .ok (.dup, 1) := by decide +kernel
theorem dX10_takesE_75 : decode cX10_takesE 75 = .ok (.getfield 95, 3) := by decide +kernel
theorem dX10_takesE_78 : decode cX10_takesE 78 = .ok (.iconst 1, 1) := by decide +kernel
theorem dX10_takesE_79 : decode cX10_takesE 79 = .ok (.iadd, 1) := by decide +kernel
theorem dX10_takesE_80 : decode cX10_takesE 80 = .ok (.putfield 95, 3) := by decide +kernel
theorem dX10_takesE_83 : decode cX10_takesE 83 = .ok (.aload_n 0, 1) := by decide +kernel
theorem dX10_takesE_84 : decode cX10_takesE 84 = .ok (.dup, 1) := by decide +kernel
theorem dX10_takesE_85 : decode cX10_takesE 85 = .ok (.getfield 59, 3) := by decide +kernel
theorem dX10_takesE_88 : decode cX10_takesE 88 = .ok (.iconst 1, 1) := by decide +kernel
theorem dX10_takesE_89 : decode cX10_takesE 89 = .ok (.iadd, 1) := by decide +kernel
theorem dX10_takesE_90 : decode cX10_takesE 90 = .ok (.putfield 59, 3) := by decide +kernel
theorem dX10_takesE_93 : decode cX10_takesE 93 = .ok (.goto (-71), 3) := by decide +kernel
theorem dX10_takesE_96 : decode cX10_takesE 96 = .ok (.aload_n 0, 1) := by decide +kernel
theorem dX10_takesE_97 : decode cX10_takesE 97 = .ok (.invokevirtual 305, 3) := by decide +kernel
theorem dX10_takesE_100 : decode cX10_takesE 100 = .ok (.ifCond .eq 8, 3) := by decide +kernel
theorem dX10_takesE_103 : decode cX10_takesE 103 = .ok (.iconst 0, 1) := by decide +kernel
theorem dX10_takesE_104 : decode cX10_takesE 104 = .ok (.istore_n 2, 1) := by decide +kernel
theorem dX10_takesE_105 : decode cX10_takesE 105 = .ok (.goto (-83), 3) := by decide +kernel
theorem dX10_takesE_108 : decode cX10_takesE 108 = .ok (.iconst 0, 1) := by decide +kernel
theorem dX10_takesE_109 : decode cX10_takesE 109 = .ok (.ireturn, 1) := by decide +kernel
theorem dX10_takesE_110 : decode cX10_takesE 110 = .ok (.iload_n 3, 1) := by decide +kernel
theorem dX10_takesE_111 : decode cX10_takesE 111 = .ok (.bipush 38, 2) := by decide +kernel
theorem dX10_takesE_113 : decode cX10_takesE 113 = .ok (.if_icmp .eq 9, 3) := by decide +kernel
theorem dX10_takesE_116 : decode cX10_takesE 116 = .ok (.iload_n 3, 1) := by decide +kernel
theorem dX10_takesE_117 : decode cX10_takesE 117 = .ok (.bipush 124, 2) := by decide +kernel
theorem dX10_takesE_119 : decode cX10_takesE 119 = .ok (.if_icmp .ne 43, 3) := by decide +kernel
theorem dX10_takesE_122 : decode cX10_takesE 122 = .ok (.aload_n 0, 1) := by decide +kernel
theorem dX10_takesE_123 : decode cX10_takesE 123 = .ok (.iload_n 3, 1) := by decide +kernel
theorem dX10_takesE_124 : decode cX10_takesE 124 = .ok (.invokevirtual 308, 3) := by decide +kernel
theorem dX10_takesE_127 : decode cX10_takesE 127 = .ok (.aload_n 0, 1) := by decide +kernel
theorem dX10_takesE_128 : decode cX10_takesE 128 = .ok (.getfield 89, 3) := by decide +kernel
theorem dX10_takesE_131 : decode cX10_takesE 131 = .ok (.aload_n 0, 1) := by decide +kernel
theorem dX10_takesE_132 : decode cX10_takesE 132 = .ok (.getfield 95, 3) := by decide +kernel
theorem dX10_takesE_135 : decode cX10_takesE 135 = .ok (.iload_n 3, 1) := by decide +kernel
theorem dX10_takesE_136 : decode cX10_takesE 136 = .ok (.iastore, 1) := by decide +kernel
theorem dX10_takesE_137 : decode cX10_takesE 137 = .ok (.aload_n 0, 1) := by decide +kernel
theorem dX10_takesE_138 : decode cX10_takesE 138 = .ok (.dup, 1) := by decide +kernel
theorem dX10_takesE_139 : decode cX10_takesE 139 = .ok (.getfield 95, 3) := by decide +kernel
theorem dX10_takesE_142 : decode cX10_takesE 142 = .ok (.iconst 1, 1) := by decide +kernel
theorem dX10_takesE_143 : decode cX10_takesE 143 = .ok (.iadd, 1) := by decide +kernel
theorem dX10_takesE_144 : decode cX10_takesE 144 = .ok (.putfield 95, 3) := by decide +kernel
theorem dX10_takesE_147 : decode cX10_takesE 147 = .ok (.iconst 1, 1) := by decide +kernel
theorem dX10_takesE_148 : decode cX10_takesE 148 = .ok (.istore_n 2, 1) := by decide +kernel
theorem dX10_takesE_149 : decode cX10_takesE 149 = .ok (.aload_n 0, 1) := by decide +kernel
theorem dX10_takesE_150 : decode cX10_takesE 150 = .ok (.dup, 1) := by decide +kernel
theorem dX10_takesE_151 : decode cX10_takesE 151 = .ok (.getfield 59, 3) := by decide +kernel
theorem dX10_takesE_154 : decode cX10_takesE 154 = .ok (.iconst 1, 1) := by decide +kernel
theorem dX10_takesE_155 : decode cX10_takesE 155 = .ok (.iadd, 1) := by decide +kernel
theorem dX10_takesE_156 : decode cX10_takesE 156 = .ok (.putfield 59, 3) := by decide +kernel
theorem dX10_takesE_159 : decode cX10_takesE 159 = .ok (.goto (-137), 3) := by decide +kernel
theorem dX10_takesE_162 : decode cX10_takesE 162 = .ok (.aload_n 0, 1) := by decide +kernel
theorem dX10_takesE_163 : decode cX10_takesE 163 = .ok (.bipush 124, 2) := by decide +kernel
theorem dX10_takesE_165 : decode cX10_takesE 165 = .ok (.invokevirtual 308, 3) := by decide +kernel
theorem dX10_takesE_168 : decode cX10_takesE 168 = .ok (.aload_n 0, 1) := by decide +kernel
theorem dX10_takesE_169 : decode cX10_takesE 169 = .ok (.getfield 83, 3) := by decide +kernel
theorem dX10_takesE_172 : decode cX10_takesE 172 = .ok (.iload_n 1, 1) := by decide +kernel
theorem dX10_takesE_173 : decode cX10_takesE 173 = .ok (.aload_n 0, 1) := by decide +kernel
theorem dX10_takesE_174 : decode cX10_takesE 174 = .ok (.getfield 92, 3) := by decide +kernel
theorem dX10_takesE_177 : decode cX10_takesE 177 = .ok (.iastore, 1) := by decide +kernel
theorem dX10_takesE_178 : decode cX10_takesE 178 = .ok (.aload_n 0, 1) := by decide +kernel
theorem dX10_takesE_179 : decode cX10_takesE 179 = .ok (.getfield 95, 3) := by decide +kernel
theorem dX10_takesE_182 : decode cX10_takesE 182 = .ok (.ifCond .ne 5, 3) := by decide +kernel
theorem dX10_takesE_185 : decode cX10_takesE 185 = .ok (.iconst 1, 1) := by decide +kernel
theorem dX10_takesE_186 : decode cX10_takesE 186 = .ok (.ireturn, 1) := by decide +kernel
theorem dX10_takesE_187 : decode cX10_takesE 187 = .ok (.iload_n 3, 1) := by decide +kernel
theorem dX10_takesE_188 : decode cX10_takesE 188 = .ok (.bipush 41, 2) := by decide +kernel
theorem dX10_takesE_190 : decode cX10_takesE 190 = .ok (.if_icmp .eq 5, 3) := by decide +kernel
theorem dX10_takesE_193 : decode cX10_takesE 193 = .ok (.iconst 0, 1) := by decide +kernel
theorem dX10_takesE_194 : decode cX10_takesE 194 = .ok (.ireturn, 1) := by decide +kernel
theorem dX10_takesE_195 : decode cX10_takesE 195 = .ok (.aload_n 0, 1) := by decide +kernel
theorem dX10_takesE_196 : decode cX10_takesE 196 = .ok (.dup, 1) := by decide +kernel
theorem dX10_takesE_197 : decode cX10_takesE 197 = .ok (.getfield 95, 3) := by decide +kernel
theorem dX10_takesE_200 : decode cX10_takesE 200 = .ok (.iconst 1, 1) := by decide +kernel
theorem dX10_takesE_201 : decode cX10_takesE 201 = .ok (.isub, 1) := by decide +kernel
theorem dX10_takesE_202 : decode cX10_takesE 202 = .ok (.putfield 95, 3) := by decide +kernel
theorem dX10_takesE_205 : decode cX10_takesE 205 = .ok (.aload_n 0, 1) := by decide +kernel
theorem dX10_takesE_206 : decode cX10_takesE 206 = .ok (.dup, 1) := by decide +kernel
theorem dX10_takesE_207 : decode cX10_takesE 207 = .ok (.getfield 98, 3) := by decide +kernel
theorem dX10_takesE_210 : decode cX10_takesE 210 = .ok (.iconst 1, 1) := by decide +kernel
theorem dX10_takesE_211 : decode cX10_takesE 211 = .ok (.isub, 1) := by decide +kernel
theorem dX10_takesE_212 : decode cX10_takesE 212 = .ok (.putfield 98, 3) := by decide +kernel
theorem dX10_takesE_215 : decode cX10_takesE 215 = .ok (.aload_n 0, 1) := by decide +kernel
theorem dX10_takesE_216 : decode cX10_takesE 216 = .ok (.dup, 1) := by decide +kernel
theorem dX10_takesE_217 : decode cX10_takesE 217 = .ok (.getfield 59, 3) := by decide +kernel
theorem dX10_takesE_220 : decode cX10_takesE 220 = .ok (.iconst 1, 1) := by decide +kernel
theorem dX10_takesE_221 : decode cX10_takesE 221 = .ok (.iadd, 1) := by decide +kernel
theorem dX10_takesE_222 : decode cX10_takesE 222 = .ok (.putfield 59, 3) := by decide +kernel
theorem dX10_takesE_225 : decode cX10_takesE 225 = .ok (.aload_n 0, 1) := by decide +kernel
theorem dX10_takesE_226 : decode cX10_takesE 226 = .ok (.invokevirtual 302, 3) := by decide +kernel
theorem dX10_takesE_229 : decode cX10_takesE 229 = .ok (.goto (-207), 3) := by decide +kernel
def f_X10_takesE_L22  (c1 : Int32) : Int32 × PM → Option ((Int32 × PM) ⊕ (Int32 × PM)) := fun (x2 , u) =>
  (f_X10_next u).bind fun r2 =>
  if x2 = 0 then
    if r2 = (38 : Int32) then
      (f_X10_settle r2 u).bind fun r4 =>
      if (r4.1 (40, 0, 0) 28) < 0 ∨ 101 ≤ (r4.1 (40, 0, 0) 28).toNatClampNeg then none else
      some (.inl ((1 : Int32), (pi (pi (pi r4 (58, 0, 0) ((r4.1 (40, 0, 0) 28).toNatClampNeg) r2) (40, 0, 0) 28 ((r4.1 (40, 0, 0) 28) + (1 : Int32))) (40, 0, 0) 16 ((r4.1 (40, 0, 0) 16) + (1 : Int32)))))
    else
    if r2 = (124 : Int32) then
      (f_X10_settle r2 u).bind fun r12 =>
      if (r12.1 (40, 0, 0) 28) < 0 ∨ 101 ≤ (r12.1 (40, 0, 0) 28).toNatClampNeg then none else
      some (.inl ((1 : Int32), (pi (pi (pi r12 (58, 0, 0) ((r12.1 (40, 0, 0) 28).toNatClampNeg) r2) (40, 0, 0) 28 ((r12.1 (40, 0, 0) 28) + (1 : Int32))) (40, 0, 0) 16 ((r12.1 (40, 0, 0) 16) + (1 : Int32)))))
    else
    (f_X10_settle (124 : Int32) u).bind fun r7 =>
    if c1 < 0 ∨ 50 ≤ c1.toNatClampNeg then none else
    if (r7.1 (40, 0, 0) 28) = 0 then
      some (.inr ((1 : Int32), (pi r7 (56, 0, 0) c1.toNatClampNeg (r7.1 (40, 0, 0) 27))))
    else
    if r2 = (41 : Int32) then
      (f_X10_whole (pi (pi (pi (pi r7 (56, 0, 0) c1.toNatClampNeg (r7.1 (40, 0, 0) 27)) (40, 0, 0) 28 ((r7.1 (40, 0, 0) 28) - (1 : Int32))) (40, 0, 0) 29 ((r7.1 (40, 0, 0) 29) - (1 : Int32))) (40, 0, 0) 16 ((r7.1 (40, 0, 0) 16) + (1 : Int32)))).bind fun r10 =>
      some (.inl (x2, r10))
    else
    some (.inr ((0 : Int32), (pi r7 (56, 0, 0) c1.toNatClampNeg (r7.1 (40, 0, 0) 27))))
  else
  if r2 = (33 : Int32) then
    if (u.1 (40, 0, 0) 29) = (4 : Int32) then
      some (.inr ((0 : Int32), u))
    else
    if (u.1 (40, 0, 0) 28) < 0 ∨ 101 ≤ (u.1 (40, 0, 0) 28).toNatClampNeg then none else
    some (.inl (x2, (pi (pi (pi (pi u (40, 0, 0) 29 ((u.1 (40, 0, 0) 29) + (1 : Int32))) (58, 0, 0) ((u.1 (40, 0, 0) 28).toNatClampNeg) r2) (40, 0, 0) 28 ((u.1 (40, 0, 0) 28) + (1 : Int32))) (40, 0, 0) 16 ((u.1 (40, 0, 0) 16) + (1 : Int32)))))
  else
  if r2 = (40 : Int32) then
    if (u.1 (40, 0, 0) 29) = (4 : Int32) then
      some (.inr ((0 : Int32), u))
    else
    if (u.1 (40, 0, 0) 28) < 0 ∨ 101 ≤ (u.1 (40, 0, 0) 28).toNatClampNeg then none else
    some (.inl (x2, (pi (pi (pi (pi u (40, 0, 0) 29 ((u.1 (40, 0, 0) 29) + (1 : Int32))) (58, 0, 0) ((u.1 (40, 0, 0) 28).toNatClampNeg) r2) (40, 0, 0) 28 ((u.1 (40, 0, 0) 28) + (1 : Int32))) (40, 0, 0) 16 ((u.1 (40, 0, 0) 16) + (1 : Int32)))))
  else
  (f_X10_takesTest u).bind fun (r16, u18) =>
  if r16 = 0 then
    some (.inr ((0 : Int32), u18))
  else
  some (.inl ((0 : Int32), u18))
set_option maxHeartbeats 4000000 in
set_option maxRecDepth 20000 in
theorem K_X10_takesE_L22 {l : Launch} {T : Option AV × List Key × AM}  {c1 : Int32} : ∀ (n : Nat) (s : Int32 × PM) (e0 : Int32 × PM), am_loop (f_X10_takesE_L22 c1) n s = some e0 → (fun r : Int32 × PM => T = (some (vI r.1), kM, en r.2)) e0 → X l mX10_takesE 5 0 0 false T kM 0 0 22 [some (vR (40, 0, 0)), some (vI c1), some (vI s.1), none] [] (en s.2) := by
  refine am_loop_of ?_
  intro s x hf k1 k2
  obtain ⟨x2 , u⟩ := s
  unfold f_X10_takesE_L22 at hf
  show X l mX10_takesE 5 0 0 false T kM 0 0 22 [some (vR (40, 0, 0)), some (vI c1), some (vI x2), none] [] (en u)
  refine r_aload_n (x := (40, 0, 0)) dX10_takesE_22 rfl ?_
  obtain ⟨r2, hr3, hf⟩ := am_bind hf
  refine r_callV (as := []) (st := []) (n := 0) mw_X10_280 mv_X10_next (C_X10_next (l := l) hr3) (le_b rfl) dX10_takesE_23 (kM_mem (s := 40) (by decide)) rfl rfl rfl (le_b rfl) (le_b rfl) (le_b rfl) ?_
  show X l _ _ 0 0 false _ kM 0 0 26 [some (vR (40, 0, 0)), some (vI c1), some (vI x2), none] [vI r2] (en u)
  refine r_istore_n (L' := [some (vR (40, 0, 0)), some (vI c1), some (vI x2), some (vI r2)]) dX10_takesE_26 (by decide) rfl ?_
  refine r_iload_n (x := x2) dX10_takesE_27 rfl ?_
  refine r_if_eq (tgt := 110) dX10_takesE_28 (by decide) (fun hc => ?_) (fun hc => ?_)
  · have hf := (am_if hf).1 hc
    refine r_iload_n (x := r2) dX10_takesE_110 rfl ?_
    refine r_bipush (v := 38) dX10_takesE_111 rfl ?_
    refine r_icmp_eq (tgt := 122) dX10_takesE_113 (by decide) (fun hc => ?_) (fun hc => ?_)
    · have hf := (am_if hf).1 hc
      refine r_aload_n (x := (40, 0, 0)) dX10_takesE_122 rfl ?_
      refine r_iload_n (x := r2) dX10_takesE_123 rfl ?_
      obtain ⟨r4, hr5, hf⟩ := am_bind hf
      refine r_callV (as := [vI r2]) (st := []) (n := 1) mw_X10_308 mv_X10_settle (C_X10_settle (l := l) hr5) (le_b rfl) dX10_takesE_124 (kM_mem (s := 40) (by decide)) rfl rfl rfl (le_b rfl) (le_b rfl) (le_b rfl) ?_
      show X l _ _ 0 0 false _ kM 0 0 127 [some (vR (40, 0, 0)), some (vI c1), some (vI x2), some (vI r2)] [] (en r4)
      refine r_aload_n (x := (40, 0, 0)) dX10_takesE_127 rfl ?_
      refine e_getr (z := some (58, 0, 0)) fw_X10_89 dX10_takesE_128 (kM_mem (s := 40) (by decide)) rfl (lt_b rfl) rfl ?_
      refine r_aload_n (x := (40, 0, 0)) dX10_takesE_131 rfl ?_
      refine e_geti fw_X10_95 dX10_takesE_132 (kM_mem (s := 40) (by decide)) rfl (lt_b rfl) ?_
      refine r_iload_n (x := r2) dX10_takesE_135 rfl ?_
      obtain ⟨h6, hf⟩ := am_nchk hf
      refine e_iast (n := (r4.1 (40, 0, 0) 28).toNatClampNeg) dX10_takesE_136 (kM_mem (s := 58) (by decide)) rfl h6 rfl ?_
      refine r_aload_n (x := (40, 0, 0)) dX10_takesE_137 rfl ?_
      refine r_dup dX10_takesE_138 rfl ?_
      refine e_geti_ (x := r4.1 (40, 0, 0) 28) fw_X10_95 dX10_takesE_139 (kM_mem (s := 40) (by decide)) rfl (lt_b rfl) (by simp [pi, pl, pr, pci, pcl]) ?_
      refine r_iconst (v := 1) dX10_takesE_142 rfl ?_
      refine r_iadd dX10_takesE_143 ?_
      refine e_puti fp_X10_95 dX10_takesE_144 (kM_mem (s := 40) (by decide)) rfl (lt_b rfl) rfl rfl rfl ?_
      refine r_iconst (v := 1) dX10_takesE_147 rfl ?_
      refine r_istore_n (L' := [some (vR (40, 0, 0)), some (vI c1), some (vI (1 : Int32)), some (vI r2)]) dX10_takesE_148 (by decide) rfl ?_
      refine r_aload_n (x := (40, 0, 0)) dX10_takesE_149 rfl ?_
      refine r_dup dX10_takesE_150 rfl ?_
      refine e_geti_ (x := r4.1 (40, 0, 0) 16) fw_X10_59 dX10_takesE_151 (kM_mem (s := 40) (by decide)) rfl (lt_b rfl) (by simp [pi, pl, pr, pci, pcl]) ?_
      refine r_iconst (v := 1) dX10_takesE_154 rfl ?_
      refine r_iadd dX10_takesE_155 ?_
      refine e_puti fp_X10_59 dX10_takesE_156 (kM_mem (s := 40) (by decide)) rfl (lt_b rfl) rfl rfl rfl ?_
      refine r_goto (tgt := 22) dX10_takesE_159 (by decide) ?_
      refine r_weak (L' := [some (vR (40, 0, 0)), some (vI c1), some (vI (1 : Int32)), none]) (And.intro rfl (And.intro rfl (And.intro rfl trivial))) ?_
      exact k1 ((1 : Int32), (pi (pi (pi r4 (58, 0, 0) ((r4.1 (40, 0, 0) 28).toNatClampNeg) r2) (40, 0, 0) 28 ((r4.1 (40, 0, 0) 28) + (1 : Int32))) (40, 0, 0) 16 ((r4.1 (40, 0, 0) 16) + (1 : Int32)))) (am_inj hf).symm
    · have hf := (am_if hf).2 hc
      refine r_iload_n (x := r2) dX10_takesE_116 rfl ?_
      refine r_bipush (v := 124) dX10_takesE_117 rfl ?_
      refine r_icmp_ne (tgt := 162) dX10_takesE_119 (by decide) (fun hc => ?_) (fun hc => ?_)
      · have hf := (am_if hf).2 hc
        refine r_aload_n (x := (40, 0, 0)) dX10_takesE_162 rfl ?_
        refine r_bipush (v := 124) dX10_takesE_163 rfl ?_
        obtain ⟨r7, hr8, hf⟩ := am_bind hf
        refine r_callV (as := [vI (124 : Int32)]) (st := []) (n := 1) mw_X10_308 mv_X10_settle (C_X10_settle (l := l) hr8) (le_b rfl) dX10_takesE_165 (kM_mem (s := 40) (by decide)) rfl rfl rfl (le_b rfl) (le_b rfl) (le_b rfl) ?_
        show X l _ _ 0 0 false _ kM 0 0 168 [some (vR (40, 0, 0)), some (vI c1), some (vI x2), some (vI r2)] [] (en r7)
        refine r_aload_n (x := (40, 0, 0)) dX10_takesE_168 rfl ?_
        refine e_getr (z := some (56, 0, 0)) fw_X10_83 dX10_takesE_169 (kM_mem (s := 40) (by decide)) rfl (lt_b rfl) rfl ?_
        refine r_iload_n (x := c1) dX10_takesE_172 rfl ?_
        refine r_aload_n (x := (40, 0, 0)) dX10_takesE_173 rfl ?_
        refine e_geti fw_X10_92 dX10_takesE_174 (kM_mem (s := 40) (by decide)) rfl (lt_b rfl) ?_
        obtain ⟨h9, hf⟩ := am_nchk hf
        refine e_iast (n := c1.toNatClampNeg) dX10_takesE_177 (kM_mem (s := 56) (by decide)) rfl h9 rfl ?_
        refine r_aload_n (x := (40, 0, 0)) dX10_takesE_178 rfl ?_
        refine e_geti_ (x := r7.1 (40, 0, 0) 28) fw_X10_95 dX10_takesE_179 (kM_mem (s := 40) (by decide)) rfl (lt_b rfl) (by simp [pi, pl, pr, pci, pcl]) ?_
        refine r_if_ne (tgt := 187) dX10_takesE_182 (by decide) (fun hc => ?_) (fun hc => ?_)
        · have hf := (am_if hf).2 hc
          refine r_iload_n (x := r2) dX10_takesE_187 rfl ?_
          refine r_bipush (v := 41) dX10_takesE_188 rfl ?_
          refine r_icmp_eq (tgt := 195) dX10_takesE_190 (by decide) (fun hc => ?_) (fun hc => ?_)
          · have hf := (am_if hf).1 hc
            refine r_aload_n (x := (40, 0, 0)) dX10_takesE_195 rfl ?_
            refine r_dup dX10_takesE_196 rfl ?_
            refine e_geti_ (x := r7.1 (40, 0, 0) 28) fw_X10_95 dX10_takesE_197 (kM_mem (s := 40) (by decide)) rfl (lt_b rfl) (by simp [pi, pl, pr, pci, pcl]) ?_
            refine r_iconst (v := 1) dX10_takesE_200 rfl ?_
            refine r_isub dX10_takesE_201 ?_
            refine e_puti fp_X10_95 dX10_takesE_202 (kM_mem (s := 40) (by decide)) rfl (lt_b rfl) rfl rfl rfl ?_
            refine r_aload_n (x := (40, 0, 0)) dX10_takesE_205 rfl ?_
            refine r_dup dX10_takesE_206 rfl ?_
            refine e_geti_ (x := r7.1 (40, 0, 0) 29) fw_X10_98 dX10_takesE_207 (kM_mem (s := 40) (by decide)) rfl (lt_b rfl) (by simp [pi, pl, pr, pci, pcl]) ?_
            refine r_iconst (v := 1) dX10_takesE_210 rfl ?_
            refine r_isub dX10_takesE_211 ?_
            refine e_puti fp_X10_98 dX10_takesE_212 (kM_mem (s := 40) (by decide)) rfl (lt_b rfl) rfl rfl rfl ?_
            refine r_aload_n (x := (40, 0, 0)) dX10_takesE_215 rfl ?_
            refine r_dup dX10_takesE_216 rfl ?_
            refine e_geti_ (x := r7.1 (40, 0, 0) 16) fw_X10_59 dX10_takesE_217 (kM_mem (s := 40) (by decide)) rfl (lt_b rfl) (by simp [pi, pl, pr, pci, pcl]) ?_
            refine r_iconst (v := 1) dX10_takesE_220 rfl ?_
            refine r_iadd dX10_takesE_221 ?_
            refine e_puti fp_X10_59 dX10_takesE_222 (kM_mem (s := 40) (by decide)) rfl (lt_b rfl) rfl rfl rfl ?_
            refine r_aload_n (x := (40, 0, 0)) dX10_takesE_225 rfl ?_
            obtain ⟨r10, hr11, hf⟩ := am_bind hf
            refine r_callV (as := []) (st := []) (n := 0) mw_X10_302 mv_X10_whole (C_X10_whole (l := l) hr11) (le_b rfl) dX10_takesE_226 (kM_mem (s := 40) (by decide)) rfl rfl rfl (le_b rfl) (le_b rfl) (le_b rfl) ?_
            show X l _ _ 0 0 false _ kM 0 0 229 [some (vR (40, 0, 0)), some (vI c1), some (vI x2), some (vI r2)] [] (en r10)
            refine r_goto (tgt := 22) dX10_takesE_229 (by decide) ?_
            refine r_weak (L' := [some (vR (40, 0, 0)), some (vI c1), some (vI x2), none]) (And.intro rfl (And.intro rfl (And.intro rfl trivial))) ?_
            exact k1 (x2, r10) (am_inj hf).symm
          · have hf := (am_if hf).2 hc
            refine r_iconst (v := 0) dX10_takesE_193 rfl ?_
            have hT := k2 _ (am_inj hf).symm
            replace hT : T = (some (vI (0 : Int32)), kM, en (pi r7 (56, 0, 0) c1.toNatClampNeg (r7.1 (40, 0, 0) 27))) := hT
            subst hT
            exact r_iret dX10_takesE_194 rfl (am_bool (x := 0) (by decide)).1 (le_b rfl) (le_b rfl)
        · have hf := (am_if hf).1 hc
          refine r_iconst (v := 1) dX10_takesE_185 rfl ?_
          have hT := k2 _ (am_inj hf).symm
          replace hT : T = (some (vI (1 : Int32)), kM, en (pi r7 (56, 0, 0) c1.toNatClampNeg (r7.1 (40, 0, 0) 27))) := hT
          subst hT
          exact r_iret dX10_takesE_186 rfl (am_bool (x := 1) (by decide)).1 (le_b rfl) (le_b rfl)
      · have hf := (am_if hf).1 hc
        refine r_aload_n (x := (40, 0, 0)) dX10_takesE_122 rfl ?_
        refine r_iload_n (x := r2) dX10_takesE_123 rfl ?_
        obtain ⟨r12, hr13, hf⟩ := am_bind hf
        refine r_callV (as := [vI r2]) (st := []) (n := 1) mw_X10_308 mv_X10_settle (C_X10_settle (l := l) hr13) (le_b rfl) dX10_takesE_124 (kM_mem (s := 40) (by decide)) rfl rfl rfl (le_b rfl) (le_b rfl) (le_b rfl) ?_
        show X l _ _ 0 0 false _ kM 0 0 127 [some (vR (40, 0, 0)), some (vI c1), some (vI x2), some (vI r2)] [] (en r12)
        refine r_aload_n (x := (40, 0, 0)) dX10_takesE_127 rfl ?_
        refine e_getr (z := some (58, 0, 0)) fw_X10_89 dX10_takesE_128 (kM_mem (s := 40) (by decide)) rfl (lt_b rfl) rfl ?_
        refine r_aload_n (x := (40, 0, 0)) dX10_takesE_131 rfl ?_
        refine e_geti fw_X10_95 dX10_takesE_132 (kM_mem (s := 40) (by decide)) rfl (lt_b rfl) ?_
        refine r_iload_n (x := r2) dX10_takesE_135 rfl ?_
        obtain ⟨h14, hf⟩ := am_nchk hf
        refine e_iast (n := (r12.1 (40, 0, 0) 28).toNatClampNeg) dX10_takesE_136 (kM_mem (s := 58) (by decide)) rfl h14 rfl ?_
        refine r_aload_n (x := (40, 0, 0)) dX10_takesE_137 rfl ?_
        refine r_dup dX10_takesE_138 rfl ?_
        refine e_geti_ (x := r12.1 (40, 0, 0) 28) fw_X10_95 dX10_takesE_139 (kM_mem (s := 40) (by decide)) rfl (lt_b rfl) (by simp [pi, pl, pr, pci, pcl]) ?_
        refine r_iconst (v := 1) dX10_takesE_142 rfl ?_
        refine r_iadd dX10_takesE_143 ?_
        refine e_puti fp_X10_95 dX10_takesE_144 (kM_mem (s := 40) (by decide)) rfl (lt_b rfl) rfl rfl rfl ?_
        refine r_iconst (v := 1) dX10_takesE_147 rfl ?_
        refine r_istore_n (L' := [some (vR (40, 0, 0)), some (vI c1), some (vI (1 : Int32)), some (vI r2)]) dX10_takesE_148 (by decide) rfl ?_
        refine r_aload_n (x := (40, 0, 0)) dX10_takesE_149 rfl ?_
        refine r_dup dX10_takesE_150 rfl ?_
        refine e_geti_ (x := r12.1 (40, 0, 0) 16) fw_X10_59 dX10_takesE_151 (kM_mem (s := 40) (by decide)) rfl (lt_b rfl) (by simp [pi, pl, pr, pci, pcl]) ?_
        refine r_iconst (v := 1) dX10_takesE_154 rfl ?_
        refine r_iadd dX10_takesE_155 ?_
        refine e_puti fp_X10_59 dX10_takesE_156 (kM_mem (s := 40) (by decide)) rfl (lt_b rfl) rfl rfl rfl ?_
        refine r_goto (tgt := 22) dX10_takesE_159 (by decide) ?_
        refine r_weak (L' := [some (vR (40, 0, 0)), some (vI c1), some (vI (1 : Int32)), none]) (And.intro rfl (And.intro rfl (And.intro rfl trivial))) ?_
        exact k1 ((1 : Int32), (pi (pi (pi r12 (58, 0, 0) ((r12.1 (40, 0, 0) 28).toNatClampNeg) r2) (40, 0, 0) 28 ((r12.1 (40, 0, 0) 28) + (1 : Int32))) (40, 0, 0) 16 ((r12.1 (40, 0, 0) 16) + (1 : Int32)))) (am_inj hf).symm
  · have hf := (am_if hf).2 hc
    refine r_iload_n (x := r2) dX10_takesE_31 rfl ?_
    refine r_bipush (v := 33) dX10_takesE_32 rfl ?_
    refine r_icmp_eq (tgt := 43) dX10_takesE_34 (by decide) (fun hc => ?_) (fun hc => ?_)
    · have hf := (am_if hf).1 hc
      refine r_aload_n (x := (40, 0, 0)) dX10_takesE_43 rfl ?_
      refine e_geti fw_X10_98 dX10_takesE_44 (kM_mem (s := 40) (by decide)) rfl (lt_b rfl) ?_
      refine r_iconst (v := 4) dX10_takesE_47 rfl ?_
      refine r_icmp_ne (tgt := 53) dX10_takesE_48 (by decide) (fun hc => ?_) (fun hc => ?_)
      · have hf := (am_if hf).2 hc
        refine r_aload_n (x := (40, 0, 0)) dX10_takesE_53 rfl ?_
        refine r_dup dX10_takesE_54 rfl ?_
        refine e_geti fw_X10_98 dX10_takesE_55 (kM_mem (s := 40) (by decide)) rfl (lt_b rfl) ?_
        refine r_iconst (v := 1) dX10_takesE_58 rfl ?_
        refine r_iadd dX10_takesE_59 ?_
        refine e_puti fp_X10_98 dX10_takesE_60 (kM_mem (s := 40) (by decide)) rfl (lt_b rfl) rfl rfl rfl ?_
        refine r_aload_n (x := (40, 0, 0)) dX10_takesE_63 rfl ?_
        refine e_getr (z := some (58, 0, 0)) fw_X10_89 dX10_takesE_64 (kM_mem (s := 40) (by decide)) rfl (lt_b rfl) rfl ?_
        refine r_aload_n (x := (40, 0, 0)) dX10_takesE_67 rfl ?_
        refine e_geti_ (x := u.1 (40, 0, 0) 28) fw_X10_95 dX10_takesE_68 (kM_mem (s := 40) (by decide)) rfl (lt_b rfl) (by simp [pi, pl, pr, pci, pcl]) ?_
        refine r_iload_n (x := r2) dX10_takesE_71 rfl ?_
        obtain ⟨h15, hf⟩ := am_nchk hf
        refine e_iast (n := (u.1 (40, 0, 0) 28).toNatClampNeg) dX10_takesE_72 (kM_mem (s := 58) (by decide)) rfl h15 rfl ?_
        refine r_aload_n (x := (40, 0, 0)) dX10_takesE_73 rfl ?_
        refine r_dup dX10_takesE_74 rfl ?_
        refine e_geti_ (x := u.1 (40, 0, 0) 28) fw_X10_95 dX10_takesE_75 (kM_mem (s := 40) (by decide)) rfl (lt_b rfl) (by simp [pi, pl, pr, pci, pcl]) ?_
        refine r_iconst (v := 1) dX10_takesE_78 rfl ?_
        refine r_iadd dX10_takesE_79 ?_
        refine e_puti fp_X10_95 dX10_takesE_80 (kM_mem (s := 40) (by decide)) rfl (lt_b rfl) rfl rfl rfl ?_
        refine r_aload_n (x := (40, 0, 0)) dX10_takesE_83 rfl ?_
        refine r_dup dX10_takesE_84 rfl ?_
        refine e_geti_ (x := u.1 (40, 0, 0) 16) fw_X10_59 dX10_takesE_85 (kM_mem (s := 40) (by decide)) rfl (lt_b rfl) (by simp [pi, pl, pr, pci, pcl]) ?_
        refine r_iconst (v := 1) dX10_takesE_88 rfl ?_
        refine r_iadd dX10_takesE_89 ?_
        refine e_puti fp_X10_59 dX10_takesE_90 (kM_mem (s := 40) (by decide)) rfl (lt_b rfl) rfl rfl rfl ?_
        refine r_goto (tgt := 22) dX10_takesE_93 (by decide) ?_
        refine r_weak (L' := [some (vR (40, 0, 0)), some (vI c1), some (vI x2), none]) (And.intro rfl (And.intro rfl (And.intro rfl trivial))) ?_
        exact k1 (x2, (pi (pi (pi (pi u (40, 0, 0) 29 ((u.1 (40, 0, 0) 29) + (1 : Int32))) (58, 0, 0) ((u.1 (40, 0, 0) 28).toNatClampNeg) r2) (40, 0, 0) 28 ((u.1 (40, 0, 0) 28) + (1 : Int32))) (40, 0, 0) 16 ((u.1 (40, 0, 0) 16) + (1 : Int32)))) (am_inj hf).symm
      · have hf := (am_if hf).1 hc
        refine r_iconst (v := 0) dX10_takesE_51 rfl ?_
        have hT := k2 _ (am_inj hf).symm
        replace hT : T = (some (vI (0 : Int32)), kM, en u) := hT
        subst hT
        exact r_iret dX10_takesE_52 rfl (am_bool (x := 0) (by decide)).1 (le_b rfl) (le_b rfl)
    · have hf := (am_if hf).2 hc
      refine r_iload_n (x := r2) dX10_takesE_37 rfl ?_
      refine r_bipush (v := 40) dX10_takesE_38 rfl ?_
      refine r_icmp_ne (tgt := 96) dX10_takesE_40 (by decide) (fun hc => ?_) (fun hc => ?_)
      · have hf := (am_if hf).2 hc
        refine r_aload_n (x := (40, 0, 0)) dX10_takesE_96 rfl ?_
        obtain ⟨⟨r16, u18⟩, hr17, hf⟩ := am_bind hf
        refine r_callV (as := []) (st := []) (n := 0) mw_X10_305 mv_X10_takesTest (C_X10_takesTest (l := l) hr17) (le_b rfl) dX10_takesE_97 (kM_mem (s := 40) (by decide)) rfl rfl rfl (le_b rfl) (le_b rfl) (le_b rfl) ?_
        show X l _ _ 0 0 false _ kM 0 0 100 [some (vR (40, 0, 0)), some (vI c1), some (vI x2), some (vI r2)] [vI r16] (en u18)
        refine r_if_eq (tgt := 108) dX10_takesE_100 (by decide) (fun hc => ?_) (fun hc => ?_)
        · have hf := (am_if hf).1 hc
          refine r_iconst (v := 0) dX10_takesE_108 rfl ?_
          have hT := k2 _ (am_inj hf).symm
          replace hT : T = (some (vI (0 : Int32)), kM, en u18) := hT
          subst hT
          exact r_iret dX10_takesE_109 rfl (am_bool (x := 0) (by decide)).1 (le_b rfl) (le_b rfl)
        · have hf := (am_if hf).2 hc
          refine r_iconst (v := 0) dX10_takesE_103 rfl ?_
          refine r_istore_n (L' := [some (vR (40, 0, 0)), some (vI c1), some (vI (0 : Int32)), some (vI r2)]) dX10_takesE_104 (by decide) rfl ?_
          refine r_goto (tgt := 22) dX10_takesE_105 (by decide) ?_
          refine r_weak (L' := [some (vR (40, 0, 0)), some (vI c1), some (vI (0 : Int32)), none]) (And.intro rfl (And.intro rfl (And.intro rfl trivial))) ?_
          exact k1 ((0 : Int32), u18) (am_inj hf).symm
      · have hf := (am_if hf).1 hc
        refine r_aload_n (x := (40, 0, 0)) dX10_takesE_43 rfl ?_
        refine e_geti fw_X10_98 dX10_takesE_44 (kM_mem (s := 40) (by decide)) rfl (lt_b rfl) ?_
        refine r_iconst (v := 4) dX10_takesE_47 rfl ?_
        refine r_icmp_ne (tgt := 53) dX10_takesE_48 (by decide) (fun hc => ?_) (fun hc => ?_)
        · have hf := (am_if hf).2 hc
          refine r_aload_n (x := (40, 0, 0)) dX10_takesE_53 rfl ?_
          refine r_dup dX10_takesE_54 rfl ?_
          refine e_geti fw_X10_98 dX10_takesE_55 (kM_mem (s := 40) (by decide)) rfl (lt_b rfl) ?_
          refine r_iconst (v := 1) dX10_takesE_58 rfl ?_
          refine r_iadd dX10_takesE_59 ?_
          refine e_puti fp_X10_98 dX10_takesE_60 (kM_mem (s := 40) (by decide)) rfl (lt_b rfl) rfl rfl rfl ?_
          refine r_aload_n (x := (40, 0, 0)) dX10_takesE_63 rfl ?_
          refine e_getr (z := some (58, 0, 0)) fw_X10_89 dX10_takesE_64 (kM_mem (s := 40) (by decide)) rfl (lt_b rfl) rfl ?_
          refine r_aload_n (x := (40, 0, 0)) dX10_takesE_67 rfl ?_
          refine e_geti_ (x := u.1 (40, 0, 0) 28) fw_X10_95 dX10_takesE_68 (kM_mem (s := 40) (by decide)) rfl (lt_b rfl) (by simp [pi, pl, pr, pci, pcl]) ?_
          refine r_iload_n (x := r2) dX10_takesE_71 rfl ?_
          obtain ⟨h19, hf⟩ := am_nchk hf
          refine e_iast (n := (u.1 (40, 0, 0) 28).toNatClampNeg) dX10_takesE_72 (kM_mem (s := 58) (by decide)) rfl h19 rfl ?_
          refine r_aload_n (x := (40, 0, 0)) dX10_takesE_73 rfl ?_
          refine r_dup dX10_takesE_74 rfl ?_
          refine e_geti_ (x := u.1 (40, 0, 0) 28) fw_X10_95 dX10_takesE_75 (kM_mem (s := 40) (by decide)) rfl (lt_b rfl) (by simp [pi, pl, pr, pci, pcl]) ?_
          refine r_iconst (v := 1) dX10_takesE_78 rfl ?_
          refine r_iadd dX10_takesE_79 ?_
          refine e_puti fp_X10_95 dX10_takesE_80 (kM_mem (s := 40) (by decide)) rfl (lt_b rfl) rfl rfl rfl ?_
          refine r_aload_n (x := (40, 0, 0)) dX10_takesE_83 rfl ?_
          refine r_dup dX10_takesE_84 rfl ?_
          refine e_geti_ (x := u.1 (40, 0, 0) 16) fw_X10_59 dX10_takesE_85 (kM_mem (s := 40) (by decide)) rfl (lt_b rfl) (by simp [pi, pl, pr, pci, pcl]) ?_
          refine r_iconst (v := 1) dX10_takesE_88 rfl ?_
          refine r_iadd dX10_takesE_89 ?_
          refine e_puti fp_X10_59 dX10_takesE_90 (kM_mem (s := 40) (by decide)) rfl (lt_b rfl) rfl rfl rfl ?_
          refine r_goto (tgt := 22) dX10_takesE_93 (by decide) ?_
          refine r_weak (L' := [some (vR (40, 0, 0)), some (vI c1), some (vI x2), none]) (And.intro rfl (And.intro rfl (And.intro rfl trivial))) ?_
          exact k1 (x2, (pi (pi (pi (pi u (40, 0, 0) 29 ((u.1 (40, 0, 0) 29) + (1 : Int32))) (58, 0, 0) ((u.1 (40, 0, 0) 28).toNatClampNeg) r2) (40, 0, 0) 28 ((u.1 (40, 0, 0) 28) + (1 : Int32))) (40, 0, 0) 16 ((u.1 (40, 0, 0) 16) + (1 : Int32)))) (am_inj hf).symm
        · have hf := (am_if hf).1 hc
          refine r_iconst (v := 0) dX10_takesE_51 rfl ?_
          have hT := k2 _ (am_inj hf).symm
          replace hT : T = (some (vI (0 : Int32)), kM, en u) := hT
          subst hT
          exact r_iret dX10_takesE_52 rfl (am_bool (x := 0) (by decide)).1 (le_b rfl) (le_b rfl)
def f_X10_takesE  (a0 : Int32) (u : PM) : Option (Int32 × PM) :=
  if a0 < 0 ∨ 50 ≤ a0.toNatClampNeg then none else
  (am_loop (f_X10_takesE_L22 a0) 2000 ((1 : Int32), (pi (pi (pi u (40, 0, 0) 28 (0 : Int32)) (40, 0, 0) 29 (0 : Int32)) (55, 0, 0) a0.toNatClampNeg (u.1 (40, 0, 0) 27)))).bind fun e20 =>
  some e20
set_option maxHeartbeats 4000000 in
set_option maxRecDepth 20000 in
theorem C_X10_takesE {l : Launch}  {a0 : Int32} {u : PM} {x : Int32 × PM} (hf : f_X10_takesE a0 u = some x) : Ev l mX10_takesE 5 0 0 false [vR (40, 0, 0), vI a0] kM (en u) (some (vI x.1), kM, en x.2) := by
  refine Ev_of (by decide +kernel) (le_b rfl) ?_
  unfold f_X10_takesE at hf
  show X l mX10_takesE 5 0 0 false _ kM 0 0 0 [some (vR (40, 0, 0)), some (vI a0), none, none] [] (en u)
  refine r_aload_n (x := (40, 0, 0)) dX10_takesE_0 rfl ?_
  refine r_iconst (v := 0) dX10_takesE_1 rfl ?_
  refine e_puti fp_X10_95 dX10_takesE_2 (kM_mem (s := 40) (by decide)) rfl (lt_b rfl) rfl rfl rfl ?_
  refine r_aload_n (x := (40, 0, 0)) dX10_takesE_5 rfl ?_
  refine r_iconst (v := 0) dX10_takesE_6 rfl ?_
  refine e_puti fp_X10_98 dX10_takesE_7 (kM_mem (s := 40) (by decide)) rfl (lt_b rfl) rfl rfl rfl ?_
  refine r_aload_n (x := (40, 0, 0)) dX10_takesE_10 rfl ?_
  refine e_getr (z := some (55, 0, 0)) fw_X10_80 dX10_takesE_11 (kM_mem (s := 40) (by decide)) rfl (lt_b rfl) rfl ?_
  refine r_iload_n (x := a0) dX10_takesE_14 rfl ?_
  refine r_aload_n (x := (40, 0, 0)) dX10_takesE_15 rfl ?_
  refine e_geti_ (x := u.1 (40, 0, 0) 27) fw_X10_92 dX10_takesE_16 (kM_mem (s := 40) (by decide)) rfl (lt_b rfl) (by simp [pi, pl, pr, pci, pcl]) ?_
  obtain ⟨h1, hf⟩ := am_nchk hf
  refine e_iast (n := a0.toNatClampNeg) dX10_takesE_19 (kM_mem (s := 55) (by decide)) rfl h1 rfl ?_
  refine r_iconst (v := 1) dX10_takesE_20 rfl ?_
  refine r_istore_n (L' := [some (vR (40, 0, 0)), some (vI a0), some (vI (1 : Int32)), none]) dX10_takesE_21 (by decide) rfl ?_
  refine r_weak (L' := [some (vR (40, 0, 0)), some (vI a0), some (vI (1 : Int32)), none]) (And.intro rfl (And.intro rfl (And.intro rfl trivial))) ?_
  obtain ⟨e20, he21, hf⟩ := am_bind hf
  refine K_X10_takesE_L22  2000 ((1 : Int32), (pi (pi (pi u (40, 0, 0) 28 (0 : Int32)) (40, 0, 0) 29 (0 : Int32)) (55, 0, 0) a0.toNatClampNeg (u.1 (40, 0, 0) 27))) _ he21 ?_
  have hx := am_inj hf
  subst hx
  rfl
/-! FireFromFireModel.takesFigure -/
theorem dX10_takesFigure_0 : decode cX10_takesFigure 0 = .ok (.aload_n 0, 1) := by decide +kernel
theorem dX10_takesFigure_1 : decode cX10_takesFigure 1 = .ok (.aload_n 0, 1) := by decide +kernel
theorem dX10_takesFigure_2 : decode cX10_takesFigure 2 = .ok (.invokevirtual 280, 3) := by decide +kernel
theorem dX10_takesFigure_5 : decode cX10_takesFigure 5 = .ok (.bipush 48, 2) := by decide +kernel
theorem dX10_takesFigure_7 : decode cX10_takesFigure 7 = .ok (.bipush 50, 2) := by decide +kernel
theorem dX10_takesFigure_9 : decode cX10_takesFigure 9 = .ok (.invokevirtual 267, 3) := by decide +kernel
theorem dX10_takesFigure_12 : decode cX10_takesFigure 12 = .ok (.ifCond .ne 5, 3) := by decide +kernel
theorem dX10_takesFigure_15 : decode cX10_takesFigure 15 = .ok (.iconst 0, 1) := by decide +kernel
theorem dX10_takesFigure_16 : decode cX10_takesFigure 16 = .ok (.ireturn, 1) := by decide +kernel
theorem dX10_takesFigure_17 : decode cX10_takesFigure 17 = .ok (.aload_n 0, 1) := by decide +kernel
theorem dX10_takesFigure_18 : decode cX10_takesFigure 18 = .ok (.getfield 74, 3) := by decide +kernel
theorem dX10_takesFigure_21 : decode cX10_takesFigure 21 = .ok (.iload_n 1, 1) := by decide +kernel
theorem dX10_takesFigure_22 : decode cX10_takesFigure 22 = .ok (.iconst 3, 1) := by decide +kernel
theorem dX10_takesFigure_23 : decode cX10_takesFigure 23 = .ok (.aload_n 0, 1) := by decide +kernel
theorem dX10_takesFigure_24 : decode cX10_takesFigure 24 = .ok (.getfield 74, 3) := by decide +kernel
theorem dX10_takesFigure_27 : decode cX10_takesFigure 27 = .ok (.iload_n 1, 1) := by decide +kernel
theorem dX10_takesFigure_28 : decode cX10_takesFigure 28 = .ok (.iaload, 1) := by decide +kernel
theorem dX10_takesFigure_29 : decode cX10_takesFigure 29 = .ok (.imul, 1) := by decide +kernel
theorem dX10_takesFigure_30 : decode cX10_takesFigure 30 = .ok (.aload_n 0, 1) := by decide +kernel
theorem dX10_takesFigure_31 : decode cX10_takesFigure 31 = .ok (.invokevirtual 280, 3) := by decide +kernel
theorem dX10_takesFigure_34 : decode cX10_takesFigure 34 = .ok (.iadd, 1) := by decide +kernel
theorem dX10_takesFigure_35 : decode cX10_takesFigure 35 = .ok (.bipush 48, 2) := by decide +kernel
theorem dX10_takesFigure_37 : decode cX10_takesFigure 37 = .ok (.isub, 1) := by decide +kernel
theorem dX10_takesFigure_38 : decode cX10_takesFigure 38 = .ok (.iastore, 1) := by decide +kernel
theorem dX10_takesFigure_39 : decode cX10_takesFigure 39 = .ok (.aload_n 0, 1) := by decide +kernel
theorem dX10_takesFigure_40 : decode cX10_takesFigure 40 = .ok (.dup, 1) := by decide +kernel
theorem dX10_takesFigure_41 : decode cX10_takesFigure 41 = .ok (.getfield 59, 3) := by decide +kernel
theorem dX10_takesFigure_44 : decode cX10_takesFigure 44 = .ok (.iconst 1, 1) := by decide +kernel
theorem dX10_takesFigure_45 : decode cX10_takesFigure 45 = .ok (.iadd, 1) := by decide +kernel
theorem dX10_takesFigure_46 : decode cX10_takesFigure 46 = .ok (.putfield 59, 3) := by decide +kernel
theorem dX10_takesFigure_49 : decode cX10_takesFigure 49 = .ok (.aload_n 0, 1) := by decide +kernel
theorem dX10_takesFigure_50 : decode cX10_takesFigure 50 = .ok (.bipush 32, 2) := by decide +kernel
theorem dX10_takesFigure_52 : decode cX10_takesFigure 52 = .ok (.invokevirtual 284, 3) := by decide +kernel
theorem dX10_takesFigure_55 : decode cX10_takesFigure 55 = .ok (.ireturn, 1) := by decide +kernel
def f_X10_takesFigure  (a0 : Int32) (u : PM) : Option (Int32 × PM) :=
  (f_X10_next u).bind fun r1 =>
  (f_X10_in r1 (48 : Int32) (50 : Int32) u).bind fun r3 =>
  if r3 = 0 then
    some ((0 : Int32), u)
  else
  if a0 < 0 ∨ 50 ≤ a0.toNatClampNeg then none else
  (f_X10_next u).bind fun r6 =>
  (f_X10_takesSign (32 : Int32) (pi (pi u (53, 0, 0) a0.toNatClampNeg ((((3 : Int32) * (u.1 (53, 0, 0) a0.toNatClampNeg)) + r6) - (48 : Int32))) (40, 0, 0) 16 ((u.1 (40, 0, 0) 16) + (1 : Int32)))).bind fun (r8, u10) =>
  if r8 = 0 ∨ r8 = 1 then
    some (r8, u10)
  else none
set_option maxHeartbeats 4000000 in
set_option maxRecDepth 20000 in
theorem C_X10_takesFigure {l : Launch}  {a0 : Int32} {u : PM} {x : Int32 × PM} (hf : f_X10_takesFigure a0 u = some x) : Ev l mX10_takesFigure 3 0 0 false [vR (40, 0, 0), vI a0] kM (en u) (some (vI x.1), kM, en x.2) := by
  refine Ev_of (by decide +kernel) (le_b rfl) ?_
  unfold f_X10_takesFigure at hf
  show X l mX10_takesFigure 3 0 0 false _ kM 0 0 0 [some (vR (40, 0, 0)), some (vI a0)] [] (en u)
  refine r_aload_n (x := (40, 0, 0)) dX10_takesFigure_0 rfl ?_
  refine r_aload_n (x := (40, 0, 0)) dX10_takesFigure_1 rfl ?_
  obtain ⟨r1, hr2, hf⟩ := am_bind hf
  refine r_callV (as := []) (st := [vR (40, 0, 0)]) (n := 0) mw_X10_280 mv_X10_next (C_X10_next (l := l) hr2) (le_b rfl) dX10_takesFigure_2 (kM_mem (s := 40) (by decide)) rfl rfl rfl (le_b rfl) (le_b rfl) (le_b rfl) ?_
  show X l _ _ 0 0 false _ kM 0 0 5 [some (vR (40, 0, 0)), some (vI a0)] [vI r1, vR (40, 0, 0)] (en u)
  refine r_bipush (v := 48) dX10_takesFigure_5 rfl ?_
  refine r_bipush (v := 50) dX10_takesFigure_7 rfl ?_
  obtain ⟨r3, hr4, hf⟩ := am_bind hf
  refine r_callV (as := [vI r1, vI (48 : Int32), vI (50 : Int32)]) (st := []) (n := 3) mw_X10_267 mv_X10_in (C_X10_in (l := l) hr4) (le_b rfl) dX10_takesFigure_9 (kM_mem (s := 40) (by decide)) rfl rfl rfl (le_b rfl) (le_b rfl) (le_b rfl) ?_
  show X l _ _ 0 0 false _ kM 0 0 12 [some (vR (40, 0, 0)), some (vI a0)] [vI r3] (en u)
  refine r_if_ne (tgt := 17) dX10_takesFigure_12 (by decide) (fun hc => ?_) (fun hc => ?_)
  · have hf := (am_if hf).2 hc
    refine r_aload_n (x := (40, 0, 0)) dX10_takesFigure_17 rfl ?_
    refine e_getr (z := some (53, 0, 0)) fw_X10_74 dX10_takesFigure_18 (kM_mem (s := 40) (by decide)) rfl (lt_b rfl) rfl ?_
    refine r_iload_n (x := a0) dX10_takesFigure_21 rfl ?_
    refine r_iconst (v := 3) dX10_takesFigure_22 rfl ?_
    refine r_aload_n (x := (40, 0, 0)) dX10_takesFigure_23 rfl ?_
    refine e_getr (z := some (53, 0, 0)) fw_X10_74 dX10_takesFigure_24 (kM_mem (s := 40) (by decide)) rfl (lt_b rfl) rfl ?_
    refine r_iload_n (x := a0) dX10_takesFigure_27 rfl ?_
    obtain ⟨h5, hf⟩ := am_nchk hf
    refine e_iald (n := a0.toNatClampNeg) dX10_takesFigure_28 (kM_mem (s := 53) (by decide)) rfl h5 rfl rfl ?_
    refine r_imul dX10_takesFigure_29 ?_
    refine r_aload_n (x := (40, 0, 0)) dX10_takesFigure_30 rfl ?_
    obtain ⟨r6, hr7, hf⟩ := am_bind hf
    refine r_callV (as := []) (st := [vI ((3 : Int32) * (u.1 (53, 0, 0) a0.toNatClampNeg)), vI a0, vR (53, 0, 0)]) (n := 0) mw_X10_280 mv_X10_next (C_X10_next (l := l) hr7) (le_b rfl) dX10_takesFigure_31 (kM_mem (s := 40) (by decide)) rfl rfl rfl (le_b rfl) (le_b rfl) (le_b rfl) ?_
    show X l _ _ 0 0 false _ kM 0 0 34 [some (vR (40, 0, 0)), some (vI a0)] [vI r6, vI ((3 : Int32) * (u.1 (53, 0, 0) a0.toNatClampNeg)), vI a0, vR (53, 0, 0)] (en u)
    refine r_iadd dX10_takesFigure_34 ?_
    refine r_bipush (v := 48) dX10_takesFigure_35 rfl ?_
    refine r_isub dX10_takesFigure_37 ?_
    refine e_iast (n := a0.toNatClampNeg) dX10_takesFigure_38 (kM_mem (s := 53) (by decide)) rfl h5 rfl ?_
    refine r_aload_n (x := (40, 0, 0)) dX10_takesFigure_39 rfl ?_
    refine r_dup dX10_takesFigure_40 rfl ?_
    refine e_geti_ (x := u.1 (40, 0, 0) 16) fw_X10_59 dX10_takesFigure_41 (kM_mem (s := 40) (by decide)) rfl (lt_b rfl) (by simp [pi, pl, pr, pci, pcl]) ?_
    refine r_iconst (v := 1) dX10_takesFigure_44 rfl ?_
    refine r_iadd dX10_takesFigure_45 ?_
    refine e_puti fp_X10_59 dX10_takesFigure_46 (kM_mem (s := 40) (by decide)) rfl (lt_b rfl) rfl rfl rfl ?_
    refine r_aload_n (x := (40, 0, 0)) dX10_takesFigure_49 rfl ?_
    refine r_bipush (v := 32) dX10_takesFigure_50 rfl ?_
    obtain ⟨⟨r8, u10⟩, hr9, hf⟩ := am_bind hf
    refine r_callV (as := [vI (32 : Int32)]) (st := []) (n := 1) mw_X10_284 mv_X10_takesSign (C_X10_takesSign (l := l) hr9) (le_b rfl) dX10_takesFigure_52 (kM_mem (s := 40) (by decide)) rfl rfl rfl (le_b rfl) (le_b rfl) (le_b rfl) ?_
    show X l _ _ 0 0 false _ kM 0 0 55 [some (vR (40, 0, 0)), some (vI a0)] [vI r8] (en u10)
    obtain ⟨h11, hf⟩ := am_chk hf
    have hx := am_inj hf
    subst hx
    exact r_iret dX10_takesFigure_55 rfl (am_bool h11).1 (le_b rfl) (le_b rfl)
  · have hf := (am_if hf).1 hc
    refine r_iconst (v := 0) dX10_takesFigure_15 rfl ?_
    have hx := am_inj hf
    subst hx
    exact r_iret dX10_takesFigure_16 rfl (am_bool (x := 0) (by decide)).1 (le_b rfl) (le_b rfl)
/-! FireFromFireModel.takesHead -/
theorem dX10_takesHead_0 : decode cX10_takesHead 0 = .ok (.aload_n 0, 1) := by decide +kernel
theorem dX10_takesHead_1 : decode cX10_takesHead 1 = .ok (.invokevirtual 311, 3) := by decide +kernel
theorem dX10_takesHead_4 : decode cX10_takesHead 4 = .ok (.istore_n 2, 1) := by decide +kernel
theorem dX10_takesHead_5 : decode cX10_takesHead 5 = .ok (.aload_n 0, 1) := by decide +kernel
theorem dX10_takesHead_6 : decode cX10_takesHead 6 = .ok (.invokevirtual 280, 3) := by decide +kernel
theorem dX10_takesHead_9 : decode cX10_takesHead 9 = .ok (.lookupswitch 78 #[(98, 49), (104, 63), (111, 35)], 35) := by decide +kernel
theorem dX10_takesHead_44 : decode cX10_takesHead 44 = .ok (.aload_n 0, 1) := by decide +kernel
theorem dX10_takesHead_45 : decode cX10_takesHead 45 = .ok (.getfield 71, 3) := by decide +kernel
theorem dX10_takesHead_48 : decode cX10_takesHead 48 = .ok (.iload_n 1, 1) := by decide +kernel
theorem dX10_takesHead_49 : decode cX10_takesHead 49 = .ok (.iconst 0, 1) := by decide +kernel
theorem dX10_takesHead_50 : decode cX10_takesHead 50 = .ok (.iastore, 1) := by decide +kernel
theorem dX10_takesHead_51 : decode cX10_takesHead 51 = .ok (.aload_n 0, 1) := by decide +kernel
theorem dX10_takesHead_52 : decode cX10_takesHead 52 = .ok (.iconst 0, 1) := by decide +kernel
theorem dX10_takesHead_53 : decode cX10_takesHead 53 = .ok (.iconst 3, 1) := by decide +kernel
theorem dX10_takesHead_54 : decode cX10_takesHead 54 = .ok (.invokevirtual 314, 3) := by decide +kernel
theorem dX10_takesHead_57 : decode cX10_takesHead 57 = .ok (.ireturn, 1) := by decide +kernel
theorem dX10_takesHead_58 : decode cX10_takesHead 58 = .ok (.aload_n 0, 1) := by decide +kernel
theorem dX10_takesHead_59 : decode cX10_takesHead 59 = .ok (.getfield 71, 3) := by decide +kernel
theorem dX10_takesHead_62 : decode cX10_takesHead 62 = .ok (.iload_n 1, 1) := by decide +kernel
theorem dX10_takesHead_63 : decode cX10_takesHead 63 = .ok (.iconst 1, 1) := by decide +kernel
theorem dX10_takesHead_64 : decode cX10_takesHead 64 = .ok (.iastore, 1) := by decide +kernel
theorem dX10_takesHead_65 : decode cX10_takesHead 65 = .ok (.aload_n 0, 1) := by decide +kernel
theorem dX10_takesHead_66 : decode cX10_takesHead 66 = .ok (.iconst 3, 1) := by decide +kernel
theorem dX10_takesHead_67 : decode cX10_takesHead 67 = .ok (.iconst 4, 1) := by decide +kernel
theorem dX10_takesHead_68 : decode cX10_takesHead 68 = .ok (.invokevirtual 314, 3) := by decide +kernel
theorem dX10_takesHead_71 : decode cX10_takesHead 71 = .ok (.ireturn, 1) := by decide +kernel
theorem dX10_takesHead_72 : decode cX10_takesHead 72 = .ok (.aload_n 0, 1) := by decide +kernel
theorem dX10_takesHead_73 : decode cX10_takesHead 73 = .ok (.getfield 71, 3) := by decide +kernel
theorem dX10_takesHead_76 : decode cX10_takesHead 76 = .ok (.iload_n 1, 1) := by decide +kernel
theorem dX10_takesHead_77 : decode cX10_takesHead 77 = .ok (.iconst 2, 1) := by decide +kernel
theorem dX10_takesHead_78 : decode cX10_takesHead 78 = .ok (.iastore, 1) := by decide +kernel
theorem dX10_takesHead_79 : decode cX10_takesHead 79 = .ok (.aload_n 0, 1) := by decide +kernel
theorem dX10_takesHead_80 : decode cX10_takesHead 80 = .ok (.bipush 7, 2) := by decide +kernel
theorem dX10_takesHead_82 : decode cX10_takesHead 82 = .ok (.iconst 4, 1) := by decide +kernel
theorem dX10_takesHead_83 : decode cX10_takesHead 83 = .ok (.invokevirtual 314, 3) := by decide +kernel
theorem dX10_takesHead_86 : decode cX10_takesHead 86 = .ok (.ireturn, 1) := by decide +kernel
theorem dX10_takesHead_87 : decode cX10_takesHead 87 = .ok (.aload_n 0, 1) := by decide +kernel
theorem dX10_takesHead_88 : decode cX10_takesHead 88 = .ok (.getfield 71, 3) := by decide +kernel
theorem dX10_takesHead_91 : decode cX10_takesHead 91 = .ok (.iload_n 1, 1) := by decide +kernel
theorem dX10_takesHead_92 : decode cX10_takesHead 92 = .ok (.iload_n 2, 1) := by decide +kernel
theorem dX10_takesHead_93 : decode cX10_takesHead 93 = .ok (.bipush 120, 2) := by decide +kernel
theorem dX10_takesHead_95 : decode cX10_takesHead 95 = .ok (.if_icmp .ne 7, 3) := by decide +kernel
theorem dX10_takesHead_98 : decode cX10_takesHead 98 = .ok (.iconst 4, 1) := by decide +kernel
theorem dX10_takesHead_99 : decode cX10_takesHead 99 = .ok (.goto 4, 3) := by decide +kernel
theorem dX10_takesHead_102 : decode cX10_takesHead 102 = .ok (.iconst 3, 1) := by decide +kernel
theorem dX10_takesHead_103 : decode cX10_takesHead 103 = .ok (.iastore, 1) := by decide +kernel
theorem dX10_takesHead_104 : decode cX10_takesHead 104 = .ok (.iload_n 2, 1) := by decide +kernel
theorem dX10_takesHead_105 : decode cX10_takesHead 105 = .ok (.bipush 120, 2) := by decide +kernel
theorem dX10_takesHead_107 : decode cX10_takesHead 107 = .ok (.if_icmp .ne 13, 3) := by decide +kernel
theorem dX10_takesHead_110 : decode cX10_takesHead 110 = .ok (.aload_n 0, 1) := by decide +kernel
theorem dX10_takesHead_111 : decode cX10_takesHead 111 = .ok (.bipush 11, 2) := by decide +kernel
theorem dX10_takesHead_113 : decode cX10_takesHead 113 = .ok (.iconst 4, 1) := by decide +kernel
theorem dX10_takesHead_114 : decode cX10_takesHead 114 = .ok (.invokevirtual 314, 3) := by decide +kernel
theorem dX10_takesHead_117 : decode cX10_takesHead 117 = .ok (.goto 10, 3) := by decide +kernel
theorem dX10_takesHead_120 : decode cX10_takesHead 120 = .ok (.aload_n 0, 1) := by decide +kernel
theorem dX10_takesHead_121 : decode cX10_takesHead 121 = .ok (.bipush 15, 2) := by decide +kernel
theorem dX10_takesHead_123 : decode cX10_takesHead 123 = .ok (.iconst 4, 1) := by decide +kernel
theorem dX10_takesHead_124 : decode cX10_takesHead 124 = .ok (.invokevirtual 314, 3) := by decide +kernel
theorem dX10_takesHead_127 : decode cX10_takesHead 127 = .ok (.ireturn, 1) := by decide +kernel
def f_X10_takesHead  (a0 : Int32) (u : PM) : Option (Int32 × PM) :=
  (f_X10_third u).bind fun r1 =>
  (f_X10_next u).bind fun r3 =>
  if r3 = (98 : Int32) then
    if a0 < 0 ∨ 50 ≤ a0.toNatClampNeg then none else
    (f_X10_takesWord (3 : Int32) (4 : Int32) (pi u (52, 0, 0) a0.toNatClampNeg (1 : Int32))).bind fun (r6, u8) =>
    if r6 = 0 ∨ r6 = 1 then
      some (r6, u8)
    else none
  else if r3 = (104 : Int32) then
    if a0 < 0 ∨ 50 ≤ a0.toNatClampNeg then none else
    (f_X10_takesWord (7 : Int32) (4 : Int32) (pi u (52, 0, 0) a0.toNatClampNeg (2 : Int32))).bind fun (r11, u13) =>
    if r11 = 0 ∨ r11 = 1 then
      some (r11, u13)
    else none
  else if r3 = (111 : Int32) then
    if a0 < 0 ∨ 50 ≤ a0.toNatClampNeg then none else
    (f_X10_takesWord (0 : Int32) (3 : Int32) (pi u (52, 0, 0) a0.toNatClampNeg (0 : Int32))).bind fun (r16, u18) =>
    if r16 = 0 ∨ r16 = 1 then
      some (r16, u18)
    else none
  else 
  if r1 = (120 : Int32) then
    if a0 < 0 ∨ 50 ≤ a0.toNatClampNeg then none else
    if r1 = (120 : Int32) then
      (f_X10_takesWord (11 : Int32) (4 : Int32) (pi u (52, 0, 0) a0.toNatClampNeg (4 : Int32))).bind fun (r34, u36) =>
      if r34 = 0 ∨ r34 = 1 then
        some (r34, u36)
      else none
    else
    (f_X10_takesWord (15 : Int32) (4 : Int32) (pi u (52, 0, 0) a0.toNatClampNeg (4 : Int32))).bind fun (r30, u32) =>
    if r30 = 0 ∨ r30 = 1 then
      some (r30, u32)
    else none
  else
  if a0 < 0 ∨ 50 ≤ a0.toNatClampNeg then none else
  if r1 = (120 : Int32) then
    (f_X10_takesWord (11 : Int32) (4 : Int32) (pi u (52, 0, 0) a0.toNatClampNeg (3 : Int32))).bind fun (r25, u27) =>
    if r25 = 0 ∨ r25 = 1 then
      some (r25, u27)
    else none
  else
  (f_X10_takesWord (15 : Int32) (4 : Int32) (pi u (52, 0, 0) a0.toNatClampNeg (3 : Int32))).bind fun (r21, u23) =>
  if r21 = 0 ∨ r21 = 1 then
    some (r21, u23)
  else none
set_option maxHeartbeats 4000000 in
set_option maxRecDepth 20000 in
theorem C_X10_takesHead {l : Launch}  {a0 : Int32} {u : PM} {x : Int32 × PM} (hf : f_X10_takesHead a0 u = some x) : Ev l mX10_takesHead 4 0 0 false [vR (40, 0, 0), vI a0] kM (en u) (some (vI x.1), kM, en x.2) := by
  refine Ev_of (by decide +kernel) (le_b rfl) ?_
  unfold f_X10_takesHead at hf
  show X l mX10_takesHead 4 0 0 false _ kM 0 0 0 [some (vR (40, 0, 0)), some (vI a0), none] [] (en u)
  refine r_aload_n (x := (40, 0, 0)) dX10_takesHead_0 rfl ?_
  obtain ⟨r1, hr2, hf⟩ := am_bind hf
  refine r_callV (as := []) (st := []) (n := 0) mw_X10_311 mv_X10_third (C_X10_third (l := l) hr2) (le_b rfl) dX10_takesHead_1 (kM_mem (s := 40) (by decide)) rfl rfl rfl (le_b rfl) (le_b rfl) (le_b rfl) ?_
  show X l _ _ 0 0 false _ kM 0 0 4 [some (vR (40, 0, 0)), some (vI a0), none] [vI r1] (en u)
  refine r_istore_n (L' := [some (vR (40, 0, 0)), some (vI a0), some (vI r1)]) dX10_takesHead_4 (by decide) rfl ?_
  refine r_aload_n (x := (40, 0, 0)) dX10_takesHead_5 rfl ?_
  obtain ⟨r3, hr4, hf⟩ := am_bind hf
  refine r_callV (as := []) (st := []) (n := 0) mw_X10_280 mv_X10_next (C_X10_next (l := l) hr4) (le_b rfl) dX10_takesHead_6 (kM_mem (s := 40) (by decide)) rfl rfl rfl (le_b rfl) (le_b rfl) (le_b rfl) ?_
  show X l _ _ 0 0 false _ kM 0 0 9 [some (vR (40, 0, 0)), some (vI a0), some (vI r1)] [vI r3] (en u)
  by_cases hs0 : r3 = (98 : Int32)
  · have hf := (am_if hf).1 hs0
    refine r_lookup (x := r3) (tgt := 58) (off := 49) dX10_takesHead_9 (by decide) (by rw [hs0]; rfl) (by decide) ?_
    refine r_aload_n (x := (40, 0, 0)) dX10_takesHead_58 rfl ?_
    refine e_getr (z := some (52, 0, 0)) fw_X10_71 dX10_takesHead_59 (kM_mem (s := 40) (by decide)) rfl (lt_b rfl) rfl ?_
    refine r_iload_n (x := a0) dX10_takesHead_62 rfl ?_
    refine r_iconst (v := 1) dX10_takesHead_63 rfl ?_
    obtain ⟨h5, hf⟩ := am_nchk hf
    refine e_iast (n := a0.toNatClampNeg) dX10_takesHead_64 (kM_mem (s := 52) (by decide)) rfl h5 rfl ?_
    refine r_aload_n (x := (40, 0, 0)) dX10_takesHead_65 rfl ?_
    refine r_iconst (v := 3) dX10_takesHead_66 rfl ?_
    refine r_iconst (v := 4) dX10_takesHead_67 rfl ?_
    obtain ⟨⟨r6, u8⟩, hr7, hf⟩ := am_bind hf
    refine r_callV (as := [vI (3 : Int32), vI (4 : Int32)]) (st := []) (n := 2) mw_X10_314 mv_X10_takesWord (C_X10_takesWord (l := l) hr7) (le_b rfl) dX10_takesHead_68 (kM_mem (s := 40) (by decide)) rfl rfl rfl (le_b rfl) (le_b rfl) (le_b rfl) ?_
    show X l _ _ 0 0 false _ kM 0 0 71 [some (vR (40, 0, 0)), some (vI a0), some (vI r1)] [vI r6] (en u8)
    obtain ⟨h9, hf⟩ := am_chk hf
    have hx := am_inj hf
    subst hx
    exact r_iret dX10_takesHead_71 rfl (am_bool h9).1 (le_b rfl) (le_b rfl)
  have hf := (am_if hf).2 hs0
  by_cases hs1 : r3 = (104 : Int32)
  · have hf := (am_if hf).1 hs1
    refine r_lookup (x := r3) (tgt := 72) (off := 63) dX10_takesHead_9 (by decide) (by rw [hs1]; rfl) (by decide) ?_
    refine r_aload_n (x := (40, 0, 0)) dX10_takesHead_72 rfl ?_
    refine e_getr (z := some (52, 0, 0)) fw_X10_71 dX10_takesHead_73 (kM_mem (s := 40) (by decide)) rfl (lt_b rfl) rfl ?_
    refine r_iload_n (x := a0) dX10_takesHead_76 rfl ?_
    refine r_iconst (v := 2) dX10_takesHead_77 rfl ?_
    obtain ⟨h10, hf⟩ := am_nchk hf
    refine e_iast (n := a0.toNatClampNeg) dX10_takesHead_78 (kM_mem (s := 52) (by decide)) rfl h10 rfl ?_
    refine r_aload_n (x := (40, 0, 0)) dX10_takesHead_79 rfl ?_
    refine r_bipush (v := 7) dX10_takesHead_80 rfl ?_
    refine r_iconst (v := 4) dX10_takesHead_82 rfl ?_
    obtain ⟨⟨r11, u13⟩, hr12, hf⟩ := am_bind hf
    refine r_callV (as := [vI (7 : Int32), vI (4 : Int32)]) (st := []) (n := 2) mw_X10_314 mv_X10_takesWord (C_X10_takesWord (l := l) hr12) (le_b rfl) dX10_takesHead_83 (kM_mem (s := 40) (by decide)) rfl rfl rfl (le_b rfl) (le_b rfl) (le_b rfl) ?_
    show X l _ _ 0 0 false _ kM 0 0 86 [some (vR (40, 0, 0)), some (vI a0), some (vI r1)] [vI r11] (en u13)
    obtain ⟨h14, hf⟩ := am_chk hf
    have hx := am_inj hf
    subst hx
    exact r_iret dX10_takesHead_86 rfl (am_bool h14).1 (le_b rfl) (le_b rfl)
  have hf := (am_if hf).2 hs1
  by_cases hs2 : r3 = (111 : Int32)
  · have hf := (am_if hf).1 hs2
    refine r_lookup (x := r3) (tgt := 44) (off := 35) dX10_takesHead_9 (by decide) (by rw [hs2]; rfl) (by decide) ?_
    refine r_aload_n (x := (40, 0, 0)) dX10_takesHead_44 rfl ?_
    refine e_getr (z := some (52, 0, 0)) fw_X10_71 dX10_takesHead_45 (kM_mem (s := 40) (by decide)) rfl (lt_b rfl) rfl ?_
    refine r_iload_n (x := a0) dX10_takesHead_48 rfl ?_
    refine r_iconst (v := 0) dX10_takesHead_49 rfl ?_
    obtain ⟨h15, hf⟩ := am_nchk hf
    refine e_iast (n := a0.toNatClampNeg) dX10_takesHead_50 (kM_mem (s := 52) (by decide)) rfl h15 rfl ?_
    refine r_aload_n (x := (40, 0, 0)) dX10_takesHead_51 rfl ?_
    refine r_iconst (v := 0) dX10_takesHead_52 rfl ?_
    refine r_iconst (v := 3) dX10_takesHead_53 rfl ?_
    obtain ⟨⟨r16, u18⟩, hr17, hf⟩ := am_bind hf
    refine r_callV (as := [vI (0 : Int32), vI (3 : Int32)]) (st := []) (n := 2) mw_X10_314 mv_X10_takesWord (C_X10_takesWord (l := l) hr17) (le_b rfl) dX10_takesHead_54 (kM_mem (s := 40) (by decide)) rfl rfl rfl (le_b rfl) (le_b rfl) (le_b rfl) ?_
    show X l _ _ 0 0 false _ kM 0 0 57 [some (vR (40, 0, 0)), some (vI a0), some (vI r1)] [vI r16] (en u18)
    obtain ⟨h19, hf⟩ := am_chk hf
    have hx := am_inj hf
    subst hx
    exact r_iret dX10_takesHead_57 rfl (am_bool h19).1 (le_b rfl) (le_b rfl)
  have hf := (am_if hf).2 hs2
  refine r_lookup (x := r3) (tgt := 87) (off := 78) dX10_takesHead_9 (by decide) (Eq.trans (lv_osw hs0 rfl) (Eq.trans (lv_osw hs1 rfl) (Eq.trans (lv_osw hs2 rfl) rfl))) (by decide) ?_
  refine r_aload_n (x := (40, 0, 0)) dX10_takesHead_87 rfl ?_
  refine e_getr (z := some (52, 0, 0)) fw_X10_71 dX10_takesHead_88 (kM_mem (s := 40) (by decide)) rfl (lt_b rfl) rfl ?_
  refine r_iload_n (x := a0) dX10_takesHead_91 rfl ?_
  refine r_iload_n (x := r1) dX10_takesHead_92 rfl ?_
  refine r_bipush (v := 120) dX10_takesHead_93 rfl ?_
  refine r_icmp_ne (tgt := 102) dX10_takesHead_95 (by decide) (fun hc => ?_) (fun hc => ?_)
  · have hf := (am_if hf).2 hc
    refine r_iconst (v := 3) dX10_takesHead_102 rfl ?_
    obtain ⟨h20, hf⟩ := am_nchk hf
    refine e_iast (n := a0.toNatClampNeg) dX10_takesHead_103 (kM_mem (s := 52) (by decide)) rfl h20 rfl ?_
    refine r_iload_n (x := r1) dX10_takesHead_104 rfl ?_
    refine r_bipush (v := 120) dX10_takesHead_105 rfl ?_
    refine r_icmp_ne (tgt := 120) dX10_takesHead_107 (by decide) (fun hc => ?_) (fun hc => ?_)
    · have hf := (am_if hf).2 hc
      refine r_aload_n (x := (40, 0, 0)) dX10_takesHead_120 rfl ?_
      refine r_bipush (v := 15) dX10_takesHead_121 rfl ?_
      refine r_iconst (v := 4) dX10_takesHead_123 rfl ?_
      obtain ⟨⟨r21, u23⟩, hr22, hf⟩ := am_bind hf
      refine r_callV (as := [vI (15 : Int32), vI (4 : Int32)]) (st := []) (n := 2) mw_X10_314 mv_X10_takesWord (C_X10_takesWord (l := l) hr22) (le_b rfl) dX10_takesHead_124 (kM_mem (s := 40) (by decide)) rfl rfl rfl (le_b rfl) (le_b rfl) (le_b rfl) ?_
      show X l _ _ 0 0 false _ kM 0 0 127 [some (vR (40, 0, 0)), some (vI a0), some (vI r1)] [vI r21] (en u23)
      obtain ⟨h24, hf⟩ := am_chk hf
      have hx := am_inj hf
      subst hx
      exact r_iret dX10_takesHead_127 rfl (am_bool h24).1 (le_b rfl) (le_b rfl)
    · have hf := (am_if hf).1 hc
      refine r_aload_n (x := (40, 0, 0)) dX10_takesHead_110 rfl ?_
      refine r_bipush (v := 11) dX10_takesHead_111 rfl ?_
      refine r_iconst (v := 4) dX10_takesHead_113 rfl ?_
      obtain ⟨⟨r25, u27⟩, hr26, hf⟩ := am_bind hf
      refine r_callV (as := [vI (11 : Int32), vI (4 : Int32)]) (st := []) (n := 2) mw_X10_314 mv_X10_takesWord (C_X10_takesWord (l := l) hr26) (le_b rfl) dX10_takesHead_114 (kM_mem (s := 40) (by decide)) rfl rfl rfl (le_b rfl) (le_b rfl) (le_b rfl) ?_
      show X l _ _ 0 0 false _ kM 0 0 117 [some (vR (40, 0, 0)), some (vI a0), some (vI r1)] [vI r25] (en u27)
      refine r_goto (tgt := 127) dX10_takesHead_117 (by decide) ?_
      obtain ⟨h28, hf⟩ := am_chk hf
      have hx := am_inj hf
      subst hx
      exact r_iret dX10_takesHead_127 rfl (am_bool h28).1 (le_b rfl) (le_b rfl)
  · have hf := (am_if hf).1 hc
    refine r_iconst (v := 4) dX10_takesHead_98 rfl ?_
    refine r_goto (tgt := 103) dX10_takesHead_99 (by decide) ?_
    obtain ⟨h29, hf⟩ := am_nchk hf
    refine e_iast (n := a0.toNatClampNeg) dX10_takesHead_103 (kM_mem (s := 52) (by decide)) rfl h29 rfl ?_
    refine r_iload_n (x := r1) dX10_takesHead_104 rfl ?_
    refine r_bipush (v := 120) dX10_takesHead_105 rfl ?_
    refine r_icmp_ne (tgt := 120) dX10_takesHead_107 (by decide) (fun hc => ?_) (fun hc => ?_)
    · have hf := (am_if hf).2 hc
      refine r_aload_n (x := (40, 0, 0)) dX10_takesHead_120 rfl ?_
      refine r_bipush (v := 15) dX10_takesHead_121 rfl ?_
      refine r_iconst (v := 4) dX10_takesHead_123 rfl ?_
      obtain ⟨⟨r30, u32⟩, hr31, hf⟩ := am_bind hf
      refine r_callV (as := [vI (15 : Int32), vI (4 : Int32)]) (st := []) (n := 2) mw_X10_314 mv_X10_takesWord (C_X10_takesWord (l := l) hr31) (le_b rfl) dX10_takesHead_124 (kM_mem (s := 40) (by decide)) rfl rfl rfl (le_b rfl) (le_b rfl) (le_b rfl) ?_
      show X l _ _ 0 0 false _ kM 0 0 127 [some (vR (40, 0, 0)), some (vI a0), some (vI r1)] [vI r30] (en u32)
      obtain ⟨h33, hf⟩ := am_chk hf
      have hx := am_inj hf
      subst hx
      exact r_iret dX10_takesHead_127 rfl (am_bool h33).1 (le_b rfl) (le_b rfl)
    · have hf := (am_if hf).1 hc
      refine r_aload_n (x := (40, 0, 0)) dX10_takesHead_110 rfl ?_
      refine r_bipush (v := 11) dX10_takesHead_111 rfl ?_
      refine r_iconst (v := 4) dX10_takesHead_113 rfl ?_
      obtain ⟨⟨r34, u36⟩, hr35, hf⟩ := am_bind hf
      refine r_callV (as := [vI (11 : Int32), vI (4 : Int32)]) (st := []) (n := 2) mw_X10_314 mv_X10_takesWord (C_X10_takesWord (l := l) hr35) (le_b rfl) dX10_takesHead_114 (kM_mem (s := 40) (by decide)) rfl rfl rfl (le_b rfl) (le_b rfl) (le_b rfl) ?_
      show X l _ _ 0 0 false _ kM 0 0 117 [some (vR (40, 0, 0)), some (vI a0), some (vI r1)] [vI r34] (en u36)
      refine r_goto (tgt := 127) dX10_takesHead_117 (by decide) ?_
      obtain ⟨h37, hf⟩ := am_chk hf
      have hx := am_inj hf
      subst hx
      exact r_iret dX10_takesHead_127 rfl (am_bool h37).1 (le_b rfl) (le_b rfl)
