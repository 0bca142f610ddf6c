/-! FireFromFireModel.lasts -/
theorem dX10_lasts_0 : decode cX10_lasts 0 = .ok (.aload_n 0, 1) := by decide +kernel
theorem dX10_lasts_1 : decode cX10_lasts 1 = .ok (.invokevirtual 361, 3) := by decide +kernel
theorem dX10_lasts_4 : decode cX10_lasts 4 = .ok (.iconst 0, 1) := by decide +kernel
theorem dX10_lasts_5 : decode cX10_lasts 5 = .ok (.istore_n 1, 1) := by decide +kernel
theorem dX10_lasts_6 : decode cX10_lasts 6 = .ok (.iload_n 1, 1) := by decide +kernel
theorem dX10_lasts_7 : decode cX10_lasts 7 = .ok (.sipush 201, 3) := by decide +kernel
theorem dX10_lasts_10 : decode cX10_lasts 10 = .ok (.if_icmp .ge 27, 3) := by decide +kernel
theorem dX10_lasts_13 : decode cX10_lasts 13 = .ok (.aload_n 0, 1) := by decide +kernel
theorem dX10_lasts_14 : decode cX10_lasts 14 = .ok (.getfield 107, 3) := by decide +kernel
theorem dX10_lasts_17 : decode cX10_lasts 17 = .ok (.ifCond .ne 5, 3) := by decide +kernel
theorem dX10_lasts_20 : decode cX10_lasts 20 = .ok (.iload_n 1, 1) := by decide +kernel
theorem dX10_lasts_21 : decode cX10_lasts 21 = .ok (.ireturn, 1) := by decide +kernel
theorem dX10_lasts_22 : decode cX10_lasts 22 = .ok (.aload_n 0, 1) := by decide +kernel
theorem dX10_lasts_23 : decode cX10_lasts 23 = .ok (.aload_n 0, 1) := by decide +kernel
theorem dX10_lasts_24 : decode cX10_lasts 24 = .ok (.getfield 19, 3) := by decide +kernel
theorem dX10_lasts_27 : decode cX10_lasts 27 = .ok (.iconst 0, 1) := by decide +kernel
theorem dX10_lasts_28 : decode cX10_lasts 28 = .ok (.invokevirtual 390, 3) := by decide +kernel
theorem dX10_lasts_31 : decode cX10_lasts 31 = .ok (.iinc 1 1, 3) := by decide +kernel
theorem dX10_lasts_34 : decode cX10_lasts 34 = .ok (.goto (-28), 3) := by decide +kernel
theorem dX10_lasts_37 : decode cX10_lasts 37 = .ok (.bipush (-5), 2) := by decide +kernel
theorem dX10_lasts_39 : decode cX10_lasts 39 = .ok (.ireturn, 1) := by decide +kernel
def f_X10_lasts_L6   : Int32 × PM → Option ((Int32 × PM) ⊕ ((Int32 × PM) ⊕ (PM))) := fun (x1 , u) =>
  if (201 : Int32) ≤ x1 then
    some (.inr (.inr (u)))
  else
  if (u.1 (40, 0, 0) 32) = 0 then
    some (.inr (.inl (x1, u)))
  else
  (f_X10_goHour (u.1 (40, 0, 0) 3) (0 : Int32) u).bind fun r3 =>
  some (.inl (x1 + (1 : Int32), r3))
set_option maxHeartbeats 4000000 in
set_option maxRecDepth 20000 in
theorem K_X10_lasts_L6 {l : Launch} {T : Option AV × List Key × AM}   : ∀ (n : Nat) (s : Int32 × PM) (e0 : (Int32 × PM) ⊕ (PM)), am_loop (f_X10_lasts_L6) n s = some e0 → Sum.elim (fun r : Int32 × PM => T = (some (vI r.1), kM, en r.2)) (fun e : PM => X l mX10_lasts 8 0 0 false T kM 0 0 37 [none, none] [] (en e)) e0 → X l mX10_lasts 8 0 0 false T kM 0 0 6 [some (vR (40, 0, 0)), some (vI s.1)] [] (en s.2) := by
  refine am_loop_of ?_
  intro s x hf k1 k2
  obtain ⟨x1 , u⟩ := s
  unfold f_X10_lasts_L6 at hf
  show X l mX10_lasts 8 0 0 false T kM 0 0 6 [some (vR (40, 0, 0)), some (vI x1)] [] (en u)
  refine r_iload_n (x := x1) dX10_lasts_6 rfl ?_
  refine r_sipush (v := 201) dX10_lasts_7 rfl ?_
  refine r_icmp_ge (tgt := 37) dX10_lasts_10 (by decide) (fun hc => ?_) (fun hc => ?_)
  · have hf := (am_if hf).1 hc
    refine r_weak (L' := [none, none]) trivial ?_
    exact k2 (.inr (u)) (am_inj hf).symm
  · have hf := (am_if hf).2 hc
    refine r_aload_n (x := (40, 0, 0)) dX10_lasts_13 rfl ?_
    refine e_geti fw_X10_107 dX10_lasts_14 (kM_mem (s := 40) (by decide)) rfl (lt_b rfl) ?_
    refine r_if_ne (tgt := 22) dX10_lasts_17 (by decide) (fun hc => ?_) (fun hc => ?_)
    · have hf := (am_if hf).2 hc
      refine r_aload_n (x := (40, 0, 0)) dX10_lasts_22 rfl ?_
      refine r_aload_n (x := (40, 0, 0)) dX10_lasts_23 rfl ?_
      refine e_geti fw_X10_19 dX10_lasts_24 (kM_mem (s := 40) (by decide)) rfl (lt_b rfl) ?_
      refine r_iconst (v := 0) dX10_lasts_27 rfl ?_
      obtain ⟨r3, hr4, hf⟩ := am_bind hf
      refine r_callV (as := [vI (u.1 (40, 0, 0) 3), vI (0 : Int32)]) (st := []) (n := 2) mw_X10_390 mv_X10_goHour (C_X10_goHour (l := l) hr4) (le_b rfl) dX10_lasts_28 (kM_mem (s := 40) (by decide)) rfl rfl rfl (le_b rfl) (le_b rfl) (le_b rfl) ?_
      show X l _ _ 0 0 false _ kM 0 0 31 [some (vR (40, 0, 0)), some (vI x1)] [] (en r3)
      refine r_iinc (x := x1) (v := x1 + (1 : Int32)) (L' := [some (vR (40, 0, 0)), some (vI (x1 + (1 : Int32)))]) dX10_lasts_31 rfl rfl (lt_b rfl) rfl ?_
      refine r_goto (tgt := 6) dX10_lasts_34 (by decide) ?_
      refine r_weak (L' := [some (vR (40, 0, 0)), some (vI (x1 + (1 : Int32)))]) (And.intro rfl (And.intro rfl trivial)) ?_
      exact k1 (x1 + (1 : Int32), r3) (am_inj hf).symm
    · have hf := (am_if hf).1 hc
      refine r_iload_n (x := x1) dX10_lasts_20 rfl ?_
      have hT := k2 _ (am_inj hf).symm
      replace hT : T = (some (vI x1), kM, en u) := hT
      subst hT
      exact r_iret dX10_lasts_21 rfl rfl (le_b rfl) (le_b rfl)
def f_X10_lasts   (u : PM) : Option (Int32 × PM) :=
  (f_X10_asIs u).bind fun r1 =>
  (am_loop (f_X10_lasts_L6) 2000 ((0 : Int32), r1)).bind fun e5 =>
  match e5 with
  | .inl q8 => some q8
  | .inr u7 =>
    some ((-5 : Int32), u7)
set_option maxHeartbeats 4000000 in
set_option maxRecDepth 20000 in
theorem C_X10_lasts {l : Launch}   {u : PM} {x : Int32 × PM} (hf : f_X10_lasts u = some x) : Ev l mX10_lasts 8 0 0 false [vR (40, 0, 0)] kM (en u) (some (vI x.1), kM, en x.2) := by
  refine Ev_of (by decide +kernel) (le_b rfl) ?_
  unfold f_X10_lasts at hf
  show X l mX10_lasts 8 0 0 false _ kM 0 0 0 [some (vR (40, 0, 0)), none] [] (en u)
  refine r_aload_n (x := (40, 0, 0)) dX10_lasts_0 rfl ?_
  obtain ⟨r1, hr2, hf⟩ := am_bind hf
  refine r_callV (as := []) (st := []) (n := 0) mw_X10_361 mv_X10_asIs (C_X10_asIs (l := l) hr2) (le_b rfl) dX10_lasts_1 (kM_mem (s := 40) (by decide)) rfl rfl rfl (le_b rfl) (le_b rfl) (le_b rfl) ?_
  show X l _ _ 0 0 false _ kM 0 0 4 [some (vR (40, 0, 0)), none] [] (en r1)
  refine r_iconst (v := 0) dX10_lasts_4 rfl ?_
  refine r_istore_n (L' := [some (vR (40, 0, 0)), some (vI (0 : Int32))]) dX10_lasts_5 (by decide) rfl ?_
  refine r_weak (L' := [some (vR (40, 0, 0)), some (vI (0 : Int32))]) (And.intro rfl (And.intro rfl trivial)) ?_
  obtain ⟨e5, he6, hf⟩ := am_bind hf
  refine K_X10_lasts_L6  2000 ((0 : Int32), r1) _ he6 ?_
  rcases e5 with q8 | e5
  · have hx := am_inj hf
    subst hx
    rfl
  · obtain ⟨u7, rfl⟩ : ∃ z, z = e5 := ⟨_, rfl⟩
    show X l _ _ 0 0 false _ kM 0 0 37 [none, none] [] (en u7)
    refine r_bipush (v := -5) dX10_lasts_37 rfl ?_
    have hx := am_inj hf
    subst hx
    exact r_iret dX10_lasts_39 rfl rfl (le_b rfl) (le_b rfl)
/-! FireFromFireModel.matchOf -/
theorem dX10_matchOf_0 : decode cX10_matchOf 0 = .ok (.aload_n 0, 1) := by decide +kernel
theorem dX10_matchOf_1 : decode cX10_matchOf 1 = .ok (.invokevirtual 361, 3) := by decide +kernel
theorem dX10_matchOf_4 : decode cX10_matchOf 4 = .ok (.iconst 0, 1) := by decide +kernel
theorem dX10_matchOf_5 : decode cX10_matchOf 5 = .ok (.istore_n 3, 1) := by decide +kernel
theorem dX10_matchOf_6 : decode cX10_matchOf 6 = .ok (.iload_n 3, 1) := by decide +kernel
theorem dX10_matchOf_7 : decode cX10_matchOf 7 = .ok (.iload_n 2, 1) := by decide +kernel
theorem dX10_matchOf_8 : decode cX10_matchOf 8 = .ok (.if_icmp .ge 18, 3) := by decide +kernel
theorem dX10_matchOf_11 : decode cX10_matchOf 11 = .ok (.aload_n 0, 1) := by decide +kernel
theorem dX10_matchOf_12 : decode cX10_matchOf 12 = .ok (.aload_n 0, 1) := by decide +kernel
theorem dX10_matchOf_13 : decode cX10_matchOf 13 = .ok (.getfield 19, 3) := by decide +kernel
theorem dX10_matchOf_16 : decode cX10_matchOf 16 = .ok (.iconst 0, 1) := by decide +kernel
theorem dX10_matchOf_17 : decode cX10_matchOf 17 = .ok (.invokevirtual 390, 3) := by decide +kernel
theorem dX10_matchOf_20 : decode cX10_matchOf 20 = .ok (.iinc 3 1, 3) := by decide +kernel
theorem dX10_matchOf_23 : decode cX10_matchOf 23 = .ok (.goto (-17), 3) := by decide +kernel
theorem dX10_matchOf_26 : decode cX10_matchOf 26 = .ok (.aload_n 0, 1) := by decide +kernel
theorem dX10_matchOf_27 : decode cX10_matchOf 27 = .ok (.getfield 116, 3) := by decide +kernel
theorem dX10_matchOf_30 : decode cX10_matchOf 30 = .ok (.istore_n 3, 1) := by decide +kernel
theorem dX10_matchOf_31 : decode cX10_matchOf 31 = .ok (.aload_n 0, 1) := by decide +kernel
theorem dX10_matchOf_32 : decode cX10_matchOf 32 = .ok (.invokevirtual 361, 3) := by decide +kernel
theorem dX10_matchOf_35 : decode cX10_matchOf 35 = .ok (.aload_n 0, 1) := by decide +kernel
theorem dX10_matchOf_36 : decode cX10_matchOf 36 = .ok (.dup, 1) := by decide +kernel
theorem dX10_matchOf_37 : decode cX10_matchOf 37 = .ok (.getfield 107, 3) := by decide +kernel
theorem dX10_matchOf_40 : decode cX10_matchOf 40 = .ok (.iconst 1, 1) := by decide +kernel
theorem dX10_matchOf_41 : decode cX10_matchOf 41 = .ok (.iload_n 1, 1) := by decide +kernel
theorem dX10_matchOf_42 : decode cX10_matchOf 42 = .ok (.ishl, 1) := by decide +kernel
theorem dX10_matchOf_43 : decode cX10_matchOf 43 = .ok (.ior, 1) := by decide +kernel
theorem dX10_matchOf_44 : decode cX10_matchOf 44 = .ok (.putfield 107, 3) := by decide +kernel
theorem dX10_matchOf_47 : decode cX10_matchOf 47 = .ok (.iconst 0, 1) := by decide +kernel
theorem dX10_matchOf_48 : decode cX10_matchOf 48 = .ok (.istore 4, 2) := by decide +kernel
theorem dX10_matchOf_50 : decode cX10_matchOf 50 = .ok (.iload 4, 2) := by decide +kernel
theorem dX10_matchOf_52 : decode cX10_matchOf 52 = .ok (.iload_n 2, 1) := by decide +kernel
theorem dX10_matchOf_53 : decode cX10_matchOf 53 = .ok (.if_icmp .ge 18, 3) := by decide +kernel
theorem dX10_matchOf_56 : decode cX10_matchOf 56 = .ok (.aload_n 0, 1) := by decide +kernel
theorem dX10_matchOf_57 : decode cX10_matchOf 57 = .ok (.aload_n 0, 1) := by decide +kernel
theorem dX10_matchOf_58 : decode cX10_matchOf 58 = .ok (.getfield 19, 3) := by decide +kernel
theorem dX10_matchOf_61 : decode cX10_matchOf 61 = .ok (.iconst 0, 1) := by decide +kernel
theorem dX10_matchOf_62 : decode cX10_matchOf 62 = .ok (.invokevirtual 390, 3) := by decide +kernel
theorem dX10_matchOf_65 : decode cX10_matchOf 65 = .ok (.iinc 4 1, 3) := by decide +kernel
theorem dX10_matchOf_68 : decode cX10_matchOf 68 = .ok (.goto (-18), 3) := by decide +kernel
theorem dX10_matchOf_71 : decode cX10_matchOf 71 = .ok (.aload_n 0, 1) := by decide +kernel
theorem dX10_matchOf_72 : decode cX10_matchOf 72 = .ok (.getfield 116, 3) := by decide +kernel
theorem dX10_matchOf_75 : decode cX10_matchOf 75 = .ok (.iload_n 3, 1) := by decide +kernel
theorem dX10_matchOf_76 : decode cX10_matchOf 76 = .ok (.isub, 1) := by decide +kernel
theorem dX10_matchOf_77 : decode cX10_matchOf 77 = .ok (.ireturn, 1) := by decide +kernel
def f_X10_matchOf_L6  (c1 : Int32) (c2 : Int32) : Int32 × PM → Option ((Int32 × PM) ⊕ (PM)) := fun (x3 , u) =>
  if c2 ≤ x3 then
    some (.inr (u))
  else
  (f_X10_goHour (u.1 (40, 0, 0) 3) (0 : Int32) u).bind fun r3 =>
  some (.inl (x3 + (1 : Int32), r3))
set_option maxHeartbeats 4000000 in
set_option maxRecDepth 20000 in
theorem K_X10_matchOf_L6 {l : Launch} {T : Option AV × List Key × AM}  {c1 : Int32} {c2 : Int32} : ∀ (n : Nat) (s : Int32 × PM) (e0 : PM), am_loop (f_X10_matchOf_L6 c1 c2) n s = some e0 → (fun e : PM => X l mX10_matchOf 8 0 0 false T kM 0 0 26 [some (vR (40, 0, 0)), some (vI c1), some (vI c2), none, none] [] (en e)) e0 → X l mX10_matchOf 8 0 0 false T kM 0 0 6 [some (vR (40, 0, 0)), some (vI c1), some (vI c2), some (vI s.1), none] [] (en s.2) := by
  refine am_loop_of ?_
  intro s x hf k1 k2
  obtain ⟨x3 , u⟩ := s
  unfold f_X10_matchOf_L6 at hf
  show X l mX10_matchOf 8 0 0 false T kM 0 0 6 [some (vR (40, 0, 0)), some (vI c1), some (vI c2), some (vI x3), none] [] (en u)
  refine r_iload_n (x := x3) dX10_matchOf_6 rfl ?_
  refine r_iload_n (x := c2) dX10_matchOf_7 rfl ?_
  refine r_icmp_ge (tgt := 26) dX10_matchOf_8 (by decide) (fun hc => ?_) (fun hc => ?_)
  · have hf := (am_if hf).1 hc
    refine r_weak (L' := [some (vR (40, 0, 0)), some (vI c1), some (vI c2), none, none]) (And.intro rfl (And.intro rfl (And.intro rfl trivial))) ?_
    exact k2 (u) (am_inj hf).symm
  · have hf := (am_if hf).2 hc
    refine r_aload_n (x := (40, 0, 0)) dX10_matchOf_11 rfl ?_
    refine r_aload_n (x := (40, 0, 0)) dX10_matchOf_12 rfl ?_
    refine e_geti fw_X10_19 dX10_matchOf_13 (kM_mem (s := 40) (by decide)) rfl (lt_b rfl) ?_
    refine r_iconst (v := 0) dX10_matchOf_16 rfl ?_
    obtain ⟨r3, hr4, hf⟩ := am_bind hf
    refine r_callV (as := [vI (u.1 (40, 0, 0) 3), vI (0 : Int32)]) (st := []) (n := 2) mw_X10_390 mv_X10_goHour (C_X10_goHour (l := l) hr4) (le_b rfl) dX10_matchOf_17 (kM_mem (s := 40) (by decide)) rfl rfl rfl (le_b rfl) (le_b rfl) (le_b rfl) ?_
    show X l _ _ 0 0 false _ kM 0 0 20 [some (vR (40, 0, 0)), some (vI c1), some (vI c2), some (vI x3), none] [] (en r3)
    refine r_iinc (x := x3) (v := x3 + (1 : Int32)) (L' := [some (vR (40, 0, 0)), some (vI c1), some (vI c2), some (vI (x3 + (1 : Int32))), none]) dX10_matchOf_20 rfl rfl (lt_b rfl) rfl ?_
    refine r_goto (tgt := 6) dX10_matchOf_23 (by decide) ?_
    refine r_weak (L' := [some (vR (40, 0, 0)), some (vI c1), some (vI c2), some (vI (x3 + (1 : Int32))), none]) (And.intro rfl (And.intro rfl (And.intro rfl (And.intro rfl trivial)))) ?_
    exact k1 (x3 + (1 : Int32), r3) (am_inj hf).symm
def f_X10_matchOf_L50  (c2 : Int32) (c3 : Int32) : Int32 × PM → Option ((Int32 × PM) ⊕ (PM)) := fun (x4 , u) =>
  if c2 ≤ x4 then
    some (.inr (u))
  else
  (f_X10_goHour (u.1 (40, 0, 0) 3) (0 : Int32) u).bind fun r10 =>
  some (.inl (x4 + (1 : Int32), r10))
set_option maxHeartbeats 4000000 in
set_option maxRecDepth 20000 in
theorem K_X10_matchOf_L50 {l : Launch} {T : Option AV × List Key × AM}  {c2 : Int32} {c3 : Int32} : ∀ (n : Nat) (s : Int32 × PM) (e0 : PM), am_loop (f_X10_matchOf_L50 c2 c3) n s = some e0 → (fun e : PM => X l mX10_matchOf 8 0 0 false T kM 0 0 71 [some (vR (40, 0, 0)), none, none, some (vI c3), none] [] (en e)) e0 → X l mX10_matchOf 8 0 0 false T kM 0 0 50 [some (vR (40, 0, 0)), none, some (vI c2), some (vI c3), some (vI s.1)] [] (en s.2) := by
  refine am_loop_of ?_
  intro s x hf k1 k2
  obtain ⟨x4 , u⟩ := s
  unfold f_X10_matchOf_L50 at hf
  show X l mX10_matchOf 8 0 0 false T kM 0 0 50 [some (vR (40, 0, 0)), none, some (vI c2), some (vI c3), some (vI x4)] [] (en u)
  refine r_iload (x := x4) dX10_matchOf_50 rfl ?_
  refine r_iload_n (x := c2) dX10_matchOf_52 rfl ?_
  refine r_icmp_ge (tgt := 71) dX10_matchOf_53 (by decide) (fun hc => ?_) (fun hc => ?_)
  · have hf := (am_if hf).1 hc
    refine r_weak (L' := [some (vR (40, 0, 0)), none, none, some (vI c3), none]) (And.intro rfl (And.intro rfl trivial)) ?_
    exact k2 (u) (am_inj hf).symm
  · have hf := (am_if hf).2 hc
    refine r_aload_n (x := (40, 0, 0)) dX10_matchOf_56 rfl ?_
    refine r_aload_n (x := (40, 0, 0)) dX10_matchOf_57 rfl ?_
    refine e_geti fw_X10_19 dX10_matchOf_58 (kM_mem (s := 40) (by decide)) rfl (lt_b rfl) ?_
    refine r_iconst (v := 0) dX10_matchOf_61 rfl ?_
    obtain ⟨r10, hr11, hf⟩ := am_bind hf
    refine r_callV (as := [vI (u.1 (40, 0, 0) 3), vI (0 : Int32)]) (st := []) (n := 2) mw_X10_390 mv_X10_goHour (C_X10_goHour (l := l) hr11) (le_b rfl) dX10_matchOf_62 (kM_mem (s := 40) (by decide)) rfl rfl rfl (le_b rfl) (le_b rfl) (le_b rfl) ?_
    show X l _ _ 0 0 false _ kM 0 0 65 [some (vR (40, 0, 0)), none, some (vI c2), some (vI c3), some (vI x4)] [] (en r10)
    refine r_iinc (x := x4) (v := x4 + (1 : Int32)) (L' := [some (vR (40, 0, 0)), none, some (vI c2), some (vI c3), some (vI (x4 + (1 : Int32)))]) dX10_matchOf_65 rfl rfl (lt_b rfl) rfl ?_
    refine r_goto (tgt := 50) dX10_matchOf_68 (by decide) ?_
    refine r_weak (L' := [some (vR (40, 0, 0)), none, some (vI c2), some (vI c3), some (vI (x4 + (1 : Int32)))]) (And.intro rfl (And.intro rfl (And.intro rfl (And.intro rfl trivial)))) ?_
    exact k1 (x4 + (1 : Int32), r10) (am_inj hf).symm
def f_X10_matchOf  (a0 : Int32) (a1 : Int32) (u : PM) : Option (Int32 × PM) :=
  (f_X10_asIs u).bind fun r1 =>
  (am_loop (f_X10_matchOf_L6 a0 a1) 2000 ((0 : Int32), r1)).bind fun u7 =>
  (f_X10_asIs u7).bind fun r8 =>
  (am_loop (f_X10_matchOf_L50 a1 (u7.1 (40, 0, 0) 35)) 2000 ((0 : Int32), (pi r8 (40, 0, 0) 32 ((r8.1 (40, 0, 0) 32) ||| ((1 : Int32) <<< (a0 &&& 31)))))).bind fun u14 =>
  some ((u14.1 (40, 0, 0) 35) - (u7.1 (40, 0, 0) 35), u14)
set_option maxHeartbeats 4000000 in
set_option maxRecDepth 20000 in
theorem C_X10_matchOf {l : Launch}  {a0 : Int32} {a1 : Int32} {u : PM} {x : Int32 × PM} (hf : f_X10_matchOf a0 a1 u = some x) : Ev l mX10_matchOf 8 0 0 false [vR (40, 0, 0), vI a0, vI a1] kM (en u) (some (vI x.1), kM, en x.2) := by
  refine Ev_of (by decide +kernel) (le_b rfl) ?_
  unfold f_X10_matchOf at hf
  show X l mX10_matchOf 8 0 0 false _ kM 0 0 0 [some (vR (40, 0, 0)), some (vI a0), some (vI a1), none, none] [] (en u)
  refine r_aload_n (x := (40, 0, 0)) dX10_matchOf_0 rfl ?_
  obtain ⟨r1, hr2, hf⟩ := am_bind hf
  refine r_callV (as := []) (st := []) (n := 0) mw_X10_361 mv_X10_asIs (C_X10_asIs (l := l) hr2) (le_b rfl) dX10_matchOf_1 (kM_mem (s := 40) (by decide)) rfl rfl rfl (le_b rfl) (le_b rfl) (le_b rfl) ?_
  show X l _ _ 0 0 false _ kM 0 0 4 [some (vR (40, 0, 0)), some (vI a0), some (vI a1), none, none] [] (en r1)
  refine r_iconst (v := 0) dX10_matchOf_4 rfl ?_
  refine r_istore_n (L' := [some (vR (40, 0, 0)), some (vI a0), some (vI a1), some (vI (0 : Int32)), none]) dX10_matchOf_5 (by decide) rfl ?_
  refine r_weak (L' := [some (vR (40, 0, 0)), some (vI a0), some (vI a1), some (vI (0 : Int32)), none]) (And.intro rfl (And.intro rfl (And.intro rfl (And.intro rfl trivial)))) ?_
  obtain ⟨e5, he6, hf⟩ := am_bind hf
  refine K_X10_matchOf_L6  2000 ((0 : Int32), r1) _ he6 ?_
  obtain ⟨u7, rfl⟩ : ∃ z, z = e5 := ⟨_, rfl⟩
  show X l _ _ 0 0 false _ kM 0 0 26 [some (vR (40, 0, 0)), some (vI a0), some (vI a1), none, none] [] (en u7)
  refine r_aload_n (x := (40, 0, 0)) dX10_matchOf_26 rfl ?_
  refine e_geti fw_X10_116 dX10_matchOf_27 (kM_mem (s := 40) (by decide)) rfl (lt_b rfl) ?_
  refine r_istore_n (L' := [some (vR (40, 0, 0)), some (vI a0), some (vI a1), some (vI (u7.1 (40, 0, 0) 35)), none]) dX10_matchOf_30 (by decide) rfl ?_
  refine r_aload_n (x := (40, 0, 0)) dX10_matchOf_31 rfl ?_
  obtain ⟨r8, hr9, hf⟩ := am_bind hf
  refine r_callV (as := []) (st := []) (n := 0) mw_X10_361 mv_X10_asIs (C_X10_asIs (l := l) hr9) (le_b rfl) dX10_matchOf_32 (kM_mem (s := 40) (by decide)) rfl rfl rfl (le_b rfl) (le_b rfl) (le_b rfl) ?_
  show X l _ _ 0 0 false _ kM 0 0 35 [some (vR (40, 0, 0)), some (vI a0), some (vI a1), some (vI (u7.1 (40, 0, 0) 35)), none] [] (en r8)
  refine r_aload_n (x := (40, 0, 0)) dX10_matchOf_35 rfl ?_
  refine r_dup dX10_matchOf_36 rfl ?_
  refine e_geti fw_X10_107 dX10_matchOf_37 (kM_mem (s := 40) (by decide)) rfl (lt_b rfl) ?_
  refine r_iconst (v := 1) dX10_matchOf_40 rfl ?_
  refine r_iload_n (x := a0) dX10_matchOf_41 rfl ?_
  refine r_ishl dX10_matchOf_42 ?_
  refine r_ior dX10_matchOf_43 ?_
  refine e_puti fp_X10_107 dX10_matchOf_44 (kM_mem (s := 40) (by decide)) rfl (lt_b rfl) rfl rfl rfl ?_
  refine r_iconst (v := 0) dX10_matchOf_47 rfl ?_
  refine r_istore (L' := [some (vR (40, 0, 0)), some (vI a0), some (vI a1), some (vI (u7.1 (40, 0, 0) 35)), some (vI (0 : Int32))]) dX10_matchOf_48 (by decide) rfl ?_
  refine r_weak (L' := [some (vR (40, 0, 0)), none, some (vI a1), some (vI (u7.1 (40, 0, 0) 35)), some (vI (0 : Int32))]) (And.intro rfl (And.intro rfl (And.intro rfl (And.intro rfl trivial)))) ?_
  obtain ⟨e12, he13, hf⟩ := am_bind hf
  refine K_X10_matchOf_L50  2000 ((0 : Int32), (pi r8 (40, 0, 0) 32 ((r8.1 (40, 0, 0) 32) ||| ((1 : Int32) <<< (a0 &&& 31))))) _ he13 ?_
  obtain ⟨u14, rfl⟩ : ∃ z, z = e12 := ⟨_, rfl⟩
  show X l _ _ 0 0 false _ kM 0 0 71 [some (vR (40, 0, 0)), none, none, some (vI (u7.1 (40, 0, 0) 35)), none] [] (en u14)
  refine r_aload_n (x := (40, 0, 0)) dX10_matchOf_71 rfl ?_
  refine e_geti fw_X10_116 dX10_matchOf_72 (kM_mem (s := 40) (by decide)) rfl (lt_b rfl) ?_
  refine r_iload_n (x := u7.1 (40, 0, 0) 35) dX10_matchOf_75 rfl ?_
  refine r_isub dX10_matchOf_76 ?_
  have hx := am_inj hf
  subst hx
  exact r_iret dX10_matchOf_77 rfl rfl (le_b rfl) (le_b rfl)
/-! FireFromFireModel.match -/
theorem dX10_match_0 : decode cX10_match 0 = .ok (.aload_n 0, 1) := by decide +kernel
theorem dX10_match_1 : decode cX10_match 1 = .ok (.iload_n 1, 1) := by decide +kernel
theorem dX10_match_2 : decode cX10_match 2 = .ok (.invokevirtual 271, 3) := by decide +kernel
theorem dX10_match_5 : decode cX10_match 5 = .ok (.ifCond .ne 7, 3) := by decide +kernel
theorem dX10_match_8 : decode cX10_match 8 = .ok (.ldc_w 430, 3) := by decide +kernel
theorem dX10_match_11 : decode cX10_match 11 = .ok (.ireturn, 1) := by decide +kernel
theorem dX10_match_12 : decode cX10_match 12 = .ok (.aload_n 0, 1) := by decide +kernel
theorem dX10_match_13 : decode cX10_match 13 = .ok (.iload_n 2, 1) := by decide +kernel
theorem dX10_match_14 : decode cX10_match 14 = .ok (.iconst 1, 1) := by decide +kernel
theorem dX10_match_15 : decode cX10_match 15 = .ok (.bipush 48, 2) := by decide +kernel
theorem dX10_match_17 : decode cX10_match 17 = .ok (.invokevirtual 267, 3) := by decide +kernel
theorem dX10_match_20 : decode cX10_match 20 = .ok (.ifCond .ne 7, 3) := by decide +kernel
theorem dX10_match_23 : decode cX10_match 23 = .ok (.ldc_w 431, 3) := by decide +kernel
theorem dX10_match_26 : decode cX10_match 26 = .ok (.ireturn, 1) := by decide +kernel
theorem dX10_match_27 : decode cX10_match 27 = .ok (.aload_n 0, 1) := by decide +kernel
theorem dX10_match_28 : decode cX10_match 28 = .ok (.iload_n 1, 1) := by decide +kernel
theorem dX10_match_29 : decode cX10_match 29 = .ok (.iload_n 2, 1) := by decide +kernel
theorem dX10_match_30 : decode cX10_match 30 = .ok (.invokevirtual 432, 3) := by decide +kernel
theorem dX10_match_33 : decode cX10_match 33 = .ok (.ireturn, 1) := by decide +kernel
def f_X10_match  (a0 : Int32) (a1 : Int32) (u : PM) : Option (Int32 × PM) :=
  (f_X10_isHouse a0 u).bind fun r1 =>
  if r1 = 0 then
    some ((-100001 : Int32), u)
  else
  (f_X10_in a1 (1 : Int32) (48 : Int32) u).bind fun r3 =>
  if r3 = 0 then
    some ((-100002 : Int32), u)
  else
  (f_X10_matchOf a0 a1 u).bind fun (r5, u7) =>
  some (r5, u7)
set_option maxHeartbeats 4000000 in
set_option maxRecDepth 20000 in
theorem C_X10_match {l : Launch}  {a0 : Int32} {a1 : Int32} {u : PM} {x : Int32 × PM} (hf : f_X10_match a0 a1 u = some x) : Ev l mX10_match 9 0 0 false [vR (40, 0, 0), vI a0, vI a1] kM (en u) (some (vI x.1), kM, en x.2) := by
  refine Ev_of (by decide +kernel) (le_b rfl) ?_
  unfold f_X10_match at hf
  show X l mX10_match 9 0 0 false _ kM 0 0 0 [some (vR (40, 0, 0)), some (vI a0), some (vI a1)] [] (en u)
  refine r_aload_n (x := (40, 0, 0)) dX10_match_0 rfl ?_
  refine r_iload_n (x := a0) dX10_match_1 rfl ?_
  obtain ⟨r1, hr2, hf⟩ := am_bind hf
  refine r_callV (as := [vI a0]) (st := []) (n := 1) mw_X10_271 mv_X10_isHouse (C_X10_isHouse (l := l) hr2) (le_b rfl) dX10_match_2 (kM_mem (s := 40) (by decide)) rfl rfl rfl (le_b rfl) (le_b rfl) (le_b rfl) ?_
  show X l _ _ 0 0 false _ kM 0 0 5 [some (vR (40, 0, 0)), some (vI a0), some (vI a1)] [vI r1] (en u)
  refine r_if_ne (tgt := 12) dX10_match_5 (by decide) (fun hc => ?_) (fun hc => ?_)
  · have hf := (am_if hf).2 hc
    refine r_aload_n (x := (40, 0, 0)) dX10_match_12 rfl ?_
    refine r_iload_n (x := a1) dX10_match_13 rfl ?_
    refine r_iconst (v := 1) dX10_match_14 rfl ?_
    refine r_bipush (v := 48) dX10_match_15 rfl ?_
    obtain ⟨r3, hr4, hf⟩ := am_bind hf
    refine r_callV (as := [vI a1, vI (1 : Int32), vI (48 : Int32)]) (st := []) (n := 3) mw_X10_267 mv_X10_in (C_X10_in (l := l) hr4) (le_b rfl) dX10_match_17 (kM_mem (s := 40) (by decide)) rfl rfl rfl (le_b rfl) (le_b rfl) (le_b rfl) ?_
    show X l _ _ 0 0 false _ kM 0 0 20 [some (vR (40, 0, 0)), some (vI a0), some (vI a1)] [vI r3] (en u)
    refine r_if_ne (tgt := 27) dX10_match_20 (by decide) (fun hc => ?_) (fun hc => ?_)
    · have hf := (am_if hf).2 hc
      refine r_aload_n (x := (40, 0, 0)) dX10_match_27 rfl ?_
      refine r_iload_n (x := a0) dX10_match_28 rfl ?_
      refine r_iload_n (x := a1) dX10_match_29 rfl ?_
      obtain ⟨⟨r5, u7⟩, hr6, hf⟩ := am_bind hf
      refine r_callV (as := [vI a0, vI a1]) (st := []) (n := 2) mw_X10_432 mv_X10_matchOf (C_X10_matchOf (l := l) hr6) (le_b rfl) dX10_match_30 (kM_mem (s := 40) (by decide)) rfl rfl rfl (le_b rfl) (le_b rfl) (le_b rfl) ?_
      show X l _ _ 0 0 false _ kM 0 0 33 [some (vR (40, 0, 0)), some (vI a0), some (vI a1)] [vI r5] (en u7)
      have hx := am_inj hf
      subst hx
      exact r_iret dX10_match_33 rfl rfl (le_b rfl) (le_b rfl)
    · have hf := (am_if hf).1 hc
      refine r_ldcw (v := -100002) dX10_match_23 cc_X10_431 ?_
      have hx := am_inj hf
      subst hx
      exact r_iret dX10_match_26 rfl rfl (le_b rfl) (le_b rfl)
  · have hf := (am_if hf).1 hc
    refine r_ldcw (v := -100001) dX10_match_8 cc_X10_430 ?_
    have hx := am_inj hf
    subst hx
    exact r_iret dX10_match_11 rfl rfl (le_b rfl) (le_b rfl)
/-! FireFromFireModel.asked -/
theorem dX10_asked_0 : decode cX10_asked 0 = .ok (.aload_n 0, 1) := by decide +kernel
theorem dX10_asked_1 : decode cX10_asked 1 = .ok (.iload_n 1, 1) := by decide +kernel
theorem dX10_asked_2 : decode cX10_asked 2 = .ok (.invokevirtual 271, 3) := by decide +kernel
theorem dX10_asked_5 : decode cX10_asked 5 = .ok (.ifCond .ne 5, 3) := by decide +kernel
theorem dX10_asked_8 : decode cX10_asked 8 = .ok (.iconst (-1), 1) := by decide +kernel
theorem dX10_asked_9 : decode cX10_asked 9 = .ok (.ireturn, 1) := by decide +kernel
theorem dX10_asked_10 : decode cX10_asked 10 = .ok (.aload_n 0, 1) := by decide +kernel
theorem dX10_asked_11 : decode cX10_asked 11 = .ok (.aload_n 0, 1) := by decide +kernel
theorem dX10_asked_12 : decode cX10_asked 12 = .ok (.getfield 13, 3) := by decide +kernel
theorem dX10_asked_15 : decode cX10_asked 15 = .ok (.iload_n 1, 1) := by decide +kernel
theorem dX10_asked_16 : decode cX10_asked 16 = .ok (.invokevirtual 275, 3) := by decide +kernel
theorem dX10_asked_19 : decode cX10_asked 19 = .ok (.ifCond .ne 6, 3) := by decide +kernel
theorem dX10_asked_22 : decode cX10_asked 22 = .ok (.bipush (-3), 2) := by decide +kernel
theorem dX10_asked_24 : decode cX10_asked 24 = .ok (.ireturn, 1) := by decide +kernel
theorem dX10_asked_25 : decode cX10_asked 25 = .ok (.iconst 0, 1) := by decide +kernel
theorem dX10_asked_26 : decode cX10_asked 26 = .ok (.istore_n 2, 1) := by decide +kernel
theorem dX10_asked_27 : decode cX10_asked 27 = .ok (.iconst 0, 1) := by decide +kernel
theorem dX10_asked_28 : decode cX10_asked 28 = .ok (.istore_n 3, 1) := by decide +kernel
theorem dX10_asked_29 : decode cX10_asked 29 = .ok (.iload_n 3, 1) := by decide +kernel
theorem dX10_asked_30 : decode cX10_asked 30 = .ok (.aload_n 0, 1) := by decide +kernel
theorem dX10_asked_31 : decode cX10_asked 31 = .ok (.getfield 7, 3) := by decide +kernel
theorem dX10_asked_34 : decode cX10_asked 34 = .ok (.if_icmp .ge 62, 3) := by decide +kernel
theorem dX10_asked_37 : decode cX10_asked 37 = .ok (.aload_n 0, 1) := by decide +kernel
theorem dX10_asked_38 : decode cX10_asked 38 = .ok (.aload_n 0, 1) := by decide +kernel
theorem dX10_asked_39 : decode cX10_asked 39 = .ok (.getfield 13, 3) := by decide +kernel
theorem dX10_asked_42 : decode cX10_asked 42 = .ok (.iload_n 3, 1) := by decide +kernel
theorem dX10_asked_43 : decode cX10_asked 43 = .ok (.invokevirtual 275, 3) := by decide +kernel
theorem dX10_asked_46 : decode cX10_asked 46 = .ok (.ifCond .eq 6, 3) := by decide +kernel
theorem dX10_asked_49 : decode cX10_asked 49 = .ok (.goto 41, 3) := by decide +kernel
theorem dX10_asked_52 : decode cX10_asked 52 = .ok (.aload_n 0, 1) := by decide +kernel
theorem dX10_asked_53 : decode cX10_asked 53 = .ok (.invokevirtual 361, 3) := by decide +kernel
theorem dX10_asked_56 : decode cX10_asked 56 = .ok (.aload_n 0, 1) := by decide +kernel
theorem dX10_asked_57 : decode cX10_asked 57 = .ok (.iload_n 3, 1) := by decide +kernel
theorem dX10_asked_58 : decode cX10_asked 58 = .ok (.invokevirtual 376, 3) := by decide +kernel
theorem dX10_asked_61 : decode cX10_asked 61 = .ok (.iload_n 1, 1) := by decide +kernel
theorem dX10_asked_62 : decode cX10_asked 62 = .ok (.if_icmp .eq 6, 3) := by decide +kernel
theorem dX10_asked_65 : decode cX10_asked 65 = .ok (.goto 25, 3) := by decide +kernel
theorem dX10_asked_68 : decode cX10_asked 68 = .ok (.aload_n 0, 1) := by decide +kernel
theorem dX10_asked_69 : decode cX10_asked 69 = .ok (.iload_n 3, 1) := by decide +kernel
theorem dX10_asked_70 : decode cX10_asked 70 = .ok (.bipush 24, 2) := by decide +kernel
theorem dX10_asked_72 : decode cX10_asked 72 = .ok (.invokevirtual 432, 3) := by decide +kernel
theorem dX10_asked_75 : decode cX10_asked 75 = .ok (.istore 4, 2) := by decide +kernel
theorem dX10_asked_77 : decode cX10_asked 77 = .ok (.iload 4, 2) := by decide +kernel
theorem dX10_asked_79 : decode cX10_asked 79 = .ok (.iload_n 2, 1) := by decide +kernel
theorem dX10_asked_80 : decode cX10_asked 80 = .ok (.if_icmp .le 8, 3) := by decide +kernel
theorem dX10_asked_83 : decode cX10_asked 83 = .ok (.iload 4, 2) := by decide +kernel
theorem dX10_asked_85 : decode cX10_asked 85 = .ok (.goto 4, 3) := by decide +kernel
theorem dX10_asked_88 : decode cX10_asked 88 = .ok (.iload_n 2, 1) := by decide +kernel
theorem dX10_asked_89 : decode cX10_asked 89 = .ok (.istore_n 2, 1) := by decide +kernel
theorem dX10_asked_90 : decode cX10_asked 90 = .ok (.iinc 3 1, 3) := by decide +kernel
theorem dX10_asked_93 : decode cX10_asked 93 = .ok (.goto (-64), 3) := by decide +kernel
theorem dX10_asked_96 : decode cX10_asked 96 = .ok (.aload_n 0, 1) := by decide +kernel
theorem dX10_asked_97 : decode cX10_asked 97 = .ok (.bipush 99, 2) := by decide +kernel
theorem dX10_asked_99 : decode cX10_asked 99 = .ok (.iload_n 2, 1) := by decide +kernel
theorem dX10_asked_100 : decode cX10_asked 100 = .ok (.invokevirtual 338, 3) := by decide +kernel
theorem dX10_asked_103 : decode cX10_asked 103 = .ok (.ireturn, 1) := by decide +kernel
def f_X10_asked_L29  (c1 : Int32) : Int32 × Int32 × PM → Option ((Int32 × Int32 × PM) ⊕ (Int32 × PM)) := fun (x2 , x3 , u) =>
  if (u.1 (40, 0, 0) 0) ≤ x3 then
    some (.inr (x2, u))
  else
  (f_X10_has (u.1 (40, 0, 0) 1) x3 u).bind fun r5 =>
  if r5 = 0 then
    (f_X10_asIs u).bind fun r7 =>
    (f_X10_whereTo x3 r7).bind fun r9 =>
    if r9 = c1 then
      (f_X10_matchOf x3 (24 : Int32) r7).bind fun (r11, u13) =>
      if r11 ≤ x2 then
        some (.inl (x2, x3 + (1 : Int32), u13))
      else
      some (.inl (r11, x3 + (1 : Int32), u13))
    else
    some (.inl (x2, x3 + (1 : Int32), r7))
  else
  some (.inl (x2, x3 + (1 : Int32), u))
set_option maxHeartbeats 4000000 in
set_option maxRecDepth 20000 in
theorem K_X10_asked_L29 {l : Launch} {T : Option AV × List Key × AM}  {c1 : Int32} : ∀ (n : Nat) (s : Int32 × Int32 × PM) (e0 : Int32 × PM), am_loop (f_X10_asked_L29 c1) n s = some e0 → (fun e : Int32 × PM => X l mX10_asked 9 0 0 false T kM 0 0 96 [some (vR (40, 0, 0)), none, some (vI e.1), none, none] [] (en e.2)) e0 → X l mX10_asked 9 0 0 false T kM 0 0 29 [some (vR (40, 0, 0)), some (vI c1), some (vI s.1), some (vI s.2.1), none] [] (en s.2.2) := by
  refine am_loop_of ?_
  intro s x hf k1 k2
  obtain ⟨x2 , x3 , u⟩ := s
  unfold f_X10_asked_L29 at hf
  show X l mX10_asked 9 0 0 false T kM 0 0 29 [some (vR (40, 0, 0)), some (vI c1), some (vI x2), some (vI x3), none] [] (en u)
  refine r_iload_n (x := x3) dX10_asked_29 rfl ?_
  refine r_aload_n (x := (40, 0, 0)) dX10_asked_30 rfl ?_
  refine e_geti fw_X10_7 dX10_asked_31 (kM_mem (s := 40) (by decide)) rfl (lt_b rfl) ?_
  refine r_icmp_ge (tgt := 96) dX10_asked_34 (by decide) (fun hc => ?_) (fun hc => ?_)
  · have hf := (am_if hf).1 hc
    refine r_weak (L' := [some (vR (40, 0, 0)), none, some (vI x2), none, none]) (And.intro rfl (And.intro rfl trivial)) ?_
    exact k2 (x2, u) (am_inj hf).symm
  · have hf := (am_if hf).2 hc
    refine r_aload_n (x := (40, 0, 0)) dX10_asked_37 rfl ?_
    refine r_aload_n (x := (40, 0, 0)) dX10_asked_38 rfl ?_
    refine e_geti fw_X10_13 dX10_asked_39 (kM_mem (s := 40) (by decide)) rfl (lt_b rfl) ?_
    refine r_iload_n (x := x3) dX10_asked_42 rfl ?_
    obtain ⟨r5, hr6, hf⟩ := am_bind hf
    refine r_callV (as := [vI (u.1 (40, 0, 0) 1), vI x3]) (st := []) (n := 2) mw_X10_275 mv_X10_has (C_X10_has (l := l) hr6) (le_b rfl) dX10_asked_43 (kM_mem (s := 40) (by decide)) rfl rfl rfl (le_b rfl) (le_b rfl) (le_b rfl) ?_
    show X l _ _ 0 0 false _ kM 0 0 46 [some (vR (40, 0, 0)), some (vI c1), some (vI x2), some (vI x3), none] [vI r5] (en u)
    refine r_if_eq (tgt := 52) dX10_asked_46 (by decide) (fun hc => ?_) (fun hc => ?_)
    · have hf := (am_if hf).1 hc
      refine r_aload_n (x := (40, 0, 0)) dX10_asked_52 rfl ?_
      obtain ⟨r7, hr8, hf⟩ := am_bind hf
      refine r_callV (as := []) (st := []) (n := 0) mw_X10_361 mv_X10_asIs (C_X10_asIs (l := l) hr8) (le_b rfl) dX10_asked_53 (kM_mem (s := 40) (by decide)) rfl rfl rfl (le_b rfl) (le_b rfl) (le_b rfl) ?_
      show X l _ _ 0 0 false _ kM 0 0 56 [some (vR (40, 0, 0)), some (vI c1), some (vI x2), some (vI x3), none] [] (en r7)
      refine r_aload_n (x := (40, 0, 0)) dX10_asked_56 rfl ?_
      refine r_iload_n (x := x3) dX10_asked_57 rfl ?_
      obtain ⟨r9, hr10, hf⟩ := am_bind hf
      refine r_callV (as := [vI x3]) (st := []) (n := 1) mw_X10_376 mv_X10_whereTo (C_X10_whereTo (l := l) hr10) (le_b rfl) dX10_asked_58 (kM_mem (s := 40) (by decide)) rfl rfl rfl (le_b rfl) (le_b rfl) (le_b rfl) ?_
      show X l _ _ 0 0 false _ kM 0 0 61 [some (vR (40, 0, 0)), some (vI c1), some (vI x2), some (vI x3), none] [vI r9] (en r7)
      refine r_iload_n (x := c1) dX10_asked_61 rfl ?_
      refine r_icmp_eq (tgt := 68) dX10_asked_62 (by decide) (fun hc => ?_) (fun hc => ?_)
      · have hf := (am_if hf).1 hc
        refine r_aload_n (x := (40, 0, 0)) dX10_asked_68 rfl ?_
        refine r_iload_n (x := x3) dX10_asked_69 rfl ?_
        refine r_bipush (v := 24) dX10_asked_70 rfl ?_
        obtain ⟨⟨r11, u13⟩, hr12, hf⟩ := am_bind hf
        refine r_callV (as := [vI x3, vI (24 : Int32)]) (st := []) (n := 2) mw_X10_432 mv_X10_matchOf (C_X10_matchOf (l := l) hr12) (le_b rfl) dX10_asked_72 (kM_mem (s := 40) (by decide)) rfl rfl rfl (le_b rfl) (le_b rfl) (le_b rfl) ?_
        show X l _ _ 0 0 false _ kM 0 0 75 [some (vR (40, 0, 0)), some (vI c1), some (vI x2), some (vI x3), none] [vI r11] (en u13)
        refine r_istore (L' := [some (vR (40, 0, 0)), some (vI c1), some (vI x2), some (vI x3), some (vI r11)]) dX10_asked_75 (by decide) rfl ?_
        refine r_iload (x := r11) dX10_asked_77 rfl ?_
        refine r_iload_n (x := x2) dX10_asked_79 rfl ?_
        refine r_icmp_le (tgt := 88) dX10_asked_80 (by decide) (fun hc => ?_) (fun hc => ?_)
        · have hf := (am_if hf).1 hc
          refine r_iload_n (x := x2) dX10_asked_88 rfl ?_
          refine r_istore_n (L' := [some (vR (40, 0, 0)), some (vI c1), some (vI x2), some (vI x3), some (vI r11)]) dX10_asked_89 (by decide) rfl ?_
          refine r_iinc (x := x3) (v := x3 + (1 : Int32)) (L' := [some (vR (40, 0, 0)), some (vI c1), some (vI x2), some (vI (x3 + (1 : Int32))), some (vI r11)]) dX10_asked_90 rfl rfl (lt_b rfl) rfl ?_
          refine r_goto (tgt := 29) dX10_asked_93 (by decide) ?_
          refine r_weak (L' := [some (vR (40, 0, 0)), some (vI c1), some (vI x2), some (vI (x3 + (1 : Int32))), none]) (And.intro rfl (And.intro rfl (And.intro rfl (And.intro rfl trivial)))) ?_
          exact k1 (x2, x3 + (1 : Int32), u13) (am_inj hf).symm
        · have hf := (am_if hf).2 hc
          refine r_iload (x := r11) dX10_asked_83 rfl ?_
          refine r_goto (tgt := 89) dX10_asked_85 (by decide) ?_
          refine r_istore_n (L' := [some (vR (40, 0, 0)), some (vI c1), some (vI r11), some (vI x3), some (vI r11)]) dX10_asked_89 (by decide) rfl ?_
          refine r_iinc (x := x3) (v := x3 + (1 : Int32)) (L' := [some (vR (40, 0, 0)), some (vI c1), some (vI r11), some (vI (x3 + (1 : Int32))), some (vI r11)]) dX10_asked_90 rfl rfl (lt_b rfl) rfl ?_
          refine r_goto (tgt := 29) dX10_asked_93 (by decide) ?_
          refine r_weak (L' := [some (vR (40, 0, 0)), some (vI c1), some (vI r11), some (vI (x3 + (1 : Int32))), none]) (And.intro rfl (And.intro rfl (And.intro rfl (And.intro rfl trivial)))) ?_
          exact k1 (r11, x3 + (1 : Int32), u13) (am_inj hf).symm
      · have hf := (am_if hf).2 hc
        refine r_goto (tgt := 90) dX10_asked_65 (by decide) ?_
        refine r_iinc (x := x3) (v := x3 + (1 : Int32)) (L' := [some (vR (40, 0, 0)), some (vI c1), some (vI x2), some (vI (x3 + (1 : Int32))), none]) dX10_asked_90 rfl rfl (lt_b rfl) rfl ?_
        refine r_goto (tgt := 29) dX10_asked_93 (by decide) ?_
        refine r_weak (L' := [some (vR (40, 0, 0)), some (vI c1), some (vI x2), some (vI (x3 + (1 : Int32))), none]) (And.intro rfl (And.intro rfl (And.intro rfl (And.intro rfl trivial)))) ?_
        exact k1 (x2, x3 + (1 : Int32), r7) (am_inj hf).symm
    · have hf := (am_if hf).2 hc
      refine r_goto (tgt := 90) dX10_asked_49 (by decide) ?_
      refine r_iinc (x := x3) (v := x3 + (1 : Int32)) (L' := [some (vR (40, 0, 0)), some (vI c1), some (vI x2), some (vI (x3 + (1 : Int32))), none]) dX10_asked_90 rfl rfl (lt_b rfl) rfl ?_
      refine r_goto (tgt := 29) dX10_asked_93 (by decide) ?_
      refine r_weak (L' := [some (vR (40, 0, 0)), some (vI c1), some (vI x2), some (vI (x3 + (1 : Int32))), none]) (And.intro rfl (And.intro rfl (And.intro rfl (And.intro rfl trivial)))) ?_
      exact k1 (x2, x3 + (1 : Int32), u) (am_inj hf).symm
def f_X10_asked  (a0 : Int32) (u : PM) : Option (Int32 × PM) :=
  (f_X10_isHouse a0 u).bind fun r1 =>
  if r1 = 0 then
    some ((-1 : Int32), u)
  else
  (f_X10_has (u.1 (40, 0, 0) 1) a0 u).bind fun r3 =>
  if r3 = 0 then
    some ((-3 : Int32), u)
  else
  (am_loop (f_X10_asked_L29 a0) 2000 ((0 : Int32), (0 : Int32), u)).bind fun (y16, u17) =>
  (f_X10_min (99 : Int32) y16 u17).bind fun r18 =>
  some (r18, u17)
set_option maxHeartbeats 4000000 in
set_option maxRecDepth 20000 in
theorem C_X10_asked {l : Launch}  {a0 : Int32} {u : PM} {x : Int32 × PM} (hf : f_X10_asked a0 u = some x) : Ev l mX10_asked 9 0 0 false [vR (40, 0, 0), vI a0] kM (en u) (some (vI x.1), kM, en x.2) := by
  refine Ev_of (by decide +kernel) (le_b rfl) ?_
  unfold f_X10_asked at hf
  show X l mX10_asked 9 0 0 false _ kM 0 0 0 [some (vR (40, 0, 0)), some (vI a0), none, none, none] [] (en u)
  refine r_aload_n (x := (40, 0, 0)) dX10_asked_0 rfl ?_
  refine r_iload_n (x := a0) dX10_asked_1 rfl ?_
  obtain ⟨r1, hr2, hf⟩ := am_bind hf
  refine r_callV (as := [vI a0]) (st := []) (n := 1) mw_X10_271 mv_X10_isHouse (C_X10_isHouse (l := l) hr2) (le_b rfl) dX10_asked_2 (kM_mem (s := 40) (by decide)) rfl rfl rfl (le_b rfl) (le_b rfl) (le_b rfl) ?_
  show X l _ _ 0 0 false _ kM 0 0 5 [some (vR (40, 0, 0)), some (vI a0), none, none, none] [vI r1] (en u)
  refine r_if_ne (tgt := 10) dX10_asked_5 (by decide) (fun hc => ?_) (fun hc => ?_)
  · have hf := (am_if hf).2 hc
    refine r_aload_n (x := (40, 0, 0)) dX10_asked_10 rfl ?_
    refine r_aload_n (x := (40, 0, 0)) dX10_asked_11 rfl ?_
    refine e_geti fw_X10_13 dX10_asked_12 (kM_mem (s := 40) (by decide)) rfl (lt_b rfl) ?_
    refine r_iload_n (x := a0) dX10_asked_15 rfl ?_
    obtain ⟨r3, hr4, hf⟩ := am_bind hf
    refine r_callV (as := [vI (u.1 (40, 0, 0) 1), vI a0]) (st := []) (n := 2) mw_X10_275 mv_X10_has (C_X10_has (l := l) hr4) (le_b rfl) dX10_asked_16 (kM_mem (s := 40) (by decide)) rfl rfl rfl (le_b rfl) (le_b rfl) (le_b rfl) ?_
    show X l _ _ 0 0 false _ kM 0 0 19 [some (vR (40, 0, 0)), some (vI a0), none, none, none] [vI r3] (en u)
    refine r_if_ne (tgt := 25) dX10_asked_19 (by decide) (fun hc => ?_) (fun hc => ?_)
    · have hf := (am_if hf).2 hc
      refine r_iconst (v := 0) dX10_asked_25 rfl ?_
      refine r_istore_n (L' := [some (vR (40, 0, 0)), some (vI a0), some (vI (0 : Int32)), none, none]) dX10_asked_26 (by decide) rfl ?_
      refine r_iconst (v := 0) dX10_asked_27 rfl ?_
      refine r_istore_n (L' := [some (vR (40, 0, 0)), some (vI a0), some (vI (0 : Int32)), some (vI (0 : Int32)), none]) dX10_asked_28 (by decide) rfl ?_
      refine r_weak (L' := [some (vR (40, 0, 0)), some (vI a0), some (vI (0 : Int32)), some (vI (0 : Int32)), none]) (And.intro rfl (And.intro rfl (And.intro rfl (And.intro rfl trivial)))) ?_
      obtain ⟨e14, he15, hf⟩ := am_bind hf
      refine K_X10_asked_L29  2000 ((0 : Int32), (0 : Int32), u) _ he15 ?_
      obtain ⟨y16, u17⟩ := e14
      show X l _ _ 0 0 false _ kM 0 0 96 [some (vR (40, 0, 0)), none, some (vI y16), none, none] [] (en u17)
      refine r_aload_n (x := (40, 0, 0)) dX10_asked_96 rfl ?_
      refine r_bipush (v := 99) dX10_asked_97 rfl ?_
      refine r_iload_n (x := y16) dX10_asked_99 rfl ?_
      obtain ⟨r18, hr19, hf⟩ := am_bind hf
      refine r_callV (as := [vI (99 : Int32), vI y16]) (st := []) (n := 2) mw_X10_338 mv_X10_min (C_X10_min (l := l) hr19) (le_b rfl) dX10_asked_100 (kM_mem (s := 40) (by decide)) rfl rfl rfl (le_b rfl) (le_b rfl) (le_b rfl) ?_
      show X l _ _ 0 0 false _ kM 0 0 103 [some (vR (40, 0, 0)), none, some (vI y16), none, none] [vI r18] (en u17)
      have hx := am_inj hf
      subst hx
      exact r_iret dX10_asked_103 rfl rfl (le_b rfl) (le_b rfl)
    · have hf := (am_if hf).1 hc
      refine r_bipush (v := -3) dX10_asked_22 rfl ?_
      have hx := am_inj hf
      subst hx
      exact r_iret dX10_asked_24 rfl rfl (le_b rfl) (le_b rfl)
  · have hf := (am_if hf).1 hc
    refine r_iconst (v := -1) dX10_asked_8 rfl ?_
    have hx := am_inj hf
    subst hx
    exact r_iret dX10_asked_9 rfl rfl (le_b rfl) (le_b rfl)
/-! FireFromFireModel.law -/
theorem dX10_law_0 : decode cX10_law 0 = .ok (.aload_n 0, 1) := by decide +kernel
theorem dX10_law_1 : decode cX10_law 1 = .ok (.iload_n 1, 1) := by decide +kernel
theorem dX10_law_2 : decode cX10_law 2 = .ok (.iconst 1, 1) := by decide +kernel
theorem dX10_law_3 : decode cX10_law 3 = .ok (.bipush 99, 2) := by decide +kernel
theorem dX10_law_5 : decode cX10_law 5 = .ok (.invokevirtual 267, 3) := by decide +kernel
theorem dX10_law_8 : decode cX10_law 8 = .ok (.ifCond .ne 6, 3) := by decide +kernel
theorem dX10_law_11 : decode cX10_law 11 = .ok (.bipush (-2), 2) := by decide +kernel
theorem dX10_law_13 : decode cX10_law 13 = .ok (.ireturn, 1) := by decide +kernel
theorem dX10_law_14 : decode cX10_law 14 = .ok (.iconst 0, 1) := by decide +kernel
theorem dX10_law_15 : decode cX10_law 15 = .ok (.istore_n 2, 1) := by decide +kernel
theorem dX10_law_16 : decode cX10_law 16 = .ok (.iload_n 2, 1) := by decide +kernel
theorem dX10_law_17 : decode cX10_law 17 = .ok (.bipush 10, 2) := by decide +kernel
theorem dX10_law_19 : decode cX10_law 19 = .ok (.if_icmp .ge 74, 3) := by decide +kernel
theorem dX10_law_22 : decode cX10_law 22 = .ok (.aload_n 0, 1) := by decide +kernel
theorem dX10_law_23 : decode cX10_law 23 = .ok (.invokevirtual 361, 3) := by decide +kernel
theorem dX10_law_26 : decode cX10_law 26 = .ok (.iconst 0, 1) := by decide +kernel
theorem dX10_law_27 : decode cX10_law 27 = .ok (.istore_n 3, 1) := by decide +kernel
theorem dX10_law_28 : decode cX10_law 28 = .ok (.iload_n 3, 1) := by decide +kernel
theorem dX10_law_29 : decode cX10_law 29 = .ok (.aload_n 0, 1) := by decide +kernel
theorem dX10_law_30 : decode cX10_law 30 = .ok (.getfield 7, 3) := by decide +kernel
theorem dX10_law_33 : decode cX10_law 33 = .ok (.if_icmp .ge 23, 3) := by decide +kernel
theorem dX10_law_36 : decode cX10_law 36 = .ok (.aload_n 0, 1) := by decide +kernel
theorem dX10_law_37 : decode cX10_law 37 = .ok (.getfield 128, 3) := by decide +kernel
theorem dX10_law_40 : decode cX10_law 40 = .ok (.iload_n 3, 1) := by decide +kernel
theorem dX10_law_41 : decode cX10_law 41 = .ok (.iconst 4, 1) := by decide +kernel
theorem dX10_law_42 : decode cX10_law 42 = .ok (.iastore, 1) := by decide +kernel
theorem dX10_law_43 : decode cX10_law 43 = .ok (.aload_n 0, 1) := by decide +kernel
theorem dX10_law_44 : decode cX10_law 44 = .ok (.getfield 131, 3) := by decide +kernel
theorem dX10_law_47 : decode cX10_law 47 = .ok (.iload_n 3, 1) := by decide +kernel
theorem dX10_law_48 : decode cX10_law 48 = .ok (.iload_n 2, 1) := by decide +kernel
theorem dX10_law_49 : decode cX10_law 49 = .ok (.iastore, 1) := by decide +kernel
theorem dX10_law_50 : decode cX10_law 50 = .ok (.iinc 3 1, 3) := by decide +kernel
theorem dX10_law_53 : decode cX10_law 53 = .ok (.goto (-25), 3) := by decide +kernel
theorem dX10_law_56 : decode cX10_law 56 = .ok (.iconst 0, 1) := by decide +kernel
theorem dX10_law_57 : decode cX10_law 57 = .ok (.istore_n 3, 1) := by decide +kernel
theorem dX10_law_58 : decode cX10_law 58 = .ok (.iload_n 3, 1) := by decide +kernel
theorem dX10_law_59 : decode cX10_law 59 = .ok (.iload_n 1, 1) := by decide +kernel
theorem dX10_law_60 : decode cX10_law 60 = .ok (.if_icmp .ge 18, 3) := by decide +kernel
theorem dX10_law_63 : decode cX10_law 63 = .ok (.aload_n 0, 1) := by decide +kernel
theorem dX10_law_64 : decode cX10_law 64 = .ok (.aload_n 0, 1) := by decide +kernel
theorem dX10_law_65 : decode cX10_law 65 = .ok (.getfield 19, 3) := by decide +kernel
theorem dX10_law_68 : decode cX10_law 68 = .ok (.iconst 0, 1) := by decide +kernel
theorem dX10_law_69 : decode cX10_law 69 = .ok (.invokevirtual 390, 3) := by decide +kernel
theorem dX10_law_72 : decode cX10_law 72 = .ok (.iinc 3 1, 3) := by decide +kernel
theorem dX10_law_75 : decode cX10_law 75 = .ok (.goto (-17), 3) := by decide +kernel
theorem dX10_law_78 : decode cX10_law 78 = .ok (.aload_n 0, 1) := by decide +kernel
theorem dX10_law_79 : decode cX10_law 79 = .ok (.getfield 107, 3) := by decide +kernel
theorem dX10_law_82 : decode cX10_law 82 = .ok (.ifCond .eq 5, 3) := by decide +kernel
theorem dX10_law_85 : decode cX10_law 85 = .ok (.iload_n 2, 1) := by decide +kernel
theorem dX10_law_86 : decode cX10_law 86 = .ok (.ireturn, 1) := by decide +kernel
theorem dX10_law_87 : decode cX10_law 87 = .ok (.iinc 2 1, 3) := by decide +kernel
theorem dX10_law_90 : decode cX10_law 90 = .ok (.goto (-74), 3) := by decide +kernel
theorem dX10_law_93 : decode cX10_law 93 = .ok (.bipush (-5), 2) := by decide +kernel
theorem dX10_law_95 : decode cX10_law 95 = .ok (.ireturn, 1) := by decide +kernel
def f_X10_law_L28  (c1 : Int32) (c2 : Int32) : Int32 × PM → Option ((Int32 × PM) ⊕ (PM)) := fun (x3 , u) =>
  if (u.1 (40, 0, 0) 0) ≤ x3 then
    some (.inr (u))
  else
  if x3 < 0 ∨ 6 ≤ x3.toNatClampNeg then none else
  some (.inl (x3 + (1 : Int32), (pi (pi u (63, 0, 0) x3.toNatClampNeg (4 : Int32)) (64, 0, 0) x3.toNatClampNeg c2)))
set_option maxHeartbeats 4000000 in
set_option maxRecDepth 20000 in
theorem K_X10_law_L28 {l : Launch} {T : Option AV × List Key × AM}  {c1 : Int32} {c2 : Int32} : ∀ (n : Nat) (s : Int32 × PM) (e0 : PM), am_loop (f_X10_law_L28 c1 c2) n s = some e0 → (fun e : PM => X l mX10_law 8 0 0 false T kM 0 0 56 [some (vR (40, 0, 0)), some (vI c1), some (vI c2), none] [] (en e)) e0 → X l mX10_law 8 0 0 false T kM 0 0 28 [some (vR (40, 0, 0)), some (vI c1), some (vI c2), some (vI s.1)] [] (en s.2) := by
  refine am_loop_of ?_
  intro s x hf k1 k2
  obtain ⟨x3 , u⟩ := s
  unfold f_X10_law_L28 at hf
  show X l mX10_law 8 0 0 false T kM 0 0 28 [some (vR (40, 0, 0)), some (vI c1), some (vI c2), some (vI x3)] [] (en u)
  refine r_iload_n (x := x3) dX10_law_28 rfl ?_
  refine r_aload_n (x := (40, 0, 0)) dX10_law_29 rfl ?_
  refine e_geti fw_X10_7 dX10_law_30 (kM_mem (s := 40) (by decide)) rfl (lt_b rfl) ?_
  refine r_icmp_ge (tgt := 56) dX10_law_33 (by decide) (fun hc => ?_) (fun hc => ?_)
  · have hf := (am_if hf).1 hc
    refine r_weak (L' := [some (vR (40, 0, 0)), some (vI c1), some (vI c2), none]) (And.intro rfl (And.intro rfl (And.intro rfl trivial))) ?_
    exact k2 (u) (am_inj hf).symm
  · have hf := (am_if hf).2 hc
    refine r_aload_n (x := (40, 0, 0)) dX10_law_36 rfl ?_
    refine e_getr (z := some (63, 0, 0)) fw_X10_128 dX10_law_37 (kM_mem (s := 40) (by decide)) rfl (lt_b rfl) rfl ?_
    refine r_iload_n (x := x3) dX10_law_40 rfl ?_
    refine r_iconst (v := 4) dX10_law_41 rfl ?_
    obtain ⟨h5, hf⟩ := am_nchk hf
    refine e_iast (n := x3.toNatClampNeg) dX10_law_42 (kM_mem (s := 63) (by decide)) rfl h5 rfl ?_
    refine r_aload_n (x := (40, 0, 0)) dX10_law_43 rfl ?_
    refine e_getr (z := some (64, 0, 0)) fw_X10_131 dX10_law_44 (kM_mem (s := 40) (by decide)) rfl (lt_b rfl) rfl ?_
    refine r_iload_n (x := x3) dX10_law_47 rfl ?_
    refine r_iload_n (x := c2) dX10_law_48 rfl ?_
    refine e_iast (n := x3.toNatClampNeg) dX10_law_49 (kM_mem (s := 64) (by decide)) rfl h5 rfl ?_
    refine r_iinc (x := x3) (v := x3 + (1 : Int32)) (L' := [some (vR (40, 0, 0)), some (vI c1), some (vI c2), some (vI (x3 + (1 : Int32)))]) dX10_law_50 rfl rfl (lt_b rfl) rfl ?_
    refine r_goto (tgt := 28) dX10_law_53 (by decide) ?_
    refine r_weak (L' := [some (vR (40, 0, 0)), some (vI c1), some (vI c2), some (vI (x3 + (1 : Int32)))]) (And.intro rfl (And.intro rfl (And.intro rfl (And.intro rfl trivial)))) ?_
    exact k1 (x3 + (1 : Int32), (pi (pi u (63, 0, 0) x3.toNatClampNeg (4 : Int32)) (64, 0, 0) x3.toNatClampNeg c2)) (am_inj hf).symm
def f_X10_law_L58  (c1 : Int32) (c2 : Int32) : Int32 × PM → Option ((Int32 × PM) ⊕ (PM)) := fun (x3 , u) =>
  if c1 ≤ x3 then
    some (.inr (u))
  else
  (f_X10_goHour (u.1 (40, 0, 0) 3) (0 : Int32) u).bind fun r9 =>
  some (.inl (x3 + (1 : Int32), r9))
set_option maxHeartbeats 4000000 in
set_option maxRecDepth 20000 in
theorem K_X10_law_L58 {l : Launch} {T : Option AV × List Key × AM}  {c1 : Int32} {c2 : Int32} : ∀ (n : Nat) (s : Int32 × PM) (e0 : PM), am_loop (f_X10_law_L58 c1 c2) n s = some e0 → (fun e : PM => X l mX10_law 8 0 0 false T kM 0 0 78 [some (vR (40, 0, 0)), some (vI c1), some (vI c2), none] [] (en e)) e0 → X l mX10_law 8 0 0 false T kM 0 0 58 [some (vR (40, 0, 0)), some (vI c1), some (vI c2), some (vI s.1)] [] (en s.2) := by
  refine am_loop_of ?_
  intro s x hf k1 k2
  obtain ⟨x3 , u⟩ := s
  unfold f_X10_law_L58 at hf
  show X l mX10_law 8 0 0 false T kM 0 0 58 [some (vR (40, 0, 0)), some (vI c1), some (vI c2), some (vI x3)] [] (en u)
  refine r_iload_n (x := x3) dX10_law_58 rfl ?_
  refine r_iload_n (x := c1) dX10_law_59 rfl ?_
  refine r_icmp_ge (tgt := 78) dX10_law_60 (by decide) (fun hc => ?_) (fun hc => ?_)
  · have hf := (am_if hf).1 hc
    refine r_weak (L' := [some (vR (40, 0, 0)), some (vI c1), some (vI c2), none]) (And.intro rfl (And.intro rfl (And.intro rfl trivial))) ?_
    exact k2 (u) (am_inj hf).symm
  · have hf := (am_if hf).2 hc
    refine r_aload_n (x := (40, 0, 0)) dX10_law_63 rfl ?_
    refine r_aload_n (x := (40, 0, 0)) dX10_law_64 rfl ?_
    refine e_geti fw_X10_19 dX10_law_65 (kM_mem (s := 40) (by decide)) rfl (lt_b rfl) ?_
    refine r_iconst (v := 0) dX10_law_68 rfl ?_
    obtain ⟨r9, hr10, hf⟩ := am_bind hf
    refine r_callV (as := [vI (u.1 (40, 0, 0) 3), vI (0 : Int32)]) (st := []) (n := 2) mw_X10_390 mv_X10_goHour (C_X10_goHour (l := l) hr10) (le_b rfl) dX10_law_69 (kM_mem (s := 40) (by decide)) rfl rfl rfl (le_b rfl) (le_b rfl) (le_b rfl) ?_
    show X l _ _ 0 0 false _ kM 0 0 72 [some (vR (40, 0, 0)), some (vI c1), some (vI c2), some (vI x3)] [] (en r9)
    refine r_iinc (x := x3) (v := x3 + (1 : Int32)) (L' := [some (vR (40, 0, 0)), some (vI c1), some (vI c2), some (vI (x3 + (1 : Int32)))]) dX10_law_72 rfl rfl (lt_b rfl) rfl ?_
    refine r_goto (tgt := 58) dX10_law_75 (by decide) ?_
    refine r_weak (L' := [some (vR (40, 0, 0)), some (vI c1), some (vI c2), some (vI (x3 + (1 : Int32)))]) (And.intro rfl (And.intro rfl (And.intro rfl (And.intro rfl trivial)))) ?_
    exact k1 (x3 + (1 : Int32), r9) (am_inj hf).symm
def f_X10_law_L16  (c1 : Int32) : Int32 × PM → Option ((Int32 × PM) ⊕ ((Int32 × PM) ⊕ (PM))) := fun (x2 , u) =>
  if (10 : Int32) ≤ x2 then
    some (.inr (.inr (u)))
  else
  (f_X10_asIs u).bind fun r3 =>
  (am_loop (f_X10_law_L28 c1 x2) 2000 ((0 : Int32), r3)).bind fun u8 =>
  (am_loop (f_X10_law_L58 c1 x2) 2000 ((0 : Int32), u8)).bind fun u13 =>
  if (u13.1 (40, 0, 0) 32) = 0 then
    some (.inl (x2 + (1 : Int32), u13))
  else
  some (.inr (.inl (x2, u13)))
set_option maxHeartbeats 4000000 in
set_option maxRecDepth 20000 in
theorem K_X10_law_L16 {l : Launch} {T : Option AV × List Key × AM}  {c1 : Int32} : ∀ (n : Nat) (s : Int32 × PM) (e0 : (Int32 × PM) ⊕ (PM)), am_loop (f_X10_law_L16 c1) n s = some e0 → Sum.elim (fun r : Int32 × PM => T = (some (vI r.1), kM, en r.2)) (fun e : PM => X l mX10_law 8 0 0 false T kM 0 0 93 [none, none, none, none] [] (en e)) e0 → X l mX10_law 8 0 0 false T kM 0 0 16 [some (vR (40, 0, 0)), some (vI c1), some (vI s.1), none] [] (en s.2) := by
  refine am_loop_of ?_
  intro s x hf k1 k2
  obtain ⟨x2 , u⟩ := s
  unfold f_X10_law_L16 at hf
  show X l mX10_law 8 0 0 false T kM 0 0 16 [some (vR (40, 0, 0)), some (vI c1), some (vI x2), none] [] (en u)
  refine r_iload_n (x := x2) dX10_law_16 rfl ?_
  refine r_bipush (v := 10) dX10_law_17 rfl ?_
  refine r_icmp_ge (tgt := 93) dX10_law_19 (by decide) (fun hc => ?_) (fun hc => ?_)
  · have hf := (am_if hf).1 hc
    refine r_weak (L' := [none, none, none, none]) trivial ?_
    exact k2 (.inr (u)) (am_inj hf).symm
  · have hf := (am_if hf).2 hc
    refine r_aload_n (x := (40, 0, 0)) dX10_law_22 rfl ?_
    obtain ⟨r3, hr4, hf⟩ := am_bind hf
    refine r_callV (as := []) (st := []) (n := 0) mw_X10_361 mv_X10_asIs (C_X10_asIs (l := l) hr4) (le_b rfl) dX10_law_23 (kM_mem (s := 40) (by decide)) rfl rfl rfl (le_b rfl) (le_b rfl) (le_b rfl) ?_
    show X l _ _ 0 0 false _ kM 0 0 26 [some (vR (40, 0, 0)), some (vI c1), some (vI x2), none] [] (en r3)
    refine r_iconst (v := 0) dX10_law_26 rfl ?_
    refine r_istore_n (L' := [some (vR (40, 0, 0)), some (vI c1), some (vI x2), some (vI (0 : Int32))]) dX10_law_27 (by decide) rfl ?_
    refine r_weak (L' := [some (vR (40, 0, 0)), some (vI c1), some (vI x2), some (vI (0 : Int32))]) (And.intro rfl (And.intro rfl (And.intro rfl (And.intro rfl trivial)))) ?_
    obtain ⟨e6, he7, hf⟩ := am_bind hf
    refine K_X10_law_L28  2000 ((0 : Int32), r3) _ he7 ?_
    obtain ⟨u8, rfl⟩ : ∃ z, z = e6 := ⟨_, rfl⟩
    show X l _ _ 0 0 false _ kM 0 0 56 [some (vR (40, 0, 0)), some (vI c1), some (vI x2), none] [] (en u8)
    refine r_iconst (v := 0) dX10_law_56 rfl ?_
    refine r_istore_n (L' := [some (vR (40, 0, 0)), some (vI c1), some (vI x2), some (vI (0 : Int32))]) dX10_law_57 (by decide) rfl ?_
    refine r_weak (L' := [some (vR (40, 0, 0)), some (vI c1), some (vI x2), some (vI (0 : Int32))]) (And.intro rfl (And.intro rfl (And.intro rfl (And.intro rfl trivial)))) ?_
    obtain ⟨e11, he12, hf⟩ := am_bind hf
    refine K_X10_law_L58  2000 ((0 : Int32), u8) _ he12 ?_
    obtain ⟨u13, rfl⟩ : ∃ z, z = e11 := ⟨_, rfl⟩
    show X l _ _ 0 0 false _ kM 0 0 78 [some (vR (40, 0, 0)), some (vI c1), some (vI x2), none] [] (en u13)
    refine r_aload_n (x := (40, 0, 0)) dX10_law_78 rfl ?_
    refine e_geti fw_X10_107 dX10_law_79 (kM_mem (s := 40) (by decide)) rfl (lt_b rfl) ?_
    refine r_if_eq (tgt := 87) dX10_law_82 (by decide) (fun hc => ?_) (fun hc => ?_)
    · have hf := (am_if hf).1 hc
      refine r_iinc (x := x2) (v := x2 + (1 : Int32)) (L' := [some (vR (40, 0, 0)), some (vI c1), some (vI (x2 + (1 : Int32))), none]) dX10_law_87 rfl rfl (lt_b rfl) rfl ?_
      refine r_goto (tgt := 16) dX10_law_90 (by decide) ?_
      refine r_weak (L' := [some (vR (40, 0, 0)), some (vI c1), some (vI (x2 + (1 : Int32))), none]) (And.intro rfl (And.intro rfl (And.intro rfl trivial))) ?_
      exact k1 (x2 + (1 : Int32), u13) (am_inj hf).symm
    · have hf := (am_if hf).2 hc
      refine r_iload_n (x := x2) dX10_law_85 rfl ?_
      have hT := k2 _ (am_inj hf).symm
      replace hT : T = (some (vI x2), kM, en u13) := hT
      subst hT
      exact r_iret dX10_law_86 rfl rfl (le_b rfl) (le_b rfl)
def f_X10_law  (a0 : Int32) (u : PM) : Option (Int32 × PM) :=
  (f_X10_in a0 (1 : Int32) (99 : Int32) u).bind fun r1 =>
  if r1 = 0 then
    some ((-2 : Int32), u)
  else
  (am_loop (f_X10_law_L16 a0) 2000 ((0 : Int32), u)).bind fun e14 =>
  match e14 with
  | .inl q17 => some q17
  | .inr u16 =>
    some ((-5 : Int32), u16)
set_option maxHeartbeats 4000000 in
set_option maxRecDepth 20000 in
theorem C_X10_law {l : Launch}  {a0 : Int32} {u : PM} {x : Int32 × PM} (hf : f_X10_law a0 u = some x) : Ev l mX10_law 8 0 0 false [vR (40, 0, 0), vI a0] kM (en u) (some (vI x.1), kM, en x.2) := by
  refine Ev_of (by decide +kernel) (le_b rfl) ?_
  unfold f_X10_law at hf
  show X l mX10_law 8 0 0 false _ kM 0 0 0 [some (vR (40, 0, 0)), some (vI a0), none, none] [] (en u)
  refine r_aload_n (x := (40, 0, 0)) dX10_law_0 rfl ?_
  refine r_iload_n (x := a0) dX10_law_1 rfl ?_
  refine r_iconst (v := 1) dX10_law_2 rfl ?_
  refine r_bipush (v := 99) dX10_law_3 rfl ?_
  obtain ⟨r1, hr2, hf⟩ := am_bind hf
  refine r_callV (as := [vI a0, vI (1 : Int32), vI (99 : Int32)]) (st := []) (n := 3) mw_X10_267 mv_X10_in (C_X10_in (l := l) hr2) (le_b rfl) dX10_law_5 (kM_mem (s := 40) (by decide)) rfl rfl rfl (le_b rfl) (le_b rfl) (le_b rfl) ?_
  show X l _ _ 0 0 false _ kM 0 0 8 [some (vR (40, 0, 0)), some (vI a0), none, none] [vI r1] (en u)
  refine r_if_ne (tgt := 14) dX10_law_8 (by decide) (fun hc => ?_) (fun hc => ?_)
  · have hf := (am_if hf).2 hc
    refine r_iconst (v := 0) dX10_law_14 rfl ?_
    refine r_istore_n (L' := [some (vR (40, 0, 0)), some (vI a0), some (vI (0 : Int32)), none]) dX10_law_15 (by decide) rfl ?_
    refine r_weak (L' := [some (vR (40, 0, 0)), some (vI a0), some (vI (0 : Int32)), none]) (And.intro rfl (And.intro rfl (And.intro rfl trivial))) ?_
    obtain ⟨e14, he15, hf⟩ := am_bind hf
    refine K_X10_law_L16  2000 ((0 : Int32), u) _ he15 ?_
    rcases e14 with q17 | e14
    · have hx := am_inj hf
      subst hx
      rfl
    · obtain ⟨u16, rfl⟩ : ∃ z, z = e14 := ⟨_, rfl⟩
      show X l _ _ 0 0 false _ kM 0 0 93 [none, none, none, none] [] (en u16)
      refine r_bipush (v := -5) dX10_law_93 rfl ?_
      have hx := am_inj hf
      subst hx
      exact r_iret dX10_law_95 rfl rfl (le_b rfl) (le_b rfl)
  · have hf := (am_if hf).1 hc
    refine r_bipush (v := -2) dX10_law_11 rfl ?_
    have hx := am_inj hf
    subst hx
    exact r_iret dX10_law_13 rfl rfl (le_b rfl) (le_b rfl)
/-! FireFromFireModel.freed -/
theorem dX10_freed_0 : decode cX10_freed 0 = .ok (.aload_n 0, 1) := by decide +kernel
theorem dX10_freed_1 : decode cX10_freed 1 = .ok (.invokevirtual 361, 3) := by decide +kernel
theorem dX10_freed_4 : decode cX10_freed 4 = .ok (.iconst 0, 1) := by decide +kernel
theorem dX10_freed_5 : decode cX10_freed 5 = .ok (.istore_n 1, 1) := by decide +kernel
theorem dX10_freed_6 : decode cX10_freed 6 = .ok (.iconst 0, 1) := by decide +kernel
theorem dX10_freed_7 : decode cX10_freed 7 = .ok (.istore_n 2, 1) := by decide +kernel
theorem dX10_freed_8 : decode cX10_freed 8 = .ok (.iload_n 2, 1) := by decide +kernel
theorem dX10_freed_9 : decode cX10_freed 9 = .ok (.aload_n 0, 1) := by decide +kernel
theorem dX10_freed_10 : decode cX10_freed 10 = .ok (.getfield 7, 3) := by decide +kernel
theorem dX10_freed_13 : decode cX10_freed 13 = .ok (.if_icmp .ge 43, 3) := by decide +kernel
theorem dX10_freed_16 : decode cX10_freed 16 = .ok (.iload_n 1, 1) := by decide +kernel
theorem dX10_freed_17 : decode cX10_freed 17 = .ok (.aload_n 0, 1) := by decide +kernel
theorem dX10_freed_18 : decode cX10_freed 18 = .ok (.aload_n 0, 1) := by decide +kernel
theorem dX10_freed_19 : decode cX10_freed 19 = .ok (.getfield 13, 3) := by decide +kernel
theorem dX10_freed_22 : decode cX10_freed 22 = .ok (.iload_n 2, 1) := by decide +kernel
theorem dX10_freed_23 : decode cX10_freed 23 = .ok (.invokevirtual 275, 3) := by decide +kernel
theorem dX10_freed_26 : decode cX10_freed 26 = .ok (.ifCond .eq 21, 3) := by decide +kernel
theorem dX10_freed_29 : decode cX10_freed 29 = .ok (.aload_n 0, 1) := by decide +kernel
theorem dX10_freed_30 : decode cX10_freed 30 = .ok (.iload_n 2, 1) := by decide +kernel
theorem dX10_freed_31 : decode cX10_freed 31 = .ok (.aload_n 0, 1) := by decide +kernel
theorem dX10_freed_32 : decode cX10_freed 32 = .ok (.getfield 19, 3) := by decide +kernel
theorem dX10_freed_35 : decode cX10_freed 35 = .ok (.invokevirtual 370, 3) := by decide +kernel
theorem dX10_freed_38 : decode cX10_freed 38 = .ok (.ifCond .ne 9, 3) := by decide +kernel
theorem dX10_freed_41 : decode cX10_freed 41 = .ok (.iconst 1, 1) := by decide +kernel
theorem dX10_freed_42 : decode cX10_freed 42 = .ok (.iload_n 2, 1) := by decide +kernel
theorem dX10_freed_43 : decode cX10_freed 43 = .ok (.ishl, 1) := by decide +kernel
theorem dX10_freed_44 : decode cX10_freed 44 = .ok (.goto 4, 3) := by decide +kernel
theorem dX10_freed_47 : decode cX10_freed 47 = .ok (.iconst 0, 1) := by decide +kernel
theorem dX10_freed_48 : decode cX10_freed 48 = .ok (.ior, 1) := by decide +kernel
theorem dX10_freed_49 : decode cX10_freed 49 = .ok (.istore_n 1, 1) := by decide +kernel
theorem dX10_freed_50 : decode cX10_freed 50 = .ok (.iinc 2 1, 3) := by decide +kernel
theorem dX10_freed_53 : decode cX10_freed 53 = .ok (.goto (-45), 3) := by decide +kernel
theorem dX10_freed_56 : decode cX10_freed 56 = .ok (.iload_n 1, 1) := by decide +kernel
theorem dX10_freed_57 : decode cX10_freed 57 = .ok (.ireturn, 1) := by decide +kernel
def f_X10_freed_L8   : Int32 × Int32 × PM → Option ((Int32 × Int32 × PM) ⊕ (Int32 × PM)) := fun (x1 , x2 , u) =>
  if (u.1 (40, 0, 0) 0) ≤ x2 then
    some (.inr (x1, u))
  else
  (f_X10_has (u.1 (40, 0, 0) 1) x2 u).bind fun r3 =>
  if r3 = 0 then
    some (.inl (x1 ||| (0 : Int32), x2 + (1 : Int32), u))
  else
  (f_X10_keeps x2 (u.1 (40, 0, 0) 3) u).bind fun (r5, u7) =>
  if r5 = 0 then
    some (.inl (x1 ||| ((1 : Int32) <<< (x2 &&& 31)), x2 + (1 : Int32), u7))
  else
  some (.inl (x1 ||| (0 : Int32), x2 + (1 : Int32), u7))
set_option maxHeartbeats 4000000 in
set_option maxRecDepth 20000 in
theorem K_X10_freed_L8 {l : Launch} {T : Option AV × List Key × AM}   : ∀ (n : Nat) (s : Int32 × Int32 × PM) (e0 : Int32 × PM), am_loop (f_X10_freed_L8) n s = some e0 → (fun e : Int32 × PM => X l mX10_freed 6 0 0 false T kM 0 0 56 [none, some (vI e.1), none] [] (en e.2)) e0 → X l mX10_freed 6 0 0 false T kM 0 0 8 [some (vR (40, 0, 0)), some (vI s.1), some (vI s.2.1)] [] (en s.2.2) := by
  refine am_loop_of ?_
  intro s x hf k1 k2
  obtain ⟨x1 , x2 , u⟩ := s
  unfold f_X10_freed_L8 at hf
  show X l mX10_freed 6 0 0 false T kM 0 0 8 [some (vR (40, 0, 0)), some (vI x1), some (vI x2)] [] (en u)
  refine r_iload_n (x := x2) dX10_freed_8 rfl ?_
  refine r_aload_n (x := (40, 0, 0)) dX10_freed_9 rfl ?_
  refine e_geti fw_X10_7 dX10_freed_10 (kM_mem (s := 40) (by decide)) rfl (lt_b rfl) ?_
  refine r_icmp_ge (tgt := 56) dX10_freed_13 (by decide) (fun hc => ?_) (fun hc => ?_)
  · have hf := (am_if hf).1 hc
    refine r_weak (L' := [none, some (vI x1), none]) (And.intro rfl trivial) ?_
    exact k2 (x1, u) (am_inj hf).symm
  · have hf := (am_if hf).2 hc
    refine r_iload_n (x := x1) dX10_freed_16 rfl ?_
    refine r_aload_n (x := (40, 0, 0)) dX10_freed_17 rfl ?_
    refine r_aload_n (x := (40, 0, 0)) dX10_freed_18 rfl ?_
    refine e_geti fw_X10_13 dX10_freed_19 (kM_mem (s := 40) (by decide)) rfl (lt_b rfl) ?_
    refine r_iload_n (x := x2) dX10_freed_22 rfl ?_
    obtain ⟨r3, hr4, hf⟩ := am_bind hf
    refine r_callV (as := [vI (u.1 (40, 0, 0) 1), vI x2]) (st := [vI x1]) (n := 2) mw_X10_275 mv_X10_has (C_X10_has (l := l) hr4) (le_b rfl) dX10_freed_23 (kM_mem (s := 40) (by decide)) rfl rfl rfl (le_b rfl) (le_b rfl) (le_b rfl) ?_
    show X l _ _ 0 0 false _ kM 0 0 26 [some (vR (40, 0, 0)), some (vI x1), some (vI x2)] [vI r3, vI x1] (en u)
    refine r_if_eq (tgt := 47) dX10_freed_26 (by decide) (fun hc => ?_) (fun hc => ?_)
    · have hf := (am_if hf).1 hc
      refine r_iconst (v := 0) dX10_freed_47 rfl ?_
      refine r_ior dX10_freed_48 ?_
      refine r_istore_n (L' := [some (vR (40, 0, 0)), some (vI (x1 ||| (0 : Int32))), some (vI x2)]) dX10_freed_49 (by decide) rfl ?_
      refine r_iinc (x := x2) (v := x2 + (1 : Int32)) (L' := [some (vR (40, 0, 0)), some (vI (x1 ||| (0 : Int32))), some (vI (x2 + (1 : Int32)))]) dX10_freed_50 rfl rfl (lt_b rfl) rfl ?_
      refine r_goto (tgt := 8) dX10_freed_53 (by decide) ?_
      refine r_weak (L' := [some (vR (40, 0, 0)), some (vI (x1 ||| (0 : Int32))), some (vI (x2 + (1 : Int32)))]) (And.intro rfl (And.intro rfl (And.intro rfl trivial))) ?_
      exact k1 (x1 ||| (0 : Int32), x2 + (1 : Int32), u) (am_inj hf).symm
    · have hf := (am_if hf).2 hc
      refine r_aload_n (x := (40, 0, 0)) dX10_freed_29 rfl ?_
      refine r_iload_n (x := x2) dX10_freed_30 rfl ?_
      refine r_aload_n (x := (40, 0, 0)) dX10_freed_31 rfl ?_
      refine e_geti fw_X10_19 dX10_freed_32 (kM_mem (s := 40) (by decide)) rfl (lt_b rfl) ?_
      obtain ⟨⟨r5, u7⟩, hr6, hf⟩ := am_bind hf
      refine r_callV (as := [vI x2, vI (u.1 (40, 0, 0) 3)]) (st := [vI x1]) (n := 2) mw_X10_370 mv_X10_keeps (C_X10_keeps (l := l) hr6) (le_b rfl) dX10_freed_35 (kM_mem (s := 40) (by decide)) rfl rfl rfl (le_b rfl) (le_b rfl) (le_b rfl) ?_
      show X l _ _ 0 0 false _ kM 0 0 38 [some (vR (40, 0, 0)), some (vI x1), some (vI x2)] [vI r5, vI x1] (en u7)
      refine r_if_ne (tgt := 47) dX10_freed_38 (by decide) (fun hc => ?_) (fun hc => ?_)
      · have hf := (am_if hf).2 hc
        refine r_iconst (v := 0) dX10_freed_47 rfl ?_
        refine r_ior dX10_freed_48 ?_
        refine r_istore_n (L' := [some (vR (40, 0, 0)), some (vI (x1 ||| (0 : Int32))), some (vI x2)]) dX10_freed_49 (by decide) rfl ?_
        refine r_iinc (x := x2) (v := x2 + (1 : Int32)) (L' := [some (vR (40, 0, 0)), some (vI (x1 ||| (0 : Int32))), some (vI (x2 + (1 : Int32)))]) dX10_freed_50 rfl rfl (lt_b rfl) rfl ?_
        refine r_goto (tgt := 8) dX10_freed_53 (by decide) ?_
        refine r_weak (L' := [some (vR (40, 0, 0)), some (vI (x1 ||| (0 : Int32))), some (vI (x2 + (1 : Int32)))]) (And.intro rfl (And.intro rfl (And.intro rfl trivial))) ?_
        exact k1 (x1 ||| (0 : Int32), x2 + (1 : Int32), u7) (am_inj hf).symm
      · have hf := (am_if hf).1 hc
        refine r_iconst (v := 1) dX10_freed_41 rfl ?_
        refine r_iload_n (x := x2) dX10_freed_42 rfl ?_
        refine r_ishl dX10_freed_43 ?_
        refine r_goto (tgt := 48) dX10_freed_44 (by decide) ?_
        refine r_ior dX10_freed_48 ?_
        refine r_istore_n (L' := [some (vR (40, 0, 0)), some (vI (x1 ||| ((1 : Int32) <<< (x2 &&& 31)))), some (vI x2)]) dX10_freed_49 (by decide) rfl ?_
        refine r_iinc (x := x2) (v := x2 + (1 : Int32)) (L' := [some (vR (40, 0, 0)), some (vI (x1 ||| ((1 : Int32) <<< (x2 &&& 31)))), some (vI (x2 + (1 : Int32)))]) dX10_freed_50 rfl rfl (lt_b rfl) rfl ?_
        refine r_goto (tgt := 8) dX10_freed_53 (by decide) ?_
        refine r_weak (L' := [some (vR (40, 0, 0)), some (vI (x1 ||| ((1 : Int32) <<< (x2 &&& 31)))), some (vI (x2 + (1 : Int32)))]) (And.intro rfl (And.intro rfl (And.intro rfl trivial))) ?_
        exact k1 (x1 ||| ((1 : Int32) <<< (x2 &&& 31)), x2 + (1 : Int32), u7) (am_inj hf).symm
def f_X10_freed   (u : PM) : Option (Int32 × PM) :=
  (f_X10_asIs u).bind fun r1 =>
  (am_loop (f_X10_freed_L8) 2000 ((0 : Int32), (0 : Int32), r1)).bind fun (y10, u11) =>
  some (y10, u11)
set_option maxHeartbeats 4000000 in
set_option maxRecDepth 20000 in
theorem C_X10_freed {l : Launch}   {u : PM} {x : Int32 × PM} (hf : f_X10_freed u = some x) : Ev l mX10_freed 6 0 0 false [vR (40, 0, 0)] kM (en u) (some (vI x.1), kM, en x.2) := by
  refine Ev_of (by decide +kernel) (le_b rfl) ?_
  unfold f_X10_freed at hf
  show X l mX10_freed 6 0 0 false _ kM 0 0 0 [some (vR (40, 0, 0)), none, none] [] (en u)
  refine r_aload_n (x := (40, 0, 0)) dX10_freed_0 rfl ?_
  obtain ⟨r1, hr2, hf⟩ := am_bind hf
  refine r_callV (as := []) (st := []) (n := 0) mw_X10_361 mv_X10_asIs (C_X10_asIs (l := l) hr2) (le_b rfl) dX10_freed_1 (kM_mem (s := 40) (by decide)) rfl rfl rfl (le_b rfl) (le_b rfl) (le_b rfl) ?_
  show X l _ _ 0 0 false _ kM 0 0 4 [some (vR (40, 0, 0)), none, none] [] (en r1)
  refine r_iconst (v := 0) dX10_freed_4 rfl ?_
  refine r_istore_n (L' := [some (vR (40, 0, 0)), some (vI (0 : Int32)), none]) dX10_freed_5 (by decide) rfl ?_
  refine r_iconst (v := 0) dX10_freed_6 rfl ?_
  refine r_istore_n (L' := [some (vR (40, 0, 0)), some (vI (0 : Int32)), some (vI (0 : Int32))]) dX10_freed_7 (by decide) rfl ?_
  refine r_weak (L' := [some (vR (40, 0, 0)), some (vI (0 : Int32)), some (vI (0 : Int32))]) (And.intro rfl (And.intro rfl (And.intro rfl trivial))) ?_
  obtain ⟨e8, he9, hf⟩ := am_bind hf
  refine K_X10_freed_L8  2000 ((0 : Int32), (0 : Int32), r1) _ he9 ?_
  obtain ⟨y10, u11⟩ := e8
  show X l _ _ 0 0 false _ kM 0 0 56 [none, some (vI y10), none] [] (en u11)
  refine r_iload_n (x := y10) dX10_freed_56 rfl ?_
  have hx := am_inj hf
  subst hx
  exact r_iret dX10_freed_57 rfl rfl (le_b rfl) (le_b rfl)
/-! FireFromFireModel.isTape -/
theorem dX10_isTape_0 : decode cX10_isTape 0 = .ok (.aload_n 0, 1) := by decide +kernel
theorem dX10_isTape_1 : decode cX10_isTape 1 = .ok (.iload_n 1, 1) := by decide +kernel
theorem dX10_isTape_2 : decode cX10_isTape 2 = .ok (.iconst 0, 1) := by decide +kernel
theorem dX10_isTape_3 : decode cX10_isTape 3 = .ok (.iconst 5, 1) := by decide +kernel
theorem dX10_isTape_4 : decode cX10_isTape 4 = .ok (.invokevirtual 267, 3) := by decide +kernel
theorem dX10_isTape_7 : decode cX10_isTape 7 = .ok (.ireturn, 1) := by decide +kernel
def f_X10_isTape  (a0 : Int32) (u : PM) : Option (Int32) :=
  (f_X10_in a0 (0 : Int32) (5 : Int32) u).bind fun r1 =>
  if r1 = 0 ∨ r1 = 1 then
    some r1
  else none
set_option maxHeartbeats 4000000 in
set_option maxRecDepth 20000 in
theorem C_X10_isTape {l : Launch}  {a0 : Int32} {u : PM} {x : Int32} (hf : f_X10_isTape a0 u = some x) : Ev l mX10_isTape 2 0 0 false [vR (40, 0, 0), vI a0] kM (en u) (some (vI x), kM, en u) := by
  refine Ev_of (by decide +kernel) (le_b rfl) ?_
  unfold f_X10_isTape at hf
  show X l mX10_isTape 2 0 0 false _ kM 0 0 0 [some (vR (40, 0, 0)), some (vI a0)] [] (en u)
  refine r_aload_n (x := (40, 0, 0)) dX10_isTape_0 rfl ?_
  refine r_iload_n (x := a0) dX10_isTape_1 rfl ?_
  refine r_iconst (v := 0) dX10_isTape_2 rfl ?_
  refine r_iconst (v := 5) dX10_isTape_3 rfl ?_
  obtain ⟨r1, hr2, hf⟩ := am_bind hf
  refine r_callV (as := [vI a0, vI (0 : Int32), vI (5 : Int32)]) (st := []) (n := 3) mw_X10_267 mv_X10_in (C_X10_in (l := l) hr2) (le_b rfl) dX10_isTape_4 (kM_mem (s := 40) (by decide)) rfl rfl rfl (le_b rfl) (le_b rfl) (le_b rfl) ?_
  show X l _ _ 0 0 false _ kM 0 0 7 [some (vR (40, 0, 0)), some (vI a0)] [vI r1] (en u)
  obtain ⟨h3, hf⟩ := am_chk hf
  have hx := am_inj hf
  subst hx
  exact r_iret dX10_isTape_7 rfl (am_bool h3).1 (le_b rfl) (le_b rfl)
/-! FireFromFireModel.judge -/
theorem dX10_judge_0 : decode cX10_judge 0 = .ok (.aload_n 0, 1) := by decide +kernel
theorem dX10_judge_1 : decode cX10_judge 1 = .ok (.iload_n 1, 1) := by decide +kernel
theorem dX10_judge_2 : decode cX10_judge 2 = .ok (.invokevirtual 435, 3) := by decide +kernel
theorem dX10_judge_5 : decode cX10_judge 5 = .ok (.ifCond .ne 5, 3) := by decide +kernel
theorem dX10_judge_8 : decode cX10_judge 8 = .ok (.iconst (-1), 1) := by decide +kernel
theorem dX10_judge_9 : decode cX10_judge 9 = .ok (.ireturn, 1) := by decide +kernel
theorem dX10_judge_10 : decode cX10_judge 10 = .ok (.aload_n 0, 1) := by decide +kernel
theorem dX10_judge_11 : decode cX10_judge 11 = .ok (.iload_n 3, 1) := by decide +kernel
theorem dX10_judge_12 : decode cX10_judge 12 = .ok (.iconst 0, 1) := by decide +kernel
theorem dX10_judge_13 : decode cX10_judge 13 = .ok (.aload_n 0, 1) := by decide +kernel
theorem dX10_judge_14 : decode cX10_judge 14 = .ok (.getfield 150, 3) := by decide +kernel
theorem dX10_judge_17 : decode cX10_judge 17 = .ok (.invokevirtual 267, 3) := by decide +kernel
theorem dX10_judge_20 : decode cX10_judge 20 = .ok (.ifCond .ne 6, 3) := by decide +kernel
theorem dX10_judge_23 : decode cX10_judge 23 = .ok (.bipush (-2), 2) := by decide +kernel
theorem dX10_judge_25 : decode cX10_judge 25 = .ok (.ireturn, 1) := by decide +kernel
theorem dX10_judge_26 : decode cX10_judge 26 = .ok (.aload_n 0, 1) := by decide +kernel
theorem dX10_judge_27 : decode cX10_judge 27 = .ok (.getfield 254, 3) := by decide +kernel
theorem dX10_judge_30 : decode cX10_judge 30 = .ok (.iload_n 1, 1) := by decide +kernel
theorem dX10_judge_31 : decode cX10_judge 31 = .ok (.iaload, 1) := by decide +kernel
theorem dX10_judge_32 : decode cX10_judge 32 = .ok (.ifCond .lt 16, 3) := by decide +kernel
theorem dX10_judge_35 : decode cX10_judge 35 = .ok (.aload_n 0, 1) := by decide +kernel
theorem dX10_judge_36 : decode cX10_judge 36 = .ok (.getfield 254, 3) := by decide +kernel
theorem dX10_judge_39 : decode cX10_judge 39 = .ok (.iload_n 1, 1) := by decide +kernel
theorem dX10_judge_40 : decode cX10_judge 40 = .ok (.iaload, 1) := by decide +kernel
theorem dX10_judge_41 : decode cX10_judge 41 = .ok (.iconst 4, 1) := by decide +kernel
theorem dX10_judge_42 : decode cX10_judge 42 = .ok (.if_icmp .eq 6, 3) := by decide +kernel
theorem dX10_judge_45 : decode cX10_judge 45 = .ok (.bipush (-12), 2) := by decide +kernel
theorem dX10_judge_47 : decode cX10_judge 47 = .ok (.ireturn, 1) := by decide +kernel
theorem dX10_judge_48 : decode cX10_judge 48 = .ok (.aload_n 0, 1) := by decide +kernel
theorem dX10_judge_49 : decode cX10_judge 49 = .ok (.iload_n 3, 1) := by decide +kernel
theorem dX10_judge_50 : decode cX10_judge 50 = .ok (.invokevirtual 393, 3) := by decide +kernel
theorem dX10_judge_53 : decode cX10_judge 53 = .ok (.iconst 0, 1) := by decide +kernel
theorem dX10_judge_54 : decode cX10_judge 54 = .ok (.istore 4, 2) := by decide +kernel
theorem dX10_judge_56 : decode cX10_judge 56 = .ok (.iload 4, 2) := by decide +kernel
theorem dX10_judge_58 : decode cX10_judge 58 = .ok (.aload_n 0, 1) := by decide +kernel
theorem dX10_judge_59 : decode cX10_judge 59 = .ok (.getfield 7, 3) := by decide +kernel
theorem dX10_judge_62 : decode cX10_judge 62 = .ok (.if_icmp .ge 82, 3) := by decide +kernel
theorem dX10_judge_65 : decode cX10_judge 65 = .ok (.aload_n 0, 1) := by decide +kernel
theorem dX10_judge_66 : decode cX10_judge 66 = .ok (.getfield 254, 3) := by decide +kernel
theorem dX10_judge_69 : decode cX10_judge 69 = .ok (.iload_n 1, 1) := by decide +kernel
theorem dX10_judge_70 : decode cX10_judge 70 = .ok (.iaload, 1) := by decide +kernel
theorem dX10_judge_71 : decode cX10_judge 71 = .ok (.ifCond .lt 22, 3) := by decide +kernel
theorem dX10_judge_74 : decode cX10_judge 74 = .ok (.iload_n 2, 1) := by decide +kernel
theorem dX10_judge_75 : decode cX10_judge 75 = .ok (.ifCond .lt 18, 3) := by decide +kernel
theorem dX10_judge_78 : decode cX10_judge 78 = .ok (.iload_n 2, 1) := by decide +kernel
theorem dX10_judge_79 : decode cX10_judge 79 = .ok (.aload_n 0, 1) := by decide +kernel
theorem dX10_judge_80 : decode cX10_judge 80 = .ok (.getfield 257, 3) := by decide +kernel
theorem dX10_judge_83 : decode cX10_judge 83 = .ok (.iload_n 1, 1) := by decide +kernel
theorem dX10_judge_84 : decode cX10_judge 84 = .ok (.iaload, 1) := by decide +kernel
theorem dX10_judge_85 : decode cX10_judge 85 = .ok (.iload 4, 2) := by decide +kernel
theorem dX10_judge_87 : decode cX10_judge 87 = .ok (.isub, 1) := by decide +kernel
theorem dX10_judge_88 : decode cX10_judge 88 = .ok (.iconst 1, 1) := by decide +kernel
theorem dX10_judge_89 : decode cX10_judge 89 = .ok (.isub, 1) := by decide +kernel
theorem dX10_judge_90 : decode cX10_judge 90 = .ok (.if_icmp .le 9, 3) := by decide +kernel
theorem dX10_judge_93 : decode cX10_judge 93 = .ok (.bipush 100, 2) := by decide +kernel
theorem dX10_judge_95 : decode cX10_judge 95 = .ok (.iload 4, 2) := by decide +kernel
theorem dX10_judge_97 : decode cX10_judge 97 = .ok (.iadd, 1) := by decide +kernel
theorem dX10_judge_98 : decode cX10_judge 98 = .ok (.ireturn, 1) := by decide +kernel
theorem dX10_judge_99 : decode cX10_judge 99 = .ok (.aload_n 0, 1) := by decide +kernel
theorem dX10_judge_100 : decode cX10_judge 100 = .ok (.getfield 260, 3) := by decide +kernel
theorem dX10_judge_103 : decode cX10_judge 103 = .ok (.bipush 60, 2) := by decide +kernel
theorem dX10_judge_105 : decode cX10_judge 105 = .ok (.iload_n 1, 1) := by decide +kernel
theorem dX10_judge_106 : decode cX10_judge 106 = .ok (.imul, 1) := by decide +kernel
theorem dX10_judge_107 : decode cX10_judge 107 = .ok (.iload_n 2, 1) := by decide +kernel
theorem dX10_judge_108 : decode cX10_judge 108 = .ok (.iadd, 1) := by decide +kernel
theorem dX10_judge_109 : decode cX10_judge 109 = .ok (.iload 4, 2) := by decide +kernel
theorem dX10_judge_111 : decode cX10_judge 111 = .ok (.iadd, 1) := by decide +kernel
theorem dX10_judge_112 : decode cX10_judge 112 = .ok (.laload, 1) := by decide +kernel
theorem dX10_judge_113 : decode cX10_judge 113 = .ok (.aload_n 0, 1) := by decide +kernel
theorem dX10_judge_114 : decode cX10_judge 114 = .ok (.aload_n 0, 1) := by decide +kernel
theorem dX10_judge_115 : decode cX10_judge 115 = .ok (.getfield 107, 3) := by decide +kernel
theorem dX10_judge_118 : decode cX10_judge 118 = .ok (.iload 4, 2) := by decide +kernel
theorem dX10_judge_120 : decode cX10_judge 120 = .ok (.invokevirtual 275, 3) := by decide +kernel
theorem dX10_judge_123 : decode cX10_judge 123 = .ok (.ifCond .eq 7, 3) := by decide +kernel
theorem dX10_judge_126 : decode cX10_judge 126 = .ok (.lconst 1, 1) := by decide +kernel
theorem dX10_judge_127 : decode cX10_judge 127 = .ok (.goto 4, 3) := by decide +kernel
theorem dX10_judge_130 : decode cX10_judge 130 = .ok (.lconst 0, 1) := by decide +kernel
theorem dX10_judge_131 : decode cX10_judge 131 = .ok (.lcmp, 1) := by decide +kernel
theorem dX10_judge_132 : decode cX10_judge 132 = .ok (.ifCond .eq 6, 3) := by decide +kernel
theorem dX10_judge_135 : decode cX10_judge 135 = .ok (.iload 4, 2) := by decide +kernel
theorem dX10_judge_137 : decode cX10_judge 137 = .ok (.ireturn, 1) := by decide +kernel
theorem dX10_judge_138 : decode cX10_judge 138 = .ok (.iinc 4 1, 3) := by decide +kernel
theorem dX10_judge_141 : decode cX10_judge 141 = .ok (.goto (-85), 3) := by decide +kernel
theorem dX10_judge_144 : decode cX10_judge 144 = .ok (.bipush (-5), 2) := by decide +kernel
theorem dX10_judge_146 : decode cX10_judge 146 = .ok (.ireturn, 1) := by decide +kernel
def f_X10_judge_L56  (c1 : Int32) (c2 : Int32) (u : PM) : Int32 → Option ((Int32) ⊕ ((Int32 × PM) ⊕ (Unit))) := fun x4 =>
  if (u.1 (40, 0, 0) 0) ≤ x4 then
    some (.inr (.inr ()))
  else
  if c1 < 0 ∨ 6 ≤ c1.toNatClampNeg then none else
  if (u.1 (90, 0, 0) c1.toNatClampNeg) < 0 then
    some (.inr (.inl ((100 : Int32) + x4, u)))
  else
  if c2 < 0 then
    some (.inr (.inl ((100 : Int32) + x4, u)))
  else
  if c2 ≤ (((u.1 (91, 0, 0) c1.toNatClampNeg) - x4) - (1 : Int32)) then
    if ((((60 : Int32) * c1) + c2) + x4) < 0 ∨ 360 ≤ ((((60 : Int32) * c1) + c2) + x4).toNatClampNeg then none else
    (f_X10_has (u.1 (40, 0, 0) 32) x4 u).bind fun r10 =>
    if r10 = 0 then
      if (lg_cmp (u.2.1 (92, 0, 0) (((((60 : Int32) * c1) + c2) + x4).toNatClampNeg)) (0 : Int64)) = 0 then
        some (.inl (x4 + (1 : Int32)))
      else
      some (.inr (.inl (x4, u)))
    else
    if (lg_cmp (u.2.1 (92, 0, 0) (((((60 : Int32) * c1) + c2) + x4).toNatClampNeg)) (1 : Int64)) = 0 then
      some (.inl (x4 + (1 : Int32)))
    else
    some (.inr (.inl (x4, u)))
  else
  some (.inr (.inl ((100 : Int32) + x4, u)))
set_option maxHeartbeats 4000000 in
set_option maxRecDepth 20000 in
theorem K_X10_judge_L56 {l : Launch} {T : Option AV × List Key × AM}  {c1 : Int32} {c2 : Int32} {u : PM} : ∀ (n : Nat) (s : Int32) (e0 : (Int32 × PM) ⊕ (Unit)), am_loop (f_X10_judge_L56 c1 c2 u) n s = some e0 → Sum.elim (fun r : Int32 × PM => T = (some (vI r.1), kM, en r.2)) (fun e : Unit => X l mX10_judge 9 0 0 false T kM 0 0 144 [none, none, none, none, none] [] (en u)) e0 → X l mX10_judge 9 0 0 false T kM 0 0 56 [some (vR (40, 0, 0)), some (vI c1), some (vI c2), none, some (vI s)] [] (en u) := by
  refine am_loop_of ?_
  intro s x hf k1 k2
  obtain ⟨x4, rfl⟩ : ∃ z, z = s := ⟨_, rfl⟩
  unfold f_X10_judge_L56 at hf
  show X l mX10_judge 9 0 0 false T kM 0 0 56 [some (vR (40, 0, 0)), some (vI c1), some (vI c2), none, some (vI x4)] [] (en u)
  refine r_iload (x := x4) dX10_judge_56 rfl ?_
  refine r_aload_n (x := (40, 0, 0)) dX10_judge_58 rfl ?_
  refine e_geti fw_X10_7 dX10_judge_59 (kM_mem (s := 40) (by decide)) rfl (lt_b rfl) ?_
  refine r_icmp_ge (tgt := 144) dX10_judge_62 (by decide) (fun hc => ?_) (fun hc => ?_)
  · have hf := (am_if hf).1 hc
    refine r_weak (L' := [none, none, none, none, none]) trivial ?_
    exact k2 (.inr ()) (am_inj hf).symm
  · have hf := (am_if hf).2 hc
    refine r_aload_n (x := (40, 0, 0)) dX10_judge_65 rfl ?_
    refine e_getr (z := some (90, 0, 0)) fw_X10_254 dX10_judge_66 (kM_mem (s := 40) (by decide)) rfl (lt_b rfl) rfl ?_
    refine r_iload_n (x := c1) dX10_judge_69 rfl ?_
    obtain ⟨h8, hf⟩ := am_nchk hf
    refine e_iald (n := c1.toNatClampNeg) dX10_judge_70 (kM_mem (s := 90) (by decide)) rfl h8 rfl rfl ?_
    refine r_if_lt (tgt := 93) dX10_judge_71 (by decide) (fun hc => ?_) (fun hc => ?_)
    · have hf := (am_if hf).1 hc
      refine r_bipush (v := 100) dX10_judge_93 rfl ?_
      refine r_iload (x := x4) dX10_judge_95 rfl ?_
      refine r_iadd dX10_judge_97 ?_
      have hT := k2 _ (am_inj hf).symm
      replace hT : T = (some (vI ((100 : Int32) + x4)), kM, en u) := hT
      subst hT
      exact r_iret dX10_judge_98 rfl rfl (le_b rfl) (le_b rfl)
    · have hf := (am_if hf).2 hc
      refine r_iload_n (x := c2) dX10_judge_74 rfl ?_
      refine r_if_lt (tgt := 93) dX10_judge_75 (by decide) (fun hc => ?_) (fun hc => ?_)
      · have hf := (am_if hf).1 hc
        refine r_bipush (v := 100) dX10_judge_93 rfl ?_
        refine r_iload (x := x4) dX10_judge_95 rfl ?_
        refine r_iadd dX10_judge_97 ?_
        have hT := k2 _ (am_inj hf).symm
        replace hT : T = (some (vI ((100 : Int32) + x4)), kM, en u) := hT
        subst hT
        exact r_iret dX10_judge_98 rfl rfl (le_b rfl) (le_b rfl)
      · have hf := (am_if hf).2 hc
        refine r_iload_n (x := c2) dX10_judge_78 rfl ?_
        refine r_aload_n (x := (40, 0, 0)) dX10_judge_79 rfl ?_
        refine e_getr (z := some (91, 0, 0)) fw_X10_257 dX10_judge_80 (kM_mem (s := 40) (by decide)) rfl (lt_b rfl) rfl ?_
        refine r_iload_n (x := c1) dX10_judge_83 rfl ?_
        refine e_iald (n := c1.toNatClampNeg) dX10_judge_84 (kM_mem (s := 91) (by decide)) rfl h8 rfl rfl ?_
        refine r_iload (x := x4) dX10_judge_85 rfl ?_
        refine r_isub dX10_judge_87 ?_
        refine r_iconst (v := 1) dX10_judge_88 rfl ?_
        refine r_isub dX10_judge_89 ?_
        refine r_icmp_le (tgt := 99) dX10_judge_90 (by decide) (fun hc => ?_) (fun hc => ?_)
        · have hf := (am_if hf).1 hc
          refine r_aload_n (x := (40, 0, 0)) dX10_judge_99 rfl ?_
          refine e_getr (z := some (92, 0, 0)) fw_X10_260 dX10_judge_100 (kM_mem (s := 40) (by decide)) rfl (lt_b rfl) rfl ?_
          refine r_bipush (v := 60) dX10_judge_103 rfl ?_
          refine r_iload_n (x := c1) dX10_judge_105 rfl ?_
          refine r_imul dX10_judge_106 ?_
          refine r_iload_n (x := c2) dX10_judge_107 rfl ?_
          refine r_iadd dX10_judge_108 ?_
          refine r_iload (x := x4) dX10_judge_109 rfl ?_
          refine r_iadd dX10_judge_111 ?_
          obtain ⟨h9, hf⟩ := am_nchk hf
          refine e_lald (n := ((((60 : Int32) * c1) + c2) + x4).toNatClampNeg) dX10_judge_112 (kM_mem (s := 92) (by decide)) rfl h9 rfl rfl ?_
          refine r_aload_n (x := (40, 0, 0)) dX10_judge_113 rfl ?_
          refine r_aload_n (x := (40, 0, 0)) dX10_judge_114 rfl ?_
          refine e_geti fw_X10_107 dX10_judge_115 (kM_mem (s := 40) (by decide)) rfl (lt_b rfl) ?_
          refine r_iload (x := x4) dX10_judge_118 rfl ?_
          obtain ⟨r10, hr11, hf⟩ := am_bind hf
          refine r_callV (as := [vI (u.1 (40, 0, 0) 32), vI x4]) (st := [vJ (u.2.1 (92, 0, 0) (((((60 : Int32) * c1) + c2) + x4).toNatClampNeg))]) (n := 2) mw_X10_275 mv_X10_has (C_X10_has (l := l) hr11) (le_b rfl) dX10_judge_120 (kM_mem (s := 40) (by decide)) rfl rfl rfl (le_b rfl) (le_b rfl) (le_b rfl) ?_
          show X l _ _ 0 0 false _ kM 0 0 123 [some (vR (40, 0, 0)), some (vI c1), some (vI c2), none, some (vI x4)] [vI r10, vJ (u.2.1 (92, 0, 0) (((((60 : Int32) * c1) + c2) + x4).toNatClampNeg))] (en u)
          refine r_if_eq (tgt := 130) dX10_judge_123 (by decide) (fun hc => ?_) (fun hc => ?_)
          · have hf := (am_if hf).1 hc
            refine r_lconst (v := 0) dX10_judge_130 rfl ?_
            refine r_lcmp dX10_judge_131 ?_
            refine r_if_eq (tgt := 138) dX10_judge_132 (by decide) (fun hc => ?_) (fun hc => ?_)
            · have hf := (am_if hf).1 hc
              refine r_iinc (x := x4) (v := x4 + (1 : Int32)) (L' := [some (vR (40, 0, 0)), some (vI c1), some (vI c2), none, some (vI (x4 + (1 : Int32)))]) dX10_judge_138 rfl rfl (lt_b rfl) rfl ?_
              refine r_goto (tgt := 56) dX10_judge_141 (by decide) ?_
              refine r_weak (L' := [some (vR (40, 0, 0)), some (vI c1), some (vI c2), none, some (vI (x4 + (1 : Int32)))]) (And.intro rfl (And.intro rfl (And.intro rfl (And.intro rfl trivial)))) ?_
              exact k1 (x4 + (1 : Int32)) (am_inj hf).symm
            · have hf := (am_if hf).2 hc
              refine r_iload (x := x4) dX10_judge_135 rfl ?_
              have hT := k2 _ (am_inj hf).symm
              replace hT : T = (some (vI x4), kM, en u) := hT
              subst hT
              exact r_iret dX10_judge_137 rfl rfl (le_b rfl) (le_b rfl)
          · have hf := (am_if hf).2 hc
            refine r_lconst (v := 1) dX10_judge_126 rfl ?_
            refine r_goto (tgt := 131) dX10_judge_127 (by decide) ?_
            refine r_lcmp dX10_judge_131 ?_
            refine r_if_eq (tgt := 138) dX10_judge_132 (by decide) (fun hc => ?_) (fun hc => ?_)
            · have hf := (am_if hf).1 hc
              refine r_iinc (x := x4) (v := x4 + (1 : Int32)) (L' := [some (vR (40, 0, 0)), some (vI c1), some (vI c2), none, some (vI (x4 + (1 : Int32)))]) dX10_judge_138 rfl rfl (lt_b rfl) rfl ?_
              refine r_goto (tgt := 56) dX10_judge_141 (by decide) ?_
              refine r_weak (L' := [some (vR (40, 0, 0)), some (vI c1), some (vI c2), none, some (vI (x4 + (1 : Int32)))]) (And.intro rfl (And.intro rfl (And.intro rfl (And.intro rfl trivial)))) ?_
              exact k1 (x4 + (1 : Int32)) (am_inj hf).symm
            · have hf := (am_if hf).2 hc
              refine r_iload (x := x4) dX10_judge_135 rfl ?_
              have hT := k2 _ (am_inj hf).symm
              replace hT : T = (some (vI x4), kM, en u) := hT
              subst hT
              exact r_iret dX10_judge_137 rfl rfl (le_b rfl) (le_b rfl)
        · have hf := (am_if hf).2 hc
          refine r_bipush (v := 100) dX10_judge_93 rfl ?_
          refine r_iload (x := x4) dX10_judge_95 rfl ?_
          refine r_iadd dX10_judge_97 ?_
          have hT := k2 _ (am_inj hf).symm
          replace hT : T = (some (vI ((100 : Int32) + x4)), kM, en u) := hT
          subst hT
          exact r_iret dX10_judge_98 rfl rfl (le_b rfl) (le_b rfl)
def f_X10_judge  (a0 : Int32) (a1 : Int32) (a2 : Int32) (u : PM) : Option (Int32 × PM) :=
  (f_X10_isTape a0 u).bind fun r1 =>
  if r1 = 0 then
    some ((-1 : Int32), u)
  else
  (f_X10_in a2 (0 : Int32) (u.1 (40, 0, 0) 46) u).bind fun r3 =>
  if r3 = 0 then
    some ((-2 : Int32), u)
  else
  if a0 < 0 ∨ 6 ≤ a0.toNatClampNeg then none else
  if (u.1 (90, 0, 0) a0.toNatClampNeg) < 0 then
    (f_X10_goNights a2 u).bind fun r6 =>
    (am_loop (f_X10_judge_L56 a0 a1 r6) 2000 ((0 : Int32))).bind fun e12 =>
    match e12 with
    | .inl q14 => some q14
    | .inr _ =>
      some ((-5 : Int32), r6)
  else
  if (u.1 (90, 0, 0) a0.toNatClampNeg) = (4 : Int32) then
    (f_X10_goNights a2 u).bind fun r15 =>
    (am_loop (f_X10_judge_L56 a0 a1 r15) 2000 ((0 : Int32))).bind fun e17 =>
    match e17 with
    | .inl q19 => some q19
    | .inr _ =>
      some ((-5 : Int32), r15)
  else
  some ((-12 : Int32), u)
set_option maxHeartbeats 4000000 in
set_option maxRecDepth 20000 in
theorem C_X10_judge {l : Launch}  {a0 : Int32} {a1 : Int32} {a2 : Int32} {u : PM} {x : Int32 × PM} (hf : f_X10_judge a0 a1 a2 u = some x) : Ev l mX10_judge 9 0 0 false [vR (40, 0, 0), vI a0, vI a1, vI a2] kM (en u) (some (vI x.1), kM, en x.2) := by
  refine Ev_of (by decide +kernel) (le_b rfl) ?_
  unfold f_X10_judge at hf
  show X l mX10_judge 9 0 0 false _ kM 0 0 0 [some (vR (40, 0, 0)), some (vI a0), some (vI a1), some (vI a2), none] [] (en u)
  refine r_aload_n (x := (40, 0, 0)) dX10_judge_0 rfl ?_
  refine r_iload_n (x := a0) dX10_judge_1 rfl ?_
  obtain ⟨r1, hr2, hf⟩ := am_bind hf
  refine r_callV (as := [vI a0]) (st := []) (n := 1) mw_X10_435 mv_X10_isTape (C_X10_isTape (l := l) hr2) (le_b rfl) dX10_judge_2 (kM_mem (s := 40) (by decide)) rfl rfl rfl (le_b rfl) (le_b rfl) (le_b rfl) ?_
  show X l _ _ 0 0 false _ kM 0 0 5 [some (vR (40, 0, 0)), some (vI a0), some (vI a1), some (vI a2), none] [vI r1] (en u)
  refine r_if_ne (tgt := 10) dX10_judge_5 (by decide) (fun hc => ?_) (fun hc => ?_)
  · have hf := (am_if hf).2 hc
    refine r_aload_n (x := (40, 0, 0)) dX10_judge_10 rfl ?_
    refine r_iload_n (x := a2) dX10_judge_11 rfl ?_
    refine r_iconst (v := 0) dX10_judge_12 rfl ?_
    refine r_aload_n (x := (40, 0, 0)) dX10_judge_13 rfl ?_
    refine e_geti fw_X10_150 dX10_judge_14 (kM_mem (s := 40) (by decide)) rfl (lt_b rfl) ?_
    obtain ⟨r3, hr4, hf⟩ := am_bind hf
    refine r_callV (as := [vI a2, vI (0 : Int32), vI (u.1 (40, 0, 0) 46)]) (st := []) (n := 3) mw_X10_267 mv_X10_in (C_X10_in (l := l) hr4) (le_b rfl) dX10_judge_17 (kM_mem (s := 40) (by decide)) rfl rfl rfl (le_b rfl) (le_b rfl) (le_b rfl) ?_
    show X l _ _ 0 0 false _ kM 0 0 20 [some (vR (40, 0, 0)), some (vI a0), some (vI a1), some (vI a2), none] [vI r3] (en u)
    refine r_if_ne (tgt := 26) dX10_judge_20 (by decide) (fun hc => ?_) (fun hc => ?_)
    · have hf := (am_if hf).2 hc
      refine r_aload_n (x := (40, 0, 0)) dX10_judge_26 rfl ?_
      refine e_getr (z := some (90, 0, 0)) fw_X10_254 dX10_judge_27 (kM_mem (s := 40) (by decide)) rfl (lt_b rfl) rfl ?_
      refine r_iload_n (x := a0) dX10_judge_30 rfl ?_
      obtain ⟨h5, hf⟩ := am_nchk hf
      refine e_iald (n := a0.toNatClampNeg) dX10_judge_31 (kM_mem (s := 90) (by decide)) rfl h5 rfl rfl ?_
      refine r_if_lt (tgt := 48) dX10_judge_32 (by decide) (fun hc => ?_) (fun hc => ?_)
      · have hf := (am_if hf).1 hc
        refine r_aload_n (x := (40, 0, 0)) dX10_judge_48 rfl ?_
        refine r_iload_n (x := a2) dX10_judge_49 rfl ?_
        obtain ⟨r6, hr7, hf⟩ := am_bind hf
        refine r_callV (as := [vI a2]) (st := []) (n := 1) mw_X10_393 mv_X10_goNights (C_X10_goNights (l := l) hr7) (le_b rfl) dX10_judge_50 (kM_mem (s := 40) (by decide)) rfl rfl rfl (le_b rfl) (le_b rfl) (le_b rfl) ?_
        show X l _ _ 0 0 false _ kM 0 0 53 [some (vR (40, 0, 0)), some (vI a0), some (vI a1), some (vI a2), none] [] (en r6)
        refine r_iconst (v := 0) dX10_judge_53 rfl ?_
        refine r_istore (L' := [some (vR (40, 0, 0)), some (vI a0), some (vI a1), some (vI a2), some (vI (0 : Int32))]) dX10_judge_54 (by decide) rfl ?_
        refine r_weak (L' := [some (vR (40, 0, 0)), some (vI a0), some (vI a1), none, some (vI (0 : Int32))]) (And.intro rfl (And.intro rfl (And.intro rfl (And.intro rfl trivial)))) ?_
        obtain ⟨e12, he13, hf⟩ := am_bind hf
        refine K_X10_judge_L56  2000 ((0 : Int32)) _ he13 ?_
        rcases e12 with q14 | e12
        · have hx := am_inj hf
          subst hx
          rfl
        · show X l _ _ 0 0 false _ kM 0 0 144 [none, none, none, none, none] [] (en r6)
          refine r_bipush (v := -5) dX10_judge_144 rfl ?_
          have hx := am_inj hf
          subst hx
          exact r_iret dX10_judge_146 rfl rfl (le_b rfl) (le_b rfl)
      · have hf := (am_if hf).2 hc
        refine r_aload_n (x := (40, 0, 0)) dX10_judge_35 rfl ?_
        refine e_getr (z := some (90, 0, 0)) fw_X10_254 dX10_judge_36 (kM_mem (s := 40) (by decide)) rfl (lt_b rfl) rfl ?_
        refine r_iload_n (x := a0) dX10_judge_39 rfl ?_
        refine e_iald (n := a0.toNatClampNeg) dX10_judge_40 (kM_mem (s := 90) (by decide)) rfl h5 rfl rfl ?_
        refine r_iconst (v := 4) dX10_judge_41 rfl ?_
        refine r_icmp_eq (tgt := 48) dX10_judge_42 (by decide) (fun hc => ?_) (fun hc => ?_)
        · have hf := (am_if hf).1 hc
          refine r_aload_n (x := (40, 0, 0)) dX10_judge_48 rfl ?_
          refine r_iload_n (x := a2) dX10_judge_49 rfl ?_
          obtain ⟨r15, hr16, hf⟩ := am_bind hf
          refine r_callV (as := [vI a2]) (st := []) (n := 1) mw_X10_393 mv_X10_goNights (C_X10_goNights (l := l) hr16) (le_b rfl) dX10_judge_50 (kM_mem (s := 40) (by decide)) rfl rfl rfl (le_b rfl) (le_b rfl) (le_b rfl) ?_
          show X l _ _ 0 0 false _ kM 0 0 53 [some (vR (40, 0, 0)), some (vI a0), some (vI a1), some (vI a2), none] [] (en r15)
          refine r_iconst (v := 0) dX10_judge_53 rfl ?_
          refine r_istore (L' := [some (vR (40, 0, 0)), some (vI a0), some (vI a1), some (vI a2), some (vI (0 : Int32))]) dX10_judge_54 (by decide) rfl ?_
          refine r_weak (L' := [some (vR (40, 0, 0)), some (vI a0), some (vI a1), none, some (vI (0 : Int32))]) (And.intro rfl (And.intro rfl (And.intro rfl (And.intro rfl trivial)))) ?_
          obtain ⟨e17, he18, hf⟩ := am_bind hf
          refine K_X10_judge_L56  2000 ((0 : Int32)) _ he18 ?_
          rcases e17 with q19 | e17
          · have hx := am_inj hf
            subst hx
            rfl
          · show X l _ _ 0 0 false _ kM 0 0 144 [none, none, none, none, none] [] (en r15)
            refine r_bipush (v := -5) dX10_judge_144 rfl ?_
            have hx := am_inj hf
            subst hx
            exact r_iret dX10_judge_146 rfl rfl (le_b rfl) (le_b rfl)
        · have hf := (am_if hf).2 hc
          refine r_bipush (v := -12) dX10_judge_45 rfl ?_
          have hx := am_inj hf
          subst hx
          exact r_iret dX10_judge_47 rfl rfl (le_b rfl) (le_b rfl)
    · have hf := (am_if hf).1 hc
      refine r_bipush (v := -2) dX10_judge_23 rfl ?_
      have hx := am_inj hf
      subst hx
      exact r_iret dX10_judge_25 rfl rfl (le_b rfl) (le_b rfl)
  · have hf := (am_if hf).1 hc
    refine r_iconst (v := -1) dX10_judge_8 rfl ?_
    have hx := am_inj hf
    subst hx
    exact r_iret dX10_judge_9 rfl rfl (le_b rfl) (le_b rfl)
/-! FireFromFireModel.image -/
theorem dX10_image_0 : decode cX10_image 0 = .ok (.aload_n 0, 1) := by decide +kernel
theorem dX10_image_1 : decode cX10_image 1 = .ok (.iconst 1, 1) := by decide +kernel
theorem dX10_image_2 : decode cX10_image 2 = .ok (.putfield 193, 3) := by decide +kernel
theorem dX10_image_5 : decode cX10_image 5 = .ok (.aload_n 0, 1) := by decide +kernel
theorem dX10_image_6 : decode cX10_image 6 = .ok (.aload_n 0, 1) := by decide +kernel
theorem dX10_image_7 : decode cX10_image 7 = .ok (.getfield 53, 3) := by decide +kernel
theorem dX10_image_10 : decode cX10_image 10 = .ok (.putfield 197, 3) := by decide +kernel
theorem dX10_image_13 : decode cX10_image 13 = .ok (.aload_n 0, 1) := by decide +kernel
theorem dX10_image_14 : decode cX10_image 14 = .ok (.aload_n 0, 1) := by decide +kernel
theorem dX10_image_15 : decode cX10_image 15 = .ok (.getfield 7, 3) := by decide +kernel
theorem dX10_image_18 : decode cX10_image 18 = .ok (.putfield 200, 3) := by decide +kernel
theorem dX10_image_21 : decode cX10_image 21 = .ok (.aload_n 0, 1) := by decide +kernel
theorem dX10_image_22 : decode cX10_image 22 = .ok (.aload_n 0, 1) := by decide +kernel
theorem dX10_image_23 : decode cX10_image 23 = .ok (.getfield 13, 3) := by decide +kernel
theorem dX10_image_26 : decode cX10_image 26 = .ok (.putfield 203, 3) := by decide +kernel
theorem dX10_image_29 : decode cX10_image 29 = .ok (.aload_n 0, 1) := by decide +kernel
theorem dX10_image_30 : decode cX10_image 30 = .ok (.aload_n 0, 1) := by decide +kernel
theorem dX10_image_31 : decode cX10_image 31 = .ok (.getfield 16, 3) := by decide +kernel
theorem dX10_image_34 : decode cX10_image 34 = .ok (.putfield 206, 3) := by decide +kernel
theorem dX10_image_37 : decode cX10_image 37 = .ok (.aload_n 0, 1) := by decide +kernel
theorem dX10_image_38 : decode cX10_image 38 = .ok (.aload_n 0, 1) := by decide +kernel
theorem dX10_image_39 : decode cX10_image 39 = .ok (.getfield 19, 3) := by decide +kernel
theorem dX10_image_42 : decode cX10_image 42 = .ok (.putfield 209, 3) := by decide +kernel
theorem dX10_image_45 : decode cX10_image 45 = .ok (.aload_n 0, 1) := by decide +kernel
theorem dX10_image_46 : decode cX10_image 46 = .ok (.aload_n 0, 1) := by decide +kernel
theorem dX10_image_47 : decode cX10_image 47 = .ok (.getfield 150, 3) := by decide +kernel
theorem dX10_image_50 : decode cX10_image 50 = .ok (.putfield 212, 3) := by decide +kernel
theorem dX10_image_53 : decode cX10_image 53 = .ok (.aload_n 0, 1) := by decide +kernel
theorem dX10_image_54 : decode cX10_image 54 = .ok (.aload_n 0, 1) := by decide +kernel
theorem dX10_image_55 : decode cX10_image 55 = .ok (.getfield 22, 3) := by decide +kernel
theorem dX10_image_58 : decode cX10_image 58 = .ok (.aload_n 0, 1) := by decide +kernel
theorem dX10_image_59 : decode cX10_image 59 = .ok (.getfield 215, 3) := by decide +kernel
theorem dX10_image_62 : decode cX10_image 62 = .ok (.invokevirtual 438, 3) := by decide +kernel
theorem dX10_image_65 : decode cX10_image 65 = .ok (.aload_n 0, 1) := by decide +kernel
theorem dX10_image_66 : decode cX10_image 66 = .ok (.aload_n 0, 1) := by decide +kernel
theorem dX10_image_67 : decode cX10_image 67 = .ok (.getfield 26, 3) := by decide +kernel
theorem dX10_image_70 : decode cX10_image 70 = .ok (.aload_n 0, 1) := by decide +kernel
theorem dX10_image_71 : decode cX10_image 71 = .ok (.getfield 218, 3) := by decide +kernel
theorem dX10_image_74 : decode cX10_image 74 = .ok (.invokevirtual 438, 3) := by decide +kernel
theorem dX10_image_77 : decode cX10_image 77 = .ok (.aload_n 0, 1) := by decide +kernel
theorem dX10_image_78 : decode cX10_image 78 = .ok (.aload_n 0, 1) := by decide +kernel
theorem dX10_image_79 : decode cX10_image 79 = .ok (.getfield 29, 3) := by decide +kernel
theorem dX10_image_82 : decode cX10_image 82 = .ok (.aload_n 0, 1) := by decide +kernel
theorem dX10_image_83 : decode cX10_image 83 = .ok (.getfield 221, 3) := by decide +kernel
theorem dX10_image_86 : decode cX10_image 86 = .ok (.invokevirtual 438, 3) := by decide +kernel
theorem dX10_image_89 : decode cX10_image 89 = .ok (.aload_n 0, 1) := by decide +kernel
theorem dX10_image_90 : decode cX10_image 90 = .ok (.aload_n 0, 1) := by decide +kernel
theorem dX10_image_91 : decode cX10_image 91 = .ok (.getfield 32, 3) := by decide +kernel
theorem dX10_image_94 : decode cX10_image 94 = .ok (.aload_n 0, 1) := by decide +kernel
theorem dX10_image_95 : decode cX10_image 95 = .ok (.getfield 224, 3) := by decide +kernel
theorem dX10_image_98 : decode cX10_image 98 = .ok (.invokevirtual 438, 3) := by decide +kernel
theorem dX10_image_101 : decode cX10_image 101 = .ok (.aload_n 0, 1) := by decide +kernel
theorem dX10_image_102 : decode cX10_image 102 = .ok (.aload_n 0, 1) := by decide +kernel
theorem dX10_image_103 : decode cX10_image 103 = .ok (.getfield 35, 3) := by decide +kernel
theorem dX10_image_106 : decode cX10_image 106 = .ok (.aload_n 0, 1) := by decide +kernel
theorem dX10_image_107 : decode cX10_image 107 = .ok (.getfield 227, 3) := by decide +kernel
theorem dX10_image_110 : decode cX10_image 110 = .ok (.invokevirtual 438, 3) := by decide +kernel
theorem dX10_image_113 : decode cX10_image 113 = .ok (.aload_n 0, 1) := by decide +kernel
theorem dX10_image_114 : decode cX10_image 114 = .ok (.aload_n 0, 1) := by decide +kernel
theorem dX10_image_115 : decode cX10_image 115 = .ok (.getfield 38, 3) := by decide +kernel
theorem dX10_image_118 : decode cX10_image 118 = .ok (.aload_n 0, 1) := by decide +kernel
theorem dX10_image_119 : decode cX10_image 119 = .ok (.getfield 230, 3) := by decide +kernel
theorem dX10_image_122 : decode cX10_image 122 = .ok (.invokevirtual 438, 3) := by decide +kernel
theorem dX10_image_125 : decode cX10_image 125 = .ok (.aload_n 0, 1) := by decide +kernel
theorem dX10_image_126 : decode cX10_image 126 = .ok (.aload_n 0, 1) := by decide +kernel
theorem dX10_image_127 : decode cX10_image 127 = .ok (.getfield 41, 3) := by decide +kernel
theorem dX10_image_130 : decode cX10_image 130 = .ok (.aload_n 0, 1) := by decide +kernel
theorem dX10_image_131 : decode cX10_image 131 = .ok (.getfield 233, 3) := by decide +kernel
theorem dX10_image_134 : decode cX10_image 134 = .ok (.invokevirtual 438, 3) := by decide +kernel
theorem dX10_image_137 : decode cX10_image 137 = .ok (.aload_n 0, 1) := by decide +kernel
theorem dX10_image_138 : decode cX10_image 138 = .ok (.aload_n 0, 1) := by decide +kernel
theorem dX10_image_139 : decode cX10_image 139 = .ok (.getfield 44, 3) := by decide +kernel
theorem dX10_image_142 : decode cX10_image 142 = .ok (.aload_n 0, 1) := by decide +kernel
theorem dX10_image_143 : decode cX10_image 143 = .ok (.getfield 236, 3) := by decide +kernel
theorem dX10_image_146 : decode cX10_image 146 = .ok (.invokevirtual 438, 3) := by decide +kernel
theorem dX10_image_149 : decode cX10_image 149 = .ok (.aload_n 0, 1) := by decide +kernel
theorem dX10_image_150 : decode cX10_image 150 = .ok (.aload_n 0, 1) := by decide +kernel
theorem dX10_image_151 : decode cX10_image 151 = .ok (.getfield 47, 3) := by decide +kernel
theorem dX10_image_154 : decode cX10_image 154 = .ok (.aload_n 0, 1) := by decide +kernel
theorem dX10_image_155 : decode cX10_image 155 = .ok (.getfield 239, 3) := by decide +kernel
theorem dX10_image_158 : decode cX10_image 158 = .ok (.invokevirtual 438, 3) := by decide +kernel
theorem dX10_image_161 : decode cX10_image 161 = .ok (.aload_n 0, 1) := by decide +kernel
theorem dX10_image_162 : decode cX10_image 162 = .ok (.aload_n 0, 1) := by decide +kernel
theorem dX10_image_163 : decode cX10_image 163 = .ok (.getfield 153, 3) := by decide +kernel
theorem dX10_image_166 : decode cX10_image 166 = .ok (.aload_n 0, 1) := by decide +kernel
theorem dX10_image_167 : decode cX10_image 167 = .ok (.getfield 242, 3) := by decide +kernel
theorem dX10_image_170 : decode cX10_image 170 = .ok (.invokevirtual 438, 3) := by decide +kernel
theorem dX10_image_173 : decode cX10_image 173 = .ok (.aload_n 0, 1) := by decide +kernel
theorem dX10_image_174 : decode cX10_image 174 = .ok (.aload_n 0, 1) := by decide +kernel
theorem dX10_image_175 : decode cX10_image 175 = .ok (.getfield 156, 3) := by decide +kernel
theorem dX10_image_178 : decode cX10_image 178 = .ok (.aload_n 0, 1) := by decide +kernel
theorem dX10_image_179 : decode cX10_image 179 = .ok (.getfield 245, 3) := by decide +kernel
theorem dX10_image_182 : decode cX10_image 182 = .ok (.invokevirtual 438, 3) := by decide +kernel
theorem dX10_image_185 : decode cX10_image 185 = .ok (.aload_n 0, 1) := by decide +kernel
theorem dX10_image_186 : decode cX10_image 186 = .ok (.getfield 16, 3) := by decide +kernel
theorem dX10_image_189 : decode cX10_image 189 = .ok (.ireturn, 1) := by decide +kernel
def f_X10_image   (u : PM) : Option (Int32 × PM) :=
  (f_X10_copy 41 78 (pi (pi (pi (pi (pi (pi (pi u (40, 0, 0) 60 (1 : Int32)) (40, 0, 0) 61 (u.1 (40, 0, 0) 14)) (40, 0, 0) 62 (u.1 (40, 0, 0) 0)) (40, 0, 0) 63 (u.1 (40, 0, 0) 1)) (40, 0, 0) 64 (u.1 (40, 0, 0) 2)) (40, 0, 0) 65 (u.1 (40, 0, 0) 3)) (40, 0, 0) 66 (u.1 (40, 0, 0) 46))).bind fun r1 =>
  (f_X10_copy 42 79 r1).bind fun r3 =>
  (f_X10_copy 43 80 r3).bind fun r5 =>
  (f_X10_copy 44 81 r5).bind fun r7 =>
  (f_X10_copy 45 82 r7).bind fun r9 =>
  (f_X10_copy 46 83 r9).bind fun r11 =>
  (f_X10_copy 47 84 r11).bind fun r13 =>
  (f_X10_copy 48 85 r13).bind fun r15 =>
  (f_X10_copy 49 86 r15).bind fun r17 =>
  (f_X10_copy 70 87 r17).bind fun r19 =>
  (f_X10_copy 71 88 r19).bind fun r21 =>
  some (r21.1 (40, 0, 0) 2, r21)
set_option maxHeartbeats 4000000 in
set_option maxRecDepth 20000 in
theorem C_X10_image {l : Launch}   {u : PM} {x : Int32 × PM} (hf : f_X10_image u = some x) : Ev l mX10_image 2 0 0 false [vR (40, 0, 0)] kM (en u) (some (vI x.1), kM, en x.2) := by
  refine Ev_of (by decide +kernel) (le_b rfl) ?_
  unfold f_X10_image at hf
  show X l mX10_image 2 0 0 false _ kM 0 0 0 [some (vR (40, 0, 0))] [] (en u)
  refine r_aload_n (x := (40, 0, 0)) dX10_image_0 rfl ?_
  refine r_iconst (v := 1) dX10_image_1 rfl ?_
  refine e_puti fp_X10_193 dX10_image_2 (kM_mem (s := 40) (by decide)) rfl (lt_b rfl) rfl (am_bool (x := 1) (by decide)).1 (am_bool (x := 1) (by decide)).2 ?_
  refine r_aload_n (x := (40, 0, 0)) dX10_image_5 rfl ?_
  refine r_aload_n (x := (40, 0, 0)) dX10_image_6 rfl ?_
  refine e_geti_ (x := u.1 (40, 0, 0) 14) fw_X10_53 dX10_image_7 (kM_mem (s := 40) (by decide)) rfl (lt_b rfl) (by simp [pi, pl, pr, pci, pcl]) ?_
  refine e_puti fp_X10_197 dX10_image_10 (kM_mem (s := 40) (by decide)) rfl (lt_b rfl) rfl rfl rfl ?_
  refine r_aload_n (x := (40, 0, 0)) dX10_image_13 rfl ?_
  refine r_aload_n (x := (40, 0, 0)) dX10_image_14 rfl ?_
  refine e_geti_ (x := u.1 (40, 0, 0) 0) fw_X10_7 dX10_image_15 (kM_mem (s := 40) (by decide)) rfl (lt_b rfl) (by simp [pi, pl, pr, pci, pcl]) ?_
  refine e_puti fp_X10_200 dX10_image_18 (kM_mem (s := 40) (by decide)) rfl (lt_b rfl) rfl rfl rfl ?_
  refine r_aload_n (x := (40, 0, 0)) dX10_image_21 rfl ?_
  refine r_aload_n (x := (40, 0, 0)) dX10_image_22 rfl ?_
  refine e_geti_ (x := u.1 (40, 0, 0) 1) fw_X10_13 dX10_image_23 (kM_mem (s := 40) (by decide)) rfl (lt_b rfl) (by simp [pi, pl, pr, pci, pcl]) ?_
  refine e_puti fp_X10_203 dX10_image_26 (kM_mem (s := 40) (by decide)) rfl (lt_b rfl) rfl rfl rfl ?_
  refine r_aload_n (x := (40, 0, 0)) dX10_image_29 rfl ?_
  refine r_aload_n (x := (40, 0, 0)) dX10_image_30 rfl ?_
  refine e_geti_ (x := u.1 (40, 0, 0) 2) fw_X10_16 dX10_image_31 (kM_mem (s := 40) (by decide)) rfl (lt_b rfl) (by simp [pi, pl, pr, pci, pcl]) ?_
  refine e_puti fp_X10_206 dX10_image_34 (kM_mem (s := 40) (by decide)) rfl (lt_b rfl) rfl rfl rfl ?_
  refine r_aload_n (x := (40, 0, 0)) dX10_image_37 rfl ?_
  refine r_aload_n (x := (40, 0, 0)) dX10_image_38 rfl ?_
  refine e_geti_ (x := u.1 (40, 0, 0) 3) fw_X10_19 dX10_image_39 (kM_mem (s := 40) (by decide)) rfl (lt_b rfl) (by simp [pi, pl, pr, pci, pcl]) ?_
  refine e_puti fp_X10_209 dX10_image_42 (kM_mem (s := 40) (by decide)) rfl (lt_b rfl) rfl rfl rfl ?_
  refine r_aload_n (x := (40, 0, 0)) dX10_image_45 rfl ?_
  refine r_aload_n (x := (40, 0, 0)) dX10_image_46 rfl ?_
  refine e_geti_ (x := u.1 (40, 0, 0) 46) fw_X10_150 dX10_image_47 (kM_mem (s := 40) (by decide)) rfl (lt_b rfl) (by simp [pi, pl, pr, pci, pcl]) ?_
  refine e_puti fp_X10_212 dX10_image_50 (kM_mem (s := 40) (by decide)) rfl (lt_b rfl) rfl rfl rfl ?_
  refine r_aload_n (x := (40, 0, 0)) dX10_image_53 rfl ?_
  refine r_aload_n (x := (40, 0, 0)) dX10_image_54 rfl ?_
  refine e_getr (z := some (41, 0, 0)) fw_X10_22 dX10_image_55 (kM_mem (s := 40) (by decide)) rfl (lt_b rfl) rfl ?_
  refine r_aload_n (x := (40, 0, 0)) dX10_image_58 rfl ?_
  refine e_getr (z := some (78, 0, 0)) fw_X10_215 dX10_image_59 (kM_mem (s := 40) (by decide)) rfl (lt_b rfl) rfl ?_
  obtain ⟨r1, hr2, hf⟩ := am_bind hf
  refine r_callV (as := [vR (41, 0, 0), vR (78, 0, 0)]) (st := []) (n := 2) mw_X10_438 mv_X10_copy (C_X10_copy (l := l) (a := 41) (b := 78) (by decide) (by decide) rfl rfl rfl hr2) (by decide) dX10_image_62 (kM_mem (s := 40) (by decide)) rfl rfl rfl (le_b rfl) (le_b rfl) (le_b rfl) ?_
  show X l _ _ 0 0 false _ kM 0 0 65 [some (vR (40, 0, 0))] [] (en r1)
  refine r_aload_n (x := (40, 0, 0)) dX10_image_65 rfl ?_
  refine r_aload_n (x := (40, 0, 0)) dX10_image_66 rfl ?_
  refine e_getr (z := some (42, 0, 0)) fw_X10_26 dX10_image_67 (kM_mem (s := 40) (by decide)) rfl (lt_b rfl) rfl ?_
  refine r_aload_n (x := (40, 0, 0)) dX10_image_70 rfl ?_
  refine e_getr (z := some (79, 0, 0)) fw_X10_218 dX10_image_71 (kM_mem (s := 40) (by decide)) rfl (lt_b rfl) rfl ?_
  obtain ⟨r3, hr4, hf⟩ := am_bind hf
  refine r_callV (as := [vR (42, 0, 0), vR (79, 0, 0)]) (st := []) (n := 2) mw_X10_438 mv_X10_copy (C_X10_copy (l := l) (a := 42) (b := 79) (by decide) (by decide) rfl rfl rfl hr4) (by decide) dX10_image_74 (kM_mem (s := 40) (by decide)) rfl rfl rfl (le_b rfl) (le_b rfl) (le_b rfl) ?_
  show X l _ _ 0 0 false _ kM 0 0 77 [some (vR (40, 0, 0))] [] (en r3)
  refine r_aload_n (x := (40, 0, 0)) dX10_image_77 rfl ?_
  refine r_aload_n (x := (40, 0, 0)) dX10_image_78 rfl ?_
  refine e_getr (z := some (43, 0, 0)) fw_X10_29 dX10_image_79 (kM_mem (s := 40) (by decide)) rfl (lt_b rfl) rfl ?_
  refine r_aload_n (x := (40, 0, 0)) dX10_image_82 rfl ?_
  refine e_getr (z := some (80, 0, 0)) fw_X10_221 dX10_image_83 (kM_mem (s := 40) (by decide)) rfl (lt_b rfl) rfl ?_
  obtain ⟨r5, hr6, hf⟩ := am_bind hf
  refine r_callV (as := [vR (43, 0, 0), vR (80, 0, 0)]) (st := []) (n := 2) mw_X10_438 mv_X10_copy (C_X10_copy (l := l) (a := 43) (b := 80) (by decide) (by decide) rfl rfl rfl hr6) (by decide) dX10_image_86 (kM_mem (s := 40) (by decide)) rfl rfl rfl (le_b rfl) (le_b rfl) (le_b rfl) ?_
  show X l _ _ 0 0 false _ kM 0 0 89 [some (vR (40, 0, 0))] [] (en r5)
  refine r_aload_n (x := (40, 0, 0)) dX10_image_89 rfl ?_
  refine r_aload_n (x := (40, 0, 0)) dX10_image_90 rfl ?_
  refine e_getr (z := some (44, 0, 0)) fw_X10_32 dX10_image_91 (kM_mem (s := 40) (by decide)) rfl (lt_b rfl) rfl ?_
  refine r_aload_n (x := (40, 0, 0)) dX10_image_94 rfl ?_
  refine e_getr (z := some (81, 0, 0)) fw_X10_224 dX10_image_95 (kM_mem (s := 40) (by decide)) rfl (lt_b rfl) rfl ?_
  obtain ⟨r7, hr8, hf⟩ := am_bind hf
  refine r_callV (as := [vR (44, 0, 0), vR (81, 0, 0)]) (st := []) (n := 2) mw_X10_438 mv_X10_copy (C_X10_copy (l := l) (a := 44) (b := 81) (by decide) (by decide) rfl rfl rfl hr8) (by decide) dX10_image_98 (kM_mem (s := 40) (by decide)) rfl rfl rfl (le_b rfl) (le_b rfl) (le_b rfl) ?_
  show X l _ _ 0 0 false _ kM 0 0 101 [some (vR (40, 0, 0))] [] (en r7)
  refine r_aload_n (x := (40, 0, 0)) dX10_image_101 rfl ?_
  refine r_aload_n (x := (40, 0, 0)) dX10_image_102 rfl ?_
  refine e_getr (z := some (45, 0, 0)) fw_X10_35 dX10_image_103 (kM_mem (s := 40) (by decide)) rfl (lt_b rfl) rfl ?_
  refine r_aload_n (x := (40, 0, 0)) dX10_image_106 rfl ?_
  refine e_getr (z := some (82, 0, 0)) fw_X10_227 dX10_image_107 (kM_mem (s := 40) (by decide)) rfl (lt_b rfl) rfl ?_
  obtain ⟨r9, hr10, hf⟩ := am_bind hf
  refine r_callV (as := [vR (45, 0, 0), vR (82, 0, 0)]) (st := []) (n := 2) mw_X10_438 mv_X10_copy (C_X10_copy (l := l) (a := 45) (b := 82) (by decide) (by decide) rfl rfl rfl hr10) (by decide) dX10_image_110 (kM_mem (s := 40) (by decide)) rfl rfl rfl (le_b rfl) (le_b rfl) (le_b rfl) ?_
  show X l _ _ 0 0 false _ kM 0 0 113 [some (vR (40, 0, 0))] [] (en r9)
  refine r_aload_n (x := (40, 0, 0)) dX10_image_113 rfl ?_
  refine r_aload_n (x := (40, 0, 0)) dX10_image_114 rfl ?_
  refine e_getr (z := some (46, 0, 0)) fw_X10_38 dX10_image_115 (kM_mem (s := 40) (by decide)) rfl (lt_b rfl) rfl ?_
  refine r_aload_n (x := (40, 0, 0)) dX10_image_118 rfl ?_
  refine e_getr (z := some (83, 0, 0)) fw_X10_230 dX10_image_119 (kM_mem (s := 40) (by decide)) rfl (lt_b rfl) rfl ?_
  obtain ⟨r11, hr12, hf⟩ := am_bind hf
  refine r_callV (as := [vR (46, 0, 0), vR (83, 0, 0)]) (st := []) (n := 2) mw_X10_438 mv_X10_copy (C_X10_copy (l := l) (a := 46) (b := 83) (by decide) (by decide) rfl rfl rfl hr12) (by decide) dX10_image_122 (kM_mem (s := 40) (by decide)) rfl rfl rfl (le_b rfl) (le_b rfl) (le_b rfl) ?_
  show X l _ _ 0 0 false _ kM 0 0 125 [some (vR (40, 0, 0))] [] (en r11)
  refine r_aload_n (x := (40, 0, 0)) dX10_image_125 rfl ?_
  refine r_aload_n (x := (40, 0, 0)) dX10_image_126 rfl ?_
  refine e_getr (z := some (47, 0, 0)) fw_X10_41 dX10_image_127 (kM_mem (s := 40) (by decide)) rfl (lt_b rfl) rfl ?_
  refine r_aload_n (x := (40, 0, 0)) dX10_image_130 rfl ?_
  refine e_getr (z := some (84, 0, 0)) fw_X10_233 dX10_image_131 (kM_mem (s := 40) (by decide)) rfl (lt_b rfl) rfl ?_
  obtain ⟨r13, hr14, hf⟩ := am_bind hf
  refine r_callV (as := [vR (47, 0, 0), vR (84, 0, 0)]) (st := []) (n := 2) mw_X10_438 mv_X10_copy (C_X10_copy (l := l) (a := 47) (b := 84) (by decide) (by decide) rfl rfl rfl hr14) (by decide) dX10_image_134 (kM_mem (s := 40) (by decide)) rfl rfl rfl (le_b rfl) (le_b rfl) (le_b rfl) ?_
  show X l _ _ 0 0 false _ kM 0 0 137 [some (vR (40, 0, 0))] [] (en r13)
  refine r_aload_n (x := (40, 0, 0)) dX10_image_137 rfl ?_
  refine r_aload_n (x := (40, 0, 0)) dX10_image_138 rfl ?_
  refine e_getr (z := some (48, 0, 0)) fw_X10_44 dX10_image_139 (kM_mem (s := 40) (by decide)) rfl (lt_b rfl) rfl ?_
  refine r_aload_n (x := (40, 0, 0)) dX10_image_142 rfl ?_
  refine e_getr (z := some (85, 0, 0)) fw_X10_236 dX10_image_143 (kM_mem (s := 40) (by decide)) rfl (lt_b rfl) rfl ?_
  obtain ⟨r15, hr16, hf⟩ := am_bind hf
  refine r_callV (as := [vR (48, 0, 0), vR (85, 0, 0)]) (st := []) (n := 2) mw_X10_438 mv_X10_copy (C_X10_copy (l := l) (a := 48) (b := 85) (by decide) (by decide) rfl rfl rfl hr16) (by decide) dX10_image_146 (kM_mem (s := 40) (by decide)) rfl rfl rfl (le_b rfl) (le_b rfl) (le_b rfl) ?_
  show X l _ _ 0 0 false _ kM 0 0 149 [some (vR (40, 0, 0))] [] (en r15)
  refine r_aload_n (x := (40, 0, 0)) dX10_image_149 rfl ?_
  refine r_aload_n (x := (40, 0, 0)) dX10_image_150 rfl ?_
  refine e_getr (z := some (49, 0, 0)) fw_X10_47 dX10_image_151 (kM_mem (s := 40) (by decide)) rfl (lt_b rfl) rfl ?_
  refine r_aload_n (x := (40, 0, 0)) dX10_image_154 rfl ?_
  refine e_getr (z := some (86, 0, 0)) fw_X10_239 dX10_image_155 (kM_mem (s := 40) (by decide)) rfl (lt_b rfl) rfl ?_
  obtain ⟨r17, hr18, hf⟩ := am_bind hf
  refine r_callV (as := [vR (49, 0, 0), vR (86, 0, 0)]) (st := []) (n := 2) mw_X10_438 mv_X10_copy (C_X10_copy (l := l) (a := 49) (b := 86) (by decide) (by decide) rfl rfl rfl hr18) (by decide) dX10_image_158 (kM_mem (s := 40) (by decide)) rfl rfl rfl (le_b rfl) (le_b rfl) (le_b rfl) ?_
  show X l _ _ 0 0 false _ kM 0 0 161 [some (vR (40, 0, 0))] [] (en r17)
  refine r_aload_n (x := (40, 0, 0)) dX10_image_161 rfl ?_
  refine r_aload_n (x := (40, 0, 0)) dX10_image_162 rfl ?_
  refine e_getr (z := some (70, 0, 0)) fw_X10_153 dX10_image_163 (kM_mem (s := 40) (by decide)) rfl (lt_b rfl) rfl ?_
  refine r_aload_n (x := (40, 0, 0)) dX10_image_166 rfl ?_
  refine e_getr (z := some (87, 0, 0)) fw_X10_242 dX10_image_167 (kM_mem (s := 40) (by decide)) rfl (lt_b rfl) rfl ?_
  obtain ⟨r19, hr20, hf⟩ := am_bind hf
  refine r_callV (as := [vR (70, 0, 0), vR (87, 0, 0)]) (st := []) (n := 2) mw_X10_438 mv_X10_copy (C_X10_copy (l := l) (a := 70) (b := 87) (by decide) (by decide) rfl rfl rfl hr20) (by decide) dX10_image_170 (kM_mem (s := 40) (by decide)) rfl rfl rfl (le_b rfl) (le_b rfl) (le_b rfl) ?_
  show X l _ _ 0 0 false _ kM 0 0 173 [some (vR (40, 0, 0))] [] (en r19)
  refine r_aload_n (x := (40, 0, 0)) dX10_image_173 rfl ?_
  refine r_aload_n (x := (40, 0, 0)) dX10_image_174 rfl ?_
  refine e_getr (z := some (71, 0, 0)) fw_X10_156 dX10_image_175 (kM_mem (s := 40) (by decide)) rfl (lt_b rfl) rfl ?_
  refine r_aload_n (x := (40, 0, 0)) dX10_image_178 rfl ?_
  refine e_getr (z := some (88, 0, 0)) fw_X10_245 dX10_image_179 (kM_mem (s := 40) (by decide)) rfl (lt_b rfl) rfl ?_
  obtain ⟨r21, hr22, hf⟩ := am_bind hf
  refine r_callV (as := [vR (71, 0, 0), vR (88, 0, 0)]) (st := []) (n := 2) mw_X10_438 mv_X10_copy (C_X10_copy (l := l) (a := 71) (b := 88) (by decide) (by decide) rfl rfl rfl hr22) (by decide) dX10_image_182 (kM_mem (s := 40) (by decide)) rfl rfl rfl (le_b rfl) (le_b rfl) (le_b rfl) ?_
  show X l _ _ 0 0 false _ kM 0 0 185 [some (vR (40, 0, 0))] [] (en r21)
  refine r_aload_n (x := (40, 0, 0)) dX10_image_185 rfl ?_
  refine e_geti fw_X10_16 dX10_image_186 (kM_mem (s := 40) (by decide)) rfl (lt_b rfl) ?_
  have hx := am_inj hf
  subst hx
  exact r_iret dX10_image_189 rfl rfl (le_b rfl) (le_b rfl)
/-! FireFromFireModel.undo -/
theorem dX10_undo_0 : decode cX10_undo 0 = .ok (.aload_n 0, 1) := by decide +kernel
theorem dX10_undo_1 : decode cX10_undo 1 = .ok (.getfield 193, 3) := by decide +kernel
theorem dX10_undo_4 : decode cX10_undo 4 = .ok (.ifCond .ne 6, 3) := by decide +kernel
theorem dX10_undo_7 : decode cX10_undo 7 = .ok (.bipush (-3), 2) := by decide +kernel
theorem dX10_undo_9 : decode cX10_undo 9 = .ok (.ireturn, 1) := by decide +kernel
theorem dX10_undo_10 : decode cX10_undo 10 = .ok (.aload_n 0, 1) := by decide +kernel
theorem dX10_undo_11 : decode cX10_undo 11 = .ok (.aload_n 0, 1) := by decide +kernel
theorem dX10_undo_12 : decode cX10_undo 12 = .ok (.getfield 197, 3) := by decide +kernel
theorem dX10_undo_15 : decode cX10_undo 15 = .ok (.putfield 53, 3) := by decide +kernel
theorem dX10_undo_18 : decode cX10_undo 18 = .ok (.aload_n 0, 1) := by decide +kernel
theorem dX10_undo_19 : decode cX10_undo 19 = .ok (.aload_n 0, 1) := by decide +kernel
theorem dX10_undo_20 : decode cX10_undo 20 = .ok (.getfield 200, 3) := by decide +kernel
theorem dX10_undo_23 : decode cX10_undo 23 = .ok (.putfield 7, 3) := by decide +kernel
theorem dX10_undo_26 : decode cX10_undo 26 = .ok (.aload_n 0, 1) := by decide +kernel
theorem dX10_undo_27 : decode cX10_undo 27 = .ok (.aload_n 0, 1) := by decide +kernel
theorem dX10_undo_28 : decode cX10_undo 28 = .ok (.getfield 203, 3) := by decide +kernel
theorem dX10_undo_31 : decode cX10_undo 31 = .ok (.putfield 13, 3) := by decide +kernel
theorem dX10_undo_34 : decode cX10_undo 34 = .ok (.aload_n 0, 1) := by decide +kernel
theorem dX10_undo_35 : decode cX10_undo 35 = .ok (.aload_n 0, 1) := by decide +kernel
theorem dX10_undo_36 : decode cX10_undo 36 = .ok (.getfield 206, 3) := by decide +kernel
theorem dX10_undo_39 : decode cX10_undo 39 = .ok (.putfield 16, 3) := by decide +kernel
theorem dX10_undo_42 : decode cX10_undo 42 = .ok (.aload_n 0, 1) := by decide +kernel
theorem dX10_undo_43 : decode cX10_undo 43 = .ok (.aload_n 0, 1) := by decide +kernel
theorem dX10_undo_44 : decode cX10_undo 44 = .ok (.getfield 209, 3) := by decide +kernel
theorem dX10_undo_47 : decode cX10_undo 47 = .ok (.putfield 19, 3) := by decide +kernel
theorem dX10_undo_50 : decode cX10_undo 50 = .ok (.aload_n 0, 1) := by decide +kernel
theorem dX10_undo_51 : decode cX10_undo 51 = .ok (.aload_n 0, 1) := by decide +kernel
theorem dX10_undo_52 : decode cX10_undo 52 = .ok (.getfield 212, 3) := by decide +kernel
theorem dX10_undo_55 : decode cX10_undo 55 = .ok (.putfield 150, 3) := by decide +kernel
theorem dX10_undo_58 : decode cX10_undo 58 = .ok (.aload_n 0, 1) := by decide +kernel
theorem dX10_undo_59 : decode cX10_undo 59 = .ok (.aload_n 0, 1) := by decide +kernel
theorem dX10_undo_60 : decode cX10_undo 60 = .ok (.getfield 215, 3) := by decide +kernel
theorem dX10_undo_63 : decode cX10_undo 63 = .ok (.aload_n 0, 1) := by decide +kernel
theorem dX10_undo_64 : decode cX10_undo 64 = .ok (.getfield 22, 3) := by decide +kernel
theorem dX10_undo_67 : decode cX10_undo 67 = .ok (.invokevirtual 438, 3) := by decide +kernel
theorem dX10_undo_70 : decode cX10_undo 70 = .ok (.aload_n 0, 1) := by decide +kernel
theorem dX10_undo_71 : decode cX10_undo 71 = .ok (.aload_n 0, 1) := by decide +kernel
theorem dX10_undo_72 : decode cX10_undo 72 = .ok (.getfield 218, 3) := by decide +kernel
theorem dX10_undo_75 : decode cX10_undo 75 = .ok (.aload_n 0, 1) := by decide +kernel
theorem dX10_undo_76 : decode cX10_undo 76 = .ok (.getfield 26, 3) := by decide +kernel
theorem dX10_undo_79 : decode cX10_undo 79 = .ok (.invokevirtual 438, 3) := by decide +kernel
theorem dX10_undo_82 : decode cX10_undo 82 = .ok (.aload_n 0, 1) := by decide +kernel
theorem dX10_undo_83 : decode cX10_undo 83 = .ok (.aload_n 0, 1) := by decide +kernel
theorem dX10_undo_84 : decode cX10_undo 84 = .ok (.getfield 221, 3) := by decide +kernel
theorem dX10_undo_87 : decode cX10_undo 87 = .ok (.aload_n 0, 1) := by decide +kernel
theorem dX10_undo_88 : decode cX10_undo 88 = .ok (.getfield 29, 3) := by decide +kernel
theorem dX10_undo_91 : decode cX10_undo 91 = .ok (.invokevirtual 438, 3) := by decide +kernel
theorem dX10_undo_94 : decode cX10_undo 94 = .ok (.aload_n 0, 1) := by decide +kernel
theorem dX10_undo_95 : decode cX10_undo 95 = .ok (.aload_n 0, 1) := by decide +kernel
theorem dX10_undo_96 : decode cX10_undo 96 = .ok (.getfield 224, 3) := by decide +kernel
theorem dX10_undo_99 : decode cX10_undo 99 = .ok (.aload_n 0, 1) := by decide +kernel
theorem dX10_undo_100 : decode cX10_undo 100 = .ok (.getfield 32, 3) := by decide +kernel
theorem dX10_undo_103 : decode cX10_undo 103 = .ok (.invokevirtual 438, 3) := by decide +kernel
theorem dX10_undo_106 : decode cX10_undo 106 = .ok (.aload_n 0, 1) := by decide +kernel
theorem dX10_undo_107 : decode cX10_undo 107 = .ok (.aload_n 0, 1) := by decide +kernel
theorem dX10_undo_108 : decode cX10_undo 108 = .ok (.getfield 227, 3) := by decide +kernel
theorem dX10_undo_111 : decode cX10_undo 111 = .ok (.aload_n 0, 1) := by decide +kernel
theorem dX10_undo_112 : decode cX10_undo 112 = .ok (.getfield 35, 3) := by decide +kernel
theorem dX10_undo_115 : decode cX10_undo 115 = .ok (.invokevirtual 438, 3) := by decide +kernel
theorem dX10_undo_118 : decode cX10_undo 118 = .ok (.aload_n 0, 1) := by decide +kernel
theorem dX10_undo_119 : decode cX10_undo 119 = .ok (.aload_n 0, 1) := by decide +kernel
theorem dX10_undo_120 : decode cX10_undo 120 = .ok (.getfield 230, 3) := by decide +kernel
theorem dX10_undo_123 : decode cX10_undo 123 = .ok (.aload_n 0, 1) := by decide +kernel
theorem dX10_undo_124 : decode cX10_undo 124 = .ok (.getfield 38, 3) := by decide +kernel
theorem dX10_undo_127 : decode cX10_undo 127 = .ok (.invokevirtual 438, 3) := by decide +kernel
theorem dX10_undo_130 : decode cX10_undo 130 = .ok (.aload_n 0, 1) := by decide +kernel
theorem dX10_undo_131 : decode cX10_undo 131 = .ok (.aload_n 0, 1) := by decide +kernel
theorem dX10_undo_132 : decode cX10_undo 132 = .ok (.getfield 233, 3) := by decide +kernel
theorem dX10_undo_135 : decode cX10_undo 135 = .ok (.aload_n 0, 1) := by decide +kernel
theorem dX10_undo_136 : decode cX10_undo 136 = .ok (.getfield 41, 3) := by decide +kernel
theorem dX10_undo_139 : decode cX10_undo 139 = .ok (.invokevirtual 438, 3) := by decide +kernel
theorem dX10_undo_142 : decode cX10_undo 142 = .ok (.aload_n 0, 1) := by decide +kernel
theorem dX10_undo_143 : decode cX10_undo 143 = .ok (.aload_n 0, 1) := by decide +kernel
theorem dX10_undo_144 : decode cX10_undo 144 = .ok (.getfield 236, 3) := by decide +kernel
theorem dX10_undo_147 : decode cX10_undo 147 = .ok (.aload_n 0, 1) := by decide +kernel
theorem dX10_undo_148 : decode cX10_undo 148 = .ok (.getfield 44, 3) := by decide +kernel
theorem dX10_undo_151 : decode cX10_undo 151 = .ok (.invokevirtual 438, 3) := by decide +kernel
theorem dX10_undo_154 : decode cX10_undo 154 = .ok (.aload_n 0, 1) := by decide +kernel
theorem dX10_undo_155 : decode cX10_undo 155 = .ok (.aload_n 0, 1) := by decide +kernel
theorem dX10_undo_156 : decode cX10_undo 156 = .ok (.getfield 239, 3) := by decide +kernel
theorem dX10_undo_159 : decode cX10_undo 159 = .ok (.aload_n 0, 1) := by decide +kernel
theorem dX10_undo_160 : decode cX10_undo 160 = .ok (.getfield 47, 3) := by decide +kernel
theorem dX10_undo_163 : decode cX10_undo 163 = .ok (.invokevirtual 438, 3) := by decide +kernel
theorem dX10_undo_166 : decode cX10_undo 166 = .ok (.aload_n 0, 1) := by decide +kernel
theorem dX10_undo_167 : decode cX10_undo 167 = .ok (.aload_n 0, 1) := by decide +kernel
theorem dX10_undo_168 : decode cX10_undo 168 = .ok (.getfield 242, 3) := by decide +kernel
theorem dX10_undo_171 : decode cX10_undo 171 = .ok (.aload_n 0, 1) := by decide +kernel
theorem dX10_undo_172 : decode cX10_undo 172 = .ok (.getfield 153, 3) := by decide +kernel
theorem dX10_undo_175 : decode cX10_undo 175 = .ok (.invokevirtual 438, 3) := by decide +kernel
theorem dX10_undo_178 : decode cX10_undo 178 = .ok (.aload_n 0, 1) := by decide +kernel
theorem dX10_undo_179 : decode cX10_undo 179 = .ok (.aload_n 0, 1) := by decide +kernel
theorem dX10_undo_180 : decode cX10_undo 180 = .ok (.getfield 245, 3) := by decide +kernel
theorem dX10_undo_183 : decode cX10_undo 183 = .ok (.aload_n 0, 1) := by decide +kernel
theorem dX10_undo_184 : decode cX10_undo 184 = .ok (.getfield 156, 3) := by decide +kernel
theorem dX10_undo_187 : decode cX10_undo 187 = .ok (.invokevirtual 438, 3) := by decide +kernel
theorem dX10_undo_190 : decode cX10_undo 190 = .ok (.aload_n 0, 1) := by decide +kernel
theorem dX10_undo_191 : decode cX10_undo 191 = .ok (.getfield 16, 3) := by decide +kernel
theorem dX10_undo_194 : decode cX10_undo 194 = .ok (.ireturn, 1) := by decide +kernel
def f_X10_undo   (u : PM) : Option (Int32 × PM) :=
  if (u.1 (40, 0, 0) 60) = 0 then
    some ((-3 : Int32), u)
  else
  (f_X10_copy 78 41 (pi (pi (pi (pi (pi (pi u (40, 0, 0) 14 (u.1 (40, 0, 0) 61)) (40, 0, 0) 0 (u.1 (40, 0, 0) 62)) (40, 0, 0) 1 (u.1 (40, 0, 0) 63)) (40, 0, 0) 2 (u.1 (40, 0, 0) 64)) (40, 0, 0) 3 (u.1 (40, 0, 0) 65)) (40, 0, 0) 46 (u.1 (40, 0, 0) 66))).bind fun r1 =>
  (f_X10_copy 79 42 r1).bind fun r3 =>
  (f_X10_copy 80 43 r3).bind fun r5 =>
  (f_X10_copy 81 44 r5).bind fun r7 =>
  (f_X10_copy 82 45 r7).bind fun r9 =>
  (f_X10_copy 83 46 r9).bind fun r11 =>
  (f_X10_copy 84 47 r11).bind fun r13 =>
  (f_X10_copy 85 48 r13).bind fun r15 =>
  (f_X10_copy 86 49 r15).bind fun r17 =>
  (f_X10_copy 87 70 r17).bind fun r19 =>
  (f_X10_copy 88 71 r19).bind fun r21 =>
  some (r21.1 (40, 0, 0) 2, r21)
set_option maxHeartbeats 4000000 in
set_option maxRecDepth 20000 in
theorem C_X10_undo {l : Launch}   {u : PM} {x : Int32 × PM} (hf : f_X10_undo u = some x) : Ev l mX10_undo 2 0 0 false [vR (40, 0, 0)] kM (en u) (some (vI x.1), kM, en x.2) := by
  refine Ev_of (by decide +kernel) (le_b rfl) ?_
  unfold f_X10_undo at hf
  show X l mX10_undo 2 0 0 false _ kM 0 0 0 [some (vR (40, 0, 0))] [] (en u)
  refine r_aload_n (x := (40, 0, 0)) dX10_undo_0 rfl ?_
  refine e_geti fw_X10_193 dX10_undo_1 (kM_mem (s := 40) (by decide)) rfl (lt_b rfl) ?_
  refine r_if_ne (tgt := 10) dX10_undo_4 (by decide) (fun hc => ?_) (fun hc => ?_)
  · have hf := (am_if hf).2 hc
    refine r_aload_n (x := (40, 0, 0)) dX10_undo_10 rfl ?_
    refine r_aload_n (x := (40, 0, 0)) dX10_undo_11 rfl ?_
    refine e_geti fw_X10_197 dX10_undo_12 (kM_mem (s := 40) (by decide)) rfl (lt_b rfl) ?_
    refine e_puti fp_X10_53 dX10_undo_15 (kM_mem (s := 40) (by decide)) rfl (lt_b rfl) rfl rfl rfl ?_
    refine r_aload_n (x := (40, 0, 0)) dX10_undo_18 rfl ?_
    refine r_aload_n (x := (40, 0, 0)) dX10_undo_19 rfl ?_
    refine e_geti_ (x := u.1 (40, 0, 0) 62) fw_X10_200 dX10_undo_20 (kM_mem (s := 40) (by decide)) rfl (lt_b rfl) (by simp [pi, pl, pr, pci, pcl]) ?_
    refine e_puti fp_X10_7 dX10_undo_23 (kM_mem (s := 40) (by decide)) rfl (lt_b rfl) rfl rfl rfl ?_
    refine r_aload_n (x := (40, 0, 0)) dX10_undo_26 rfl ?_
    refine r_aload_n (x := (40, 0, 0)) dX10_undo_27 rfl ?_
    refine e_geti_ (x := u.1 (40, 0, 0) 63) fw_X10_203 dX10_undo_28 (kM_mem (s := 40) (by decide)) rfl (lt_b rfl) (by simp [pi, pl, pr, pci, pcl]) ?_
    refine e_puti fp_X10_13 dX10_undo_31 (kM_mem (s := 40) (by decide)) rfl (lt_b rfl) rfl rfl rfl ?_
    refine r_aload_n (x := (40, 0, 0)) dX10_undo_34 rfl ?_
    refine r_aload_n (x := (40, 0, 0)) dX10_undo_35 rfl ?_
    refine e_geti_ (x := u.1 (40, 0, 0) 64) fw_X10_206 dX10_undo_36 (kM_mem (s := 40) (by decide)) rfl (lt_b rfl) (by simp [pi, pl, pr, pci, pcl]) ?_
    refine e_puti fp_X10_16 dX10_undo_39 (kM_mem (s := 40) (by decide)) rfl (lt_b rfl) rfl rfl rfl ?_
    refine r_aload_n (x := (40, 0, 0)) dX10_undo_42 rfl ?_
    refine r_aload_n (x := (40, 0, 0)) dX10_undo_43 rfl ?_
    refine e_geti_ (x := u.1 (40, 0, 0) 65) fw_X10_209 dX10_undo_44 (kM_mem (s := 40) (by decide)) rfl (lt_b rfl) (by simp [pi, pl, pr, pci, pcl]) ?_
    refine e_puti fp_X10_19 dX10_undo_47 (kM_mem (s := 40) (by decide)) rfl (lt_b rfl) rfl rfl rfl ?_
    refine r_aload_n (x := (40, 0, 0)) dX10_undo_50 rfl ?_
    refine r_aload_n (x := (40, 0, 0)) dX10_undo_51 rfl ?_
    refine e_geti_ (x := u.1 (40, 0, 0) 66) fw_X10_212 dX10_undo_52 (kM_mem (s := 40) (by decide)) rfl (lt_b rfl) (by simp [pi, pl, pr, pci, pcl]) ?_
    refine e_puti fp_X10_150 dX10_undo_55 (kM_mem (s := 40) (by decide)) rfl (lt_b rfl) rfl rfl rfl ?_
    refine r_aload_n (x := (40, 0, 0)) dX10_undo_58 rfl ?_
    refine r_aload_n (x := (40, 0, 0)) dX10_undo_59 rfl ?_
    refine e_getr (z := some (78, 0, 0)) fw_X10_215 dX10_undo_60 (kM_mem (s := 40) (by decide)) rfl (lt_b rfl) rfl ?_
    refine r_aload_n (x := (40, 0, 0)) dX10_undo_63 rfl ?_
    refine e_getr (z := some (41, 0, 0)) fw_X10_22 dX10_undo_64 (kM_mem (s := 40) (by decide)) rfl (lt_b rfl) rfl ?_
    obtain ⟨r1, hr2, hf⟩ := am_bind hf
    refine r_callV (as := [vR (78, 0, 0), vR (41, 0, 0)]) (st := []) (n := 2) mw_X10_438 mv_X10_copy (C_X10_copy (l := l) (a := 78) (b := 41) (by decide) (by decide) rfl rfl rfl hr2) (by decide) dX10_undo_67 (kM_mem (s := 40) (by decide)) rfl rfl rfl (le_b rfl) (le_b rfl) (le_b rfl) ?_
    show X l _ _ 0 0 false _ kM 0 0 70 [some (vR (40, 0, 0))] [] (en r1)
    refine r_aload_n (x := (40, 0, 0)) dX10_undo_70 rfl ?_
    refine r_aload_n (x := (40, 0, 0)) dX10_undo_71 rfl ?_
    refine e_getr (z := some (79, 0, 0)) fw_X10_218 dX10_undo_72 (kM_mem (s := 40) (by decide)) rfl (lt_b rfl) rfl ?_
    refine r_aload_n (x := (40, 0, 0)) dX10_undo_75 rfl ?_
    refine e_getr (z := some (42, 0, 0)) fw_X10_26 dX10_undo_76 (kM_mem (s := 40) (by decide)) rfl (lt_b rfl) rfl ?_
    obtain ⟨r3, hr4, hf⟩ := am_bind hf
    refine r_callV (as := [vR (79, 0, 0), vR (42, 0, 0)]) (st := []) (n := 2) mw_X10_438 mv_X10_copy (C_X10_copy (l := l) (a := 79) (b := 42) (by decide) (by decide) rfl rfl rfl hr4) (by decide) dX10_undo_79 (kM_mem (s := 40) (by decide)) rfl rfl rfl (le_b rfl) (le_b rfl) (le_b rfl) ?_
    show X l _ _ 0 0 false _ kM 0 0 82 [some (vR (40, 0, 0))] [] (en r3)
    refine r_aload_n (x := (40, 0, 0)) dX10_undo_82 rfl ?_
    refine r_aload_n (x := (40, 0, 0)) dX10_undo_83 rfl ?_
    refine e_getr (z := some (80, 0, 0)) fw_X10_221 dX10_undo_84 (kM_mem (s := 40) (by decide)) rfl (lt_b rfl) rfl ?_
    refine r_aload_n (x := (40, 0, 0)) dX10_undo_87 rfl ?_
    refine e_getr (z := some (43, 0, 0)) fw_X10_29 dX10_undo_88 (kM_mem (s := 40) (by decide)) rfl (lt_b rfl) rfl ?_
    obtain ⟨r5, hr6, hf⟩ := am_bind hf
    refine r_callV (as := [vR (80, 0, 0), vR (43, 0, 0)]) (st := []) (n := 2) mw_X10_438 mv_X10_copy (C_X10_copy (l := l) (a := 80) (b := 43) (by decide) (by decide) rfl rfl rfl hr6) (by decide) dX10_undo_91 (kM_mem (s := 40) (by decide)) rfl rfl rfl (le_b rfl) (le_b rfl) (le_b rfl) ?_
    show X l _ _ 0 0 false _ kM 0 0 94 [some (vR (40, 0, 0))] [] (en r5)
    refine r_aload_n (x := (40, 0, 0)) dX10_undo_94 rfl ?_
    refine r_aload_n (x := (40, 0, 0)) dX10_undo_95 rfl ?_
    refine e_getr (z := some (81, 0, 0)) fw_X10_224 dX10_undo_96 (kM_mem (s := 40) (by decide)) rfl (lt_b rfl) rfl ?_
    refine r_aload_n (x := (40, 0, 0)) dX10_undo_99 rfl ?_
    refine e_getr (z := some (44, 0, 0)) fw_X10_32 dX10_undo_100 (kM_mem (s := 40) (by decide)) rfl (lt_b rfl) rfl ?_
    obtain ⟨r7, hr8, hf⟩ := am_bind hf
    refine r_callV (as := [vR (81, 0, 0), vR (44, 0, 0)]) (st := []) (n := 2) mw_X10_438 mv_X10_copy (C_X10_copy (l := l) (a := 81) (b := 44) (by decide) (by decide) rfl rfl rfl hr8) (by decide) dX10_undo_103 (kM_mem (s := 40) (by decide)) rfl rfl rfl (le_b rfl) (le_b rfl) (le_b rfl) ?_
    show X l _ _ 0 0 false _ kM 0 0 106 [some (vR (40, 0, 0))] [] (en r7)
    refine r_aload_n (x := (40, 0, 0)) dX10_undo_106 rfl ?_
    refine r_aload_n (x := (40, 0, 0)) dX10_undo_107 rfl ?_
    refine e_getr (z := some (82, 0, 0)) fw_X10_227 dX10_undo_108 (kM_mem (s := 40) (by decide)) rfl (lt_b rfl) rfl ?_
    refine r_aload_n (x := (40, 0, 0)) dX10_undo_111 rfl ?_
    refine e_getr (z := some (45, 0, 0)) fw_X10_35 dX10_undo_112 (kM_mem (s := 40) (by decide)) rfl (lt_b rfl) rfl ?_
    obtain ⟨r9, hr10, hf⟩ := am_bind hf
    refine r_callV (as := [vR (82, 0, 0), vR (45, 0, 0)]) (st := []) (n := 2) mw_X10_438 mv_X10_copy (C_X10_copy (l := l) (a := 82) (b := 45) (by decide) (by decide) rfl rfl rfl hr10) (by decide) dX10_undo_115 (kM_mem (s := 40) (by decide)) rfl rfl rfl (le_b rfl) (le_b rfl) (le_b rfl) ?_
    show X l _ _ 0 0 false _ kM 0 0 118 [some (vR (40, 0, 0))] [] (en r9)
    refine r_aload_n (x := (40, 0, 0)) dX10_undo_118 rfl ?_
    refine r_aload_n (x := (40, 0, 0)) dX10_undo_119 rfl ?_
    refine e_getr (z := some (83, 0, 0)) fw_X10_230 dX10_undo_120 (kM_mem (s := 40) (by decide)) rfl (lt_b rfl) rfl ?_
    refine r_aload_n (x := (40, 0, 0)) dX10_undo_123 rfl ?_
    refine e_getr (z := some (46, 0, 0)) fw_X10_38 dX10_undo_124 (kM_mem (s := 40) (by decide)) rfl (lt_b rfl) rfl ?_
    obtain ⟨r11, hr12, hf⟩ := am_bind hf
    refine r_callV (as := [vR (83, 0, 0), vR (46, 0, 0)]) (st := []) (n := 2) mw_X10_438 mv_X10_copy (C_X10_copy (l := l) (a := 83) (b := 46) (by decide) (by decide) rfl rfl rfl hr12) (by decide) dX10_undo_127 (kM_mem (s := 40) (by decide)) rfl rfl rfl (le_b rfl) (le_b rfl) (le_b rfl) ?_
    show X l _ _ 0 0 false _ kM 0 0 130 [some (vR (40, 0, 0))] [] (en r11)
    refine r_aload_n (x := (40, 0, 0)) dX10_undo_130 rfl ?_
    refine r_aload_n (x := (40, 0, 0)) dX10_undo_131 rfl ?_
    refine e_getr (z := some (84, 0, 0)) fw_X10_233 dX10_undo_132 (kM_mem (s := 40) (by decide)) rfl (lt_b rfl) rfl ?_
    refine r_aload_n (x := (40, 0, 0)) dX10_undo_135 rfl ?_
    refine e_getr (z := some (47, 0, 0)) fw_X10_41 dX10_undo_136 (kM_mem (s := 40) (by decide)) rfl (lt_b rfl) rfl ?_
    obtain ⟨r13, hr14, hf⟩ := am_bind hf
    refine r_callV (as := [vR (84, 0, 0), vR (47, 0, 0)]) (st := []) (n := 2) mw_X10_438 mv_X10_copy (C_X10_copy (l := l) (a := 84) (b := 47) (by decide) (by decide) rfl rfl rfl hr14) (by decide) dX10_undo_139 (kM_mem (s := 40) (by decide)) rfl rfl rfl (le_b rfl) (le_b rfl) (le_b rfl) ?_
    show X l _ _ 0 0 false _ kM 0 0 142 [some (vR (40, 0, 0))] [] (en r13)
    refine r_aload_n (x := (40, 0, 0)) dX10_undo_142 rfl ?_
    refine r_aload_n (x := (40, 0, 0)) dX10_undo_143 rfl ?_
    refine e_getr (z := some (85, 0, 0)) fw_X10_236 dX10_undo_144 (kM_mem (s := 40) (by decide)) rfl (lt_b rfl) rfl ?_
    refine r_aload_n (x := (40, 0, 0)) dX10_undo_147 rfl ?_
    refine e_getr (z := some (48, 0, 0)) fw_X10_44 dX10_undo_148 (kM_mem (s := 40) (by decide)) rfl (lt_b rfl) rfl ?_
    obtain ⟨r15, hr16, hf⟩ := am_bind hf
    refine r_callV (as := [vR (85, 0, 0), vR (48, 0, 0)]) (st := []) (n := 2) mw_X10_438 mv_X10_copy (C_X10_copy (l := l) (a := 85) (b := 48) (by decide) (by decide) rfl rfl rfl hr16) (by decide) dX10_undo_151 (kM_mem (s := 40) (by decide)) rfl rfl rfl (le_b rfl) (le_b rfl) (le_b rfl) ?_
    show X l _ _ 0 0 false _ kM 0 0 154 [some (vR (40, 0, 0))] [] (en r15)
    refine r_aload_n (x := (40, 0, 0)) dX10_undo_154 rfl ?_
    refine r_aload_n (x := (40, 0, 0)) dX10_undo_155 rfl ?_
    refine e_getr (z := some (86, 0, 0)) fw_X10_239 dX10_undo_156 (kM_mem (s := 40) (by decide)) rfl (lt_b rfl) rfl ?_
    refine r_aload_n (x := (40, 0, 0)) dX10_undo_159 rfl ?_
    refine e_getr (z := some (49, 0, 0)) fw_X10_47 dX10_undo_160 (kM_mem (s := 40) (by decide)) rfl (lt_b rfl) rfl ?_
    obtain ⟨r17, hr18, hf⟩ := am_bind hf
    refine r_callV (as := [vR (86, 0, 0), vR (49, 0, 0)]) (st := []) (n := 2) mw_X10_438 mv_X10_copy (C_X10_copy (l := l) (a := 86) (b := 49) (by decide) (by decide) rfl rfl rfl hr18) (by decide) dX10_undo_163 (kM_mem (s := 40) (by decide)) rfl rfl rfl (le_b rfl) (le_b rfl) (le_b rfl) ?_
    show X l _ _ 0 0 false _ kM 0 0 166 [some (vR (40, 0, 0))] [] (en r17)
    refine r_aload_n (x := (40, 0, 0)) dX10_undo_166 rfl ?_
    refine r_aload_n (x := (40, 0, 0)) dX10_undo_167 rfl ?_
    refine e_getr (z := some (87, 0, 0)) fw_X10_242 dX10_undo_168 (kM_mem (s := 40) (by decide)) rfl (lt_b rfl) rfl ?_
    refine r_aload_n (x := (40, 0, 0)) dX10_undo_171 rfl ?_
    refine e_getr (z := some (70, 0, 0)) fw_X10_153 dX10_undo_172 (kM_mem (s := 40) (by decide)) rfl (lt_b rfl) rfl ?_
    obtain ⟨r19, hr20, hf⟩ := am_bind hf
    refine r_callV (as := [vR (87, 0, 0), vR (70, 0, 0)]) (st := []) (n := 2) mw_X10_438 mv_X10_copy (C_X10_copy (l := l) (a := 87) (b := 70) (by decide) (by decide) rfl rfl rfl hr20) (by decide) dX10_undo_175 (kM_mem (s := 40) (by decide)) rfl rfl rfl (le_b rfl) (le_b rfl) (le_b rfl) ?_
    show X l _ _ 0 0 false _ kM 0 0 178 [some (vR (40, 0, 0))] [] (en r19)
    refine r_aload_n (x := (40, 0, 0)) dX10_undo_178 rfl ?_
    refine r_aload_n (x := (40, 0, 0)) dX10_undo_179 rfl ?_
    refine e_getr (z := some (88, 0, 0)) fw_X10_245 dX10_undo_180 (kM_mem (s := 40) (by decide)) rfl (lt_b rfl) rfl ?_
    refine r_aload_n (x := (40, 0, 0)) dX10_undo_183 rfl ?_
    refine e_getr (z := some (71, 0, 0)) fw_X10_156 dX10_undo_184 (kM_mem (s := 40) (by decide)) rfl (lt_b rfl) rfl ?_
    obtain ⟨r21, hr22, hf⟩ := am_bind hf
    refine r_callV (as := [vR (88, 0, 0), vR (71, 0, 0)]) (st := []) (n := 2) mw_X10_438 mv_X10_copy (C_X10_copy (l := l) (a := 88) (b := 71) (by decide) (by decide) rfl rfl rfl hr22) (by decide) dX10_undo_187 (kM_mem (s := 40) (by decide)) rfl rfl rfl (le_b rfl) (le_b rfl) (le_b rfl) ?_
    show X l _ _ 0 0 false _ kM 0 0 190 [some (vR (40, 0, 0))] [] (en r21)
    refine r_aload_n (x := (40, 0, 0)) dX10_undo_190 rfl ?_
    refine e_geti fw_X10_16 dX10_undo_191 (kM_mem (s := 40) (by decide)) rfl (lt_b rfl) ?_
    have hx := am_inj hf
    subst hx
    exact r_iret dX10_undo_194 rfl rfl (le_b rfl) (le_b rfl)
  · have hf := (am_if hf).1 hc
    refine r_bipush (v := -3) dX10_undo_7 rfl ?_
    have hx := am_inj hf
    subst hx
    exact r_iret dX10_undo_9 rfl rfl (le_b rfl) (le_b rfl)
/-! FireFromFireModel.body -/
theorem dX10_body_0 : decode cX10_body 0 = .ok (.aload_n 0, 1) := by decide +kernel
theorem dX10_body_1 : decode cX10_body 1 = .ok (.getfield 248, 3) := by decide +kernel
theorem dX10_body_4 : decode cX10_body 4 = .ok (.bipush 20, 2) := by decide +kernel
theorem dX10_body_6 : decode cX10_body 6 = .ok (.if_icmp .ge 13, 3) := by decide +kernel
theorem dX10_body_9 : decode cX10_body 9 = .ok (.aload_n 0, 1) := by decide +kernel
theorem dX10_body_10 : decode cX10_body 10 = .ok (.getfield 251, 3) := by decide +kernel
theorem dX10_body_13 : decode cX10_body 13 = .ok (.aload_n 0, 1) := by decide +kernel
theorem dX10_body_14 : decode cX10_body 14 = .ok (.getfield 248, 3) := by decide +kernel
theorem dX10_body_17 : decode cX10_body 17 = .ok (.iload_n 1, 1) := by decide +kernel
theorem dX10_body_18 : decode cX10_body 18 = .ok (.iastore, 1) := by decide +kernel
theorem dX10_body_19 : decode cX10_body 19 = .ok (.aload_n 0, 1) := by decide +kernel
theorem dX10_body_20 : decode cX10_body 20 = .ok (.dup, 1) := by decide +kernel
theorem dX10_body_21 : decode cX10_body 21 = .ok (.getfield 248, 3) := by decide +kernel
theorem dX10_body_24 : decode cX10_body 24 = .ok (.iconst 1, 1) := by decide +kernel
theorem dX10_body_25 : decode cX10_body 25 = .ok (.iadd, 1) := by decide +kernel
theorem dX10_body_26 : decode cX10_body 26 = .ok (.putfield 248, 3) := by decide +kernel
theorem dX10_body_29 : decode cX10_body 29 = .ok (.return_, 1) := by decide +kernel
def f_X10_body  (a0 : Int32) (u : PM) : Option (PM) :=
  if (20 : Int32) ≤ (u.1 (40, 0, 0) 78) then
    some (pi u (40, 0, 0) 78 ((u.1 (40, 0, 0) 78) + (1 : Int32)))
  else
  if (u.1 (40, 0, 0) 78) < 0 ∨ 20 ≤ (u.1 (40, 0, 0) 78).toNatClampNeg then none else
  some (pi (pi u (89, 0, 0) ((u.1 (40, 0, 0) 78).toNatClampNeg) a0) (40, 0, 0) 78 ((u.1 (40, 0, 0) 78) + (1 : Int32)))
set_option maxHeartbeats 4000000 in
set_option maxRecDepth 20000 in
theorem C_X10_body {l : Launch}  {a0 : Int32} {u : PM} {x : PM} (hf : f_X10_body a0 u = some x) : Ev l mX10_body 1 0 0 false [vR (40, 0, 0), vI a0] kM (en u) (none, kM, en x) := by
  refine Ev_of (by decide +kernel) (le_b rfl) ?_
  unfold f_X10_body at hf
  show X l mX10_body 1 0 0 false _ kM 0 0 0 [some (vR (40, 0, 0)), some (vI a0)] [] (en u)
  refine r_aload_n (x := (40, 0, 0)) dX10_body_0 rfl ?_
  refine e_geti fw_X10_248 dX10_body_1 (kM_mem (s := 40) (by decide)) rfl (lt_b rfl) ?_
  refine r_bipush (v := 20) dX10_body_4 rfl ?_
  refine r_icmp_ge (tgt := 19) dX10_body_6 (by decide) (fun hc => ?_) (fun hc => ?_)
  · have hf := (am_if hf).1 hc
    refine r_aload_n (x := (40, 0, 0)) dX10_body_19 rfl ?_
    refine r_dup dX10_body_20 rfl ?_
    refine e_geti fw_X10_248 dX10_body_21 (kM_mem (s := 40) (by decide)) rfl (lt_b rfl) ?_
    refine r_iconst (v := 1) dX10_body_24 rfl ?_
    refine r_iadd dX10_body_25 ?_
    refine e_puti fp_X10_248 dX10_body_26 (kM_mem (s := 40) (by decide)) rfl (lt_b rfl) rfl rfl rfl ?_
    have hx := am_inj hf
    subst hx
    exact r_vret dX10_body_29 rfl (le_b rfl) (le_b rfl)
  · have hf := (am_if hf).2 hc
    refine r_aload_n (x := (40, 0, 0)) dX10_body_9 rfl ?_
    refine e_getr (z := some (89, 0, 0)) fw_X10_251 dX10_body_10 (kM_mem (s := 40) (by decide)) rfl (lt_b rfl) rfl ?_
    refine r_aload_n (x := (40, 0, 0)) dX10_body_13 rfl ?_
    refine e_geti fw_X10_248 dX10_body_14 (kM_mem (s := 40) (by decide)) rfl (lt_b rfl) ?_
    refine r_iload_n (x := a0) dX10_body_17 rfl ?_
    obtain ⟨h1, hf⟩ := am_nchk hf
    refine e_iast (n := (u.1 (40, 0, 0) 78).toNatClampNeg) dX10_body_18 (kM_mem (s := 89) (by decide)) rfl h1 rfl ?_
    refine r_aload_n (x := (40, 0, 0)) dX10_body_19 rfl ?_
    refine r_dup dX10_body_20 rfl ?_
    refine e_geti_ (x := u.1 (40, 0, 0) 78) fw_X10_248 dX10_body_21 (kM_mem (s := 40) (by decide)) rfl (lt_b rfl) (by simp [pi, pl, pr, pci, pcl]) ?_
    refine r_iconst (v := 1) dX10_body_24 rfl ?_
    refine r_iadd dX10_body_25 ?_
    refine e_puti fp_X10_248 dX10_body_26 (kM_mem (s := 40) (by decide)) rfl (lt_b rfl) rfl rfl rfl ?_
    have hx := am_inj hf
    subst hx
    exact r_vret dX10_body_29 rfl (le_b rfl) (le_b rfl)
/-! FireFromFireModel.plainKeeps -/
theorem dX10_plainKeeps_0 : decode cX10_plainKeeps 0 = .ok (.aload_n 0, 1) := by decide +kernel
theorem dX10_plainKeeps_1 : decode cX10_plainKeeps 1 = .ok (.bipush 10, 2) := by decide +kernel
theorem dX10_plainKeeps_3 : decode cX10_plainKeeps 3 = .ok (.invokevirtual 442, 3) := by decide +kernel
theorem dX10_plainKeeps_6 : decode cX10_plainKeeps 6 = .ok (.iload_n 2, 1) := by decide +kernel
theorem dX10_plainKeeps_7 : decode cX10_plainKeeps 7 = .ok (.iload_n 1, 1) := by decide +kernel
theorem dX10_plainKeeps_8 : decode cX10_plainKeeps 8 = .ok (.iadd, 1) := by decide +kernel
theorem dX10_plainKeeps_9 : decode cX10_plainKeeps 9 = .ok (.ireturn, 1) := by decide +kernel
def f_X10_plainKeeps  (a0 : Int32) (a1 : Int32) (u : PM) : Option (Int32 × PM) :=
  (f_X10_body (10 : Int32) u).bind fun r1 =>
  some (a1 + a0, r1)
set_option maxHeartbeats 4000000 in
set_option maxRecDepth 20000 in
theorem C_X10_plainKeeps {l : Launch}  {a0 : Int32} {a1 : Int32} {u : PM} {x : Int32 × PM} (hf : f_X10_plainKeeps a0 a1 u = some x) : Ev l mX10_plainKeeps 2 0 0 false [vR (40, 0, 0), vI a0, vI a1] kM (en u) (some (vI x.1), kM, en x.2) := by
  refine Ev_of (by decide +kernel) (le_b rfl) ?_
  unfold f_X10_plainKeeps at hf
  show X l mX10_plainKeeps 2 0 0 false _ kM 0 0 0 [some (vR (40, 0, 0)), some (vI a0), some (vI a1)] [] (en u)
  refine r_aload_n (x := (40, 0, 0)) dX10_plainKeeps_0 rfl ?_
  refine r_bipush (v := 10) dX10_plainKeeps_1 rfl ?_
  obtain ⟨r1, hr2, hf⟩ := am_bind hf
  refine r_callV (as := [vI (10 : Int32)]) (st := []) (n := 1) mw_X10_442 mv_X10_body (C_X10_body (l := l) hr2) (le_b rfl) dX10_plainKeeps_3 (kM_mem (s := 40) (by decide)) rfl rfl rfl (le_b rfl) (le_b rfl) (le_b rfl) ?_
  show X l _ _ 0 0 false _ kM 0 0 6 [some (vR (40, 0, 0)), some (vI a0), some (vI a1)] [] (en r1)
  refine r_iload_n (x := a1) dX10_plainKeeps_6 rfl ?_
  refine r_iload_n (x := a0) dX10_plainKeeps_7 rfl ?_
  refine r_iadd dX10_plainKeeps_8 ?_
  have hx := am_inj hf
  subst hx
  exact r_iret dX10_plainKeeps_9 rfl rfl (le_b rfl) (le_b rfl)
/-! FireFromFireModel.keepsAct -/
theorem dX10_keepsAct_0 : decode cX10_keepsAct 0 = .ok (.aload_n 0, 1) := by decide +kernel
theorem dX10_keepsAct_1 : decode cX10_keepsAct 1 = .ok (.getfield 26, 3) := by decide +kernel
theorem dX10_keepsAct_4 : decode cX10_keepsAct 4 = .ok (.iload_n 1, 1) := by decide +kernel
theorem dX10_keepsAct_5 : decode cX10_keepsAct 5 = .ok (.iaload, 1) := by decide +kernel
theorem dX10_keepsAct_6 : decode cX10_keepsAct 6 = .ok (.tableswitch 83 2 6 #[34, 83, 49, 34, 63], 34) := by decide +kernel
theorem dX10_keepsAct_40 : decode cX10_keepsAct 40 = .ok (.aload_n 0, 1) := by decide +kernel
theorem dX10_keepsAct_41 : decode cX10_keepsAct 41 = .ok (.bipush 30, 2) := by decide +kernel
theorem dX10_keepsAct_43 : decode cX10_keepsAct 43 = .ok (.invokevirtual 442, 3) := by decide +kernel
theorem dX10_keepsAct_46 : decode cX10_keepsAct 46 = .ok (.aload_n 0, 1) := by decide +kernel
theorem dX10_keepsAct_47 : decode cX10_keepsAct 47 = .ok (.iload_n 1, 1) := by decide +kernel
theorem dX10_keepsAct_48 : decode cX10_keepsAct 48 = .ok (.iload_n 2, 1) := by decide +kernel
theorem dX10_keepsAct_49 : decode cX10_keepsAct 49 = .ok (.iconst 3, 1) := by decide +kernel
theorem dX10_keepsAct_50 : decode cX10_keepsAct 50 = .ok (.imul, 1) := by decide +kernel
theorem dX10_keepsAct_51 : decode cX10_keepsAct 51 = .ok (.invokevirtual 445, 3) := by decide +kernel
theorem dX10_keepsAct_54 : decode cX10_keepsAct 54 = .ok (.ireturn, 1) := by decide +kernel
theorem dX10_keepsAct_55 : decode cX10_keepsAct 55 = .ok (.aload_n 0, 1) := by decide +kernel
theorem dX10_keepsAct_56 : decode cX10_keepsAct 56 = .ok (.bipush 50, 2) := by decide +kernel
theorem dX10_keepsAct_58 : decode cX10_keepsAct 58 = .ok (.invokevirtual 442, 3) := by decide +kernel
theorem dX10_keepsAct_61 : decode cX10_keepsAct 61 = .ok (.aload_n 0, 1) := by decide +kernel
theorem dX10_keepsAct_62 : decode cX10_keepsAct 62 = .ok (.iload_n 1, 1) := by decide +kernel
theorem dX10_keepsAct_63 : decode cX10_keepsAct 63 = .ok (.iload_n 2, 1) := by decide +kernel
theorem dX10_keepsAct_64 : decode cX10_keepsAct 64 = .ok (.invokevirtual 445, 3) := by decide +kernel
theorem dX10_keepsAct_67 : decode cX10_keepsAct 67 = .ok (.ineg, 1) := by decide +kernel
theorem dX10_keepsAct_68 : decode cX10_keepsAct 68 = .ok (.ireturn, 1) := by decide +kernel
theorem dX10_keepsAct_69 : decode cX10_keepsAct 69 = .ok (.aload_n 0, 1) := by decide +kernel
theorem dX10_keepsAct_70 : decode cX10_keepsAct 70 = .ok (.bipush 71, 2) := by decide +kernel
theorem dX10_keepsAct_72 : decode cX10_keepsAct 72 = .ok (.invokevirtual 442, 3) := by decide +kernel
theorem dX10_keepsAct_75 : decode cX10_keepsAct 75 = .ok (.aload_n 0, 1) := by decide +kernel
theorem dX10_keepsAct_76 : decode cX10_keepsAct 76 = .ok (.iload_n 1, 1) := by decide +kernel
theorem dX10_keepsAct_77 : decode cX10_keepsAct 77 = .ok (.iload_n 2, 1) := by decide +kernel
theorem dX10_keepsAct_78 : decode cX10_keepsAct 78 = .ok (.invokevirtual 445, 3) := by decide +kernel
theorem dX10_keepsAct_81 : decode cX10_keepsAct 81 = .ok (.aload_n 0, 1) := by decide +kernel
theorem dX10_keepsAct_82 : decode cX10_keepsAct 82 = .ok (.getfield 29, 3) := by decide +kernel
theorem dX10_keepsAct_85 : decode cX10_keepsAct 85 = .ok (.iload_n 1, 1) := by decide +kernel
theorem dX10_keepsAct_86 : decode cX10_keepsAct 86 = .ok (.iaload, 1) := by decide +kernel
theorem dX10_keepsAct_87 : decode cX10_keepsAct 87 = .ok (.ixor, 1) := by decide +kernel
theorem dX10_keepsAct_88 : decode cX10_keepsAct 88 = .ok (.ireturn, 1) := by decide +kernel
theorem dX10_keepsAct_89 : decode cX10_keepsAct 89 = .ok (.aload_n 0, 1) := by decide +kernel
theorem dX10_keepsAct_90 : decode cX10_keepsAct 90 = .ok (.iload_n 1, 1) := by decide +kernel
theorem dX10_keepsAct_91 : decode cX10_keepsAct 91 = .ok (.iload_n 2, 1) := by decide +kernel
theorem dX10_keepsAct_92 : decode cX10_keepsAct 92 = .ok (.invokevirtual 445, 3) := by decide +kernel
theorem dX10_keepsAct_95 : decode cX10_keepsAct 95 = .ok (.ireturn, 1) := by decide +kernel
def f_X10_keepsAct  (a0 : Int32) (a1 : Int32) (u : PM) : Option (Int32 × PM) :=
  if a0 < 0 ∨ 6 ≤ a0.toNatClampNeg then none else
  if (u.1 (42, 0, 0) a0.toNatClampNeg) = (2 : Int32) then
    (f_X10_body (30 : Int32) u).bind fun r2 =>
    (f_X10_plainKeeps a0 (a1 * (3 : Int32)) r2).bind fun (r4, u6) =>
    some (r4, u6)
  else if (u.1 (42, 0, 0) a0.toNatClampNeg) = (3 : Int32) then
    (f_X10_plainKeeps a0 a1 u).bind fun (r7, u9) =>
    some (r7, u9)
  else if (u.1 (42, 0, 0) a0.toNatClampNeg) = (4 : Int32) then
    (f_X10_body (50 : Int32) u).bind fun r10 =>
    (f_X10_plainKeeps a0 a1 r10).bind fun (r12, u14) =>
    some (-r12, u14)
  else if (u.1 (42, 0, 0) a0.toNatClampNeg) = (5 : Int32) then
    (f_X10_body (30 : Int32) u).bind fun r15 =>
    (f_X10_plainKeeps a0 (a1 * (3 : Int32)) r15).bind fun (r17, u19) =>
    some (r17, u19)
  else if (u.1 (42, 0, 0) a0.toNatClampNeg) = (6 : Int32) then
    (f_X10_body (71 : Int32) u).bind fun r20 =>
    (f_X10_plainKeeps a0 a1 r20).bind fun (r22, u24) =>
    some (r22 ^^^ (u24.1 (43, 0, 0) a0.toNatClampNeg), u24)
  else 
  (f_X10_plainKeeps a0 a1 u).bind fun (r25, u27) =>
  some (r25, u27)
set_option maxHeartbeats 4000000 in
set_option maxRecDepth 20000 in
theorem C_X10_keepsAct {l : Launch}  {a0 : Int32} {a1 : Int32} {u : PM} {x : Int32 × PM} (hf : f_X10_keepsAct a0 a1 u = some x) : Ev l mX10_keepsAct 3 0 0 false [vR (40, 0, 0), vI a0, vI a1] kM (en u) (some (vI x.1), kM, en x.2) := by
  refine Ev_of (by decide +kernel) (le_b rfl) ?_
  unfold f_X10_keepsAct at hf
  show X l mX10_keepsAct 3 0 0 false _ kM 0 0 0 [some (vR (40, 0, 0)), some (vI a0), some (vI a1)] [] (en u)
  refine r_aload_n (x := (40, 0, 0)) dX10_keepsAct_0 rfl ?_
  refine e_getr (z := some (42, 0, 0)) fw_X10_26 dX10_keepsAct_1 (kM_mem (s := 40) (by decide)) rfl (lt_b rfl) rfl ?_
  refine r_iload_n (x := a0) dX10_keepsAct_4 rfl ?_
  obtain ⟨h1, hf⟩ := am_nchk hf
  refine e_iald (n := a0.toNatClampNeg) dX10_keepsAct_5 (kM_mem (s := 42) (by decide)) rfl h1 rfl rfl ?_
  by_cases hs0 : (u.1 (42, 0, 0) a0.toNatClampNeg) = (2 : Int32)
  · have hf := (am_if hf).1 hs0
    refine r_tswIn (x := u.1 (42, 0, 0) a0.toNatClampNeg) (kx := 2) (tgt := 40) dX10_keepsAct_6 hs0 (by decide) (by decide) rfl (by decide) ?_
    refine r_aload_n (x := (40, 0, 0)) dX10_keepsAct_40 rfl ?_
    refine r_bipush (v := 30) dX10_keepsAct_41 rfl ?_
    obtain ⟨r2, hr3, hf⟩ := am_bind hf
    refine r_callV (as := [vI (30 : Int32)]) (st := []) (n := 1) mw_X10_442 mv_X10_body (C_X10_body (l := l) hr3) (le_b rfl) dX10_keepsAct_43 (kM_mem (s := 40) (by decide)) rfl rfl rfl (le_b rfl) (le_b rfl) (le_b rfl) ?_
    show X l _ _ 0 0 false _ kM 0 0 46 [some (vR (40, 0, 0)), some (vI a0), some (vI a1)] [] (en r2)
    refine r_aload_n (x := (40, 0, 0)) dX10_keepsAct_46 rfl ?_
    refine r_iload_n (x := a0) dX10_keepsAct_47 rfl ?_
    refine r_iload_n (x := a1) dX10_keepsAct_48 rfl ?_
    refine r_iconst (v := 3) dX10_keepsAct_49 rfl ?_
    refine r_imul dX10_keepsAct_50 ?_
    obtain ⟨⟨r4, u6⟩, hr5, hf⟩ := am_bind hf
    refine r_callV (as := [vI a0, vI (a1 * (3 : Int32))]) (st := []) (n := 2) mw_X10_445 mv_X10_plainKeeps (C_X10_plainKeeps (l := l) hr5) (le_b rfl) dX10_keepsAct_51 (kM_mem (s := 40) (by decide)) rfl rfl rfl (le_b rfl) (le_b rfl) (le_b rfl) ?_
    show X l _ _ 0 0 false _ kM 0 0 54 [some (vR (40, 0, 0)), some (vI a0), some (vI a1)] [vI r4] (en u6)
    have hx := am_inj hf
    subst hx
    exact r_iret dX10_keepsAct_54 rfl rfl (le_b rfl) (le_b rfl)
  have hf := (am_if hf).2 hs0
  by_cases hs1 : (u.1 (42, 0, 0) a0.toNatClampNeg) = (3 : Int32)
  · have hf := (am_if hf).1 hs1
    refine r_tswIn (x := u.1 (42, 0, 0) a0.toNatClampNeg) (kx := 3) (tgt := 89) dX10_keepsAct_6 hs1 (by decide) (by decide) rfl (by decide) ?_
    refine r_aload_n (x := (40, 0, 0)) dX10_keepsAct_89 rfl ?_
    refine r_iload_n (x := a0) dX10_keepsAct_90 rfl ?_
    refine r_iload_n (x := a1) dX10_keepsAct_91 rfl ?_
    obtain ⟨⟨r7, u9⟩, hr8, hf⟩ := am_bind hf
    refine r_callV (as := [vI a0, vI a1]) (st := []) (n := 2) mw_X10_445 mv_X10_plainKeeps (C_X10_plainKeeps (l := l) hr8) (le_b rfl) dX10_keepsAct_92 (kM_mem (s := 40) (by decide)) rfl rfl rfl (le_b rfl) (le_b rfl) (le_b rfl) ?_
    show X l _ _ 0 0 false _ kM 0 0 95 [some (vR (40, 0, 0)), some (vI a0), some (vI a1)] [vI r7] (en u9)
    have hx := am_inj hf
    subst hx
    exact r_iret dX10_keepsAct_95 rfl rfl (le_b rfl) (le_b rfl)
  have hf := (am_if hf).2 hs1
  by_cases hs2 : (u.1 (42, 0, 0) a0.toNatClampNeg) = (4 : Int32)
  · have hf := (am_if hf).1 hs2
    refine r_tswIn (x := u.1 (42, 0, 0) a0.toNatClampNeg) (kx := 4) (tgt := 55) dX10_keepsAct_6 hs2 (by decide) (by decide) rfl (by decide) ?_
    refine r_aload_n (x := (40, 0, 0)) dX10_keepsAct_55 rfl ?_
    refine r_bipush (v := 50) dX10_keepsAct_56 rfl ?_
    obtain ⟨r10, hr11, hf⟩ := am_bind hf
    refine r_callV (as := [vI (50 : Int32)]) (st := []) (n := 1) mw_X10_442 mv_X10_body (C_X10_body (l := l) hr11) (le_b rfl) dX10_keepsAct_58 (kM_mem (s := 40) (by decide)) rfl rfl rfl (le_b rfl) (le_b rfl) (le_b rfl) ?_
    show X l _ _ 0 0 false _ kM 0 0 61 [some (vR (40, 0, 0)), some (vI a0), some (vI a1)] [] (en r10)
    refine r_aload_n (x := (40, 0, 0)) dX10_keepsAct_61 rfl ?_
    refine r_iload_n (x := a0) dX10_keepsAct_62 rfl ?_
    refine r_iload_n (x := a1) dX10_keepsAct_63 rfl ?_
    obtain ⟨⟨r12, u14⟩, hr13, hf⟩ := am_bind hf
    refine r_callV (as := [vI a0, vI a1]) (st := []) (n := 2) mw_X10_445 mv_X10_plainKeeps (C_X10_plainKeeps (l := l) hr13) (le_b rfl) dX10_keepsAct_64 (kM_mem (s := 40) (by decide)) rfl rfl rfl (le_b rfl) (le_b rfl) (le_b rfl) ?_
    show X l _ _ 0 0 false _ kM 0 0 67 [some (vR (40, 0, 0)), some (vI a0), some (vI a1)] [vI r12] (en u14)
    refine r_ineg dX10_keepsAct_67 ?_
    have hx := am_inj hf
    subst hx
    exact r_iret dX10_keepsAct_68 rfl rfl (le_b rfl) (le_b rfl)
  have hf := (am_if hf).2 hs2
  by_cases hs3 : (u.1 (42, 0, 0) a0.toNatClampNeg) = (5 : Int32)
  · have hf := (am_if hf).1 hs3
    refine r_tswIn (x := u.1 (42, 0, 0) a0.toNatClampNeg) (kx := 5) (tgt := 40) dX10_keepsAct_6 hs3 (by decide) (by decide) rfl (by decide) ?_
    refine r_aload_n (x := (40, 0, 0)) dX10_keepsAct_40 rfl ?_
    refine r_bipush (v := 30) dX10_keepsAct_41 rfl ?_
    obtain ⟨r15, hr16, hf⟩ := am_bind hf
    refine r_callV (as := [vI (30 : Int32)]) (st := []) (n := 1) mw_X10_442 mv_X10_body (C_X10_body (l := l) hr16) (le_b rfl) dX10_keepsAct_43 (kM_mem (s := 40) (by decide)) rfl rfl rfl (le_b rfl) (le_b rfl) (le_b rfl) ?_
    show X l _ _ 0 0 false _ kM 0 0 46 [some (vR (40, 0, 0)), some (vI a0), some (vI a1)] [] (en r15)
    refine r_aload_n (x := (40, 0, 0)) dX10_keepsAct_46 rfl ?_
    refine r_iload_n (x := a0) dX10_keepsAct_47 rfl ?_
    refine r_iload_n (x := a1) dX10_keepsAct_48 rfl ?_
    refine r_iconst (v := 3) dX10_keepsAct_49 rfl ?_
    refine r_imul dX10_keepsAct_50 ?_
    obtain ⟨⟨r17, u19⟩, hr18, hf⟩ := am_bind hf
    refine r_callV (as := [vI a0, vI (a1 * (3 : Int32))]) (st := []) (n := 2) mw_X10_445 mv_X10_plainKeeps (C_X10_plainKeeps (l := l) hr18) (le_b rfl) dX10_keepsAct_51 (kM_mem (s := 40) (by decide)) rfl rfl rfl (le_b rfl) (le_b rfl) (le_b rfl) ?_
    show X l _ _ 0 0 false _ kM 0 0 54 [some (vR (40, 0, 0)), some (vI a0), some (vI a1)] [vI r17] (en u19)
    have hx := am_inj hf
    subst hx
    exact r_iret dX10_keepsAct_54 rfl rfl (le_b rfl) (le_b rfl)
  have hf := (am_if hf).2 hs3
  by_cases hs4 : (u.1 (42, 0, 0) a0.toNatClampNeg) = (6 : Int32)
  · have hf := (am_if hf).1 hs4
    refine r_tswIn (x := u.1 (42, 0, 0) a0.toNatClampNeg) (kx := 6) (tgt := 69) dX10_keepsAct_6 hs4 (by decide) (by decide) rfl (by decide) ?_
    refine r_aload_n (x := (40, 0, 0)) dX10_keepsAct_69 rfl ?_
    refine r_bipush (v := 71) dX10_keepsAct_70 rfl ?_
    obtain ⟨r20, hr21, hf⟩ := am_bind hf
    refine r_callV (as := [vI (71 : Int32)]) (st := []) (n := 1) mw_X10_442 mv_X10_body (C_X10_body (l := l) hr21) (le_b rfl) dX10_keepsAct_72 (kM_mem (s := 40) (by decide)) rfl rfl rfl (le_b rfl) (le_b rfl) (le_b rfl) ?_
    show X l _ _ 0 0 false _ kM 0 0 75 [some (vR (40, 0, 0)), some (vI a0), some (vI a1)] [] (en r20)
    refine r_aload_n (x := (40, 0, 0)) dX10_keepsAct_75 rfl ?_
    refine r_iload_n (x := a0) dX10_keepsAct_76 rfl ?_
    refine r_iload_n (x := a1) dX10_keepsAct_77 rfl ?_
    obtain ⟨⟨r22, u24⟩, hr23, hf⟩ := am_bind hf
    refine r_callV (as := [vI a0, vI a1]) (st := []) (n := 2) mw_X10_445 mv_X10_plainKeeps (C_X10_plainKeeps (l := l) hr23) (le_b rfl) dX10_keepsAct_78 (kM_mem (s := 40) (by decide)) rfl rfl rfl (le_b rfl) (le_b rfl) (le_b rfl) ?_
    show X l _ _ 0 0 false _ kM 0 0 81 [some (vR (40, 0, 0)), some (vI a0), some (vI a1)] [vI r22] (en u24)
    refine r_aload_n (x := (40, 0, 0)) dX10_keepsAct_81 rfl ?_
    refine e_getr (z := some (43, 0, 0)) fw_X10_29 dX10_keepsAct_82 (kM_mem (s := 40) (by decide)) rfl (lt_b rfl) rfl ?_
    refine r_iload_n (x := a0) dX10_keepsAct_85 rfl ?_
    refine e_iald (n := a0.toNatClampNeg) dX10_keepsAct_86 (kM_mem (s := 43) (by decide)) rfl h1 rfl rfl ?_
    refine r_ixor dX10_keepsAct_87 ?_
    have hx := am_inj hf
    subst hx
    exact r_iret dX10_keepsAct_88 rfl rfl (le_b rfl) (le_b rfl)
  have hf := (am_if hf).2 hs4
  refine r_tswOut (x := u.1 (42, 0, 0) a0.toNatClampNeg) (tgt := 89) dX10_keepsAct_6 (by have ehs0 := am_neI hs0 (z := 2) rfl; have ehs1 := am_neI hs1 (z := 3) rfl; have ehs2 := am_neI hs2 (z := 4) rfl; have ehs3 := am_neI hs3 (z := 5) rfl; have ehs4 := am_neI hs4 (z := 6) rfl; omega) (by decide) ?_
  refine r_aload_n (x := (40, 0, 0)) dX10_keepsAct_89 rfl ?_
  refine r_iload_n (x := a0) dX10_keepsAct_90 rfl ?_
  refine r_iload_n (x := a1) dX10_keepsAct_91 rfl ?_
  obtain ⟨⟨r25, u27⟩, hr26, hf⟩ := am_bind hf
  refine r_callV (as := [vI a0, vI a1]) (st := []) (n := 2) mw_X10_445 mv_X10_plainKeeps (C_X10_plainKeeps (l := l) hr26) (le_b rfl) dX10_keepsAct_92 (kM_mem (s := 40) (by decide)) rfl rfl rfl (le_b rfl) (le_b rfl) (le_b rfl) ?_
  show X l _ _ 0 0 false _ kM 0 0 95 [some (vR (40, 0, 0)), some (vI a0), some (vI a1)] [vI r25] (en u27)
  have hx := am_inj hf
  subst hx
  exact r_iret dX10_keepsAct_95 rfl rfl (le_b rfl) (le_b rfl)
/-! FireFromFireModel.plainSends -/
theorem dX10_plainSends_0 : decode cX10_plainSends 0 = .ok (.aload_n 0, 1) := by decide +kernel
theorem dX10_plainSends_1 : decode cX10_plainSends 1 = .ok (.bipush 11, 2) := by decide +kernel
theorem dX10_plainSends_3 : decode cX10_plainSends 3 = .ok (.invokevirtual 442, 3) := by decide +kernel
theorem dX10_plainSends_6 : decode cX10_plainSends 6 = .ok (.aload_n 0, 1) := by decide +kernel
theorem dX10_plainSends_7 : decode cX10_plainSends 7 = .ok (.iload_n 1, 1) := by decide +kernel
theorem dX10_plainSends_8 : decode cX10_plainSends 8 = .ok (.iload_n 2, 1) := by decide +kernel
theorem dX10_plainSends_9 : decode cX10_plainSends 9 = .ok (.invokevirtual 448, 3) := by decide +kernel
theorem dX10_plainSends_12 : decode cX10_plainSends 12 = .ok (.aload_n 0, 1) := by decide +kernel
theorem dX10_plainSends_13 : decode cX10_plainSends 13 = .ok (.getfield 29, 3) := by decide +kernel
theorem dX10_plainSends_16 : decode cX10_plainSends 16 = .ok (.iload_n 1, 1) := by decide +kernel
theorem dX10_plainSends_17 : decode cX10_plainSends 17 = .ok (.iaload, 1) := by decide +kernel
theorem dX10_plainSends_18 : decode cX10_plainSends 18 = .ok (.isub, 1) := by decide +kernel
theorem dX10_plainSends_19 : decode cX10_plainSends 19 = .ok (.ireturn, 1) := by decide +kernel
def f_X10_plainSends  (a0 : Int32) (a1 : Int32) (u : PM) : Option (Int32 × PM) :=
  (f_X10_body (11 : Int32) u).bind fun r1 =>
  (f_X10_keepsAct a0 a1 r1).bind fun (r3, u5) =>
  if a0 < 0 ∨ 6 ≤ a0.toNatClampNeg then none else
  some (r3 - (u5.1 (43, 0, 0) a0.toNatClampNeg), u5)
set_option maxHeartbeats 4000000 in
set_option maxRecDepth 20000 in
theorem C_X10_plainSends {l : Launch}  {a0 : Int32} {a1 : Int32} {u : PM} {x : Int32 × PM} (hf : f_X10_plainSends a0 a1 u = some x) : Ev l mX10_plainSends 4 0 0 false [vR (40, 0, 0), vI a0, vI a1] kM (en u) (some (vI x.1), kM, en x.2) := by
  refine Ev_of (by decide +kernel) (le_b rfl) ?_
  unfold f_X10_plainSends at hf
  show X l mX10_plainSends 4 0 0 false _ kM 0 0 0 [some (vR (40, 0, 0)), some (vI a0), some (vI a1)] [] (en u)
  refine r_aload_n (x := (40, 0, 0)) dX10_plainSends_0 rfl ?_
  refine r_bipush (v := 11) dX10_plainSends_1 rfl ?_
  obtain ⟨r1, hr2, hf⟩ := am_bind hf
  refine r_callV (as := [vI (11 : Int32)]) (st := []) (n := 1) mw_X10_442 mv_X10_body (C_X10_body (l := l) hr2) (le_b rfl) dX10_plainSends_3 (kM_mem (s := 40) (by decide)) rfl rfl rfl (le_b rfl) (le_b rfl) (le_b rfl) ?_
  show X l _ _ 0 0 false _ kM 0 0 6 [some (vR (40, 0, 0)), some (vI a0), some (vI a1)] [] (en r1)
  refine r_aload_n (x := (40, 0, 0)) dX10_plainSends_6 rfl ?_
  refine r_iload_n (x := a0) dX10_plainSends_7 rfl ?_
  refine r_iload_n (x := a1) dX10_plainSends_8 rfl ?_
  obtain ⟨⟨r3, u5⟩, hr4, hf⟩ := am_bind hf
  refine r_callV (as := [vI a0, vI a1]) (st := []) (n := 2) mw_X10_448 mv_X10_keepsAct (C_X10_keepsAct (l := l) hr4) (le_b rfl) dX10_plainSends_9 (kM_mem (s := 40) (by decide)) rfl rfl rfl (le_b rfl) (le_b rfl) (le_b rfl) ?_
  show X l _ _ 0 0 false _ kM 0 0 12 [some (vR (40, 0, 0)), some (vI a0), some (vI a1)] [vI r3] (en u5)
  refine r_aload_n (x := (40, 0, 0)) dX10_plainSends_12 rfl ?_
  refine e_getr (z := some (43, 0, 0)) fw_X10_29 dX10_plainSends_13 (kM_mem (s := 40) (by decide)) rfl (lt_b rfl) rfl ?_
  refine r_iload_n (x := a0) dX10_plainSends_16 rfl ?_
  obtain ⟨h6, hf⟩ := am_nchk hf
  refine e_iald (n := a0.toNatClampNeg) dX10_plainSends_17 (kM_mem (s := 43) (by decide)) rfl h6 rfl rfl ?_
  refine r_isub dX10_plainSends_18 ?_
  have hx := am_inj hf
  subst hx
  exact r_iret dX10_plainSends_19 rfl rfl (le_b rfl) (le_b rfl)
/-! FireFromFireModel.eachSends -/
theorem dX10_eachSends_0 : decode cX10_eachSends 0 = .ok (.aload_n 0, 1) := by decide +kernel
theorem dX10_eachSends_1 : decode cX10_eachSends 1 = .ok (.bipush 20, 2) := by decide +kernel
theorem dX10_eachSends_3 : decode cX10_eachSends 3 = .ok (.invokevirtual 442, 3) := by decide +kernel
theorem dX10_eachSends_6 : decode cX10_eachSends 6 = .ok (.aload_n 0, 1) := by decide +kernel
theorem dX10_eachSends_7 : decode cX10_eachSends 7 = .ok (.iload_n 1, 1) := by decide +kernel
theorem dX10_eachSends_8 : decode cX10_eachSends 8 = .ok (.iload_n 2, 1) := by decide +kernel
theorem dX10_eachSends_9 : decode cX10_eachSends 9 = .ok (.invokevirtual 451, 3) := by decide +kernel
theorem dX10_eachSends_12 : decode cX10_eachSends 12 = .ok (.bipush 6, 2) := by decide +kernel
theorem dX10_eachSends_14 : decode cX10_eachSends 14 = .ok (.ixor, 1) := by decide +kernel
theorem dX10_eachSends_15 : decode cX10_eachSends 15 = .ok (.ireturn, 1) := by decide +kernel
def f_X10_eachSends  (a0 : Int32) (a1 : Int32) (u : PM) : Option (Int32 × PM) :=
  (f_X10_body (20 : Int32) u).bind fun r1 =>
  (f_X10_plainSends a0 a1 r1).bind fun (r3, u5) =>
  some (r3 ^^^ (6 : Int32), u5)
set_option maxHeartbeats 4000000 in
set_option maxRecDepth 20000 in
theorem C_X10_eachSends {l : Launch}  {a0 : Int32} {a1 : Int32} {u : PM} {x : Int32 × PM} (hf : f_X10_eachSends a0 a1 u = some x) : Ev l mX10_eachSends 5 0 0 false [vR (40, 0, 0), vI a0, vI a1] kM (en u) (some (vI x.1), kM, en x.2) := by
  refine Ev_of (by decide +kernel) (le_b rfl) ?_
  unfold f_X10_eachSends at hf
  show X l mX10_eachSends 5 0 0 false _ kM 0 0 0 [some (vR (40, 0, 0)), some (vI a0), some (vI a1)] [] (en u)
  refine r_aload_n (x := (40, 0, 0)) dX10_eachSends_0 rfl ?_
  refine r_bipush (v := 20) dX10_eachSends_1 rfl ?_
  obtain ⟨r1, hr2, hf⟩ := am_bind hf
  refine r_callV (as := [vI (20 : Int32)]) (st := []) (n := 1) mw_X10_442 mv_X10_body (C_X10_body (l := l) hr2) (le_b rfl) dX10_eachSends_3 (kM_mem (s := 40) (by decide)) rfl rfl rfl (le_b rfl) (le_b rfl) (le_b rfl) ?_
  show X l _ _ 0 0 false _ kM 0 0 6 [some (vR (40, 0, 0)), some (vI a0), some (vI a1)] [] (en r1)
  refine r_aload_n (x := (40, 0, 0)) dX10_eachSends_6 rfl ?_
  refine r_iload_n (x := a0) dX10_eachSends_7 rfl ?_
  refine r_iload_n (x := a1) dX10_eachSends_8 rfl ?_
  obtain ⟨⟨r3, u5⟩, hr4, hf⟩ := am_bind hf
  refine r_callV (as := [vI a0, vI a1]) (st := []) (n := 2) mw_X10_451 mv_X10_plainSends (C_X10_plainSends (l := l) hr4) (le_b rfl) dX10_eachSends_9 (kM_mem (s := 40) (by decide)) rfl rfl rfl (le_b rfl) (le_b rfl) (le_b rfl) ?_
  show X l _ _ 0 0 false _ kM 0 0 12 [some (vR (40, 0, 0)), some (vI a0), some (vI a1)] [vI r3] (en u5)
  refine r_bipush (v := 6) dX10_eachSends_12 rfl ?_
  refine r_ixor dX10_eachSends_14 ?_
  have hx := am_inj hf
  subst hx
  exact r_iret dX10_eachSends_15 rfl rfl (le_b rfl) (le_b rfl)
/-! FireFromFireModel.sendsAct -/
theorem dX10_sendsAct_0 : decode cX10_sendsAct 0 = .ok (.aload_n 0, 1) := by decide +kernel
theorem dX10_sendsAct_1 : decode cX10_sendsAct 1 = .ok (.getfield 26, 3) := by decide +kernel
theorem dX10_sendsAct_4 : decode cX10_sendsAct 4 = .ok (.iload_n 1, 1) := by decide +kernel
theorem dX10_sendsAct_5 : decode cX10_sendsAct 5 = .ok (.iaload, 1) := by decide +kernel
theorem dX10_sendsAct_6 : decode cX10_sendsAct 6 = .ok (.lookupswitch 78 #[(1, 34), (4, 41), (6, 56)], 34) := by decide +kernel
theorem dX10_sendsAct_40 : decode cX10_sendsAct 40 = .ok (.aload_n 0, 1) := by decide +kernel
theorem dX10_sendsAct_41 : decode cX10_sendsAct 41 = .ok (.iload_n 1, 1) := by decide +kernel
theorem dX10_sendsAct_42 : decode cX10_sendsAct 42 = .ok (.iload_n 2, 1) := by decide +kernel
theorem dX10_sendsAct_43 : decode cX10_sendsAct 43 = .ok (.invokevirtual 454, 3) := by decide +kernel
theorem dX10_sendsAct_46 : decode cX10_sendsAct 46 = .ok (.ireturn, 1) := by decide +kernel
theorem dX10_sendsAct_47 : decode cX10_sendsAct 47 = .ok (.aload_n 0, 1) := by decide +kernel
theorem dX10_sendsAct_48 : decode cX10_sendsAct 48 = .ok (.bipush 51, 2) := by decide +kernel
theorem dX10_sendsAct_50 : decode cX10_sendsAct 50 = .ok (.invokevirtual 442, 3) := by decide +kernel
theorem dX10_sendsAct_53 : decode cX10_sendsAct 53 = .ok (.aload_n 0, 1) := by decide +kernel
theorem dX10_sendsAct_54 : decode cX10_sendsAct 54 = .ok (.iload_n 1, 1) := by decide +kernel
theorem dX10_sendsAct_55 : decode cX10_sendsAct 55 = .ok (.iload_n 2, 1) := by decide +kernel
theorem dX10_sendsAct_56 : decode cX10_sendsAct 56 = .ok (.iconst 1, 1) := by decide +kernel
theorem dX10_sendsAct_57 : decode cX10_sendsAct 57 = .ok (.iadd, 1) := by decide +kernel
theorem dX10_sendsAct_58 : decode cX10_sendsAct 58 = .ok (.invokevirtual 454, 3) := by decide +kernel
theorem dX10_sendsAct_61 : decode cX10_sendsAct 61 = .ok (.ireturn, 1) := by decide +kernel
theorem dX10_sendsAct_62 : decode cX10_sendsAct 62 = .ok (.aload_n 0, 1) := by decide +kernel
theorem dX10_sendsAct_63 : decode cX10_sendsAct 63 = .ok (.bipush 70, 2) := by decide +kernel
theorem dX10_sendsAct_65 : decode cX10_sendsAct 65 = .ok (.invokevirtual 442, 3) := by decide +kernel
theorem dX10_sendsAct_68 : decode cX10_sendsAct 68 = .ok (.aload_n 0, 1) := by decide +kernel
theorem dX10_sendsAct_69 : decode cX10_sendsAct 69 = .ok (.iload_n 1, 1) := by decide +kernel
theorem dX10_sendsAct_70 : decode cX10_sendsAct 70 = .ok (.iload_n 2, 1) := by decide +kernel
theorem dX10_sendsAct_71 : decode cX10_sendsAct 71 = .ok (.invokevirtual 451, 3) := by decide +kernel
theorem dX10_sendsAct_74 : decode cX10_sendsAct 74 = .ok (.istore_n 3, 1) := by decide +kernel
theorem dX10_sendsAct_75 : decode cX10_sendsAct 75 = .ok (.iload_n 3, 1) := by decide +kernel
theorem dX10_sendsAct_76 : decode cX10_sendsAct 76 = .ok (.aload_n 0, 1) := by decide +kernel
theorem dX10_sendsAct_77 : decode cX10_sendsAct 77 = .ok (.iload_n 1, 1) := by decide +kernel
theorem dX10_sendsAct_78 : decode cX10_sendsAct 78 = .ok (.iconst 2, 1) := by decide +kernel
theorem dX10_sendsAct_79 : decode cX10_sendsAct 79 = .ok (.invokevirtual 445, 3) := by decide +kernel
theorem dX10_sendsAct_82 : decode cX10_sendsAct 82 = .ok (.iadd, 1) := by decide +kernel
theorem dX10_sendsAct_83 : decode cX10_sendsAct 83 = .ok (.ireturn, 1) := by decide +kernel
theorem dX10_sendsAct_84 : decode cX10_sendsAct 84 = .ok (.aload_n 0, 1) := by decide +kernel
theorem dX10_sendsAct_85 : decode cX10_sendsAct 85 = .ok (.iload_n 1, 1) := by decide +kernel
theorem dX10_sendsAct_86 : decode cX10_sendsAct 86 = .ok (.iload_n 2, 1) := by decide +kernel
theorem dX10_sendsAct_87 : decode cX10_sendsAct 87 = .ok (.invokevirtual 451, 3) := by decide +kernel
theorem dX10_sendsAct_90 : decode cX10_sendsAct 90 = .ok (.ireturn, 1) := by decide +kernel
def f_X10_sendsAct  (a0 : Int32) (a1 : Int32) (u : PM) : Option (Int32 × PM) :=
  if a0 < 0 ∨ 6 ≤ a0.toNatClampNeg then none else
  if (u.1 (42, 0, 0) a0.toNatClampNeg) = (1 : Int32) then
    (f_X10_eachSends a0 a1 u).bind fun (r2, u4) =>
    some (r2, u4)
  else if (u.1 (42, 0, 0) a0.toNatClampNeg) = (4 : Int32) then
    (f_X10_body (51 : Int32) u).bind fun r5 =>
    (f_X10_eachSends a0 (a1 + (1 : Int32)) r5).bind fun (r7, u9) =>
    some (r7, u9)
  else if (u.1 (42, 0, 0) a0.toNatClampNeg) = (6 : Int32) then
    (f_X10_body (70 : Int32) u).bind fun r10 =>
    (f_X10_plainSends a0 a1 r10).bind fun (r12, u14) =>
    (f_X10_plainKeeps a0 (2 : Int32) u14).bind fun (r15, u17) =>
    some (r12 + r15, u17)
  else 
  (f_X10_plainSends a0 a1 u).bind fun (r18, u20) =>
  some (r18, u20)
set_option maxHeartbeats 4000000 in
set_option maxRecDepth 20000 in
theorem C_X10_sendsAct {l : Launch}  {a0 : Int32} {a1 : Int32} {u : PM} {x : Int32 × PM} (hf : f_X10_sendsAct a0 a1 u = some x) : Ev l mX10_sendsAct 6 0 0 false [vR (40, 0, 0), vI a0, vI a1] kM (en u) (some (vI x.1), kM, en x.2) := by
  refine Ev_of (by decide +kernel) (le_b rfl) ?_
  unfold f_X10_sendsAct at hf
  show X l mX10_sendsAct 6 0 0 false _ kM 0 0 0 [some (vR (40, 0, 0)), some (vI a0), some (vI a1), none] [] (en u)
  refine r_aload_n (x := (40, 0, 0)) dX10_sendsAct_0 rfl ?_
  refine e_getr (z := some (42, 0, 0)) fw_X10_26 dX10_sendsAct_1 (kM_mem (s := 40) (by decide)) rfl (lt_b rfl) rfl ?_
  refine r_iload_n (x := a0) dX10_sendsAct_4 rfl ?_
  obtain ⟨h1, hf⟩ := am_nchk hf
  refine e_iald (n := a0.toNatClampNeg) dX10_sendsAct_5 (kM_mem (s := 42) (by decide)) rfl h1 rfl rfl ?_
  by_cases hs0 : (u.1 (42, 0, 0) a0.toNatClampNeg) = (1 : Int32)
  · have hf := (am_if hf).1 hs0
    refine r_lookup (x := u.1 (42, 0, 0) a0.toNatClampNeg) (tgt := 40) (off := 34) dX10_sendsAct_6 (by decide) (by rw [hs0]; rfl) (by decide) ?_
    refine r_aload_n (x := (40, 0, 0)) dX10_sendsAct_40 rfl ?_
    refine r_iload_n (x := a0) dX10_sendsAct_41 rfl ?_
    refine r_iload_n (x := a1) dX10_sendsAct_42 rfl ?_
    obtain ⟨⟨r2, u4⟩, hr3, hf⟩ := am_bind hf
    refine r_callV (as := [vI a0, vI a1]) (st := []) (n := 2) mw_X10_454 mv_X10_eachSends (C_X10_eachSends (l := l) hr3) (le_b rfl) dX10_sendsAct_43 (kM_mem (s := 40) (by decide)) rfl rfl rfl (le_b rfl) (le_b rfl) (le_b rfl) ?_
    show X l _ _ 0 0 false _ kM 0 0 46 [some (vR (40, 0, 0)), some (vI a0), some (vI a1), none] [vI r2] (en u4)
    have hx := am_inj hf
    subst hx
    exact r_iret dX10_sendsAct_46 rfl rfl (le_b rfl) (le_b rfl)
  have hf := (am_if hf).2 hs0
  by_cases hs1 : (u.1 (42, 0, 0) a0.toNatClampNeg) = (4 : Int32)
  · have hf := (am_if hf).1 hs1
    refine r_lookup (x := u.1 (42, 0, 0) a0.toNatClampNeg) (tgt := 47) (off := 41) dX10_sendsAct_6 (by decide) (by rw [hs1]; rfl) (by decide) ?_
    refine r_aload_n (x := (40, 0, 0)) dX10_sendsAct_47 rfl ?_
    refine r_bipush (v := 51) dX10_sendsAct_48 rfl ?_
    obtain ⟨r5, hr6, hf⟩ := am_bind hf
    refine r_callV (as := [vI (51 : Int32)]) (st := []) (n := 1) mw_X10_442 mv_X10_body (C_X10_body (l := l) hr6) (le_b rfl) dX10_sendsAct_50 (kM_mem (s := 40) (by decide)) rfl rfl rfl (le_b rfl) (le_b rfl) (le_b rfl) ?_
    show X l _ _ 0 0 false _ kM 0 0 53 [some (vR (40, 0, 0)), some (vI a0), some (vI a1), none] [] (en r5)
    refine r_aload_n (x := (40, 0, 0)) dX10_sendsAct_53 rfl ?_
    refine r_iload_n (x := a0) dX10_sendsAct_54 rfl ?_
    refine r_iload_n (x := a1) dX10_sendsAct_55 rfl ?_
    refine r_iconst (v := 1) dX10_sendsAct_56 rfl ?_
    refine r_iadd dX10_sendsAct_57 ?_
    obtain ⟨⟨r7, u9⟩, hr8, hf⟩ := am_bind hf
    refine r_callV (as := [vI a0, vI (a1 + (1 : Int32))]) (st := []) (n := 2) mw_X10_454 mv_X10_eachSends (C_X10_eachSends (l := l) hr8) (le_b rfl) dX10_sendsAct_58 (kM_mem (s := 40) (by decide)) rfl rfl rfl (le_b rfl) (le_b rfl) (le_b rfl) ?_
    show X l _ _ 0 0 false _ kM 0 0 61 [some (vR (40, 0, 0)), some (vI a0), some (vI a1), none] [vI r7] (en u9)
    have hx := am_inj hf
    subst hx
    exact r_iret dX10_sendsAct_61 rfl rfl (le_b rfl) (le_b rfl)
  have hf := (am_if hf).2 hs1
  by_cases hs2 : (u.1 (42, 0, 0) a0.toNatClampNeg) = (6 : Int32)
  · have hf := (am_if hf).1 hs2
    refine r_lookup (x := u.1 (42, 0, 0) a0.toNatClampNeg) (tgt := 62) (off := 56) dX10_sendsAct_6 (by decide) (by rw [hs2]; rfl) (by decide) ?_
    refine r_aload_n (x := (40, 0, 0)) dX10_sendsAct_62 rfl ?_
    refine r_bipush (v := 70) dX10_sendsAct_63 rfl ?_
    obtain ⟨r10, hr11, hf⟩ := am_bind hf
    refine r_callV (as := [vI (70 : Int32)]) (st := []) (n := 1) mw_X10_442 mv_X10_body (C_X10_body (l := l) hr11) (le_b rfl) dX10_sendsAct_65 (kM_mem (s := 40) (by decide)) rfl rfl rfl (le_b rfl) (le_b rfl) (le_b rfl) ?_
    show X l _ _ 0 0 false _ kM 0 0 68 [some (vR (40, 0, 0)), some (vI a0), some (vI a1), none] [] (en r10)
    refine r_aload_n (x := (40, 0, 0)) dX10_sendsAct_68 rfl ?_
    refine r_iload_n (x := a0) dX10_sendsAct_69 rfl ?_
    refine r_iload_n (x := a1) dX10_sendsAct_70 rfl ?_
    obtain ⟨⟨r12, u14⟩, hr13, hf⟩ := am_bind hf
    refine r_callV (as := [vI a0, vI a1]) (st := []) (n := 2) mw_X10_451 mv_X10_plainSends (C_X10_plainSends (l := l) hr13) (le_b rfl) dX10_sendsAct_71 (kM_mem (s := 40) (by decide)) rfl rfl rfl (le_b rfl) (le_b rfl) (le_b rfl) ?_
    show X l _ _ 0 0 false _ kM 0 0 74 [some (vR (40, 0, 0)), some (vI a0), some (vI a1), none] [vI r12] (en u14)
    refine r_istore_n (L' := [some (vR (40, 0, 0)), some (vI a0), some (vI a1), some (vI r12)]) dX10_sendsAct_74 (by decide) rfl ?_
    refine r_iload_n (x := r12) dX10_sendsAct_75 rfl ?_
    refine r_aload_n (x := (40, 0, 0)) dX10_sendsAct_76 rfl ?_
    refine r_iload_n (x := a0) dX10_sendsAct_77 rfl ?_
    refine r_iconst (v := 2) dX10_sendsAct_78 rfl ?_
    obtain ⟨⟨r15, u17⟩, hr16, hf⟩ := am_bind hf
    refine r_callV (as := [vI a0, vI (2 : Int32)]) (st := [vI r12]) (n := 2) mw_X10_445 mv_X10_plainKeeps (C_X10_plainKeeps (l := l) hr16) (le_b rfl) dX10_sendsAct_79 (kM_mem (s := 40) (by decide)) rfl rfl rfl (le_b rfl) (le_b rfl) (le_b rfl) ?_
    show X l _ _ 0 0 false _ kM 0 0 82 [some (vR (40, 0, 0)), some (vI a0), some (vI a1), some (vI r12)] [vI r15, vI r12] (en u17)
    refine r_iadd dX10_sendsAct_82 ?_
    have hx := am_inj hf
    subst hx
    exact r_iret dX10_sendsAct_83 rfl rfl (le_b rfl) (le_b rfl)
  have hf := (am_if hf).2 hs2
  refine r_lookup (x := u.1 (42, 0, 0) a0.toNatClampNeg) (tgt := 84) (off := 78) dX10_sendsAct_6 (by decide) (Eq.trans (lv_osw hs0 rfl) (Eq.trans (lv_osw hs1 rfl) (Eq.trans (lv_osw hs2 rfl) rfl))) (by decide) ?_
  refine r_aload_n (x := (40, 0, 0)) dX10_sendsAct_84 rfl ?_
  refine r_iload_n (x := a0) dX10_sendsAct_85 rfl ?_
  refine r_iload_n (x := a1) dX10_sendsAct_86 rfl ?_
  obtain ⟨⟨r18, u20⟩, hr19, hf⟩ := am_bind hf
  refine r_callV (as := [vI a0, vI a1]) (st := []) (n := 2) mw_X10_451 mv_X10_plainSends (C_X10_plainSends (l := l) hr19) (le_b rfl) dX10_sendsAct_87 (kM_mem (s := 40) (by decide)) rfl rfl rfl (le_b rfl) (le_b rfl) (le_b rfl) ?_
  show X l _ _ 0 0 false _ kM 0 0 90 [some (vR (40, 0, 0)), some (vI a0), some (vI a1), none] [vI r18] (en u20)
  have hx := am_inj hf
  subst hx
  exact r_iret dX10_sendsAct_90 rfl rfl (le_b rfl) (le_b rfl)
/-! FireFromFireModel.plainTells -/
theorem dX10_plainTells_0 : decode cX10_plainTells 0 = .ok (.aload_n 0, 1) := by decide +kernel
theorem dX10_plainTells_1 : decode cX10_plainTells 1 = .ok (.bipush 12, 2) := by decide +kernel
theorem dX10_plainTells_3 : decode cX10_plainTells 3 = .ok (.invokevirtual 442, 3) := by decide +kernel
theorem dX10_plainTells_6 : decode cX10_plainTells 6 = .ok (.aload_n 0, 1) := by decide +kernel
theorem dX10_plainTells_7 : decode cX10_plainTells 7 = .ok (.iload_n 1, 1) := by decide +kernel
theorem dX10_plainTells_8 : decode cX10_plainTells 8 = .ok (.iload_n 2, 1) := by decide +kernel
theorem dX10_plainTells_9 : decode cX10_plainTells 9 = .ok (.invokevirtual 457, 3) := by decide +kernel
theorem dX10_plainTells_12 : decode cX10_plainTells 12 = .ok (.iconst 2, 1) := by decide +kernel
theorem dX10_plainTells_13 : decode cX10_plainTells 13 = .ok (.imul, 1) := by decide +kernel
theorem dX10_plainTells_14 : decode cX10_plainTells 14 = .ok (.ireturn, 1) := by decide +kernel
def f_X10_plainTells  (a0 : Int32) (a1 : Int32) (u : PM) : Option (Int32 × PM) :=
  (f_X10_body (12 : Int32) u).bind fun r1 =>
  (f_X10_sendsAct a0 a1 r1).bind fun (r3, u5) =>
  some (r3 * (2 : Int32), u5)
set_option maxHeartbeats 4000000 in
set_option maxRecDepth 20000 in
theorem C_X10_plainTells {l : Launch}  {a0 : Int32} {a1 : Int32} {u : PM} {x : Int32 × PM} (hf : f_X10_plainTells a0 a1 u = some x) : Ev l mX10_plainTells 7 0 0 false [vR (40, 0, 0), vI a0, vI a1] kM (en u) (some (vI x.1), kM, en x.2) := by
  refine Ev_of (by decide +kernel) (le_b rfl) ?_
  unfold f_X10_plainTells at hf
  show X l mX10_plainTells 7 0 0 false _ kM 0 0 0 [some (vR (40, 0, 0)), some (vI a0), some (vI a1)] [] (en u)
  refine r_aload_n (x := (40, 0, 0)) dX10_plainTells_0 rfl ?_
  refine r_bipush (v := 12) dX10_plainTells_1 rfl ?_
  obtain ⟨r1, hr2, hf⟩ := am_bind hf
  refine r_callV (as := [vI (12 : Int32)]) (st := []) (n := 1) mw_X10_442 mv_X10_body (C_X10_body (l := l) hr2) (le_b rfl) dX10_plainTells_3 (kM_mem (s := 40) (by decide)) rfl rfl rfl (le_b rfl) (le_b rfl) (le_b rfl) ?_
  show X l _ _ 0 0 false _ kM 0 0 6 [some (vR (40, 0, 0)), some (vI a0), some (vI a1)] [] (en r1)
  refine r_aload_n (x := (40, 0, 0)) dX10_plainTells_6 rfl ?_
  refine r_iload_n (x := a0) dX10_plainTells_7 rfl ?_
  refine r_iload_n (x := a1) dX10_plainTells_8 rfl ?_
  obtain ⟨⟨r3, u5⟩, hr4, hf⟩ := am_bind hf
  refine r_callV (as := [vI a0, vI a1]) (st := []) (n := 2) mw_X10_457 mv_X10_sendsAct (C_X10_sendsAct (l := l) hr4) (le_b rfl) dX10_plainTells_9 (kM_mem (s := 40) (by decide)) rfl rfl rfl (le_b rfl) (le_b rfl) (le_b rfl) ?_
  show X l _ _ 0 0 false _ kM 0 0 12 [some (vR (40, 0, 0)), some (vI a0), some (vI a1)] [vI r3] (en u5)
  refine r_iconst (v := 2) dX10_plainTells_12 rfl ?_
  refine r_imul dX10_plainTells_13 ?_
  have hx := am_inj hf
  subst hx
  exact r_iret dX10_plainTells_14 rfl rfl (le_b rfl) (le_b rfl)
/-! FireFromFireModel.tellsAct -/
theorem dX10_tellsAct_0 : decode cX10_tellsAct 0 = .ok (.aload_n 0, 1) := by decide +kernel
theorem dX10_tellsAct_1 : decode cX10_tellsAct 1 = .ok (.getfield 26, 3) := by decide +kernel
theorem dX10_tellsAct_4 : decode cX10_tellsAct 4 = .ok (.iload_n 1, 1) := by decide +kernel
theorem dX10_tellsAct_5 : decode cX10_tellsAct 5 = .ok (.iaload, 1) := by decide +kernel
theorem dX10_tellsAct_6 : decode cX10_tellsAct 6 = .ok (.tableswitch 67 3 6 #[30, 67, 52, 30], 30) := by decide +kernel
theorem dX10_tellsAct_36 : decode cX10_tellsAct 36 = .ok (.aload_n 0, 1) := by decide +kernel
theorem dX10_tellsAct_37 : decode cX10_tellsAct 37 = .ok (.bipush 40, 2) := by decide +kernel
theorem dX10_tellsAct_39 : decode cX10_tellsAct 39 = .ok (.invokevirtual 442, 3) := by decide +kernel
theorem dX10_tellsAct_42 : decode cX10_tellsAct 42 = .ok (.aload_n 0, 1) := by decide +kernel
theorem dX10_tellsAct_43 : decode cX10_tellsAct 43 = .ok (.iload_n 1, 1) := by decide +kernel
theorem dX10_tellsAct_44 : decode cX10_tellsAct 44 = .ok (.iload_n 2, 1) := by decide +kernel
theorem dX10_tellsAct_45 : decode cX10_tellsAct 45 = .ok (.invokevirtual 460, 3) := by decide +kernel
theorem dX10_tellsAct_48 : decode cX10_tellsAct 48 = .ok (.istore_n 3, 1) := by decide +kernel
theorem dX10_tellsAct_49 : decode cX10_tellsAct 49 = .ok (.iload_n 3, 1) := by decide +kernel
theorem dX10_tellsAct_50 : decode cX10_tellsAct 50 = .ok (.aload_n 0, 1) := by decide +kernel
theorem dX10_tellsAct_51 : decode cX10_tellsAct 51 = .ok (.iload_n 1, 1) := by decide +kernel
theorem dX10_tellsAct_52 : decode cX10_tellsAct 52 = .ok (.iconst 1, 1) := by decide +kernel
theorem dX10_tellsAct_53 : decode cX10_tellsAct 53 = .ok (.invokevirtual 457, 3) := by decide +kernel
theorem dX10_tellsAct_56 : decode cX10_tellsAct 56 = .ok (.iadd, 1) := by decide +kernel
theorem dX10_tellsAct_57 : decode cX10_tellsAct 57 = .ok (.ireturn, 1) := by decide +kernel
theorem dX10_tellsAct_58 : decode cX10_tellsAct 58 = .ok (.aload_n 0, 1) := by decide +kernel
theorem dX10_tellsAct_59 : decode cX10_tellsAct 59 = .ok (.bipush 60, 2) := by decide +kernel
theorem dX10_tellsAct_61 : decode cX10_tellsAct 61 = .ok (.invokevirtual 442, 3) := by decide +kernel
theorem dX10_tellsAct_64 : decode cX10_tellsAct 64 = .ok (.aload_n 0, 1) := by decide +kernel
theorem dX10_tellsAct_65 : decode cX10_tellsAct 65 = .ok (.iload_n 1, 1) := by decide +kernel
theorem dX10_tellsAct_66 : decode cX10_tellsAct 66 = .ok (.iload_n 2, 1) := by decide +kernel
theorem dX10_tellsAct_67 : decode cX10_tellsAct 67 = .ok (.iload_n 1, 1) := by decide +kernel
theorem dX10_tellsAct_68 : decode cX10_tellsAct 68 = .ok (.isub, 1) := by decide +kernel
theorem dX10_tellsAct_69 : decode cX10_tellsAct 69 = .ok (.invokevirtual 460, 3) := by decide +kernel
theorem dX10_tellsAct_72 : decode cX10_tellsAct 72 = .ok (.ireturn, 1) := by decide +kernel
theorem dX10_tellsAct_73 : decode cX10_tellsAct 73 = .ok (.aload_n 0, 1) := by decide +kernel
theorem dX10_tellsAct_74 : decode cX10_tellsAct 74 = .ok (.iload_n 1, 1) := by decide +kernel
theorem dX10_tellsAct_75 : decode cX10_tellsAct 75 = .ok (.iload_n 2, 1) := by decide +kernel
theorem dX10_tellsAct_76 : decode cX10_tellsAct 76 = .ok (.invokevirtual 460, 3) := by decide +kernel
theorem dX10_tellsAct_79 : decode cX10_tellsAct 79 = .ok (.ireturn, 1) := by decide +kernel
def f_X10_tellsAct  (a0 : Int32) (a1 : Int32) (u : PM) : Option (Int32 × PM) :=
  if a0 < 0 ∨ 6 ≤ a0.toNatClampNeg then none else
  if (u.1 (42, 0, 0) a0.toNatClampNeg) = (3 : Int32) then
    (f_X10_body (40 : Int32) u).bind fun r2 =>
    (f_X10_plainTells a0 a1 r2).bind fun (r4, u6) =>
    (f_X10_sendsAct a0 (1 : Int32) u6).bind fun (r7, u9) =>
    some (r4 + r7, u9)
  else if (u.1 (42, 0, 0) a0.toNatClampNeg) = (4 : Int32) then
    (f_X10_plainTells a0 a1 u).bind fun (r10, u12) =>
    some (r10, u12)
  else if (u.1 (42, 0, 0) a0.toNatClampNeg) = (5 : Int32) then
    (f_X10_body (60 : Int32) u).bind fun r13 =>
    (f_X10_plainTells a0 (a1 - a0) r13).bind fun (r15, u17) =>
    some (r15, u17)
  else if (u.1 (42, 0, 0) a0.toNatClampNeg) = (6 : Int32) then
    (f_X10_body (40 : Int32) u).bind fun r18 =>
    (f_X10_plainTells a0 a1 r18).bind fun (r20, u22) =>
    (f_X10_sendsAct a0 (1 : Int32) u22).bind fun (r23, u25) =>
    some (r20 + r23, u25)
  else 
  (f_X10_plainTells a0 a1 u).bind fun (r26, u28) =>
  some (r26, u28)
set_option maxHeartbeats 4000000 in
set_option maxRecDepth 20000 in
theorem C_X10_tellsAct {l : Launch}  {a0 : Int32} {a1 : Int32} {u : PM} {x : Int32 × PM} (hf : f_X10_tellsAct a0 a1 u = some x) : Ev l mX10_tellsAct 8 0 0 false [vR (40, 0, 0), vI a0, vI a1] kM (en u) (some (vI x.1), kM, en x.2) := by
  refine Ev_of (by decide +kernel) (le_b rfl) ?_
  unfold f_X10_tellsAct at hf
  show X l mX10_tellsAct 8 0 0 false _ kM 0 0 0 [some (vR (40, 0, 0)), some (vI a0), some (vI a1), none] [] (en u)
  refine r_aload_n (x := (40, 0, 0)) dX10_tellsAct_0 rfl ?_
  refine e_getr (z := some (42, 0, 0)) fw_X10_26 dX10_tellsAct_1 (kM_mem (s := 40) (by decide)) rfl (lt_b rfl) rfl ?_
  refine r_iload_n (x := a0) dX10_tellsAct_4 rfl ?_
  obtain ⟨h1, hf⟩ := am_nchk hf
  refine e_iald (n := a0.toNatClampNeg) dX10_tellsAct_5 (kM_mem (s := 42) (by decide)) rfl h1 rfl rfl ?_
  by_cases hs0 : (u.1 (42, 0, 0) a0.toNatClampNeg) = (3 : Int32)
  · have hf := (am_if hf).1 hs0
    refine r_tswIn (x := u.1 (42, 0, 0) a0.toNatClampNeg) (kx := 3) (tgt := 36) dX10_tellsAct_6 hs0 (by decide) (by decide) rfl (by decide) ?_
    refine r_aload_n (x := (40, 0, 0)) dX10_tellsAct_36 rfl ?_
    refine r_bipush (v := 40) dX10_tellsAct_37 rfl ?_
    obtain ⟨r2, hr3, hf⟩ := am_bind hf
    refine r_callV (as := [vI (40 : Int32)]) (st := []) (n := 1) mw_X10_442 mv_X10_body (C_X10_body (l := l) hr3) (le_b rfl) dX10_tellsAct_39 (kM_mem (s := 40) (by decide)) rfl rfl rfl (le_b rfl) (le_b rfl) (le_b rfl) ?_
    show X l _ _ 0 0 false _ kM 0 0 42 [some (vR (40, 0, 0)), some (vI a0), some (vI a1), none] [] (en r2)
    refine r_aload_n (x := (40, 0, 0)) dX10_tellsAct_42 rfl ?_
    refine r_iload_n (x := a0) dX10_tellsAct_43 rfl ?_
    refine r_iload_n (x := a1) dX10_tellsAct_44 rfl ?_
    obtain ⟨⟨r4, u6⟩, hr5, hf⟩ := am_bind hf
    refine r_callV (as := [vI a0, vI a1]) (st := []) (n := 2) mw_X10_460 mv_X10_plainTells (C_X10_plainTells (l := l) hr5) (le_b rfl) dX10_tellsAct_45 (kM_mem (s := 40) (by decide)) rfl rfl rfl (le_b rfl) (le_b rfl) (le_b rfl) ?_
    show X l _ _ 0 0 false _ kM 0 0 48 [some (vR (40, 0, 0)), some (vI a0), some (vI a1), none] [vI r4] (en u6)
    refine r_istore_n (L' := [some (vR (40, 0, 0)), some (vI a0), some (vI a1), some (vI r4)]) dX10_tellsAct_48 (by decide) rfl ?_
    refine r_iload_n (x := r4) dX10_tellsAct_49 rfl ?_
    refine r_aload_n (x := (40, 0, 0)) dX10_tellsAct_50 rfl ?_
    refine r_iload_n (x := a0) dX10_tellsAct_51 rfl ?_
    refine r_iconst (v := 1) dX10_tellsAct_52 rfl ?_
    obtain ⟨⟨r7, u9⟩, hr8, hf⟩ := am_bind hf
    refine r_callV (as := [vI a0, vI (1 : Int32)]) (st := [vI r4]) (n := 2) mw_X10_457 mv_X10_sendsAct (C_X10_sendsAct (l := l) hr8) (le_b rfl) dX10_tellsAct_53 (kM_mem (s := 40) (by decide)) rfl rfl rfl (le_b rfl) (le_b rfl) (le_b rfl) ?_
    show X l _ _ 0 0 false _ kM 0 0 56 [some (vR (40, 0, 0)), some (vI a0), some (vI a1), some (vI r4)] [vI r7, vI r4] (en u9)
    refine r_iadd dX10_tellsAct_56 ?_
    have hx := am_inj hf
    subst hx
    exact r_iret dX10_tellsAct_57 rfl rfl (le_b rfl) (le_b rfl)
  have hf := (am_if hf).2 hs0
  by_cases hs1 : (u.1 (42, 0, 0) a0.toNatClampNeg) = (4 : Int32)
  · have hf := (am_if hf).1 hs1
    refine r_tswIn (x := u.1 (42, 0, 0) a0.toNatClampNeg) (kx := 4) (tgt := 73) dX10_tellsAct_6 hs1 (by decide) (by decide) rfl (by decide) ?_
    refine r_aload_n (x := (40, 0, 0)) dX10_tellsAct_73 rfl ?_
    refine r_iload_n (x := a0) dX10_tellsAct_74 rfl ?_
    refine r_iload_n (x := a1) dX10_tellsAct_75 rfl ?_
    obtain ⟨⟨r10, u12⟩, hr11, hf⟩ := am_bind hf
    refine r_callV (as := [vI a0, vI a1]) (st := []) (n := 2) mw_X10_460 mv_X10_plainTells (C_X10_plainTells (l := l) hr11) (le_b rfl) dX10_tellsAct_76 (kM_mem (s := 40) (by decide)) rfl rfl rfl (le_b rfl) (le_b rfl) (le_b rfl) ?_
    show X l _ _ 0 0 false _ kM 0 0 79 [some (vR (40, 0, 0)), some (vI a0), some (vI a1), none] [vI r10] (en u12)
    have hx := am_inj hf
    subst hx
    exact r_iret dX10_tellsAct_79 rfl rfl (le_b rfl) (le_b rfl)
  have hf := (am_if hf).2 hs1
  by_cases hs2 : (u.1 (42, 0, 0) a0.toNatClampNeg) = (5 : Int32)
  · have hf := (am_if hf).1 hs2
    refine r_tswIn (x := u.1 (42, 0, 0) a0.toNatClampNeg) (kx := 5) (tgt := 58) dX10_tellsAct_6 hs2 (by decide) (by decide) rfl (by decide) ?_
    refine r_aload_n (x := (40, 0, 0)) dX10_tellsAct_58 rfl ?_
    refine r_bipush (v := 60) dX10_tellsAct_59 rfl ?_
    obtain ⟨r13, hr14, hf⟩ := am_bind hf
    refine r_callV (as := [vI (60 : Int32)]) (st := []) (n := 1) mw_X10_442 mv_X10_body (C_X10_body (l := l) hr14) (le_b rfl) dX10_tellsAct_61 (kM_mem (s := 40) (by decide)) rfl rfl rfl (le_b rfl) (le_b rfl) (le_b rfl) ?_
    show X l _ _ 0 0 false _ kM 0 0 64 [some (vR (40, 0, 0)), some (vI a0), some (vI a1), none] [] (en r13)
    refine r_aload_n (x := (40, 0, 0)) dX10_tellsAct_64 rfl ?_
    refine r_iload_n (x := a0) dX10_tellsAct_65 rfl ?_
    refine r_iload_n (x := a1) dX10_tellsAct_66 rfl ?_
    refine r_iload_n (x := a0) dX10_tellsAct_67 rfl ?_
    refine r_isub dX10_tellsAct_68 ?_
    obtain ⟨⟨r15, u17⟩, hr16, hf⟩ := am_bind hf
    refine r_callV (as := [vI a0, vI (a1 - a0)]) (st := []) (n := 2) mw_X10_460 mv_X10_plainTells (C_X10_plainTells (l := l) hr16) (le_b rfl) dX10_tellsAct_69 (kM_mem (s := 40) (by decide)) rfl rfl rfl (le_b rfl) (le_b rfl) (le_b rfl) ?_
    show X l _ _ 0 0 false _ kM 0 0 72 [some (vR (40, 0, 0)), some (vI a0), some (vI a1), none] [vI r15] (en u17)
    have hx := am_inj hf
    subst hx
    exact r_iret dX10_tellsAct_72 rfl rfl (le_b rfl) (le_b rfl)
  have hf := (am_if hf).2 hs2
  by_cases hs3 : (u.1 (42, 0, 0) a0.toNatClampNeg) = (6 : Int32)
  · have hf := (am_if hf).1 hs3
    refine r_tswIn (x := u.1 (42, 0, 0) a0.toNatClampNeg) (kx := 6) (tgt := 36) dX10_tellsAct_6 hs3 (by decide) (by decide) rfl (by decide) ?_
    refine r_aload_n (x := (40, 0, 0)) dX10_tellsAct_36 rfl ?_
    refine r_bipush (v := 40) dX10_tellsAct_37 rfl ?_
    obtain ⟨r18, hr19, hf⟩ := am_bind hf
    refine r_callV (as := [vI (40 : Int32)]) (st := []) (n := 1) mw_X10_442 mv_X10_body (C_X10_body (l := l) hr19) (le_b rfl) dX10_tellsAct_39 (kM_mem (s := 40) (by decide)) rfl rfl rfl (le_b rfl) (le_b rfl) (le_b rfl) ?_
    show X l _ _ 0 0 false _ kM 0 0 42 [some (vR (40, 0, 0)), some (vI a0), some (vI a1), none] [] (en r18)
    refine r_aload_n (x := (40, 0, 0)) dX10_tellsAct_42 rfl ?_
    refine r_iload_n (x := a0) dX10_tellsAct_43 rfl ?_
    refine r_iload_n (x := a1) dX10_tellsAct_44 rfl ?_
    obtain ⟨⟨r20, u22⟩, hr21, hf⟩ := am_bind hf
    refine r_callV (as := [vI a0, vI a1]) (st := []) (n := 2) mw_X10_460 mv_X10_plainTells (C_X10_plainTells (l := l) hr21) (le_b rfl) dX10_tellsAct_45 (kM_mem (s := 40) (by decide)) rfl rfl rfl (le_b rfl) (le_b rfl) (le_b rfl) ?_
    show X l _ _ 0 0 false _ kM 0 0 48 [some (vR (40, 0, 0)), some (vI a0), some (vI a1), none] [vI r20] (en u22)
    refine r_istore_n (L' := [some (vR (40, 0, 0)), some (vI a0), some (vI a1), some (vI r20)]) dX10_tellsAct_48 (by decide) rfl ?_
    refine r_iload_n (x := r20) dX10_tellsAct_49 rfl ?_
    refine r_aload_n (x := (40, 0, 0)) dX10_tellsAct_50 rfl ?_
    refine r_iload_n (x := a0) dX10_tellsAct_51 rfl ?_
    refine r_iconst (v := 1) dX10_tellsAct_52 rfl ?_
    obtain ⟨⟨r23, u25⟩, hr24, hf⟩ := am_bind hf
    refine r_callV (as := [vI a0, vI (1 : Int32)]) (st := [vI r20]) (n := 2) mw_X10_457 mv_X10_sendsAct (C_X10_sendsAct (l := l) hr24) (le_b rfl) dX10_tellsAct_53 (kM_mem (s := 40) (by decide)) rfl rfl rfl (le_b rfl) (le_b rfl) (le_b rfl) ?_
    show X l _ _ 0 0 false _ kM 0 0 56 [some (vR (40, 0, 0)), some (vI a0), some (vI a1), some (vI r20)] [vI r23, vI r20] (en u25)
    refine r_iadd dX10_tellsAct_56 ?_
    have hx := am_inj hf
    subst hx
    exact r_iret dX10_tellsAct_57 rfl rfl (le_b rfl) (le_b rfl)
  have hf := (am_if hf).2 hs3
  refine r_tswOut (x := u.1 (42, 0, 0) a0.toNatClampNeg) (tgt := 73) dX10_tellsAct_6 (by have ehs0 := am_neI hs0 (z := 3) rfl; have ehs1 := am_neI hs1 (z := 4) rfl; have ehs2 := am_neI hs2 (z := 5) rfl; have ehs3 := am_neI hs3 (z := 6) rfl; omega) (by decide) ?_
  refine r_aload_n (x := (40, 0, 0)) dX10_tellsAct_73 rfl ?_
  refine r_iload_n (x := a0) dX10_tellsAct_74 rfl ?_
  refine r_iload_n (x := a1) dX10_tellsAct_75 rfl ?_
  obtain ⟨⟨r26, u28⟩, hr27, hf⟩ := am_bind hf
  refine r_callV (as := [vI a0, vI a1]) (st := []) (n := 2) mw_X10_460 mv_X10_plainTells (C_X10_plainTells (l := l) hr27) (le_b rfl) dX10_tellsAct_76 (kM_mem (s := 40) (by decide)) rfl rfl rfl (le_b rfl) (le_b rfl) (le_b rfl) ?_
  show X l _ _ 0 0 false _ kM 0 0 79 [some (vR (40, 0, 0)), some (vI a0), some (vI a1), none] [vI r26] (en u28)
  have hx := am_inj hf
  subst hx
  exact r_iret dX10_tellsAct_79 rfl rfl (le_b rfl) (le_b rfl)
/-! FireFromFireModel.act -/
theorem dX10_act_0 : decode cX10_act 0 = .ok (.aload_n 0, 1) := by decide +kernel
theorem dX10_act_1 : decode cX10_act 1 = .ok (.iconst 0, 1) := by decide +kernel
theorem dX10_act_2 : decode cX10_act 2 = .ok (.putfield 248, 3) := by decide +kernel
theorem dX10_act_5 : decode cX10_act 5 = .ok (.aload_n 0, 1) := by decide +kernel
theorem dX10_act_6 : decode cX10_act 6 = .ok (.iload_n 1, 1) := by decide +kernel
theorem dX10_act_7 : decode cX10_act 7 = .ok (.invokevirtual 271, 3) := by decide +kernel
theorem dX10_act_10 : decode cX10_act 10 = .ok (.ifCond .eq 13, 3) := by decide +kernel
theorem dX10_act_13 : decode cX10_act 13 = .ok (.aload_n 0, 1) := by decide +kernel
theorem dX10_act_14 : decode cX10_act 14 = .ok (.iload_n 2, 1) := by decide +kernel
theorem dX10_act_15 : decode cX10_act 15 = .ok (.iconst 0, 1) := by decide +kernel
theorem dX10_act_16 : decode cX10_act 16 = .ok (.iconst 2, 1) := by decide +kernel
theorem dX10_act_17 : decode cX10_act 17 = .ok (.invokevirtual 267, 3) := by decide +kernel
theorem dX10_act_20 : decode cX10_act 20 = .ok (.ifCond .ne 5, 3) := by decide +kernel
theorem dX10_act_23 : decode cX10_act 23 = .ok (.iconst 0, 1) := by decide +kernel
theorem dX10_act_24 : decode cX10_act 24 = .ok (.ireturn, 1) := by decide +kernel
theorem dX10_act_25 : decode cX10_act 25 = .ok (.iload_n 2, 1) := by decide +kernel
theorem dX10_act_26 : decode cX10_act 26 = .ok (.ifCond .ne 12, 3) := by decide +kernel
theorem dX10_act_29 : decode cX10_act 29 = .ok (.aload_n 0, 1) := by decide +kernel
theorem dX10_act_30 : decode cX10_act 30 = .ok (.iload_n 1, 1) := by decide +kernel
theorem dX10_act_31 : decode cX10_act 31 = .ok (.iload_n 3, 1) := by decide +kernel
theorem dX10_act_32 : decode cX10_act 32 = .ok (.invokevirtual 448, 3) := by decide +kernel
theorem dX10_act_35 : decode cX10_act 35 = .ok (.goto 23, 3) := by decide +kernel
theorem dX10_act_38 : decode cX10_act 38 = .ok (.iload_n 2, 1) := by decide +kernel
theorem dX10_act_39 : decode cX10_act 39 = .ok (.iconst 1, 1) := by decide +kernel
theorem dX10_act_40 : decode cX10_act 40 = .ok (.if_icmp .ne 12, 3) := by decide +kernel
theorem dX10_act_43 : decode cX10_act 43 = .ok (.aload_n 0, 1) := by decide +kernel
theorem dX10_act_44 : decode cX10_act 44 = .ok (.iload_n 1, 1) := by decide +kernel
theorem dX10_act_45 : decode cX10_act 45 = .ok (.iload_n 3, 1) := by decide +kernel
theorem dX10_act_46 : decode cX10_act 46 = .ok (.invokevirtual 457, 3) := by decide +kernel
theorem dX10_act_49 : decode cX10_act 49 = .ok (.goto 9, 3) := by decide +kernel
theorem dX10_act_52 : decode cX10_act 52 = .ok (.aload_n 0, 1) := by decide +kernel
theorem dX10_act_53 : decode cX10_act 53 = .ok (.iload_n 1, 1) := by decide +kernel
theorem dX10_act_54 : decode cX10_act 54 = .ok (.iload_n 3, 1) := by decide +kernel
theorem dX10_act_55 : decode cX10_act 55 = .ok (.invokevirtual 463, 3) := by decide +kernel
theorem dX10_act_58 : decode cX10_act 58 = .ok (.ireturn, 1) := by decide +kernel
def f_X10_act  (a0 : Int32) (a1 : Int32) (a2 : Int32) (u : PM) : Option (Int32 × PM) :=
  (f_X10_isHouse a0 (pi u (40, 0, 0) 78 (0 : Int32))).bind fun r1 =>
  if r1 = 0 then
    some ((0 : Int32), (pi u (40, 0, 0) 78 (0 : Int32)))
  else
  (f_X10_in a1 (0 : Int32) (2 : Int32) (pi u (40, 0, 0) 78 (0 : Int32))).bind fun r3 =>
  if r3 = 0 then
    some ((0 : Int32), (pi u (40, 0, 0) 78 (0 : Int32)))
  else
  if a1 = 0 then
    (f_X10_keepsAct a0 a2 (pi u (40, 0, 0) 78 (0 : Int32))).bind fun (r11, u13) =>
    some (r11, u13)
  else
  if a1 = (1 : Int32) then
    (f_X10_sendsAct a0 a2 (pi u (40, 0, 0) 78 (0 : Int32))).bind fun (r8, u10) =>
    some (r8, u10)
  else
  (f_X10_tellsAct a0 a2 (pi u (40, 0, 0) 78 (0 : Int32))).bind fun (r5, u7) =>
  some (r5, u7)
set_option maxHeartbeats 4000000 in
set_option maxRecDepth 20000 in
theorem C_X10_act {l : Launch}  {a0 : Int32} {a1 : Int32} {a2 : Int32} {u : PM} {x : Int32 × PM} (hf : f_X10_act a0 a1 a2 u = some x) : Ev l mX10_act 9 0 0 false [vR (40, 0, 0), vI a0, vI a1, vI a2] kM (en u) (some (vI x.1), kM, en x.2) := by
  refine Ev_of (by decide +kernel) (le_b rfl) ?_
  unfold f_X10_act at hf
  show X l mX10_act 9 0 0 false _ kM 0 0 0 [some (vR (40, 0, 0)), some (vI a0), some (vI a1), some (vI a2)] [] (en u)
  refine r_aload_n (x := (40, 0, 0)) dX10_act_0 rfl ?_
  refine r_iconst (v := 0) dX10_act_1 rfl ?_
  refine e_puti fp_X10_248 dX10_act_2 (kM_mem (s := 40) (by decide)) rfl (lt_b rfl) rfl rfl rfl ?_
  refine r_aload_n (x := (40, 0, 0)) dX10_act_5 rfl ?_
  refine r_iload_n (x := a0) dX10_act_6 rfl ?_
  obtain ⟨r1, hr2, hf⟩ := am_bind hf
  refine r_callV (as := [vI a0]) (st := []) (n := 1) mw_X10_271 mv_X10_isHouse (C_X10_isHouse (l := l) hr2) (le_b rfl) dX10_act_7 (kM_mem (s := 40) (by decide)) rfl rfl rfl (le_b rfl) (le_b rfl) (le_b rfl) ?_
  show X l _ _ 0 0 false _ kM 0 0 10 [some (vR (40, 0, 0)), some (vI a0), some (vI a1), some (vI a2)] [vI r1] (en (pi u (40, 0, 0) 78 (0 : Int32)))
  refine r_if_eq (tgt := 23) dX10_act_10 (by decide) (fun hc => ?_) (fun hc => ?_)
  · have hf := (am_if hf).1 hc
    refine r_iconst (v := 0) dX10_act_23 rfl ?_
    have hx := am_inj hf
    subst hx
    exact r_iret dX10_act_24 rfl rfl (le_b rfl) (le_b rfl)
  · have hf := (am_if hf).2 hc
    refine r_aload_n (x := (40, 0, 0)) dX10_act_13 rfl ?_
    refine r_iload_n (x := a1) dX10_act_14 rfl ?_
    refine r_iconst (v := 0) dX10_act_15 rfl ?_
    refine r_iconst (v := 2) dX10_act_16 rfl ?_
    obtain ⟨r3, hr4, hf⟩ := am_bind hf
    refine r_callV (as := [vI a1, vI (0 : Int32), vI (2 : Int32)]) (st := []) (n := 3) mw_X10_267 mv_X10_in (C_X10_in (l := l) hr4) (le_b rfl) dX10_act_17 (kM_mem (s := 40) (by decide)) rfl rfl rfl (le_b rfl) (le_b rfl) (le_b rfl) ?_
    show X l _ _ 0 0 false _ kM 0 0 20 [some (vR (40, 0, 0)), some (vI a0), some (vI a1), some (vI a2)] [vI r3] (en (pi u (40, 0, 0) 78 (0 : Int32)))
    refine r_if_ne (tgt := 25) dX10_act_20 (by decide) (fun hc => ?_) (fun hc => ?_)
    · have hf := (am_if hf).2 hc
      refine r_iload_n (x := a1) dX10_act_25 rfl ?_
      refine r_if_ne (tgt := 38) dX10_act_26 (by decide) (fun hc => ?_) (fun hc => ?_)
      · have hf := (am_if hf).2 hc
        refine r_iload_n (x := a1) dX10_act_38 rfl ?_
        refine r_iconst (v := 1) dX10_act_39 rfl ?_
        refine r_icmp_ne (tgt := 52) dX10_act_40 (by decide) (fun hc => ?_) (fun hc => ?_)
        · have hf := (am_if hf).2 hc
          refine r_aload_n (x := (40, 0, 0)) dX10_act_52 rfl ?_
          refine r_iload_n (x := a0) dX10_act_53 rfl ?_
          refine r_iload_n (x := a2) dX10_act_54 rfl ?_
          obtain ⟨⟨r5, u7⟩, hr6, hf⟩ := am_bind hf
          refine r_callV (as := [vI a0, vI a2]) (st := []) (n := 2) mw_X10_463 mv_X10_tellsAct (C_X10_tellsAct (l := l) hr6) (le_b rfl) dX10_act_55 (kM_mem (s := 40) (by decide)) rfl rfl rfl (le_b rfl) (le_b rfl) (le_b rfl) ?_
          show X l _ _ 0 0 false _ kM 0 0 58 [some (vR (40, 0, 0)), some (vI a0), some (vI a1), some (vI a2)] [vI r5] (en u7)
          have hx := am_inj hf
          subst hx
          exact r_iret dX10_act_58 rfl rfl (le_b rfl) (le_b rfl)
        · have hf := (am_if hf).1 hc
          refine r_aload_n (x := (40, 0, 0)) dX10_act_43 rfl ?_
          refine r_iload_n (x := a0) dX10_act_44 rfl ?_
          refine r_iload_n (x := a2) dX10_act_45 rfl ?_
          obtain ⟨⟨r8, u10⟩, hr9, hf⟩ := am_bind hf
          refine r_callV (as := [vI a0, vI a2]) (st := []) (n := 2) mw_X10_457 mv_X10_sendsAct (C_X10_sendsAct (l := l) hr9) (le_b rfl) dX10_act_46 (kM_mem (s := 40) (by decide)) rfl rfl rfl (le_b rfl) (le_b rfl) (le_b rfl) ?_
          show X l _ _ 0 0 false _ kM 0 0 49 [some (vR (40, 0, 0)), some (vI a0), some (vI a1), some (vI a2)] [vI r8] (en u10)
          refine r_goto (tgt := 58) dX10_act_49 (by decide) ?_
          have hx := am_inj hf
          subst hx
          exact r_iret dX10_act_58 rfl rfl (le_b rfl) (le_b rfl)
      · have hf := (am_if hf).1 hc
        refine r_aload_n (x := (40, 0, 0)) dX10_act_29 rfl ?_
        refine r_iload_n (x := a0) dX10_act_30 rfl ?_
        refine r_iload_n (x := a2) dX10_act_31 rfl ?_
        obtain ⟨⟨r11, u13⟩, hr12, hf⟩ := am_bind hf
        refine r_callV (as := [vI a0, vI a2]) (st := []) (n := 2) mw_X10_448 mv_X10_keepsAct (C_X10_keepsAct (l := l) hr12) (le_b rfl) dX10_act_32 (kM_mem (s := 40) (by decide)) rfl rfl rfl (le_b rfl) (le_b rfl) (le_b rfl) ?_
        show X l _ _ 0 0 false _ kM 0 0 35 [some (vR (40, 0, 0)), some (vI a0), some (vI a1), some (vI a2)] [vI r11] (en u13)
        refine r_goto (tgt := 58) dX10_act_35 (by decide) ?_
        have hx := am_inj hf
        subst hx
        exact r_iret dX10_act_58 rfl rfl (le_b rfl) (le_b rfl)
    · have hf := (am_if hf).1 hc
      refine r_iconst (v := 0) dX10_act_23 rfl ?_
      have hx := am_inj hf
      subst hx
      exact r_iret dX10_act_24 rfl rfl (le_b rfl) (le_b rfl)
/-! FireFromFireModel.trace -/
theorem dX10_trace_0 : decode cX10_trace 0 = .ok (.aload_n 0, 1) := by decide +kernel
theorem dX10_trace_1 : decode cX10_trace 1 = .ok (.iload_n 1, 1) := by decide +kernel
theorem dX10_trace_2 : decode cX10_trace 2 = .ok (.iconst 0, 1) := by decide +kernel
theorem dX10_trace_3 : decode cX10_trace 3 = .ok (.bipush 19, 2) := by decide +kernel
theorem dX10_trace_5 : decode cX10_trace 5 = .ok (.invokevirtual 267, 3) := by decide +kernel
theorem dX10_trace_8 : decode cX10_trace 8 = .ok (.ifCond .eq 20, 3) := by decide +kernel
theorem dX10_trace_11 : decode cX10_trace 11 = .ok (.iload_n 1, 1) := by decide +kernel
theorem dX10_trace_12 : decode cX10_trace 12 = .ok (.aload_n 0, 1) := by decide +kernel
theorem dX10_trace_13 : decode cX10_trace 13 = .ok (.getfield 248, 3) := by decide +kernel
theorem dX10_trace_16 : decode cX10_trace 16 = .ok (.if_icmp .ge 12, 3) := by decide +kernel
theorem dX10_trace_19 : decode cX10_trace 19 = .ok (.aload_n 0, 1) := by decide +kernel
theorem dX10_trace_20 : decode cX10_trace 20 = .ok (.getfield 251, 3) := by decide +kernel
theorem dX10_trace_23 : decode cX10_trace 23 = .ok (.iload_n 1, 1) := by decide +kernel
theorem dX10_trace_24 : decode cX10_trace 24 = .ok (.iaload, 1) := by decide +kernel
theorem dX10_trace_25 : decode cX10_trace 25 = .ok (.goto 4, 3) := by decide +kernel
theorem dX10_trace_28 : decode cX10_trace 28 = .ok (.iconst (-1), 1) := by decide +kernel
theorem dX10_trace_29 : decode cX10_trace 29 = .ok (.ireturn, 1) := by decide +kernel
def f_X10_trace  (a0 : Int32) (u : PM) : Option (Int32) :=
  (f_X10_in a0 (0 : Int32) (19 : Int32) u).bind fun r1 =>
  if r1 = 0 then
    some (-1 : Int32)
  else
  if (u.1 (40, 0, 0) 78) ≤ a0 then
    some (-1 : Int32)
  else
  if a0 < 0 ∨ 20 ≤ a0.toNatClampNeg then none else
  some (u.1 (89, 0, 0) a0.toNatClampNeg)
set_option maxHeartbeats 4000000 in
set_option maxRecDepth 20000 in
theorem C_X10_trace {l : Launch}  {a0 : Int32} {u : PM} {x : Int32} (hf : f_X10_trace a0 u = some x) : Ev l mX10_trace 2 0 0 false [vR (40, 0, 0), vI a0] kM (en u) (some (vI x), kM, en u) := by
  refine Ev_of (by decide +kernel) (le_b rfl) ?_
  unfold f_X10_trace at hf
  show X l mX10_trace 2 0 0 false _ kM 0 0 0 [some (vR (40, 0, 0)), some (vI a0)] [] (en u)
  refine r_aload_n (x := (40, 0, 0)) dX10_trace_0 rfl ?_
  refine r_iload_n (x := a0) dX10_trace_1 rfl ?_
  refine r_iconst (v := 0) dX10_trace_2 rfl ?_
  refine r_bipush (v := 19) dX10_trace_3 rfl ?_
  obtain ⟨r1, hr2, hf⟩ := am_bind hf
  refine r_callV (as := [vI a0, vI (0 : Int32), vI (19 : Int32)]) (st := []) (n := 3) mw_X10_267 mv_X10_in (C_X10_in (l := l) hr2) (le_b rfl) dX10_trace_5 (kM_mem (s := 40) (by decide)) rfl rfl rfl (le_b rfl) (le_b rfl) (le_b rfl) ?_
  show X l _ _ 0 0 false _ kM 0 0 8 [some (vR (40, 0, 0)), some (vI a0)] [vI r1] (en u)
  refine r_if_eq (tgt := 28) dX10_trace_8 (by decide) (fun hc => ?_) (fun hc => ?_)
  · have hf := (am_if hf).1 hc
    refine r_iconst (v := -1) dX10_trace_28 rfl ?_
    have hx := am_inj hf
    subst hx
    exact r_iret dX10_trace_29 rfl rfl (le_b rfl) (le_b rfl)
  · have hf := (am_if hf).2 hc
    refine r_iload_n (x := a0) dX10_trace_11 rfl ?_
    refine r_aload_n (x := (40, 0, 0)) dX10_trace_12 rfl ?_
    refine e_geti fw_X10_248 dX10_trace_13 (kM_mem (s := 40) (by decide)) rfl (lt_b rfl) ?_
    refine r_icmp_ge (tgt := 28) dX10_trace_16 (by decide) (fun hc => ?_) (fun hc => ?_)
    · have hf := (am_if hf).1 hc
      refine r_iconst (v := -1) dX10_trace_28 rfl ?_
      have hx := am_inj hf
      subst hx
      exact r_iret dX10_trace_29 rfl rfl (le_b rfl) (le_b rfl)
    · have hf := (am_if hf).2 hc
      refine r_aload_n (x := (40, 0, 0)) dX10_trace_19 rfl ?_
      refine e_getr (z := some (89, 0, 0)) fw_X10_251 dX10_trace_20 (kM_mem (s := 40) (by decide)) rfl (lt_b rfl) rfl ?_
      refine r_iload_n (x := a0) dX10_trace_23 rfl ?_
      obtain ⟨h3, hf⟩ := am_nchk hf
      refine e_iald (n := a0.toNatClampNeg) dX10_trace_24 (kM_mem (s := 89) (by decide)) rfl h3 rfl rfl ?_
      refine r_goto (tgt := 29) dX10_trace_25 (by decide) ?_
      have hx := am_inj hf
      subst hx
      exact r_iret dX10_trace_29 rfl rfl (le_b rfl) (le_b rfl)
/-! FireFromFireModel.taken -/
theorem dX10_taken_0 : decode cX10_taken 0 = .ok (.aload_n 0, 1) := by decide +kernel
theorem dX10_taken_1 : decode cX10_taken 1 = .ok (.iload_n 2, 1) := by decide +kernel
theorem dX10_taken_2 : decode cX10_taken 2 = .ok (.iconst 0, 1) := by decide +kernel
theorem dX10_taken_3 : decode cX10_taken 3 = .ok (.bipush 6, 2) := by decide +kernel
theorem dX10_taken_5 : decode cX10_taken 5 = .ok (.invokevirtual 267, 3) := by decide +kernel
theorem dX10_taken_8 : decode cX10_taken 8 = .ok (.ifCond .ne 6, 3) := by decide +kernel
theorem dX10_taken_11 : decode cX10_taken 11 = .ok (.bipush (-2), 2) := by decide +kernel
theorem dX10_taken_13 : decode cX10_taken 13 = .ok (.ireturn, 1) := by decide +kernel
theorem dX10_taken_14 : decode cX10_taken 14 = .ok (.aload_n 0, 1) := by decide +kernel
theorem dX10_taken_15 : decode cX10_taken 15 = .ok (.iload_n 1, 1) := by decide +kernel
theorem dX10_taken_16 : decode cX10_taken 16 = .ok (.invokevirtual 271, 3) := by decide +kernel
theorem dX10_taken_19 : decode cX10_taken 19 = .ok (.ifCond .ne 6, 3) := by decide +kernel
theorem dX10_taken_22 : decode cX10_taken 22 = .ok (.bipush (-11), 2) := by decide +kernel
theorem dX10_taken_24 : decode cX10_taken 24 = .ok (.ireturn, 1) := by decide +kernel
theorem dX10_taken_25 : decode cX10_taken 25 = .ok (.aload_n 0, 1) := by decide +kernel
theorem dX10_taken_26 : decode cX10_taken 26 = .ok (.getfield 26, 3) := by decide +kernel
theorem dX10_taken_29 : decode cX10_taken 29 = .ok (.iload_n 1, 1) := by decide +kernel
theorem dX10_taken_30 : decode cX10_taken 30 = .ok (.iaload, 1) := by decide +kernel
theorem dX10_taken_31 : decode cX10_taken 31 = .ok (.istore_n 3, 1) := by decide +kernel
theorem dX10_taken_32 : decode cX10_taken 32 = .ok (.iload_n 2, 1) := by decide +kernel
theorem dX10_taken_33 : decode cX10_taken 33 = .ok (.ifCond .eq 39, 3) := by decide +kernel
theorem dX10_taken_36 : decode cX10_taken 36 = .ok (.iload_n 3, 1) := by decide +kernel
theorem dX10_taken_37 : decode cX10_taken 37 = .ok (.iload_n 2, 1) := by decide +kernel
theorem dX10_taken_38 : decode cX10_taken 38 = .ok (.if_icmp .eq 34, 3) := by decide +kernel
theorem dX10_taken_41 : decode cX10_taken 41 = .ok (.iload_n 2, 1) := by decide +kernel
theorem dX10_taken_42 : decode cX10_taken 42 = .ok (.iconst 1, 1) := by decide +kernel
theorem dX10_taken_43 : decode cX10_taken 43 = .ok (.if_icmp .ne 8, 3) := by decide +kernel
theorem dX10_taken_46 : decode cX10_taken 46 = .ok (.iload_n 3, 1) := by decide +kernel
theorem dX10_taken_47 : decode cX10_taken 47 = .ok (.iconst 4, 1) := by decide +kernel
theorem dX10_taken_48 : decode cX10_taken 48 = .ok (.if_icmp .eq 24, 3) := by decide +kernel
theorem dX10_taken_51 : decode cX10_taken 51 = .ok (.iload_n 2, 1) := by decide +kernel
theorem dX10_taken_52 : decode cX10_taken 52 = .ok (.iconst 2, 1) := by decide +kernel
theorem dX10_taken_53 : decode cX10_taken 53 = .ok (.if_icmp .ne 8, 3) := by decide +kernel
theorem dX10_taken_56 : decode cX10_taken 56 = .ok (.iload_n 3, 1) := by decide +kernel
theorem dX10_taken_57 : decode cX10_taken 57 = .ok (.iconst 5, 1) := by decide +kernel
theorem dX10_taken_58 : decode cX10_taken 58 = .ok (.if_icmp .eq 14, 3) := by decide +kernel
theorem dX10_taken_61 : decode cX10_taken 61 = .ok (.iload_n 2, 1) := by decide +kernel
theorem dX10_taken_62 : decode cX10_taken 62 = .ok (.iconst 3, 1) := by decide +kernel
theorem dX10_taken_63 : decode cX10_taken 63 = .ok (.if_icmp .ne 13, 3) := by decide +kernel
theorem dX10_taken_66 : decode cX10_taken 66 = .ok (.iload_n 3, 1) := by decide +kernel
theorem dX10_taken_67 : decode cX10_taken 67 = .ok (.bipush 6, 2) := by decide +kernel
theorem dX10_taken_69 : decode cX10_taken 69 = .ok (.if_icmp .ne 7, 3) := by decide +kernel
theorem dX10_taken_72 : decode cX10_taken 72 = .ok (.iload_n 3, 1) := by decide +kernel
theorem dX10_taken_73 : decode cX10_taken 73 = .ok (.goto 5, 3) := by decide +kernel
theorem dX10_taken_76 : decode cX10_taken 76 = .ok (.bipush (-12), 2) := by decide +kernel
theorem dX10_taken_78 : decode cX10_taken 78 = .ok (.ireturn, 1) := by decide +kernel
def f_X10_taken  (a0 : Int32) (a1 : Int32) (u : PM) : Option (Int32) :=
  (f_X10_in a1 (0 : Int32) (6 : Int32) u).bind fun r1 =>
  if r1 = 0 then
    some (-2 : Int32)
  else
  (f_X10_isHouse a0 u).bind fun r3 =>
  if r3 = 0 then
    some (-11 : Int32)
  else
  if a0 < 0 ∨ 6 ≤ a0.toNatClampNeg then none else
  if a1 = 0 then
    some (u.1 (42, 0, 0) a0.toNatClampNeg)
  else
  if (u.1 (42, 0, 0) a0.toNatClampNeg) = a1 then
    some (u.1 (42, 0, 0) a0.toNatClampNeg)
  else
  if a1 = (1 : Int32) then
    if (u.1 (42, 0, 0) a0.toNatClampNeg) = (4 : Int32) then
      some (u.1 (42, 0, 0) a0.toNatClampNeg)
    else
    if a1 = (2 : Int32) then
      if (u.1 (42, 0, 0) a0.toNatClampNeg) = (5 : Int32) then
        some (u.1 (42, 0, 0) a0.toNatClampNeg)
      else
      if a1 = (3 : Int32) then
        if (u.1 (42, 0, 0) a0.toNatClampNeg) = (6 : Int32) then
          some (u.1 (42, 0, 0) a0.toNatClampNeg)
        else
        some (-12 : Int32)
      else
      some (-12 : Int32)
    else
    if a1 = (3 : Int32) then
      if (u.1 (42, 0, 0) a0.toNatClampNeg) = (6 : Int32) then
        some (u.1 (42, 0, 0) a0.toNatClampNeg)
      else
      some (-12 : Int32)
    else
    some (-12 : Int32)
  else
  if a1 = (2 : Int32) then
    if (u.1 (42, 0, 0) a0.toNatClampNeg) = (5 : Int32) then
      some (u.1 (42, 0, 0) a0.toNatClampNeg)
    else
    if a1 = (3 : Int32) then
      if (u.1 (42, 0, 0) a0.toNatClampNeg) = (6 : Int32) then
        some (u.1 (42, 0, 0) a0.toNatClampNeg)
      else
      some (-12 : Int32)
    else
    some (-12 : Int32)
  else
  if a1 = (3 : Int32) then
    if (u.1 (42, 0, 0) a0.toNatClampNeg) = (6 : Int32) then
      some (u.1 (42, 0, 0) a0.toNatClampNeg)
    else
    some (-12 : Int32)
  else
  some (-12 : Int32)
set_option maxHeartbeats 4000000 in
set_option maxRecDepth 20000 in
theorem C_X10_taken {l : Launch}  {a0 : Int32} {a1 : Int32} {u : PM} {x : Int32} (hf : f_X10_taken a0 a1 u = some x) : Ev l mX10_taken 3 0 0 false [vR (40, 0, 0), vI a0, vI a1] kM (en u) (some (vI x), kM, en u) := by
  refine Ev_of (by decide +kernel) (le_b rfl) ?_
  unfold f_X10_taken at hf
  show X l mX10_taken 3 0 0 false _ kM 0 0 0 [some (vR (40, 0, 0)), some (vI a0), some (vI a1), none] [] (en u)
  refine r_aload_n (x := (40, 0, 0)) dX10_taken_0 rfl ?_
  refine r_iload_n (x := a1) dX10_taken_1 rfl ?_
  refine r_iconst (v := 0) dX10_taken_2 rfl ?_
  refine r_bipush (v := 6) dX10_taken_3 rfl ?_
  obtain ⟨r1, hr2, hf⟩ := am_bind hf
  refine r_callV (as := [vI a1, vI (0 : Int32), vI (6 : Int32)]) (st := []) (n := 3) mw_X10_267 mv_X10_in (C_X10_in (l := l) hr2) (le_b rfl) dX10_taken_5 (kM_mem (s := 40) (by decide)) rfl rfl rfl (le_b rfl) (le_b rfl) (le_b rfl) ?_
  show X l _ _ 0 0 false _ kM 0 0 8 [some (vR (40, 0, 0)), some (vI a0), some (vI a1), none] [vI r1] (en u)
  refine r_if_ne (tgt := 14) dX10_taken_8 (by decide) (fun hc => ?_) (fun hc => ?_)
  · have hf := (am_if hf).2 hc
    refine r_aload_n (x := (40, 0, 0)) dX10_taken_14 rfl ?_
    refine r_iload_n (x := a0) dX10_taken_15 rfl ?_
    obtain ⟨r3, hr4, hf⟩ := am_bind hf
    refine r_callV (as := [vI a0]) (st := []) (n := 1) mw_X10_271 mv_X10_isHouse (C_X10_isHouse (l := l) hr4) (le_b rfl) dX10_taken_16 (kM_mem (s := 40) (by decide)) rfl rfl rfl (le_b rfl) (le_b rfl) (le_b rfl) ?_
    show X l _ _ 0 0 false _ kM 0 0 19 [some (vR (40, 0, 0)), some (vI a0), some (vI a1), none] [vI r3] (en u)
    refine r_if_ne (tgt := 25) dX10_taken_19 (by decide) (fun hc => ?_) (fun hc => ?_)
    · have hf := (am_if hf).2 hc
      refine r_aload_n (x := (40, 0, 0)) dX10_taken_25 rfl ?_
      refine e_getr (z := some (42, 0, 0)) fw_X10_26 dX10_taken_26 (kM_mem (s := 40) (by decide)) rfl (lt_b rfl) rfl ?_
      refine r_iload_n (x := a0) dX10_taken_29 rfl ?_
      obtain ⟨h5, hf⟩ := am_nchk hf
      refine e_iald (n := a0.toNatClampNeg) dX10_taken_30 (kM_mem (s := 42) (by decide)) rfl h5 rfl rfl ?_
      refine r_istore_n (L' := [some (vR (40, 0, 0)), some (vI a0), some (vI a1), some (vI (u.1 (42, 0, 0) a0.toNatClampNeg))]) dX10_taken_31 (by decide) rfl ?_
      refine r_iload_n (x := a1) dX10_taken_32 rfl ?_
      refine r_if_eq (tgt := 72) dX10_taken_33 (by decide) (fun hc => ?_) (fun hc => ?_)
      · have hf := (am_if hf).1 hc
        refine r_iload_n (x := u.1 (42, 0, 0) a0.toNatClampNeg) dX10_taken_72 rfl ?_
        refine r_goto (tgt := 78) dX10_taken_73 (by decide) ?_
        have hx := am_inj hf
        subst hx
        exact r_iret dX10_taken_78 rfl rfl (le_b rfl) (le_b rfl)
      · have hf := (am_if hf).2 hc
        refine r_iload_n (x := u.1 (42, 0, 0) a0.toNatClampNeg) dX10_taken_36 rfl ?_
        refine r_iload_n (x := a1) dX10_taken_37 rfl ?_
        refine r_icmp_eq (tgt := 72) dX10_taken_38 (by decide) (fun hc => ?_) (fun hc => ?_)
        · have hf := (am_if hf).1 hc
          refine r_iload_n (x := u.1 (42, 0, 0) a0.toNatClampNeg) dX10_taken_72 rfl ?_
          refine r_goto (tgt := 78) dX10_taken_73 (by decide) ?_
          have hx := am_inj hf
          subst hx
          exact r_iret dX10_taken_78 rfl rfl (le_b rfl) (le_b rfl)
        · have hf := (am_if hf).2 hc
          refine r_iload_n (x := a1) dX10_taken_41 rfl ?_
          refine r_iconst (v := 1) dX10_taken_42 rfl ?_
          refine r_icmp_ne (tgt := 51) dX10_taken_43 (by decide) (fun hc => ?_) (fun hc => ?_)
          · have hf := (am_if hf).2 hc
            refine r_iload_n (x := a1) dX10_taken_51 rfl ?_
            refine r_iconst (v := 2) dX10_taken_52 rfl ?_
            refine r_icmp_ne (tgt := 61) dX10_taken_53 (by decide) (fun hc => ?_) (fun hc => ?_)
            · have hf := (am_if hf).2 hc
              refine r_iload_n (x := a1) dX10_taken_61 rfl ?_
              refine r_iconst (v := 3) dX10_taken_62 rfl ?_
              refine r_icmp_ne (tgt := 76) dX10_taken_63 (by decide) (fun hc => ?_) (fun hc => ?_)
              · have hf := (am_if hf).2 hc
                refine r_bipush (v := -12) dX10_taken_76 rfl ?_
                have hx := am_inj hf
                subst hx
                exact r_iret dX10_taken_78 rfl rfl (le_b rfl) (le_b rfl)
              · have hf := (am_if hf).1 hc
                refine r_iload_n (x := u.1 (42, 0, 0) a0.toNatClampNeg) dX10_taken_66 rfl ?_
                refine r_bipush (v := 6) dX10_taken_67 rfl ?_
                refine r_icmp_ne (tgt := 76) dX10_taken_69 (by decide) (fun hc => ?_) (fun hc => ?_)
                · have hf := (am_if hf).2 hc
                  refine r_bipush (v := -12) dX10_taken_76 rfl ?_
                  have hx := am_inj hf
                  subst hx
                  exact r_iret dX10_taken_78 rfl rfl (le_b rfl) (le_b rfl)
                · have hf := (am_if hf).1 hc
                  refine r_iload_n (x := u.1 (42, 0, 0) a0.toNatClampNeg) dX10_taken_72 rfl ?_
                  refine r_goto (tgt := 78) dX10_taken_73 (by decide) ?_
                  have hx := am_inj hf
                  subst hx
                  exact r_iret dX10_taken_78 rfl rfl (le_b rfl) (le_b rfl)
            · have hf := (am_if hf).1 hc
              refine r_iload_n (x := u.1 (42, 0, 0) a0.toNatClampNeg) dX10_taken_56 rfl ?_
              refine r_iconst (v := 5) dX10_taken_57 rfl ?_
              refine r_icmp_eq (tgt := 72) dX10_taken_58 (by decide) (fun hc => ?_) (fun hc => ?_)
              · have hf := (am_if hf).1 hc
                refine r_iload_n (x := u.1 (42, 0, 0) a0.toNatClampNeg) dX10_taken_72 rfl ?_
                refine r_goto (tgt := 78) dX10_taken_73 (by decide) ?_
                have hx := am_inj hf
                subst hx
                exact r_iret dX10_taken_78 rfl rfl (le_b rfl) (le_b rfl)
              · have hf := (am_if hf).2 hc
                refine r_iload_n (x := a1) dX10_taken_61 rfl ?_
                refine r_iconst (v := 3) dX10_taken_62 rfl ?_
                refine r_icmp_ne (tgt := 76) dX10_taken_63 (by decide) (fun hc => ?_) (fun hc => ?_)
                · have hf := (am_if hf).2 hc
                  refine r_bipush (v := -12) dX10_taken_76 rfl ?_
                  have hx := am_inj hf
                  subst hx
                  exact r_iret dX10_taken_78 rfl rfl (le_b rfl) (le_b rfl)
                · have hf := (am_if hf).1 hc
                  refine r_iload_n (x := u.1 (42, 0, 0) a0.toNatClampNeg) dX10_taken_66 rfl ?_
                  refine r_bipush (v := 6) dX10_taken_67 rfl ?_
                  refine r_icmp_ne (tgt := 76) dX10_taken_69 (by decide) (fun hc => ?_) (fun hc => ?_)
                  · have hf := (am_if hf).2 hc
                    refine r_bipush (v := -12) dX10_taken_76 rfl ?_
                    have hx := am_inj hf
                    subst hx
                    exact r_iret dX10_taken_78 rfl rfl (le_b rfl) (le_b rfl)
                  · have hf := (am_if hf).1 hc
                    refine r_iload_n (x := u.1 (42, 0, 0) a0.toNatClampNeg) dX10_taken_72 rfl ?_
                    refine r_goto (tgt := 78) dX10_taken_73 (by decide) ?_
                    have hx := am_inj hf
                    subst hx
                    exact r_iret dX10_taken_78 rfl rfl (le_b rfl) (le_b rfl)
          · have hf := (am_if hf).1 hc
            refine r_iload_n (x := u.1 (42, 0, 0) a0.toNatClampNeg) dX10_taken_46 rfl ?_
            refine r_iconst (v := 4) dX10_taken_47 rfl ?_
            refine r_icmp_eq (tgt := 72) dX10_taken_48 (by decide) (fun hc => ?_) (fun hc => ?_)
            · have hf := (am_if hf).1 hc
              refine r_iload_n (x := u.1 (42, 0, 0) a0.toNatClampNeg) dX10_taken_72 rfl ?_
              refine r_goto (tgt := 78) dX10_taken_73 (by decide) ?_
              have hx := am_inj hf
              subst hx
              exact r_iret dX10_taken_78 rfl rfl (le_b rfl) (le_b rfl)
            · have hf := (am_if hf).2 hc
              refine r_iload_n (x := a1) dX10_taken_51 rfl ?_
              refine r_iconst (v := 2) dX10_taken_52 rfl ?_
              refine r_icmp_ne (tgt := 61) dX10_taken_53 (by decide) (fun hc => ?_) (fun hc => ?_)
              · have hf := (am_if hf).2 hc
                refine r_iload_n (x := a1) dX10_taken_61 rfl ?_
                refine r_iconst (v := 3) dX10_taken_62 rfl ?_
                refine r_icmp_ne (tgt := 76) dX10_taken_63 (by decide) (fun hc => ?_) (fun hc => ?_)
                · have hf := (am_if hf).2 hc
                  refine r_bipush (v := -12) dX10_taken_76 rfl ?_
                  have hx := am_inj hf
                  subst hx
                  exact r_iret dX10_taken_78 rfl rfl (le_b rfl) (le_b rfl)
                · have hf := (am_if hf).1 hc
                  refine r_iload_n (x := u.1 (42, 0, 0) a0.toNatClampNeg) dX10_taken_66 rfl ?_
                  refine r_bipush (v := 6) dX10_taken_67 rfl ?_
                  refine r_icmp_ne (tgt := 76) dX10_taken_69 (by decide) (fun hc => ?_) (fun hc => ?_)
                  · have hf := (am_if hf).2 hc
                    refine r_bipush (v := -12) dX10_taken_76 rfl ?_
                    have hx := am_inj hf
                    subst hx
                    exact r_iret dX10_taken_78 rfl rfl (le_b rfl) (le_b rfl)
                  · have hf := (am_if hf).1 hc
                    refine r_iload_n (x := u.1 (42, 0, 0) a0.toNatClampNeg) dX10_taken_72 rfl ?_
                    refine r_goto (tgt := 78) dX10_taken_73 (by decide) ?_
                    have hx := am_inj hf
                    subst hx
                    exact r_iret dX10_taken_78 rfl rfl (le_b rfl) (le_b rfl)
              · have hf := (am_if hf).1 hc
                refine r_iload_n (x := u.1 (42, 0, 0) a0.toNatClampNeg) dX10_taken_56 rfl ?_
                refine r_iconst (v := 5) dX10_taken_57 rfl ?_
                refine r_icmp_eq (tgt := 72) dX10_taken_58 (by decide) (fun hc => ?_) (fun hc => ?_)
                · have hf := (am_if hf).1 hc
                  refine r_iload_n (x := u.1 (42, 0, 0) a0.toNatClampNeg) dX10_taken_72 rfl ?_
                  refine r_goto (tgt := 78) dX10_taken_73 (by decide) ?_
                  have hx := am_inj hf
                  subst hx
                  exact r_iret dX10_taken_78 rfl rfl (le_b rfl) (le_b rfl)
                · have hf := (am_if hf).2 hc
                  refine r_iload_n (x := a1) dX10_taken_61 rfl ?_
                  refine r_iconst (v := 3) dX10_taken_62 rfl ?_
                  refine r_icmp_ne (tgt := 76) dX10_taken_63 (by decide) (fun hc => ?_) (fun hc => ?_)
                  · have hf := (am_if hf).2 hc
                    refine r_bipush (v := -12) dX10_taken_76 rfl ?_
                    have hx := am_inj hf
                    subst hx
                    exact r_iret dX10_taken_78 rfl rfl (le_b rfl) (le_b rfl)
                  · have hf := (am_if hf).1 hc
                    refine r_iload_n (x := u.1 (42, 0, 0) a0.toNatClampNeg) dX10_taken_66 rfl ?_
                    refine r_bipush (v := 6) dX10_taken_67 rfl ?_
                    refine r_icmp_ne (tgt := 76) dX10_taken_69 (by decide) (fun hc => ?_) (fun hc => ?_)
                    · have hf := (am_if hf).2 hc
                      refine r_bipush (v := -12) dX10_taken_76 rfl ?_
                      have hx := am_inj hf
                      subst hx
                      exact r_iret dX10_taken_78 rfl rfl (le_b rfl) (le_b rfl)
                    · have hf := (am_if hf).1 hc
                      refine r_iload_n (x := u.1 (42, 0, 0) a0.toNatClampNeg) dX10_taken_72 rfl ?_
                      refine r_goto (tgt := 78) dX10_taken_73 (by decide) ?_
                      have hx := am_inj hf
                      subst hx
                      exact r_iret dX10_taken_78 rfl rfl (le_b rfl) (le_b rfl)
    · have hf := (am_if hf).1 hc
      refine r_bipush (v := -11) dX10_taken_22 rfl ?_
      have hx := am_inj hf
      subst hx
      exact r_iret dX10_taken_24 rfl rfl (le_b rfl) (le_b rfl)
  · have hf := (am_if hf).1 hc
    refine r_bipush (v := -2) dX10_taken_11 rfl ?_
    have hx := am_inj hf
    subst hx
    exact r_iret dX10_taken_13 rfl rfl (le_b rfl) (le_b rfl)
/-! FireFromFireModel.count -/
theorem dX10_count_0 : decode cX10_count 0 = .ok (.iload_n 1, 1) := by decide +kernel
theorem dX10_count_1 : decode cX10_count 1 = .ok (.tableswitch 91 0 7 #[47, 52, 57, 62, 67, 72, 77, 86], 47) := by decide +kernel
theorem dX10_count_48 : decode cX10_count 48 = .ok (.aload_n 0, 1) := by decide +kernel
theorem dX10_count_49 : decode cX10_count 49 = .ok (.getfield 7, 3) := by decide +kernel
theorem dX10_count_52 : decode cX10_count 52 = .ok (.ireturn, 1) := by decide +kernel
theorem dX10_count_53 : decode cX10_count 53 = .ok (.aload_n 0, 1) := by decide +kernel
theorem dX10_count_54 : decode cX10_count 54 = .ok (.getfield 50, 3) := by decide +kernel
theorem dX10_count_57 : decode cX10_count 57 = .ok (.ireturn, 1) := by decide +kernel
theorem dX10_count_58 : decode cX10_count 58 = .ok (.aload_n 0, 1) := by decide +kernel
theorem dX10_count_59 : decode cX10_count 59 = .ok (.getfield 150, 3) := by decide +kernel
theorem dX10_count_62 : decode cX10_count 62 = .ok (.ireturn, 1) := by decide +kernel
theorem dX10_count_63 : decode cX10_count 63 = .ok (.aload_n 0, 1) := by decide +kernel
theorem dX10_count_64 : decode cX10_count 64 = .ok (.getfield 56, 3) := by decide +kernel
theorem dX10_count_67 : decode cX10_count 67 = .ok (.ireturn, 1) := by decide +kernel
theorem dX10_count_68 : decode cX10_count 68 = .ok (.aload_n 0, 1) := by decide +kernel
theorem dX10_count_69 : decode cX10_count 69 = .ok (.getfield 16, 3) := by decide +kernel
theorem dX10_count_72 : decode cX10_count 72 = .ok (.ireturn, 1) := by decide +kernel
theorem dX10_count_73 : decode cX10_count 73 = .ok (.aload_n 0, 1) := by decide +kernel
theorem dX10_count_74 : decode cX10_count 74 = .ok (.getfield 19, 3) := by decide +kernel
theorem dX10_count_77 : decode cX10_count 77 = .ok (.ireturn, 1) := by decide +kernel
theorem dX10_count_78 : decode cX10_count 78 = .ok (.aload_n 0, 1) := by decide +kernel
theorem dX10_count_79 : decode cX10_count 79 = .ok (.aload_n 0, 1) := by decide +kernel
theorem dX10_count_80 : decode cX10_count 80 = .ok (.getfield 13, 3) := by decide +kernel
theorem dX10_count_83 : decode cX10_count 83 = .ok (.invokevirtual 351, 3) := by decide +kernel
theorem dX10_count_86 : decode cX10_count 86 = .ok (.ireturn, 1) := by decide +kernel
theorem dX10_count_87 : decode cX10_count 87 = .ok (.aload_n 0, 1) := by decide +kernel
theorem dX10_count_88 : decode cX10_count 88 = .ok (.getfield 248, 3) := by decide +kernel
theorem dX10_count_91 : decode cX10_count 91 = .ok (.ireturn, 1) := by decide +kernel
theorem dX10_count_92 : decode cX10_count 92 = .ok (.bipush (-2), 2) := by decide +kernel
theorem dX10_count_94 : decode cX10_count 94 = .ok (.ireturn, 1) := by decide +kernel
def f_X10_count  (a0 : Int32) (u : PM) : Option (Int32) :=
  if a0 = (0 : Int32) then
    some (u.1 (40, 0, 0) 0)
  else if a0 = (1 : Int32) then
    some (u.1 (40, 0, 0) 13)
  else if a0 = (2 : Int32) then
    some (u.1 (40, 0, 0) 46)
  else if a0 = (3 : Int32) then
    some (u.1 (40, 0, 0) 15)
  else if a0 = (4 : Int32) then
    some (u.1 (40, 0, 0) 2)
  else if a0 = (5 : Int32) then
    some (u.1 (40, 0, 0) 3)
  else if a0 = (6 : Int32) then
    (f_X10_ones (u.1 (40, 0, 0) 1) u).bind fun r1 =>
    some r1
  else if a0 = (7 : Int32) then
    some (u.1 (40, 0, 0) 78)
  else 
  some (-2 : Int32)
set_option maxHeartbeats 4000000 in
set_option maxRecDepth 20000 in
theorem C_X10_count {l : Launch}  {a0 : Int32} {u : PM} {x : Int32} (hf : f_X10_count a0 u = some x) : Ev l mX10_count 2 0 0 false [vR (40, 0, 0), vI a0] kM (en u) (some (vI x), kM, en u) := by
  refine Ev_of (by decide +kernel) (le_b rfl) ?_
  unfold f_X10_count at hf
  show X l mX10_count 2 0 0 false _ kM 0 0 0 [some (vR (40, 0, 0)), some (vI a0)] [] (en u)
  refine r_iload_n (x := a0) dX10_count_0 rfl ?_
  by_cases hs0 : a0 = (0 : Int32)
  · have hf := (am_if hf).1 hs0
    refine r_tswIn (x := a0) (kx := 0) (tgt := 48) dX10_count_1 hs0 (by decide) (by decide) rfl (by decide) ?_
    refine r_aload_n (x := (40, 0, 0)) dX10_count_48 rfl ?_
    refine e_geti fw_X10_7 dX10_count_49 (kM_mem (s := 40) (by decide)) rfl (lt_b rfl) ?_
    have hx := am_inj hf
    subst hx
    exact r_iret dX10_count_52 rfl rfl (le_b rfl) (le_b rfl)
  have hf := (am_if hf).2 hs0
  by_cases hs1 : a0 = (1 : Int32)
  · have hf := (am_if hf).1 hs1
    refine r_tswIn (x := a0) (kx := 1) (tgt := 53) dX10_count_1 hs1 (by decide) (by decide) rfl (by decide) ?_
    refine r_aload_n (x := (40, 0, 0)) dX10_count_53 rfl ?_
    refine e_geti fw_X10_50 dX10_count_54 (kM_mem (s := 40) (by decide)) rfl (lt_b rfl) ?_
    have hx := am_inj hf
    subst hx
    exact r_iret dX10_count_57 rfl rfl (le_b rfl) (le_b rfl)
  have hf := (am_if hf).2 hs1
  by_cases hs2 : a0 = (2 : Int32)
  · have hf := (am_if hf).1 hs2
    refine r_tswIn (x := a0) (kx := 2) (tgt := 58) dX10_count_1 hs2 (by decide) (by decide) rfl (by decide) ?_
    refine r_aload_n (x := (40, 0, 0)) dX10_count_58 rfl ?_
    refine e_geti fw_X10_150 dX10_count_59 (kM_mem (s := 40) (by decide)) rfl (lt_b rfl) ?_
    have hx := am_inj hf
    subst hx
    exact r_iret dX10_count_62 rfl rfl (le_b rfl) (le_b rfl)
  have hf := (am_if hf).2 hs2
  by_cases hs3 : a0 = (3 : Int32)
  · have hf := (am_if hf).1 hs3
    refine r_tswIn (x := a0) (kx := 3) (tgt := 63) dX10_count_1 hs3 (by decide) (by decide) rfl (by decide) ?_
    refine r_aload_n (x := (40, 0, 0)) dX10_count_63 rfl ?_
    refine e_geti fw_X10_56 dX10_count_64 (kM_mem (s := 40) (by decide)) rfl (lt_b rfl) ?_
    have hx := am_inj hf
    subst hx
    exact r_iret dX10_count_67 rfl rfl (le_b rfl) (le_b rfl)
  have hf := (am_if hf).2 hs3
  by_cases hs4 : a0 = (4 : Int32)
  · have hf := (am_if hf).1 hs4
    refine r_tswIn (x := a0) (kx := 4) (tgt := 68) dX10_count_1 hs4 (by decide) (by decide) rfl (by decide) ?_
    refine r_aload_n (x := (40, 0, 0)) dX10_count_68 rfl ?_
    refine e_geti fw_X10_16 dX10_count_69 (kM_mem (s := 40) (by decide)) rfl (lt_b rfl) ?_
    have hx := am_inj hf
    subst hx
    exact r_iret dX10_count_72 rfl rfl (le_b rfl) (le_b rfl)
  have hf := (am_if hf).2 hs4
  by_cases hs5 : a0 = (5 : Int32)
  · have hf := (am_if hf).1 hs5
    refine r_tswIn (x := a0) (kx := 5) (tgt := 73) dX10_count_1 hs5 (by decide) (by decide) rfl (by decide) ?_
    refine r_aload_n (x := (40, 0, 0)) dX10_count_73 rfl ?_
    refine e_geti fw_X10_19 dX10_count_74 (kM_mem (s := 40) (by decide)) rfl (lt_b rfl) ?_
    have hx := am_inj hf
    subst hx
    exact r_iret dX10_count_77 rfl rfl (le_b rfl) (le_b rfl)
  have hf := (am_if hf).2 hs5
  by_cases hs6 : a0 = (6 : Int32)
  · have hf := (am_if hf).1 hs6
    refine r_tswIn (x := a0) (kx := 6) (tgt := 78) dX10_count_1 hs6 (by decide) (by decide) rfl (by decide) ?_
    refine r_aload_n (x := (40, 0, 0)) dX10_count_78 rfl ?_
    refine r_aload_n (x := (40, 0, 0)) dX10_count_79 rfl ?_
    refine e_geti fw_X10_13 dX10_count_80 (kM_mem (s := 40) (by decide)) rfl (lt_b rfl) ?_
    obtain ⟨r1, hr2, hf⟩ := am_bind hf
    refine r_callV (as := [vI (u.1 (40, 0, 0) 1)]) (st := []) (n := 1) mw_X10_351 mv_X10_ones (C_X10_ones (l := l) hr2) (le_b rfl) dX10_count_83 (kM_mem (s := 40) (by decide)) rfl rfl rfl (le_b rfl) (le_b rfl) (le_b rfl) ?_
    show X l _ _ 0 0 false _ kM 0 0 86 [some (vR (40, 0, 0)), some (vI a0)] [vI r1] (en u)
    have hx := am_inj hf
    subst hx
    exact r_iret dX10_count_86 rfl rfl (le_b rfl) (le_b rfl)
  have hf := (am_if hf).2 hs6
  by_cases hs7 : a0 = (7 : Int32)
  · have hf := (am_if hf).1 hs7
    refine r_tswIn (x := a0) (kx := 7) (tgt := 87) dX10_count_1 hs7 (by decide) (by decide) rfl (by decide) ?_
    refine r_aload_n (x := (40, 0, 0)) dX10_count_87 rfl ?_
    refine e_geti fw_X10_248 dX10_count_88 (kM_mem (s := 40) (by decide)) rfl (lt_b rfl) ?_
    have hx := am_inj hf
    subst hx
    exact r_iret dX10_count_91 rfl rfl (le_b rfl) (le_b rfl)
  have hf := (am_if hf).2 hs7
  refine r_tswOut (x := a0) (tgt := 92) dX10_count_1 (by have ehs0 := am_neI hs0 (z := 0) rfl; have ehs1 := am_neI hs1 (z := 1) rfl; have ehs2 := am_neI hs2 (z := 2) rfl; have ehs3 := am_neI hs3 (z := 3) rfl; have ehs4 := am_neI hs4 (z := 4) rfl; have ehs5 := am_neI hs5 (z := 5) rfl; have ehs6 := am_neI hs6 (z := 6) rfl; have ehs7 := am_neI hs7 (z := 7) rfl; omega) (by decide) ?_
  refine r_bipush (v := -2) dX10_count_92 rfl ?_
  have hx := am_inj hf
  subst hx
  exact r_iret dX10_count_94 rfl rfl (le_b rfl) (le_b rfl)
/-! FireFromFireModel.tape -/
theorem dX10_tape_0 : decode cX10_tape 0 = .ok (.aload_n 0, 1) := by decide +kernel
theorem dX10_tape_1 : decode cX10_tape 1 = .ok (.iload_n 1, 1) := by decide +kernel
theorem dX10_tape_2 : decode cX10_tape 2 = .ok (.invokevirtual 435, 3) := by decide +kernel
theorem dX10_tape_5 : decode cX10_tape 5 = .ok (.ifCond .ne 5, 3) := by decide +kernel
theorem dX10_tape_8 : decode cX10_tape 8 = .ok (.iconst (-1), 1) := by decide +kernel
theorem dX10_tape_9 : decode cX10_tape 9 = .ok (.ireturn, 1) := by decide +kernel
theorem dX10_tape_10 : decode cX10_tape 10 = .ok (.aload_n 0, 1) := by decide +kernel
theorem dX10_tape_11 : decode cX10_tape 11 = .ok (.iload_n 2, 1) := by decide +kernel
theorem dX10_tape_12 : decode cX10_tape 12 = .ok (.iconst (-1), 1) := by decide +kernel
theorem dX10_tape_13 : decode cX10_tape 13 = .ok (.iconst 4, 1) := by decide +kernel
theorem dX10_tape_14 : decode cX10_tape 14 = .ok (.invokevirtual 267, 3) := by decide +kernel
theorem dX10_tape_17 : decode cX10_tape 17 = .ok (.ifCond .eq 13, 3) := by decide +kernel
theorem dX10_tape_20 : decode cX10_tape 20 = .ok (.iload_n 2, 1) := by decide +kernel
theorem dX10_tape_21 : decode cX10_tape 21 = .ok (.ifCond .lt 12, 3) := by decide +kernel
theorem dX10_tape_24 : decode cX10_tape 24 = .ok (.iload_n 3, 1) := by decide +kernel
theorem dX10_tape_25 : decode cX10_tape 25 = .ok (.bipush 60, 2) := by decide +kernel
theorem dX10_tape_27 : decode cX10_tape 27 = .ok (.if_icmp .le 6, 3) := by decide +kernel
theorem dX10_tape_30 : decode cX10_tape 30 = .ok (.bipush (-2), 2) := by decide +kernel
theorem dX10_tape_32 : decode cX10_tape 32 = .ok (.ireturn, 1) := by decide +kernel
theorem dX10_tape_33 : decode cX10_tape 33 = .ok (.iload_n 2, 1) := by decide +kernel
theorem dX10_tape_34 : decode cX10_tape 34 = .ok (.ifCond .lt 10, 3) := by decide +kernel
theorem dX10_tape_37 : decode cX10_tape 37 = .ok (.iload_n 3, 1) := by decide +kernel
theorem dX10_tape_38 : decode cX10_tape 38 = .ok (.ifCond .ge 6, 3) := by decide +kernel
theorem dX10_tape_41 : decode cX10_tape 41 = .ok (.bipush (-14), 2) := by decide +kernel
theorem dX10_tape_43 : decode cX10_tape 43 = .ok (.ireturn, 1) := by decide +kernel
theorem dX10_tape_44 : decode cX10_tape 44 = .ok (.aload_n 0, 1) := by decide +kernel
theorem dX10_tape_45 : decode cX10_tape 45 = .ok (.getfield 254, 3) := by decide +kernel
theorem dX10_tape_48 : decode cX10_tape 48 = .ok (.iload_n 1, 1) := by decide +kernel
theorem dX10_tape_49 : decode cX10_tape 49 = .ok (.iload_n 2, 1) := by decide +kernel
theorem dX10_tape_50 : decode cX10_tape 50 = .ok (.iastore, 1) := by decide +kernel
theorem dX10_tape_51 : decode cX10_tape 51 = .ok (.aload_n 0, 1) := by decide +kernel
theorem dX10_tape_52 : decode cX10_tape 52 = .ok (.getfield 257, 3) := by decide +kernel
theorem dX10_tape_55 : decode cX10_tape 55 = .ok (.iload_n 1, 1) := by decide +kernel
theorem dX10_tape_56 : decode cX10_tape 56 = .ok (.iload_n 2, 1) := by decide +kernel
theorem dX10_tape_57 : decode cX10_tape 57 = .ok (.ifCond .ge 7, 3) := by decide +kernel
theorem dX10_tape_60 : decode cX10_tape 60 = .ok (.iconst 0, 1) := by decide +kernel
theorem dX10_tape_61 : decode cX10_tape 61 = .ok (.goto 4, 3) := by decide +kernel
theorem dX10_tape_64 : decode cX10_tape 64 = .ok (.iload_n 3, 1) := by decide +kernel
theorem dX10_tape_65 : decode cX10_tape 65 = .ok (.iastore, 1) := by decide +kernel
theorem dX10_tape_66 : decode cX10_tape 66 = .ok (.iconst 0, 1) := by decide +kernel
theorem dX10_tape_67 : decode cX10_tape 67 = .ok (.istore 4, 2) := by decide +kernel
theorem dX10_tape_69 : decode cX10_tape 69 = .ok (.iload 4, 2) := by decide +kernel
theorem dX10_tape_71 : decode cX10_tape 71 = .ok (.bipush 60, 2) := by decide +kernel
theorem dX10_tape_73 : decode cX10_tape 73 = .ok (.if_icmp .ge 22, 3) := by decide +kernel
theorem dX10_tape_76 : decode cX10_tape 76 = .ok (.aload_n 0, 1) := by decide +kernel
theorem dX10_tape_77 : decode cX10_tape 77 = .ok (.getfield 260, 3) := by decide +kernel
theorem dX10_tape_80 : decode cX10_tape 80 = .ok (.bipush 60, 2) := by decide +kernel
theorem dX10_tape_82 : decode cX10_tape 82 = .ok (.iload_n 1, 1) := by decide +kernel
theorem dX10_tape_83 : decode cX10_tape 83 = .ok (.imul, 1) := by decide +kernel
theorem dX10_tape_84 : decode cX10_tape 84 = .ok (.iload 4, 2) := by decide +kernel
theorem dX10_tape_86 : decode cX10_tape 86 = .ok (.iadd, 1) := by decide +kernel
theorem dX10_tape_87 : decode cX10_tape 87 = .ok (.lconst 0, 1) := by decide +kernel
theorem dX10_tape_88 : decode cX10_tape 88 = .ok (.lastore, 1) := by decide +kernel
theorem dX10_tape_89 : decode cX10_tape 89 = .ok (.iinc 4 1, 3) := by decide +kernel
theorem dX10_tape_92 : decode cX10_tape 92 = .ok (.goto (-23), 3) := by decide +kernel
theorem dX10_tape_95 : decode cX10_tape 95 = .ok (.iconst 1, 1) := by decide +kernel
theorem dX10_tape_96 : decode cX10_tape 96 = .ok (.ireturn, 1) := by decide +kernel
def f_X10_tape_L69  (c1 : Int32) : Int32 × PM → Option ((Int32 × PM) ⊕ (PM)) := fun (x4 , u) =>
  if (60 : Int32) ≤ x4 then
    some (.inr (u))
  else
  if (((60 : Int32) * c1) + x4) < 0 ∨ 360 ≤ (((60 : Int32) * c1) + x4).toNatClampNeg then none else
  some (.inl (x4 + (1 : Int32), (pl u (92, 0, 0) ((((60 : Int32) * c1) + x4).toNatClampNeg) (0 : Int64))))
set_option maxHeartbeats 4000000 in
set_option maxRecDepth 20000 in
theorem K_X10_tape_L69 {l : Launch} {T : Option AV × List Key × AM}  {c1 : Int32} : ∀ (n : Nat) (s : Int32 × PM) (e0 : PM), am_loop (f_X10_tape_L69 c1) n s = some e0 → (fun e : PM => X l mX10_tape 3 0 0 false T kM 0 0 95 [none, none, none, none, none] [] (en e)) e0 → X l mX10_tape 3 0 0 false T kM 0 0 69 [some (vR (40, 0, 0)), some (vI c1), none, none, some (vI s.1)] [] (en s.2) := by
  refine am_loop_of ?_
  intro s x hf k1 k2
  obtain ⟨x4 , u⟩ := s
  unfold f_X10_tape_L69 at hf
  show X l mX10_tape 3 0 0 false T kM 0 0 69 [some (vR (40, 0, 0)), some (vI c1), none, none, some (vI x4)] [] (en u)
  refine r_iload (x := x4) dX10_tape_69 rfl ?_
  refine r_bipush (v := 60) dX10_tape_71 rfl ?_
  refine r_icmp_ge (tgt := 95) dX10_tape_73 (by decide) (fun hc => ?_) (fun hc => ?_)
  · have hf := (am_if hf).1 hc
    refine r_weak (L' := [none, none, none, none, none]) trivial ?_
    exact k2 (u) (am_inj hf).symm
  · have hf := (am_if hf).2 hc
    refine r_aload_n (x := (40, 0, 0)) dX10_tape_76 rfl ?_
    refine e_getr (z := some (92, 0, 0)) fw_X10_260 dX10_tape_77 (kM_mem (s := 40) (by decide)) rfl (lt_b rfl) rfl ?_
    refine r_bipush (v := 60) dX10_tape_80 rfl ?_
    refine r_iload_n (x := c1) dX10_tape_82 rfl ?_
    refine r_imul dX10_tape_83 ?_
    refine r_iload (x := x4) dX10_tape_84 rfl ?_
    refine r_iadd dX10_tape_86 ?_
    refine r_lconst (v := 0) dX10_tape_87 rfl ?_
    obtain ⟨h6, hf⟩ := am_nchk hf
    refine e_last (n := (((60 : Int32) * c1) + x4).toNatClampNeg) dX10_tape_88 (kM_mem (s := 92) (by decide)) rfl h6 rfl ?_
    refine r_iinc (x := x4) (v := x4 + (1 : Int32)) (L' := [some (vR (40, 0, 0)), some (vI c1), none, none, some (vI (x4 + (1 : Int32)))]) dX10_tape_89 rfl rfl (lt_b rfl) rfl ?_
    refine r_goto (tgt := 69) dX10_tape_92 (by decide) ?_
    refine r_weak (L' := [some (vR (40, 0, 0)), some (vI c1), none, none, some (vI (x4 + (1 : Int32)))]) (And.intro rfl (And.intro rfl (And.intro rfl trivial))) ?_
    exact k1 (x4 + (1 : Int32), (pl u (92, 0, 0) ((((60 : Int32) * c1) + x4).toNatClampNeg) (0 : Int64))) (am_inj hf).symm
def f_X10_tape  (a0 : Int32) (a1 : Int32) (a2 : Int32) (u : PM) : Option (Int32 × PM) :=
  (f_X10_isTape a0 u).bind fun r1 =>
  if r1 = 0 then
    some ((-1 : Int32), u)
  else
  (f_X10_in a1 (-1 : Int32) (4 : Int32) u).bind fun r3 =>
  if r3 = 0 then
    some ((-2 : Int32), u)
  else
  if a1 < 0 then
    if a1 < 0 then
      if a0 < 0 ∨ 6 ≤ a0.toNatClampNeg then none else
      if 0 ≤ a1 then
        (am_loop (f_X10_tape_L69 a0) 2000 ((0 : Int32), (pi (pi u (90, 0, 0) a0.toNatClampNeg a1) (91, 0, 0) a0.toNatClampNeg a2))).bind fun u9 =>
        some ((1 : Int32), u9)
      else
      (am_loop (f_X10_tape_L69 a0) 2000 ((0 : Int32), (pi (pi u (90, 0, 0) a0.toNatClampNeg a1) (91, 0, 0) a0.toNatClampNeg (0 : Int32)))).bind fun u12 =>
      some ((1 : Int32), u12)
    else
    if 0 ≤ a2 then
      if a0 < 0 ∨ 6 ≤ a0.toNatClampNeg then none else
      if 0 ≤ a1 then
        (am_loop (f_X10_tape_L69 a0) 2000 ((0 : Int32), (pi (pi u (90, 0, 0) a0.toNatClampNeg a1) (91, 0, 0) a0.toNatClampNeg a2))).bind fun u16 =>
        some ((1 : Int32), u16)
      else
      (am_loop (f_X10_tape_L69 a0) 2000 ((0 : Int32), (pi (pi u (90, 0, 0) a0.toNatClampNeg a1) (91, 0, 0) a0.toNatClampNeg (0 : Int32)))).bind fun u19 =>
      some ((1 : Int32), u19)
    else
    some ((-14 : Int32), u)
  else
  if a2 ≤ (60 : Int32) then
    if a1 < 0 then
      if a0 < 0 ∨ 6 ≤ a0.toNatClampNeg then none else
      if 0 ≤ a1 then
        (am_loop (f_X10_tape_L69 a0) 2000 ((0 : Int32), (pi (pi u (90, 0, 0) a0.toNatClampNeg a1) (91, 0, 0) a0.toNatClampNeg a2))).bind fun u23 =>
        some ((1 : Int32), u23)
      else
      (am_loop (f_X10_tape_L69 a0) 2000 ((0 : Int32), (pi (pi u (90, 0, 0) a0.toNatClampNeg a1) (91, 0, 0) a0.toNatClampNeg (0 : Int32)))).bind fun u26 =>
      some ((1 : Int32), u26)
    else
    if 0 ≤ a2 then
      if a0 < 0 ∨ 6 ≤ a0.toNatClampNeg then none else
      if 0 ≤ a1 then
        (am_loop (f_X10_tape_L69 a0) 2000 ((0 : Int32), (pi (pi u (90, 0, 0) a0.toNatClampNeg a1) (91, 0, 0) a0.toNatClampNeg a2))).bind fun u30 =>
        some ((1 : Int32), u30)
      else
      (am_loop (f_X10_tape_L69 a0) 2000 ((0 : Int32), (pi (pi u (90, 0, 0) a0.toNatClampNeg a1) (91, 0, 0) a0.toNatClampNeg (0 : Int32)))).bind fun u33 =>
      some ((1 : Int32), u33)
    else
    some ((-14 : Int32), u)
  else
  some ((-2 : Int32), u)
set_option maxHeartbeats 4000000 in
set_option maxRecDepth 20000 in
theorem C_X10_tape {l : Launch}  {a0 : Int32} {a1 : Int32} {a2 : Int32} {u : PM} {x : Int32 × PM} (hf : f_X10_tape a0 a1 a2 u = some x) : Ev l mX10_tape 3 0 0 false [vR (40, 0, 0), vI a0, vI a1, vI a2] kM (en u) (some (vI x.1), kM, en x.2) := by
  refine Ev_of (by decide +kernel) (le_b rfl) ?_
  unfold f_X10_tape at hf
  show X l mX10_tape 3 0 0 false _ kM 0 0 0 [some (vR (40, 0, 0)), some (vI a0), some (vI a1), some (vI a2), none] [] (en u)
  refine r_aload_n (x := (40, 0, 0)) dX10_tape_0 rfl ?_
  refine r_iload_n (x := a0) dX10_tape_1 rfl ?_
  obtain ⟨r1, hr2, hf⟩ := am_bind hf
  refine r_callV (as := [vI a0]) (st := []) (n := 1) mw_X10_435 mv_X10_isTape (C_X10_isTape (l := l) hr2) (le_b rfl) dX10_tape_2 (kM_mem (s := 40) (by decide)) rfl rfl rfl (le_b rfl) (le_b rfl) (le_b rfl) ?_
  show X l _ _ 0 0 false _ kM 0 0 5 [some (vR (40, 0, 0)), some (vI a0), some (vI a1), some (vI a2), none] [vI r1] (en u)
  refine r_if_ne (tgt := 10) dX10_tape_5 (by decide) (fun hc => ?_) (fun hc => ?_)
  · have hf := (am_if hf).2 hc
    refine r_aload_n (x := (40, 0, 0)) dX10_tape_10 rfl ?_
    refine r_iload_n (x := a1) dX10_tape_11 rfl ?_
    refine r_iconst (v := -1) dX10_tape_12 rfl ?_
    refine r_iconst (v := 4) dX10_tape_13 rfl ?_
    obtain ⟨r3, hr4, hf⟩ := am_bind hf
    refine r_callV (as := [vI a1, vI (-1 : Int32), vI (4 : Int32)]) (st := []) (n := 3) mw_X10_267 mv_X10_in (C_X10_in (l := l) hr4) (le_b rfl) dX10_tape_14 (kM_mem (s := 40) (by decide)) rfl rfl rfl (le_b rfl) (le_b rfl) (le_b rfl) ?_
    show X l _ _ 0 0 false _ kM 0 0 17 [some (vR (40, 0, 0)), some (vI a0), some (vI a1), some (vI a2), none] [vI r3] (en u)
    refine r_if_eq (tgt := 30) dX10_tape_17 (by decide) (fun hc => ?_) (fun hc => ?_)
    · have hf := (am_if hf).1 hc
      refine r_bipush (v := -2) dX10_tape_30 rfl ?_
      have hx := am_inj hf
      subst hx
      exact r_iret dX10_tape_32 rfl rfl (le_b rfl) (le_b rfl)
    · have hf := (am_if hf).2 hc
      refine r_iload_n (x := a1) dX10_tape_20 rfl ?_
      refine r_if_lt (tgt := 33) dX10_tape_21 (by decide) (fun hc => ?_) (fun hc => ?_)
      · have hf := (am_if hf).1 hc
        refine r_iload_n (x := a1) dX10_tape_33 rfl ?_
        refine r_if_lt (tgt := 44) dX10_tape_34 (by decide) (fun hc => ?_) (fun hc => ?_)
        · have hf := (am_if hf).1 hc
          refine r_aload_n (x := (40, 0, 0)) dX10_tape_44 rfl ?_
          refine e_getr (z := some (90, 0, 0)) fw_X10_254 dX10_tape_45 (kM_mem (s := 40) (by decide)) rfl (lt_b rfl) rfl ?_
          refine r_iload_n (x := a0) dX10_tape_48 rfl ?_
          refine r_iload_n (x := a1) dX10_tape_49 rfl ?_
          obtain ⟨h5, hf⟩ := am_nchk hf
          refine e_iast (n := a0.toNatClampNeg) dX10_tape_50 (kM_mem (s := 90) (by decide)) rfl h5 rfl ?_
          refine r_aload_n (x := (40, 0, 0)) dX10_tape_51 rfl ?_
          refine e_getr (z := some (91, 0, 0)) fw_X10_257 dX10_tape_52 (kM_mem (s := 40) (by decide)) rfl (lt_b rfl) rfl ?_
          refine r_iload_n (x := a0) dX10_tape_55 rfl ?_
          refine r_iload_n (x := a1) dX10_tape_56 rfl ?_
          refine r_if_ge (tgt := 64) dX10_tape_57 (by decide) (fun hc => ?_) (fun hc => ?_)
          · have hf := (am_if hf).1 hc
            refine r_iload_n (x := a2) dX10_tape_64 rfl ?_
            refine e_iast (n := a0.toNatClampNeg) dX10_tape_65 (kM_mem (s := 91) (by decide)) rfl h5 rfl ?_
            refine r_iconst (v := 0) dX10_tape_66 rfl ?_
            refine r_istore (L' := [some (vR (40, 0, 0)), some (vI a0), some (vI a1), some (vI a2), some (vI (0 : Int32))]) dX10_tape_67 (by decide) rfl ?_
            refine r_weak (L' := [some (vR (40, 0, 0)), some (vI a0), none, none, some (vI (0 : Int32))]) (And.intro rfl (And.intro rfl (And.intro rfl trivial))) ?_
            obtain ⟨e7, he8, hf⟩ := am_bind hf
            refine K_X10_tape_L69  2000 ((0 : Int32), (pi (pi u (90, 0, 0) a0.toNatClampNeg a1) (91, 0, 0) a0.toNatClampNeg a2)) _ he8 ?_
            obtain ⟨u9, rfl⟩ : ∃ z, z = e7 := ⟨_, rfl⟩
            show X l _ _ 0 0 false _ kM 0 0 95 [none, none, none, none, none] [] (en u9)
            refine r_iconst (v := 1) dX10_tape_95 rfl ?_
            have hx := am_inj hf
            subst hx
            exact r_iret dX10_tape_96 rfl rfl (le_b rfl) (le_b rfl)
          · have hf := (am_if hf).2 hc
            refine r_iconst (v := 0) dX10_tape_60 rfl ?_
            refine r_goto (tgt := 65) dX10_tape_61 (by decide) ?_
            refine e_iast (n := a0.toNatClampNeg) dX10_tape_65 (kM_mem (s := 91) (by decide)) rfl h5 rfl ?_
            refine r_iconst (v := 0) dX10_tape_66 rfl ?_
            refine r_istore (L' := [some (vR (40, 0, 0)), some (vI a0), some (vI a1), some (vI a2), some (vI (0 : Int32))]) dX10_tape_67 (by decide) rfl ?_
            refine r_weak (L' := [some (vR (40, 0, 0)), some (vI a0), none, none, some (vI (0 : Int32))]) (And.intro rfl (And.intro rfl (And.intro rfl trivial))) ?_
            obtain ⟨e10, he11, hf⟩ := am_bind hf
            refine K_X10_tape_L69  2000 ((0 : Int32), (pi (pi u (90, 0, 0) a0.toNatClampNeg a1) (91, 0, 0) a0.toNatClampNeg (0 : Int32))) _ he11 ?_
            obtain ⟨u12, rfl⟩ : ∃ z, z = e10 := ⟨_, rfl⟩
            show X l _ _ 0 0 false _ kM 0 0 95 [none, none, none, none, none] [] (en u12)
            refine r_iconst (v := 1) dX10_tape_95 rfl ?_
            have hx := am_inj hf
            subst hx
            exact r_iret dX10_tape_96 rfl rfl (le_b rfl) (le_b rfl)
        · have hf := (am_if hf).2 hc
          refine r_iload_n (x := a2) dX10_tape_37 rfl ?_
          refine r_if_ge (tgt := 44) dX10_tape_38 (by decide) (fun hc => ?_) (fun hc => ?_)
          · have hf := (am_if hf).1 hc
            refine r_aload_n (x := (40, 0, 0)) dX10_tape_44 rfl ?_
            refine e_getr (z := some (90, 0, 0)) fw_X10_254 dX10_tape_45 (kM_mem (s := 40) (by decide)) rfl (lt_b rfl) rfl ?_
            refine r_iload_n (x := a0) dX10_tape_48 rfl ?_
            refine r_iload_n (x := a1) dX10_tape_49 rfl ?_
            obtain ⟨h13, hf⟩ := am_nchk hf
            refine e_iast (n := a0.toNatClampNeg) dX10_tape_50 (kM_mem (s := 90) (by decide)) rfl h13 rfl ?_
            refine r_aload_n (x := (40, 0, 0)) dX10_tape_51 rfl ?_
            refine e_getr (z := some (91, 0, 0)) fw_X10_257 dX10_tape_52 (kM_mem (s := 40) (by decide)) rfl (lt_b rfl) rfl ?_
            refine r_iload_n (x := a0) dX10_tape_55 rfl ?_
            refine r_iload_n (x := a1) dX10_tape_56 rfl ?_
            refine r_if_ge (tgt := 64) dX10_tape_57 (by decide) (fun hc => ?_) (fun hc => ?_)
            · have hf := (am_if hf).1 hc
              refine r_iload_n (x := a2) dX10_tape_64 rfl ?_
              refine e_iast (n := a0.toNatClampNeg) dX10_tape_65 (kM_mem (s := 91) (by decide)) rfl h13 rfl ?_
              refine r_iconst (v := 0) dX10_tape_66 rfl ?_
              refine r_istore (L' := [some (vR (40, 0, 0)), some (vI a0), some (vI a1), some (vI a2), some (vI (0 : Int32))]) dX10_tape_67 (by decide) rfl ?_
              refine r_weak (L' := [some (vR (40, 0, 0)), some (vI a0), none, none, some (vI (0 : Int32))]) (And.intro rfl (And.intro rfl (And.intro rfl trivial))) ?_
              obtain ⟨e14, he15, hf⟩ := am_bind hf
              refine K_X10_tape_L69  2000 ((0 : Int32), (pi (pi u (90, 0, 0) a0.toNatClampNeg a1) (91, 0, 0) a0.toNatClampNeg a2)) _ he15 ?_
              obtain ⟨u16, rfl⟩ : ∃ z, z = e14 := ⟨_, rfl⟩
              show X l _ _ 0 0 false _ kM 0 0 95 [none, none, none, none, none] [] (en u16)
              refine r_iconst (v := 1) dX10_tape_95 rfl ?_
              have hx := am_inj hf
              subst hx
              exact r_iret dX10_tape_96 rfl rfl (le_b rfl) (le_b rfl)
            · have hf := (am_if hf).2 hc
              refine r_iconst (v := 0) dX10_tape_60 rfl ?_
              refine r_goto (tgt := 65) dX10_tape_61 (by decide) ?_
              refine e_iast (n := a0.toNatClampNeg) dX10_tape_65 (kM_mem (s := 91) (by decide)) rfl h13 rfl ?_
              refine r_iconst (v := 0) dX10_tape_66 rfl ?_
              refine r_istore (L' := [some (vR (40, 0, 0)), some (vI a0), some (vI a1), some (vI a2), some (vI (0 : Int32))]) dX10_tape_67 (by decide) rfl ?_
              refine r_weak (L' := [some (vR (40, 0, 0)), some (vI a0), none, none, some (vI (0 : Int32))]) (And.intro rfl (And.intro rfl (And.intro rfl trivial))) ?_
              obtain ⟨e17, he18, hf⟩ := am_bind hf
              refine K_X10_tape_L69  2000 ((0 : Int32), (pi (pi u (90, 0, 0) a0.toNatClampNeg a1) (91, 0, 0) a0.toNatClampNeg (0 : Int32))) _ he18 ?_
              obtain ⟨u19, rfl⟩ : ∃ z, z = e17 := ⟨_, rfl⟩
              show X l _ _ 0 0 false _ kM 0 0 95 [none, none, none, none, none] [] (en u19)
              refine r_iconst (v := 1) dX10_tape_95 rfl ?_
              have hx := am_inj hf
              subst hx
              exact r_iret dX10_tape_96 rfl rfl (le_b rfl) (le_b rfl)
          · have hf := (am_if hf).2 hc
            refine r_bipush (v := -14) dX10_tape_41 rfl ?_
            have hx := am_inj hf
            subst hx
            exact r_iret dX10_tape_43 rfl rfl (le_b rfl) (le_b rfl)
      · have hf := (am_if hf).2 hc
        refine r_iload_n (x := a2) dX10_tape_24 rfl ?_
        refine r_bipush (v := 60) dX10_tape_25 rfl ?_
        refine r_icmp_le (tgt := 33) dX10_tape_27 (by decide) (fun hc => ?_) (fun hc => ?_)
        · have hf := (am_if hf).1 hc
          refine r_iload_n (x := a1) dX10_tape_33 rfl ?_
          refine r_if_lt (tgt := 44) dX10_tape_34 (by decide) (fun hc => ?_) (fun hc => ?_)
          · have hf := (am_if hf).1 hc
            refine r_aload_n (x := (40, 0, 0)) dX10_tape_44 rfl ?_
            refine e_getr (z := some (90, 0, 0)) fw_X10_254 dX10_tape_45 (kM_mem (s := 40) (by decide)) rfl (lt_b rfl) rfl ?_
            refine r_iload_n (x := a0) dX10_tape_48 rfl ?_
            refine r_iload_n (x := a1) dX10_tape_49 rfl ?_
            obtain ⟨h20, hf⟩ := am_nchk hf
            refine e_iast (n := a0.toNatClampNeg) dX10_tape_50 (kM_mem (s := 90) (by decide)) rfl h20 rfl ?_
            refine r_aload_n (x := (40, 0, 0)) dX10_tape_51 rfl ?_
            refine e_getr (z := some (91, 0, 0)) fw_X10_257 dX10_tape_52 (kM_mem (s := 40) (by decide)) rfl (lt_b rfl) rfl ?_
            refine r_iload_n (x := a0) dX10_tape_55 rfl ?_
            refine r_iload_n (x := a1) dX10_tape_56 rfl ?_
            refine r_if_ge (tgt := 64) dX10_tape_57 (by decide) (fun hc => ?_) (fun hc => ?_)
            · have hf := (am_if hf).1 hc
              refine r_iload_n (x := a2) dX10_tape_64 rfl ?_
              refine e_iast (n := a0.toNatClampNeg) dX10_tape_65 (kM_mem (s := 91) (by decide)) rfl h20 rfl ?_
              refine r_iconst (v := 0) dX10_tape_66 rfl ?_
              refine r_istore (L' := [some (vR (40, 0, 0)), some (vI a0), some (vI a1), some (vI a2), some (vI (0 : Int32))]) dX10_tape_67 (by decide) rfl ?_
              refine r_weak (L' := [some (vR (40, 0, 0)), some (vI a0), none, none, some (vI (0 : Int32))]) (And.intro rfl (And.intro rfl (And.intro rfl trivial))) ?_
              obtain ⟨e21, he22, hf⟩ := am_bind hf
              refine K_X10_tape_L69  2000 ((0 : Int32), (pi (pi u (90, 0, 0) a0.toNatClampNeg a1) (91, 0, 0) a0.toNatClampNeg a2)) _ he22 ?_
              obtain ⟨u23, rfl⟩ : ∃ z, z = e21 := ⟨_, rfl⟩
              show X l _ _ 0 0 false _ kM 0 0 95 [none, none, none, none, none] [] (en u23)
              refine r_iconst (v := 1) dX10_tape_95 rfl ?_
              have hx := am_inj hf
              subst hx
              exact r_iret dX10_tape_96 rfl rfl (le_b rfl) (le_b rfl)
            · have hf := (am_if hf).2 hc
              refine r_iconst (v := 0) dX10_tape_60 rfl ?_
              refine r_goto (tgt := 65) dX10_tape_61 (by decide) ?_
              refine e_iast (n := a0.toNatClampNeg) dX10_tape_65 (kM_mem (s := 91) (by decide)) rfl h20 rfl ?_
              refine r_iconst (v := 0) dX10_tape_66 rfl ?_
              refine r_istore (L' := [some (vR (40, 0, 0)), some (vI a0), some (vI a1), some (vI a2), some (vI (0 : Int32))]) dX10_tape_67 (by decide) rfl ?_
              refine r_weak (L' := [some (vR (40, 0, 0)), some (vI a0), none, none, some (vI (0 : Int32))]) (And.intro rfl (And.intro rfl (And.intro rfl trivial))) ?_
              obtain ⟨e24, he25, hf⟩ := am_bind hf
              refine K_X10_tape_L69  2000 ((0 : Int32), (pi (pi u (90, 0, 0) a0.toNatClampNeg a1) (91, 0, 0) a0.toNatClampNeg (0 : Int32))) _ he25 ?_
              obtain ⟨u26, rfl⟩ : ∃ z, z = e24 := ⟨_, rfl⟩
              show X l _ _ 0 0 false _ kM 0 0 95 [none, none, none, none, none] [] (en u26)
              refine r_iconst (v := 1) dX10_tape_95 rfl ?_
              have hx := am_inj hf
              subst hx
              exact r_iret dX10_tape_96 rfl rfl (le_b rfl) (le_b rfl)
          · have hf := (am_if hf).2 hc
            refine r_iload_n (x := a2) dX10_tape_37 rfl ?_
            refine r_if_ge (tgt := 44) dX10_tape_38 (by decide) (fun hc => ?_) (fun hc => ?_)
            · have hf := (am_if hf).1 hc
              refine r_aload_n (x := (40, 0, 0)) dX10_tape_44 rfl ?_
              refine e_getr (z := some (90, 0, 0)) fw_X10_254 dX10_tape_45 (kM_mem (s := 40) (by decide)) rfl (lt_b rfl) rfl ?_
              refine r_iload_n (x := a0) dX10_tape_48 rfl ?_
              refine r_iload_n (x := a1) dX10_tape_49 rfl ?_
              obtain ⟨h27, hf⟩ := am_nchk hf
              refine e_iast (n := a0.toNatClampNeg) dX10_tape_50 (kM_mem (s := 90) (by decide)) rfl h27 rfl ?_
              refine r_aload_n (x := (40, 0, 0)) dX10_tape_51 rfl ?_
              refine e_getr (z := some (91, 0, 0)) fw_X10_257 dX10_tape_52 (kM_mem (s := 40) (by decide)) rfl (lt_b rfl) rfl ?_
              refine r_iload_n (x := a0) dX10_tape_55 rfl ?_
              refine r_iload_n (x := a1) dX10_tape_56 rfl ?_
              refine r_if_ge (tgt := 64) dX10_tape_57 (by decide) (fun hc => ?_) (fun hc => ?_)
              · have hf := (am_if hf).1 hc
                refine r_iload_n (x := a2) dX10_tape_64 rfl ?_
                refine e_iast (n := a0.toNatClampNeg) dX10_tape_65 (kM_mem (s := 91) (by decide)) rfl h27 rfl ?_
                refine r_iconst (v := 0) dX10_tape_66 rfl ?_
                refine r_istore (L' := [some (vR (40, 0, 0)), some (vI a0), some (vI a1), some (vI a2), some (vI (0 : Int32))]) dX10_tape_67 (by decide) rfl ?_
                refine r_weak (L' := [some (vR (40, 0, 0)), some (vI a0), none, none, some (vI (0 : Int32))]) (And.intro rfl (And.intro rfl (And.intro rfl trivial))) ?_
                obtain ⟨e28, he29, hf⟩ := am_bind hf
                refine K_X10_tape_L69  2000 ((0 : Int32), (pi (pi u (90, 0, 0) a0.toNatClampNeg a1) (91, 0, 0) a0.toNatClampNeg a2)) _ he29 ?_
                obtain ⟨u30, rfl⟩ : ∃ z, z = e28 := ⟨_, rfl⟩
                show X l _ _ 0 0 false _ kM 0 0 95 [none, none, none, none, none] [] (en u30)
                refine r_iconst (v := 1) dX10_tape_95 rfl ?_
                have hx := am_inj hf
                subst hx
                exact r_iret dX10_tape_96 rfl rfl (le_b rfl) (le_b rfl)
              · have hf := (am_if hf).2 hc
                refine r_iconst (v := 0) dX10_tape_60 rfl ?_
                refine r_goto (tgt := 65) dX10_tape_61 (by decide) ?_
                refine e_iast (n := a0.toNatClampNeg) dX10_tape_65 (kM_mem (s := 91) (by decide)) rfl h27 rfl ?_
                refine r_iconst (v := 0) dX10_tape_66 rfl ?_
                refine r_istore (L' := [some (vR (40, 0, 0)), some (vI a0), some (vI a1), some (vI a2), some (vI (0 : Int32))]) dX10_tape_67 (by decide) rfl ?_
                refine r_weak (L' := [some (vR (40, 0, 0)), some (vI a0), none, none, some (vI (0 : Int32))]) (And.intro rfl (And.intro rfl (And.intro rfl trivial))) ?_
                obtain ⟨e31, he32, hf⟩ := am_bind hf
                refine K_X10_tape_L69  2000 ((0 : Int32), (pi (pi u (90, 0, 0) a0.toNatClampNeg a1) (91, 0, 0) a0.toNatClampNeg (0 : Int32))) _ he32 ?_
                obtain ⟨u33, rfl⟩ : ∃ z, z = e31 := ⟨_, rfl⟩
                show X l _ _ 0 0 false _ kM 0 0 95 [none, none, none, none, none] [] (en u33)
                refine r_iconst (v := 1) dX10_tape_95 rfl ?_
                have hx := am_inj hf
                subst hx
                exact r_iret dX10_tape_96 rfl rfl (le_b rfl) (le_b rfl)
            · have hf := (am_if hf).2 hc
              refine r_bipush (v := -14) dX10_tape_41 rfl ?_
              have hx := am_inj hf
              subst hx
              exact r_iret dX10_tape_43 rfl rfl (le_b rfl) (le_b rfl)
        · have hf := (am_if hf).2 hc
          refine r_bipush (v := -2) dX10_tape_30 rfl ?_
          have hx := am_inj hf
          subst hx
          exact r_iret dX10_tape_32 rfl rfl (le_b rfl) (le_b rfl)
  · have hf := (am_if hf).1 hc
    refine r_iconst (v := -1) dX10_tape_8 rfl ?_
    have hx := am_inj hf
    subst hx
    exact r_iret dX10_tape_9 rfl rfl (le_b rfl) (le_b rfl)
/-! FireFromFireModel.narrow -/
theorem dX10_narrow_0 : decode cX10_narrow 0 = .ok (.iload_n 1, 1) := by decide +kernel
theorem dX10_narrow_1 : decode cX10_narrow 1 = .ok (.ifCond .ne 10, 3) := by decide +kernel
theorem dX10_narrow_4 : decode cX10_narrow 4 = .ok (.lload_n 2, 1) := by decide +kernel
theorem dX10_narrow_5 : decode cX10_narrow 5 = .ok (.l2i, 1) := by decide +kernel
theorem dX10_narrow_6 : decode cX10_narrow 6 = .ok (.i2b, 1) := by decide +kernel
theorem dX10_narrow_7 : decode cX10_narrow 7 = .ok (.i2l, 1) := by decide +kernel
theorem dX10_narrow_8 : decode cX10_narrow 8 = .ok (.goto 46, 3) := by decide +kernel
theorem dX10_narrow_11 : decode cX10_narrow 11 = .ok (.iload_n 1, 1) := by decide +kernel
theorem dX10_narrow_12 : decode cX10_narrow 12 = .ok (.iconst 1, 1) := by decide +kernel
theorem dX10_narrow_13 : decode cX10_narrow 13 = .ok (.if_icmp .ne 10, 3) := by decide +kernel
theorem dX10_narrow_16 : decode cX10_narrow 16 = .ok (.lload_n 2, 1) := by decide +kernel
theorem dX10_narrow_17 : decode cX10_narrow 17 = .ok (.l2i, 1) := by decide +kernel
theorem dX10_narrow_18 : decode cX10_narrow 18 = .ok (.i2s, 1) := by decide +kernel
theorem dX10_narrow_19 : decode cX10_narrow 19 = .ok (.i2l, 1) := by decide +kernel
theorem dX10_narrow_20 : decode cX10_narrow 20 = .ok (.goto 34, 3) := by decide +kernel
theorem dX10_narrow_23 : decode cX10_narrow 23 = .ok (.iload_n 1, 1) := by decide +kernel
theorem dX10_narrow_24 : decode cX10_narrow 24 = .ok (.iconst 2, 1) := by decide +kernel
theorem dX10_narrow_25 : decode cX10_narrow 25 = .ok (.if_icmp .ne 9, 3) := by decide +kernel
theorem dX10_narrow_28 : decode cX10_narrow 28 = .ok (.lload_n 2, 1) := by decide +kernel
theorem dX10_narrow_29 : decode cX10_narrow 29 = .ok (.l2i, 1) := by decide +kernel
theorem dX10_narrow_30 : decode cX10_narrow 30 = .ok (.i2l, 1) := by decide +kernel
theorem dX10_narrow_31 : decode cX10_narrow 31 = .ok (.goto 23, 3) := by decide +kernel
theorem dX10_narrow_34 : decode cX10_narrow 34 = .ok (.iload_n 1, 1) := by decide +kernel
theorem dX10_narrow_35 : decode cX10_narrow 35 = .ok (.iconst 4, 1) := by decide +kernel
theorem dX10_narrow_36 : decode cX10_narrow 36 = .ok (.if_icmp .ne 17, 3) := by decide +kernel
theorem dX10_narrow_39 : decode cX10_narrow 39 = .ok (.lload_n 2, 1) := by decide +kernel
theorem dX10_narrow_40 : decode cX10_narrow 40 = .ok (.lconst 0, 1) := by decide +kernel
theorem dX10_narrow_41 : decode cX10_narrow 41 = .ok (.lcmp, 1) := by decide +kernel
theorem dX10_narrow_42 : decode cX10_narrow 42 = .ok (.ifCond .eq 7, 3) := by decide +kernel
theorem dX10_narrow_45 : decode cX10_narrow 45 = .ok (.lconst 1, 1) := by decide +kernel
theorem dX10_narrow_46 : decode cX10_narrow 46 = .ok (.goto 8, 3) := by decide +kernel
theorem dX10_narrow_49 : decode cX10_narrow 49 = .ok (.lconst 0, 1) := by decide +kernel
theorem dX10_narrow_50 : decode cX10_narrow 50 = .ok (.goto 4, 3) := by decide +kernel
theorem dX10_narrow_53 : decode cX10_narrow 53 = .ok (.lload_n 2, 1) := by decide +kernel
theorem dX10_narrow_54 : decode cX10_narrow 54 = .ok (.lreturn, 1) := by decide +kernel
def f_X10_narrow  (a0 : Int32) (a1 : Int64) (u : PM) : Option (Int64) :=
  if a0 = 0 then
    some a1.toInt32.toInt8.toInt32.toInt64
  else
  if a0 = (1 : Int32) then
    some a1.toInt32.toInt16.toInt32.toInt64
  else
  if a0 = (2 : Int32) then
    some a1.toInt32.toInt64
  else
  if a0 = (4 : Int32) then
    if (lg_cmp a1 (0 : Int64)) = 0 then
      some (0 : Int64)
    else
    some (1 : Int64)
  else
  some a1
set_option maxHeartbeats 4000000 in
set_option maxRecDepth 20000 in
theorem C_X10_narrow {l : Launch}  {a0 : Int32} {a1 : Int64} {u : PM} {x : Int64} (hf : f_X10_narrow a0 a1 u = some x) : Ev l mX10_narrow 1 0 0 false [vR (40, 0, 0), vI a0, vJ a1] kM (en u) (some (vJ x), kM, en u) := by
  refine Ev_of (by decide +kernel) (le_b rfl) ?_
  unfold f_X10_narrow at hf
  show X l mX10_narrow 1 0 0 false _ kM 0 0 0 [some (vR (40, 0, 0)), some (vI a0), some (vJ a1), none] [] (en u)
  refine r_iload_n (x := a0) dX10_narrow_0 rfl ?_
  refine r_if_ne (tgt := 11) dX10_narrow_1 (by decide) (fun hc => ?_) (fun hc => ?_)
  · have hf := (am_if hf).2 hc
    refine r_iload_n (x := a0) dX10_narrow_11 rfl ?_
    refine r_iconst (v := 1) dX10_narrow_12 rfl ?_
    refine r_icmp_ne (tgt := 23) dX10_narrow_13 (by decide) (fun hc => ?_) (fun hc => ?_)
    · have hf := (am_if hf).2 hc
      refine r_iload_n (x := a0) dX10_narrow_23 rfl ?_
      refine r_iconst (v := 2) dX10_narrow_24 rfl ?_
      refine r_icmp_ne (tgt := 34) dX10_narrow_25 (by decide) (fun hc => ?_) (fun hc => ?_)
      · have hf := (am_if hf).2 hc
        refine r_iload_n (x := a0) dX10_narrow_34 rfl ?_
        refine r_iconst (v := 4) dX10_narrow_35 rfl ?_
        refine r_icmp_ne (tgt := 53) dX10_narrow_36 (by decide) (fun hc => ?_) (fun hc => ?_)
        · have hf := (am_if hf).2 hc
          refine r_lload_n (x := a1) dX10_narrow_53 rfl ?_
          have hx := am_inj hf
          subst hx
          exact r_lret dX10_narrow_54 rfl (le_b rfl) (le_b rfl)
        · have hf := (am_if hf).1 hc
          refine r_lload_n (x := a1) dX10_narrow_39 rfl ?_
          refine r_lconst (v := 0) dX10_narrow_40 rfl ?_
          refine r_lcmp dX10_narrow_41 ?_
          refine r_if_eq (tgt := 49) dX10_narrow_42 (by decide) (fun hc => ?_) (fun hc => ?_)
          · have hf := (am_if hf).1 hc
            refine r_lconst (v := 0) dX10_narrow_49 rfl ?_
            refine r_goto (tgt := 54) dX10_narrow_50 (by decide) ?_
            have hx := am_inj hf
            subst hx
            exact r_lret dX10_narrow_54 rfl (le_b rfl) (le_b rfl)
          · have hf := (am_if hf).2 hc
            refine r_lconst (v := 1) dX10_narrow_45 rfl ?_
            refine r_goto (tgt := 54) dX10_narrow_46 (by decide) ?_
            have hx := am_inj hf
            subst hx
            exact r_lret dX10_narrow_54 rfl (le_b rfl) (le_b rfl)
      · have hf := (am_if hf).1 hc
        refine r_lload_n (x := a1) dX10_narrow_28 rfl ?_
        refine r_l2i dX10_narrow_29 ?_
        refine r_i2l dX10_narrow_30 ?_
        refine r_goto (tgt := 54) dX10_narrow_31 (by decide) ?_
        have hx := am_inj hf
        subst hx
        exact r_lret dX10_narrow_54 rfl (le_b rfl) (le_b rfl)
    · have hf := (am_if hf).1 hc
      refine r_lload_n (x := a1) dX10_narrow_16 rfl ?_
      refine r_l2i dX10_narrow_17 ?_
      refine r_i2s dX10_narrow_18 ?_
      refine r_i2l dX10_narrow_19 ?_
      refine r_goto (tgt := 54) dX10_narrow_20 (by decide) ?_
      have hx := am_inj hf
      subst hx
      exact r_lret dX10_narrow_54 rfl (le_b rfl) (le_b rfl)
  · have hf := (am_if hf).1 hc
    refine r_lload_n (x := a1) dX10_narrow_4 rfl ?_
    refine r_l2i dX10_narrow_5 ?_
    refine r_i2b dX10_narrow_6 ?_
    refine r_i2l dX10_narrow_7 ?_
    refine r_goto (tgt := 54) dX10_narrow_8 (by decide) ?_
    have hx := am_inj hf
    subst hx
    exact r_lret dX10_narrow_54 rfl (le_b rfl) (le_b rfl)
