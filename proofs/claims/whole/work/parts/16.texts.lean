/-! jdk.internal.util.Preconditions.checkIndex -/
theorem dJ3_checkIndex_8e157_0 : decode cJ3_checkIndex_8e157 0 = .ok (.iload_n 0, 1) := by decide +kernel
theorem dJ3_checkIndex_8e157_1 : decode cJ3_checkIndex_8e157 1 = .ok (.ifCond .lt 8, 3) := by decide +kernel
theorem dJ3_checkIndex_8e157_4 : decode cJ3_checkIndex_8e157 4 = .ok (.iload_n 0, 1) := by decide +kernel
theorem dJ3_checkIndex_8e157_5 : decode cJ3_checkIndex_8e157 5 = .ok (.iload_n 1, 1) := by decide +kernel
theorem dJ3_checkIndex_8e157_6 : decode cJ3_checkIndex_8e157 6 = .ok (.if_icmp .lt 10, 3) := by decide +kernel
theorem dJ3_checkIndex_8e157_9 : decode cJ3_checkIndex_8e157 9 = .ok (.aload_n 2, 1) := by decide +kernel
theorem dJ3_checkIndex_8e157_10 : decode cJ3_checkIndex_8e157 10 = .ok (.iload_n 0, 1) := by decide +kernel
theorem dJ3_checkIndex_8e157_11 : decode cJ3_checkIndex_8e157 11 = .ok (.iload_n 1, 1) := by decide +kernel
theorem dJ3_checkIndex_8e157_12 : decode cJ3_checkIndex_8e157 12 = .ok (.invokestatic 95, 3) := by decide +kernel
theorem dJ3_checkIndex_8e157_15 : decode cJ3_checkIndex_8e157 15 = .ok (.athrow, 1) := by decide +kernel
theorem dJ3_checkIndex_8e157_16 : decode cJ3_checkIndex_8e157 16 = .ok (.iload_n 0, 1) := by decide +kernel
theorem dJ3_checkIndex_8e157_17 : decode cJ3_checkIndex_8e157 17 = .ok (.ireturn, 1) := by decide +kernel
def f_J3_checkIndex_8e157  (a0 : Int32) (a1 : Int32) (u : PM) : Option (Int32) :=
  if a0 < 0 then
    none
  else
  if a0 < a1 then
    some a0
  else
  none
set_option maxHeartbeats 4000000 in
set_option maxRecDepth 20000 in
theorem C_J3_checkIndex_8e157 {l : Launch}  {a0 : Int32} {a1 : Int32} {o : Option Nat} {u : PM} {x : Int32} (hf : f_J3_checkIndex_8e157 a0 a1 u = some x) : Ev l mJ3_checkIndex_8e157 1 0 0 false [vI a0, vI a1, vO (o.map fun z => (97, 0, z))] kC (en u) (some (vI x), kC, en u) := by
  refine Ev_of (by decide +kernel) (le_b rfl) ?_
  unfold f_J3_checkIndex_8e157 at hf
  show X l mJ3_checkIndex_8e157 1 0 0 false _ kC 0 0 0 [some (vI a0), some (vI a1), some (vO (o.map fun z => (97, 0, z)))] [] (en u)
  refine r_iload_n (x := a0) dJ3_checkIndex_8e157_0 rfl ?_
  refine r_if_lt (tgt := 9) dJ3_checkIndex_8e157_1 (by decide) (fun hc => ?_) (fun hc => ?_)
  · have hf := (am_if hf).1 hc
    cases hf
  · have hf := (am_if hf).2 hc
    refine r_iload_n (x := a0) dJ3_checkIndex_8e157_4 rfl ?_
    refine r_iload_n (x := a1) dJ3_checkIndex_8e157_5 rfl ?_
    refine r_icmp_lt (tgt := 16) dJ3_checkIndex_8e157_6 (by decide) (fun hc => ?_) (fun hc => ?_)
    · have hf := (am_if hf).1 hc
      refine r_iload_n (x := a0) dJ3_checkIndex_8e157_16 rfl ?_
      have hx := am_inj hf
      subst hx
      exact r_iret dJ3_checkIndex_8e157_17 rfl rfl (le_b rfl) (le_b rfl)
    · have hf := (am_if hf).2 hc
      cases hf
/-! java.lang.String.checkIndex -/
theorem dJ0_checkIndex_df160_0 : decode cJ0_checkIndex_df160 0 = .ok (.iload_n 0, 1) := by decide +kernel
theorem dJ0_checkIndex_df160_1 : decode cJ0_checkIndex_df160 1 = .ok (.iload_n 1, 1) := by decide +kernel
theorem dJ0_checkIndex_df160_2 : decode cJ0_checkIndex_df160 2 = .ok (.getstatic 1053, 3) := by decide +kernel
theorem dJ0_checkIndex_df160_5 : decode cJ0_checkIndex_df160 5 = .ok (.invokestatic 1059, 3) := by decide +kernel
theorem dJ0_checkIndex_df160_8 : decode cJ0_checkIndex_df160 8 = .ok (.pop, 1) := by decide +kernel
theorem dJ0_checkIndex_df160_9 : decode cJ0_checkIndex_df160 9 = .ok (.return_, 1) := by decide +kernel
def f_J0_checkIndex_df160  (a0 : Int32) (a1 : Int32) (u : PM) : Option (Unit) :=
  (f_J3_checkIndex_8e157 a0 a1 u).bind fun r1 =>
  some ()
set_option maxHeartbeats 4000000 in
set_option maxRecDepth 20000 in
theorem C_J0_checkIndex_df160 {l : Launch}  {a0 : Int32} {a1 : Int32} {u : PM} {x : Unit} (hf : f_J0_checkIndex_df160 a0 a1 u = some x) : Ev l mJ0_checkIndex_df160 2 0 0 false [vI a0, vI a1] kC (en u) (none, kC, en u) := by
  refine Ev_of (by decide +kernel) (le_b rfl) ?_
  unfold f_J0_checkIndex_df160 at hf
  show X l mJ0_checkIndex_df160 2 0 0 false _ kC 0 0 0 [some (vI a0), some (vI a1)] [] (en u)
  refine r_iload_n (x := a0) dJ0_checkIndex_df160_0 rfl ?_
  refine r_iload_n (x := a1) dJ0_checkIndex_df160_1 rfl ?_
  refine r_getsF sg_J0_1053 dJ0_checkIndex_df160_2 ?_ ?_
  · obtain ⟨r1, hr2, hf⟩ := am_bind hf
    refine r_callS (as := [vI a0, vI a1, vN]) (st := []) (n := 3) mw_J0_1059 ms_J3_checkIndex_8e157 (C_J3_checkIndex_8e157 (l := l) (o := none) hr2) (le_b rfl) dJ0_checkIndex_df160_5 rfl (le_b rfl) (le_b rfl) (le_b rfl) ?_
    show X l _ _ 0 0 false _ kC 0 0 8 [some (vI a0), some (vI a1)] [vI r1] (en u)
    refine r_pop dJ0_checkIndex_df160_8 rfl ?_
    have hx := am_inj hf
    subst hx
    exact r_vret dJ0_checkIndex_df160_9 rfl (le_b rfl) (le_b rfl)
  · obtain ⟨r1, hr2, hf⟩ := am_bind hf
    refine r_callS (as := [vI a0, vI a1, vR (97, 0, 0)]) (st := []) (n := 3) mw_J0_1059 ms_J3_checkIndex_8e157 (C_J3_checkIndex_8e157 (l := l) (o := some 0) hr2) (le_b rfl) dJ0_checkIndex_df160_5 rfl (le_b rfl) (le_b rfl) (le_b rfl) ?_
    show X l _ _ 0 0 false _ kC 0 0 8 [some (vI a0), some (vI a1)] [vI r1] (en u)
    refine r_pop dJ0_checkIndex_df160_8 rfl ?_
    have hx := am_inj hf
    subst hx
    exact r_vret dJ0_checkIndex_df160_9 rfl (le_b rfl) (le_b rfl)
/-! java.lang.StringLatin1.charAt -/
theorem dJ1_charAt_3b067_0 : decode cJ1_charAt_3b067 0 = .ok (.iload_n 1, 1) := by decide +kernel
theorem dJ1_charAt_3b067_1 : decode cJ1_charAt_3b067 1 = .ok (.aload_n 0, 1) := by decide +kernel
theorem dJ1_charAt_3b067_2 : decode cJ1_charAt_3b067 2 = .ok (.arraylength, 1) := by decide +kernel
theorem dJ1_charAt_3b067_3 : decode cJ1_charAt_3b067 3 = .ok (.invokestatic 9, 3) := by decide +kernel
theorem dJ1_charAt_3b067_6 : decode cJ1_charAt_3b067 6 = .ok (.aload_n 0, 1) := by decide +kernel
theorem dJ1_charAt_3b067_7 : decode cJ1_charAt_3b067 7 = .ok (.iload_n 1, 1) := by decide +kernel
theorem dJ1_charAt_3b067_8 : decode cJ1_charAt_3b067 8 = .ok (.baload, 1) := by decide +kernel
theorem dJ1_charAt_3b067_9 : decode cJ1_charAt_3b067 9 = .ok (.sipush 255, 3) := by decide +kernel
theorem dJ1_charAt_3b067_12 : decode cJ1_charAt_3b067 12 = .ok (.iand, 1) := by decide +kernel
theorem dJ1_charAt_3b067_13 : decode cJ1_charAt_3b067 13 = .ok (.i2c, 1) := by decide +kernel
theorem dJ1_charAt_3b067_14 : decode cJ1_charAt_3b067 14 = .ok (.ireturn, 1) := by decide +kernel
def f_J1_charAt_3b067 (w : Nat) (a1 : Int32) (u : PM) : Option (Int32) :=
  (f_J0_checkIndex_df160 a1 (s_len w) u).bind fun r1 =>
  if a1 < 0 ∨ sx_len.getD w 0 ≤ a1.toNatClampNeg then none else
  if ((((s_by w a1.toNatClampNeg) &&& (255 : Int32)).toUInt32 % 65536).toInt32).toUInt32.toUInt16.toUInt32.toInt32 = ((((s_by w a1.toNatClampNeg) &&& (255 : Int32)).toUInt32 % 65536).toInt32) then
    some ((((s_by w a1.toNatClampNeg) &&& (255 : Int32)).toUInt32 % 65536).toInt32)
  else none
set_option maxHeartbeats 4000000 in
set_option maxRecDepth 20000 in
theorem C_J1_charAt_3b067 {l : Launch} {w : Nat} (hw : w < 7) {a1 : Int32} {u : PM} {x : Int32} (hf : f_J1_charAt_3b067 w a1 u = some x) : Ev l mJ1_charAt_3b067 3 0 0 false [vR (96, w, 0), vI a1] kC (en u) (some (vI x), kC, en u) := by
  refine Ev_of (by decide +kernel) (le_b rfl) ?_
  unfold f_J1_charAt_3b067 at hf
  show X l mJ1_charAt_3b067 3 0 0 false _ kC 0 0 0 [some (vR (96, w, 0)), some (vI a1)] [] (en u)
  refine r_iload_n (x := a1) dJ1_charAt_3b067_0 rfl ?_
  refine r_aload_n (x := (96, w, 0)) dJ1_charAt_3b067_1 rfl ?_
  refine r_alenS hw dJ1_charAt_3b067_2 ?_
  obtain ⟨r1, hr2, hf⟩ := am_bind hf
  refine r_callS (as := [vI a1, vI (s_len w)]) (st := []) (n := 2) mw_J1_9 ms_J0_checkIndex_df160 (C_J0_checkIndex_df160 (l := l) hr2) (le_b rfl) dJ1_charAt_3b067_3 rfl (le_b rfl) (le_b rfl) (le_b rfl) ?_
  show X l _ _ 0 0 false _ kC 0 0 6 [some (vR (96, w, 0)), some (vI a1)] [] (en u)
  refine r_aload_n (x := (96, w, 0)) dJ1_charAt_3b067_6 rfl ?_
  refine r_iload_n (x := a1) dJ1_charAt_3b067_7 rfl ?_
  obtain ⟨h3, hf⟩ := am_nchk hf
  refine r_baldS hw dJ1_charAt_3b067_8 h3 ?_
  refine r_sipush (v := 255) dJ1_charAt_3b067_9 rfl ?_
  refine r_iand dJ1_charAt_3b067_12 ?_
  refine r_i2c dJ1_charAt_3b067_13 ?_
  obtain ⟨h4, hf⟩ := am_chk hf
  have hx := am_inj hf
  subst hx
  exact r_iret dJ1_charAt_3b067_14 rfl (congrArg Value.int h4) (le_b rfl) (le_b rfl)
/-! java.lang.StringLatin1.canEncode -/
theorem dJ1_canEncode_9a6ad_0 : decode cJ1_canEncode_9a6ad 0 = .ok (.iload_n 0, 1) := by decide +kernel
theorem dJ1_canEncode_9a6ad_1 : decode cJ1_canEncode_9a6ad 1 = .ok (.ifCond .lt 14, 3) := by decide +kernel
theorem dJ1_canEncode_9a6ad_4 : decode cJ1_canEncode_9a6ad 4 = .ok (.iload_n 0, 1) := by decide +kernel
theorem dJ1_canEncode_9a6ad_5 : decode cJ1_canEncode_9a6ad 5 = .ok (.sipush 255, 3) := by decide +kernel
theorem dJ1_canEncode_9a6ad_8 : decode cJ1_canEncode_9a6ad 8 = .ok (.if_icmp .gt 7, 3) := by decide +kernel
theorem dJ1_canEncode_9a6ad_11 : decode cJ1_canEncode_9a6ad 11 = .ok (.iconst 1, 1) := by decide +kernel
theorem dJ1_canEncode_9a6ad_12 : decode cJ1_canEncode_9a6ad 12 = .ok (.goto 4, 3) := by decide +kernel
theorem dJ1_canEncode_9a6ad_15 : decode cJ1_canEncode_9a6ad 15 = .ok (.iconst 0, 1) := by decide +kernel
theorem dJ1_canEncode_9a6ad_16 : decode cJ1_canEncode_9a6ad 16 = .ok (.ireturn, 1) := by decide +kernel
def f_J1_canEncode_9a6ad  (a0 : Int32) (u : PM) : Option (Int32) :=
  if a0 < 0 then
    some (0 : Int32)
  else
  if (255 : Int32) < a0 then
    some (0 : Int32)
  else
  some (1 : Int32)
set_option maxHeartbeats 4000000 in
set_option maxRecDepth 20000 in
theorem C_J1_canEncode_9a6ad {l : Launch}  {a0 : Int32} {u : PM} {x : Int32} (hf : f_J1_canEncode_9a6ad a0 u = some x) : Ev l mJ1_canEncode_9a6ad 1 0 0 false [vI a0] kC (en u) (some (vI x), kC, en u) := by
  refine Ev_of (by decide +kernel) (le_b rfl) ?_
  unfold f_J1_canEncode_9a6ad at hf
  show X l mJ1_canEncode_9a6ad 1 0 0 false _ kC 0 0 0 [some (vI a0)] [] (en u)
  refine r_iload_n (x := a0) dJ1_canEncode_9a6ad_0 rfl ?_
  refine r_if_lt (tgt := 15) dJ1_canEncode_9a6ad_1 (by decide) (fun hc => ?_) (fun hc => ?_)
  · have hf := (am_if hf).1 hc
    refine r_iconst (v := 0) dJ1_canEncode_9a6ad_15 rfl ?_
    have hx := am_inj hf
    subst hx
    exact r_iret dJ1_canEncode_9a6ad_16 rfl (am_bool (x := 0) (by decide)).1 (le_b rfl) (le_b rfl)
  · have hf := (am_if hf).2 hc
    refine r_iload_n (x := a0) dJ1_canEncode_9a6ad_4 rfl ?_
    refine r_sipush (v := 255) dJ1_canEncode_9a6ad_5 rfl ?_
    refine r_icmp_gt (tgt := 15) dJ1_canEncode_9a6ad_8 (by decide) (fun hc => ?_) (fun hc => ?_)
    · have hf := (am_if hf).1 hc
      refine r_iconst (v := 0) dJ1_canEncode_9a6ad_15 rfl ?_
      have hx := am_inj hf
      subst hx
      exact r_iret dJ1_canEncode_9a6ad_16 rfl (am_bool (x := 0) (by decide)).1 (le_b rfl) (le_b rfl)
    · have hf := (am_if hf).2 hc
      refine r_iconst (v := 1) dJ1_canEncode_9a6ad_11 rfl ?_
      refine r_goto (tgt := 16) dJ1_canEncode_9a6ad_12 (by decide) ?_
      have hx := am_inj hf
      subst hx
      exact r_iret dJ1_canEncode_9a6ad_16 rfl (am_bool (x := 1) (by decide)).1 (le_b rfl) (le_b rfl)
/-! java.lang.StringLatin1.indexOfChar -/
theorem dJ1_indexOfChar_4cfef_0 : decode cJ1_indexOfChar_4cfef 0 = .ok (.iload_n 1, 1) := by decide +kernel
theorem dJ1_indexOfChar_4cfef_1 : decode cJ1_indexOfChar_4cfef 1 = .ok (.i2b, 1) := by decide +kernel
theorem dJ1_indexOfChar_4cfef_2 : decode cJ1_indexOfChar_4cfef 2 = .ok (.istore 4, 2) := by decide +kernel
theorem dJ1_indexOfChar_4cfef_4 : decode cJ1_indexOfChar_4cfef 4 = .ok (.iload_n 2, 1) := by decide +kernel
theorem dJ1_indexOfChar_4cfef_5 : decode cJ1_indexOfChar_4cfef 5 = .ok (.istore 5, 2) := by decide +kernel
theorem dJ1_indexOfChar_4cfef_7 : decode cJ1_indexOfChar_4cfef 7 = .ok (.iload 5, 2) := by decide +kernel
theorem dJ1_indexOfChar_4cfef_9 : decode cJ1_indexOfChar_4cfef 9 = .ok (.iload_n 3, 1) := by decide +kernel
theorem dJ1_indexOfChar_4cfef_10 : decode cJ1_indexOfChar_4cfef 10 = .ok (.if_icmp .ge 21, 3) := by decide +kernel
theorem dJ1_indexOfChar_4cfef_13 : decode cJ1_indexOfChar_4cfef 13 = .ok (.aload_n 0, 1) := by decide +kernel
theorem dJ1_indexOfChar_4cfef_14 : decode cJ1_indexOfChar_4cfef 14 = .ok (.iload 5, 2) := by decide +kernel
theorem dJ1_indexOfChar_4cfef_16 : decode cJ1_indexOfChar_4cfef 16 = .ok (.baload, 1) := by decide +kernel
theorem dJ1_indexOfChar_4cfef_17 : decode cJ1_indexOfChar_4cfef 17 = .ok (.iload 4, 2) := by decide +kernel
theorem dJ1_indexOfChar_4cfef_19 : decode cJ1_indexOfChar_4cfef 19 = .ok (.if_icmp .ne 6, 3) := by decide +kernel
theorem dJ1_indexOfChar_4cfef_22 : decode cJ1_indexOfChar_4cfef 22 = .ok (.iload 5, 2) := by decide +kernel
theorem dJ1_indexOfChar_4cfef_24 : decode cJ1_indexOfChar_4cfef 24 = .ok (.ireturn, 1) := by decide +kernel
theorem dJ1_indexOfChar_4cfef_25 : decode cJ1_indexOfChar_4cfef 25 = .ok (.iinc 5 1, 3) := by decide +kernel
theorem dJ1_indexOfChar_4cfef_28 : decode cJ1_indexOfChar_4cfef 28 = .ok (.goto (-21), 3) := by decide +kernel
theorem dJ1_indexOfChar_4cfef_31 : decode cJ1_indexOfChar_4cfef 31 = .ok (.iconst (-1), 1) := by decide +kernel
theorem dJ1_indexOfChar_4cfef_32 : decode cJ1_indexOfChar_4cfef 32 = .ok (.ireturn, 1) := by decide +kernel
def f_J1_indexOfChar_4cfef_L7 (n0 : Nat) (c3 : Int32) (c4 : Int32) (u : PM) : Int32 → Option ((Int32) ⊕ ((Int32) ⊕ (Unit))) := fun x5 =>
  if c3 ≤ x5 then
    some (.inr (.inr ()))
  else
  if x5 < 0 ∨ sx_len.getD n0 0 ≤ x5.toNatClampNeg then none else
  if (s_by n0 x5.toNatClampNeg) = c4 then
    some (.inr (.inl x5))
  else
  some (.inl (x5 + (1 : Int32)))
set_option maxHeartbeats 4000000 in
set_option maxRecDepth 20000 in
theorem K_J1_indexOfChar_4cfef_L7 {l : Launch} {T : Option AV × List Key × AM} {n0 : Nat} (hn0 : n0 < 7) {c3 : Int32} {c4 : Int32} {u : PM} : ∀ (n : Nat) (s : Int32) (e0 : (Int32) ⊕ (Unit)), am_loop (f_J1_indexOfChar_4cfef_L7 n0 c3 c4 u) n s = some e0 → Sum.elim (fun r : Int32 => T = (some (vI r), kC, en u)) (fun e : Unit => X l mJ1_indexOfChar_4cfef 1 0 0 false T kC 0 0 31 [none, none, none, none, none, none] [] (en u)) e0 → X l mJ1_indexOfChar_4cfef 1 0 0 false T kC 0 0 7 [some (vR (96, n0, 0)), none, none, some (vI c3), some (vI c4), some (vI s)] [] (en u) := by
  refine am_loop_of ?_
  intro s x hf k1 k2
  obtain ⟨x5, rfl⟩ : ∃ z, z = s := ⟨_, rfl⟩
  unfold f_J1_indexOfChar_4cfef_L7 at hf
  show X l mJ1_indexOfChar_4cfef 1 0 0 false T kC 0 0 7 [some (vR (96, n0, 0)), none, none, some (vI c3), some (vI c4), some (vI x5)] [] (en u)
  refine r_iload (x := x5) dJ1_indexOfChar_4cfef_7 rfl ?_
  refine r_iload_n (x := c3) dJ1_indexOfChar_4cfef_9 rfl ?_
  refine r_icmp_ge (tgt := 31) dJ1_indexOfChar_4cfef_10 (by decide) (fun hc => ?_) (fun hc => ?_)
  · have hf := (am_if hf).1 hc
    refine r_weak (L' := [none, none, none, none, none, none]) trivial ?_
    exact k2 (.inr ()) (am_inj hf).symm
  · have hf := (am_if hf).2 hc
    refine r_aload_n (x := (96, n0, 0)) dJ1_indexOfChar_4cfef_13 rfl ?_
    refine r_iload (x := x5) dJ1_indexOfChar_4cfef_14 rfl ?_
    obtain ⟨h1, hf⟩ := am_nchk hf
    refine r_baldS hn0 dJ1_indexOfChar_4cfef_16 h1 ?_
    refine r_iload (x := c4) dJ1_indexOfChar_4cfef_17 rfl ?_
    refine r_icmp_ne (tgt := 25) dJ1_indexOfChar_4cfef_19 (by decide) (fun hc => ?_) (fun hc => ?_)
    · have hf := (am_if hf).2 hc
      refine r_iinc (x := x5) (v := x5 + (1 : Int32)) (L' := [some (vR (96, n0, 0)), none, none, some (vI c3), some (vI c4), some (vI (x5 + (1 : Int32)))]) dJ1_indexOfChar_4cfef_25 rfl rfl (lt_b rfl) rfl ?_
      refine r_goto (tgt := 7) dJ1_indexOfChar_4cfef_28 (by decide) ?_
      refine r_weak (L' := [some (vR (96, n0, 0)), none, none, some (vI c3), some (vI c4), some (vI (x5 + (1 : Int32)))]) (And.intro rfl (And.intro rfl (And.intro rfl (And.intro rfl trivial)))) ?_
      exact k1 (x5 + (1 : Int32)) (am_inj hf).symm
    · have hf := (am_if hf).1 hc
      refine r_iload (x := x5) dJ1_indexOfChar_4cfef_22 rfl ?_
      have hT := k2 _ (am_inj hf).symm
      replace hT : T = (some (vI x5), kC, en u) := hT
      subst hT
      exact r_iret dJ1_indexOfChar_4cfef_24 rfl rfl (le_b rfl) (le_b rfl)
def f_J1_indexOfChar_4cfef (w : Nat) (a1 : Int32) (a2 : Int32) (a3 : Int32) (u : PM) : Option (Int32) :=
  (am_loop (f_J1_indexOfChar_4cfef_L7 w a3 a1.toInt8.toInt32 u) 2000 (a2)).bind fun e2 =>
  match e2 with
  | .inl q4 => some q4
  | .inr _ =>
    some (-1 : Int32)
set_option maxHeartbeats 4000000 in
set_option maxRecDepth 20000 in
theorem C_J1_indexOfChar_4cfef {l : Launch} {w : Nat} (hw : w < 7) {a1 : Int32} {a2 : Int32} {a3 : Int32} {u : PM} {x : Int32} (hf : f_J1_indexOfChar_4cfef w a1 a2 a3 u = some x) : Ev l mJ1_indexOfChar_4cfef 1 0 0 false [vR (96, w, 0), vI a1, vI a2, vI a3] kC (en u) (some (vI x), kC, en u) := by
  refine Ev_of (by decide +kernel) (le_b rfl) ?_
  unfold f_J1_indexOfChar_4cfef at hf
  show X l mJ1_indexOfChar_4cfef 1 0 0 false _ kC 0 0 0 [some (vR (96, w, 0)), some (vI a1), some (vI a2), some (vI a3), none, none] [] (en u)
  refine r_iload_n (x := a1) dJ1_indexOfChar_4cfef_0 rfl ?_
  refine r_i2b dJ1_indexOfChar_4cfef_1 ?_
  refine r_istore (L' := [some (vR (96, w, 0)), some (vI a1), some (vI a2), some (vI a3), some (vI a1.toInt8.toInt32), none]) dJ1_indexOfChar_4cfef_2 (by decide) rfl ?_
  refine r_iload_n (x := a2) dJ1_indexOfChar_4cfef_4 rfl ?_
  refine r_istore (L' := [some (vR (96, w, 0)), some (vI a1), some (vI a2), some (vI a3), some (vI a1.toInt8.toInt32), some (vI a2)]) dJ1_indexOfChar_4cfef_5 (by decide) rfl ?_
  refine r_weak (L' := [some (vR (96, w, 0)), none, none, some (vI a3), some (vI a1.toInt8.toInt32), some (vI a2)]) (And.intro rfl (And.intro rfl (And.intro rfl (And.intro rfl trivial)))) ?_
  obtain ⟨e2, he3, hf⟩ := am_bind hf
  refine K_J1_indexOfChar_4cfef_L7 hw 2000 (a2) _ he3 ?_
  rcases e2 with q4 | e2
  · have hx := am_inj hf
    subst hx
    rfl
  · show X l _ _ 0 0 false _ kC 0 0 31 [none, none, none, none, none, none] [] (en u)
    refine r_iconst (v := -1) dJ1_indexOfChar_4cfef_31 rfl ?_
    have hx := am_inj hf
    subst hx
    exact r_iret dJ1_indexOfChar_4cfef_32 rfl rfl (le_b rfl) (le_b rfl)
/-! java.lang.StringLatin1.indexOf -/
theorem dJ1_indexOf_4cfef_0 : decode cJ1_indexOf_4cfef 0 = .ok (.iload_n 1, 1) := by decide +kernel
theorem dJ1_indexOf_4cfef_1 : decode cJ1_indexOf_4cfef 1 = .ok (.invokestatic 88, 3) := by decide +kernel
theorem dJ1_indexOf_4cfef_4 : decode cJ1_indexOf_4cfef 4 = .ok (.ifCond .ne 5, 3) := by decide +kernel
theorem dJ1_indexOf_4cfef_7 : decode cJ1_indexOf_4cfef 7 = .ok (.iconst (-1), 1) := by decide +kernel
theorem dJ1_indexOf_4cfef_8 : decode cJ1_indexOf_4cfef 8 = .ok (.ireturn, 1) := by decide +kernel
theorem dJ1_indexOf_4cfef_9 : decode cJ1_indexOf_4cfef 9 = .ok (.iload_n 2, 1) := by decide +kernel
theorem dJ1_indexOf_4cfef_10 : decode cJ1_indexOf_4cfef 10 = .ok (.iconst 0, 1) := by decide +kernel
theorem dJ1_indexOf_4cfef_11 : decode cJ1_indexOf_4cfef 11 = .ok (.invokestatic 92, 3) := by decide +kernel
theorem dJ1_indexOf_4cfef_14 : decode cJ1_indexOf_4cfef 14 = .ok (.istore_n 2, 1) := by decide +kernel
theorem dJ1_indexOf_4cfef_15 : decode cJ1_indexOf_4cfef 15 = .ok (.iload_n 3, 1) := by decide +kernel
theorem dJ1_indexOf_4cfef_16 : decode cJ1_indexOf_4cfef 16 = .ok (.aload_n 0, 1) := by decide +kernel
theorem dJ1_indexOf_4cfef_17 : decode cJ1_indexOf_4cfef 17 = .ok (.arraylength, 1) := by decide +kernel
theorem dJ1_indexOf_4cfef_18 : decode cJ1_indexOf_4cfef 18 = .ok (.invokestatic 38, 3) := by decide +kernel
theorem dJ1_indexOf_4cfef_21 : decode cJ1_indexOf_4cfef 21 = .ok (.istore_n 3, 1) := by decide +kernel
theorem dJ1_indexOf_4cfef_22 : decode cJ1_indexOf_4cfef 22 = .ok (.iload_n 2, 1) := by decide +kernel
theorem dJ1_indexOf_4cfef_23 : decode cJ1_indexOf_4cfef 23 = .ok (.iload_n 3, 1) := by decide +kernel
theorem dJ1_indexOf_4cfef_24 : decode cJ1_indexOf_4cfef 24 = .ok (.if_icmp .lt 5, 3) := by decide +kernel
theorem dJ1_indexOf_4cfef_27 : decode cJ1_indexOf_4cfef 27 = .ok (.iconst (-1), 1) := by decide +kernel
theorem dJ1_indexOf_4cfef_28 : decode cJ1_indexOf_4cfef 28 = .ok (.ireturn, 1) := by decide +kernel
theorem dJ1_indexOf_4cfef_29 : decode cJ1_indexOf_4cfef 29 = .ok (.aload_n 0, 1) := by decide +kernel
theorem dJ1_indexOf_4cfef_30 : decode cJ1_indexOf_4cfef 30 = .ok (.iload_n 1, 1) := by decide +kernel
theorem dJ1_indexOf_4cfef_31 : decode cJ1_indexOf_4cfef 31 = .ok (.iload_n 2, 1) := by decide +kernel
theorem dJ1_indexOf_4cfef_32 : decode cJ1_indexOf_4cfef 32 = .ok (.iload_n 3, 1) := by decide +kernel
theorem dJ1_indexOf_4cfef_33 : decode cJ1_indexOf_4cfef 33 = .ok (.invokestatic 95, 3) := by decide +kernel
theorem dJ1_indexOf_4cfef_36 : decode cJ1_indexOf_4cfef 36 = .ok (.ireturn, 1) := by decide +kernel
def f_J1_indexOf_4cfef (w : Nat) (a1 : Int32) (a2 : Int32) (a3 : Int32) (u : PM) : Option (Int32) :=
  (f_J1_canEncode_9a6ad a1 u).bind fun r1 =>
  if r1 = 0 then
    some (-1 : Int32)
  else
  if (if a2 < (0 : Int32) then (0 : Int32) else a2) < (if (s_len w) < a3 then (s_len w) else a3) then
    (f_J1_indexOfChar_4cfef w a1 (if a2 < (0 : Int32) then (0 : Int32) else a2) (if (s_len w) < a3 then (s_len w) else a3) u).bind fun r3 =>
    some r3
  else
  some (-1 : Int32)
set_option maxHeartbeats 4000000 in
set_option maxRecDepth 20000 in
theorem C_J1_indexOf_4cfef {l : Launch} {w : Nat} (hw : w < 7) {a1 : Int32} {a2 : Int32} {a3 : Int32} {u : PM} {x : Int32} (hf : f_J1_indexOf_4cfef w a1 a2 a3 u = some x) : Ev l mJ1_indexOf_4cfef 2 0 0 false [vR (96, w, 0), vI a1, vI a2, vI a3] kC (en u) (some (vI x), kC, en u) := by
  refine Ev_of (by decide +kernel) (le_b rfl) ?_
  unfold f_J1_indexOf_4cfef at hf
  show X l mJ1_indexOf_4cfef 2 0 0 false _ kC 0 0 0 [some (vR (96, w, 0)), some (vI a1), some (vI a2), some (vI a3)] [] (en u)
  refine r_iload_n (x := a1) dJ1_indexOf_4cfef_0 rfl ?_
  obtain ⟨r1, hr2, hf⟩ := am_bind hf
  refine r_callS (as := [vI a1]) (st := []) (n := 1) mw_J1_88 ms_J1_canEncode_9a6ad (C_J1_canEncode_9a6ad (l := l) hr2) (le_b rfl) dJ1_indexOf_4cfef_1 rfl (le_b rfl) (le_b rfl) (le_b rfl) ?_
  show X l _ _ 0 0 false _ kC 0 0 4 [some (vR (96, w, 0)), some (vI a1), some (vI a2), some (vI a3)] [vI r1] (en u)
  refine r_if_ne (tgt := 9) dJ1_indexOf_4cfef_4 (by decide) (fun hc => ?_) (fun hc => ?_)
  · have hf := (am_if hf).2 hc
    refine r_iload_n (x := a2) dJ1_indexOf_4cfef_9 rfl ?_
    refine r_iconst (v := 0) dJ1_indexOf_4cfef_10 rfl ?_
    refine r_mmax jm_J1_92 js_max.1 js_max.2.1 js_max.2.2 dJ1_indexOf_4cfef_11 (le_b rfl) (le_b rfl) (le_b rfl) (le_b rfl) ?_
    refine r_istore_n (L' := [some (vR (96, w, 0)), some (vI a1), some (vI (if a2 < (0 : Int32) then (0 : Int32) else a2)), some (vI a3)]) dJ1_indexOf_4cfef_14 (by decide) rfl ?_
    refine r_iload_n (x := a3) dJ1_indexOf_4cfef_15 rfl ?_
    refine r_aload_n (x := (96, w, 0)) dJ1_indexOf_4cfef_16 rfl ?_
    refine r_alenS hw dJ1_indexOf_4cfef_17 ?_
    refine r_mmin jm_J1_38 js_min.1 js_min.2.1 js_min.2.2 dJ1_indexOf_4cfef_18 (le_b rfl) (le_b rfl) (le_b rfl) (le_b rfl) ?_
    refine r_istore_n (L' := [some (vR (96, w, 0)), some (vI a1), some (vI (if a2 < (0 : Int32) then (0 : Int32) else a2)), some (vI (if (s_len w) < a3 then (s_len w) else a3))]) dJ1_indexOf_4cfef_21 (by decide) rfl ?_
    refine r_iload_n (x := (if a2 < (0 : Int32) then (0 : Int32) else a2)) dJ1_indexOf_4cfef_22 rfl ?_
    refine r_iload_n (x := (if (s_len w) < a3 then (s_len w) else a3)) dJ1_indexOf_4cfef_23 rfl ?_
    refine r_icmp_lt (tgt := 29) dJ1_indexOf_4cfef_24 (by decide) (fun hc => ?_) (fun hc => ?_)
    · have hf := (am_if hf).1 hc
      refine r_aload_n (x := (96, w, 0)) dJ1_indexOf_4cfef_29 rfl ?_
      refine r_iload_n (x := a1) dJ1_indexOf_4cfef_30 rfl ?_
      refine r_iload_n (x := (if a2 < (0 : Int32) then (0 : Int32) else a2)) dJ1_indexOf_4cfef_31 rfl ?_
      refine r_iload_n (x := (if (s_len w) < a3 then (s_len w) else a3)) dJ1_indexOf_4cfef_32 rfl ?_
      obtain ⟨r3, hr4, hf⟩ := am_bind hf
      refine r_callS (as := [vR (96, w, 0), vI a1, vI (if a2 < (0 : Int32) then (0 : Int32) else a2), vI (if (s_len w) < a3 then (s_len w) else a3)]) (st := []) (n := 4) mw_J1_95 ms_J1_indexOfChar_4cfef (C_J1_indexOfChar_4cfef (l := l) hw hr4) (le_b rfl) dJ1_indexOf_4cfef_33 rfl (le_b rfl) (le_b rfl) (le_b rfl) ?_
      show X l _ _ 0 0 false _ kC 0 0 36 [some (vR (96, w, 0)), some (vI a1), some (vI (if a2 < (0 : Int32) then (0 : Int32) else a2)), some (vI (if (s_len w) < a3 then (s_len w) else a3))] [vI r3] (en u)
      have hx := am_inj hf
      subst hx
      exact r_iret dJ1_indexOf_4cfef_36 rfl rfl (le_b rfl) (le_b rfl)
    · have hf := (am_if hf).2 hc
      refine r_iconst (v := -1) dJ1_indexOf_4cfef_27 rfl ?_
      have hx := am_inj hf
      subst hx
      exact r_iret dJ1_indexOf_4cfef_28 rfl rfl (le_b rfl) (le_b rfl)
  · have hf := (am_if hf).1 hc
    refine r_iconst (v := -1) dJ1_indexOf_4cfef_7 rfl ?_
    have hx := am_inj hf
    subst hx
    exact r_iret dJ1_indexOf_4cfef_8 rfl rfl (le_b rfl) (le_b rfl)
/-! java.lang.String.coder -/
theorem dJ0_coder_7d493_0 : decode cJ0_coder_7d493 0 = .ok (.getstatic 38, 3) := by decide +kernel
theorem dJ0_coder_7d493_3 : decode cJ0_coder_7d493 3 = .ok (.ifCond .eq 10, 3) := by decide +kernel
theorem dJ0_coder_7d493_6 : decode cJ0_coder_7d493 6 = .ok (.aload_n 0, 1) := by decide +kernel
theorem dJ0_coder_7d493_7 : decode cJ0_coder_7d493 7 = .ok (.getfield 15, 3) := by decide +kernel
theorem dJ0_coder_7d493_10 : decode cJ0_coder_7d493 10 = .ok (.goto 4, 3) := by decide +kernel
theorem dJ0_coder_7d493_13 : decode cJ0_coder_7d493 13 = .ok (.iconst 1, 1) := by decide +kernel
theorem dJ0_coder_7d493_14 : decode cJ0_coder_7d493 14 = .ok (.ireturn, 1) := by decide +kernel
def f_J0_coder_7d493 (v : Nat)  (u : PM) : Option (Int32) :=
  some (0 : Int32)
set_option maxHeartbeats 4000000 in
set_option maxRecDepth 20000 in
theorem C_J0_coder_7d493 {l : Launch} {v : Nat} (hv : v < 7)  {u : PM} {x : Int32} (hf : f_J0_coder_7d493 v u = some x) : Ev l mJ0_coder_7d493 1 0 0 false [vR (95, v, 0)] kC (en u) (some (vI x), kC, en u) := by
  refine Ev_of (by decide +kernel) (le_b rfl) ?_
  unfold f_J0_coder_7d493 at hf
  show X l mJ0_coder_7d493 1 0 0 false _ kC 0 0 0 [some (vR (95, v, 0))] [] (en u)
  refine r_getsC sg_J0_38 dJ0_coder_7d493_0 ?_
  refine r_if_eq (tgt := 13) dJ0_coder_7d493_3 (by decide) (fun hc => absurd hc (by decide)) (fun hc => ?_)
  refine r_aload_n (x := (95, v, 0)) dJ0_coder_7d493_6 rfl ?_
  refine r_getSC hv sf_J0_15 dJ0_coder_7d493_7 ?_
  refine r_goto (tgt := 14) dJ0_coder_7d493_10 (by decide) ?_
  have hx := am_inj hf
  subst hx
  exact r_iret dJ0_coder_7d493_14 rfl rfl (le_b rfl) (le_b rfl)
/-! java.lang.String.length -/
theorem dJ0_length_8abf5_0 : decode cJ0_length_8abf5 0 = .ok (.aload_n 0, 1) := by decide +kernel
theorem dJ0_length_8abf5_1 : decode cJ0_length_8abf5 1 = .ok (.getfield 9, 3) := by decide +kernel
theorem dJ0_length_8abf5_4 : decode cJ0_length_8abf5 4 = .ok (.arraylength, 1) := by decide +kernel
theorem dJ0_length_8abf5_5 : decode cJ0_length_8abf5 5 = .ok (.aload_n 0, 1) := by decide +kernel
theorem dJ0_length_8abf5_6 : decode cJ0_length_8abf5 6 = .ok (.invokevirtual 335, 3) := by decide +kernel
theorem dJ0_length_8abf5_9 : decode cJ0_length_8abf5 9 = .ok (.ishr, 1) := by decide +kernel
theorem dJ0_length_8abf5_10 : decode cJ0_length_8abf5 10 = .ok (.ireturn, 1) := by decide +kernel
def f_J0_length_8abf5 (v : Nat)  (u : PM) : Option (Int32) :=
  (f_J0_coder_7d493 v u).bind fun r1 =>
  some ((s_len v) >>> (r1 &&& 31))
set_option maxHeartbeats 4000000 in
set_option maxRecDepth 20000 in
theorem C_J0_length_8abf5 {l : Launch} {v : Nat} (hv : v < 7)  {u : PM} {x : Int32} (hf : f_J0_length_8abf5 v u = some x) : Ev l mJ0_length_8abf5 2 0 0 false [vR (95, v, 0)] kC (en u) (some (vI x), kC, en u) := by
  refine Ev_of (by decide +kernel) (le_b rfl) ?_
  unfold f_J0_length_8abf5 at hf
  show X l mJ0_length_8abf5 2 0 0 false _ kC 0 0 0 [some (vR (95, v, 0))] [] (en u)
  refine r_aload_n (x := (95, v, 0)) dJ0_length_8abf5_0 rfl ?_
  refine r_getSV hv sf_J0_9 dJ0_length_8abf5_1 ?_
  refine r_alenS hv dJ0_length_8abf5_4 ?_
  refine r_aload_n (x := (95, v, 0)) dJ0_length_8abf5_5 rfl ?_
  obtain ⟨r1, hr2, hf⟩ := am_bind hf
  refine r_callT (as := []) (st := [vI (s_len v)]) (n := 0) hv mw_J0_335 mv_J0_coder_7d493 (C_J0_coder_7d493 (l := l) hv hr2) (le_b rfl) dJ0_length_8abf5_6 rfl rfl (le_b rfl) (le_b rfl) (le_b rfl) ?_
  show X l _ _ 0 0 false _ kC 0 0 9 [some (vR (95, v, 0))] [vI r1, vI (s_len v)] (en u)
  refine r_ishr dJ0_length_8abf5_9 ?_
  have hx := am_inj hf
  subst hx
  exact r_iret dJ0_length_8abf5_10 rfl rfl (le_b rfl) (le_b rfl)
/-! java.lang.String.isLatin1 -/
theorem dJ0_isLatin1_aae02_0 : decode cJ0_isLatin1_aae02 0 = .ok (.getstatic 38, 3) := by decide +kernel
theorem dJ0_isLatin1_aae02_3 : decode cJ0_isLatin1_aae02 3 = .ok (.ifCond .eq 14, 3) := by decide +kernel
theorem dJ0_isLatin1_aae02_6 : decode cJ0_isLatin1_aae02 6 = .ok (.aload_n 0, 1) := by decide +kernel
theorem dJ0_isLatin1_aae02_7 : decode cJ0_isLatin1_aae02 7 = .ok (.getfield 15, 3) := by decide +kernel
theorem dJ0_isLatin1_aae02_10 : decode cJ0_isLatin1_aae02 10 = .ok (.ifCond .ne 7, 3) := by decide +kernel
theorem dJ0_isLatin1_aae02_13 : decode cJ0_isLatin1_aae02 13 = .ok (.iconst 1, 1) := by decide +kernel
theorem dJ0_isLatin1_aae02_14 : decode cJ0_isLatin1_aae02 14 = .ok (.goto 4, 3) := by decide +kernel
theorem dJ0_isLatin1_aae02_17 : decode cJ0_isLatin1_aae02 17 = .ok (.iconst 0, 1) := by decide +kernel
theorem dJ0_isLatin1_aae02_18 : decode cJ0_isLatin1_aae02 18 = .ok (.ireturn, 1) := by decide +kernel
def f_J0_isLatin1_aae02 (v : Nat)  (u : PM) : Option (Int32) :=
  some (1 : Int32)
set_option maxHeartbeats 4000000 in
set_option maxRecDepth 20000 in
theorem C_J0_isLatin1_aae02 {l : Launch} {v : Nat} (hv : v < 7)  {u : PM} {x : Int32} (hf : f_J0_isLatin1_aae02 v u = some x) : Ev l mJ0_isLatin1_aae02 1 0 0 false [vR (95, v, 0)] kC (en u) (some (vI x), kC, en u) := by
  refine Ev_of (by decide +kernel) (le_b rfl) ?_
  unfold f_J0_isLatin1_aae02 at hf
  show X l mJ0_isLatin1_aae02 1 0 0 false _ kC 0 0 0 [some (vR (95, v, 0))] [] (en u)
  refine r_getsC sg_J0_38 dJ0_isLatin1_aae02_0 ?_
  refine r_if_eq (tgt := 17) dJ0_isLatin1_aae02_3 (by decide) (fun hc => absurd hc (by decide)) (fun hc => ?_)
  refine r_aload_n (x := (95, v, 0)) dJ0_isLatin1_aae02_6 rfl ?_
  refine r_getSC hv sf_J0_15 dJ0_isLatin1_aae02_7 ?_
  refine r_if_ne (tgt := 17) dJ0_isLatin1_aae02_10 (by decide) (fun hc => absurd hc (by decide)) (fun hc => ?_)
  refine r_iconst (v := 1) dJ0_isLatin1_aae02_13 rfl ?_
  refine r_goto (tgt := 18) dJ0_isLatin1_aae02_14 (by decide) ?_
  have hx := am_inj hf
  subst hx
  exact r_iret dJ0_isLatin1_aae02_18 rfl (am_bool (x := 1) (by decide)).1 (le_b rfl) (le_b rfl)
/-! java.lang.String.charAt -/
theorem dJ0_charAt_5068e_0 : decode cJ0_charAt_5068e 0 = .ok (.aload_n 0, 1) := by decide +kernel
theorem dJ0_charAt_5068e_1 : decode cJ0_charAt_5068e 1 = .ok (.invokevirtual 492, 3) := by decide +kernel
theorem dJ0_charAt_5068e_4 : decode cJ0_charAt_5068e 4 = .ok (.ifCond .eq 12, 3) := by decide +kernel
theorem dJ0_charAt_5068e_7 : decode cJ0_charAt_5068e 7 = .ok (.aload_n 0, 1) := by decide +kernel
theorem dJ0_charAt_5068e_8 : decode cJ0_charAt_5068e 8 = .ok (.getfield 9, 3) := by decide +kernel
theorem dJ0_charAt_5068e_11 : decode cJ0_charAt_5068e 11 = .ok (.iload_n 1, 1) := by decide +kernel
theorem dJ0_charAt_5068e_12 : decode cJ0_charAt_5068e 12 = .ok (.invokestatic 495, 3) := by decide +kernel
theorem dJ0_charAt_5068e_15 : decode cJ0_charAt_5068e 15 = .ok (.ireturn, 1) := by decide +kernel
theorem dJ0_charAt_5068e_16 : decode cJ0_charAt_5068e 16 = .ok (.aload_n 0, 1) := by decide +kernel
theorem dJ0_charAt_5068e_17 : decode cJ0_charAt_5068e 17 = .ok (.getfield 9, 3) := by decide +kernel
theorem dJ0_charAt_5068e_20 : decode cJ0_charAt_5068e 20 = .ok (.iload_n 1, 1) := by decide +kernel
theorem dJ0_charAt_5068e_21 : decode cJ0_charAt_5068e 21 = .ok (.invokestatic 498, 3) := by decide +kernel
theorem dJ0_charAt_5068e_24 : decode cJ0_charAt_5068e 24 = .ok (.ireturn, 1) := by decide +kernel
def f_J0_charAt_5068e (v : Nat) (a0 : Int32) (u : PM) : Option (Int32) :=
  (f_J0_isLatin1_aae02 v u).bind fun r1 =>
  if r1 = 0 then
    none
  else
  (f_J1_charAt_3b067 v a0 u).bind fun r3 =>
  if r3.toUInt32.toUInt16.toUInt32.toInt32 = r3 then
    some r3
  else none
set_option maxHeartbeats 4000000 in
set_option maxRecDepth 20000 in
theorem C_J0_charAt_5068e {l : Launch} {v : Nat} (hv : v < 7) {a0 : Int32} {u : PM} {x : Int32} (hf : f_J0_charAt_5068e v a0 u = some x) : Ev l mJ0_charAt_5068e 5 0 0 false [vR (95, v, 0), vI a0] kC (en u) (some (vI x), kC, en u) := by
  refine Ev_of (by decide +kernel) (le_b rfl) ?_
  unfold f_J0_charAt_5068e at hf
  show X l mJ0_charAt_5068e 5 0 0 false _ kC 0 0 0 [some (vR (95, v, 0)), some (vI a0)] [] (en u)
  refine r_aload_n (x := (95, v, 0)) dJ0_charAt_5068e_0 rfl ?_
  obtain ⟨r1, hr2, hf⟩ := am_bind hf
  refine r_callT (as := []) (st := []) (n := 0) hv mw_J0_492 mv_J0_isLatin1_aae02 (C_J0_isLatin1_aae02 (l := l) hv hr2) (le_b rfl) dJ0_charAt_5068e_1 rfl rfl (le_b rfl) (le_b rfl) (le_b rfl) ?_
  show X l _ _ 0 0 false _ kC 0 0 4 [some (vR (95, v, 0)), some (vI a0)] [vI r1] (en u)
  refine r_if_eq (tgt := 16) dJ0_charAt_5068e_4 (by decide) (fun hc => ?_) (fun hc => ?_)
  · have hf := (am_if hf).1 hc
    refine r_aload_n (x := (95, v, 0)) dJ0_charAt_5068e_16 rfl ?_
    refine r_getSV hv sf_J0_9 dJ0_charAt_5068e_17 ?_
    refine r_iload_n (x := a0) dJ0_charAt_5068e_20 rfl ?_
    cases hf
  · have hf := (am_if hf).2 hc
    refine r_aload_n (x := (95, v, 0)) dJ0_charAt_5068e_7 rfl ?_
    refine r_getSV hv sf_J0_9 dJ0_charAt_5068e_8 ?_
    refine r_iload_n (x := a0) dJ0_charAt_5068e_11 rfl ?_
    obtain ⟨r3, hr4, hf⟩ := am_bind hf
    refine r_callS (as := [vR (96, v, 0), vI a0]) (st := []) (n := 2) mw_J0_495 ms_J1_charAt_3b067 (C_J1_charAt_3b067 (l := l) hv hr4) (le_b rfl) dJ0_charAt_5068e_12 rfl (le_b rfl) (le_b rfl) (le_b rfl) ?_
    show X l _ _ 0 0 false _ kC 0 0 15 [some (vR (95, v, 0)), some (vI a0)] [vI r3] (en u)
    obtain ⟨h5, hf⟩ := am_chk hf
    have hx := am_inj hf
    subst hx
    exact r_iret dJ0_charAt_5068e_15 rfl (congrArg Value.int h5) (le_b rfl) (le_b rfl)
/-! java.lang.String.indexOf -/
theorem dJ0_indexOf_7cf53_0 : decode cJ0_indexOf_7cf53 0 = .ok (.aload_n 0, 1) := by decide +kernel
theorem dJ0_indexOf_7cf53_1 : decode cJ0_indexOf_7cf53 1 = .ok (.invokevirtual 492, 3) := by decide +kernel
theorem dJ0_indexOf_7cf53_4 : decode cJ0_indexOf_7cf53 4 = .ok (.ifCond .eq 19, 3) := by decide +kernel
theorem dJ0_indexOf_7cf53_7 : decode cJ0_indexOf_7cf53 7 = .ok (.aload_n 0, 1) := by decide +kernel
theorem dJ0_indexOf_7cf53_8 : decode cJ0_indexOf_7cf53 8 = .ok (.getfield 9, 3) := by decide +kernel
theorem dJ0_indexOf_7cf53_11 : decode cJ0_indexOf_7cf53 11 = .ok (.iload_n 1, 1) := by decide +kernel
theorem dJ0_indexOf_7cf53_12 : decode cJ0_indexOf_7cf53 12 = .ok (.iload_n 2, 1) := by decide +kernel
theorem dJ0_indexOf_7cf53_13 : decode cJ0_indexOf_7cf53 13 = .ok (.aload_n 0, 1) := by decide +kernel
theorem dJ0_indexOf_7cf53_14 : decode cJ0_indexOf_7cf53 14 = .ok (.invokevirtual 505, 3) := by decide +kernel
theorem dJ0_indexOf_7cf53_17 : decode cJ0_indexOf_7cf53 17 = .ok (.invokestatic 637, 3) := by decide +kernel
theorem dJ0_indexOf_7cf53_20 : decode cJ0_indexOf_7cf53 20 = .ok (.goto 16, 3) := by decide +kernel
theorem dJ0_indexOf_7cf53_23 : decode cJ0_indexOf_7cf53 23 = .ok (.aload_n 0, 1) := by decide +kernel
theorem dJ0_indexOf_7cf53_24 : decode cJ0_indexOf_7cf53 24 = .ok (.getfield 9, 3) := by decide +kernel
theorem dJ0_indexOf_7cf53_27 : decode cJ0_indexOf_7cf53 27 = .ok (.iload_n 1, 1) := by decide +kernel
theorem dJ0_indexOf_7cf53_28 : decode cJ0_indexOf_7cf53 28 = .ok (.iload_n 2, 1) := by decide +kernel
theorem dJ0_indexOf_7cf53_29 : decode cJ0_indexOf_7cf53 29 = .ok (.aload_n 0, 1) := by decide +kernel
theorem dJ0_indexOf_7cf53_30 : decode cJ0_indexOf_7cf53 30 = .ok (.invokevirtual 505, 3) := by decide +kernel
theorem dJ0_indexOf_7cf53_33 : decode cJ0_indexOf_7cf53 33 = .ok (.invokestatic 640, 3) := by decide +kernel
theorem dJ0_indexOf_7cf53_36 : decode cJ0_indexOf_7cf53 36 = .ok (.ireturn, 1) := by decide +kernel
def f_J0_indexOf_7cf53 (v : Nat) (a0 : Int32) (a1 : Int32) (u : PM) : Option (Int32) :=
  (f_J0_isLatin1_aae02 v u).bind fun r1 =>
  if r1 = 0 then
    (f_J0_length_8abf5 v u).bind fun r3 =>
    none
  else
  (f_J0_length_8abf5 v u).bind fun r5 =>
  (f_J1_indexOf_4cfef v a0 a1 r5 u).bind fun r7 =>
  some r7
set_option maxHeartbeats 4000000 in
set_option maxRecDepth 20000 in
theorem C_J0_indexOf_7cf53 {l : Launch} {v : Nat} (hv : v < 7) {a0 : Int32} {a1 : Int32} {u : PM} {x : Int32} (hf : f_J0_indexOf_7cf53 v a0 a1 u = some x) : Ev l mJ0_indexOf_7cf53 6 0 0 false [vR (95, v, 0), vI a0, vI a1] kC (en u) (some (vI x), kC, en u) := by
  refine Ev_of (by decide +kernel) (le_b rfl) ?_
  unfold f_J0_indexOf_7cf53 at hf
  show X l mJ0_indexOf_7cf53 6 0 0 false _ kC 0 0 0 [some (vR (95, v, 0)), some (vI a0), some (vI a1)] [] (en u)
  refine r_aload_n (x := (95, v, 0)) dJ0_indexOf_7cf53_0 rfl ?_
  obtain ⟨r1, hr2, hf⟩ := am_bind hf
  refine r_callT (as := []) (st := []) (n := 0) hv mw_J0_492 mv_J0_isLatin1_aae02 (C_J0_isLatin1_aae02 (l := l) hv hr2) (le_b rfl) dJ0_indexOf_7cf53_1 rfl rfl (le_b rfl) (le_b rfl) (le_b rfl) ?_
  show X l _ _ 0 0 false _ kC 0 0 4 [some (vR (95, v, 0)), some (vI a0), some (vI a1)] [vI r1] (en u)
  refine r_if_eq (tgt := 23) dJ0_indexOf_7cf53_4 (by decide) (fun hc => ?_) (fun hc => ?_)
  · have hf := (am_if hf).1 hc
    refine r_aload_n (x := (95, v, 0)) dJ0_indexOf_7cf53_23 rfl ?_
    refine r_getSV hv sf_J0_9 dJ0_indexOf_7cf53_24 ?_
    refine r_iload_n (x := a0) dJ0_indexOf_7cf53_27 rfl ?_
    refine r_iload_n (x := a1) dJ0_indexOf_7cf53_28 rfl ?_
    refine r_aload_n (x := (95, v, 0)) dJ0_indexOf_7cf53_29 rfl ?_
    obtain ⟨r3, hr4, hf⟩ := am_bind hf
    refine r_callT (as := []) (st := [vI a1, vI a0, vR (96, v, 0)]) (n := 0) hv mw_J0_505 mv_J0_length_8abf5 (C_J0_length_8abf5 (l := l) hv hr4) (le_b rfl) dJ0_indexOf_7cf53_30 rfl rfl (le_b rfl) (le_b rfl) (le_b rfl) ?_
    show X l _ _ 0 0 false _ kC 0 0 33 [some (vR (95, v, 0)), some (vI a0), some (vI a1)] [vI r3, vI a1, vI a0, vR (96, v, 0)] (en u)
    cases hf
  · have hf := (am_if hf).2 hc
    refine r_aload_n (x := (95, v, 0)) dJ0_indexOf_7cf53_7 rfl ?_
    refine r_getSV hv sf_J0_9 dJ0_indexOf_7cf53_8 ?_
    refine r_iload_n (x := a0) dJ0_indexOf_7cf53_11 rfl ?_
    refine r_iload_n (x := a1) dJ0_indexOf_7cf53_12 rfl ?_
    refine r_aload_n (x := (95, v, 0)) dJ0_indexOf_7cf53_13 rfl ?_
    obtain ⟨r5, hr6, hf⟩ := am_bind hf
    refine r_callT (as := []) (st := [vI a1, vI a0, vR (96, v, 0)]) (n := 0) hv mw_J0_505 mv_J0_length_8abf5 (C_J0_length_8abf5 (l := l) hv hr6) (le_b rfl) dJ0_indexOf_7cf53_14 rfl rfl (le_b rfl) (le_b rfl) (le_b rfl) ?_
    show X l _ _ 0 0 false _ kC 0 0 17 [some (vR (95, v, 0)), some (vI a0), some (vI a1)] [vI r5, vI a1, vI a0, vR (96, v, 0)] (en u)
    obtain ⟨r7, hr8, hf⟩ := am_bind hf
    refine r_callS (as := [vR (96, v, 0), vI a0, vI a1, vI r5]) (st := []) (n := 4) mw_J0_637 ms_J1_indexOf_4cfef (C_J1_indexOf_4cfef (l := l) hv hr8) (le_b rfl) dJ0_indexOf_7cf53_17 rfl (le_b rfl) (le_b rfl) (le_b rfl) ?_
    show X l _ _ 0 0 false _ kC 0 0 20 [some (vR (95, v, 0)), some (vI a0), some (vI a1)] [vI r7] (en u)
    refine r_goto (tgt := 36) dJ0_indexOf_7cf53_20 (by decide) ?_
    have hx := am_inj hf
    subst hx
    exact r_iret dJ0_indexOf_7cf53_36 rfl rfl (le_b rfl) (le_b rfl)
/-! java.lang.String.indexOf -/
theorem dJ0_indexOf_0f7a4_0 : decode cJ0_indexOf_0f7a4 0 = .ok (.aload_n 0, 1) := by decide +kernel
theorem dJ0_indexOf_0f7a4_1 : decode cJ0_indexOf_0f7a4 1 = .ok (.iload_n 1, 1) := by decide +kernel
theorem dJ0_indexOf_0f7a4_2 : decode cJ0_indexOf_0f7a4 2 = .ok (.iconst 0, 1) := by decide +kernel
theorem dJ0_indexOf_0f7a4_3 : decode cJ0_indexOf_0f7a4 3 = .ok (.invokevirtual 633, 3) := by decide +kernel
theorem dJ0_indexOf_0f7a4_6 : decode cJ0_indexOf_0f7a4 6 = .ok (.ireturn, 1) := by decide +kernel
def f_J0_indexOf_0f7a4 (v : Nat) (a0 : Int32) (u : PM) : Option (Int32) :=
  (f_J0_indexOf_7cf53 v a0 (0 : Int32) u).bind fun r1 =>
  some r1
set_option maxHeartbeats 4000000 in
set_option maxRecDepth 20000 in
theorem C_J0_indexOf_0f7a4 {l : Launch} {v : Nat} (hv : v < 7) {a0 : Int32} {u : PM} {x : Int32} (hf : f_J0_indexOf_0f7a4 v a0 u = some x) : Ev l mJ0_indexOf_0f7a4 7 0 0 false [vR (95, v, 0), vI a0] kC (en u) (some (vI x), kC, en u) := by
  refine Ev_of (by decide +kernel) (le_b rfl) ?_
  unfold f_J0_indexOf_0f7a4 at hf
  show X l mJ0_indexOf_0f7a4 7 0 0 false _ kC 0 0 0 [some (vR (95, v, 0)), some (vI a0)] [] (en u)
  refine r_aload_n (x := (95, v, 0)) dJ0_indexOf_0f7a4_0 rfl ?_
  refine r_iload_n (x := a0) dJ0_indexOf_0f7a4_1 rfl ?_
  refine r_iconst (v := 0) dJ0_indexOf_0f7a4_2 rfl ?_
  obtain ⟨r1, hr2, hf⟩ := am_bind hf
  refine r_callT (as := [vI a0, vI (0 : Int32)]) (st := []) (n := 2) hv mw_J0_633 mv_J0_indexOf_7cf53 (C_J0_indexOf_7cf53 (l := l) hv hr2) (le_b rfl) dJ0_indexOf_0f7a4_3 rfl rfl (le_b rfl) (le_b rfl) (le_b rfl) ?_
  show X l _ _ 0 0 false _ kC 0 0 6 [some (vR (95, v, 0)), some (vI a0)] [vI r1] (en u)
  have hx := am_inj hf
  subst hx
  exact r_iret dJ0_indexOf_0f7a4_6 rfl rfl (le_b rfl) (le_b rfl)
/-! FireFromFire$Reader.append -/
theorem dX6_append_0 : decode cX6_append 0 = .ok (.aload_n 0, 1) := by decide +kernel
theorem dX6_append_1 : decode cX6_append 1 = .ok (.getfield 15, 3) := by decide +kernel
theorem dX6_append_4 : decode cX6_append 4 = .ok (.ifCond .lt 32, 3) := by decide +kernel
theorem dX6_append_7 : decode cX6_append 7 = .ok (.aload_n 0, 1) := by decide +kernel
theorem dX6_append_8 : decode cX6_append 8 = .ok (.getfield 15, 3) := by decide +kernel
theorem dX6_append_11 : decode cX6_append 11 = .ok (.bipush 100, 2) := by decide +kernel
theorem dX6_append_13 : decode cX6_append 13 = .ok (.if_icmp .ge 23, 3) := by decide +kernel
theorem dX6_append_16 : decode cX6_append 16 = .ok (.aload_n 0, 1) := by decide +kernel
theorem dX6_append_17 : decode cX6_append 17 = .ok (.getfield 9, 3) := by decide +kernel
theorem dX6_append_20 : decode cX6_append 20 = .ok (.aload_n 0, 1) := by decide +kernel
theorem dX6_append_21 : decode cX6_append 21 = .ok (.getfield 15, 3) := by decide +kernel
theorem dX6_append_24 : decode cX6_append 24 = .ok (.iload_n 1, 1) := by decide +kernel
theorem dX6_append_25 : decode cX6_append 25 = .ok (.iastore, 1) := by decide +kernel
theorem dX6_append_26 : decode cX6_append 26 = .ok (.aload_n 0, 1) := by decide +kernel
theorem dX6_append_27 : decode cX6_append 27 = .ok (.dup, 1) := by decide +kernel
theorem dX6_append_28 : decode cX6_append 28 = .ok (.getfield 15, 3) := by decide +kernel
theorem dX6_append_31 : decode cX6_append 31 = .ok (.iconst 1, 1) := by decide +kernel
theorem dX6_append_32 : decode cX6_append 32 = .ok (.iadd, 1) := by decide +kernel
theorem dX6_append_33 : decode cX6_append 33 = .ok (.putfield 15, 3) := by decide +kernel
theorem dX6_append_36 : decode cX6_append 36 = .ok (.return_, 1) := by decide +kernel
def f_X6_append  (a0 : Int32) (u : PM) : Option (PM) :=
  if (u.1 (9, 0, 0) 1) < 0 then
    some u
  else
  if (100 : Int32) ≤ (u.1 (9, 0, 0) 1) then
    some u
  else
  if (u.1 (9, 0, 0) 1) < 0 ∨ 100 ≤ (u.1 (9, 0, 0) 1).toNatClampNeg then none else
  some (pi (pi u (10, 0, 0) ((u.1 (9, 0, 0) 1).toNatClampNeg) a0) (9, 0, 0) 1 ((u.1 (9, 0, 0) 1) + (1 : Int32)))
set_option maxHeartbeats 4000000 in
set_option maxRecDepth 20000 in
theorem C_X6_append {l : Launch}  {a0 : Int32} {u : PM} {x : PM} (hf : f_X6_append a0 u = some x) : Ev l mX6_append 1 0 0 false [vR (9, 0, 0), vI a0] kC (en u) (none, kC, en x) := by
  refine Ev_of (by decide +kernel) (le_b rfl) ?_
  unfold f_X6_append at hf
  show X l mX6_append 1 0 0 false _ kC 0 0 0 [some (vR (9, 0, 0)), some (vI a0)] [] (en u)
  refine r_aload_n (x := (9, 0, 0)) dX6_append_0 rfl ?_
  refine e_geti fw_X6_15 dX6_append_1 (kC_mem (s := 9) (by decide) (by decide) (by decide)) rfl (lt_b rfl) ?_
  refine r_if_lt (tgt := 36) dX6_append_4 (by decide) (fun hc => ?_) (fun hc => ?_)
  · have hf := (am_if hf).1 hc
    have hx := am_inj hf
    subst hx
    exact r_vret dX6_append_36 rfl (le_b rfl) (le_b rfl)
  · have hf := (am_if hf).2 hc
    refine r_aload_n (x := (9, 0, 0)) dX6_append_7 rfl ?_
    refine e_geti fw_X6_15 dX6_append_8 (kC_mem (s := 9) (by decide) (by decide) (by decide)) rfl (lt_b rfl) ?_
    refine r_bipush (v := 100) dX6_append_11 rfl ?_
    refine r_icmp_ge (tgt := 36) dX6_append_13 (by decide) (fun hc => ?_) (fun hc => ?_)
    · have hf := (am_if hf).1 hc
      have hx := am_inj hf
      subst hx
      exact r_vret dX6_append_36 rfl (le_b rfl) (le_b rfl)
    · have hf := (am_if hf).2 hc
      refine r_aload_n (x := (9, 0, 0)) dX6_append_16 rfl ?_
      refine e_getr (z := some (10, 0, 0)) fw_X6_9 dX6_append_17 (kC_mem (s := 9) (by decide) (by decide) (by decide)) rfl (lt_b rfl) rfl ?_
      refine r_aload_n (x := (9, 0, 0)) dX6_append_20 rfl ?_
      refine e_geti fw_X6_15 dX6_append_21 (kC_mem (s := 9) (by decide) (by decide) (by decide)) rfl (lt_b rfl) ?_
      refine r_iload_n (x := a0) dX6_append_24 rfl ?_
      obtain ⟨h1, hf⟩ := am_nchk hf
      refine e_iast (n := (u.1 (9, 0, 0) 1).toNatClampNeg) dX6_append_25 (kC_mem (s := 10) (by decide) (by decide) (by decide)) rfl h1 rfl ?_
      refine r_aload_n (x := (9, 0, 0)) dX6_append_26 rfl ?_
      refine r_dup dX6_append_27 rfl ?_
      refine e_geti_ (x := u.1 (9, 0, 0) 1) fw_X6_15 dX6_append_28 (kC_mem (s := 9) (by decide) (by decide) (by decide)) rfl (lt_b rfl) (by simp [pi, pl, pr, pci, pcl]) ?_
      refine r_iconst (v := 1) dX6_append_31 rfl ?_
      refine r_iadd dX6_append_32 ?_
      refine e_puti fp_X6_15 dX6_append_33 (kC_mem (s := 9) (by decide) (by decide) (by decide)) rfl (lt_b rfl) rfl rfl rfl ?_
      have hx := am_inj hf
      subst hx
      exact r_vret dX6_append_36 rfl (le_b rfl) (le_b rfl)
/-! FireFromFire$Reader.sign -/
theorem dX6_sign_0 : decode cX6_sign 0 = .ok (.aload_n 0, 1) := by decide +kernel
theorem dX6_sign_1 : decode cX6_sign 1 = .ok (.getfield 19, 3) := by decide +kernel
theorem dX6_sign_4 : decode cX6_sign 4 = .ok (.ifCond .lt 35, 3) := by decide +kernel
theorem dX6_sign_7 : decode cX6_sign 7 = .ok (.aload_n 0, 1) := by decide +kernel
theorem dX6_sign_8 : decode cX6_sign 8 = .ok (.getfield 19, 3) := by decide +kernel
theorem dX6_sign_11 : decode cX6_sign 11 = .ok (.aload_n 0, 1) := by decide +kernel
theorem dX6_sign_12 : decode cX6_sign 12 = .ok (.getfield 15, 3) := by decide +kernel
theorem dX6_sign_15 : decode cX6_sign 15 = .ok (.if_icmp .ge 24, 3) := by decide +kernel
theorem dX6_sign_18 : decode cX6_sign 18 = .ok (.aload_n 0, 1) := by decide +kernel
theorem dX6_sign_19 : decode cX6_sign 19 = .ok (.getfield 19, 3) := by decide +kernel
theorem dX6_sign_22 : decode cX6_sign 22 = .ok (.bipush 100, 2) := by decide +kernel
theorem dX6_sign_24 : decode cX6_sign 24 = .ok (.if_icmp .ge 15, 3) := by decide +kernel
theorem dX6_sign_27 : decode cX6_sign 27 = .ok (.aload_n 0, 1) := by decide +kernel
theorem dX6_sign_28 : decode cX6_sign 28 = .ok (.getfield 9, 3) := by decide +kernel
theorem dX6_sign_31 : decode cX6_sign 31 = .ok (.aload_n 0, 1) := by decide +kernel
theorem dX6_sign_32 : decode cX6_sign 32 = .ok (.getfield 19, 3) := by decide +kernel
theorem dX6_sign_35 : decode cX6_sign 35 = .ok (.iaload, 1) := by decide +kernel
theorem dX6_sign_36 : decode cX6_sign 36 = .ok (.goto 4, 3) := by decide +kernel
theorem dX6_sign_39 : decode cX6_sign 39 = .ok (.iconst (-1), 1) := by decide +kernel
theorem dX6_sign_40 : decode cX6_sign 40 = .ok (.ireturn, 1) := by decide +kernel
def f_X6_sign   (u : PM) : Option (Int32) :=
  if (u.1 (9, 0, 0) 2) < 0 then
    some (-1 : Int32)
  else
  if (u.1 (9, 0, 0) 1) ≤ (u.1 (9, 0, 0) 2) then
    some (-1 : Int32)
  else
  if (100 : Int32) ≤ (u.1 (9, 0, 0) 2) then
    some (-1 : Int32)
  else
  if (u.1 (9, 0, 0) 2) < 0 ∨ 100 ≤ (u.1 (9, 0, 0) 2).toNatClampNeg then none else
  some (u.1 (10, 0, 0) ((u.1 (9, 0, 0) 2).toNatClampNeg))
set_option maxHeartbeats 4000000 in
set_option maxRecDepth 20000 in
theorem C_X6_sign {l : Launch}   {u : PM} {x : Int32} (hf : f_X6_sign u = some x) : Ev l mX6_sign 1 0 0 false [vR (9, 0, 0)] kC (en u) (some (vI x), kC, en u) := by
  refine Ev_of (by decide +kernel) (le_b rfl) ?_
  unfold f_X6_sign at hf
  show X l mX6_sign 1 0 0 false _ kC 0 0 0 [some (vR (9, 0, 0))] [] (en u)
  refine r_aload_n (x := (9, 0, 0)) dX6_sign_0 rfl ?_
  refine e_geti fw_X6_19 dX6_sign_1 (kC_mem (s := 9) (by decide) (by decide) (by decide)) rfl (lt_b rfl) ?_
  refine r_if_lt (tgt := 39) dX6_sign_4 (by decide) (fun hc => ?_) (fun hc => ?_)
  · have hf := (am_if hf).1 hc
    refine r_iconst (v := -1) dX6_sign_39 rfl ?_
    have hx := am_inj hf
    subst hx
    exact r_iret dX6_sign_40 rfl rfl (le_b rfl) (le_b rfl)
  · have hf := (am_if hf).2 hc
    refine r_aload_n (x := (9, 0, 0)) dX6_sign_7 rfl ?_
    refine e_geti fw_X6_19 dX6_sign_8 (kC_mem (s := 9) (by decide) (by decide) (by decide)) rfl (lt_b rfl) ?_
    refine r_aload_n (x := (9, 0, 0)) dX6_sign_11 rfl ?_
    refine e_geti fw_X6_15 dX6_sign_12 (kC_mem (s := 9) (by decide) (by decide) (by decide)) rfl (lt_b rfl) ?_
    refine r_icmp_ge (tgt := 39) dX6_sign_15 (by decide) (fun hc => ?_) (fun hc => ?_)
    · have hf := (am_if hf).1 hc
      refine r_iconst (v := -1) dX6_sign_39 rfl ?_
      have hx := am_inj hf
      subst hx
      exact r_iret dX6_sign_40 rfl rfl (le_b rfl) (le_b rfl)
    · have hf := (am_if hf).2 hc
      refine r_aload_n (x := (9, 0, 0)) dX6_sign_18 rfl ?_
      refine e_geti fw_X6_19 dX6_sign_19 (kC_mem (s := 9) (by decide) (by decide) (by decide)) rfl (lt_b rfl) ?_
      refine r_bipush (v := 100) dX6_sign_22 rfl ?_
      refine r_icmp_ge (tgt := 39) dX6_sign_24 (by decide) (fun hc => ?_) (fun hc => ?_)
      · have hf := (am_if hf).1 hc
        refine r_iconst (v := -1) dX6_sign_39 rfl ?_
        have hx := am_inj hf
        subst hx
        exact r_iret dX6_sign_40 rfl rfl (le_b rfl) (le_b rfl)
      · have hf := (am_if hf).2 hc
        refine r_aload_n (x := (9, 0, 0)) dX6_sign_27 rfl ?_
        refine e_getr (z := some (10, 0, 0)) fw_X6_9 dX6_sign_28 (kC_mem (s := 9) (by decide) (by decide) (by decide)) rfl (lt_b rfl) rfl ?_
        refine r_aload_n (x := (9, 0, 0)) dX6_sign_31 rfl ?_
        refine e_geti fw_X6_19 dX6_sign_32 (kC_mem (s := 9) (by decide) (by decide) (by decide)) rfl (lt_b rfl) ?_
        obtain ⟨h1, hf⟩ := am_nchk hf
        refine e_iald (n := (u.1 (9, 0, 0) 2).toNatClampNeg) dX6_sign_35 (kC_mem (s := 10) (by decide) (by decide) (by decide)) rfl h1 rfl rfl ?_
        refine r_goto (tgt := 40) dX6_sign_36 (by decide) ?_
        have hx := am_inj hf
        subst hx
        exact r_iret dX6_sign_40 rfl rfl (le_b rfl) (le_b rfl)
/-! FireFromFire$Reader.take -/
theorem dX6_take_0 : decode cX6_take 0 = .ok (.aload_n 0, 1) := by decide +kernel
theorem dX6_take_1 : decode cX6_take 1 = .ok (.invokevirtual 56, 3) := by decide +kernel
theorem dX6_take_4 : decode cX6_take 4 = .ok (.iload_n 1, 1) := by decide +kernel
theorem dX6_take_5 : decode cX6_take 5 = .ok (.if_icmp .eq 5, 3) := by decide +kernel
theorem dX6_take_8 : decode cX6_take 8 = .ok (.iconst 0, 1) := by decide +kernel
theorem dX6_take_9 : decode cX6_take 9 = .ok (.ireturn, 1) := by decide +kernel
theorem dX6_take_10 : decode cX6_take 10 = .ok (.aload_n 0, 1) := by decide +kernel
theorem dX6_take_11 : decode cX6_take 11 = .ok (.dup, 1) := by decide +kernel
theorem dX6_take_12 : decode cX6_take 12 = .ok (.getfield 19, 3) := by decide +kernel
theorem dX6_take_15 : decode cX6_take 15 = .ok (.iconst 1, 1) := by decide +kernel
theorem dX6_take_16 : decode cX6_take 16 = .ok (.iadd, 1) := by decide +kernel
theorem dX6_take_17 : decode cX6_take 17 = .ok (.putfield 19, 3) := by decide +kernel
theorem dX6_take_20 : decode cX6_take 20 = .ok (.iconst 1, 1) := by decide +kernel
theorem dX6_take_21 : decode cX6_take 21 = .ok (.ireturn, 1) := by decide +kernel
def f_X6_take  (a0 : Int32) (u : PM) : Option (Int32 × PM) :=
  (f_X6_sign u).bind fun r1 =>
  if r1 = a0 then
    some ((1 : Int32), (pi u (9, 0, 0) 2 ((u.1 (9, 0, 0) 2) + (1 : Int32))))
  else
  some ((0 : Int32), u)
set_option maxHeartbeats 4000000 in
set_option maxRecDepth 20000 in
theorem C_X6_take {l : Launch}  {a0 : Int32} {u : PM} {x : Int32 × PM} (hf : f_X6_take a0 u = some x) : Ev l mX6_take 2 0 0 false [vR (9, 0, 0), vI a0] kC (en u) (some (vI x.1), kC, en x.2) := by
  refine Ev_of (by decide +kernel) (le_b rfl) ?_
  unfold f_X6_take at hf
  show X l mX6_take 2 0 0 false _ kC 0 0 0 [some (vR (9, 0, 0)), some (vI a0)] [] (en u)
  refine r_aload_n (x := (9, 0, 0)) dX6_take_0 rfl ?_
  obtain ⟨r1, hr2, hf⟩ := am_bind hf
  refine r_callV (as := []) (st := []) (n := 0) mw_X6_56 mv_X6_sign (C_X6_sign (l := l) hr2) (le_b rfl) dX6_take_1 (kC_mem (s := 9) (by decide) (by decide) (by decide)) rfl rfl rfl (le_b rfl) (le_b rfl) (le_b rfl) ?_
  show X l _ _ 0 0 false _ kC 0 0 4 [some (vR (9, 0, 0)), some (vI a0)] [vI r1] (en u)
  refine r_iload_n (x := a0) dX6_take_4 rfl ?_
  refine r_icmp_eq (tgt := 10) dX6_take_5 (by decide) (fun hc => ?_) (fun hc => ?_)
  · have hf := (am_if hf).1 hc
    refine r_aload_n (x := (9, 0, 0)) dX6_take_10 rfl ?_
    refine r_dup dX6_take_11 rfl ?_
    refine e_geti fw_X6_19 dX6_take_12 (kC_mem (s := 9) (by decide) (by decide) (by decide)) rfl (lt_b rfl) ?_
    refine r_iconst (v := 1) dX6_take_15 rfl ?_
    refine r_iadd dX6_take_16 ?_
    refine e_puti fp_X6_19 dX6_take_17 (kC_mem (s := 9) (by decide) (by decide) (by decide)) rfl (lt_b rfl) rfl rfl rfl ?_
    refine r_iconst (v := 1) dX6_take_20 rfl ?_
    have hx := am_inj hf
    subst hx
    exact r_iret dX6_take_21 rfl (am_bool (x := 1) (by decide)).1 (le_b rfl) (le_b rfl)
  · have hf := (am_if hf).2 hc
    refine r_iconst (v := 0) dX6_take_8 rfl ?_
    have hx := am_inj hf
    subst hx
    exact r_iret dX6_take_9 rfl (am_bool (x := 0) (by decide)).1 (le_b rfl) (le_b rfl)
/-! FireFromFire$Reader.takeAll -/
theorem dX6_takeAll_0 : decode cX6_takeAll 0 = .ok (.iconst 0, 1) := by decide +kernel
theorem dX6_takeAll_1 : decode cX6_takeAll 1 = .ok (.istore_n 2, 1) := by decide +kernel
theorem dX6_takeAll_2 : decode cX6_takeAll 2 = .ok (.iload_n 2, 1) := by decide +kernel
theorem dX6_takeAll_3 : decode cX6_takeAll 3 = .ok (.aload_n 1, 1) := by decide +kernel
theorem dX6_takeAll_4 : decode cX6_takeAll 4 = .ok (.invokevirtual 59, 3) := by decide +kernel
theorem dX6_takeAll_7 : decode cX6_takeAll 7 = .ok (.if_icmp .ge 23, 3) := by decide +kernel
theorem dX6_takeAll_10 : decode cX6_takeAll 10 = .ok (.aload_n 0, 1) := by decide +kernel
theorem dX6_takeAll_11 : decode cX6_takeAll 11 = .ok (.aload_n 1, 1) := by decide +kernel
theorem dX6_takeAll_12 : decode cX6_takeAll 12 = .ok (.iload_n 2, 1) := by decide +kernel
theorem dX6_takeAll_13 : decode cX6_takeAll 13 = .ok (.invokevirtual 63, 3) := by decide +kernel
theorem dX6_takeAll_16 : decode cX6_takeAll 16 = .ok (.invokevirtual 38, 3) := by decide +kernel
theorem dX6_takeAll_19 : decode cX6_takeAll 19 = .ok (.ifCond .ne 5, 3) := by decide +kernel
theorem dX6_takeAll_22 : decode cX6_takeAll 22 = .ok (.iconst 0, 1) := by decide +kernel
theorem dX6_takeAll_23 : decode cX6_takeAll 23 = .ok (.ireturn, 1) := by decide +kernel
theorem dX6_takeAll_24 : decode cX6_takeAll 24 = .ok (.iinc 2 1, 3) := by decide +kernel
theorem dX6_takeAll_27 : decode cX6_takeAll 27 = .ok (.goto (-25), 3) := by decide +kernel
theorem dX6_takeAll_30 : decode cX6_takeAll 30 = .ok (.iconst 1, 1) := by decide +kernel
theorem dX6_takeAll_31 : decode cX6_takeAll 31 = .ok (.ireturn, 1) := by decide +kernel
def f_X6_takeAll_L2 (n0 : Nat)  : Int32 × PM → Option ((Int32 × PM) ⊕ ((Int32 × PM) ⊕ (PM))) := fun (x2 , u) =>
  (f_J0_length_8abf5 n0 u).bind fun r1 =>
  if r1 ≤ x2 then
    some (.inr (.inr (u)))
  else
  (f_J0_charAt_5068e n0 x2 u).bind fun r3 =>
  (f_X6_take r3 u).bind fun (r5, u7) =>
  if r5 = 0 then
    some (.inr (.inl ((0 : Int32), u7)))
  else
  some (.inl (x2 + (1 : Int32), u7))
set_option maxHeartbeats 4000000 in
set_option maxRecDepth 20000 in
theorem K_X6_takeAll_L2 {l : Launch} {T : Option AV × List Key × AM} {n0 : Nat} (hn0 : n0 < 7)  : ∀ (n : Nat) (s : Int32 × PM) (e0 : (Int32 × PM) ⊕ (PM)), am_loop (f_X6_takeAll_L2 n0) n s = some e0 → Sum.elim (fun r : Int32 × PM => T = (some (vI r.1), kC, en r.2)) (fun e : PM => X l mX6_takeAll 6 0 0 false T kC 0 0 30 [none, none, none] [] (en e)) e0 → X l mX6_takeAll 6 0 0 false T kC 0 0 2 [some (vR (9, 0, 0)), some (vR (95, n0, 0)), some (vI s.1)] [] (en s.2) := by
  refine am_loop_of ?_
  intro s x hf k1 k2
  obtain ⟨x2 , u⟩ := s
  unfold f_X6_takeAll_L2 at hf
  show X l mX6_takeAll 6 0 0 false T kC 0 0 2 [some (vR (9, 0, 0)), some (vR (95, n0, 0)), some (vI x2)] [] (en u)
  refine r_iload_n (x := x2) dX6_takeAll_2 rfl ?_
  refine r_aload_n (x := (95, n0, 0)) dX6_takeAll_3 rfl ?_
  obtain ⟨r1, hr2, hf⟩ := am_bind hf
  refine r_callT (as := []) (st := [vI x2]) (n := 0) hn0 mw_X6_59 mv_J0_length_8abf5 (C_J0_length_8abf5 (l := l) hn0 hr2) (le_b rfl) dX6_takeAll_4 rfl rfl (le_b rfl) (le_b rfl) (le_b rfl) ?_
  show X l _ _ 0 0 false _ kC 0 0 7 [some (vR (9, 0, 0)), some (vR (95, n0, 0)), some (vI x2)] [vI r1, vI x2] (en u)
  refine r_icmp_ge (tgt := 30) dX6_takeAll_7 (by decide) (fun hc => ?_) (fun hc => ?_)
  · have hf := (am_if hf).1 hc
    refine r_weak (L' := [none, none, none]) trivial ?_
    exact k2 (.inr (u)) (am_inj hf).symm
  · have hf := (am_if hf).2 hc
    refine r_aload_n (x := (9, 0, 0)) dX6_takeAll_10 rfl ?_
    refine r_aload_n (x := (95, n0, 0)) dX6_takeAll_11 rfl ?_
    refine r_iload_n (x := x2) dX6_takeAll_12 rfl ?_
    obtain ⟨r3, hr4, hf⟩ := am_bind hf
    refine r_callT (as := [vI x2]) (st := [vR (9, 0, 0)]) (n := 1) hn0 mw_X6_63 mv_J0_charAt_5068e (C_J0_charAt_5068e (l := l) hn0 hr4) (le_b rfl) dX6_takeAll_13 rfl rfl (le_b rfl) (le_b rfl) (le_b rfl) ?_
    show X l _ _ 0 0 false _ kC 0 0 16 [some (vR (9, 0, 0)), some (vR (95, n0, 0)), some (vI x2)] [vI r3, vR (9, 0, 0)] (en u)
    obtain ⟨⟨r5, u7⟩, hr6, hf⟩ := am_bind hf
    refine r_callV (as := [vI r3]) (st := []) (n := 1) mw_X6_38 mv_X6_take (C_X6_take (l := l) hr6) (le_b rfl) dX6_takeAll_16 (kC_mem (s := 9) (by decide) (by decide) (by decide)) rfl rfl rfl (le_b rfl) (le_b rfl) (le_b rfl) ?_
    show X l _ _ 0 0 false _ kC 0 0 19 [some (vR (9, 0, 0)), some (vR (95, n0, 0)), some (vI x2)] [vI r5] (en u7)
    refine r_if_ne (tgt := 24) dX6_takeAll_19 (by decide) (fun hc => ?_) (fun hc => ?_)
    · have hf := (am_if hf).2 hc
      refine r_iinc (x := x2) (v := x2 + (1 : Int32)) (L' := [some (vR (9, 0, 0)), some (vR (95, n0, 0)), some (vI (x2 + (1 : Int32)))]) dX6_takeAll_24 rfl rfl (lt_b rfl) rfl ?_
      refine r_goto (tgt := 2) dX6_takeAll_27 (by decide) ?_
      refine r_weak (L' := [some (vR (9, 0, 0)), some (vR (95, n0, 0)), some (vI (x2 + (1 : Int32)))]) (And.intro rfl (And.intro rfl (And.intro rfl trivial))) ?_
      exact k1 (x2 + (1 : Int32), u7) (am_inj hf).symm
    · have hf := (am_if hf).1 hc
      refine r_iconst (v := 0) dX6_takeAll_22 rfl ?_
      have hT := k2 _ (am_inj hf).symm
      replace hT : T = (some (vI (0 : Int32)), kC, en u7) := hT
      subst hT
      exact r_iret dX6_takeAll_23 rfl (am_bool (x := 0) (by decide)).1 (le_b rfl) (le_b rfl)
def f_X6_takeAll (w : Nat)  (u : PM) : Option (Int32 × PM) :=
  (am_loop (f_X6_takeAll_L2 w) 2000 ((0 : Int32), u)).bind fun e8 =>
  match e8 with
  | .inl q11 => some q11
  | .inr u10 =>
    some ((1 : Int32), u10)
set_option maxHeartbeats 4000000 in
set_option maxRecDepth 20000 in
theorem C_X6_takeAll {l : Launch} {w : Nat} (hw : w < 7)  {u : PM} {x : Int32 × PM} (hf : f_X6_takeAll w u = some x) : Ev l mX6_takeAll 6 0 0 false [vR (9, 0, 0), vR (95, w, 0)] kC (en u) (some (vI x.1), kC, en x.2) := by
  refine Ev_of (by decide +kernel) (le_b rfl) ?_
  unfold f_X6_takeAll at hf
  show X l mX6_takeAll 6 0 0 false _ kC 0 0 0 [some (vR (9, 0, 0)), some (vR (95, w, 0)), none] [] (en u)
  refine r_iconst (v := 0) dX6_takeAll_0 rfl ?_
  refine r_istore_n (L' := [some (vR (9, 0, 0)), some (vR (95, w, 0)), some (vI (0 : Int32))]) dX6_takeAll_1 (by decide) rfl ?_
  refine r_weak (L' := [some (vR (9, 0, 0)), some (vR (95, w, 0)), some (vI (0 : Int32))]) (And.intro rfl (And.intro rfl (And.intro rfl trivial))) ?_
  obtain ⟨e8, he9, hf⟩ := am_bind hf
  refine K_X6_takeAll_L2 hw 2000 ((0 : Int32), u) _ he9 ?_
  rcases e8 with q11 | e8
  · have hx := am_inj hf
    subst hx
    rfl
  · obtain ⟨u10, rfl⟩ : ∃ z, z = e8 := ⟨_, rfl⟩
    show X l _ _ 0 0 false _ kC 0 0 30 [none, none, none] [] (en u10)
    refine r_iconst (v := 1) dX6_takeAll_30 rfl ?_
    have hx := am_inj hf
    subst hx
    exact r_iret dX6_takeAll_31 rfl (am_bool (x := 1) (by decide)).1 (le_b rfl) (le_b rfl)
/-! FireFromFire$Reader.takeWord -/
theorem dX6_takeWord_0 : decode cX6_takeWord 0 = .ok (.aload_n 0, 1) := by decide +kernel
theorem dX6_takeWord_1 : decode cX6_takeWord 1 = .ok (.invokevirtual 56, 3) := by decide +kernel
theorem dX6_takeWord_4 : decode cX6_takeWord 4 = .ok (.lookupswitch 81 #[(98, 51), (104, 66), (111, 36)], 36) := by decide +kernel
theorem dX6_takeWord_40 : decode cX6_takeWord 40 = .ok (.aload_n 0, 1) := by decide +kernel
theorem dX6_takeWord_41 : decode cX6_takeWord 41 = .ok (.ldc 67, 2) := by decide +kernel
theorem dX6_takeWord_43 : decode cX6_takeWord 43 = .ok (.invokevirtual 69, 3) := by decide +kernel
theorem dX6_takeWord_46 : decode cX6_takeWord 46 = .ok (.ifCond .eq 7, 3) := by decide +kernel
theorem dX6_takeWord_49 : decode cX6_takeWord 49 = .ok (.iconst 0, 1) := by decide +kernel
theorem dX6_takeWord_50 : decode cX6_takeWord 50 = .ok (.goto 4, 3) := by decide +kernel
theorem dX6_takeWord_53 : decode cX6_takeWord 53 = .ok (.iconst (-1), 1) := by decide +kernel
theorem dX6_takeWord_54 : decode cX6_takeWord 54 = .ok (.ireturn, 1) := by decide +kernel
theorem dX6_takeWord_55 : decode cX6_takeWord 55 = .ok (.aload_n 0, 1) := by decide +kernel
theorem dX6_takeWord_56 : decode cX6_takeWord 56 = .ok (.ldc 73, 2) := by decide +kernel
theorem dX6_takeWord_58 : decode cX6_takeWord 58 = .ok (.invokevirtual 69, 3) := by decide +kernel
theorem dX6_takeWord_61 : decode cX6_takeWord 61 = .ok (.ifCond .eq 7, 3) := by decide +kernel
theorem dX6_takeWord_64 : decode cX6_takeWord 64 = .ok (.iconst 1, 1) := by decide +kernel
theorem dX6_takeWord_65 : decode cX6_takeWord 65 = .ok (.goto 4, 3) := by decide +kernel
theorem dX6_takeWord_68 : decode cX6_takeWord 68 = .ok (.iconst (-1), 1) := by decide +kernel
theorem dX6_takeWord_69 : decode cX6_takeWord 69 = .ok (.ireturn, 1) := by decide +kernel
theorem dX6_takeWord_70 : decode cX6_takeWord 70 = .ok (.aload_n 0, 1) := by decide +kernel
theorem dX6_takeWord_71 : decode cX6_takeWord 71 = .ok (.ldc 75, 2) := by decide +kernel
theorem dX6_takeWord_73 : decode cX6_takeWord 73 = .ok (.invokevirtual 69, 3) := by decide +kernel
theorem dX6_takeWord_76 : decode cX6_takeWord 76 = .ok (.ifCond .eq 7, 3) := by decide +kernel
theorem dX6_takeWord_79 : decode cX6_takeWord 79 = .ok (.iconst 2, 1) := by decide +kernel
theorem dX6_takeWord_80 : decode cX6_takeWord 80 = .ok (.goto 4, 3) := by decide +kernel
theorem dX6_takeWord_83 : decode cX6_takeWord 83 = .ok (.iconst (-1), 1) := by decide +kernel
theorem dX6_takeWord_84 : decode cX6_takeWord 84 = .ok (.ireturn, 1) := by decide +kernel
theorem dX6_takeWord_85 : decode cX6_takeWord 85 = .ok (.aload_n 0, 1) := by decide +kernel
theorem dX6_takeWord_86 : decode cX6_takeWord 86 = .ok (.ldc 77, 2) := by decide +kernel
theorem dX6_takeWord_88 : decode cX6_takeWord 88 = .ok (.invokevirtual 69, 3) := by decide +kernel
theorem dX6_takeWord_91 : decode cX6_takeWord 91 = .ok (.ifCond .ne 5, 3) := by decide +kernel
theorem dX6_takeWord_94 : decode cX6_takeWord 94 = .ok (.iconst (-1), 1) := by decide +kernel
theorem dX6_takeWord_95 : decode cX6_takeWord 95 = .ok (.ireturn, 1) := by decide +kernel
theorem dX6_takeWord_96 : decode cX6_takeWord 96 = .ok (.aload_n 0, 1) := by decide +kernel
theorem dX6_takeWord_97 : decode cX6_takeWord 97 = .ok (.invokevirtual 56, 3) := by decide +kernel
theorem dX6_takeWord_100 : decode cX6_takeWord 100 = .ok (.bipush 120, 2) := by decide +kernel
theorem dX6_takeWord_102 : decode cX6_takeWord 102 = .ok (.if_icmp .ne 18, 3) := by decide +kernel
theorem dX6_takeWord_105 : decode cX6_takeWord 105 = .ok (.aload_n 0, 1) := by decide +kernel
theorem dX6_takeWord_106 : decode cX6_takeWord 106 = .ok (.ldc 79, 2) := by decide +kernel
theorem dX6_takeWord_108 : decode cX6_takeWord 108 = .ok (.invokevirtual 69, 3) := by decide +kernel
theorem dX6_takeWord_111 : decode cX6_takeWord 111 = .ok (.ifCond .eq 7, 3) := by decide +kernel
theorem dX6_takeWord_114 : decode cX6_takeWord 114 = .ok (.iconst 4, 1) := by decide +kernel
theorem dX6_takeWord_115 : decode cX6_takeWord 115 = .ok (.goto 4, 3) := by decide +kernel
theorem dX6_takeWord_118 : decode cX6_takeWord 118 = .ok (.iconst (-1), 1) := by decide +kernel
theorem dX6_takeWord_119 : decode cX6_takeWord 119 = .ok (.ireturn, 1) := by decide +kernel
theorem dX6_takeWord_120 : decode cX6_takeWord 120 = .ok (.aload_n 0, 1) := by decide +kernel
theorem dX6_takeWord_121 : decode cX6_takeWord 121 = .ok (.ldc 81, 2) := by decide +kernel
theorem dX6_takeWord_123 : decode cX6_takeWord 123 = .ok (.invokevirtual 69, 3) := by decide +kernel
theorem dX6_takeWord_126 : decode cX6_takeWord 126 = .ok (.ifCond .eq 7, 3) := by decide +kernel
theorem dX6_takeWord_129 : decode cX6_takeWord 129 = .ok (.iconst 3, 1) := by decide +kernel
theorem dX6_takeWord_130 : decode cX6_takeWord 130 = .ok (.goto 4, 3) := by decide +kernel
theorem dX6_takeWord_133 : decode cX6_takeWord 133 = .ok (.iconst (-1), 1) := by decide +kernel
theorem dX6_takeWord_134 : decode cX6_takeWord 134 = .ok (.ireturn, 1) := by decide +kernel
def f_X6_takeWord   (u : PM) : Option (Int32 × PM) :=
  (f_X6_sign u).bind fun r1 =>
  if r1 = (98 : Int32) then
    (f_X6_takeAll 1 u).bind fun (r3, u5) =>
    if r3 = 0 then
      some ((-1 : Int32), u5)
    else
    some ((1 : Int32), u5)
  else if r1 = (104 : Int32) then
    (f_X6_takeAll 2 u).bind fun (r6, u8) =>
    if r6 = 0 then
      some ((-1 : Int32), u8)
    else
    some ((2 : Int32), u8)
  else if r1 = (111 : Int32) then
    (f_X6_takeAll 0 u).bind fun (r9, u11) =>
    if r9 = 0 then
      some ((-1 : Int32), u11)
    else
    some ((0 : Int32), u11)
  else 
  (f_X6_takeAll 3 u).bind fun (r12, u14) =>
  if r12 = 0 then
    some ((-1 : Int32), u14)
  else
  (f_X6_sign u14).bind fun r15 =>
  if r15 = (120 : Int32) then
    (f_X6_takeAll 4 u14).bind fun (r20, u22) =>
    if r20 = 0 then
      some ((-1 : Int32), u22)
    else
    some ((4 : Int32), u22)
  else
  (f_X6_takeAll 5 u14).bind fun (r17, u19) =>
  if r17 = 0 then
    some ((-1 : Int32), u19)
  else
  some ((3 : Int32), u19)
set_option maxHeartbeats 4000000 in
set_option maxRecDepth 20000 in
theorem C_X6_takeWord {l : Launch}   {u : PM} {x : Int32 × PM} (hf : f_X6_takeWord u = some x) : Ev l mX6_takeWord 7 0 0 false [vR (9, 0, 0)] kC (en u) (some (vI x.1), kC, en x.2) := by
  refine Ev_of (by decide +kernel) (le_b rfl) ?_
  unfold f_X6_takeWord at hf
  show X l mX6_takeWord 7 0 0 false _ kC 0 0 0 [some (vR (9, 0, 0))] [] (en u)
  refine r_aload_n (x := (9, 0, 0)) dX6_takeWord_0 rfl ?_
  obtain ⟨r1, hr2, hf⟩ := am_bind hf
  refine r_callV (as := []) (st := []) (n := 0) mw_X6_56 mv_X6_sign (C_X6_sign (l := l) hr2) (le_b rfl) dX6_takeWord_1 (kC_mem (s := 9) (by decide) (by decide) (by decide)) rfl rfl rfl (le_b rfl) (le_b rfl) (le_b rfl) ?_
  show X l _ _ 0 0 false _ kC 0 0 4 [some (vR (9, 0, 0))] [vI r1] (en u)
  by_cases hs0 : r1 = (98 : Int32)
  · have hf := (am_if hf).1 hs0
    refine r_lookup (x := r1) (tgt := 55) (off := 51) dX6_takeWord_4 (by decide) (by rw [hs0]; rfl) (by decide) ?_
    refine r_aload_n (x := (9, 0, 0)) dX6_takeWord_55 rfl ?_
    refine r_ldcS (i := 1) (by decide) rfl rfl dX6_takeWord_56 ?_
    obtain ⟨⟨r3, u5⟩, hr4, hf⟩ := am_bind hf
    refine r_callV (as := [vR (95, 1, 0)]) (st := []) (n := 1) mw_X6_69 mv_X6_takeAll (C_X6_takeAll (l := l) (by decide) hr4) (le_b rfl) dX6_takeWord_58 (kC_mem (s := 9) (by decide) (by decide) (by decide)) rfl rfl rfl (le_b rfl) (le_b rfl) (le_b rfl) ?_
    show X l _ _ 0 0 false _ kC 0 0 61 [some (vR (9, 0, 0))] [vI r3] (en u5)
    refine r_if_eq (tgt := 68) dX6_takeWord_61 (by decide) (fun hc => ?_) (fun hc => ?_)
    · have hf := (am_if hf).1 hc
      refine r_iconst (v := -1) dX6_takeWord_68 rfl ?_
      have hx := am_inj hf
      subst hx
      exact r_iret dX6_takeWord_69 rfl rfl (le_b rfl) (le_b rfl)
    · have hf := (am_if hf).2 hc
      refine r_iconst (v := 1) dX6_takeWord_64 rfl ?_
      refine r_goto (tgt := 69) dX6_takeWord_65 (by decide) ?_
      have hx := am_inj hf
      subst hx
      exact r_iret dX6_takeWord_69 rfl rfl (le_b rfl) (le_b rfl)
  have hf := (am_if hf).2 hs0
  by_cases hs1 : r1 = (104 : Int32)
  · have hf := (am_if hf).1 hs1
    refine r_lookup (x := r1) (tgt := 70) (off := 66) dX6_takeWord_4 (by decide) (by rw [hs1]; rfl) (by decide) ?_
    refine r_aload_n (x := (9, 0, 0)) dX6_takeWord_70 rfl ?_
    refine r_ldcS (i := 2) (by decide) rfl rfl dX6_takeWord_71 ?_
    obtain ⟨⟨r6, u8⟩, hr7, hf⟩ := am_bind hf
    refine r_callV (as := [vR (95, 2, 0)]) (st := []) (n := 1) mw_X6_69 mv_X6_takeAll (C_X6_takeAll (l := l) (by decide) hr7) (le_b rfl) dX6_takeWord_73 (kC_mem (s := 9) (by decide) (by decide) (by decide)) rfl rfl rfl (le_b rfl) (le_b rfl) (le_b rfl) ?_
    show X l _ _ 0 0 false _ kC 0 0 76 [some (vR (9, 0, 0))] [vI r6] (en u8)
    refine r_if_eq (tgt := 83) dX6_takeWord_76 (by decide) (fun hc => ?_) (fun hc => ?_)
    · have hf := (am_if hf).1 hc
      refine r_iconst (v := -1) dX6_takeWord_83 rfl ?_
      have hx := am_inj hf
      subst hx
      exact r_iret dX6_takeWord_84 rfl rfl (le_b rfl) (le_b rfl)
    · have hf := (am_if hf).2 hc
      refine r_iconst (v := 2) dX6_takeWord_79 rfl ?_
      refine r_goto (tgt := 84) dX6_takeWord_80 (by decide) ?_
      have hx := am_inj hf
      subst hx
      exact r_iret dX6_takeWord_84 rfl rfl (le_b rfl) (le_b rfl)
  have hf := (am_if hf).2 hs1
  by_cases hs2 : r1 = (111 : Int32)
  · have hf := (am_if hf).1 hs2
    refine r_lookup (x := r1) (tgt := 40) (off := 36) dX6_takeWord_4 (by decide) (by rw [hs2]; rfl) (by decide) ?_
    refine r_aload_n (x := (9, 0, 0)) dX6_takeWord_40 rfl ?_
    refine r_ldcS (i := 0) (by decide) rfl rfl dX6_takeWord_41 ?_
    obtain ⟨⟨r9, u11⟩, hr10, hf⟩ := am_bind hf
    refine r_callV (as := [vR (95, 0, 0)]) (st := []) (n := 1) mw_X6_69 mv_X6_takeAll (C_X6_takeAll (l := l) (by decide) hr10) (le_b rfl) dX6_takeWord_43 (kC_mem (s := 9) (by decide) (by decide) (by decide)) rfl rfl rfl (le_b rfl) (le_b rfl) (le_b rfl) ?_
    show X l _ _ 0 0 false _ kC 0 0 46 [some (vR (9, 0, 0))] [vI r9] (en u11)
    refine r_if_eq (tgt := 53) dX6_takeWord_46 (by decide) (fun hc => ?_) (fun hc => ?_)
    · have hf := (am_if hf).1 hc
      refine r_iconst (v := -1) dX6_takeWord_53 rfl ?_
      have hx := am_inj hf
      subst hx
      exact r_iret dX6_takeWord_54 rfl rfl (le_b rfl) (le_b rfl)
    · have hf := (am_if hf).2 hc
      refine r_iconst (v := 0) dX6_takeWord_49 rfl ?_
      refine r_goto (tgt := 54) dX6_takeWord_50 (by decide) ?_
      have hx := am_inj hf
      subst hx
      exact r_iret dX6_takeWord_54 rfl rfl (le_b rfl) (le_b rfl)
  have hf := (am_if hf).2 hs2
  refine r_lookup (x := r1) (tgt := 85) (off := 81) dX6_takeWord_4 (by decide) (Eq.trans (lv_osw hs0 rfl) (Eq.trans (lv_osw hs1 rfl) (Eq.trans (lv_osw hs2 rfl) rfl))) (by decide) ?_
  refine r_aload_n (x := (9, 0, 0)) dX6_takeWord_85 rfl ?_
  refine r_ldcS (i := 3) (by decide) rfl rfl dX6_takeWord_86 ?_
  obtain ⟨⟨r12, u14⟩, hr13, hf⟩ := am_bind hf
  refine r_callV (as := [vR (95, 3, 0)]) (st := []) (n := 1) mw_X6_69 mv_X6_takeAll (C_X6_takeAll (l := l) (by decide) hr13) (le_b rfl) dX6_takeWord_88 (kC_mem (s := 9) (by decide) (by decide) (by decide)) rfl rfl rfl (le_b rfl) (le_b rfl) (le_b rfl) ?_
  show X l _ _ 0 0 false _ kC 0 0 91 [some (vR (9, 0, 0))] [vI r12] (en u14)
  refine r_if_ne (tgt := 96) dX6_takeWord_91 (by decide) (fun hc => ?_) (fun hc => ?_)
  · have hf := (am_if hf).2 hc
    refine r_aload_n (x := (9, 0, 0)) dX6_takeWord_96 rfl ?_
    obtain ⟨r15, hr16, hf⟩ := am_bind hf
    refine r_callV (as := []) (st := []) (n := 0) mw_X6_56 mv_X6_sign (C_X6_sign (l := l) hr16) (le_b rfl) dX6_takeWord_97 (kC_mem (s := 9) (by decide) (by decide) (by decide)) rfl rfl rfl (le_b rfl) (le_b rfl) (le_b rfl) ?_
    show X l _ _ 0 0 false _ kC 0 0 100 [some (vR (9, 0, 0))] [vI r15] (en u14)
    refine r_bipush (v := 120) dX6_takeWord_100 rfl ?_
    refine r_icmp_ne (tgt := 120) dX6_takeWord_102 (by decide) (fun hc => ?_) (fun hc => ?_)
    · have hf := (am_if hf).2 hc
      refine r_aload_n (x := (9, 0, 0)) dX6_takeWord_120 rfl ?_
      refine r_ldcS (i := 5) (by decide) rfl rfl dX6_takeWord_121 ?_
      obtain ⟨⟨r17, u19⟩, hr18, hf⟩ := am_bind hf
      refine r_callV (as := [vR (95, 5, 0)]) (st := []) (n := 1) mw_X6_69 mv_X6_takeAll (C_X6_takeAll (l := l) (by decide) hr18) (le_b rfl) dX6_takeWord_123 (kC_mem (s := 9) (by decide) (by decide) (by decide)) rfl rfl rfl (le_b rfl) (le_b rfl) (le_b rfl) ?_
      show X l _ _ 0 0 false _ kC 0 0 126 [some (vR (9, 0, 0))] [vI r17] (en u19)
      refine r_if_eq (tgt := 133) dX6_takeWord_126 (by decide) (fun hc => ?_) (fun hc => ?_)
      · have hf := (am_if hf).1 hc
        refine r_iconst (v := -1) dX6_takeWord_133 rfl ?_
        have hx := am_inj hf
        subst hx
        exact r_iret dX6_takeWord_134 rfl rfl (le_b rfl) (le_b rfl)
      · have hf := (am_if hf).2 hc
        refine r_iconst (v := 3) dX6_takeWord_129 rfl ?_
        refine r_goto (tgt := 134) dX6_takeWord_130 (by decide) ?_
        have hx := am_inj hf
        subst hx
        exact r_iret dX6_takeWord_134 rfl rfl (le_b rfl) (le_b rfl)
    · have hf := (am_if hf).1 hc
      refine r_aload_n (x := (9, 0, 0)) dX6_takeWord_105 rfl ?_
      refine r_ldcS (i := 4) (by decide) rfl rfl dX6_takeWord_106 ?_
      obtain ⟨⟨r20, u22⟩, hr21, hf⟩ := am_bind hf
      refine r_callV (as := [vR (95, 4, 0)]) (st := []) (n := 1) mw_X6_69 mv_X6_takeAll (C_X6_takeAll (l := l) (by decide) hr21) (le_b rfl) dX6_takeWord_108 (kC_mem (s := 9) (by decide) (by decide) (by decide)) rfl rfl rfl (le_b rfl) (le_b rfl) (le_b rfl) ?_
      show X l _ _ 0 0 false _ kC 0 0 111 [some (vR (9, 0, 0))] [vI r20] (en u22)
      refine r_if_eq (tgt := 118) dX6_takeWord_111 (by decide) (fun hc => ?_) (fun hc => ?_)
      · have hf := (am_if hf).1 hc
        refine r_iconst (v := -1) dX6_takeWord_118 rfl ?_
        have hx := am_inj hf
        subst hx
        exact r_iret dX6_takeWord_119 rfl rfl (le_b rfl) (le_b rfl)
      · have hf := (am_if hf).2 hc
        refine r_iconst (v := 4) dX6_takeWord_114 rfl ?_
        refine r_goto (tgt := 119) dX6_takeWord_115 (by decide) ?_
        have hx := am_inj hf
        subst hx
        exact r_iret dX6_takeWord_119 rfl rfl (le_b rfl) (le_b rfl)
  · have hf := (am_if hf).1 hc
    refine r_iconst (v := -1) dX6_takeWord_94 rfl ?_
    have hx := am_inj hf
    subst hx
    exact r_iret dX6_takeWord_95 rfl rfl (le_b rfl) (le_b rfl)
/-! FireFromFire$Reader.takeWeather -/
theorem dX6_takeWeather_0 : decode cX6_takeWeather 0 = .ok (.aload_n 0, 1) := by decide +kernel
theorem dX6_takeWeather_1 : decode cX6_takeWeather 1 = .ok (.invokevirtual 56, 3) := by decide +kernel
theorem dX6_takeWeather_4 : decode cX6_takeWeather 4 = .ok (.bipush 48, 2) := by decide +kernel
theorem dX6_takeWeather_6 : decode cX6_takeWeather 6 = .ok (.isub, 1) := by decide +kernel
theorem dX6_takeWeather_7 : decode cX6_takeWeather 7 = .ok (.istore_n 1, 1) := by decide +kernel
theorem dX6_takeWeather_8 : decode cX6_takeWeather 8 = .ok (.iload_n 1, 1) := by decide +kernel
theorem dX6_takeWeather_9 : decode cX6_takeWeather 9 = .ok (.ifCond .lt 8, 3) := by decide +kernel
theorem dX6_takeWeather_12 : decode cX6_takeWeather 12 = .ok (.iload_n 1, 1) := by decide +kernel
theorem dX6_takeWeather_13 : decode cX6_takeWeather 13 = .ok (.iconst 3, 1) := by decide +kernel
theorem dX6_takeWeather_14 : decode cX6_takeWeather 14 = .ok (.if_icmp .lt 5, 3) := by decide +kernel
theorem dX6_takeWeather_17 : decode cX6_takeWeather 17 = .ok (.iconst (-1), 1) := by decide +kernel
theorem dX6_takeWeather_18 : decode cX6_takeWeather 18 = .ok (.ireturn, 1) := by decide +kernel
theorem dX6_takeWeather_19 : decode cX6_takeWeather 19 = .ok (.aload_n 0, 1) := by decide +kernel
theorem dX6_takeWeather_20 : decode cX6_takeWeather 20 = .ok (.dup, 1) := by decide +kernel
theorem dX6_takeWeather_21 : decode cX6_takeWeather 21 = .ok (.getfield 19, 3) := by decide +kernel
theorem dX6_takeWeather_24 : decode cX6_takeWeather 24 = .ok (.iconst 1, 1) := by decide +kernel
theorem dX6_takeWeather_25 : decode cX6_takeWeather 25 = .ok (.iadd, 1) := by decide +kernel
theorem dX6_takeWeather_26 : decode cX6_takeWeather 26 = .ok (.putfield 19, 3) := by decide +kernel
theorem dX6_takeWeather_29 : decode cX6_takeWeather 29 = .ok (.iload_n 1, 1) := by decide +kernel
theorem dX6_takeWeather_30 : decode cX6_takeWeather 30 = .ok (.ireturn, 1) := by decide +kernel
def f_X6_takeWeather   (u : PM) : Option (Int32 × PM) :=
  (f_X6_sign u).bind fun r1 =>
  if (r1 - (48 : Int32)) < 0 then
    some ((-1 : Int32), u)
  else
  if (r1 - (48 : Int32)) < (3 : Int32) then
    some (r1 - (48 : Int32), (pi u (9, 0, 0) 2 ((u.1 (9, 0, 0) 2) + (1 : Int32))))
  else
  some ((-1 : Int32), u)
set_option maxHeartbeats 4000000 in
set_option maxRecDepth 20000 in
theorem C_X6_takeWeather {l : Launch}   {u : PM} {x : Int32 × PM} (hf : f_X6_takeWeather u = some x) : Ev l mX6_takeWeather 2 0 0 false [vR (9, 0, 0)] kC (en u) (some (vI x.1), kC, en x.2) := by
  refine Ev_of (by decide +kernel) (le_b rfl) ?_
  unfold f_X6_takeWeather at hf
  show X l mX6_takeWeather 2 0 0 false _ kC 0 0 0 [some (vR (9, 0, 0)), none] [] (en u)
  refine r_aload_n (x := (9, 0, 0)) dX6_takeWeather_0 rfl ?_
  obtain ⟨r1, hr2, hf⟩ := am_bind hf
  refine r_callV (as := []) (st := []) (n := 0) mw_X6_56 mv_X6_sign (C_X6_sign (l := l) hr2) (le_b rfl) dX6_takeWeather_1 (kC_mem (s := 9) (by decide) (by decide) (by decide)) rfl rfl rfl (le_b rfl) (le_b rfl) (le_b rfl) ?_
  show X l _ _ 0 0 false _ kC 0 0 4 [some (vR (9, 0, 0)), none] [vI r1] (en u)
  refine r_bipush (v := 48) dX6_takeWeather_4 rfl ?_
  refine r_isub dX6_takeWeather_6 ?_
  refine r_istore_n (L' := [some (vR (9, 0, 0)), some (vI (r1 - (48 : Int32)))]) dX6_takeWeather_7 (by decide) rfl ?_
  refine r_iload_n (x := r1 - (48 : Int32)) dX6_takeWeather_8 rfl ?_
  refine r_if_lt (tgt := 17) dX6_takeWeather_9 (by decide) (fun hc => ?_) (fun hc => ?_)
  · have hf := (am_if hf).1 hc
    refine r_iconst (v := -1) dX6_takeWeather_17 rfl ?_
    have hx := am_inj hf
    subst hx
    exact r_iret dX6_takeWeather_18 rfl rfl (le_b rfl) (le_b rfl)
  · have hf := (am_if hf).2 hc
    refine r_iload_n (x := r1 - (48 : Int32)) dX6_takeWeather_12 rfl ?_
    refine r_iconst (v := 3) dX6_takeWeather_13 rfl ?_
    refine r_icmp_lt (tgt := 19) dX6_takeWeather_14 (by decide) (fun hc => ?_) (fun hc => ?_)
    · have hf := (am_if hf).1 hc
      refine r_aload_n (x := (9, 0, 0)) dX6_takeWeather_19 rfl ?_
      refine r_dup dX6_takeWeather_20 rfl ?_
      refine e_geti fw_X6_19 dX6_takeWeather_21 (kC_mem (s := 9) (by decide) (by decide) (by decide)) rfl (lt_b rfl) ?_
      refine r_iconst (v := 1) dX6_takeWeather_24 rfl ?_
      refine r_iadd dX6_takeWeather_25 ?_
      refine e_puti fp_X6_19 dX6_takeWeather_26 (kC_mem (s := 9) (by decide) (by decide) (by decide)) rfl (lt_b rfl) rfl rfl rfl ?_
      refine r_iload_n (x := r1 - (48 : Int32)) dX6_takeWeather_29 rfl ?_
      have hx := am_inj hf
      subst hx
      exact r_iret dX6_takeWeather_30 rfl rfl (le_b rfl) (le_b rfl)
    · have hf := (am_if hf).2 hc
      refine r_iconst (v := -1) dX6_takeWeather_17 rfl ?_
      have hx := am_inj hf
      subst hx
      exact r_iret dX6_takeWeather_18 rfl rfl (le_b rfl) (le_b rfl)
/-! FireFromFire$Reader.takeNumber -/
theorem dX6_takeNumber_0 : decode cX6_takeNumber 0 = .ok (.iconst (-1), 1) := by decide +kernel
theorem dX6_takeNumber_1 : decode cX6_takeNumber 1 = .ok (.istore_n 1, 1) := by decide +kernel
theorem dX6_takeNumber_2 : decode cX6_takeNumber 2 = .ok (.iconst 0, 1) := by decide +kernel
theorem dX6_takeNumber_3 : decode cX6_takeNumber 3 = .ok (.istore_n 2, 1) := by decide +kernel
theorem dX6_takeNumber_4 : decode cX6_takeNumber 4 = .ok (.iload_n 2, 1) := by decide +kernel
theorem dX6_takeNumber_5 : decode cX6_takeNumber 5 = .ok (.iconst 2, 1) := by decide +kernel
theorem dX6_takeNumber_6 : decode cX6_takeNumber 6 = .ok (.if_icmp .ge 50, 3) := by decide +kernel
theorem dX6_takeNumber_9 : decode cX6_takeNumber 9 = .ok (.aload_n 0, 1) := by decide +kernel
theorem dX6_takeNumber_10 : decode cX6_takeNumber 10 = .ok (.invokevirtual 56, 3) := by decide +kernel
theorem dX6_takeNumber_13 : decode cX6_takeNumber 13 = .ok (.bipush 48, 2) := by decide +kernel
theorem dX6_takeNumber_15 : decode cX6_takeNumber 15 = .ok (.isub, 1) := by decide +kernel
theorem dX6_takeNumber_16 : decode cX6_takeNumber 16 = .ok (.istore_n 3, 1) := by decide +kernel
theorem dX6_takeNumber_17 : decode cX6_takeNumber 17 = .ok (.iload_n 3, 1) := by decide +kernel
theorem dX6_takeNumber_18 : decode cX6_takeNumber 18 = .ok (.ifCond .lt 9, 3) := by decide +kernel
theorem dX6_takeNumber_21 : decode cX6_takeNumber 21 = .ok (.iload_n 3, 1) := by decide +kernel
theorem dX6_takeNumber_22 : decode cX6_takeNumber 22 = .ok (.bipush 9, 2) := by decide +kernel
theorem dX6_takeNumber_24 : decode cX6_takeNumber 24 = .ok (.if_icmp .le 5, 3) := by decide +kernel
theorem dX6_takeNumber_27 : decode cX6_takeNumber 27 = .ok (.iload_n 1, 1) := by decide +kernel
theorem dX6_takeNumber_28 : decode cX6_takeNumber 28 = .ok (.ireturn, 1) := by decide +kernel
theorem dX6_takeNumber_29 : decode cX6_takeNumber 29 = .ok (.aload_n 0, 1) := by decide +kernel
theorem dX6_takeNumber_30 : decode cX6_takeNumber 30 = .ok (.dup, 1) := by decide +kernel
theorem dX6_takeNumber_31 : decode cX6_takeNumber 31 = .ok (.getfield 19, 3) := by decide +kernel
theorem dX6_takeNumber_34 : decode cX6_takeNumber 34 = .ok (.iconst 1, 1) := by decide +kernel
theorem dX6_takeNumber_35 : decode cX6_takeNumber 35 = .ok (.iadd, 1) := by decide +kernel
theorem dX6_takeNumber_36 : decode cX6_takeNumber 36 = .ok (.putfield 19, 3) := by decide +kernel
theorem dX6_takeNumber_39 : decode cX6_takeNumber 39 = .ok (.iload_n 1, 1) := by decide +kernel
theorem dX6_takeNumber_40 : decode cX6_takeNumber 40 = .ok (.iconst 0, 1) := by decide +kernel
theorem dX6_takeNumber_41 : decode cX6_takeNumber 41 = .ok (.invokestatic 83, 3) := by decide +kernel
theorem dX6_takeNumber_44 : decode cX6_takeNumber 44 = .ok (.bipush 10, 2) := by decide +kernel
theorem dX6_takeNumber_46 : decode cX6_takeNumber 46 = .ok (.imul, 1) := by decide +kernel
theorem dX6_takeNumber_47 : decode cX6_takeNumber 47 = .ok (.iload_n 3, 1) := by decide +kernel
theorem dX6_takeNumber_48 : decode cX6_takeNumber 48 = .ok (.iadd, 1) := by decide +kernel
theorem dX6_takeNumber_49 : decode cX6_takeNumber 49 = .ok (.istore_n 1, 1) := by decide +kernel
theorem dX6_takeNumber_50 : decode cX6_takeNumber 50 = .ok (.iinc 2 1, 3) := by decide +kernel
theorem dX6_takeNumber_53 : decode cX6_takeNumber 53 = .ok (.goto (-49), 3) := by decide +kernel
theorem dX6_takeNumber_56 : decode cX6_takeNumber 56 = .ok (.iload_n 1, 1) := by decide +kernel
theorem dX6_takeNumber_57 : decode cX6_takeNumber 57 = .ok (.ireturn, 1) := by decide +kernel
def f_X6_takeNumber_L4   : Int32 × Int32 × PM → Option ((Int32 × Int32 × PM) ⊕ ((Int32 × PM) ⊕ (Int32 × PM))) := fun (x1 , x2 , u) =>
  if (2 : Int32) ≤ x2 then
    some (.inr (.inr (x1, u)))
  else
  (f_X6_sign u).bind fun r1 =>
  if (r1 - (48 : Int32)) < 0 then
    some (.inr (.inl (x1, u)))
  else
  if (r1 - (48 : Int32)) ≤ (9 : Int32) then
    some (.inl (((if x1 < (0 : Int32) then (0 : Int32) else x1) * (10 : Int32)) + (r1 - (48 : Int32)), x2 + (1 : Int32), (pi u (9, 0, 0) 2 ((u.1 (9, 0, 0) 2) + (1 : Int32)))))
  else
  some (.inr (.inl (x1, u)))
set_option maxHeartbeats 4000000 in
set_option maxRecDepth 20000 in
theorem K_X6_takeNumber_L4 {l : Launch} {T : Option AV × List Key × AM}   : ∀ (n : Nat) (s : Int32 × Int32 × PM) (e0 : (Int32 × PM) ⊕ (Int32 × PM)), am_loop (f_X6_takeNumber_L4) n s = some e0 → Sum.elim (fun r : Int32 × PM => T = (some (vI r.1), kC, en r.2)) (fun e : Int32 × PM => X l mX6_takeNumber 2 0 0 false T kC 0 0 56 [none, some (vI e.1), none, none] [] (en e.2)) e0 → X l mX6_takeNumber 2 0 0 false T kC 0 0 4 [some (vR (9, 0, 0)), some (vI s.1), some (vI s.2.1), none] [] (en s.2.2) := by
  refine am_loop_of ?_
  intro s x hf k1 k2
  obtain ⟨x1 , x2 , u⟩ := s
  unfold f_X6_takeNumber_L4 at hf
  show X l mX6_takeNumber 2 0 0 false T kC 0 0 4 [some (vR (9, 0, 0)), some (vI x1), some (vI x2), none] [] (en u)
  refine r_iload_n (x := x2) dX6_takeNumber_4 rfl ?_
  refine r_iconst (v := 2) dX6_takeNumber_5 rfl ?_
  refine r_icmp_ge (tgt := 56) dX6_takeNumber_6 (by decide) (fun hc => ?_) (fun hc => ?_)
  · have hf := (am_if hf).1 hc
    refine r_weak (L' := [none, some (vI x1), none, none]) (And.intro rfl trivial) ?_
    exact k2 (.inr (x1, u)) (am_inj hf).symm
  · have hf := (am_if hf).2 hc
    refine r_aload_n (x := (9, 0, 0)) dX6_takeNumber_9 rfl ?_
    obtain ⟨r1, hr2, hf⟩ := am_bind hf
    refine r_callV (as := []) (st := []) (n := 0) mw_X6_56 mv_X6_sign (C_X6_sign (l := l) hr2) (le_b rfl) dX6_takeNumber_10 (kC_mem (s := 9) (by decide) (by decide) (by decide)) rfl rfl rfl (le_b rfl) (le_b rfl) (le_b rfl) ?_
    show X l _ _ 0 0 false _ kC 0 0 13 [some (vR (9, 0, 0)), some (vI x1), some (vI x2), none] [vI r1] (en u)
    refine r_bipush (v := 48) dX6_takeNumber_13 rfl ?_
    refine r_isub dX6_takeNumber_15 ?_
    refine r_istore_n (L' := [some (vR (9, 0, 0)), some (vI x1), some (vI x2), some (vI (r1 - (48 : Int32)))]) dX6_takeNumber_16 (by decide) rfl ?_
    refine r_iload_n (x := r1 - (48 : Int32)) dX6_takeNumber_17 rfl ?_
    refine r_if_lt (tgt := 27) dX6_takeNumber_18 (by decide) (fun hc => ?_) (fun hc => ?_)
    · have hf := (am_if hf).1 hc
      refine r_iload_n (x := x1) dX6_takeNumber_27 rfl ?_
      have hT := k2 _ (am_inj hf).symm
      replace hT : T = (some (vI x1), kC, en u) := hT
      subst hT
      exact r_iret dX6_takeNumber_28 rfl rfl (le_b rfl) (le_b rfl)
    · have hf := (am_if hf).2 hc
      refine r_iload_n (x := r1 - (48 : Int32)) dX6_takeNumber_21 rfl ?_
      refine r_bipush (v := 9) dX6_takeNumber_22 rfl ?_
      refine r_icmp_le (tgt := 29) dX6_takeNumber_24 (by decide) (fun hc => ?_) (fun hc => ?_)
      · have hf := (am_if hf).1 hc
        refine r_aload_n (x := (9, 0, 0)) dX6_takeNumber_29 rfl ?_
        refine r_dup dX6_takeNumber_30 rfl ?_
        refine e_geti fw_X6_19 dX6_takeNumber_31 (kC_mem (s := 9) (by decide) (by decide) (by decide)) rfl (lt_b rfl) ?_
        refine r_iconst (v := 1) dX6_takeNumber_34 rfl ?_
        refine r_iadd dX6_takeNumber_35 ?_
        refine e_puti fp_X6_19 dX6_takeNumber_36 (kC_mem (s := 9) (by decide) (by decide) (by decide)) rfl (lt_b rfl) rfl rfl rfl ?_
        refine r_iload_n (x := x1) dX6_takeNumber_39 rfl ?_
        refine r_iconst (v := 0) dX6_takeNumber_40 rfl ?_
        refine r_mmax jm_X6_83 js_max.1 js_max.2.1 js_max.2.2 dX6_takeNumber_41 (le_b rfl) (le_b rfl) (le_b rfl) (le_b rfl) ?_
        refine r_bipush (v := 10) dX6_takeNumber_44 rfl ?_
        refine r_imul dX6_takeNumber_46 ?_
        refine r_iload_n (x := r1 - (48 : Int32)) dX6_takeNumber_47 rfl ?_
        refine r_iadd dX6_takeNumber_48 ?_
        refine r_istore_n (L' := [some (vR (9, 0, 0)), some (vI (((if x1 < (0 : Int32) then (0 : Int32) else x1) * (10 : Int32)) + (r1 - (48 : Int32)))), some (vI x2), some (vI (r1 - (48 : Int32)))]) dX6_takeNumber_49 (by decide) rfl ?_
        refine r_iinc (x := x2) (v := x2 + (1 : Int32)) (L' := [some (vR (9, 0, 0)), some (vI (((if x1 < (0 : Int32) then (0 : Int32) else x1) * (10 : Int32)) + (r1 - (48 : Int32)))), some (vI (x2 + (1 : Int32))), some (vI (r1 - (48 : Int32)))]) dX6_takeNumber_50 rfl rfl (lt_b rfl) rfl ?_
        refine r_goto (tgt := 4) dX6_takeNumber_53 (by decide) ?_
        refine r_weak (L' := [some (vR (9, 0, 0)), some (vI (((if x1 < (0 : Int32) then (0 : Int32) else x1) * (10 : Int32)) + (r1 - (48 : Int32)))), some (vI (x2 + (1 : Int32))), none]) (And.intro rfl (And.intro rfl (And.intro rfl trivial))) ?_
        exact k1 (((if x1 < (0 : Int32) then (0 : Int32) else x1) * (10 : Int32)) + (r1 - (48 : Int32)), x2 + (1 : Int32), (pi u (9, 0, 0) 2 ((u.1 (9, 0, 0) 2) + (1 : Int32)))) (am_inj hf).symm
      · have hf := (am_if hf).2 hc
        refine r_iload_n (x := x1) dX6_takeNumber_27 rfl ?_
        have hT := k2 _ (am_inj hf).symm
        replace hT : T = (some (vI x1), kC, en u) := hT
        subst hT
        exact r_iret dX6_takeNumber_28 rfl rfl (le_b rfl) (le_b rfl)
def f_X6_takeNumber   (u : PM) : Option (Int32 × PM) :=
  (am_loop (f_X6_takeNumber_L4) 2000 ((-1 : Int32), (0 : Int32), u)).bind fun e3 =>
  match e3 with
  | .inl q7 => some q7
  | .inr (y5, u6) =>
    some (y5, u6)
set_option maxHeartbeats 4000000 in
set_option maxRecDepth 20000 in
theorem C_X6_takeNumber {l : Launch}   {u : PM} {x : Int32 × PM} (hf : f_X6_takeNumber u = some x) : Ev l mX6_takeNumber 2 0 0 false [vR (9, 0, 0)] kC (en u) (some (vI x.1), kC, en x.2) := by
  refine Ev_of (by decide +kernel) (le_b rfl) ?_
  unfold f_X6_takeNumber at hf
  show X l mX6_takeNumber 2 0 0 false _ kC 0 0 0 [some (vR (9, 0, 0)), none, none, none] [] (en u)
  refine r_iconst (v := -1) dX6_takeNumber_0 rfl ?_
  refine r_istore_n (L' := [some (vR (9, 0, 0)), some (vI (-1 : Int32)), none, none]) dX6_takeNumber_1 (by decide) rfl ?_
  refine r_iconst (v := 0) dX6_takeNumber_2 rfl ?_
  refine r_istore_n (L' := [some (vR (9, 0, 0)), some (vI (-1 : Int32)), some (vI (0 : Int32)), none]) dX6_takeNumber_3 (by decide) rfl ?_
  refine r_weak (L' := [some (vR (9, 0, 0)), some (vI (-1 : Int32)), some (vI (0 : Int32)), none]) (And.intro rfl (And.intro rfl (And.intro rfl trivial))) ?_
  obtain ⟨e3, he4, hf⟩ := am_bind hf
  refine K_X6_takeNumber_L4  2000 ((-1 : Int32), (0 : Int32), u) _ he4 ?_
  rcases e3 with q7 | e3
  · have hx := am_inj hf
    subst hx
    rfl
  · obtain ⟨y5, u6⟩ := e3
    show X l _ _ 0 0 false _ kC 0 0 56 [none, some (vI y5), none, none] [] (en u6)
    refine r_iload_n (x := y5) dX6_takeNumber_56 rfl ?_
    have hx := am_inj hf
    subst hx
    exact r_iret dX6_takeNumber_57 rfl rfl (le_b rfl) (le_b rfl)
/-! FireFromFire$Reader.takeNext -/
theorem dX6_takeNext_0 : decode cX6_takeNext 0 = .ok (.aload_n 0, 1) := by decide +kernel
theorem dX6_takeNext_1 : decode cX6_takeNext 1 = .ok (.invokevirtual 89, 3) := by decide +kernel
theorem dX6_takeNext_4 : decode cX6_takeNext 4 = .ok (.istore_n 1, 1) := by decide +kernel
theorem dX6_takeNext_5 : decode cX6_takeNext 5 = .ok (.iload_n 1, 1) := by decide +kernel
theorem dX6_takeNext_6 : decode cX6_takeNext 6 = .ok (.ifCond .lt 12, 3) := by decide +kernel
theorem dX6_takeNext_9 : decode cX6_takeNext 9 = .ok (.aload_n 0, 1) := by decide +kernel
theorem dX6_takeNext_10 : decode cX6_takeNext 10 = .ok (.bipush 32, 2) := by decide +kernel
theorem dX6_takeNext_12 : decode cX6_takeNext 12 = .ok (.invokevirtual 38, 3) := by decide +kernel
theorem dX6_takeNext_15 : decode cX6_takeNext 15 = .ok (.ifCond .ne 5, 3) := by decide +kernel
theorem dX6_takeNext_18 : decode cX6_takeNext 18 = .ok (.iconst 0, 1) := by decide +kernel
theorem dX6_takeNext_19 : decode cX6_takeNext 19 = .ok (.ireturn, 1) := by decide +kernel
theorem dX6_takeNext_20 : decode cX6_takeNext 20 = .ok (.aload_n 0, 1) := by decide +kernel
theorem dX6_takeNext_21 : decode cX6_takeNext 21 = .ok (.invokevirtual 89, 3) := by decide +kernel
theorem dX6_takeNext_24 : decode cX6_takeNext 24 = .ok (.istore_n 2, 1) := by decide +kernel
theorem dX6_takeNext_25 : decode cX6_takeNext 25 = .ok (.iload_n 2, 1) := by decide +kernel
theorem dX6_takeNext_26 : decode cX6_takeNext 26 = .ok (.ifCond .lt 12, 3) := by decide +kernel
theorem dX6_takeNext_29 : decode cX6_takeNext 29 = .ok (.aload_n 0, 1) := by decide +kernel
theorem dX6_takeNext_30 : decode cX6_takeNext 30 = .ok (.bipush 32, 2) := by decide +kernel
theorem dX6_takeNext_32 : decode cX6_takeNext 32 = .ok (.invokevirtual 38, 3) := by decide +kernel
theorem dX6_takeNext_35 : decode cX6_takeNext 35 = .ok (.ifCond .ne 5, 3) := by decide +kernel
theorem dX6_takeNext_38 : decode cX6_takeNext 38 = .ok (.iconst 0, 1) := by decide +kernel
theorem dX6_takeNext_39 : decode cX6_takeNext 39 = .ok (.ireturn, 1) := by decide +kernel
theorem dX6_takeNext_40 : decode cX6_takeNext 40 = .ok (.aload_n 0, 1) := by decide +kernel
theorem dX6_takeNext_41 : decode cX6_takeNext 41 = .ok (.invokevirtual 46, 3) := by decide +kernel
theorem dX6_takeNext_44 : decode cX6_takeNext 44 = .ok (.istore_n 3, 1) := by decide +kernel
theorem dX6_takeNext_45 : decode cX6_takeNext 45 = .ok (.iload_n 3, 1) := by decide +kernel
theorem dX6_takeNext_46 : decode cX6_takeNext 46 = .ok (.ifCond .ge 5, 3) := by decide +kernel
theorem dX6_takeNext_49 : decode cX6_takeNext 49 = .ok (.iconst 0, 1) := by decide +kernel
theorem dX6_takeNext_50 : decode cX6_takeNext 50 = .ok (.ireturn, 1) := by decide +kernel
theorem dX6_takeNext_51 : decode cX6_takeNext 51 = .ok (.aload_n 0, 1) := by decide +kernel
theorem dX6_takeNext_52 : decode cX6_takeNext 52 = .ok (.getfield 22, 3) := by decide +kernel
theorem dX6_takeNext_55 : decode cX6_takeNext 55 = .ok (.iconst 4, 1) := by decide +kernel
theorem dX6_takeNext_56 : decode cX6_takeNext 56 = .ok (.iload_n 3, 1) := by decide +kernel
theorem dX6_takeNext_57 : decode cX6_takeNext 57 = .ok (.iload_n 1, 1) := by decide +kernel
theorem dX6_takeNext_58 : decode cX6_takeNext 58 = .ok (.iload_n 2, 1) := by decide +kernel
theorem dX6_takeNext_59 : decode cX6_takeNext 59 = .ok (.invokevirtual 52, 3) := by decide +kernel
theorem dX6_takeNext_62 : decode cX6_takeNext 62 = .ok (.iconst 1, 1) := by decide +kernel
theorem dX6_takeNext_63 : decode cX6_takeNext 63 = .ok (.ireturn, 1) := by decide +kernel
def f_X6_takeNext   (u : PM) : Option (Int32 × PM) :=
  (f_X6_takeWeather u).bind fun (r1, u3) =>
  if r1 < 0 then
    some ((0 : Int32), u3)
  else
  (f_X6_take (32 : Int32) u3).bind fun (r4, u6) =>
  if r4 = 0 then
    some ((0 : Int32), u6)
  else
  (f_X6_takeWeather u6).bind fun (r7, u9) =>
  if r7 < 0 then
    some ((0 : Int32), u9)
  else
  (f_X6_take (32 : Int32) u9).bind fun (r10, u12) =>
  if r10 = 0 then
    some ((0 : Int32), u12)
  else
  (f_X6_takeNumber u12).bind fun (r13, u15) =>
  if 0 ≤ r13 then
    match u15.2.2 0 with
    | none =>
      none
    | some p16 =>
      if p16 < 5 then
        (f_X3_addClause p16 (4 : Int32) r13 r1 r7 u15).bind fun r19 =>
        some ((1 : Int32), r19)
      else none
  else
  some ((0 : Int32), u15)
set_option maxHeartbeats 4000000 in
set_option maxRecDepth 20000 in
theorem C_X6_takeNext {l : Launch}   {u : PM} {x : Int32 × PM} (hf : f_X6_takeNext u = some x) : Ev l mX6_takeNext 3 0 0 false [vR (9, 0, 0)] kC (en u) (some (vI x.1), kC, en x.2) := by
  refine Ev_of (by decide +kernel) (le_b rfl) ?_
  unfold f_X6_takeNext at hf
  show X l mX6_takeNext 3 0 0 false _ kC 0 0 0 [some (vR (9, 0, 0)), none, none, none] [] (en u)
  refine r_aload_n (x := (9, 0, 0)) dX6_takeNext_0 rfl ?_
  obtain ⟨⟨r1, u3⟩, hr2, hf⟩ := am_bind hf
  refine r_callV (as := []) (st := []) (n := 0) mw_X6_89 mv_X6_takeWeather (C_X6_takeWeather (l := l) hr2) (le_b rfl) dX6_takeNext_1 (kC_mem (s := 9) (by decide) (by decide) (by decide)) rfl rfl rfl (le_b rfl) (le_b rfl) (le_b rfl) ?_
  show X l _ _ 0 0 false _ kC 0 0 4 [some (vR (9, 0, 0)), none, none, none] [vI r1] (en u3)
  refine r_istore_n (L' := [some (vR (9, 0, 0)), some (vI r1), none, none]) dX6_takeNext_4 (by decide) rfl ?_
  refine r_iload_n (x := r1) dX6_takeNext_5 rfl ?_
  refine r_if_lt (tgt := 18) dX6_takeNext_6 (by decide) (fun hc => ?_) (fun hc => ?_)
  · have hf := (am_if hf).1 hc
    refine r_iconst (v := 0) dX6_takeNext_18 rfl ?_
    have hx := am_inj hf
    subst hx
    exact r_iret dX6_takeNext_19 rfl (am_bool (x := 0) (by decide)).1 (le_b rfl) (le_b rfl)
  · have hf := (am_if hf).2 hc
    refine r_aload_n (x := (9, 0, 0)) dX6_takeNext_9 rfl ?_
    refine r_bipush (v := 32) dX6_takeNext_10 rfl ?_
    obtain ⟨⟨r4, u6⟩, hr5, hf⟩ := am_bind hf
    refine r_callV (as := [vI (32 : Int32)]) (st := []) (n := 1) mw_X6_38 mv_X6_take (C_X6_take (l := l) hr5) (le_b rfl) dX6_takeNext_12 (kC_mem (s := 9) (by decide) (by decide) (by decide)) rfl rfl rfl (le_b rfl) (le_b rfl) (le_b rfl) ?_
    show X l _ _ 0 0 false _ kC 0 0 15 [some (vR (9, 0, 0)), some (vI r1), none, none] [vI r4] (en u6)
    refine r_if_ne (tgt := 20) dX6_takeNext_15 (by decide) (fun hc => ?_) (fun hc => ?_)
    · have hf := (am_if hf).2 hc
      refine r_aload_n (x := (9, 0, 0)) dX6_takeNext_20 rfl ?_
      obtain ⟨⟨r7, u9⟩, hr8, hf⟩ := am_bind hf
      refine r_callV (as := []) (st := []) (n := 0) mw_X6_89 mv_X6_takeWeather (C_X6_takeWeather (l := l) hr8) (le_b rfl) dX6_takeNext_21 (kC_mem (s := 9) (by decide) (by decide) (by decide)) rfl rfl rfl (le_b rfl) (le_b rfl) (le_b rfl) ?_
      show X l _ _ 0 0 false _ kC 0 0 24 [some (vR (9, 0, 0)), some (vI r1), none, none] [vI r7] (en u9)
      refine r_istore_n (L' := [some (vR (9, 0, 0)), some (vI r1), some (vI r7), none]) dX6_takeNext_24 (by decide) rfl ?_
      refine r_iload_n (x := r7) dX6_takeNext_25 rfl ?_
      refine r_if_lt (tgt := 38) dX6_takeNext_26 (by decide) (fun hc => ?_) (fun hc => ?_)
      · have hf := (am_if hf).1 hc
        refine r_iconst (v := 0) dX6_takeNext_38 rfl ?_
        have hx := am_inj hf
        subst hx
        exact r_iret dX6_takeNext_39 rfl (am_bool (x := 0) (by decide)).1 (le_b rfl) (le_b rfl)
      · have hf := (am_if hf).2 hc
        refine r_aload_n (x := (9, 0, 0)) dX6_takeNext_29 rfl ?_
        refine r_bipush (v := 32) dX6_takeNext_30 rfl ?_
        obtain ⟨⟨r10, u12⟩, hr11, hf⟩ := am_bind hf
        refine r_callV (as := [vI (32 : Int32)]) (st := []) (n := 1) mw_X6_38 mv_X6_take (C_X6_take (l := l) hr11) (le_b rfl) dX6_takeNext_32 (kC_mem (s := 9) (by decide) (by decide) (by decide)) rfl rfl rfl (le_b rfl) (le_b rfl) (le_b rfl) ?_
        show X l _ _ 0 0 false _ kC 0 0 35 [some (vR (9, 0, 0)), some (vI r1), some (vI r7), none] [vI r10] (en u12)
        refine r_if_ne (tgt := 40) dX6_takeNext_35 (by decide) (fun hc => ?_) (fun hc => ?_)
        · have hf := (am_if hf).2 hc
          refine r_aload_n (x := (9, 0, 0)) dX6_takeNext_40 rfl ?_
          obtain ⟨⟨r13, u15⟩, hr14, hf⟩ := am_bind hf
          refine r_callV (as := []) (st := []) (n := 0) mw_X6_46 mv_X6_takeNumber (C_X6_takeNumber (l := l) hr14) (le_b rfl) dX6_takeNext_41 (kC_mem (s := 9) (by decide) (by decide) (by decide)) rfl rfl rfl (le_b rfl) (le_b rfl) (le_b rfl) ?_
          show X l _ _ 0 0 false _ kC 0 0 44 [some (vR (9, 0, 0)), some (vI r1), some (vI r7), none] [vI r13] (en u15)
          refine r_istore_n (L' := [some (vR (9, 0, 0)), some (vI r1), some (vI r7), some (vI r13)]) dX6_takeNext_44 (by decide) rfl ?_
          refine r_iload_n (x := r13) dX6_takeNext_45 rfl ?_
          refine r_if_ge (tgt := 51) dX6_takeNext_46 (by decide) (fun hc => ?_) (fun hc => ?_)
          · have hf := (am_if hf).1 hc
            refine r_aload_n (x := (9, 0, 0)) dX6_takeNext_51 rfl ?_
            cases he18 : u15.2.2 0 with
            | none =>
              rw [he18] at hf
              refine e_getr (z := none) fw_X6_22 dX6_takeNext_52 (kC_mem (s := 9) (by decide) (by decide) (by decide)) rfl (lt_b rfl) (by show Option.map _ (u15.2.2 0) = _; rw [he18]; rfl) ?_
              refine r_iconst (v := 4) dX6_takeNext_55 rfl ?_
              refine r_iload_n (x := r13) dX6_takeNext_56 rfl ?_
              refine r_iload_n (x := r1) dX6_takeNext_57 rfl ?_
              refine r_iload_n (x := r7) dX6_takeNext_58 rfl ?_
              cases hf
            | some p16 =>
              rw [he18] at hf
              obtain ⟨h17, hf⟩ := am_chk hf
              refine e_getr (z := some (11, p16, 0)) fw_X6_22 dX6_takeNext_52 (kC_mem (s := 9) (by decide) (by decide) (by decide)) rfl (lt_b rfl) (by show Option.map _ (u15.2.2 0) = _; rw [he18]; rfl) ?_
              refine r_iconst (v := 4) dX6_takeNext_55 rfl ?_
              refine r_iload_n (x := r13) dX6_takeNext_56 rfl ?_
              refine r_iload_n (x := r1) dX6_takeNext_57 rfl ?_
              refine r_iload_n (x := r7) dX6_takeNext_58 rfl ?_
              obtain ⟨r19, hr20, hf⟩ := am_bind hf
              refine r_callV (as := [vI (4 : Int32), vI r13, vI r1, vI r7]) (st := []) (n := 4) mw_X6_52 mv_X3_addClause (C_X3_addClause (l := l) h17 hr20) (le_b rfl) dX6_takeNext_59 (kC_mem (s := 11) (by decide) h17 (by decide)) rfl rfl rfl (le_b rfl) (le_b rfl) (le_b rfl) ?_
              show X l _ _ 0 0 false _ kC 0 0 62 [some (vR (9, 0, 0)), some (vI r1), some (vI r7), some (vI r13)] [] (en r19)
              refine r_iconst (v := 1) dX6_takeNext_62 rfl ?_
              have hx := am_inj hf
              subst hx
              exact r_iret dX6_takeNext_63 rfl (am_bool (x := 1) (by decide)).1 (le_b rfl) (le_b rfl)
          · have hf := (am_if hf).2 hc
            refine r_iconst (v := 0) dX6_takeNext_49 rfl ?_
            have hx := am_inj hf
            subst hx
            exact r_iret dX6_takeNext_50 rfl (am_bool (x := 0) (by decide)).1 (le_b rfl) (le_b rfl)
        · have hf := (am_if hf).1 hc
          refine r_iconst (v := 0) dX6_takeNext_38 rfl ?_
          have hx := am_inj hf
          subst hx
          exact r_iret dX6_takeNext_39 rfl (am_bool (x := 0) (by decide)).1 (le_b rfl) (le_b rfl)
    · have hf := (am_if hf).1 hc
      refine r_iconst (v := 0) dX6_takeNext_18 rfl ?_
      have hx := am_inj hf
      subst hx
      exact r_iret dX6_takeNext_19 rfl (am_bool (x := 0) (by decide)).1 (le_b rfl) (le_b rfl)
/-! FireFromFire$Reader.takeTest -/
theorem dX6_takeTest_0 : decode cX6_takeTest 0 = .ok (.iload_n 1, 1) := by decide +kernel
theorem dX6_takeTest_1 : decode cX6_takeTest 1 = .ok (.ifCond .ge 7, 3) := by decide +kernel
theorem dX6_takeTest_4 : decode cX6_takeTest 4 = .ok (.iconst (-1), 1) := by decide +kernel
theorem dX6_takeTest_5 : decode cX6_takeTest 5 = .ok (.goto 10, 3) := by decide +kernel
theorem dX6_takeTest_8 : decode cX6_takeTest 8 = .ok (.ldc 102, 2) := by decide +kernel
theorem dX6_takeTest_10 : decode cX6_takeTest 10 = .ok (.iload_n 1, 1) := by decide +kernel
theorem dX6_takeTest_11 : decode cX6_takeTest 11 = .ok (.i2c, 1) := by decide +kernel
theorem dX6_takeTest_12 : decode cX6_takeTest 12 = .ok (.invokevirtual 104, 3) := by decide +kernel
theorem dX6_takeTest_15 : decode cX6_takeTest 15 = .ok (.istore_n 2, 1) := by decide +kernel
theorem dX6_takeTest_16 : decode cX6_takeTest 16 = .ok (.iload_n 2, 1) := by decide +kernel
theorem dX6_takeTest_17 : decode cX6_takeTest 17 = .ok (.ifCond .ge 5, 3) := by decide +kernel
theorem dX6_takeTest_20 : decode cX6_takeTest 20 = .ok (.iconst 0, 1) := by decide +kernel
theorem dX6_takeTest_21 : decode cX6_takeTest 21 = .ok (.ireturn, 1) := by decide +kernel
theorem dX6_takeTest_22 : decode cX6_takeTest 22 = .ok (.aload_n 0, 1) := by decide +kernel
theorem dX6_takeTest_23 : decode cX6_takeTest 23 = .ok (.dup, 1) := by decide +kernel
theorem dX6_takeTest_24 : decode cX6_takeTest 24 = .ok (.getfield 19, 3) := by decide +kernel
theorem dX6_takeTest_27 : decode cX6_takeTest 27 = .ok (.iconst 1, 1) := by decide +kernel
theorem dX6_takeTest_28 : decode cX6_takeTest 28 = .ok (.iadd, 1) := by decide +kernel
theorem dX6_takeTest_29 : decode cX6_takeTest 29 = .ok (.putfield 19, 3) := by decide +kernel
theorem dX6_takeTest_32 : decode cX6_takeTest 32 = .ok (.aload_n 0, 1) := by decide +kernel
theorem dX6_takeTest_33 : decode cX6_takeTest 33 = .ok (.invokevirtual 56, 3) := by decide +kernel
theorem dX6_takeTest_36 : decode cX6_takeTest 36 = .ok (.istore_n 3, 1) := by decide +kernel
theorem dX6_takeTest_37 : decode cX6_takeTest 37 = .ok (.iload_n 3, 1) := by decide +kernel
theorem dX6_takeTest_38 : decode cX6_takeTest 38 = .ok (.bipush 60, 2) := by decide +kernel
theorem dX6_takeTest_40 : decode cX6_takeTest 40 = .ok (.if_icmp .eq 17, 3) := by decide +kernel
theorem dX6_takeTest_43 : decode cX6_takeTest 43 = .ok (.iload_n 3, 1) := by decide +kernel
theorem dX6_takeTest_44 : decode cX6_takeTest 44 = .ok (.bipush 61, 2) := by decide +kernel
theorem dX6_takeTest_46 : decode cX6_takeTest 46 = .ok (.if_icmp .eq 11, 3) := by decide +kernel
theorem dX6_takeTest_49 : decode cX6_takeTest 49 = .ok (.iload_n 3, 1) := by decide +kernel
theorem dX6_takeTest_50 : decode cX6_takeTest 50 = .ok (.bipush 62, 2) := by decide +kernel
theorem dX6_takeTest_52 : decode cX6_takeTest 52 = .ok (.if_icmp .eq 5, 3) := by decide +kernel
theorem dX6_takeTest_55 : decode cX6_takeTest 55 = .ok (.iconst 0, 1) := by decide +kernel
theorem dX6_takeTest_56 : decode cX6_takeTest 56 = .ok (.ireturn, 1) := by decide +kernel
theorem dX6_takeTest_57 : decode cX6_takeTest 57 = .ok (.aload_n 0, 1) := by decide +kernel
theorem dX6_takeTest_58 : decode cX6_takeTest 58 = .ok (.dup, 1) := by decide +kernel
theorem dX6_takeTest_59 : decode cX6_takeTest 59 = .ok (.getfield 19, 3) := by decide +kernel
theorem dX6_takeTest_62 : decode cX6_takeTest 62 = .ok (.iconst 1, 1) := by decide +kernel
theorem dX6_takeTest_63 : decode cX6_takeTest 63 = .ok (.iadd, 1) := by decide +kernel
theorem dX6_takeTest_64 : decode cX6_takeTest 64 = .ok (.putfield 19, 3) := by decide +kernel
theorem dX6_takeTest_67 : decode cX6_takeTest 67 = .ok (.aload_n 0, 1) := by decide +kernel
theorem dX6_takeTest_68 : decode cX6_takeTest 68 = .ok (.invokevirtual 46, 3) := by decide +kernel
theorem dX6_takeTest_71 : decode cX6_takeTest 71 = .ok (.istore 4, 2) := by decide +kernel
theorem dX6_takeTest_73 : decode cX6_takeTest 73 = .ok (.iload 4, 2) := by decide +kernel
theorem dX6_takeTest_75 : decode cX6_takeTest 75 = .ok (.ifCond .ge 5, 3) := by decide +kernel
theorem dX6_takeTest_78 : decode cX6_takeTest 78 = .ok (.iconst 0, 1) := by decide +kernel
theorem dX6_takeTest_79 : decode cX6_takeTest 79 = .ok (.ireturn, 1) := by decide +kernel
theorem dX6_takeTest_80 : decode cX6_takeTest 80 = .ok (.aload_n 0, 1) := by decide +kernel
theorem dX6_takeTest_81 : decode cX6_takeTest 81 = .ok (.getfield 22, 3) := by decide +kernel
theorem dX6_takeTest_84 : decode cX6_takeTest 84 = .ok (.iload_n 2, 1) := by decide +kernel
theorem dX6_takeTest_85 : decode cX6_takeTest 85 = .ok (.iload_n 3, 1) := by decide +kernel
theorem dX6_takeTest_86 : decode cX6_takeTest 86 = .ok (.iload 4, 2) := by decide +kernel
theorem dX6_takeTest_88 : decode cX6_takeTest 88 = .ok (.invokevirtual 95, 3) := by decide +kernel
theorem dX6_takeTest_91 : decode cX6_takeTest 91 = .ok (.iconst 1, 1) := by decide +kernel
theorem dX6_takeTest_92 : decode cX6_takeTest 92 = .ok (.ireturn, 1) := by decide +kernel
def f_X6_takeTest  (a0 : Int32) (u : PM) : Option (Int32 × PM) :=
  if 0 ≤ a0 then
    (f_J0_indexOf_0f7a4 6 ((a0.toUInt32 % 65536).toInt32) u).bind fun r1 =>
    if 0 ≤ r1 then
      (f_X6_sign (pi u (9, 0, 0) 2 ((u.1 (9, 0, 0) 2) + (1 : Int32)))).bind fun r3 =>
      if r3 = (60 : Int32) then
        (f_X6_takeNumber (pi (pi u (9, 0, 0) 2 ((u.1 (9, 0, 0) 2) + (1 : Int32))) (9, 0, 0) 2 (((u.1 (9, 0, 0) 2) + (1 : Int32)) + (1 : Int32)))).bind fun (r5, u7) =>
        if 0 ≤ r5 then
          match u7.2.2 0 with
          | none =>
            none
          | some p8 =>
            if p8 < 5 then
              (f_X3_addStep p8 r1 r3 r5 u7).bind fun r11 =>
              some ((1 : Int32), r11)
            else none
        else
        some ((0 : Int32), u7)
      else
      if r3 = (61 : Int32) then
        (f_X6_takeNumber (pi (pi u (9, 0, 0) 2 ((u.1 (9, 0, 0) 2) + (1 : Int32))) (9, 0, 0) 2 (((u.1 (9, 0, 0) 2) + (1 : Int32)) + (1 : Int32)))).bind fun (r13, u15) =>
        if 0 ≤ r13 then
          match u15.2.2 0 with
          | none =>
            none
          | some p16 =>
            if p16 < 5 then
              (f_X3_addStep p16 r1 r3 r13 u15).bind fun r19 =>
              some ((1 : Int32), r19)
            else none
        else
        some ((0 : Int32), u15)
      else
      if r3 = (62 : Int32) then
        (f_X6_takeNumber (pi (pi u (9, 0, 0) 2 ((u.1 (9, 0, 0) 2) + (1 : Int32))) (9, 0, 0) 2 (((u.1 (9, 0, 0) 2) + (1 : Int32)) + (1 : Int32)))).bind fun (r21, u23) =>
        if 0 ≤ r21 then
          match u23.2.2 0 with
          | none =>
            none
          | some p24 =>
            if p24 < 5 then
              (f_X3_addStep p24 r1 r3 r21 u23).bind fun r27 =>
              some ((1 : Int32), r27)
            else none
        else
        some ((0 : Int32), u23)
      else
      some ((0 : Int32), (pi u (9, 0, 0) 2 ((u.1 (9, 0, 0) 2) + (1 : Int32))))
    else
    some ((0 : Int32), u)
  else
  some ((0 : Int32), u)
set_option maxHeartbeats 4000000 in
set_option maxRecDepth 20000 in
theorem C_X6_takeTest {l : Launch}  {a0 : Int32} {u : PM} {x : Int32 × PM} (hf : f_X6_takeTest a0 u = some x) : Ev l mX6_takeTest 8 0 0 false [vR (9, 0, 0), vI a0] kC (en u) (some (vI x.1), kC, en x.2) := by
  refine Ev_of (by decide +kernel) (le_b rfl) ?_
  unfold f_X6_takeTest at hf
  show X l mX6_takeTest 8 0 0 false _ kC 0 0 0 [some (vR (9, 0, 0)), some (vI a0), none, none, none] [] (en u)
  refine r_iload_n (x := a0) dX6_takeTest_0 rfl ?_
  refine r_if_ge (tgt := 8) dX6_takeTest_1 (by decide) (fun hc => ?_) (fun hc => ?_)
  · have hf := (am_if hf).1 hc
    refine r_ldcS (i := 6) (by decide) rfl rfl dX6_takeTest_8 ?_
    refine r_iload_n (x := a0) dX6_takeTest_10 rfl ?_
    refine r_i2c dX6_takeTest_11 ?_
    obtain ⟨r1, hr2, hf⟩ := am_bind hf
    refine r_callT (as := [vI ((a0.toUInt32 % 65536).toInt32)]) (st := []) (n := 1) (by decide) mw_X6_104 mv_J0_indexOf_0f7a4 (C_J0_indexOf_0f7a4 (l := l) (by decide) hr2) (le_b rfl) dX6_takeTest_12 rfl rfl (le_b rfl) (le_b rfl) (le_b rfl) ?_
    show X l _ _ 0 0 false _ kC 0 0 15 [some (vR (9, 0, 0)), some (vI a0), none, none, none] [vI r1] (en u)
    refine r_istore_n (L' := [some (vR (9, 0, 0)), some (vI a0), some (vI r1), none, none]) dX6_takeTest_15 (by decide) rfl ?_
    refine r_iload_n (x := r1) dX6_takeTest_16 rfl ?_
    refine r_if_ge (tgt := 22) dX6_takeTest_17 (by decide) (fun hc => ?_) (fun hc => ?_)
    · have hf := (am_if hf).1 hc
      refine r_aload_n (x := (9, 0, 0)) dX6_takeTest_22 rfl ?_
      refine r_dup dX6_takeTest_23 rfl ?_
      refine e_geti fw_X6_19 dX6_takeTest_24 (kC_mem (s := 9) (by decide) (by decide) (by decide)) rfl (lt_b rfl) ?_
      refine r_iconst (v := 1) dX6_takeTest_27 rfl ?_
      refine r_iadd dX6_takeTest_28 ?_
      refine e_puti fp_X6_19 dX6_takeTest_29 (kC_mem (s := 9) (by decide) (by decide) (by decide)) rfl (lt_b rfl) rfl rfl rfl ?_
      refine r_aload_n (x := (9, 0, 0)) dX6_takeTest_32 rfl ?_
      obtain ⟨r3, hr4, hf⟩ := am_bind hf
      refine r_callV (as := []) (st := []) (n := 0) mw_X6_56 mv_X6_sign (C_X6_sign (l := l) hr4) (le_b rfl) dX6_takeTest_33 (kC_mem (s := 9) (by decide) (by decide) (by decide)) rfl rfl rfl (le_b rfl) (le_b rfl) (le_b rfl) ?_
      show X l _ _ 0 0 false _ kC 0 0 36 [some (vR (9, 0, 0)), some (vI a0), some (vI r1), none, none] [vI r3] (en (pi u (9, 0, 0) 2 ((u.1 (9, 0, 0) 2) + (1 : Int32))))
      refine r_istore_n (L' := [some (vR (9, 0, 0)), some (vI a0), some (vI r1), some (vI r3), none]) dX6_takeTest_36 (by decide) rfl ?_
      refine r_iload_n (x := r3) dX6_takeTest_37 rfl ?_
      refine r_bipush (v := 60) dX6_takeTest_38 rfl ?_
      refine r_icmp_eq (tgt := 57) dX6_takeTest_40 (by decide) (fun hc => ?_) (fun hc => ?_)
      · have hf := (am_if hf).1 hc
        refine r_aload_n (x := (9, 0, 0)) dX6_takeTest_57 rfl ?_
        refine r_dup dX6_takeTest_58 rfl ?_
        refine e_geti_ (x := (u.1 (9, 0, 0) 2) + (1 : Int32)) fw_X6_19 dX6_takeTest_59 (kC_mem (s := 9) (by decide) (by decide) (by decide)) rfl (lt_b rfl) (by simp [pi, pl, pr, pci, pcl]) ?_
        refine r_iconst (v := 1) dX6_takeTest_62 rfl ?_
        refine r_iadd dX6_takeTest_63 ?_
        refine e_puti fp_X6_19 dX6_takeTest_64 (kC_mem (s := 9) (by decide) (by decide) (by decide)) rfl (lt_b rfl) rfl rfl rfl ?_
        refine r_aload_n (x := (9, 0, 0)) dX6_takeTest_67 rfl ?_
        obtain ⟨⟨r5, u7⟩, hr6, hf⟩ := am_bind hf
        refine r_callV (as := []) (st := []) (n := 0) mw_X6_46 mv_X6_takeNumber (C_X6_takeNumber (l := l) hr6) (le_b rfl) dX6_takeTest_68 (kC_mem (s := 9) (by decide) (by decide) (by decide)) rfl rfl rfl (le_b rfl) (le_b rfl) (le_b rfl) ?_
        show X l _ _ 0 0 false _ kC 0 0 71 [some (vR (9, 0, 0)), some (vI a0), some (vI r1), some (vI r3), none] [vI r5] (en u7)
        refine r_istore (L' := [some (vR (9, 0, 0)), some (vI a0), some (vI r1), some (vI r3), some (vI r5)]) dX6_takeTest_71 (by decide) rfl ?_
        refine r_iload (x := r5) dX6_takeTest_73 rfl ?_
        refine r_if_ge (tgt := 80) dX6_takeTest_75 (by decide) (fun hc => ?_) (fun hc => ?_)
        · have hf := (am_if hf).1 hc
          refine r_aload_n (x := (9, 0, 0)) dX6_takeTest_80 rfl ?_
          cases he10 : u7.2.2 0 with
          | none =>
            rw [he10] at hf
            refine e_getr (z := none) fw_X6_22 dX6_takeTest_81 (kC_mem (s := 9) (by decide) (by decide) (by decide)) rfl (lt_b rfl) (by show Option.map _ (u7.2.2 0) = _; rw [he10]; rfl) ?_
            refine r_iload_n (x := r1) dX6_takeTest_84 rfl ?_
            refine r_iload_n (x := r3) dX6_takeTest_85 rfl ?_
            refine r_iload (x := r5) dX6_takeTest_86 rfl ?_
            cases hf
          | some p8 =>
            rw [he10] at hf
            obtain ⟨h9, hf⟩ := am_chk hf
            refine e_getr (z := some (11, p8, 0)) fw_X6_22 dX6_takeTest_81 (kC_mem (s := 9) (by decide) (by decide) (by decide)) rfl (lt_b rfl) (by show Option.map _ (u7.2.2 0) = _; rw [he10]; rfl) ?_
            refine r_iload_n (x := r1) dX6_takeTest_84 rfl ?_
            refine r_iload_n (x := r3) dX6_takeTest_85 rfl ?_
            refine r_iload (x := r5) dX6_takeTest_86 rfl ?_
            obtain ⟨r11, hr12, hf⟩ := am_bind hf
            refine r_callV (as := [vI r1, vI r3, vI r5]) (st := []) (n := 3) mw_X6_95 mv_X3_addStep (C_X3_addStep (l := l) h9 hr12) (le_b rfl) dX6_takeTest_88 (kC_mem (s := 11) (by decide) h9 (by decide)) rfl rfl rfl (le_b rfl) (le_b rfl) (le_b rfl) ?_
            show X l _ _ 0 0 false _ kC 0 0 91 [some (vR (9, 0, 0)), some (vI a0), some (vI r1), some (vI r3), some (vI r5)] [] (en r11)
            refine r_iconst (v := 1) dX6_takeTest_91 rfl ?_
            have hx := am_inj hf
            subst hx
            exact r_iret dX6_takeTest_92 rfl (am_bool (x := 1) (by decide)).1 (le_b rfl) (le_b rfl)
        · have hf := (am_if hf).2 hc
          refine r_iconst (v := 0) dX6_takeTest_78 rfl ?_
          have hx := am_inj hf
          subst hx
          exact r_iret dX6_takeTest_79 rfl (am_bool (x := 0) (by decide)).1 (le_b rfl) (le_b rfl)
      · have hf := (am_if hf).2 hc
        refine r_iload_n (x := r3) dX6_takeTest_43 rfl ?_
        refine r_bipush (v := 61) dX6_takeTest_44 rfl ?_
        refine r_icmp_eq (tgt := 57) dX6_takeTest_46 (by decide) (fun hc => ?_) (fun hc => ?_)
        · have hf := (am_if hf).1 hc
          refine r_aload_n (x := (9, 0, 0)) dX6_takeTest_57 rfl ?_
          refine r_dup dX6_takeTest_58 rfl ?_
          refine e_geti_ (x := (u.1 (9, 0, 0) 2) + (1 : Int32)) fw_X6_19 dX6_takeTest_59 (kC_mem (s := 9) (by decide) (by decide) (by decide)) rfl (lt_b rfl) (by simp [pi, pl, pr, pci, pcl]) ?_
          refine r_iconst (v := 1) dX6_takeTest_62 rfl ?_
          refine r_iadd dX6_takeTest_63 ?_
          refine e_puti fp_X6_19 dX6_takeTest_64 (kC_mem (s := 9) (by decide) (by decide) (by decide)) rfl (lt_b rfl) rfl rfl rfl ?_
          refine r_aload_n (x := (9, 0, 0)) dX6_takeTest_67 rfl ?_
          obtain ⟨⟨r13, u15⟩, hr14, hf⟩ := am_bind hf
          refine r_callV (as := []) (st := []) (n := 0) mw_X6_46 mv_X6_takeNumber (C_X6_takeNumber (l := l) hr14) (le_b rfl) dX6_takeTest_68 (kC_mem (s := 9) (by decide) (by decide) (by decide)) rfl rfl rfl (le_b rfl) (le_b rfl) (le_b rfl) ?_
          show X l _ _ 0 0 false _ kC 0 0 71 [some (vR (9, 0, 0)), some (vI a0), some (vI r1), some (vI r3), none] [vI r13] (en u15)
          refine r_istore (L' := [some (vR (9, 0, 0)), some (vI a0), some (vI r1), some (vI r3), some (vI r13)]) dX6_takeTest_71 (by decide) rfl ?_
          refine r_iload (x := r13) dX6_takeTest_73 rfl ?_
          refine r_if_ge (tgt := 80) dX6_takeTest_75 (by decide) (fun hc => ?_) (fun hc => ?_)
          · have hf := (am_if hf).1 hc
            refine r_aload_n (x := (9, 0, 0)) dX6_takeTest_80 rfl ?_
            cases he18 : u15.2.2 0 with
            | none =>
              rw [he18] at hf
              refine e_getr (z := none) fw_X6_22 dX6_takeTest_81 (kC_mem (s := 9) (by decide) (by decide) (by decide)) rfl (lt_b rfl) (by show Option.map _ (u15.2.2 0) = _; rw [he18]; rfl) ?_
              refine r_iload_n (x := r1) dX6_takeTest_84 rfl ?_
              refine r_iload_n (x := r3) dX6_takeTest_85 rfl ?_
              refine r_iload (x := r13) dX6_takeTest_86 rfl ?_
              cases hf
            | some p16 =>
              rw [he18] at hf
              obtain ⟨h17, hf⟩ := am_chk hf
              refine e_getr (z := some (11, p16, 0)) fw_X6_22 dX6_takeTest_81 (kC_mem (s := 9) (by decide) (by decide) (by decide)) rfl (lt_b rfl) (by show Option.map _ (u15.2.2 0) = _; rw [he18]; rfl) ?_
              refine r_iload_n (x := r1) dX6_takeTest_84 rfl ?_
              refine r_iload_n (x := r3) dX6_takeTest_85 rfl ?_
              refine r_iload (x := r13) dX6_takeTest_86 rfl ?_
              obtain ⟨r19, hr20, hf⟩ := am_bind hf
              refine r_callV (as := [vI r1, vI r3, vI r13]) (st := []) (n := 3) mw_X6_95 mv_X3_addStep (C_X3_addStep (l := l) h17 hr20) (le_b rfl) dX6_takeTest_88 (kC_mem (s := 11) (by decide) h17 (by decide)) rfl rfl rfl (le_b rfl) (le_b rfl) (le_b rfl) ?_
              show X l _ _ 0 0 false _ kC 0 0 91 [some (vR (9, 0, 0)), some (vI a0), some (vI r1), some (vI r3), some (vI r13)] [] (en r19)
              refine r_iconst (v := 1) dX6_takeTest_91 rfl ?_
              have hx := am_inj hf
              subst hx
              exact r_iret dX6_takeTest_92 rfl (am_bool (x := 1) (by decide)).1 (le_b rfl) (le_b rfl)
          · have hf := (am_if hf).2 hc
            refine r_iconst (v := 0) dX6_takeTest_78 rfl ?_
            have hx := am_inj hf
            subst hx
            exact r_iret dX6_takeTest_79 rfl (am_bool (x := 0) (by decide)).1 (le_b rfl) (le_b rfl)
        · have hf := (am_if hf).2 hc
          refine r_iload_n (x := r3) dX6_takeTest_49 rfl ?_
          refine r_bipush (v := 62) dX6_takeTest_50 rfl ?_
          refine r_icmp_eq (tgt := 57) dX6_takeTest_52 (by decide) (fun hc => ?_) (fun hc => ?_)
          · have hf := (am_if hf).1 hc
            refine r_aload_n (x := (9, 0, 0)) dX6_takeTest_57 rfl ?_
            refine r_dup dX6_takeTest_58 rfl ?_
            refine e_geti_ (x := (u.1 (9, 0, 0) 2) + (1 : Int32)) fw_X6_19 dX6_takeTest_59 (kC_mem (s := 9) (by decide) (by decide) (by decide)) rfl (lt_b rfl) (by simp [pi, pl, pr, pci, pcl]) ?_
            refine r_iconst (v := 1) dX6_takeTest_62 rfl ?_
            refine r_iadd dX6_takeTest_63 ?_
            refine e_puti fp_X6_19 dX6_takeTest_64 (kC_mem (s := 9) (by decide) (by decide) (by decide)) rfl (lt_b rfl) rfl rfl rfl ?_
            refine r_aload_n (x := (9, 0, 0)) dX6_takeTest_67 rfl ?_
            obtain ⟨⟨r21, u23⟩, hr22, hf⟩ := am_bind hf
            refine r_callV (as := []) (st := []) (n := 0) mw_X6_46 mv_X6_takeNumber (C_X6_takeNumber (l := l) hr22) (le_b rfl) dX6_takeTest_68 (kC_mem (s := 9) (by decide) (by decide) (by decide)) rfl rfl rfl (le_b rfl) (le_b rfl) (le_b rfl) ?_
            show X l _ _ 0 0 false _ kC 0 0 71 [some (vR (9, 0, 0)), some (vI a0), some (vI r1), some (vI r3), none] [vI r21] (en u23)
            refine r_istore (L' := [some (vR (9, 0, 0)), some (vI a0), some (vI r1), some (vI r3), some (vI r21)]) dX6_takeTest_71 (by decide) rfl ?_
            refine r_iload (x := r21) dX6_takeTest_73 rfl ?_
            refine r_if_ge (tgt := 80) dX6_takeTest_75 (by decide) (fun hc => ?_) (fun hc => ?_)
            · have hf := (am_if hf).1 hc
              refine r_aload_n (x := (9, 0, 0)) dX6_takeTest_80 rfl ?_
              cases he26 : u23.2.2 0 with
              | none =>
                rw [he26] at hf
                refine e_getr (z := none) fw_X6_22 dX6_takeTest_81 (kC_mem (s := 9) (by decide) (by decide) (by decide)) rfl (lt_b rfl) (by show Option.map _ (u23.2.2 0) = _; rw [he26]; rfl) ?_
                refine r_iload_n (x := r1) dX6_takeTest_84 rfl ?_
                refine r_iload_n (x := r3) dX6_takeTest_85 rfl ?_
                refine r_iload (x := r21) dX6_takeTest_86 rfl ?_
                cases hf
              | some p24 =>
                rw [he26] at hf
                obtain ⟨h25, hf⟩ := am_chk hf
                refine e_getr (z := some (11, p24, 0)) fw_X6_22 dX6_takeTest_81 (kC_mem (s := 9) (by decide) (by decide) (by decide)) rfl (lt_b rfl) (by show Option.map _ (u23.2.2 0) = _; rw [he26]; rfl) ?_
                refine r_iload_n (x := r1) dX6_takeTest_84 rfl ?_
                refine r_iload_n (x := r3) dX6_takeTest_85 rfl ?_
                refine r_iload (x := r21) dX6_takeTest_86 rfl ?_
                obtain ⟨r27, hr28, hf⟩ := am_bind hf
                refine r_callV (as := [vI r1, vI r3, vI r21]) (st := []) (n := 3) mw_X6_95 mv_X3_addStep (C_X3_addStep (l := l) h25 hr28) (le_b rfl) dX6_takeTest_88 (kC_mem (s := 11) (by decide) h25 (by decide)) rfl rfl rfl (le_b rfl) (le_b rfl) (le_b rfl) ?_
                show X l _ _ 0 0 false _ kC 0 0 91 [some (vR (9, 0, 0)), some (vI a0), some (vI r1), some (vI r3), some (vI r21)] [] (en r27)
                refine r_iconst (v := 1) dX6_takeTest_91 rfl ?_
                have hx := am_inj hf
                subst hx
                exact r_iret dX6_takeTest_92 rfl (am_bool (x := 1) (by decide)).1 (le_b rfl) (le_b rfl)
            · have hf := (am_if hf).2 hc
              refine r_iconst (v := 0) dX6_takeTest_78 rfl ?_
              have hx := am_inj hf
              subst hx
              exact r_iret dX6_takeTest_79 rfl (am_bool (x := 0) (by decide)).1 (le_b rfl) (le_b rfl)
          · have hf := (am_if hf).2 hc
            refine r_iconst (v := 0) dX6_takeTest_55 rfl ?_
            have hx := am_inj hf
            subst hx
            exact r_iret dX6_takeTest_56 rfl (am_bool (x := 0) (by decide)).1 (le_b rfl) (le_b rfl)
    · have hf := (am_if hf).2 hc
      refine r_iconst (v := 0) dX6_takeTest_20 rfl ?_
      have hx := am_inj hf
      subst hx
      exact r_iret dX6_takeTest_21 rfl (am_bool (x := 0) (by decide)).1 (le_b rfl) (le_b rfl)
  · have hf := (am_if hf).2 hc
    refine r_iconst (v := -1) dX6_takeTest_4 rfl ?_
    refine r_goto (tgt := 15) dX6_takeTest_5 (by decide) ?_
    refine r_istore_n (L' := [some (vR (9, 0, 0)), some (vI a0), some (vI (-1 : Int32)), none, none]) dX6_takeTest_15 (by decide) rfl ?_
    refine r_iload_n (x := (-1 : Int32)) dX6_takeTest_16 rfl ?_
    refine r_if_ge (tgt := 22) dX6_takeTest_17 (by decide) (fun hc => absurd hc (by decide)) (fun hc => ?_)
    refine r_iconst (v := 0) dX6_takeTest_20 rfl ?_
    have hx := am_inj hf
    subst hx
    exact r_iret dX6_takeTest_21 rfl (am_bool (x := 0) (by decide)).1 (le_b rfl) (le_b rfl)
/-! FireFromFire$Reader.takeEither -/
theorem dX6_takeEither_0 : decode cX6_takeEither 0 = .ok (.iconst 0, 1) := by decide +kernel
theorem dX6_takeEither_1 : decode cX6_takeEither 1 = .ok (.istore_n 2, 1) := by decide +kernel
theorem dX6_takeEither_2 : decode cX6_takeEither 2 = .ok (.iload_n 2, 1) := by decide +kernel
theorem dX6_takeEither_3 : decode cX6_takeEither 3 = .ok (.bipush 100, 2) := by decide +kernel
theorem dX6_takeEither_5 : decode cX6_takeEither 5 = .ok (.if_icmp .ge 89, 3) := by decide +kernel
theorem dX6_takeEither_8 : decode cX6_takeEither 8 = .ok (.aload_n 0, 1) := by decide +kernel
theorem dX6_takeEither_9 : decode cX6_takeEither 9 = .ok (.iload_n 1, 1) := by decide +kernel
theorem dX6_takeEither_10 : decode cX6_takeEither 10 = .ok (.invokevirtual 92, 3) := by decide +kernel
theorem dX6_takeEither_13 : decode cX6_takeEither 13 = .ok (.ifCond .ne 5, 3) := by decide +kernel
theorem dX6_takeEither_16 : decode cX6_takeEither 16 = .ok (.iconst 0, 1) := by decide +kernel
theorem dX6_takeEither_17 : decode cX6_takeEither 17 = .ok (.ireturn, 1) := by decide +kernel
theorem dX6_takeEither_18 : decode cX6_takeEither 18 = .ok (.iconst 0, 1) := by decide +kernel
theorem dX6_takeEither_19 : decode cX6_takeEither 19 = .ok (.istore_n 3, 1) := by decide +kernel
theorem dX6_takeEither_20 : decode cX6_takeEither 20 = .ok (.iload_n 3, 1) := by decide +kernel
theorem dX6_takeEither_21 : decode cX6_takeEither 21 = .ok (.bipush 100, 2) := by decide +kernel
theorem dX6_takeEither_23 : decode cX6_takeEither 23 = .ok (.if_icmp .ge 39, 3) := by decide +kernel
theorem dX6_takeEither_26 : decode cX6_takeEither 26 = .ok (.aload_n 0, 1) := by decide +kernel
theorem dX6_takeEither_27 : decode cX6_takeEither 27 = .ok (.bipush 38, 2) := by decide +kernel
theorem dX6_takeEither_29 : decode cX6_takeEither 29 = .ok (.invokevirtual 38, 3) := by decide +kernel
theorem dX6_takeEither_32 : decode cX6_takeEither 32 = .ok (.ifCond .eq 30, 3) := by decide +kernel
theorem dX6_takeEither_35 : decode cX6_takeEither 35 = .ok (.aload_n 0, 1) := by decide +kernel
theorem dX6_takeEither_36 : decode cX6_takeEither 36 = .ok (.iload_n 1, 1) := by decide +kernel
theorem dX6_takeEither_37 : decode cX6_takeEither 37 = .ok (.invokevirtual 92, 3) := by decide +kernel
theorem dX6_takeEither_40 : decode cX6_takeEither 40 = .ok (.ifCond .ne 5, 3) := by decide +kernel
theorem dX6_takeEither_43 : decode cX6_takeEither 43 = .ok (.iconst 0, 1) := by decide +kernel
theorem dX6_takeEither_44 : decode cX6_takeEither 44 = .ok (.ireturn, 1) := by decide +kernel
theorem dX6_takeEither_45 : decode cX6_takeEither 45 = .ok (.aload_n 0, 1) := by decide +kernel
theorem dX6_takeEither_46 : decode cX6_takeEither 46 = .ok (.getfield 22, 3) := by decide +kernel
theorem dX6_takeEither_49 : decode cX6_takeEither 49 = .ok (.bipush 7, 2) := by decide +kernel
theorem dX6_takeEither_51 : decode cX6_takeEither 51 = .ok (.iconst 0, 1) := by decide +kernel
theorem dX6_takeEither_52 : decode cX6_takeEither 52 = .ok (.iconst 0, 1) := by decide +kernel
theorem dX6_takeEither_53 : decode cX6_takeEither 53 = .ok (.invokevirtual 95, 3) := by decide +kernel
theorem dX6_takeEither_56 : decode cX6_takeEither 56 = .ok (.iinc 3 1, 3) := by decide +kernel
theorem dX6_takeEither_59 : decode cX6_takeEither 59 = .ok (.goto (-39), 3) := by decide +kernel
theorem dX6_takeEither_62 : decode cX6_takeEither 62 = .ok (.iload_n 2, 1) := by decide +kernel
theorem dX6_takeEither_63 : decode cX6_takeEither 63 = .ok (.ifCond .le 14, 3) := by decide +kernel
theorem dX6_takeEither_66 : decode cX6_takeEither 66 = .ok (.aload_n 0, 1) := by decide +kernel
theorem dX6_takeEither_67 : decode cX6_takeEither 67 = .ok (.getfield 22, 3) := by decide +kernel
theorem dX6_takeEither_70 : decode cX6_takeEither 70 = .ok (.bipush 8, 2) := by decide +kernel
theorem dX6_takeEither_72 : decode cX6_takeEither 72 = .ok (.iconst 0, 1) := by decide +kernel
theorem dX6_takeEither_73 : decode cX6_takeEither 73 = .ok (.iconst 0, 1) := by decide +kernel
theorem dX6_takeEither_74 : decode cX6_takeEither 74 = .ok (.invokevirtual 95, 3) := by decide +kernel
theorem dX6_takeEither_77 : decode cX6_takeEither 77 = .ok (.aload_n 0, 1) := by decide +kernel
theorem dX6_takeEither_78 : decode cX6_takeEither 78 = .ok (.bipush 124, 2) := by decide +kernel
theorem dX6_takeEither_80 : decode cX6_takeEither 80 = .ok (.invokevirtual 38, 3) := by decide +kernel
theorem dX6_takeEither_83 : decode cX6_takeEither 83 = .ok (.ifCond .ne 5, 3) := by decide +kernel
theorem dX6_takeEither_86 : decode cX6_takeEither 86 = .ok (.iconst 1, 1) := by decide +kernel
theorem dX6_takeEither_87 : decode cX6_takeEither 87 = .ok (.ireturn, 1) := by decide +kernel
theorem dX6_takeEither_88 : decode cX6_takeEither 88 = .ok (.iinc 2 1, 3) := by decide +kernel
theorem dX6_takeEither_91 : decode cX6_takeEither 91 = .ok (.goto (-89), 3) := by decide +kernel
theorem dX6_takeEither_94 : decode cX6_takeEither 94 = .ok (.iconst 0, 1) := by decide +kernel
theorem dX6_takeEither_95 : decode cX6_takeEither 95 = .ok (.ireturn, 1) := by decide +kernel
def f_X6_takeEither_L20 (te tp : RF)  (c1 : Int32) (c2 : Int32) : Int32 × PM → Option ((Int32 × PM) ⊕ ((Int32 × PM) ⊕ (PM))) := fun (x3 , u) =>
  if (100 : Int32) ≤ x3 then
    some (.inr (.inr (u)))
  else
  (f_X6_take (38 : Int32) u).bind fun (r4, u6) =>
  if r4 = 0 then
    some (.inr (.inr (u6)))
  else
  (tp c1 u6).bind fun (r7, u9) =>
  if r7 = 0 then
    some (.inr (.inl ((0 : Int32), u9)))
  else
  match u9.2.2 0 with
  | none =>
    none
  | some p10 =>
    if p10 < 5 then
      (f_X3_addStep p10 (7 : Int32) (0 : Int32) (0 : Int32) u9).bind fun r13 =>
      some (.inl (x3 + (1 : Int32), r13))
    else none
set_option maxHeartbeats 4000000 in
set_option maxRecDepth 20000 in
theorem K_X6_takeEither_L20 {l : Launch} {T : Option AV × List Key × AM} {de dp dd : Nat} (hde : de + 1 ≤ dd) (hdp : dp + 1 ≤ dd) (h10 : 10 ≤ dd) {te tp : RF} (hte : ∀ a u x, te a u = some x → Ev l mX6_takeEither de 0 0 false [vR (9, 0, 0), vI a] kC (en u) (some (vI x.1), kC, en x.2)) (htp : ∀ a u x, tp a u = some x → Ev l mX6_takePart dp 0 0 false [vR (9, 0, 0), vI a] kC (en u) (some (vI x.1), kC, en x.2))  {c1 : Int32} {c2 : Int32} : ∀ (n : Nat) (s : Int32 × PM) (e0 : (Int32 × PM) ⊕ (PM)), am_loop (f_X6_takeEither_L20 te tp c1 c2) n s = some e0 → Sum.elim (fun r : Int32 × PM => T = (some (vI r.1), kC, en r.2)) (fun e : PM => X l mX6_takeEither dd 0 0 false T kC 0 0 62 [some (vR (9, 0, 0)), some (vI c1), some (vI c2), none] [] (en e)) e0 → X l mX6_takeEither dd 0 0 false T kC 0 0 20 [some (vR (9, 0, 0)), some (vI c1), some (vI c2), some (vI s.1)] [] (en s.2) := by
  refine am_loop_of ?_
  intro s x hf k1 k2
  obtain ⟨x3 , u⟩ := s
  unfold f_X6_takeEither_L20 at hf
  show X l mX6_takeEither dd 0 0 false T kC 0 0 20 [some (vR (9, 0, 0)), some (vI c1), some (vI c2), some (vI x3)] [] (en u)
  refine r_iload_n (x := x3) dX6_takeEither_20 rfl ?_
  refine r_bipush (v := 100) dX6_takeEither_21 rfl ?_
  refine r_icmp_ge (tgt := 62) dX6_takeEither_23 (by decide) (fun hc => ?_) (fun hc => ?_)
  · have hf := (am_if hf).1 hc
    refine r_weak (L' := [some (vR (9, 0, 0)), some (vI c1), some (vI c2), none]) (And.intro rfl (And.intro rfl (And.intro rfl trivial))) ?_
    exact k2 (.inr (u)) (am_inj hf).symm
  · have hf := (am_if hf).2 hc
    refine r_aload_n (x := (9, 0, 0)) dX6_takeEither_26 rfl ?_
    refine r_bipush (v := 38) dX6_takeEither_27 rfl ?_
    obtain ⟨⟨r4, u6⟩, hr5, hf⟩ := am_bind hf
    refine r_callV (as := [vI (38 : Int32)]) (st := []) (n := 1) mw_X6_38 mv_X6_take (C_X6_take (l := l) hr5) (by omega) dX6_takeEither_29 (kC_mem (s := 9) (by decide) (by decide) (by decide)) rfl rfl rfl (le_b rfl) (le_b rfl) (le_b rfl) ?_
    show X l _ _ 0 0 false _ kC 0 0 32 [some (vR (9, 0, 0)), some (vI c1), some (vI c2), some (vI x3)] [vI r4] (en u6)
    refine r_if_eq (tgt := 62) dX6_takeEither_32 (by decide) (fun hc => ?_) (fun hc => ?_)
    · have hf := (am_if hf).1 hc
      refine r_weak (L' := [some (vR (9, 0, 0)), some (vI c1), some (vI c2), none]) (And.intro rfl (And.intro rfl (And.intro rfl trivial))) ?_
      exact k2 (.inr (u6)) (am_inj hf).symm
    · have hf := (am_if hf).2 hc
      refine r_aload_n (x := (9, 0, 0)) dX6_takeEither_35 rfl ?_
      refine r_iload_n (x := c1) dX6_takeEither_36 rfl ?_
      obtain ⟨⟨r7, u9⟩, hr8, hf⟩ := am_bind hf
      refine r_callV (as := [vI c1]) (st := []) (n := 1) mw_X6_92 mv_X6_takePart (htp _ _ _ hr8) (by omega) dX6_takeEither_37 (kC_mem (s := 9) (by decide) (by decide) (by decide)) rfl rfl rfl (le_b rfl) (le_b rfl) (le_b rfl) ?_
      show X l _ _ 0 0 false _ kC 0 0 40 [some (vR (9, 0, 0)), some (vI c1), some (vI c2), some (vI x3)] [vI r7] (en u9)
      refine r_if_ne (tgt := 45) dX6_takeEither_40 (by decide) (fun hc => ?_) (fun hc => ?_)
      · have hf := (am_if hf).2 hc
        refine r_aload_n (x := (9, 0, 0)) dX6_takeEither_45 rfl ?_
        cases he12 : u9.2.2 0 with
        | none =>
          rw [he12] at hf
          refine e_getr (z := none) fw_X6_22 dX6_takeEither_46 (kC_mem (s := 9) (by decide) (by decide) (by decide)) rfl (lt_b rfl) (by show Option.map _ (u9.2.2 0) = _; rw [he12]; rfl) ?_
          refine r_bipush (v := 7) dX6_takeEither_49 rfl ?_
          refine r_iconst (v := 0) dX6_takeEither_51 rfl ?_
          refine r_iconst (v := 0) dX6_takeEither_52 rfl ?_
          cases hf
        | some p10 =>
          rw [he12] at hf
          obtain ⟨h11, hf⟩ := am_chk hf
          refine e_getr (z := some (11, p10, 0)) fw_X6_22 dX6_takeEither_46 (kC_mem (s := 9) (by decide) (by decide) (by decide)) rfl (lt_b rfl) (by show Option.map _ (u9.2.2 0) = _; rw [he12]; rfl) ?_
          refine r_bipush (v := 7) dX6_takeEither_49 rfl ?_
          refine r_iconst (v := 0) dX6_takeEither_51 rfl ?_
          refine r_iconst (v := 0) dX6_takeEither_52 rfl ?_
          obtain ⟨r13, hr14, hf⟩ := am_bind hf
          refine r_callV (as := [vI (7 : Int32), vI (0 : Int32), vI (0 : Int32)]) (st := []) (n := 3) mw_X6_95 mv_X3_addStep (C_X3_addStep (l := l) h11 hr14) (by omega) dX6_takeEither_53 (kC_mem (s := 11) (by decide) h11 (by decide)) rfl rfl rfl (le_b rfl) (le_b rfl) (le_b rfl) ?_
          show X l _ _ 0 0 false _ kC 0 0 56 [some (vR (9, 0, 0)), some (vI c1), some (vI c2), some (vI x3)] [] (en r13)
          refine r_iinc (x := x3) (v := x3 + (1 : Int32)) (L' := [some (vR (9, 0, 0)), some (vI c1), some (vI c2), some (vI (x3 + (1 : Int32)))]) dX6_takeEither_56 rfl rfl (lt_b rfl) rfl ?_
          refine r_goto (tgt := 20) dX6_takeEither_59 (by decide) ?_
          refine r_weak (L' := [some (vR (9, 0, 0)), some (vI c1), some (vI c2), some (vI (x3 + (1 : Int32)))]) (And.intro rfl (And.intro rfl (And.intro rfl (And.intro rfl trivial)))) ?_
          exact k1 (x3 + (1 : Int32), r13) (am_inj hf).symm
      · have hf := (am_if hf).1 hc
        refine r_iconst (v := 0) dX6_takeEither_43 rfl ?_
        have hT := k2 _ (am_inj hf).symm
        replace hT : T = (some (vI (0 : Int32)), kC, en u9) := hT
        subst hT
        exact r_iret dX6_takeEither_44 rfl (am_bool (x := 0) (by decide)).1 (le_b rfl) (le_b rfl)
def f_X6_takeEither_L2 (te tp : RF)  (c1 : Int32) : Int32 × PM → Option ((Int32 × PM) ⊕ ((Int32 × PM) ⊕ (PM))) := fun (x2 , u) =>
  if (100 : Int32) ≤ x2 then
    some (.inr (.inr (u)))
  else
  (tp c1 u).bind fun (r1, u3) =>
  if r1 = 0 then
    some (.inr (.inl ((0 : Int32), u3)))
  else
  (am_loop (f_X6_takeEither_L20 te tp c1 x2) 2000 ((0 : Int32), u3)).bind fun e15 =>
  match e15 with
  | .inl q29 => some (.inr (.inl q29))
  | .inr u17 =>
    if x2 ≤ 0 then
      (f_X6_take (124 : Int32) u17).bind fun (r18, u20) =>
      if r18 = 0 then
        some (.inr (.inl ((1 : Int32), u20)))
      else
      some (.inl (x2 + (1 : Int32), u20))
    else
    match u17.2.2 0 with
    | none =>
      none
    | some p21 =>
      if p21 < 5 then
        (f_X3_addStep p21 (8 : Int32) (0 : Int32) (0 : Int32) u17).bind fun r24 =>
        (f_X6_take (124 : Int32) r24).bind fun (r26, u28) =>
        if r26 = 0 then
          some (.inr (.inl ((1 : Int32), u28)))
        else
        some (.inl (x2 + (1 : Int32), u28))
      else none
set_option maxHeartbeats 4000000 in
set_option maxRecDepth 20000 in
theorem K_X6_takeEither_L2 {l : Launch} {T : Option AV × List Key × AM} {de dp dd : Nat} (hde : de + 1 ≤ dd) (hdp : dp + 1 ≤ dd) (h10 : 10 ≤ dd) {te tp : RF} (hte : ∀ a u x, te a u = some x → Ev l mX6_takeEither de 0 0 false [vR (9, 0, 0), vI a] kC (en u) (some (vI x.1), kC, en x.2)) (htp : ∀ a u x, tp a u = some x → Ev l mX6_takePart dp 0 0 false [vR (9, 0, 0), vI a] kC (en u) (some (vI x.1), kC, en x.2))  {c1 : Int32} : ∀ (n : Nat) (s : Int32 × PM) (e0 : (Int32 × PM) ⊕ (PM)), am_loop (f_X6_takeEither_L2 te tp c1) n s = some e0 → Sum.elim (fun r : Int32 × PM => T = (some (vI r.1), kC, en r.2)) (fun e : PM => X l mX6_takeEither dd 0 0 false T kC 0 0 94 [none, none, none, none] [] (en e)) e0 → X l mX6_takeEither dd 0 0 false T kC 0 0 2 [some (vR (9, 0, 0)), some (vI c1), some (vI s.1), none] [] (en s.2) := by
  refine am_loop_of ?_
  intro s x hf k1 k2
  obtain ⟨x2 , u⟩ := s
  unfold f_X6_takeEither_L2 at hf
  show X l mX6_takeEither dd 0 0 false T kC 0 0 2 [some (vR (9, 0, 0)), some (vI c1), some (vI x2), none] [] (en u)
  refine r_iload_n (x := x2) dX6_takeEither_2 rfl ?_
  refine r_bipush (v := 100) dX6_takeEither_3 rfl ?_
  refine r_icmp_ge (tgt := 94) dX6_takeEither_5 (by decide) (fun hc => ?_) (fun hc => ?_)
  · have hf := (am_if hf).1 hc
    refine r_weak (L' := [none, none, none, none]) trivial ?_
    exact k2 (.inr (u)) (am_inj hf).symm
  · have hf := (am_if hf).2 hc
    refine r_aload_n (x := (9, 0, 0)) dX6_takeEither_8 rfl ?_
    refine r_iload_n (x := c1) dX6_takeEither_9 rfl ?_
    obtain ⟨⟨r1, u3⟩, hr2, hf⟩ := am_bind hf
    refine r_callV (as := [vI c1]) (st := []) (n := 1) mw_X6_92 mv_X6_takePart (htp _ _ _ hr2) (by omega) dX6_takeEither_10 (kC_mem (s := 9) (by decide) (by decide) (by decide)) rfl rfl rfl (le_b rfl) (le_b rfl) (le_b rfl) ?_
    show X l _ _ 0 0 false _ kC 0 0 13 [some (vR (9, 0, 0)), some (vI c1), some (vI x2), none] [vI r1] (en u3)
    refine r_if_ne (tgt := 18) dX6_takeEither_13 (by decide) (fun hc => ?_) (fun hc => ?_)
    · have hf := (am_if hf).2 hc
      refine r_iconst (v := 0) dX6_takeEither_18 rfl ?_
      refine r_istore_n (L' := [some (vR (9, 0, 0)), some (vI c1), some (vI x2), some (vI (0 : Int32))]) dX6_takeEither_19 (by decide) rfl ?_
      refine r_weak (L' := [some (vR (9, 0, 0)), some (vI c1), some (vI x2), some (vI (0 : Int32))]) (And.intro rfl (And.intro rfl (And.intro rfl (And.intro rfl trivial)))) ?_
      obtain ⟨e15, he16, hf⟩ := am_bind hf
      refine K_X6_takeEither_L20 hde hdp h10 hte htp  2000 ((0 : Int32), u3) _ he16 ?_
      rcases e15 with q29 | e15
      · exact k2 _ (am_inj hf).symm
      · obtain ⟨u17, rfl⟩ : ∃ z, z = e15 := ⟨_, rfl⟩
        show X l _ _ 0 0 false _ kC 0 0 62 [some (vR (9, 0, 0)), some (vI c1), some (vI x2), none] [] (en u17)
        refine r_iload_n (x := x2) dX6_takeEither_62 rfl ?_
        refine r_if_le (tgt := 77) dX6_takeEither_63 (by decide) (fun hc => ?_) (fun hc => ?_)
        · have hf := (am_if hf).1 hc
          refine r_aload_n (x := (9, 0, 0)) dX6_takeEither_77 rfl ?_
          refine r_bipush (v := 124) dX6_takeEither_78 rfl ?_
          obtain ⟨⟨r18, u20⟩, hr19, hf⟩ := am_bind hf
          refine r_callV (as := [vI (124 : Int32)]) (st := []) (n := 1) mw_X6_38 mv_X6_take (C_X6_take (l := l) hr19) (by omega) dX6_takeEither_80 (kC_mem (s := 9) (by decide) (by decide) (by decide)) rfl rfl rfl (le_b rfl) (le_b rfl) (le_b rfl) ?_
          show X l _ _ 0 0 false _ kC 0 0 83 [some (vR (9, 0, 0)), some (vI c1), some (vI x2), none] [vI r18] (en u20)
          refine r_if_ne (tgt := 88) dX6_takeEither_83 (by decide) (fun hc => ?_) (fun hc => ?_)
          · have hf := (am_if hf).2 hc
            refine r_iinc (x := x2) (v := x2 + (1 : Int32)) (L' := [some (vR (9, 0, 0)), some (vI c1), some (vI (x2 + (1 : Int32))), none]) dX6_takeEither_88 rfl rfl (lt_b rfl) rfl ?_
            refine r_goto (tgt := 2) dX6_takeEither_91 (by decide) ?_
            refine r_weak (L' := [some (vR (9, 0, 0)), some (vI c1), some (vI (x2 + (1 : Int32))), none]) (And.intro rfl (And.intro rfl (And.intro rfl trivial))) ?_
            exact k1 (x2 + (1 : Int32), u20) (am_inj hf).symm
          · have hf := (am_if hf).1 hc
            refine r_iconst (v := 1) dX6_takeEither_86 rfl ?_
            have hT := k2 _ (am_inj hf).symm
            replace hT : T = (some (vI (1 : Int32)), kC, en u20) := hT
            subst hT
            exact r_iret dX6_takeEither_87 rfl (am_bool (x := 1) (by decide)).1 (le_b rfl) (le_b rfl)
        · have hf := (am_if hf).2 hc
          refine r_aload_n (x := (9, 0, 0)) dX6_takeEither_66 rfl ?_
          cases he23 : u17.2.2 0 with
          | none =>
            rw [he23] at hf
            refine e_getr (z := none) fw_X6_22 dX6_takeEither_67 (kC_mem (s := 9) (by decide) (by decide) (by decide)) rfl (lt_b rfl) (by show Option.map _ (u17.2.2 0) = _; rw [he23]; rfl) ?_
            refine r_bipush (v := 8) dX6_takeEither_70 rfl ?_
            refine r_iconst (v := 0) dX6_takeEither_72 rfl ?_
            refine r_iconst (v := 0) dX6_takeEither_73 rfl ?_
            cases hf
          | some p21 =>
            rw [he23] at hf
            obtain ⟨h22, hf⟩ := am_chk hf
            refine e_getr (z := some (11, p21, 0)) fw_X6_22 dX6_takeEither_67 (kC_mem (s := 9) (by decide) (by decide) (by decide)) rfl (lt_b rfl) (by show Option.map _ (u17.2.2 0) = _; rw [he23]; rfl) ?_
            refine r_bipush (v := 8) dX6_takeEither_70 rfl ?_
            refine r_iconst (v := 0) dX6_takeEither_72 rfl ?_
            refine r_iconst (v := 0) dX6_takeEither_73 rfl ?_
            obtain ⟨r24, hr25, hf⟩ := am_bind hf
            refine r_callV (as := [vI (8 : Int32), vI (0 : Int32), vI (0 : Int32)]) (st := []) (n := 3) mw_X6_95 mv_X3_addStep (C_X3_addStep (l := l) h22 hr25) (by omega) dX6_takeEither_74 (kC_mem (s := 11) (by decide) h22 (by decide)) rfl rfl rfl (le_b rfl) (le_b rfl) (le_b rfl) ?_
            show X l _ _ 0 0 false _ kC 0 0 77 [some (vR (9, 0, 0)), some (vI c1), some (vI x2), none] [] (en r24)
            refine r_aload_n (x := (9, 0, 0)) dX6_takeEither_77 rfl ?_
            refine r_bipush (v := 124) dX6_takeEither_78 rfl ?_
            obtain ⟨⟨r26, u28⟩, hr27, hf⟩ := am_bind hf
            refine r_callV (as := [vI (124 : Int32)]) (st := []) (n := 1) mw_X6_38 mv_X6_take (C_X6_take (l := l) hr27) (by omega) dX6_takeEither_80 (kC_mem (s := 9) (by decide) (by decide) (by decide)) rfl rfl rfl (le_b rfl) (le_b rfl) (le_b rfl) ?_
            show X l _ _ 0 0 false _ kC 0 0 83 [some (vR (9, 0, 0)), some (vI c1), some (vI x2), none] [vI r26] (en u28)
            refine r_if_ne (tgt := 88) dX6_takeEither_83 (by decide) (fun hc => ?_) (fun hc => ?_)
            · have hf := (am_if hf).2 hc
              refine r_iinc (x := x2) (v := x2 + (1 : Int32)) (L' := [some (vR (9, 0, 0)), some (vI c1), some (vI (x2 + (1 : Int32))), none]) dX6_takeEither_88 rfl rfl (lt_b rfl) rfl ?_
              refine r_goto (tgt := 2) dX6_takeEither_91 (by decide) ?_
              refine r_weak (L' := [some (vR (9, 0, 0)), some (vI c1), some (vI (x2 + (1 : Int32))), none]) (And.intro rfl (And.intro rfl (And.intro rfl trivial))) ?_
              exact k1 (x2 + (1 : Int32), u28) (am_inj hf).symm
            · have hf := (am_if hf).1 hc
              refine r_iconst (v := 1) dX6_takeEither_86 rfl ?_
              have hT := k2 _ (am_inj hf).symm
              replace hT : T = (some (vI (1 : Int32)), kC, en u28) := hT
              subst hT
              exact r_iret dX6_takeEither_87 rfl (am_bool (x := 1) (by decide)).1 (le_b rfl) (le_b rfl)
    · have hf := (am_if hf).1 hc
      refine r_iconst (v := 0) dX6_takeEither_16 rfl ?_
      have hT := k2 _ (am_inj hf).symm
      replace hT : T = (some (vI (0 : Int32)), kC, en u3) := hT
      subst hT
      exact r_iret dX6_takeEither_17 rfl (am_bool (x := 0) (by decide)).1 (le_b rfl) (le_b rfl)
def f_X6_takeEither (te tp : RF)  (a0 : Int32) (u : PM) : Option (Int32 × PM) :=
  (am_loop (f_X6_takeEither_L2 te tp a0) 2000 ((0 : Int32), u)).bind fun e30 =>
  match e30 with
  | .inl q33 => some q33
  | .inr u32 =>
    some ((0 : Int32), u32)
set_option maxHeartbeats 4000000 in
set_option maxRecDepth 20000 in
theorem C_X6_takeEither {l : Launch} {de dp dd : Nat} (hde : de + 1 ≤ dd) (hdp : dp + 1 ≤ dd) (h10 : 10 ≤ dd) {te tp : RF} (hte : ∀ a u x, te a u = some x → Ev l mX6_takeEither de 0 0 false [vR (9, 0, 0), vI a] kC (en u) (some (vI x.1), kC, en x.2)) (htp : ∀ a u x, tp a u = some x → Ev l mX6_takePart dp 0 0 false [vR (9, 0, 0), vI a] kC (en u) (some (vI x.1), kC, en x.2))  {a0 : Int32} {u : PM} {x : Int32 × PM} (hf : f_X6_takeEither te tp a0 u = some x) : Ev l mX6_takeEither dd 0 0 false [vR (9, 0, 0), vI a0] kC (en u) (some (vI x.1), kC, en x.2) := by
  refine Ev_of (by decide +kernel) (le_b rfl) ?_
  unfold f_X6_takeEither at hf
  show X l mX6_takeEither dd 0 0 false _ kC 0 0 0 [some (vR (9, 0, 0)), some (vI a0), none, none] [] (en u)
  refine r_iconst (v := 0) dX6_takeEither_0 rfl ?_
  refine r_istore_n (L' := [some (vR (9, 0, 0)), some (vI a0), some (vI (0 : Int32)), none]) dX6_takeEither_1 (by decide) rfl ?_
  refine r_weak (L' := [some (vR (9, 0, 0)), some (vI a0), some (vI (0 : Int32)), none]) (And.intro rfl (And.intro rfl (And.intro rfl trivial))) ?_
  obtain ⟨e30, he31, hf⟩ := am_bind hf
  refine K_X6_takeEither_L2 hde hdp h10 hte htp  2000 ((0 : Int32), u) _ he31 ?_
  rcases e30 with q33 | e30
  · have hx := am_inj hf
    subst hx
    rfl
  · obtain ⟨u32, rfl⟩ : ∃ z, z = e30 := ⟨_, rfl⟩
    show X l _ _ 0 0 false _ kC 0 0 94 [none, none, none, none] [] (en u32)
    refine r_iconst (v := 0) dX6_takeEither_94 rfl ?_
    have hx := am_inj hf
    subst hx
    exact r_iret dX6_takeEither_95 rfl (am_bool (x := 0) (by decide)).1 (le_b rfl) (le_b rfl)
/-! FireFromFire$Reader.takePart -/
theorem dX6_takePart_0 : decode cX6_takePart 0 = .ok (.aload_n 0, 1) := by decide +kernel
theorem dX6_takePart_1 : decode cX6_takePart 1 = .ok (.invokevirtual 56, 3) := by decide +kernel
theorem dX6_takePart_4 : decode cX6_takePart 4 = .ok (.istore_n 2, 1) := by decide +kernel
theorem dX6_takePart_5 : decode cX6_takePart 5 = .ok (.iload_n 2, 1) := by decide +kernel
theorem dX6_takePart_6 : decode cX6_takePart 6 = .ok (.bipush 33, 2) := by decide +kernel
theorem dX6_takePart_8 : decode cX6_takePart 8 = .ok (.if_icmp .eq 15, 3) := by decide +kernel
theorem dX6_takePart_11 : decode cX6_takePart 11 = .ok (.iload_n 2, 1) := by decide +kernel
theorem dX6_takePart_12 : decode cX6_takePart 12 = .ok (.bipush 40, 2) := by decide +kernel
theorem dX6_takePart_14 : decode cX6_takePart 14 = .ok (.if_icmp .eq 9, 3) := by decide +kernel
theorem dX6_takePart_17 : decode cX6_takePart 17 = .ok (.aload_n 0, 1) := by decide +kernel
theorem dX6_takePart_18 : decode cX6_takePart 18 = .ok (.iload_n 2, 1) := by decide +kernel
theorem dX6_takePart_19 : decode cX6_takePart 19 = .ok (.invokevirtual 99, 3) := by decide +kernel
theorem dX6_takePart_22 : decode cX6_takePart 22 = .ok (.ireturn, 1) := by decide +kernel
theorem dX6_takePart_23 : decode cX6_takePart 23 = .ok (.iload_n 1, 1) := by decide +kernel
theorem dX6_takePart_24 : decode cX6_takePart 24 = .ok (.iconst 4, 1) := by decide +kernel
theorem dX6_takePart_25 : decode cX6_takePart 25 = .ok (.if_icmp .lt 5, 3) := by decide +kernel
theorem dX6_takePart_28 : decode cX6_takePart 28 = .ok (.iconst 0, 1) := by decide +kernel
theorem dX6_takePart_29 : decode cX6_takePart 29 = .ok (.ireturn, 1) := by decide +kernel
theorem dX6_takePart_30 : decode cX6_takePart 30 = .ok (.aload_n 0, 1) := by decide +kernel
theorem dX6_takePart_31 : decode cX6_takePart 31 = .ok (.dup, 1) := by decide +kernel
theorem dX6_takePart_32 : decode cX6_takePart 32 = .ok (.getfield 19, 3) := by decide +kernel
theorem dX6_takePart_35 : decode cX6_takePart 35 = .ok (.iconst 1, 1) := by decide +kernel
theorem dX6_takePart_36 : decode cX6_takePart 36 = .ok (.iadd, 1) := by decide +kernel
theorem dX6_takePart_37 : decode cX6_takePart 37 = .ok (.putfield 19, 3) := by decide +kernel
theorem dX6_takePart_40 : decode cX6_takePart 40 = .ok (.iload_n 2, 1) := by decide +kernel
theorem dX6_takePart_41 : decode cX6_takePart 41 = .ok (.bipush 40, 2) := by decide +kernel
theorem dX6_takePart_43 : decode cX6_takePart 43 = .ok (.if_icmp .ne 28, 3) := by decide +kernel
theorem dX6_takePart_46 : decode cX6_takePart 46 = .ok (.aload_n 0, 1) := by decide +kernel
theorem dX6_takePart_47 : decode cX6_takePart 47 = .ok (.iload_n 1, 1) := by decide +kernel
theorem dX6_takePart_48 : decode cX6_takePart 48 = .ok (.iconst 1, 1) := by decide +kernel
theorem dX6_takePart_49 : decode cX6_takePart 49 = .ok (.iadd, 1) := by decide +kernel
theorem dX6_takePart_50 : decode cX6_takePart 50 = .ok (.invokevirtual 49, 3) := by decide +kernel
theorem dX6_takePart_53 : decode cX6_takePart 53 = .ok (.ifCond .eq 16, 3) := by decide +kernel
theorem dX6_takePart_56 : decode cX6_takePart 56 = .ok (.aload_n 0, 1) := by decide +kernel
theorem dX6_takePart_57 : decode cX6_takePart 57 = .ok (.bipush 41, 2) := by decide +kernel
theorem dX6_takePart_59 : decode cX6_takePart 59 = .ok (.invokevirtual 38, 3) := by decide +kernel
theorem dX6_takePart_62 : decode cX6_takePart 62 = .ok (.ifCond .eq 7, 3) := by decide +kernel
theorem dX6_takePart_65 : decode cX6_takePart 65 = .ok (.iconst 1, 1) := by decide +kernel
theorem dX6_takePart_66 : decode cX6_takePart 66 = .ok (.goto 4, 3) := by decide +kernel
theorem dX6_takePart_69 : decode cX6_takePart 69 = .ok (.iconst 0, 1) := by decide +kernel
theorem dX6_takePart_70 : decode cX6_takePart 70 = .ok (.ireturn, 1) := by decide +kernel
theorem dX6_takePart_71 : decode cX6_takePart 71 = .ok (.aload_n 0, 1) := by decide +kernel
theorem dX6_takePart_72 : decode cX6_takePart 72 = .ok (.iload_n 1, 1) := by decide +kernel
theorem dX6_takePart_73 : decode cX6_takePart 73 = .ok (.iconst 1, 1) := by decide +kernel
theorem dX6_takePart_74 : decode cX6_takePart 74 = .ok (.iadd, 1) := by decide +kernel
theorem dX6_takePart_75 : decode cX6_takePart 75 = .ok (.invokevirtual 92, 3) := by decide +kernel
theorem dX6_takePart_78 : decode cX6_takePart 78 = .ok (.ifCond .ne 5, 3) := by decide +kernel
theorem dX6_takePart_81 : decode cX6_takePart 81 = .ok (.iconst 0, 1) := by decide +kernel
theorem dX6_takePart_82 : decode cX6_takePart 82 = .ok (.ireturn, 1) := by decide +kernel
theorem dX6_takePart_83 : decode cX6_takePart 83 = .ok (.aload_n 0, 1) := by decide +kernel
theorem dX6_takePart_84 : decode cX6_takePart 84 = .ok (.getfield 22, 3) := by decide +kernel
theorem dX6_takePart_87 : decode cX6_takePart 87 = .ok (.bipush 6, 2) := by decide +kernel
theorem dX6_takePart_89 : decode cX6_takePart 89 = .ok (.iconst 0, 1) := by decide +kernel
theorem dX6_takePart_90 : decode cX6_takePart 90 = .ok (.iconst 0, 1) := by decide +kernel
theorem dX6_takePart_91 : decode cX6_takePart 91 = .ok (.invokevirtual 95, 3) := by decide +kernel
theorem dX6_takePart_94 : decode cX6_takePart 94 = .ok (.iconst 1, 1) := by decide +kernel
theorem dX6_takePart_95 : decode cX6_takePart 95 = .ok (.ireturn, 1) := by decide +kernel
def f_X6_takePart (te tp : RF)  (a0 : Int32) (u : PM) : Option (Int32 × PM) :=
  (f_X6_sign u).bind fun r1 =>
  if r1 = (33 : Int32) then
    if a0 < (4 : Int32) then
      if r1 = (40 : Int32) then
        (te (a0 + (1 : Int32)) (pi u (9, 0, 0) 2 ((u.1 (9, 0, 0) 2) + (1 : Int32)))).bind fun (r11, u13) =>
        if r11 = 0 then
          some ((0 : Int32), u13)
        else
        (f_X6_take (41 : Int32) u13).bind fun (r14, u16) =>
        if r14 = 0 then
          some ((0 : Int32), u16)
        else
        some ((1 : Int32), u16)
      else
      (tp (a0 + (1 : Int32)) (pi u (9, 0, 0) 2 ((u.1 (9, 0, 0) 2) + (1 : Int32)))).bind fun (r3, u5) =>
      if r3 = 0 then
        some ((0 : Int32), u5)
      else
      match u5.2.2 0 with
      | none =>
        none
      | some p6 =>
        if p6 < 5 then
          (f_X3_addStep p6 (6 : Int32) (0 : Int32) (0 : Int32) u5).bind fun r9 =>
          some ((1 : Int32), r9)
        else none
    else
    some ((0 : Int32), u)
  else
  if r1 = (40 : Int32) then
    if a0 < (4 : Int32) then
      if r1 = (40 : Int32) then
        (te (a0 + (1 : Int32)) (pi u (9, 0, 0) 2 ((u.1 (9, 0, 0) 2) + (1 : Int32)))).bind fun (r25, u27) =>
        if r25 = 0 then
          some ((0 : Int32), u27)
        else
        (f_X6_take (41 : Int32) u27).bind fun (r28, u30) =>
        if r28 = 0 then
          some ((0 : Int32), u30)
        else
        some ((1 : Int32), u30)
      else
      (tp (a0 + (1 : Int32)) (pi u (9, 0, 0) 2 ((u.1 (9, 0, 0) 2) + (1 : Int32)))).bind fun (r17, u19) =>
      if r17 = 0 then
        some ((0 : Int32), u19)
      else
      match u19.2.2 0 with
      | none =>
        none
      | some p20 =>
        if p20 < 5 then
          (f_X3_addStep p20 (6 : Int32) (0 : Int32) (0 : Int32) u19).bind fun r23 =>
          some ((1 : Int32), r23)
        else none
    else
    some ((0 : Int32), u)
  else
  (f_X6_takeTest r1 u).bind fun (r31, u33) =>
  if r31 = 0 ∨ r31 = 1 then
    some (r31, u33)
  else none
set_option maxHeartbeats 4000000 in
set_option maxRecDepth 20000 in
theorem C_X6_takePart {l : Launch} {de dp dd : Nat} (hde : de + 1 ≤ dd) (hdp : dp + 1 ≤ dd) (h10 : 10 ≤ dd) {te tp : RF} (hte : ∀ a u x, te a u = some x → Ev l mX6_takeEither de 0 0 false [vR (9, 0, 0), vI a] kC (en u) (some (vI x.1), kC, en x.2)) (htp : ∀ a u x, tp a u = some x → Ev l mX6_takePart dp 0 0 false [vR (9, 0, 0), vI a] kC (en u) (some (vI x.1), kC, en x.2))  {a0 : Int32} {u : PM} {x : Int32 × PM} (hf : f_X6_takePart te tp a0 u = some x) : Ev l mX6_takePart dd 0 0 false [vR (9, 0, 0), vI a0] kC (en u) (some (vI x.1), kC, en x.2) := by
  refine Ev_of (by decide +kernel) (le_b rfl) ?_
  unfold f_X6_takePart at hf
  show X l mX6_takePart dd 0 0 false _ kC 0 0 0 [some (vR (9, 0, 0)), some (vI a0), none] [] (en u)
  refine r_aload_n (x := (9, 0, 0)) dX6_takePart_0 rfl ?_
  obtain ⟨r1, hr2, hf⟩ := am_bind hf
  refine r_callV (as := []) (st := []) (n := 0) mw_X6_56 mv_X6_sign (C_X6_sign (l := l) hr2) (by omega) dX6_takePart_1 (kC_mem (s := 9) (by decide) (by decide) (by decide)) rfl rfl rfl (le_b rfl) (le_b rfl) (le_b rfl) ?_
  show X l _ _ 0 0 false _ kC 0 0 4 [some (vR (9, 0, 0)), some (vI a0), none] [vI r1] (en u)
  refine r_istore_n (L' := [some (vR (9, 0, 0)), some (vI a0), some (vI r1)]) dX6_takePart_4 (by decide) rfl ?_
  refine r_iload_n (x := r1) dX6_takePart_5 rfl ?_
  refine r_bipush (v := 33) dX6_takePart_6 rfl ?_
  refine r_icmp_eq (tgt := 23) dX6_takePart_8 (by decide) (fun hc => ?_) (fun hc => ?_)
  · have hf := (am_if hf).1 hc
    refine r_iload_n (x := a0) dX6_takePart_23 rfl ?_
    refine r_iconst (v := 4) dX6_takePart_24 rfl ?_
    refine r_icmp_lt (tgt := 30) dX6_takePart_25 (by decide) (fun hc => ?_) (fun hc => ?_)
    · have hf := (am_if hf).1 hc
      refine r_aload_n (x := (9, 0, 0)) dX6_takePart_30 rfl ?_
      refine r_dup dX6_takePart_31 rfl ?_
      refine e_geti fw_X6_19 dX6_takePart_32 (kC_mem (s := 9) (by decide) (by decide) (by decide)) rfl (lt_b rfl) ?_
      refine r_iconst (v := 1) dX6_takePart_35 rfl ?_
      refine r_iadd dX6_takePart_36 ?_
      refine e_puti fp_X6_19 dX6_takePart_37 (kC_mem (s := 9) (by decide) (by decide) (by decide)) rfl (lt_b rfl) rfl rfl rfl ?_
      refine r_iload_n (x := r1) dX6_takePart_40 rfl ?_
      refine r_bipush (v := 40) dX6_takePart_41 rfl ?_
      refine r_icmp_ne (tgt := 71) dX6_takePart_43 (by decide) (fun hc => ?_) (fun hc => ?_)
      · have hf := (am_if hf).2 hc
        refine r_aload_n (x := (9, 0, 0)) dX6_takePart_71 rfl ?_
        refine r_iload_n (x := a0) dX6_takePart_72 rfl ?_
        refine r_iconst (v := 1) dX6_takePart_73 rfl ?_
        refine r_iadd dX6_takePart_74 ?_
        obtain ⟨⟨r3, u5⟩, hr4, hf⟩ := am_bind hf
        refine r_callV (as := [vI (a0 + (1 : Int32))]) (st := []) (n := 1) mw_X6_92 mv_X6_takePart (htp _ _ _ hr4) (by omega) dX6_takePart_75 (kC_mem (s := 9) (by decide) (by decide) (by decide)) rfl rfl rfl (le_b rfl) (le_b rfl) (le_b rfl) ?_
        show X l _ _ 0 0 false _ kC 0 0 78 [some (vR (9, 0, 0)), some (vI a0), some (vI r1)] [vI r3] (en u5)
        refine r_if_ne (tgt := 83) dX6_takePart_78 (by decide) (fun hc => ?_) (fun hc => ?_)
        · have hf := (am_if hf).2 hc
          refine r_aload_n (x := (9, 0, 0)) dX6_takePart_83 rfl ?_
          cases he8 : u5.2.2 0 with
          | none =>
            rw [he8] at hf
            refine e_getr (z := none) fw_X6_22 dX6_takePart_84 (kC_mem (s := 9) (by decide) (by decide) (by decide)) rfl (lt_b rfl) (by show Option.map _ (u5.2.2 0) = _; rw [he8]; rfl) ?_
            refine r_bipush (v := 6) dX6_takePart_87 rfl ?_
            refine r_iconst (v := 0) dX6_takePart_89 rfl ?_
            refine r_iconst (v := 0) dX6_takePart_90 rfl ?_
            cases hf
          | some p6 =>
            rw [he8] at hf
            obtain ⟨h7, hf⟩ := am_chk hf
            refine e_getr (z := some (11, p6, 0)) fw_X6_22 dX6_takePart_84 (kC_mem (s := 9) (by decide) (by decide) (by decide)) rfl (lt_b rfl) (by show Option.map _ (u5.2.2 0) = _; rw [he8]; rfl) ?_
            refine r_bipush (v := 6) dX6_takePart_87 rfl ?_
            refine r_iconst (v := 0) dX6_takePart_89 rfl ?_
            refine r_iconst (v := 0) dX6_takePart_90 rfl ?_
            obtain ⟨r9, hr10, hf⟩ := am_bind hf
            refine r_callV (as := [vI (6 : Int32), vI (0 : Int32), vI (0 : Int32)]) (st := []) (n := 3) mw_X6_95 mv_X3_addStep (C_X3_addStep (l := l) h7 hr10) (by omega) dX6_takePart_91 (kC_mem (s := 11) (by decide) h7 (by decide)) rfl rfl rfl (le_b rfl) (le_b rfl) (le_b rfl) ?_
            show X l _ _ 0 0 false _ kC 0 0 94 [some (vR (9, 0, 0)), some (vI a0), some (vI r1)] [] (en r9)
            refine r_iconst (v := 1) dX6_takePart_94 rfl ?_
            have hx := am_inj hf
            subst hx
            exact r_iret dX6_takePart_95 rfl (am_bool (x := 1) (by decide)).1 (le_b rfl) (le_b rfl)
        · have hf := (am_if hf).1 hc
          refine r_iconst (v := 0) dX6_takePart_81 rfl ?_
          have hx := am_inj hf
          subst hx
          exact r_iret dX6_takePart_82 rfl (am_bool (x := 0) (by decide)).1 (le_b rfl) (le_b rfl)
      · have hf := (am_if hf).1 hc
        refine r_aload_n (x := (9, 0, 0)) dX6_takePart_46 rfl ?_
        refine r_iload_n (x := a0) dX6_takePart_47 rfl ?_
        refine r_iconst (v := 1) dX6_takePart_48 rfl ?_
        refine r_iadd dX6_takePart_49 ?_
        obtain ⟨⟨r11, u13⟩, hr12, hf⟩ := am_bind hf
        refine r_callV (as := [vI (a0 + (1 : Int32))]) (st := []) (n := 1) mw_X6_49 mv_X6_takeEither (hte _ _ _ hr12) (by omega) dX6_takePart_50 (kC_mem (s := 9) (by decide) (by decide) (by decide)) rfl rfl rfl (le_b rfl) (le_b rfl) (le_b rfl) ?_
        show X l _ _ 0 0 false _ kC 0 0 53 [some (vR (9, 0, 0)), some (vI a0), some (vI r1)] [vI r11] (en u13)
        refine r_if_eq (tgt := 69) dX6_takePart_53 (by decide) (fun hc => ?_) (fun hc => ?_)
        · have hf := (am_if hf).1 hc
          refine r_iconst (v := 0) dX6_takePart_69 rfl ?_
          have hx := am_inj hf
          subst hx
          exact r_iret dX6_takePart_70 rfl (am_bool (x := 0) (by decide)).1 (le_b rfl) (le_b rfl)
        · have hf := (am_if hf).2 hc
          refine r_aload_n (x := (9, 0, 0)) dX6_takePart_56 rfl ?_
          refine r_bipush (v := 41) dX6_takePart_57 rfl ?_
          obtain ⟨⟨r14, u16⟩, hr15, hf⟩ := am_bind hf
          refine r_callV (as := [vI (41 : Int32)]) (st := []) (n := 1) mw_X6_38 mv_X6_take (C_X6_take (l := l) hr15) (by omega) dX6_takePart_59 (kC_mem (s := 9) (by decide) (by decide) (by decide)) rfl rfl rfl (le_b rfl) (le_b rfl) (le_b rfl) ?_
          show X l _ _ 0 0 false _ kC 0 0 62 [some (vR (9, 0, 0)), some (vI a0), some (vI r1)] [vI r14] (en u16)
          refine r_if_eq (tgt := 69) dX6_takePart_62 (by decide) (fun hc => ?_) (fun hc => ?_)
          · have hf := (am_if hf).1 hc
            refine r_iconst (v := 0) dX6_takePart_69 rfl ?_
            have hx := am_inj hf
            subst hx
            exact r_iret dX6_takePart_70 rfl (am_bool (x := 0) (by decide)).1 (le_b rfl) (le_b rfl)
          · have hf := (am_if hf).2 hc
            refine r_iconst (v := 1) dX6_takePart_65 rfl ?_
            refine r_goto (tgt := 70) dX6_takePart_66 (by decide) ?_
            have hx := am_inj hf
            subst hx
            exact r_iret dX6_takePart_70 rfl (am_bool (x := 1) (by decide)).1 (le_b rfl) (le_b rfl)
    · have hf := (am_if hf).2 hc
      refine r_iconst (v := 0) dX6_takePart_28 rfl ?_
      have hx := am_inj hf
      subst hx
      exact r_iret dX6_takePart_29 rfl (am_bool (x := 0) (by decide)).1 (le_b rfl) (le_b rfl)
  · have hf := (am_if hf).2 hc
    refine r_iload_n (x := r1) dX6_takePart_11 rfl ?_
    refine r_bipush (v := 40) dX6_takePart_12 rfl ?_
    refine r_icmp_eq (tgt := 23) dX6_takePart_14 (by decide) (fun hc => ?_) (fun hc => ?_)
    · have hf := (am_if hf).1 hc
      refine r_iload_n (x := a0) dX6_takePart_23 rfl ?_
      refine r_iconst (v := 4) dX6_takePart_24 rfl ?_
      refine r_icmp_lt (tgt := 30) dX6_takePart_25 (by decide) (fun hc => ?_) (fun hc => ?_)
      · have hf := (am_if hf).1 hc
        refine r_aload_n (x := (9, 0, 0)) dX6_takePart_30 rfl ?_
        refine r_dup dX6_takePart_31 rfl ?_
        refine e_geti fw_X6_19 dX6_takePart_32 (kC_mem (s := 9) (by decide) (by decide) (by decide)) rfl (lt_b rfl) ?_
        refine r_iconst (v := 1) dX6_takePart_35 rfl ?_
        refine r_iadd dX6_takePart_36 ?_
        refine e_puti fp_X6_19 dX6_takePart_37 (kC_mem (s := 9) (by decide) (by decide) (by decide)) rfl (lt_b rfl) rfl rfl rfl ?_
        refine r_iload_n (x := r1) dX6_takePart_40 rfl ?_
        refine r_bipush (v := 40) dX6_takePart_41 rfl ?_
        refine r_icmp_ne (tgt := 71) dX6_takePart_43 (by decide) (fun hc => ?_) (fun hc => ?_)
        · have hf := (am_if hf).2 hc
          refine r_aload_n (x := (9, 0, 0)) dX6_takePart_71 rfl ?_
          refine r_iload_n (x := a0) dX6_takePart_72 rfl ?_
          refine r_iconst (v := 1) dX6_takePart_73 rfl ?_
          refine r_iadd dX6_takePart_74 ?_
          obtain ⟨⟨r17, u19⟩, hr18, hf⟩ := am_bind hf
          refine r_callV (as := [vI (a0 + (1 : Int32))]) (st := []) (n := 1) mw_X6_92 mv_X6_takePart (htp _ _ _ hr18) (by omega) dX6_takePart_75 (kC_mem (s := 9) (by decide) (by decide) (by decide)) rfl rfl rfl (le_b rfl) (le_b rfl) (le_b rfl) ?_
          show X l _ _ 0 0 false _ kC 0 0 78 [some (vR (9, 0, 0)), some (vI a0), some (vI r1)] [vI r17] (en u19)
          refine r_if_ne (tgt := 83) dX6_takePart_78 (by decide) (fun hc => ?_) (fun hc => ?_)
          · have hf := (am_if hf).2 hc
            refine r_aload_n (x := (9, 0, 0)) dX6_takePart_83 rfl ?_
            cases he22 : u19.2.2 0 with
            | none =>
              rw [he22] at hf
              refine e_getr (z := none) fw_X6_22 dX6_takePart_84 (kC_mem (s := 9) (by decide) (by decide) (by decide)) rfl (lt_b rfl) (by show Option.map _ (u19.2.2 0) = _; rw [he22]; rfl) ?_
              refine r_bipush (v := 6) dX6_takePart_87 rfl ?_
              refine r_iconst (v := 0) dX6_takePart_89 rfl ?_
              refine r_iconst (v := 0) dX6_takePart_90 rfl ?_
              cases hf
            | some p20 =>
              rw [he22] at hf
              obtain ⟨h21, hf⟩ := am_chk hf
              refine e_getr (z := some (11, p20, 0)) fw_X6_22 dX6_takePart_84 (kC_mem (s := 9) (by decide) (by decide) (by decide)) rfl (lt_b rfl) (by show Option.map _ (u19.2.2 0) = _; rw [he22]; rfl) ?_
              refine r_bipush (v := 6) dX6_takePart_87 rfl ?_
              refine r_iconst (v := 0) dX6_takePart_89 rfl ?_
              refine r_iconst (v := 0) dX6_takePart_90 rfl ?_
              obtain ⟨r23, hr24, hf⟩ := am_bind hf
              refine r_callV (as := [vI (6 : Int32), vI (0 : Int32), vI (0 : Int32)]) (st := []) (n := 3) mw_X6_95 mv_X3_addStep (C_X3_addStep (l := l) h21 hr24) (by omega) dX6_takePart_91 (kC_mem (s := 11) (by decide) h21 (by decide)) rfl rfl rfl (le_b rfl) (le_b rfl) (le_b rfl) ?_
              show X l _ _ 0 0 false _ kC 0 0 94 [some (vR (9, 0, 0)), some (vI a0), some (vI r1)] [] (en r23)
              refine r_iconst (v := 1) dX6_takePart_94 rfl ?_
              have hx := am_inj hf
              subst hx
              exact r_iret dX6_takePart_95 rfl (am_bool (x := 1) (by decide)).1 (le_b rfl) (le_b rfl)
          · have hf := (am_if hf).1 hc
            refine r_iconst (v := 0) dX6_takePart_81 rfl ?_
            have hx := am_inj hf
            subst hx
            exact r_iret dX6_takePart_82 rfl (am_bool (x := 0) (by decide)).1 (le_b rfl) (le_b rfl)
        · have hf := (am_if hf).1 hc
          refine r_aload_n (x := (9, 0, 0)) dX6_takePart_46 rfl ?_
          refine r_iload_n (x := a0) dX6_takePart_47 rfl ?_
          refine r_iconst (v := 1) dX6_takePart_48 rfl ?_
          refine r_iadd dX6_takePart_49 ?_
          obtain ⟨⟨r25, u27⟩, hr26, hf⟩ := am_bind hf
          refine r_callV (as := [vI (a0 + (1 : Int32))]) (st := []) (n := 1) mw_X6_49 mv_X6_takeEither (hte _ _ _ hr26) (by omega) dX6_takePart_50 (kC_mem (s := 9) (by decide) (by decide) (by decide)) rfl rfl rfl (le_b rfl) (le_b rfl) (le_b rfl) ?_
          show X l _ _ 0 0 false _ kC 0 0 53 [some (vR (9, 0, 0)), some (vI a0), some (vI r1)] [vI r25] (en u27)
          refine r_if_eq (tgt := 69) dX6_takePart_53 (by decide) (fun hc => ?_) (fun hc => ?_)
          · have hf := (am_if hf).1 hc
            refine r_iconst (v := 0) dX6_takePart_69 rfl ?_
            have hx := am_inj hf
            subst hx
            exact r_iret dX6_takePart_70 rfl (am_bool (x := 0) (by decide)).1 (le_b rfl) (le_b rfl)
          · have hf := (am_if hf).2 hc
            refine r_aload_n (x := (9, 0, 0)) dX6_takePart_56 rfl ?_
            refine r_bipush (v := 41) dX6_takePart_57 rfl ?_
            obtain ⟨⟨r28, u30⟩, hr29, hf⟩ := am_bind hf
            refine r_callV (as := [vI (41 : Int32)]) (st := []) (n := 1) mw_X6_38 mv_X6_take (C_X6_take (l := l) hr29) (by omega) dX6_takePart_59 (kC_mem (s := 9) (by decide) (by decide) (by decide)) rfl rfl rfl (le_b rfl) (le_b rfl) (le_b rfl) ?_
            show X l _ _ 0 0 false _ kC 0 0 62 [some (vR (9, 0, 0)), some (vI a0), some (vI r1)] [vI r28] (en u30)
            refine r_if_eq (tgt := 69) dX6_takePart_62 (by decide) (fun hc => ?_) (fun hc => ?_)
            · have hf := (am_if hf).1 hc
              refine r_iconst (v := 0) dX6_takePart_69 rfl ?_
              have hx := am_inj hf
              subst hx
              exact r_iret dX6_takePart_70 rfl (am_bool (x := 0) (by decide)).1 (le_b rfl) (le_b rfl)
            · have hf := (am_if hf).2 hc
              refine r_iconst (v := 1) dX6_takePart_65 rfl ?_
              refine r_goto (tgt := 70) dX6_takePart_66 (by decide) ?_
              have hx := am_inj hf
              subst hx
              exact r_iret dX6_takePart_70 rfl (am_bool (x := 1) (by decide)).1 (le_b rfl) (le_b rfl)
      · have hf := (am_if hf).2 hc
        refine r_iconst (v := 0) dX6_takePart_28 rfl ?_
        have hx := am_inj hf
        subst hx
        exact r_iret dX6_takePart_29 rfl (am_bool (x := 0) (by decide)).1 (le_b rfl) (le_b rfl)
    · have hf := (am_if hf).2 hc
      refine r_aload_n (x := (9, 0, 0)) dX6_takePart_17 rfl ?_
      refine r_iload_n (x := r1) dX6_takePart_18 rfl ?_
      obtain ⟨⟨r31, u33⟩, hr32, hf⟩ := am_bind hf
      refine r_callV (as := [vI r1]) (st := []) (n := 1) mw_X6_99 mv_X6_takeTest (C_X6_takeTest (l := l) hr32) (by omega) dX6_takePart_19 (kC_mem (s := 9) (by decide) (by decide) (by decide)) rfl rfl rfl (le_b rfl) (le_b rfl) (le_b rfl) ?_
      show X l _ _ 0 0 false _ kC 0 0 22 [some (vR (9, 0, 0)), some (vI a0), some (vI r1)] [vI r31] (en u33)
      obtain ⟨h34, hf⟩ := am_chk hf
      have hx := am_inj hf
      subst hx
      exact r_iret dX6_takePart_22 rfl (am_bool h34).1 (le_b rfl) (le_b rfl)
def f_X6_P : Nat → RF
  | 0 => fun _ _ => none
  | n + 1 => fun a u => f_X6_takePart (fun a u => f_X6_takeEither (fun _ _ => none) (f_X6_P n) a u) (f_X6_P n) a u
theorem C_X6_P {l : Launch} : ∀ (n : Nat) (a : Int32) (u : PM) (x : Int32 × PM), f_X6_P n a u = some x → Ev l mX6_takePart (2 * n + 10) 0 0 false [vR (9, 0, 0), vI a] kC (en u) (some (vI x.1), kC, en x.2)
  | 0, a, u, x, h => by cases h
  | n + 1, a, u, x, h => C_X6_takePart (dd := 2 * (n + 1) + 10) (de := 2 * n + 11) (dp := 2 * n + 10) (by omega) (by omega) (by omega) (fun a u x h => C_X6_takeEither (dd := 2 * n + 11) (de := 0) (dp := 2 * n + 10) (by omega) (by omega) (by omega) (fun _ _ _ h => by cases h) (C_X6_P n) h) (C_X6_P n) h
def f_X6_E : RF := fun a u => f_X6_takeEither (fun _ _ => none) (f_X6_P 8) a u
theorem C_X6_E {l : Launch} {a0 : Int32} {u : PM} {x : Int32 × PM} (h : f_X6_E a0 u = some x) : Ev l mX6_takeEither 27 0 0 false [vR (9, 0, 0), vI a0] kC (en u) (some (vI x.1), kC, en x.2) := C_X6_takeEither (dd := 27) (de := 0) (dp := 26) (by omega) (by omega) (by omega) (fun _ _ _ h => by cases h) (C_X6_P 8) h
/-! FireFromFire$Reader.parse -/
theorem dX6_parse_0 : decode cX6_parse 0 = .ok (.aload_n 1, 1) := by decide +kernel
theorem dX6_parse_1 : decode cX6_parse 1 = .ok (.ifnonnull 5, 3) := by decide +kernel
theorem dX6_parse_4 : decode cX6_parse 4 = .ok (.iconst 0, 1) := by decide +kernel
theorem dX6_parse_5 : decode cX6_parse 5 = .ok (.ireturn, 1) := by decide +kernel
theorem dX6_parse_6 : decode cX6_parse 6 = .ok (.aload_n 0, 1) := by decide +kernel
theorem dX6_parse_7 : decode cX6_parse 7 = .ok (.aload_n 1, 1) := by decide +kernel
theorem dX6_parse_8 : decode cX6_parse 8 = .ok (.putfield 22, 3) := by decide +kernel
theorem dX6_parse_11 : decode cX6_parse 11 = .ok (.aload_n 0, 1) := by decide +kernel
theorem dX6_parse_12 : decode cX6_parse 12 = .ok (.getfield 22, 3) := by decide +kernel
theorem dX6_parse_15 : decode cX6_parse 15 = .ok (.iconst 0, 1) := by decide +kernel
theorem dX6_parse_16 : decode cX6_parse 16 = .ok (.putfield 26, 3) := by decide +kernel
theorem dX6_parse_19 : decode cX6_parse 19 = .ok (.aload_n 0, 1) := by decide +kernel
theorem dX6_parse_20 : decode cX6_parse 20 = .ok (.getfield 22, 3) := by decide +kernel
theorem dX6_parse_23 : decode cX6_parse 23 = .ok (.iconst 0, 1) := by decide +kernel
theorem dX6_parse_24 : decode cX6_parse 24 = .ok (.putfield 31, 3) := by decide +kernel
theorem dX6_parse_27 : decode cX6_parse 27 = .ok (.aload_n 0, 1) := by decide +kernel
theorem dX6_parse_28 : decode cX6_parse 28 = .ok (.iconst 0, 1) := by decide +kernel
theorem dX6_parse_29 : decode cX6_parse 29 = .ok (.putfield 19, 3) := by decide +kernel
theorem dX6_parse_32 : decode cX6_parse 32 = .ok (.iconst 1, 1) := by decide +kernel
theorem dX6_parse_33 : decode cX6_parse 33 = .ok (.istore_n 2, 1) := by decide +kernel
theorem dX6_parse_34 : decode cX6_parse 34 = .ok (.iload_n 2, 1) := by decide +kernel
theorem dX6_parse_35 : decode cX6_parse 35 = .ok (.bipush 10, 2) := by decide +kernel
theorem dX6_parse_37 : decode cX6_parse 37 = .ok (.if_icmp .gt 131, 3) := by decide +kernel
theorem dX6_parse_40 : decode cX6_parse 40 = .ok (.aload_n 0, 1) := by decide +kernel
theorem dX6_parse_41 : decode cX6_parse 41 = .ok (.invokevirtual 34, 3) := by decide +kernel
theorem dX6_parse_44 : decode cX6_parse 44 = .ok (.istore_n 3, 1) := by decide +kernel
theorem dX6_parse_45 : decode cX6_parse 45 = .ok (.iload_n 3, 1) := by decide +kernel
theorem dX6_parse_46 : decode cX6_parse 46 = .ok (.ifCond .lt 12, 3) := by decide +kernel
theorem dX6_parse_49 : decode cX6_parse 49 = .ok (.aload_n 0, 1) := by decide +kernel
theorem dX6_parse_50 : decode cX6_parse 50 = .ok (.bipush 32, 2) := by decide +kernel
theorem dX6_parse_52 : decode cX6_parse 52 = .ok (.invokevirtual 38, 3) := by decide +kernel
theorem dX6_parse_55 : decode cX6_parse 55 = .ok (.ifCond .ne 5, 3) := by decide +kernel
theorem dX6_parse_58 : decode cX6_parse 58 = .ok (.iconst 0, 1) := by decide +kernel
theorem dX6_parse_59 : decode cX6_parse 59 = .ok (.ireturn, 1) := by decide +kernel
theorem dX6_parse_60 : decode cX6_parse 60 = .ok (.iload_n 3, 1) := by decide +kernel
theorem dX6_parse_61 : decode cX6_parse 61 = .ok (.iconst 4, 1) := by decide +kernel
theorem dX6_parse_62 : decode cX6_parse 62 = .ok (.if_icmp .ne 12, 3) := by decide +kernel
theorem dX6_parse_65 : decode cX6_parse 65 = .ok (.aload_n 0, 1) := by decide +kernel
theorem dX6_parse_66 : decode cX6_parse 66 = .ok (.invokevirtual 42, 3) := by decide +kernel
theorem dX6_parse_69 : decode cX6_parse 69 = .ok (.ifCond .ne 63, 3) := by decide +kernel
theorem dX6_parse_72 : decode cX6_parse 72 = .ok (.iconst 0, 1) := by decide +kernel
theorem dX6_parse_73 : decode cX6_parse 73 = .ok (.ireturn, 1) := by decide +kernel
theorem dX6_parse_74 : decode cX6_parse 74 = .ok (.aload_n 0, 1) := by decide +kernel
theorem dX6_parse_75 : decode cX6_parse 75 = .ok (.getfield 22, 3) := by decide +kernel
theorem dX6_parse_78 : decode cX6_parse 78 = .ok (.getfield 31, 3) := by decide +kernel
theorem dX6_parse_81 : decode cX6_parse 81 = .ok (.istore 4, 2) := by decide +kernel
theorem dX6_parse_83 : decode cX6_parse 83 = .ok (.aload_n 0, 1) := by decide +kernel
theorem dX6_parse_84 : decode cX6_parse 84 = .ok (.invokevirtual 46, 3) := by decide +kernel
theorem dX6_parse_87 : decode cX6_parse 87 = .ok (.istore 5, 2) := by decide +kernel
theorem dX6_parse_89 : decode cX6_parse 89 = .ok (.iload 5, 2) := by decide +kernel
theorem dX6_parse_91 : decode cX6_parse 91 = .ok (.ifCond .lt 20, 3) := by decide +kernel
theorem dX6_parse_94 : decode cX6_parse 94 = .ok (.aload_n 0, 1) := by decide +kernel
theorem dX6_parse_95 : decode cX6_parse 95 = .ok (.bipush 32, 2) := by decide +kernel
theorem dX6_parse_97 : decode cX6_parse 97 = .ok (.invokevirtual 38, 3) := by decide +kernel
theorem dX6_parse_100 : decode cX6_parse 100 = .ok (.ifCond .eq 11, 3) := by decide +kernel
theorem dX6_parse_103 : decode cX6_parse 103 = .ok (.aload_n 0, 1) := by decide +kernel
theorem dX6_parse_104 : decode cX6_parse 104 = .ok (.iconst 0, 1) := by decide +kernel
theorem dX6_parse_105 : decode cX6_parse 105 = .ok (.invokevirtual 49, 3) := by decide +kernel
theorem dX6_parse_108 : decode cX6_parse 108 = .ok (.ifCond .ne 5, 3) := by decide +kernel
theorem dX6_parse_111 : decode cX6_parse 111 = .ok (.iconst 0, 1) := by decide +kernel
theorem dX6_parse_112 : decode cX6_parse 112 = .ok (.ireturn, 1) := by decide +kernel
theorem dX6_parse_113 : decode cX6_parse 113 = .ok (.aload_n 0, 1) := by decide +kernel
theorem dX6_parse_114 : decode cX6_parse 114 = .ok (.getfield 22, 3) := by decide +kernel
theorem dX6_parse_117 : decode cX6_parse 117 = .ok (.iload_n 3, 1) := by decide +kernel
theorem dX6_parse_118 : decode cX6_parse 118 = .ok (.iload 5, 2) := by decide +kernel
theorem dX6_parse_120 : decode cX6_parse 120 = .ok (.iload 4, 2) := by decide +kernel
theorem dX6_parse_122 : decode cX6_parse 122 = .ok (.aload_n 0, 1) := by decide +kernel
theorem dX6_parse_123 : decode cX6_parse 123 = .ok (.getfield 22, 3) := by decide +kernel
theorem dX6_parse_126 : decode cX6_parse 126 = .ok (.getfield 31, 3) := by decide +kernel
theorem dX6_parse_129 : decode cX6_parse 129 = .ok (.invokevirtual 52, 3) := by decide +kernel
theorem dX6_parse_132 : decode cX6_parse 132 = .ok (.aload_n 0, 1) := by decide +kernel
theorem dX6_parse_133 : decode cX6_parse 133 = .ok (.getfield 19, 3) := by decide +kernel
theorem dX6_parse_136 : decode cX6_parse 136 = .ok (.aload_n 0, 1) := by decide +kernel
theorem dX6_parse_137 : decode cX6_parse 137 = .ok (.getfield 15, 3) := by decide +kernel
theorem dX6_parse_140 : decode cX6_parse 140 = .ok (.if_icmp .lt 5, 3) := by decide +kernel
theorem dX6_parse_143 : decode cX6_parse 143 = .ok (.iconst 1, 1) := by decide +kernel
theorem dX6_parse_144 : decode cX6_parse 144 = .ok (.ireturn, 1) := by decide +kernel
theorem dX6_parse_145 : decode cX6_parse 145 = .ok (.iload_n 2, 1) := by decide +kernel
theorem dX6_parse_146 : decode cX6_parse 146 = .ok (.bipush 10, 2) := by decide +kernel
theorem dX6_parse_148 : decode cX6_parse 148 = .ok (.if_icmp .eq 12, 3) := by decide +kernel
theorem dX6_parse_151 : decode cX6_parse 151 = .ok (.aload_n 0, 1) := by decide +kernel
theorem dX6_parse_152 : decode cX6_parse 152 = .ok (.bipush 59, 2) := by decide +kernel
theorem dX6_parse_154 : decode cX6_parse 154 = .ok (.invokevirtual 38, 3) := by decide +kernel
theorem dX6_parse_157 : decode cX6_parse 157 = .ok (.ifCond .ne 5, 3) := by decide +kernel
theorem dX6_parse_160 : decode cX6_parse 160 = .ok (.iconst 0, 1) := by decide +kernel
theorem dX6_parse_161 : decode cX6_parse 161 = .ok (.ireturn, 1) := by decide +kernel
theorem dX6_parse_162 : decode cX6_parse 162 = .ok (.iinc 2 1, 3) := by decide +kernel
theorem dX6_parse_165 : decode cX6_parse 165 = .ok (.goto (-131), 3) := by decide +kernel
theorem dX6_parse_168 : decode cX6_parse 168 = .ok (.iconst 0, 1) := by decide +kernel
theorem dX6_parse_169 : decode cX6_parse 169 = .ok (.ireturn, 1) := by decide +kernel
def f_X6_parse_L34   : Int32 × PM → Option ((Int32 × PM) ⊕ ((Int32 × PM) ⊕ (PM))) := fun (x2 , u) =>
  if (10 : Int32) < x2 then
    some (.inr (.inr (u)))
  else
  (f_X6_takeWord u).bind fun (r1, u3) =>
  if r1 < 0 then
    some (.inr (.inl ((0 : Int32), u3)))
  else
  (f_X6_take (32 : Int32) u3).bind fun (r4, u6) =>
  if r4 = 0 then
    some (.inr (.inl ((0 : Int32), u6)))
  else
  if r1 = (4 : Int32) then
    (f_X6_takeNext u6).bind fun (r27, u29) =>
    if r27 = 0 then
      some (.inr (.inl ((0 : Int32), u29)))
    else
    if (u29.1 (9, 0, 0) 2) < (u29.1 (9, 0, 0) 1) then
      if x2 = (10 : Int32) then
        some (.inr (.inl ((0 : Int32), u29)))
      else
      (f_X6_take (59 : Int32) u29).bind fun (r30, u32) =>
      if r30 = 0 then
        some (.inr (.inl ((0 : Int32), u32)))
      else
      some (.inl (x2 + (1 : Int32), u32))
    else
    some (.inr (.inl ((1 : Int32), u29)))
  else
  match u6.2.2 0 with
  | none =>
    none
  | some p7 =>
    if p7 < 5 then
      (f_X6_takeNumber u6).bind fun (r10, u12) =>
      if r10 < 0 then
        some (.inr (.inl ((0 : Int32), u12)))
      else
      (f_X6_take (32 : Int32) u12).bind fun (r13, u15) =>
      if r13 = 0 then
        some (.inr (.inl ((0 : Int32), u15)))
      else
      (f_X6_E (0 : Int32) u15).bind fun (r16, u18) =>
      if r16 = 0 then
        some (.inr (.inl ((0 : Int32), u18)))
      else
      match u18.2.2 0 with
      | none =>
        none
      | some p19 =>
        if p19 < 5 then
          (f_X3_addClause p19 r1 r10 (u6.1 (11, p7, 0) 1) (u18.1 (11, p19, 0) 1) u18).bind fun r22 =>
          if (r22.1 (9, 0, 0) 2) < (r22.1 (9, 0, 0) 1) then
            if x2 = (10 : Int32) then
              some (.inr (.inl ((0 : Int32), r22)))
            else
            (f_X6_take (59 : Int32) r22).bind fun (r24, u26) =>
            if r24 = 0 then
              some (.inr (.inl ((0 : Int32), u26)))
            else
            some (.inl (x2 + (1 : Int32), u26))
          else
          some (.inr (.inl ((1 : Int32), r22)))
        else none
    else none
set_option maxHeartbeats 4000000 in
set_option maxRecDepth 20000 in
theorem K_X6_parse_L34 {l : Launch} {T : Option AV × List Key × AM}   : ∀ (n : Nat) (s : Int32 × PM) (e0 : (Int32 × PM) ⊕ (PM)), am_loop (f_X6_parse_L34) n s = some e0 → Sum.elim (fun r : Int32 × PM => T = (some (vI r.1), kC, en r.2)) (fun e : PM => X l mX6_parse 28 0 0 false T kC 0 0 168 [none, none, none, none, none, none] [] (en e)) e0 → X l mX6_parse 28 0 0 false T kC 0 0 34 [some (vR (9, 0, 0)), none, some (vI s.1), none, none, none] [] (en s.2) := by
  refine am_loop_of ?_
  intro s x hf k1 k2
  obtain ⟨x2 , u⟩ := s
  unfold f_X6_parse_L34 at hf
  show X l mX6_parse 28 0 0 false T kC 0 0 34 [some (vR (9, 0, 0)), none, some (vI x2), none, none, none] [] (en u)
  refine r_iload_n (x := x2) dX6_parse_34 rfl ?_
  refine r_bipush (v := 10) dX6_parse_35 rfl ?_
  refine r_icmp_gt (tgt := 168) dX6_parse_37 (by decide) (fun hc => ?_) (fun hc => ?_)
  · have hf := (am_if hf).1 hc
    refine r_weak (L' := [none, none, none, none, none, none]) trivial ?_
    exact k2 (.inr (u)) (am_inj hf).symm
  · have hf := (am_if hf).2 hc
    refine r_aload_n (x := (9, 0, 0)) dX6_parse_40 rfl ?_
    obtain ⟨⟨r1, u3⟩, hr2, hf⟩ := am_bind hf
    refine r_callV (as := []) (st := []) (n := 0) mw_X6_34 mv_X6_takeWord (C_X6_takeWord (l := l) hr2) (le_b rfl) dX6_parse_41 (kC_mem (s := 9) (by decide) (by decide) (by decide)) rfl rfl rfl (le_b rfl) (le_b rfl) (le_b rfl) ?_
    show X l _ _ 0 0 false _ kC 0 0 44 [some (vR (9, 0, 0)), none, some (vI x2), none, none, none] [vI r1] (en u3)
    refine r_istore_n (L' := [some (vR (9, 0, 0)), none, some (vI x2), some (vI r1), none, none]) dX6_parse_44 (by decide) rfl ?_
    refine r_iload_n (x := r1) dX6_parse_45 rfl ?_
    refine r_if_lt (tgt := 58) dX6_parse_46 (by decide) (fun hc => ?_) (fun hc => ?_)
    · have hf := (am_if hf).1 hc
      refine r_iconst (v := 0) dX6_parse_58 rfl ?_
      have hT := k2 _ (am_inj hf).symm
      replace hT : T = (some (vI (0 : Int32)), kC, en u3) := hT
      subst hT
      exact r_iret dX6_parse_59 rfl (am_bool (x := 0) (by decide)).1 (le_b rfl) (le_b rfl)
    · have hf := (am_if hf).2 hc
      refine r_aload_n (x := (9, 0, 0)) dX6_parse_49 rfl ?_
      refine r_bipush (v := 32) dX6_parse_50 rfl ?_
      obtain ⟨⟨r4, u6⟩, hr5, hf⟩ := am_bind hf
      refine r_callV (as := [vI (32 : Int32)]) (st := []) (n := 1) mw_X6_38 mv_X6_take (C_X6_take (l := l) hr5) (le_b rfl) dX6_parse_52 (kC_mem (s := 9) (by decide) (by decide) (by decide)) rfl rfl rfl (le_b rfl) (le_b rfl) (le_b rfl) ?_
      show X l _ _ 0 0 false _ kC 0 0 55 [some (vR (9, 0, 0)), none, some (vI x2), some (vI r1), none, none] [vI r4] (en u6)
      refine r_if_ne (tgt := 60) dX6_parse_55 (by decide) (fun hc => ?_) (fun hc => ?_)
      · have hf := (am_if hf).2 hc
        refine r_iload_n (x := r1) dX6_parse_60 rfl ?_
        refine r_iconst (v := 4) dX6_parse_61 rfl ?_
        refine r_icmp_ne (tgt := 74) dX6_parse_62 (by decide) (fun hc => ?_) (fun hc => ?_)
        · have hf := (am_if hf).2 hc
          refine r_aload_n (x := (9, 0, 0)) dX6_parse_74 rfl ?_
          cases he9 : u6.2.2 0 with
          | none =>
            rw [he9] at hf
            refine e_getr (z := none) fw_X6_22 dX6_parse_75 (kC_mem (s := 9) (by decide) (by decide) (by decide)) rfl (lt_b rfl) (by show Option.map _ (u6.2.2 0) = _; rw [he9]; rfl) ?_
            cases hf
          | some p7 =>
            rw [he9] at hf
            obtain ⟨h8, hf⟩ := am_chk hf
            refine e_getr (z := some (11, p7, 0)) fw_X6_22 dX6_parse_75 (kC_mem (s := 9) (by decide) (by decide) (by decide)) rfl (lt_b rfl) (by show Option.map _ (u6.2.2 0) = _; rw [he9]; rfl) ?_
            refine e_geti fw_X6_31 dX6_parse_78 (kC_mem (s := 11) (by decide) h8 (by decide)) rfl (lt_b rfl) ?_
            refine r_istore (L' := [some (vR (9, 0, 0)), none, some (vI x2), some (vI r1), some (vI (u6.1 (11, p7, 0) 1)), none]) dX6_parse_81 (by decide) rfl ?_
            refine r_aload_n (x := (9, 0, 0)) dX6_parse_83 rfl ?_
            obtain ⟨⟨r10, u12⟩, hr11, hf⟩ := am_bind hf
            refine r_callV (as := []) (st := []) (n := 0) mw_X6_46 mv_X6_takeNumber (C_X6_takeNumber (l := l) hr11) (le_b rfl) dX6_parse_84 (kC_mem (s := 9) (by decide) (by decide) (by decide)) rfl rfl rfl (le_b rfl) (le_b rfl) (le_b rfl) ?_
            show X l _ _ 0 0 false _ kC 0 0 87 [some (vR (9, 0, 0)), none, some (vI x2), some (vI r1), some (vI (u6.1 (11, p7, 0) 1)), none] [vI r10] (en u12)
            refine r_istore (L' := [some (vR (9, 0, 0)), none, some (vI x2), some (vI r1), some (vI (u6.1 (11, p7, 0) 1)), some (vI r10)]) dX6_parse_87 (by decide) rfl ?_
            refine r_iload (x := r10) dX6_parse_89 rfl ?_
            refine r_if_lt (tgt := 111) dX6_parse_91 (by decide) (fun hc => ?_) (fun hc => ?_)
            · have hf := (am_if hf).1 hc
              refine r_iconst (v := 0) dX6_parse_111 rfl ?_
              have hT := k2 _ (am_inj hf).symm
              replace hT : T = (some (vI (0 : Int32)), kC, en u12) := hT
              subst hT
              exact r_iret dX6_parse_112 rfl (am_bool (x := 0) (by decide)).1 (le_b rfl) (le_b rfl)
            · have hf := (am_if hf).2 hc
              refine r_aload_n (x := (9, 0, 0)) dX6_parse_94 rfl ?_
              refine r_bipush (v := 32) dX6_parse_95 rfl ?_
              obtain ⟨⟨r13, u15⟩, hr14, hf⟩ := am_bind hf
              refine r_callV (as := [vI (32 : Int32)]) (st := []) (n := 1) mw_X6_38 mv_X6_take (C_X6_take (l := l) hr14) (le_b rfl) dX6_parse_97 (kC_mem (s := 9) (by decide) (by decide) (by decide)) rfl rfl rfl (le_b rfl) (le_b rfl) (le_b rfl) ?_
              show X l _ _ 0 0 false _ kC 0 0 100 [some (vR (9, 0, 0)), none, some (vI x2), some (vI r1), some (vI (u6.1 (11, p7, 0) 1)), some (vI r10)] [vI r13] (en u15)
              refine r_if_eq (tgt := 111) dX6_parse_100 (by decide) (fun hc => ?_) (fun hc => ?_)
              · have hf := (am_if hf).1 hc
                refine r_iconst (v := 0) dX6_parse_111 rfl ?_
                have hT := k2 _ (am_inj hf).symm
                replace hT : T = (some (vI (0 : Int32)), kC, en u15) := hT
                subst hT
                exact r_iret dX6_parse_112 rfl (am_bool (x := 0) (by decide)).1 (le_b rfl) (le_b rfl)
              · have hf := (am_if hf).2 hc
                refine r_aload_n (x := (9, 0, 0)) dX6_parse_103 rfl ?_
                refine r_iconst (v := 0) dX6_parse_104 rfl ?_
                obtain ⟨⟨r16, u18⟩, hr17, hf⟩ := am_bind hf
                refine r_callV (as := [vI (0 : Int32)]) (st := []) (n := 1) mw_X6_49 mv_X6_takeEither (C_X6_E (l := l) hr17) (le_b rfl) dX6_parse_105 (kC_mem (s := 9) (by decide) (by decide) (by decide)) rfl rfl rfl (le_b rfl) (le_b rfl) (le_b rfl) ?_
                show X l _ _ 0 0 false _ kC 0 0 108 [some (vR (9, 0, 0)), none, some (vI x2), some (vI r1), some (vI (u6.1 (11, p7, 0) 1)), some (vI r10)] [vI r16] (en u18)
                refine r_if_ne (tgt := 113) dX6_parse_108 (by decide) (fun hc => ?_) (fun hc => ?_)
                · have hf := (am_if hf).2 hc
                  refine r_aload_n (x := (9, 0, 0)) dX6_parse_113 rfl ?_
                  cases he21 : u18.2.2 0 with
                  | none =>
                    rw [he21] at hf
                    refine e_getr (z := none) fw_X6_22 dX6_parse_114 (kC_mem (s := 9) (by decide) (by decide) (by decide)) rfl (lt_b rfl) (by show Option.map _ (u18.2.2 0) = _; rw [he21]; rfl) ?_
                    refine r_iload_n (x := r1) dX6_parse_117 rfl ?_
                    refine r_iload (x := r10) dX6_parse_118 rfl ?_
                    refine r_iload (x := u6.1 (11, p7, 0) 1) dX6_parse_120 rfl ?_
                    refine r_aload_n (x := (9, 0, 0)) dX6_parse_122 rfl ?_
                    refine e_getr (z := none) fw_X6_22 dX6_parse_123 (kC_mem (s := 9) (by decide) (by decide) (by decide)) rfl (lt_b rfl) (by show Option.map _ (u18.2.2 0) = _; rw [he21]; rfl) ?_
                    cases hf
                  | some p19 =>
                    rw [he21] at hf
                    obtain ⟨h20, hf⟩ := am_chk hf
                    refine e_getr (z := some (11, p19, 0)) fw_X6_22 dX6_parse_114 (kC_mem (s := 9) (by decide) (by decide) (by decide)) rfl (lt_b rfl) (by show Option.map _ (u18.2.2 0) = _; rw [he21]; rfl) ?_
                    refine r_iload_n (x := r1) dX6_parse_117 rfl ?_
                    refine r_iload (x := r10) dX6_parse_118 rfl ?_
                    refine r_iload (x := u6.1 (11, p7, 0) 1) dX6_parse_120 rfl ?_
                    refine r_aload_n (x := (9, 0, 0)) dX6_parse_122 rfl ?_
                    refine e_getr (z := some (11, p19, 0)) fw_X6_22 dX6_parse_123 (kC_mem (s := 9) (by decide) (by decide) (by decide)) rfl (lt_b rfl) (by show Option.map _ (u18.2.2 0) = _; rw [he21]; rfl) ?_
                    refine e_geti fw_X6_31 dX6_parse_126 (kC_mem (s := 11) (by decide) h20 (by decide)) rfl (lt_b rfl) ?_
                    obtain ⟨r22, hr23, hf⟩ := am_bind hf
                    refine r_callV (as := [vI r1, vI r10, vI (u6.1 (11, p7, 0) 1), vI (u18.1 (11, p19, 0) 1)]) (st := []) (n := 4) mw_X6_52 mv_X3_addClause (C_X3_addClause (l := l) h20 hr23) (le_b rfl) dX6_parse_129 (kC_mem (s := 11) (by decide) h20 (by decide)) rfl rfl rfl (le_b rfl) (le_b rfl) (le_b rfl) ?_
                    show X l _ _ 0 0 false _ kC 0 0 132 [some (vR (9, 0, 0)), none, some (vI x2), some (vI r1), some (vI (u6.1 (11, p7, 0) 1)), some (vI r10)] [] (en r22)
                    refine r_aload_n (x := (9, 0, 0)) dX6_parse_132 rfl ?_
                    refine e_geti fw_X6_19 dX6_parse_133 (kC_mem (s := 9) (by decide) (by decide) (by decide)) rfl (lt_b rfl) ?_
                    refine r_aload_n (x := (9, 0, 0)) dX6_parse_136 rfl ?_
                    refine e_geti fw_X6_15 dX6_parse_137 (kC_mem (s := 9) (by decide) (by decide) (by decide)) rfl (lt_b rfl) ?_
                    refine r_icmp_lt (tgt := 145) dX6_parse_140 (by decide) (fun hc => ?_) (fun hc => ?_)
                    · have hf := (am_if hf).1 hc
                      refine r_iload_n (x := x2) dX6_parse_145 rfl ?_
                      refine r_bipush (v := 10) dX6_parse_146 rfl ?_
                      refine r_icmp_eq (tgt := 160) dX6_parse_148 (by decide) (fun hc => ?_) (fun hc => ?_)
                      · have hf := (am_if hf).1 hc
                        refine r_iconst (v := 0) dX6_parse_160 rfl ?_
                        have hT := k2 _ (am_inj hf).symm
                        replace hT : T = (some (vI (0 : Int32)), kC, en r22) := hT
                        subst hT
                        exact r_iret dX6_parse_161 rfl (am_bool (x := 0) (by decide)).1 (le_b rfl) (le_b rfl)
                      · have hf := (am_if hf).2 hc
                        refine r_aload_n (x := (9, 0, 0)) dX6_parse_151 rfl ?_
                        refine r_bipush (v := 59) dX6_parse_152 rfl ?_
                        obtain ⟨⟨r24, u26⟩, hr25, hf⟩ := am_bind hf
                        refine r_callV (as := [vI (59 : Int32)]) (st := []) (n := 1) mw_X6_38 mv_X6_take (C_X6_take (l := l) hr25) (le_b rfl) dX6_parse_154 (kC_mem (s := 9) (by decide) (by decide) (by decide)) rfl rfl rfl (le_b rfl) (le_b rfl) (le_b rfl) ?_
                        show X l _ _ 0 0 false _ kC 0 0 157 [some (vR (9, 0, 0)), none, some (vI x2), some (vI r1), some (vI (u6.1 (11, p7, 0) 1)), some (vI r10)] [vI r24] (en u26)
                        refine r_if_ne (tgt := 162) dX6_parse_157 (by decide) (fun hc => ?_) (fun hc => ?_)
                        · have hf := (am_if hf).2 hc
                          refine r_iinc (x := x2) (v := x2 + (1 : Int32)) (L' := [some (vR (9, 0, 0)), none, some (vI (x2 + (1 : Int32))), some (vI r1), some (vI (u6.1 (11, p7, 0) 1)), some (vI r10)]) dX6_parse_162 rfl rfl (lt_b rfl) rfl ?_
                          refine r_goto (tgt := 34) dX6_parse_165 (by decide) ?_
                          refine r_weak (L' := [some (vR (9, 0, 0)), none, some (vI (x2 + (1 : Int32))), none, none, none]) (And.intro rfl (And.intro rfl trivial)) ?_
                          exact k1 (x2 + (1 : Int32), u26) (am_inj hf).symm
                        · have hf := (am_if hf).1 hc
                          refine r_iconst (v := 0) dX6_parse_160 rfl ?_
                          have hT := k2 _ (am_inj hf).symm
                          replace hT : T = (some (vI (0 : Int32)), kC, en u26) := hT
                          subst hT
                          exact r_iret dX6_parse_161 rfl (am_bool (x := 0) (by decide)).1 (le_b rfl) (le_b rfl)
                    · have hf := (am_if hf).2 hc
                      refine r_iconst (v := 1) dX6_parse_143 rfl ?_
                      have hT := k2 _ (am_inj hf).symm
                      replace hT : T = (some (vI (1 : Int32)), kC, en r22) := hT
                      subst hT
                      exact r_iret dX6_parse_144 rfl (am_bool (x := 1) (by decide)).1 (le_b rfl) (le_b rfl)
                · have hf := (am_if hf).1 hc
                  refine r_iconst (v := 0) dX6_parse_111 rfl ?_
                  have hT := k2 _ (am_inj hf).symm
                  replace hT : T = (some (vI (0 : Int32)), kC, en u18) := hT
                  subst hT
                  exact r_iret dX6_parse_112 rfl (am_bool (x := 0) (by decide)).1 (le_b rfl) (le_b rfl)
        · have hf := (am_if hf).1 hc
          refine r_aload_n (x := (9, 0, 0)) dX6_parse_65 rfl ?_
          obtain ⟨⟨r27, u29⟩, hr28, hf⟩ := am_bind hf
          refine r_callV (as := []) (st := []) (n := 0) mw_X6_42 mv_X6_takeNext (C_X6_takeNext (l := l) hr28) (le_b rfl) dX6_parse_66 (kC_mem (s := 9) (by decide) (by decide) (by decide)) rfl rfl rfl (le_b rfl) (le_b rfl) (le_b rfl) ?_
          show X l _ _ 0 0 false _ kC 0 0 69 [some (vR (9, 0, 0)), none, some (vI x2), some (vI r1), none, none] [vI r27] (en u29)
          refine r_if_ne (tgt := 132) dX6_parse_69 (by decide) (fun hc => ?_) (fun hc => ?_)
          · have hf := (am_if hf).2 hc
            refine r_aload_n (x := (9, 0, 0)) dX6_parse_132 rfl ?_
            refine e_geti fw_X6_19 dX6_parse_133 (kC_mem (s := 9) (by decide) (by decide) (by decide)) rfl (lt_b rfl) ?_
            refine r_aload_n (x := (9, 0, 0)) dX6_parse_136 rfl ?_
            refine e_geti fw_X6_15 dX6_parse_137 (kC_mem (s := 9) (by decide) (by decide) (by decide)) rfl (lt_b rfl) ?_
            refine r_icmp_lt (tgt := 145) dX6_parse_140 (by decide) (fun hc => ?_) (fun hc => ?_)
            · have hf := (am_if hf).1 hc
              refine r_iload_n (x := x2) dX6_parse_145 rfl ?_
              refine r_bipush (v := 10) dX6_parse_146 rfl ?_
              refine r_icmp_eq (tgt := 160) dX6_parse_148 (by decide) (fun hc => ?_) (fun hc => ?_)
              · have hf := (am_if hf).1 hc
                refine r_iconst (v := 0) dX6_parse_160 rfl ?_
                have hT := k2 _ (am_inj hf).symm
                replace hT : T = (some (vI (0 : Int32)), kC, en u29) := hT
                subst hT
                exact r_iret dX6_parse_161 rfl (am_bool (x := 0) (by decide)).1 (le_b rfl) (le_b rfl)
              · have hf := (am_if hf).2 hc
                refine r_aload_n (x := (9, 0, 0)) dX6_parse_151 rfl ?_
                refine r_bipush (v := 59) dX6_parse_152 rfl ?_
                obtain ⟨⟨r30, u32⟩, hr31, hf⟩ := am_bind hf
                refine r_callV (as := [vI (59 : Int32)]) (st := []) (n := 1) mw_X6_38 mv_X6_take (C_X6_take (l := l) hr31) (le_b rfl) dX6_parse_154 (kC_mem (s := 9) (by decide) (by decide) (by decide)) rfl rfl rfl (le_b rfl) (le_b rfl) (le_b rfl) ?_
                show X l _ _ 0 0 false _ kC 0 0 157 [some (vR (9, 0, 0)), none, some (vI x2), some (vI r1), none, none] [vI r30] (en u32)
                refine r_if_ne (tgt := 162) dX6_parse_157 (by decide) (fun hc => ?_) (fun hc => ?_)
                · have hf := (am_if hf).2 hc
                  refine r_iinc (x := x2) (v := x2 + (1 : Int32)) (L' := [some (vR (9, 0, 0)), none, some (vI (x2 + (1 : Int32))), some (vI r1), none, none]) dX6_parse_162 rfl rfl (lt_b rfl) rfl ?_
                  refine r_goto (tgt := 34) dX6_parse_165 (by decide) ?_
                  refine r_weak (L' := [some (vR (9, 0, 0)), none, some (vI (x2 + (1 : Int32))), none, none, none]) (And.intro rfl (And.intro rfl trivial)) ?_
                  exact k1 (x2 + (1 : Int32), u32) (am_inj hf).symm
                · have hf := (am_if hf).1 hc
                  refine r_iconst (v := 0) dX6_parse_160 rfl ?_
                  have hT := k2 _ (am_inj hf).symm
                  replace hT : T = (some (vI (0 : Int32)), kC, en u32) := hT
                  subst hT
                  exact r_iret dX6_parse_161 rfl (am_bool (x := 0) (by decide)).1 (le_b rfl) (le_b rfl)
            · have hf := (am_if hf).2 hc
              refine r_iconst (v := 1) dX6_parse_143 rfl ?_
              have hT := k2 _ (am_inj hf).symm
              replace hT : T = (some (vI (1 : Int32)), kC, en u29) := hT
              subst hT
              exact r_iret dX6_parse_144 rfl (am_bool (x := 1) (by decide)).1 (le_b rfl) (le_b rfl)
          · have hf := (am_if hf).1 hc
            refine r_iconst (v := 0) dX6_parse_72 rfl ?_
            have hT := k2 _ (am_inj hf).symm
            replace hT : T = (some (vI (0 : Int32)), kC, en u29) := hT
            subst hT
            exact r_iret dX6_parse_73 rfl (am_bool (x := 0) (by decide)).1 (le_b rfl) (le_b rfl)
      · have hf := (am_if hf).1 hc
        refine r_iconst (v := 0) dX6_parse_58 rfl ?_
        have hT := k2 _ (am_inj hf).symm
        replace hT : T = (some (vI (0 : Int32)), kC, en u6) := hT
        subst hT
        exact r_iret dX6_parse_59 rfl (am_bool (x := 0) (by decide)).1 (le_b rfl) (le_b rfl)
def f_X6_parse (w : Nat)  (u : PM) : Option (Int32 × PM) :=
  (am_loop (f_X6_parse_L34) 2000 ((1 : Int32), (pi (pi (pi (pr u 0 (some w)) (11, w, 0) 0 (0 : Int32)) (11, w, 0) 1 (0 : Int32)) (9, 0, 0) 2 (0 : Int32)))).bind fun e33 =>
  match e33 with
  | .inl q36 => some q36
  | .inr u35 =>
    some ((0 : Int32), u35)
set_option maxHeartbeats 4000000 in
set_option maxRecDepth 20000 in
theorem C_X6_parse {l : Launch} {w : Nat} (hw : w < 5)  {u : PM} {x : Int32 × PM} (hf : f_X6_parse w u = some x) : Ev l mX6_parse 28 0 0 false [vR (9, 0, 0), vR (11, w, 0)] kC (en u) (some (vI x.1), kC, en x.2) := by
  refine Ev_of (by decide +kernel) (le_b rfl) ?_
  unfold f_X6_parse at hf
  show X l mX6_parse 28 0 0 false _ kC 0 0 0 [some (vR (9, 0, 0)), some (vR (11, w, 0)), none, none, none, none] [] (en u)
  refine r_aload_n (x := (11, w, 0)) dX6_parse_0 rfl ?_
  refine r_ifnonnullR (tgt := 6) dX6_parse_1 (by decide) ?_
  refine r_aload_n (x := (9, 0, 0)) dX6_parse_6 rfl ?_
  refine r_aload_n (x := (11, w, 0)) dX6_parse_7 rfl ?_
  refine e_put4 (x := some w) fp_X6_22 dX6_parse_8 (kC_mem (s := 9) (by decide) (by decide) (by decide)) (fun v => by cases v <;> exact ⟨rfl, rfl⟩) ?_
  refine r_aload_n (x := (9, 0, 0)) dX6_parse_11 rfl ?_
  refine e_getr (z := some (11, w, 0)) fw_X6_22 dX6_parse_12 (kC_mem (s := 9) (by decide) (by decide) (by decide)) rfl (lt_b rfl) (by simp [lay, lay1, lay9, pi, pl, pr, pci, pcl]) ?_
  refine r_iconst (v := 0) dX6_parse_15 rfl ?_
  refine e_puti fp_X6_26 dX6_parse_16 (kC_mem (s := 11) (by decide) hw (by decide)) rfl (lt_b rfl) rfl rfl rfl ?_
  refine r_aload_n (x := (9, 0, 0)) dX6_parse_19 rfl ?_
  refine e_getr (z := some (11, w, 0)) fw_X6_22 dX6_parse_20 (kC_mem (s := 9) (by decide) (by decide) (by decide)) rfl (lt_b rfl) (by simp [lay, lay1, lay9, pi, pl, pr, pci, pcl]) ?_
  refine r_iconst (v := 0) dX6_parse_23 rfl ?_
  refine e_puti fp_X6_31 dX6_parse_24 (kC_mem (s := 11) (by decide) hw (by decide)) rfl (lt_b rfl) rfl rfl rfl ?_
  refine r_aload_n (x := (9, 0, 0)) dX6_parse_27 rfl ?_
  refine r_iconst (v := 0) dX6_parse_28 rfl ?_
  refine e_puti fp_X6_19 dX6_parse_29 (kC_mem (s := 9) (by decide) (by decide) (by decide)) rfl (lt_b rfl) rfl rfl rfl ?_
  refine r_iconst (v := 1) dX6_parse_32 rfl ?_
  refine r_istore_n (L' := [some (vR (9, 0, 0)), some (vR (11, w, 0)), some (vI (1 : Int32)), none, none, none]) dX6_parse_33 (by decide) rfl ?_
  refine r_weak (L' := [some (vR (9, 0, 0)), none, some (vI (1 : Int32)), none, none, none]) (And.intro rfl (And.intro rfl trivial)) ?_
  obtain ⟨e33, he34, hf⟩ := am_bind hf
  refine K_X6_parse_L34  2000 ((1 : Int32), (pi (pi (pi (pr u 0 (some w)) (11, w, 0) 0 (0 : Int32)) (11, w, 0) 1 (0 : Int32)) (9, 0, 0) 2 (0 : Int32))) _ he34 ?_
  rcases e33 with q36 | e33
  · have hx := am_inj hf
    subst hx
    rfl
  · obtain ⟨u35, rfl⟩ : ∃ z, z = e33 := ⟨_, rfl⟩
    show X l _ _ 0 0 false _ kC 0 0 168 [none, none, none, none, none, none] [] (en u35)
    refine r_iconst (v := 0) dX6_parse_168 rfl ?_
    have hx := am_inj hf
    subst hx
    exact r_iret dX6_parse_169 rfl (am_bool (x := 0) (by decide)).1 (le_b rfl) (le_b rfl)
