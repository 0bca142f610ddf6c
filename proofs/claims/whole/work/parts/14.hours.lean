/-! FireFromFire$Hours.begin -/
theorem dX1_begin_0 : decode cX1_begin 0 = .ok (.aload_n 0, 1) := by decide +kernel
theorem dX1_begin_1 : decode cX1_begin 1 = .ok (.iconst 0, 1) := by decide +kernel
theorem dX1_begin_2 : decode cX1_begin 2 = .ok (.putfield 9, 3) := by decide +kernel
theorem dX1_begin_5 : decode cX1_begin 5 = .ok (.aload_n 0, 1) := by decide +kernel
theorem dX1_begin_6 : decode cX1_begin 6 = .ok (.iconst 0, 1) := by decide +kernel
theorem dX1_begin_7 : decode cX1_begin 7 = .ok (.putfield 15, 3) := by decide +kernel
theorem dX1_begin_10 : decode cX1_begin 10 = .ok (.return_, 1) := by decide +kernel
def f_X1_begin   (u : PM) : Option (PM) :=
  some (pi (pi u (20, 0, 0) 0 (0 : Int32)) (20, 0, 0) 1 (0 : Int32))
set_option maxHeartbeats 4000000 in
set_option maxRecDepth 20000 in
theorem C_X1_begin {l : Launch}   {u : PM} {x : PM} (hf : f_X1_begin u = some x) : Ev l mX1_begin 1 0 0 false [vR (20, 0, 0)] kC (en u) (none, kC, en x) := by
  refine Ev_of (by decide +kernel) (le_b rfl) ?_
  unfold f_X1_begin at hf
  show X l mX1_begin 1 0 0 false _ kC 0 0 0 [some (vR (20, 0, 0))] [] (en u)
  refine r_aload_n (x := (20, 0, 0)) dX1_begin_0 rfl ?_
  refine r_iconst (v := 0) dX1_begin_1 rfl ?_
  refine e_puti fp_X1_9 dX1_begin_2 (kC_mem (s := 20) (by decide) (by decide) (by decide)) rfl (lt_b rfl) rfl rfl rfl ?_
  refine r_aload_n (x := (20, 0, 0)) dX1_begin_5 rfl ?_
  refine r_iconst (v := 0) dX1_begin_6 rfl ?_
  refine e_puti fp_X1_15 dX1_begin_7 (kC_mem (s := 20) (by decide) (by decide) (by decide)) rfl (lt_b rfl) rfl rfl rfl ?_
  have hx := am_inj hf
  subst hx
  exact r_vret dX1_begin_10 rfl (le_b rfl) (le_b rfl)
/-! FireFromFire$Hours.weigh -/
theorem dX1_weigh_0 : decode cX1_weigh 0 = .ok (.iconst 0, 1) := by decide +kernel
theorem dX1_weigh_1 : decode cX1_weigh 1 = .ok (.istore_n 3, 1) := by decide +kernel
theorem dX1_weigh_2 : decode cX1_weigh 2 = .ok (.iload_n 3, 1) := by decide +kernel
theorem dX1_weigh_3 : decode cX1_weigh 3 = .ok (.aload_n 1, 1) := by decide +kernel
theorem dX1_weigh_4 : decode cX1_weigh 4 = .ok (.getfield 31, 3) := by decide +kernel
theorem dX1_weigh_7 : decode cX1_weigh 7 = .ok (.if_icmp .ge 65, 3) := by decide +kernel
theorem dX1_weigh_10 : decode cX1_weigh 10 = .ok (.iload_n 3, 1) := by decide +kernel
theorem dX1_weigh_11 : decode cX1_weigh 11 = .ok (.bipush 6, 2) := by decide +kernel
theorem dX1_weigh_13 : decode cX1_weigh 13 = .ok (.if_icmp .ge 59, 3) := by decide +kernel
theorem dX1_weigh_16 : decode cX1_weigh 16 = .ok (.aload_n 1, 1) := by decide +kernel
theorem dX1_weigh_17 : decode cX1_weigh 17 = .ok (.iconst 3, 1) := by decide +kernel
theorem dX1_weigh_18 : decode cX1_weigh 18 = .ok (.iload_n 3, 1) := by decide +kernel
theorem dX1_weigh_19 : decode cX1_weigh 19 = .ok (.iload_n 2, 1) := by decide +kernel
theorem dX1_weigh_20 : decode cX1_weigh 20 = .ok (.invokevirtual 36, 3) := by decide +kernel
theorem dX1_weigh_23 : decode cX1_weigh 23 = .ok (.istore 4, 2) := by decide +kernel
theorem dX1_weigh_25 : decode cX1_weigh 25 = .ok (.aload_n 1, 1) := by decide +kernel
theorem dX1_weigh_26 : decode cX1_weigh 26 = .ok (.getfield 40, 3) := by decide +kernel
theorem dX1_weigh_29 : decode cX1_weigh 29 = .ok (.iload_n 3, 1) := by decide +kernel
theorem dX1_weigh_30 : decode cX1_weigh 30 = .ok (.aaload, 1) := by decide +kernel
theorem dX1_weigh_31 : decode cX1_weigh 31 = .ok (.getfield 44, 3) := by decide +kernel
theorem dX1_weigh_34 : decode cX1_weigh 34 = .ok (.ifCond .eq 17, 3) := by decide +kernel
theorem dX1_weigh_37 : decode cX1_weigh 37 = .ok (.aload_n 0, 1) := by decide +kernel
theorem dX1_weigh_38 : decode cX1_weigh 38 = .ok (.dup, 1) := by decide +kernel
theorem dX1_weigh_39 : decode cX1_weigh 39 = .ok (.getfield 9, 3) := by decide +kernel
theorem dX1_weigh_42 : decode cX1_weigh 42 = .ok (.iload 4, 2) := by decide +kernel
theorem dX1_weigh_44 : decode cX1_weigh 44 = .ok (.iadd, 1) := by decide +kernel
theorem dX1_weigh_45 : decode cX1_weigh 45 = .ok (.putfield 9, 3) := by decide +kernel
theorem dX1_weigh_48 : decode cX1_weigh 48 = .ok (.goto 18, 3) := by decide +kernel
theorem dX1_weigh_51 : decode cX1_weigh 51 = .ok (.iload 4, 2) := by decide +kernel
theorem dX1_weigh_53 : decode cX1_weigh 53 = .ok (.ifCond .le 13, 3) := by decide +kernel
theorem dX1_weigh_56 : decode cX1_weigh 56 = .ok (.aload_n 0, 1) := by decide +kernel
theorem dX1_weigh_57 : decode cX1_weigh 57 = .ok (.dup, 1) := by decide +kernel
theorem dX1_weigh_58 : decode cX1_weigh 58 = .ok (.getfield 15, 3) := by decide +kernel
theorem dX1_weigh_61 : decode cX1_weigh 61 = .ok (.iconst 1, 1) := by decide +kernel
theorem dX1_weigh_62 : decode cX1_weigh 62 = .ok (.iadd, 1) := by decide +kernel
theorem dX1_weigh_63 : decode cX1_weigh 63 = .ok (.putfield 15, 3) := by decide +kernel
theorem dX1_weigh_66 : decode cX1_weigh 66 = .ok (.iinc 3 1, 3) := by decide +kernel
theorem dX1_weigh_69 : decode cX1_weigh 69 = .ok (.goto (-67), 3) := by decide +kernel
theorem dX1_weigh_72 : decode cX1_weigh 72 = .ok (.return_, 1) := by decide +kernel
def f_X1_weigh_L2 (n0 : Nat) (c2 : Int32) : Int32 × PM → Option ((Int32 × PM) ⊕ (PM)) := fun (x3 , u) =>
  if (u.1 (1, n0, 0) 0) ≤ x3 then
    some (.inr (u))
  else
  if (6 : Int32) ≤ x3 then
    some (.inr (u))
  else
  (f_X8_sum n0 (3 : Int32) x3 c2 u).bind fun (r1, u3) =>
  if x3 < 0 ∨ 6 ≤ x3.toNatClampNeg then none else
  if (u3.1 (3, n0, x3.toNatClampNeg) 1) = 0 then
    if r1 ≤ 0 then
      some (.inl (x3 + (1 : Int32), u3))
    else
    some (.inl (x3 + (1 : Int32), (pi u3 (20, 0, 0) 1 ((u3.1 (20, 0, 0) 1) + (1 : Int32)))))
  else
  some (.inl (x3 + (1 : Int32), (pi u3 (20, 0, 0) 0 ((u3.1 (20, 0, 0) 0) + r1))))
set_option maxHeartbeats 4000000 in
set_option maxRecDepth 20000 in
theorem K_X1_weigh_L2 {l : Launch} {T : Option AV × List Key × AM} {n0 : Nat} (hn0 : n0 < 4) {c2 : Int32} : ∀ (n : Nat) (s : Int32 × PM) (e0 : PM), am_loop (f_X1_weigh_L2 n0 c2) n s = some e0 → (fun e : PM => X l mX1_weigh 4 0 0 false T kC 0 0 72 [none, none, none, none, none] [] (en e)) e0 → X l mX1_weigh 4 0 0 false T kC 0 0 2 [some (vR (20, 0, 0)), some (vR (1, n0, 0)), some (vI c2), some (vI s.1), none] [] (en s.2) := by
  refine am_loop_of ?_
  intro s x hf k1 k2
  obtain ⟨x3 , u⟩ := s
  unfold f_X1_weigh_L2 at hf
  show X l mX1_weigh 4 0 0 false T kC 0 0 2 [some (vR (20, 0, 0)), some (vR (1, n0, 0)), some (vI c2), some (vI x3), none] [] (en u)
  refine r_iload_n (x := x3) dX1_weigh_2 rfl ?_
  refine r_aload_n (x := (1, n0, 0)) dX1_weigh_3 rfl ?_
  refine e_geti fw_X1_31 dX1_weigh_4 (kC_mem (s := 1) (by decide) hn0 (by decide)) rfl (lt_b rfl) ?_
  refine r_icmp_ge (tgt := 72) dX1_weigh_7 (by decide) (fun hc => ?_) (fun hc => ?_)
  · have hf := (am_if hf).1 hc
    refine r_weak (L' := [none, none, none, none, none]) trivial ?_
    exact k2 (u) (am_inj hf).symm
  · have hf := (am_if hf).2 hc
    refine r_iload_n (x := x3) dX1_weigh_10 rfl ?_
    refine r_bipush (v := 6) dX1_weigh_11 rfl ?_
    refine r_icmp_ge (tgt := 72) dX1_weigh_13 (by decide) (fun hc => ?_) (fun hc => ?_)
    · have hf := (am_if hf).1 hc
      refine r_weak (L' := [none, none, none, none, none]) trivial ?_
      exact k2 (u) (am_inj hf).symm
    · have hf := (am_if hf).2 hc
      refine r_aload_n (x := (1, n0, 0)) dX1_weigh_16 rfl ?_
      refine r_iconst (v := 3) dX1_weigh_17 rfl ?_
      refine r_iload_n (x := x3) dX1_weigh_18 rfl ?_
      refine r_iload_n (x := c2) dX1_weigh_19 rfl ?_
      obtain ⟨⟨r1, u3⟩, hr2, hf⟩ := am_bind hf
      refine r_callV (as := [vI (3 : Int32), vI x3, vI c2]) (st := []) (n := 3) mw_X1_36 mv_X8_sum (C_X8_sum (l := l) hn0 hr2) (le_b rfl) dX1_weigh_20 (kC_mem (s := 1) (by decide) hn0 (by decide)) rfl rfl rfl (le_b rfl) (le_b rfl) (le_b rfl) ?_
      show X l _ _ 0 0 false _ kC 0 0 23 [some (vR (20, 0, 0)), some (vR (1, n0, 0)), some (vI c2), some (vI x3), none] [vI r1] (en u3)
      refine r_istore (L' := [some (vR (20, 0, 0)), some (vR (1, n0, 0)), some (vI c2), some (vI x3), some (vI r1)]) dX1_weigh_23 (by decide) rfl ?_
      refine r_aload_n (x := (1, n0, 0)) dX1_weigh_25 rfl ?_
      refine e_getr (z := some (2, n0, 0)) fw_X1_40 dX1_weigh_26 (kC_mem (s := 1) (by decide) hn0 (by decide)) rfl (lt_b rfl) rfl ?_
      refine r_iload_n (x := x3) dX1_weigh_29 rfl ?_
      obtain ⟨h4, hf⟩ := am_nchk hf
      refine e_aald (n := x3.toNatClampNeg) (z := some (3, n0, x3.toNatClampNeg)) dX1_weigh_30 (kC_mem (s := 2) (by decide) hn0 (by decide)) ⟨le_b rfl, lt_b rfl⟩ h4 rfl rfl ?_
      refine e_geti fw_X1_44 dX1_weigh_31 (kC_mem (s := 3) (by decide) hn0 (vp_lt h4)) rfl (lt_b rfl) ?_
      refine r_if_eq (tgt := 51) dX1_weigh_34 (by decide) (fun hc => ?_) (fun hc => ?_)
      · have hf := (am_if hf).1 hc
        refine r_iload (x := r1) dX1_weigh_51 rfl ?_
        refine r_if_le (tgt := 66) dX1_weigh_53 (by decide) (fun hc => ?_) (fun hc => ?_)
        · have hf := (am_if hf).1 hc
          refine r_iinc (x := x3) (v := x3 + (1 : Int32)) (L' := [some (vR (20, 0, 0)), some (vR (1, n0, 0)), some (vI c2), some (vI (x3 + (1 : Int32))), some (vI r1)]) dX1_weigh_66 rfl rfl (lt_b rfl) rfl ?_
          refine r_goto (tgt := 2) dX1_weigh_69 (by decide) ?_
          refine r_weak (L' := [some (vR (20, 0, 0)), some (vR (1, n0, 0)), some (vI c2), some (vI (x3 + (1 : Int32))), none]) (And.intro rfl (And.intro rfl (And.intro rfl (And.intro rfl trivial)))) ?_
          exact k1 (x3 + (1 : Int32), u3) (am_inj hf).symm
        · have hf := (am_if hf).2 hc
          refine r_aload_n (x := (20, 0, 0)) dX1_weigh_56 rfl ?_
          refine r_dup dX1_weigh_57 rfl ?_
          refine e_geti fw_X1_15 dX1_weigh_58 (kC_mem (s := 20) (by decide) (by decide) (by decide)) rfl (lt_b rfl) ?_
          refine r_iconst (v := 1) dX1_weigh_61 rfl ?_
          refine r_iadd dX1_weigh_62 ?_
          refine e_puti fp_X1_15 dX1_weigh_63 (kC_mem (s := 20) (by decide) (by decide) (by decide)) rfl (lt_b rfl) rfl rfl rfl ?_
          refine r_iinc (x := x3) (v := x3 + (1 : Int32)) (L' := [some (vR (20, 0, 0)), some (vR (1, n0, 0)), some (vI c2), some (vI (x3 + (1 : Int32))), some (vI r1)]) dX1_weigh_66 rfl rfl (lt_b rfl) rfl ?_
          refine r_goto (tgt := 2) dX1_weigh_69 (by decide) ?_
          refine r_weak (L' := [some (vR (20, 0, 0)), some (vR (1, n0, 0)), some (vI c2), some (vI (x3 + (1 : Int32))), none]) (And.intro rfl (And.intro rfl (And.intro rfl (And.intro rfl trivial)))) ?_
          exact k1 (x3 + (1 : Int32), (pi u3 (20, 0, 0) 1 ((u3.1 (20, 0, 0) 1) + (1 : Int32)))) (am_inj hf).symm
      · have hf := (am_if hf).2 hc
        refine r_aload_n (x := (20, 0, 0)) dX1_weigh_37 rfl ?_
        refine r_dup dX1_weigh_38 rfl ?_
        refine e_geti fw_X1_9 dX1_weigh_39 (kC_mem (s := 20) (by decide) (by decide) (by decide)) rfl (lt_b rfl) ?_
        refine r_iload (x := r1) dX1_weigh_42 rfl ?_
        refine r_iadd dX1_weigh_44 ?_
        refine e_puti fp_X1_9 dX1_weigh_45 (kC_mem (s := 20) (by decide) (by decide) (by decide)) rfl (lt_b rfl) rfl rfl rfl ?_
        refine r_goto (tgt := 66) dX1_weigh_48 (by decide) ?_
        refine r_iinc (x := x3) (v := x3 + (1 : Int32)) (L' := [some (vR (20, 0, 0)), some (vR (1, n0, 0)), some (vI c2), some (vI (x3 + (1 : Int32))), some (vI r1)]) dX1_weigh_66 rfl rfl (lt_b rfl) rfl ?_
        refine r_goto (tgt := 2) dX1_weigh_69 (by decide) ?_
        refine r_weak (L' := [some (vR (20, 0, 0)), some (vR (1, n0, 0)), some (vI c2), some (vI (x3 + (1 : Int32))), none]) (And.intro rfl (And.intro rfl (And.intro rfl (And.intro rfl trivial)))) ?_
        exact k1 (x3 + (1 : Int32), (pi u3 (20, 0, 0) 0 ((u3.1 (20, 0, 0) 0) + r1))) (am_inj hf).symm
def f_X1_weigh (w : Nat) (a1 : Int32) (u : PM) : Option (PM) :=
  (am_loop (f_X1_weigh_L2 w a1) 2000 ((0 : Int32), u)).bind fun u7 =>
  some u7
set_option maxHeartbeats 4000000 in
set_option maxRecDepth 20000 in
theorem C_X1_weigh {l : Launch} {w : Nat} (hw : w < 4) {a1 : Int32} {u : PM} {x : PM} (hf : f_X1_weigh w a1 u = some x) : Ev l mX1_weigh 4 0 0 false [vR (20, 0, 0), vR (1, w, 0), vI a1] kC (en u) (none, kC, en x) := by
  refine Ev_of (by decide +kernel) (le_b rfl) ?_
  unfold f_X1_weigh at hf
  show X l mX1_weigh 4 0 0 false _ kC 0 0 0 [some (vR (20, 0, 0)), some (vR (1, w, 0)), some (vI a1), none, none] [] (en u)
  refine r_iconst (v := 0) dX1_weigh_0 rfl ?_
  refine r_istore_n (L' := [some (vR (20, 0, 0)), some (vR (1, w, 0)), some (vI a1), some (vI (0 : Int32)), none]) dX1_weigh_1 (by decide) rfl ?_
  refine r_weak (L' := [some (vR (20, 0, 0)), some (vR (1, w, 0)), some (vI a1), some (vI (0 : Int32)), none]) (And.intro rfl (And.intro rfl (And.intro rfl (And.intro rfl trivial)))) ?_
  obtain ⟨e5, he6, hf⟩ := am_bind hf
  refine K_X1_weigh_L2 hw 2000 ((0 : Int32), u) _ he6 ?_
  obtain ⟨u7, rfl⟩ : ∃ z, z = e5 := ⟨_, rfl⟩
  show X l _ _ 0 0 false _ kC 0 0 72 [none, none, none, none, none] [] (en u7)
  have hx := am_inj hf
  subst hx
  exact r_vret dX1_weigh_72 rfl (le_b rfl) (le_b rfl)
/-! FireFromFire$Hours.burn -/
theorem dX1_burn_0 : decode cX1_burn 0 = .ok (.iload_n 2, 1) := by decide +kernel
theorem dX1_burn_1 : decode cX1_burn 1 = .ok (.ifCond .lt 9, 3) := by decide +kernel
theorem dX1_burn_4 : decode cX1_burn 4 = .ok (.iload_n 2, 1) := by decide +kernel
theorem dX1_burn_5 : decode cX1_burn 5 = .ok (.bipush 6, 2) := by decide +kernel
theorem dX1_burn_7 : decode cX1_burn 7 = .ok (.if_icmp .lt 4, 3) := by decide +kernel
theorem dX1_burn_10 : decode cX1_burn 10 = .ok (.return_, 1) := by decide +kernel
theorem dX1_burn_11 : decode cX1_burn 11 = .ok (.aload_n 0, 1) := by decide +kernel
theorem dX1_burn_12 : decode cX1_burn 12 = .ok (.getfield 18, 3) := by decide +kernel
theorem dX1_burn_15 : decode cX1_burn 15 = .ok (.iload_n 2, 1) := by decide +kernel
theorem dX1_burn_16 : decode cX1_burn 16 = .ok (.iaload, 1) := by decide +kernel
theorem dX1_burn_17 : decode cX1_burn 17 = .ok (.iconst 1, 1) := by decide +kernel
theorem dX1_burn_18 : decode cX1_burn 18 = .ok (.if_icmp .ne 24, 3) := by decide +kernel
theorem dX1_burn_21 : decode cX1_burn 21 = .ok (.aload_n 1, 1) := by decide +kernel
theorem dX1_burn_22 : decode cX1_burn 22 = .ok (.getfield 86, 3) := by decide +kernel
theorem dX1_burn_25 : decode cX1_burn 25 = .ok (.aload_n 0, 1) := by decide +kernel
theorem dX1_burn_26 : decode cX1_burn 26 = .ok (.getfield 22, 3) := by decide +kernel
theorem dX1_burn_29 : decode cX1_burn 29 = .ok (.iload_n 2, 1) := by decide +kernel
theorem dX1_burn_30 : decode cX1_burn 30 = .ok (.iaload, 1) := by decide +kernel
theorem dX1_burn_31 : decode cX1_burn 31 = .ok (.if_icmp .lt 11, 3) := by decide +kernel
theorem dX1_burn_34 : decode cX1_burn 34 = .ok (.iload_n 3, 1) := by decide +kernel
theorem dX1_burn_35 : decode cX1_burn 35 = .ok (.iload_n 2, 1) := by decide +kernel
theorem dX1_burn_36 : decode cX1_burn 36 = .ok (.ishr, 1) := by decide +kernel
theorem dX1_burn_37 : decode cX1_burn 37 = .ok (.iconst 1, 1) := by decide +kernel
theorem dX1_burn_38 : decode cX1_burn 38 = .ok (.iand, 1) := by decide +kernel
theorem dX1_burn_39 : decode cX1_burn 39 = .ok (.ifCond .eq 11, 3) := by decide +kernel
theorem dX1_burn_42 : decode cX1_burn 42 = .ok (.aload_n 1, 1) := by decide +kernel
theorem dX1_burn_43 : decode cX1_burn 43 = .ok (.iconst 0, 1) := by decide +kernel
theorem dX1_burn_44 : decode cX1_burn 44 = .ok (.putfield 44, 3) := by decide +kernel
theorem dX1_burn_47 : decode cX1_burn 47 = .ok (.goto 18, 3) := by decide +kernel
theorem dX1_burn_50 : decode cX1_burn 50 = .ok (.aload_n 1, 1) := by decide +kernel
theorem dX1_burn_51 : decode cX1_burn 51 = .ok (.dup, 1) := by decide +kernel
theorem dX1_burn_52 : decode cX1_burn 52 = .ok (.getfield 86, 3) := by decide +kernel
theorem dX1_burn_55 : decode cX1_burn 55 = .ok (.aload_n 0, 1) := by decide +kernel
theorem dX1_burn_56 : decode cX1_burn 56 = .ok (.getfield 22, 3) := by decide +kernel
theorem dX1_burn_59 : decode cX1_burn 59 = .ok (.iload_n 2, 1) := by decide +kernel
theorem dX1_burn_60 : decode cX1_burn 60 = .ok (.iaload, 1) := by decide +kernel
theorem dX1_burn_61 : decode cX1_burn 61 = .ok (.isub, 1) := by decide +kernel
theorem dX1_burn_62 : decode cX1_burn 62 = .ok (.putfield 86, 3) := by decide +kernel
theorem dX1_burn_65 : decode cX1_burn 65 = .ok (.return_, 1) := by decide +kernel
def f_X1_burn (w : Nat) (g : Nat) (a1 : Int32) (a2 : Int32) (u : PM) : Option (PM) :=
  if a1 < 0 then
    some u
  else
  if a1 < (6 : Int32) then
    if a1 < 0 ∨ 6 ≤ a1.toNatClampNeg then none else
    if (u.1 (21, 0, 0) a1.toNatClampNeg) = (1 : Int32) then
      if (u.1 (3, w, g) 0) < (u.1 (22, 0, 0) a1.toNatClampNeg) then
        some (pi u (3, w, g) 1 (0 : Int32))
      else
      if ((a2 >>> (a1 &&& 31)) &&& (1 : Int32)) = 0 then
        some (pi u (3, w, g) 0 ((u.1 (3, w, g) 0) - (u.1 (22, 0, 0) a1.toNatClampNeg)))
      else
      some (pi u (3, w, g) 1 (0 : Int32))
    else
    some (pi u (3, w, g) 1 (0 : Int32))
  else
  some u
set_option maxHeartbeats 4000000 in
set_option maxRecDepth 20000 in
theorem C_X1_burn {l : Launch} {w : Nat} (hw : w < 4) {g : Nat} (hg : g < 6) {a1 : Int32} {a2 : Int32} {u : PM} {x : PM} (hf : f_X1_burn w g a1 a2 u = some x) : Ev l mX1_burn 1 0 0 false [vR (20, 0, 0), vR (3, w, g), vI a1, vI a2] kC (en u) (none, kC, en x) := by
  refine Ev_of (by decide +kernel) (le_b rfl) ?_
  unfold f_X1_burn at hf
  show X l mX1_burn 1 0 0 false _ kC 0 0 0 [some (vR (20, 0, 0)), some (vR (3, w, g)), some (vI a1), some (vI a2)] [] (en u)
  refine r_iload_n (x := a1) dX1_burn_0 rfl ?_
  refine r_if_lt (tgt := 10) dX1_burn_1 (by decide) (fun hc => ?_) (fun hc => ?_)
  · have hf := (am_if hf).1 hc
    have hx := am_inj hf
    subst hx
    exact r_vret dX1_burn_10 rfl (le_b rfl) (le_b rfl)
  · have hf := (am_if hf).2 hc
    refine r_iload_n (x := a1) dX1_burn_4 rfl ?_
    refine r_bipush (v := 6) dX1_burn_5 rfl ?_
    refine r_icmp_lt (tgt := 11) dX1_burn_7 (by decide) (fun hc => ?_) (fun hc => ?_)
    · have hf := (am_if hf).1 hc
      refine r_aload_n (x := (20, 0, 0)) dX1_burn_11 rfl ?_
      refine e_getr (z := some (21, 0, 0)) fw_X1_18 dX1_burn_12 (kC_mem (s := 20) (by decide) (by decide) (by decide)) rfl (lt_b rfl) rfl ?_
      refine r_iload_n (x := a1) dX1_burn_15 rfl ?_
      obtain ⟨h1, hf⟩ := am_nchk hf
      refine e_iald (n := a1.toNatClampNeg) dX1_burn_16 (kC_mem (s := 21) (by decide) (by decide) (by decide)) rfl h1 rfl rfl ?_
      refine r_iconst (v := 1) dX1_burn_17 rfl ?_
      refine r_icmp_ne (tgt := 42) dX1_burn_18 (by decide) (fun hc => ?_) (fun hc => ?_)
      · have hf := (am_if hf).2 hc
        refine r_aload_n (x := (3, w, g)) dX1_burn_42 rfl ?_
        refine r_iconst (v := 0) dX1_burn_43 rfl ?_
        refine e_puti fp_X1_44 dX1_burn_44 (kC_mem (s := 3) (by decide) hw hg) rfl (lt_b rfl) rfl (am_bool (x := 0) (by decide)).1 (am_bool (x := 0) (by decide)).2 ?_
        refine r_goto (tgt := 65) dX1_burn_47 (by decide) ?_
        have hx := am_inj hf
        subst hx
        exact r_vret dX1_burn_65 rfl (le_b rfl) (le_b rfl)
      · have hf := (am_if hf).1 hc
        refine r_aload_n (x := (3, w, g)) dX1_burn_21 rfl ?_
        refine e_geti fw_X1_86 dX1_burn_22 (kC_mem (s := 3) (by decide) hw hg) rfl (lt_b rfl) ?_
        refine r_aload_n (x := (20, 0, 0)) dX1_burn_25 rfl ?_
        refine e_getr (z := some (22, 0, 0)) fw_X1_22 dX1_burn_26 (kC_mem (s := 20) (by decide) (by decide) (by decide)) rfl (lt_b rfl) rfl ?_
        refine r_iload_n (x := a1) dX1_burn_29 rfl ?_
        refine e_iald (n := a1.toNatClampNeg) dX1_burn_30 (kC_mem (s := 22) (by decide) (by decide) (by decide)) rfl h1 rfl rfl ?_
        refine r_icmp_lt (tgt := 42) dX1_burn_31 (by decide) (fun hc => ?_) (fun hc => ?_)
        · have hf := (am_if hf).1 hc
          refine r_aload_n (x := (3, w, g)) dX1_burn_42 rfl ?_
          refine r_iconst (v := 0) dX1_burn_43 rfl ?_
          refine e_puti fp_X1_44 dX1_burn_44 (kC_mem (s := 3) (by decide) hw hg) rfl (lt_b rfl) rfl (am_bool (x := 0) (by decide)).1 (am_bool (x := 0) (by decide)).2 ?_
          refine r_goto (tgt := 65) dX1_burn_47 (by decide) ?_
          have hx := am_inj hf
          subst hx
          exact r_vret dX1_burn_65 rfl (le_b rfl) (le_b rfl)
        · have hf := (am_if hf).2 hc
          refine r_iload_n (x := a2) dX1_burn_34 rfl ?_
          refine r_iload_n (x := a1) dX1_burn_35 rfl ?_
          refine r_ishr dX1_burn_36 ?_
          refine r_iconst (v := 1) dX1_burn_37 rfl ?_
          refine r_iand dX1_burn_38 ?_
          refine r_if_eq (tgt := 50) dX1_burn_39 (by decide) (fun hc => ?_) (fun hc => ?_)
          · have hf := (am_if hf).1 hc
            refine r_aload_n (x := (3, w, g)) dX1_burn_50 rfl ?_
            refine r_dup dX1_burn_51 rfl ?_
            refine e_geti fw_X1_86 dX1_burn_52 (kC_mem (s := 3) (by decide) hw hg) rfl (lt_b rfl) ?_
            refine r_aload_n (x := (20, 0, 0)) dX1_burn_55 rfl ?_
            refine e_getr (z := some (22, 0, 0)) fw_X1_22 dX1_burn_56 (kC_mem (s := 20) (by decide) (by decide) (by decide)) rfl (lt_b rfl) rfl ?_
            refine r_iload_n (x := a1) dX1_burn_59 rfl ?_
            refine e_iald (n := a1.toNatClampNeg) dX1_burn_60 (kC_mem (s := 22) (by decide) (by decide) (by decide)) rfl h1 rfl rfl ?_
            refine r_isub dX1_burn_61 ?_
            refine e_puti fp_X1_86 dX1_burn_62 (kC_mem (s := 3) (by decide) hw hg) rfl (lt_b rfl) rfl rfl rfl ?_
            have hx := am_inj hf
            subst hx
            exact r_vret dX1_burn_65 rfl (le_b rfl) (le_b rfl)
          · have hf := (am_if hf).2 hc
            refine r_aload_n (x := (3, w, g)) dX1_burn_42 rfl ?_
            refine r_iconst (v := 0) dX1_burn_43 rfl ?_
            refine e_puti fp_X1_44 dX1_burn_44 (kC_mem (s := 3) (by decide) hw hg) rfl (lt_b rfl) rfl (am_bool (x := 0) (by decide)).1 (am_bool (x := 0) (by decide)).2 ?_
            refine r_goto (tgt := 65) dX1_burn_47 (by decide) ?_
            have hx := am_inj hf
            subst hx
            exact r_vret dX1_burn_65 rfl (le_b rfl) (le_b rfl)
    · have hf := (am_if hf).2 hc
      have hx := am_inj hf
      subst hx
      exact r_vret dX1_burn_10 rfl (le_b rfl) (le_b rfl)
/-! FireFromFire$Hours.goNearer -/
theorem dX1_goNearer_0 : decode cX1_goNearer 0 = .ok (.aload_n 2, 1) := by decide +kernel
theorem dX1_goNearer_1 : decode cX1_goNearer 1 = .ok (.dup, 1) := by decide +kernel
theorem dX1_goNearer_2 : decode cX1_goNearer 2 = .ok (.getfield 89, 3) := by decide +kernel
theorem dX1_goNearer_5 : decode cX1_goNearer 5 = .ok (.iconst 1, 1) := by decide +kernel
theorem dX1_goNearer_6 : decode cX1_goNearer 6 = .ok (.isub, 1) := by decide +kernel
theorem dX1_goNearer_7 : decode cX1_goNearer 7 = .ok (.putfield 89, 3) := by decide +kernel
theorem dX1_goNearer_10 : decode cX1_goNearer 10 = .ok (.aload_n 2, 1) := by decide +kernel
theorem dX1_goNearer_11 : decode cX1_goNearer 11 = .ok (.getfield 89, 3) := by decide +kernel
theorem dX1_goNearer_14 : decode cX1_goNearer 14 = .ok (.ifCond .le 4, 3) := by decide +kernel
theorem dX1_goNearer_17 : decode cX1_goNearer 17 = .ok (.return_, 1) := by decide +kernel
theorem dX1_goNearer_18 : decode cX1_goNearer 18 = .ok (.aload_n 1, 1) := by decide +kernel
theorem dX1_goNearer_19 : decode cX1_goNearer 19 = .ok (.aload_n 2, 1) := by decide +kernel
theorem dX1_goNearer_20 : decode cX1_goNearer 20 = .ok (.getfield 92, 3) := by decide +kernel
theorem dX1_goNearer_23 : decode cX1_goNearer 23 = .ok (.invokevirtual 95, 3) := by decide +kernel
theorem dX1_goNearer_26 : decode cX1_goNearer 26 = .ok (.astore 4, 2) := by decide +kernel
theorem dX1_goNearer_28 : decode cX1_goNearer 28 = .ok (.aload 4, 2) := by decide +kernel
theorem dX1_goNearer_30 : decode cX1_goNearer 30 = .ok (.ifnull 36, 3) := by decide +kernel
theorem dX1_goNearer_33 : decode cX1_goNearer 33 = .ok (.aload 4, 2) := by decide +kernel
theorem dX1_goNearer_35 : decode cX1_goNearer 35 = .ok (.getfield 44, 3) := by decide +kernel
theorem dX1_goNearer_38 : decode cX1_goNearer 38 = .ok (.ifCond .eq 28, 3) := by decide +kernel
theorem dX1_goNearer_41 : decode cX1_goNearer 41 = .ok (.aload_n 2, 1) := by decide +kernel
theorem dX1_goNearer_42 : decode cX1_goNearer 42 = .ok (.iconst 2, 1) := by decide +kernel
theorem dX1_goNearer_43 : decode cX1_goNearer 43 = .ok (.iconst 1, 1) := by decide +kernel
theorem dX1_goNearer_44 : decode cX1_goNearer 44 = .ok (.aload_n 1, 1) := by decide +kernel
theorem dX1_goNearer_45 : decode cX1_goNearer 45 = .ok (.iload_n 3, 1) := by decide +kernel
theorem dX1_goNearer_46 : decode cX1_goNearer 46 = .ok (.aload_n 2, 1) := by decide +kernel
theorem dX1_goNearer_47 : decode cX1_goNearer 47 = .ok (.getfield 92, 3) := by decide +kernel
theorem dX1_goNearer_50 : decode cX1_goNearer 50 = .ok (.invokevirtual 61, 3) := by decide +kernel
theorem dX1_goNearer_53 : decode cX1_goNearer 53 = .ok (.invokestatic 99, 3) := by decide +kernel
theorem dX1_goNearer_56 : decode cX1_goNearer 56 = .ok (.aload_n 2, 1) := by decide +kernel
theorem dX1_goNearer_57 : decode cX1_goNearer 57 = .ok (.getfield 92, 3) := by decide +kernel
theorem dX1_goNearer_60 : decode cX1_goNearer 60 = .ok (.invokevirtual 64, 3) := by decide +kernel
theorem dX1_goNearer_63 : decode cX1_goNearer 63 = .ok (.goto 10, 3) := by decide +kernel
theorem dX1_goNearer_66 : decode cX1_goNearer 66 = .ok (.aload_n 2, 1) := by decide +kernel
theorem dX1_goNearer_67 : decode cX1_goNearer 67 = .ok (.iconst 0, 1) := by decide +kernel
theorem dX1_goNearer_68 : decode cX1_goNearer 68 = .ok (.iconst 0, 1) := by decide +kernel
theorem dX1_goNearer_69 : decode cX1_goNearer 69 = .ok (.iconst 0, 1) := by decide +kernel
theorem dX1_goNearer_70 : decode cX1_goNearer 70 = .ok (.invokevirtual 64, 3) := by decide +kernel
theorem dX1_goNearer_73 : decode cX1_goNearer 73 = .ok (.return_, 1) := by decide +kernel
def f_X1_goNearer (w : Nat) (g : Nat) (a2 : Int32) (u : PM) : Option (PM) :=
  if ((u.1 (3, w, g) 6) - (1 : Int32)) ≤ 0 then
    (f_X8_find w (u.1 (3, w, g) 7) (pi u (3, w, g) 6 ((u.1 (3, w, g) 6) - (1 : Int32)))).bind fun r1 =>
    match r1 with
    | none =>
      (f_X2_setOut w g (0 : Int32) (0 : Int32) (0 : Int32) (pi u (3, w, g) 6 ((u.1 (3, w, g) 6) - (1 : Int32)))).bind fun r5 =>
      some r5
    | some p3 =>
      if p3 < 6 then
        if (u.1 (3, w, p3) 1) = 0 then
          (f_X2_setOut w g (0 : Int32) (0 : Int32) (0 : Int32) (pi u (3, w, g) 6 ((u.1 (3, w, g) 6) - (1 : Int32)))).bind fun r7 =>
          some r7
        else
        (f_X8_hoursBetween w a2 (u.1 (3, w, g) 7) (pi u (3, w, g) 6 ((u.1 (3, w, g) 6) - (1 : Int32)))).bind fun r9 =>
        (f_X2_setOut w g (2 : Int32) (if (1 : Int32) < r9 then r9 else (1 : Int32)) (u.1 (3, w, g) 7) (pi u (3, w, g) 6 ((u.1 (3, w, g) 6) - (1 : Int32)))).bind fun r11 =>
        some r11
      else none
  else
  some (pi u (3, w, g) 6 ((u.1 (3, w, g) 6) - (1 : Int32)))
set_option maxHeartbeats 4000000 in
set_option maxRecDepth 20000 in
theorem C_X1_goNearer {l : Launch} {w : Nat} (hw : w < 4) {g : Nat} (hg : g < 6) {a2 : Int32} {u : PM} {x : PM} (hf : f_X1_goNearer w g a2 u = some x) : Ev l mX1_goNearer 2 0 0 false [vR (20, 0, 0), vR (1, w, 0), vR (3, w, g), vI a2] kC (en u) (none, kC, en x) := by
  refine Ev_of (by decide +kernel) (le_b rfl) ?_
  unfold f_X1_goNearer at hf
  show X l mX1_goNearer 2 0 0 false _ kC 0 0 0 [some (vR (20, 0, 0)), some (vR (1, w, 0)), some (vR (3, w, g)), some (vI a2), none] [] (en u)
  refine r_aload_n (x := (3, w, g)) dX1_goNearer_0 rfl ?_
  refine r_dup dX1_goNearer_1 rfl ?_
  refine e_geti fw_X1_89 dX1_goNearer_2 (kC_mem (s := 3) (by decide) hw hg) rfl (lt_b rfl) ?_
  refine r_iconst (v := 1) dX1_goNearer_5 rfl ?_
  refine r_isub dX1_goNearer_6 ?_
  refine e_puti fp_X1_89 dX1_goNearer_7 (kC_mem (s := 3) (by decide) hw hg) rfl (lt_b rfl) rfl rfl rfl ?_
  refine r_aload_n (x := (3, w, g)) dX1_goNearer_10 rfl ?_
  refine e_geti_ (x := (u.1 (3, w, g) 6) - (1 : Int32)) fw_X1_89 dX1_goNearer_11 (kC_mem (s := 3) (by decide) hw hg) rfl (lt_b rfl) (by simp [pi, pl, pr, pci, pcl]) ?_
  refine r_if_le (tgt := 18) dX1_goNearer_14 (by decide) (fun hc => ?_) (fun hc => ?_)
  · have hf := (am_if hf).1 hc
    refine r_aload_n (x := (1, w, 0)) dX1_goNearer_18 rfl ?_
    refine r_aload_n (x := (3, w, g)) dX1_goNearer_19 rfl ?_
    refine e_geti_ (x := u.1 (3, w, g) 7) fw_X1_92 dX1_goNearer_20 (kC_mem (s := 3) (by decide) hw hg) rfl (lt_b rfl) (by simp [pi, pl, pr, pci, pcl]) ?_
    obtain ⟨r1, hr2, hf⟩ := am_bind hf
    refine r_callV (as := [vI (u.1 (3, w, g) 7)]) (st := []) (n := 1) mw_X1_95 mv_X8_find (C_X8_find (l := l) hw hr2) (le_b rfl) dX1_goNearer_23 (kC_mem (s := 1) (by decide) hw (by decide)) rfl rfl rfl (le_b rfl) (le_b rfl) (le_b rfl) ?_
    cases r1 with
    | none =>
      show X l _ _ 0 0 false _ kC 0 0 26 [some (vR (20, 0, 0)), some (vR (1, w, 0)), some (vR (3, w, g)), some (vI a2), none] [vN] (en (pi u (3, w, g) 6 ((u.1 (3, w, g) 6) - (1 : Int32))))
      refine r_astoreN (L' := [some (vR (20, 0, 0)), some (vR (1, w, 0)), some (vR (3, w, g)), some (vI a2), some (vN)]) dX1_goNearer_26 (by decide) rfl ?_
      refine r_aloadN dX1_goNearer_28 rfl ?_
      refine r_ifnullN (tgt := 66) dX1_goNearer_30 (by decide) ?_
      refine r_aload_n (x := (3, w, g)) dX1_goNearer_66 rfl ?_
      refine r_iconst (v := 0) dX1_goNearer_67 rfl ?_
      refine r_iconst (v := 0) dX1_goNearer_68 rfl ?_
      refine r_iconst (v := 0) dX1_goNearer_69 rfl ?_
      obtain ⟨r5, hr6, hf⟩ := am_bind hf
      refine r_callV (as := [vI (0 : Int32), vI (0 : Int32), vI (0 : Int32)]) (st := []) (n := 3) mw_X1_64 mv_X2_setOut (C_X2_setOut (l := l) hw hg hr6) (le_b rfl) dX1_goNearer_70 (kC_mem (s := 3) (by decide) hw hg) rfl rfl rfl (le_b rfl) (le_b rfl) (le_b rfl) ?_
      show X l _ _ 0 0 false _ kC 0 0 73 [some (vR (20, 0, 0)), some (vR (1, w, 0)), some (vR (3, w, g)), some (vI a2), some (vN)] [] (en r5)
      have hx := am_inj hf
      subst hx
      exact r_vret dX1_goNearer_73 rfl (le_b rfl) (le_b rfl)
    | some p3 =>
      obtain ⟨h4, hf⟩ := am_chk hf
      show X l _ _ 0 0 false _ kC 0 0 26 [some (vR (20, 0, 0)), some (vR (1, w, 0)), some (vR (3, w, g)), some (vI a2), none] [vR (3, w, p3)] (en (pi u (3, w, g) 6 ((u.1 (3, w, g) 6) - (1 : Int32))))
      refine r_astore (L' := [some (vR (20, 0, 0)), some (vR (1, w, 0)), some (vR (3, w, g)), some (vI a2), some (vR (3, w, p3))]) dX1_goNearer_26 (by decide) rfl ?_
      refine r_aload (x := (3, w, p3)) dX1_goNearer_28 rfl ?_
      refine r_ifnullR dX1_goNearer_30 ?_
      refine r_aload (x := (3, w, p3)) dX1_goNearer_33 rfl ?_
      refine e_geti_ (x := u.1 (3, w, p3) 1) fw_X1_44 dX1_goNearer_35 (kC_mem (s := 3) (by decide) hw h4) rfl (lt_b rfl) (by simp [pi, pl, pr, pci, pcl]) ?_
      refine r_if_eq (tgt := 66) dX1_goNearer_38 (by decide) (fun hc => ?_) (fun hc => ?_)
      · have hf := (am_if hf).1 hc
        refine r_aload_n (x := (3, w, g)) dX1_goNearer_66 rfl ?_
        refine r_iconst (v := 0) dX1_goNearer_67 rfl ?_
        refine r_iconst (v := 0) dX1_goNearer_68 rfl ?_
        refine r_iconst (v := 0) dX1_goNearer_69 rfl ?_
        obtain ⟨r7, hr8, hf⟩ := am_bind hf
        refine r_callV (as := [vI (0 : Int32), vI (0 : Int32), vI (0 : Int32)]) (st := []) (n := 3) mw_X1_64 mv_X2_setOut (C_X2_setOut (l := l) hw hg hr8) (le_b rfl) dX1_goNearer_70 (kC_mem (s := 3) (by decide) hw hg) rfl rfl rfl (le_b rfl) (le_b rfl) (le_b rfl) ?_
        show X l _ _ 0 0 false _ kC 0 0 73 [some (vR (20, 0, 0)), some (vR (1, w, 0)), some (vR (3, w, g)), some (vI a2), some (vR (3, w, p3))] [] (en r7)
        have hx := am_inj hf
        subst hx
        exact r_vret dX1_goNearer_73 rfl (le_b rfl) (le_b rfl)
      · have hf := (am_if hf).2 hc
        refine r_aload_n (x := (3, w, g)) dX1_goNearer_41 rfl ?_
        refine r_iconst (v := 2) dX1_goNearer_42 rfl ?_
        refine r_iconst (v := 1) dX1_goNearer_43 rfl ?_
        refine r_aload_n (x := (1, w, 0)) dX1_goNearer_44 rfl ?_
        refine r_iload_n (x := a2) dX1_goNearer_45 rfl ?_
        refine r_aload_n (x := (3, w, g)) dX1_goNearer_46 rfl ?_
        refine e_geti_ (x := u.1 (3, w, g) 7) fw_X1_92 dX1_goNearer_47 (kC_mem (s := 3) (by decide) hw hg) rfl (lt_b rfl) (by simp [pi, pl, pr, pci, pcl]) ?_
        obtain ⟨r9, hr10, hf⟩ := am_bind hf
        refine r_callV (as := [vI a2, vI (u.1 (3, w, g) 7)]) (st := [vI (1 : Int32), vI (2 : Int32), vR (3, w, g)]) (n := 2) mw_X1_61 mv_X8_hoursBetween (C_X8_hoursBetween (l := l) hw hr10) (le_b rfl) dX1_goNearer_50 (kC_mem (s := 1) (by decide) hw (by decide)) rfl rfl rfl (le_b rfl) (le_b rfl) (le_b rfl) ?_
        show X l _ _ 0 0 false _ kC 0 0 53 [some (vR (20, 0, 0)), some (vR (1, w, 0)), some (vR (3, w, g)), some (vI a2), some (vR (3, w, p3))] [vI r9, vI (1 : Int32), vI (2 : Int32), vR (3, w, g)] (en (pi u (3, w, g) 6 ((u.1 (3, w, g) 6) - (1 : Int32))))
        refine r_mmax jm_X1_99 js_max.1 js_max.2.1 js_max.2.2 dX1_goNearer_53 (le_b rfl) (le_b rfl) (le_b rfl) (le_b rfl) ?_
        refine r_aload_n (x := (3, w, g)) dX1_goNearer_56 rfl ?_
        refine e_geti_ (x := u.1 (3, w, g) 7) fw_X1_92 dX1_goNearer_57 (kC_mem (s := 3) (by decide) hw hg) rfl (lt_b rfl) (by simp [pi, pl, pr, pci, pcl]) ?_
        obtain ⟨r11, hr12, hf⟩ := am_bind hf
        refine r_callV (as := [vI (2 : Int32), vI (if (1 : Int32) < r9 then r9 else (1 : Int32)), vI (u.1 (3, w, g) 7)]) (st := []) (n := 3) mw_X1_64 mv_X2_setOut (C_X2_setOut (l := l) hw hg hr12) (le_b rfl) dX1_goNearer_60 (kC_mem (s := 3) (by decide) hw hg) rfl rfl rfl (le_b rfl) (le_b rfl) (le_b rfl) ?_
        show X l _ _ 0 0 false _ kC 0 0 63 [some (vR (20, 0, 0)), some (vR (1, w, 0)), some (vR (3, w, g)), some (vI a2), some (vR (3, w, p3))] [] (en r11)
        refine r_goto (tgt := 73) dX1_goNearer_63 (by decide) ?_
        have hx := am_inj hf
        subst hx
        exact r_vret dX1_goNearer_73 rfl (le_b rfl) (le_b rfl)
  · have hf := (am_if hf).2 hc
    have hx := am_inj hf
    subst hx
    exact r_vret dX1_goNearer_17 rfl (le_b rfl) (le_b rfl)
/-! FireFromFire$Hours.bringNearer -/
theorem dX1_bringNearer_0 : decode cX1_bringNearer 0 = .ok (.aload_n 1, 1) := by decide +kernel
theorem dX1_bringNearer_1 : decode cX1_bringNearer 1 = .ok (.dup, 1) := by decide +kernel
theorem dX1_bringNearer_2 : decode cX1_bringNearer 2 = .ok (.getfield 89, 3) := by decide +kernel
theorem dX1_bringNearer_5 : decode cX1_bringNearer 5 = .ok (.iconst 1, 1) := by decide +kernel
theorem dX1_bringNearer_6 : decode cX1_bringNearer 6 = .ok (.isub, 1) := by decide +kernel
theorem dX1_bringNearer_7 : decode cX1_bringNearer 7 = .ok (.putfield 89, 3) := by decide +kernel
theorem dX1_bringNearer_10 : decode cX1_bringNearer 10 = .ok (.aload_n 1, 1) := by decide +kernel
theorem dX1_bringNearer_11 : decode cX1_bringNearer 11 = .ok (.dup, 1) := by decide +kernel
theorem dX1_bringNearer_12 : decode cX1_bringNearer 12 = .ok (.getfield 104, 3) := by decide +kernel
theorem dX1_bringNearer_15 : decode cX1_bringNearer 15 = .ok (.iconst 1, 1) := by decide +kernel
theorem dX1_bringNearer_16 : decode cX1_bringNearer 16 = .ok (.iadd, 1) := by decide +kernel
theorem dX1_bringNearer_17 : decode cX1_bringNearer 17 = .ok (.putfield 104, 3) := by decide +kernel
theorem dX1_bringNearer_20 : decode cX1_bringNearer 20 = .ok (.iload_n 2, 1) := by decide +kernel
theorem dX1_bringNearer_21 : decode cX1_bringNearer 21 = .ok (.ifCond .lt 22, 3) := by decide +kernel
theorem dX1_bringNearer_24 : decode cX1_bringNearer 24 = .ok (.iload_n 2, 1) := by decide +kernel
theorem dX1_bringNearer_25 : decode cX1_bringNearer 25 = .ok (.bipush 6, 2) := by decide +kernel
theorem dX1_bringNearer_27 : decode cX1_bringNearer 27 = .ok (.if_icmp .ge 16, 3) := by decide +kernel
theorem dX1_bringNearer_30 : decode cX1_bringNearer 30 = .ok (.aload_n 1, 1) := by decide +kernel
theorem dX1_bringNearer_31 : decode cX1_bringNearer 31 = .ok (.getfield 104, 3) := by decide +kernel
theorem dX1_bringNearer_34 : decode cX1_bringNearer 34 = .ok (.aload_n 0, 1) := by decide +kernel
theorem dX1_bringNearer_35 : decode cX1_bringNearer 35 = .ok (.getfield 25, 3) := by decide +kernel
theorem dX1_bringNearer_38 : decode cX1_bringNearer 38 = .ok (.iload_n 2, 1) := by decide +kernel
theorem dX1_bringNearer_39 : decode cX1_bringNearer 39 = .ok (.iaload, 1) := by decide +kernel
theorem dX1_bringNearer_40 : decode cX1_bringNearer 40 = .ok (.if_icmp .le 13, 3) := by decide +kernel
theorem dX1_bringNearer_43 : decode cX1_bringNearer 43 = .ok (.aload_n 1, 1) := by decide +kernel
theorem dX1_bringNearer_44 : decode cX1_bringNearer 44 = .ok (.iconst 0, 1) := by decide +kernel
theorem dX1_bringNearer_45 : decode cX1_bringNearer 45 = .ok (.iconst 0, 1) := by decide +kernel
theorem dX1_bringNearer_46 : decode cX1_bringNearer 46 = .ok (.iconst 0, 1) := by decide +kernel
theorem dX1_bringNearer_47 : decode cX1_bringNearer 47 = .ok (.invokevirtual 64, 3) := by decide +kernel
theorem dX1_bringNearer_50 : decode cX1_bringNearer 50 = .ok (.goto 22, 3) := by decide +kernel
theorem dX1_bringNearer_53 : decode cX1_bringNearer 53 = .ok (.aload_n 1, 1) := by decide +kernel
theorem dX1_bringNearer_54 : decode cX1_bringNearer 54 = .ok (.getfield 89, 3) := by decide +kernel
theorem dX1_bringNearer_57 : decode cX1_bringNearer 57 = .ok (.ifCond .gt 15, 3) := by decide +kernel
theorem dX1_bringNearer_60 : decode cX1_bringNearer 60 = .ok (.aload_n 1, 1) := by decide +kernel
theorem dX1_bringNearer_61 : decode cX1_bringNearer 61 = .ok (.iconst 1, 1) := by decide +kernel
theorem dX1_bringNearer_62 : decode cX1_bringNearer 62 = .ok (.putfield 44, 3) := by decide +kernel
theorem dX1_bringNearer_65 : decode cX1_bringNearer 65 = .ok (.aload_n 1, 1) := by decide +kernel
theorem dX1_bringNearer_66 : decode cX1_bringNearer 66 = .ok (.iconst 0, 1) := by decide +kernel
theorem dX1_bringNearer_67 : decode cX1_bringNearer 67 = .ok (.iconst 0, 1) := by decide +kernel
theorem dX1_bringNearer_68 : decode cX1_bringNearer 68 = .ok (.iconst 0, 1) := by decide +kernel
theorem dX1_bringNearer_69 : decode cX1_bringNearer 69 = .ok (.invokevirtual 64, 3) := by decide +kernel
theorem dX1_bringNearer_72 : decode cX1_bringNearer 72 = .ok (.return_, 1) := by decide +kernel
def f_X1_bringNearer (w : Nat) (g : Nat) (a1 : Int32) (u : PM) : Option (PM) :=
  if a1 < 0 then
    (f_X2_setOut w g (0 : Int32) (0 : Int32) (0 : Int32) (pi (pi u (3, w, g) 6 ((u.1 (3, w, g) 6) - (1 : Int32))) (3, w, g) 8 ((u.1 (3, w, g) 8) + (1 : Int32)))).bind fun r1 =>
    some r1
  else
  if (6 : Int32) ≤ a1 then
    (f_X2_setOut w g (0 : Int32) (0 : Int32) (0 : Int32) (pi (pi u (3, w, g) 6 ((u.1 (3, w, g) 6) - (1 : Int32))) (3, w, g) 8 ((u.1 (3, w, g) 8) + (1 : Int32)))).bind fun r3 =>
    some r3
  else
  if a1 < 0 ∨ 6 ≤ a1.toNatClampNeg then none else
  if ((u.1 (3, w, g) 8) + (1 : Int32)) ≤ (u.1 (23, 0, 0) a1.toNatClampNeg) then
    if 0 < ((u.1 (3, w, g) 6) - (1 : Int32)) then
      some (pi (pi u (3, w, g) 6 ((u.1 (3, w, g) 6) - (1 : Int32))) (3, w, g) 8 ((u.1 (3, w, g) 8) + (1 : Int32)))
    else
    (f_X2_setOut w g (0 : Int32) (0 : Int32) (0 : Int32) (pi (pi (pi u (3, w, g) 6 ((u.1 (3, w, g) 6) - (1 : Int32))) (3, w, g) 8 ((u.1 (3, w, g) 8) + (1 : Int32))) (3, w, g) 1 (1 : Int32))).bind fun r6 =>
    some r6
  else
  (f_X2_setOut w g (0 : Int32) (0 : Int32) (0 : Int32) (pi (pi u (3, w, g) 6 ((u.1 (3, w, g) 6) - (1 : Int32))) (3, w, g) 8 ((u.1 (3, w, g) 8) + (1 : Int32)))).bind fun r8 =>
  some r8
set_option maxHeartbeats 4000000 in
set_option maxRecDepth 20000 in
theorem C_X1_bringNearer {l : Launch} {w : Nat} (hw : w < 4) {g : Nat} (hg : g < 6) {a1 : Int32} {u : PM} {x : PM} (hf : f_X1_bringNearer w g a1 u = some x) : Ev l mX1_bringNearer 2 0 0 false [vR (20, 0, 0), vR (3, w, g), vI a1] kC (en u) (none, kC, en x) := by
  refine Ev_of (by decide +kernel) (le_b rfl) ?_
  unfold f_X1_bringNearer at hf
  show X l mX1_bringNearer 2 0 0 false _ kC 0 0 0 [some (vR (20, 0, 0)), some (vR (3, w, g)), some (vI a1)] [] (en u)
  refine r_aload_n (x := (3, w, g)) dX1_bringNearer_0 rfl ?_
  refine r_dup dX1_bringNearer_1 rfl ?_
  refine e_geti fw_X1_89 dX1_bringNearer_2 (kC_mem (s := 3) (by decide) hw hg) rfl (lt_b rfl) ?_
  refine r_iconst (v := 1) dX1_bringNearer_5 rfl ?_
  refine r_isub dX1_bringNearer_6 ?_
  refine e_puti fp_X1_89 dX1_bringNearer_7 (kC_mem (s := 3) (by decide) hw hg) rfl (lt_b rfl) rfl rfl rfl ?_
  refine r_aload_n (x := (3, w, g)) dX1_bringNearer_10 rfl ?_
  refine r_dup dX1_bringNearer_11 rfl ?_
  refine e_geti_ (x := u.1 (3, w, g) 8) fw_X1_104 dX1_bringNearer_12 (kC_mem (s := 3) (by decide) hw hg) rfl (lt_b rfl) (by simp [pi, pl, pr, pci, pcl]) ?_
  refine r_iconst (v := 1) dX1_bringNearer_15 rfl ?_
  refine r_iadd dX1_bringNearer_16 ?_
  refine e_puti fp_X1_104 dX1_bringNearer_17 (kC_mem (s := 3) (by decide) hw hg) rfl (lt_b rfl) rfl rfl rfl ?_
  refine r_iload_n (x := a1) dX1_bringNearer_20 rfl ?_
  refine r_if_lt (tgt := 43) dX1_bringNearer_21 (by decide) (fun hc => ?_) (fun hc => ?_)
  · have hf := (am_if hf).1 hc
    refine r_aload_n (x := (3, w, g)) dX1_bringNearer_43 rfl ?_
    refine r_iconst (v := 0) dX1_bringNearer_44 rfl ?_
    refine r_iconst (v := 0) dX1_bringNearer_45 rfl ?_
    refine r_iconst (v := 0) dX1_bringNearer_46 rfl ?_
    obtain ⟨r1, hr2, hf⟩ := am_bind hf
    refine r_callV (as := [vI (0 : Int32), vI (0 : Int32), vI (0 : Int32)]) (st := []) (n := 3) mw_X1_64 mv_X2_setOut (C_X2_setOut (l := l) hw hg hr2) (le_b rfl) dX1_bringNearer_47 (kC_mem (s := 3) (by decide) hw hg) rfl rfl rfl (le_b rfl) (le_b rfl) (le_b rfl) ?_
    show X l _ _ 0 0 false _ kC 0 0 50 [some (vR (20, 0, 0)), some (vR (3, w, g)), some (vI a1)] [] (en r1)
    refine r_goto (tgt := 72) dX1_bringNearer_50 (by decide) ?_
    have hx := am_inj hf
    subst hx
    exact r_vret dX1_bringNearer_72 rfl (le_b rfl) (le_b rfl)
  · have hf := (am_if hf).2 hc
    refine r_iload_n (x := a1) dX1_bringNearer_24 rfl ?_
    refine r_bipush (v := 6) dX1_bringNearer_25 rfl ?_
    refine r_icmp_ge (tgt := 43) dX1_bringNearer_27 (by decide) (fun hc => ?_) (fun hc => ?_)
    · have hf := (am_if hf).1 hc
      refine r_aload_n (x := (3, w, g)) dX1_bringNearer_43 rfl ?_
      refine r_iconst (v := 0) dX1_bringNearer_44 rfl ?_
      refine r_iconst (v := 0) dX1_bringNearer_45 rfl ?_
      refine r_iconst (v := 0) dX1_bringNearer_46 rfl ?_
      obtain ⟨r3, hr4, hf⟩ := am_bind hf
      refine r_callV (as := [vI (0 : Int32), vI (0 : Int32), vI (0 : Int32)]) (st := []) (n := 3) mw_X1_64 mv_X2_setOut (C_X2_setOut (l := l) hw hg hr4) (le_b rfl) dX1_bringNearer_47 (kC_mem (s := 3) (by decide) hw hg) rfl rfl rfl (le_b rfl) (le_b rfl) (le_b rfl) ?_
      show X l _ _ 0 0 false _ kC 0 0 50 [some (vR (20, 0, 0)), some (vR (3, w, g)), some (vI a1)] [] (en r3)
      refine r_goto (tgt := 72) dX1_bringNearer_50 (by decide) ?_
      have hx := am_inj hf
      subst hx
      exact r_vret dX1_bringNearer_72 rfl (le_b rfl) (le_b rfl)
    · have hf := (am_if hf).2 hc
      refine r_aload_n (x := (3, w, g)) dX1_bringNearer_30 rfl ?_
      refine e_geti_ (x := (u.1 (3, w, g) 8) + (1 : Int32)) fw_X1_104 dX1_bringNearer_31 (kC_mem (s := 3) (by decide) hw hg) rfl (lt_b rfl) (by simp [pi, pl, pr, pci, pcl]) ?_
      refine r_aload_n (x := (20, 0, 0)) dX1_bringNearer_34 rfl ?_
      refine e_getr (z := some (23, 0, 0)) fw_X1_25 dX1_bringNearer_35 (kC_mem (s := 20) (by decide) (by decide) (by decide)) rfl (lt_b rfl) rfl ?_
      refine r_iload_n (x := a1) dX1_bringNearer_38 rfl ?_
      obtain ⟨h5, hf⟩ := am_nchk hf
      refine e_iald (n := a1.toNatClampNeg) (x := u.1 (23, 0, 0) a1.toNatClampNeg) dX1_bringNearer_39 (kC_mem (s := 23) (by decide) (by decide) (by decide)) rfl h5 rfl (by simp [pi, pl, pr, pci, pcl]) ?_
      refine r_icmp_le (tgt := 53) dX1_bringNearer_40 (by decide) (fun hc => ?_) (fun hc => ?_)
      · have hf := (am_if hf).1 hc
        refine r_aload_n (x := (3, w, g)) dX1_bringNearer_53 rfl ?_
        refine e_geti_ (x := (u.1 (3, w, g) 6) - (1 : Int32)) fw_X1_89 dX1_bringNearer_54 (kC_mem (s := 3) (by decide) hw hg) rfl (lt_b rfl) (by simp [pi, pl, pr, pci, pcl]) ?_
        refine r_if_gt (tgt := 72) dX1_bringNearer_57 (by decide) (fun hc => ?_) (fun hc => ?_)
        · have hf := (am_if hf).1 hc
          have hx := am_inj hf
          subst hx
          exact r_vret dX1_bringNearer_72 rfl (le_b rfl) (le_b rfl)
        · have hf := (am_if hf).2 hc
          refine r_aload_n (x := (3, w, g)) dX1_bringNearer_60 rfl ?_
          refine r_iconst (v := 1) dX1_bringNearer_61 rfl ?_
          refine e_puti fp_X1_44 dX1_bringNearer_62 (kC_mem (s := 3) (by decide) hw hg) rfl (lt_b rfl) rfl (am_bool (x := 1) (by decide)).1 (am_bool (x := 1) (by decide)).2 ?_
          refine r_aload_n (x := (3, w, g)) dX1_bringNearer_65 rfl ?_
          refine r_iconst (v := 0) dX1_bringNearer_66 rfl ?_
          refine r_iconst (v := 0) dX1_bringNearer_67 rfl ?_
          refine r_iconst (v := 0) dX1_bringNearer_68 rfl ?_
          obtain ⟨r6, hr7, hf⟩ := am_bind hf
          refine r_callV (as := [vI (0 : Int32), vI (0 : Int32), vI (0 : Int32)]) (st := []) (n := 3) mw_X1_64 mv_X2_setOut (C_X2_setOut (l := l) hw hg hr7) (le_b rfl) dX1_bringNearer_69 (kC_mem (s := 3) (by decide) hw hg) rfl rfl rfl (le_b rfl) (le_b rfl) (le_b rfl) ?_
          show X l _ _ 0 0 false _ kC 0 0 72 [some (vR (20, 0, 0)), some (vR (3, w, g)), some (vI a1)] [] (en r6)
          have hx := am_inj hf
          subst hx
          exact r_vret dX1_bringNearer_72 rfl (le_b rfl) (le_b rfl)
      · have hf := (am_if hf).2 hc
        refine r_aload_n (x := (3, w, g)) dX1_bringNearer_43 rfl ?_
        refine r_iconst (v := 0) dX1_bringNearer_44 rfl ?_
        refine r_iconst (v := 0) dX1_bringNearer_45 rfl ?_
        refine r_iconst (v := 0) dX1_bringNearer_46 rfl ?_
        obtain ⟨r8, hr9, hf⟩ := am_bind hf
        refine r_callV (as := [vI (0 : Int32), vI (0 : Int32), vI (0 : Int32)]) (st := []) (n := 3) mw_X1_64 mv_X2_setOut (C_X2_setOut (l := l) hw hg hr9) (le_b rfl) dX1_bringNearer_47 (kC_mem (s := 3) (by decide) hw hg) rfl rfl rfl (le_b rfl) (le_b rfl) (le_b rfl) ?_
        show X l _ _ 0 0 false _ kC 0 0 50 [some (vR (20, 0, 0)), some (vR (3, w, g)), some (vI a1)] [] (en r8)
        refine r_goto (tgt := 72) dX1_bringNearer_50 (by decide) ?_
        have hx := am_inj hf
        subst hx
        exact r_vret dX1_bringNearer_72 rfl (le_b rfl) (le_b rfl)
/-! FireFromFire$Hours.pass -/
theorem dX1_pass_0 : decode cX1_pass 0 = .ok (.iconst 0, 1) := by decide +kernel
theorem dX1_pass_1 : decode cX1_pass 1 = .ok (.istore 4, 2) := by decide +kernel
theorem dX1_pass_3 : decode cX1_pass 3 = .ok (.iload 4, 2) := by decide +kernel
theorem dX1_pass_5 : decode cX1_pass 5 = .ok (.aload_n 1, 1) := by decide +kernel
theorem dX1_pass_6 : decode cX1_pass 6 = .ok (.getfield 31, 3) := by decide +kernel
theorem dX1_pass_9 : decode cX1_pass 9 = .ok (.if_icmp .ge 121, 3) := by decide +kernel
theorem dX1_pass_12 : decode cX1_pass 12 = .ok (.iload 4, 2) := by decide +kernel
theorem dX1_pass_14 : decode cX1_pass 14 = .ok (.bipush 6, 2) := by decide +kernel
theorem dX1_pass_16 : decode cX1_pass 16 = .ok (.if_icmp .ge 114, 3) := by decide +kernel
theorem dX1_pass_19 : decode cX1_pass 19 = .ok (.aload_n 0, 1) := by decide +kernel
theorem dX1_pass_20 : decode cX1_pass 20 = .ok (.getfield 18, 3) := by decide +kernel
theorem dX1_pass_23 : decode cX1_pass 23 = .ok (.iload 4, 2) := by decide +kernel
theorem dX1_pass_25 : decode cX1_pass 25 = .ok (.aload_n 1, 1) := by decide +kernel
theorem dX1_pass_26 : decode cX1_pass 26 = .ok (.iload 4, 2) := by decide +kernel
theorem dX1_pass_28 : decode cX1_pass 28 = .ok (.iload_n 2, 1) := by decide +kernel
theorem dX1_pass_29 : decode cX1_pass 29 = .ok (.invokevirtual 50, 3) := by decide +kernel
theorem dX1_pass_32 : decode cX1_pass 32 = .ok (.iastore, 1) := by decide +kernel
theorem dX1_pass_33 : decode cX1_pass 33 = .ok (.aload_n 0, 1) := by decide +kernel
theorem dX1_pass_34 : decode cX1_pass 34 = .ok (.getfield 22, 3) := by decide +kernel
theorem dX1_pass_37 : decode cX1_pass 37 = .ok (.iload 4, 2) := by decide +kernel
theorem dX1_pass_39 : decode cX1_pass 39 = .ok (.aload_n 0, 1) := by decide +kernel
theorem dX1_pass_40 : decode cX1_pass 40 = .ok (.getfield 18, 3) := by decide +kernel
theorem dX1_pass_43 : decode cX1_pass 43 = .ok (.iload 4, 2) := by decide +kernel
theorem dX1_pass_45 : decode cX1_pass 45 = .ok (.iaload, 1) := by decide +kernel
theorem dX1_pass_46 : decode cX1_pass 46 = .ok (.iconst 1, 1) := by decide +kernel
theorem dX1_pass_47 : decode cX1_pass 47 = .ok (.if_icmp .ne 14, 3) := by decide +kernel
theorem dX1_pass_50 : decode cX1_pass 50 = .ok (.aload_n 1, 1) := by decide +kernel
theorem dX1_pass_51 : decode cX1_pass 51 = .ok (.iconst 1, 1) := by decide +kernel
theorem dX1_pass_52 : decode cX1_pass 52 = .ok (.iload 4, 2) := by decide +kernel
theorem dX1_pass_54 : decode cX1_pass 54 = .ok (.iload_n 2, 1) := by decide +kernel
theorem dX1_pass_55 : decode cX1_pass 55 = .ok (.invokevirtual 36, 3) := by decide +kernel
theorem dX1_pass_58 : decode cX1_pass 58 = .ok (.goto 4, 3) := by decide +kernel
theorem dX1_pass_61 : decode cX1_pass 61 = .ok (.iconst 0, 1) := by decide +kernel
theorem dX1_pass_62 : decode cX1_pass 62 = .ok (.iastore, 1) := by decide +kernel
theorem dX1_pass_63 : decode cX1_pass 63 = .ok (.aload_n 0, 1) := by decide +kernel
theorem dX1_pass_64 : decode cX1_pass 64 = .ok (.getfield 25, 3) := by decide +kernel
theorem dX1_pass_67 : decode cX1_pass 67 = .ok (.iload 4, 2) := by decide +kernel
theorem dX1_pass_69 : decode cX1_pass 69 = .ok (.aload_n 1, 1) := by decide +kernel
theorem dX1_pass_70 : decode cX1_pass 70 = .ok (.getfield 40, 3) := by decide +kernel
theorem dX1_pass_73 : decode cX1_pass 73 = .ok (.iload 4, 2) := by decide +kernel
theorem dX1_pass_75 : decode cX1_pass 75 = .ok (.aaload, 1) := by decide +kernel
theorem dX1_pass_76 : decode cX1_pass 76 = .ok (.getfield 54, 3) := by decide +kernel
theorem dX1_pass_79 : decode cX1_pass 79 = .ok (.iconst 2, 1) := by decide +kernel
theorem dX1_pass_80 : decode cX1_pass 80 = .ok (.if_icmp .ne 14, 3) := by decide +kernel
theorem dX1_pass_83 : decode cX1_pass 83 = .ok (.aload_n 1, 1) := by decide +kernel
theorem dX1_pass_84 : decode cX1_pass 84 = .ok (.iconst 2, 1) := by decide +kernel
theorem dX1_pass_85 : decode cX1_pass 85 = .ok (.iload 4, 2) := by decide +kernel
theorem dX1_pass_87 : decode cX1_pass 87 = .ok (.iload_n 2, 1) := by decide +kernel
theorem dX1_pass_88 : decode cX1_pass 88 = .ok (.invokevirtual 36, 3) := by decide +kernel
theorem dX1_pass_91 : decode cX1_pass 91 = .ok (.goto 4, 3) := by decide +kernel
theorem dX1_pass_94 : decode cX1_pass 94 = .ok (.iconst 0, 1) := by decide +kernel
theorem dX1_pass_95 : decode cX1_pass 95 = .ok (.iastore, 1) := by decide +kernel
theorem dX1_pass_96 : decode cX1_pass 96 = .ok (.aload_n 0, 1) := by decide +kernel
theorem dX1_pass_97 : decode cX1_pass 97 = .ok (.getfield 28, 3) := by decide +kernel
theorem dX1_pass_100 : decode cX1_pass 100 = .ok (.iload 4, 2) := by decide +kernel
theorem dX1_pass_102 : decode cX1_pass 102 = .ok (.aload_n 0, 1) := by decide +kernel
theorem dX1_pass_103 : decode cX1_pass 103 = .ok (.getfield 18, 3) := by decide +kernel
theorem dX1_pass_106 : decode cX1_pass 106 = .ok (.iload 4, 2) := by decide +kernel
theorem dX1_pass_108 : decode cX1_pass 108 = .ok (.iaload, 1) := by decide +kernel
theorem dX1_pass_109 : decode cX1_pass 109 = .ok (.iconst 3, 1) := by decide +kernel
theorem dX1_pass_110 : decode cX1_pass 110 = .ok (.if_icmp .ne 12, 3) := by decide +kernel
theorem dX1_pass_113 : decode cX1_pass 113 = .ok (.aload_n 1, 1) := by decide +kernel
theorem dX1_pass_114 : decode cX1_pass 114 = .ok (.iload 4, 2) := by decide +kernel
theorem dX1_pass_116 : decode cX1_pass 116 = .ok (.invokevirtual 57, 3) := by decide +kernel
theorem dX1_pass_119 : decode cX1_pass 119 = .ok (.goto 4, 3) := by decide +kernel
theorem dX1_pass_122 : decode cX1_pass 122 = .ok (.iconst (-1), 1) := by decide +kernel
theorem dX1_pass_123 : decode cX1_pass 123 = .ok (.iastore, 1) := by decide +kernel
theorem dX1_pass_124 : decode cX1_pass 124 = .ok (.iinc 4 1, 3) := by decide +kernel
theorem dX1_pass_127 : decode cX1_pass 127 = .ok (.goto (-124), 3) := by decide +kernel
theorem dX1_pass_130 : decode cX1_pass 130 = .ok (.iconst 0, 1) := by decide +kernel
theorem dX1_pass_131 : decode cX1_pass 131 = .ok (.istore 4, 2) := by decide +kernel
theorem dX1_pass_133 : decode cX1_pass 133 = .ok (.iload 4, 2) := by decide +kernel
theorem dX1_pass_135 : decode cX1_pass 135 = .ok (.aload_n 1, 1) := by decide +kernel
theorem dX1_pass_136 : decode cX1_pass 136 = .ok (.getfield 31, 3) := by decide +kernel
theorem dX1_pass_139 : decode cX1_pass 139 = .ok (.if_icmp .ge 82, 3) := by decide +kernel
theorem dX1_pass_142 : decode cX1_pass 142 = .ok (.iload 4, 2) := by decide +kernel
theorem dX1_pass_144 : decode cX1_pass 144 = .ok (.bipush 6, 2) := by decide +kernel
theorem dX1_pass_146 : decode cX1_pass 146 = .ok (.if_icmp .ge 75, 3) := by decide +kernel
theorem dX1_pass_149 : decode cX1_pass 149 = .ok (.aload_n 1, 1) := by decide +kernel
theorem dX1_pass_150 : decode cX1_pass 150 = .ok (.getfield 40, 3) := by decide +kernel
theorem dX1_pass_153 : decode cX1_pass 153 = .ok (.iload 4, 2) := by decide +kernel
theorem dX1_pass_155 : decode cX1_pass 155 = .ok (.aaload, 1) := by decide +kernel
theorem dX1_pass_156 : decode cX1_pass 156 = .ok (.astore 5, 2) := by decide +kernel
theorem dX1_pass_158 : decode cX1_pass 158 = .ok (.aload_n 0, 1) := by decide +kernel
theorem dX1_pass_159 : decode cX1_pass 159 = .ok (.getfield 18, 3) := by decide +kernel
theorem dX1_pass_162 : decode cX1_pass 162 = .ok (.iload 4, 2) := by decide +kernel
theorem dX1_pass_164 : decode cX1_pass 164 = .ok (.iaload, 1) := by decide +kernel
theorem dX1_pass_165 : decode cX1_pass 165 = .ok (.iconst 3, 1) := by decide +kernel
theorem dX1_pass_166 : decode cX1_pass 166 = .ok (.if_icmp .ne 32, 3) := by decide +kernel
theorem dX1_pass_169 : decode cX1_pass 169 = .ok (.aload 5, 2) := by decide +kernel
theorem dX1_pass_171 : decode cX1_pass 171 = .ok (.iconst 1, 1) := by decide +kernel
theorem dX1_pass_172 : decode cX1_pass 172 = .ok (.aload_n 1, 1) := by decide +kernel
theorem dX1_pass_173 : decode cX1_pass 173 = .ok (.iload 4, 2) := by decide +kernel
theorem dX1_pass_175 : decode cX1_pass 175 = .ok (.aload_n 0, 1) := by decide +kernel
theorem dX1_pass_176 : decode cX1_pass 176 = .ok (.getfield 28, 3) := by decide +kernel
theorem dX1_pass_179 : decode cX1_pass 179 = .ok (.iload 4, 2) := by decide +kernel
theorem dX1_pass_181 : decode cX1_pass 181 = .ok (.iaload, 1) := by decide +kernel
theorem dX1_pass_182 : decode cX1_pass 182 = .ok (.invokevirtual 61, 3) := by decide +kernel
theorem dX1_pass_185 : decode cX1_pass 185 = .ok (.aload_n 0, 1) := by decide +kernel
theorem dX1_pass_186 : decode cX1_pass 186 = .ok (.getfield 28, 3) := by decide +kernel
theorem dX1_pass_189 : decode cX1_pass 189 = .ok (.iload 4, 2) := by decide +kernel
theorem dX1_pass_191 : decode cX1_pass 191 = .ok (.iaload, 1) := by decide +kernel
theorem dX1_pass_192 : decode cX1_pass 192 = .ok (.invokevirtual 64, 3) := by decide +kernel
theorem dX1_pass_195 : decode cX1_pass 195 = .ok (.goto 20, 3) := by decide +kernel
theorem dX1_pass_198 : decode cX1_pass 198 = .ok (.aload 5, 2) := by decide +kernel
theorem dX1_pass_200 : decode cX1_pass 200 = .ok (.getfield 44, 3) := by decide +kernel
theorem dX1_pass_203 : decode cX1_pass 203 = .ok (.ifCond .eq 12, 3) := by decide +kernel
theorem dX1_pass_206 : decode cX1_pass 206 = .ok (.aload_n 0, 1) := by decide +kernel
theorem dX1_pass_207 : decode cX1_pass 207 = .ok (.aload 5, 2) := by decide +kernel
theorem dX1_pass_209 : decode cX1_pass 209 = .ok (.iload 4, 2) := by decide +kernel
theorem dX1_pass_211 : decode cX1_pass 211 = .ok (.iload_n 3, 1) := by decide +kernel
theorem dX1_pass_212 : decode cX1_pass 212 = .ok (.invokevirtual 68, 3) := by decide +kernel
theorem dX1_pass_215 : decode cX1_pass 215 = .ok (.iinc 4 1, 3) := by decide +kernel
theorem dX1_pass_218 : decode cX1_pass 218 = .ok (.goto (-85), 3) := by decide +kernel
theorem dX1_pass_221 : decode cX1_pass 221 = .ok (.iconst 0, 1) := by decide +kernel
theorem dX1_pass_222 : decode cX1_pass 222 = .ok (.istore 4, 2) := by decide +kernel
theorem dX1_pass_224 : decode cX1_pass 224 = .ok (.iload 4, 2) := by decide +kernel
theorem dX1_pass_226 : decode cX1_pass 226 = .ok (.aload_n 1, 1) := by decide +kernel
theorem dX1_pass_227 : decode cX1_pass 227 = .ok (.getfield 31, 3) := by decide +kernel
theorem dX1_pass_230 : decode cX1_pass 230 = .ok (.if_icmp .ge 63, 3) := by decide +kernel
theorem dX1_pass_233 : decode cX1_pass 233 = .ok (.iload 4, 2) := by decide +kernel
theorem dX1_pass_235 : decode cX1_pass 235 = .ok (.bipush 6, 2) := by decide +kernel
theorem dX1_pass_237 : decode cX1_pass 237 = .ok (.if_icmp .ge 56, 3) := by decide +kernel
theorem dX1_pass_240 : decode cX1_pass 240 = .ok (.aload_n 1, 1) := by decide +kernel
theorem dX1_pass_241 : decode cX1_pass 241 = .ok (.getfield 40, 3) := by decide +kernel
theorem dX1_pass_244 : decode cX1_pass 244 = .ok (.iload 4, 2) := by decide +kernel
theorem dX1_pass_246 : decode cX1_pass 246 = .ok (.aaload, 1) := by decide +kernel
theorem dX1_pass_247 : decode cX1_pass 247 = .ok (.astore 5, 2) := by decide +kernel
theorem dX1_pass_249 : decode cX1_pass 249 = .ok (.aload 5, 2) := by decide +kernel
theorem dX1_pass_251 : decode cX1_pass 251 = .ok (.getfield 54, 3) := by decide +kernel
theorem dX1_pass_254 : decode cX1_pass 254 = .ok (.iconst 1, 1) := by decide +kernel
theorem dX1_pass_255 : decode cX1_pass 255 = .ok (.if_icmp .ne 15, 3) := by decide +kernel
theorem dX1_pass_258 : decode cX1_pass 258 = .ok (.aload_n 0, 1) := by decide +kernel
theorem dX1_pass_259 : decode cX1_pass 259 = .ok (.aload_n 1, 1) := by decide +kernel
theorem dX1_pass_260 : decode cX1_pass 260 = .ok (.aload 5, 2) := by decide +kernel
theorem dX1_pass_262 : decode cX1_pass 262 = .ok (.iload 4, 2) := by decide +kernel
theorem dX1_pass_264 : decode cX1_pass 264 = .ok (.invokevirtual 72, 3) := by decide +kernel
theorem dX1_pass_267 : decode cX1_pass 267 = .ok (.goto 20, 3) := by decide +kernel
theorem dX1_pass_270 : decode cX1_pass 270 = .ok (.aload 5, 2) := by decide +kernel
theorem dX1_pass_272 : decode cX1_pass 272 = .ok (.getfield 54, 3) := by decide +kernel
theorem dX1_pass_275 : decode cX1_pass 275 = .ok (.iconst 2, 1) := by decide +kernel
theorem dX1_pass_276 : decode cX1_pass 276 = .ok (.if_icmp .ne 11, 3) := by decide +kernel
theorem dX1_pass_279 : decode cX1_pass 279 = .ok (.aload_n 0, 1) := by decide +kernel
theorem dX1_pass_280 : decode cX1_pass 280 = .ok (.aload 5, 2) := by decide +kernel
theorem dX1_pass_282 : decode cX1_pass 282 = .ok (.iload 4, 2) := by decide +kernel
theorem dX1_pass_284 : decode cX1_pass 284 = .ok (.invokevirtual 76, 3) := by decide +kernel
theorem dX1_pass_287 : decode cX1_pass 287 = .ok (.iinc 4 1, 3) := by decide +kernel
theorem dX1_pass_290 : decode cX1_pass 290 = .ok (.goto (-66), 3) := by decide +kernel
theorem dX1_pass_293 : decode cX1_pass 293 = .ok (.aload_n 1, 1) := by decide +kernel
theorem dX1_pass_294 : decode cX1_pass 294 = .ok (.iload_n 2, 1) := by decide +kernel
theorem dX1_pass_295 : decode cX1_pass 295 = .ok (.putfield 80, 3) := by decide +kernel
theorem dX1_pass_298 : decode cX1_pass 298 = .ok (.aload_n 1, 1) := by decide +kernel
theorem dX1_pass_299 : decode cX1_pass 299 = .ok (.dup, 1) := by decide +kernel
theorem dX1_pass_300 : decode cX1_pass 300 = .ok (.getfield 83, 3) := by decide +kernel
theorem dX1_pass_303 : decode cX1_pass 303 = .ok (.iconst 1, 1) := by decide +kernel
theorem dX1_pass_304 : decode cX1_pass 304 = .ok (.iadd, 1) := by decide +kernel
theorem dX1_pass_305 : decode cX1_pass 305 = .ok (.putfield 83, 3) := by decide +kernel
theorem dX1_pass_308 : decode cX1_pass 308 = .ok (.return_, 1) := by decide +kernel
def f_X1_pass_L3 (n0 : Nat) (c2 : Int32) (c3 : Int32) : Int32 × PM → Option ((Int32 × PM) ⊕ (PM)) := fun (x4 , u) =>
  if (u.1 (1, n0, 0) 0) ≤ x4 then
    some (.inr (u))
  else
  if (6 : Int32) ≤ x4 then
    some (.inr (u))
  else
  (f_X8_choice n0 x4 c2 u).bind fun (r1, u3) =>
  if x4 < 0 ∨ 6 ≤ x4.toNatClampNeg then none else
  if r1 = (1 : Int32) then
    (f_X8_sum n0 (1 : Int32) x4 c2 (pi u3 (21, 0, 0) x4.toNatClampNeg r1)).bind fun (r12, u14) =>
    if (u14.1 (3, n0, x4.toNatClampNeg) 5) = (2 : Int32) then
      (f_X8_sum n0 (2 : Int32) x4 c2 (pi u14 (22, 0, 0) x4.toNatClampNeg r12)).bind fun (r17, u19) =>
      if (u19.1 (21, 0, 0) x4.toNatClampNeg) = (3 : Int32) then
        (f_X8_nearestFire n0 x4 (pi u19 (23, 0, 0) x4.toNatClampNeg r17)).bind fun r20 =>
        some (.inl (x4 + (1 : Int32), (pi (pi u19 (23, 0, 0) x4.toNatClampNeg r17) (24, 0, 0) x4.toNatClampNeg r20)))
      else
      some (.inl (x4 + (1 : Int32), (pi (pi u19 (23, 0, 0) x4.toNatClampNeg r17) (24, 0, 0) x4.toNatClampNeg (-1 : Int32))))
    else
    if (u14.1 (21, 0, 0) x4.toNatClampNeg) = (3 : Int32) then
      (f_X8_nearestFire n0 x4 (pi (pi u14 (22, 0, 0) x4.toNatClampNeg r12) (23, 0, 0) x4.toNatClampNeg (0 : Int32))).bind fun r15 =>
      some (.inl (x4 + (1 : Int32), (pi (pi (pi u14 (22, 0, 0) x4.toNatClampNeg r12) (23, 0, 0) x4.toNatClampNeg (0 : Int32)) (24, 0, 0) x4.toNatClampNeg r15)))
    else
    some (.inl (x4 + (1 : Int32), (pi (pi (pi u14 (22, 0, 0) x4.toNatClampNeg r12) (23, 0, 0) x4.toNatClampNeg (0 : Int32)) (24, 0, 0) x4.toNatClampNeg (-1 : Int32))))
  else
  if (u3.1 (3, n0, x4.toNatClampNeg) 5) = (2 : Int32) then
    (f_X8_sum n0 (2 : Int32) x4 c2 (pi (pi u3 (21, 0, 0) x4.toNatClampNeg r1) (22, 0, 0) x4.toNatClampNeg (0 : Int32))).bind fun (r7, u9) =>
    if (u9.1 (21, 0, 0) x4.toNatClampNeg) = (3 : Int32) then
      (f_X8_nearestFire n0 x4 (pi u9 (23, 0, 0) x4.toNatClampNeg r7)).bind fun r10 =>
      some (.inl (x4 + (1 : Int32), (pi (pi u9 (23, 0, 0) x4.toNatClampNeg r7) (24, 0, 0) x4.toNatClampNeg r10)))
    else
    some (.inl (x4 + (1 : Int32), (pi (pi u9 (23, 0, 0) x4.toNatClampNeg r7) (24, 0, 0) x4.toNatClampNeg (-1 : Int32))))
  else
  if r1 = (3 : Int32) then
    (f_X8_nearestFire n0 x4 (pi (pi (pi u3 (21, 0, 0) x4.toNatClampNeg r1) (22, 0, 0) x4.toNatClampNeg (0 : Int32)) (23, 0, 0) x4.toNatClampNeg (0 : Int32))).bind fun r5 =>
    some (.inl (x4 + (1 : Int32), (pi (pi (pi (pi u3 (21, 0, 0) x4.toNatClampNeg r1) (22, 0, 0) x4.toNatClampNeg (0 : Int32)) (23, 0, 0) x4.toNatClampNeg (0 : Int32)) (24, 0, 0) x4.toNatClampNeg r5)))
  else
  some (.inl (x4 + (1 : Int32), (pi (pi (pi (pi u3 (21, 0, 0) x4.toNatClampNeg r1) (22, 0, 0) x4.toNatClampNeg (0 : Int32)) (23, 0, 0) x4.toNatClampNeg (0 : Int32)) (24, 0, 0) x4.toNatClampNeg (-1 : Int32))))
set_option maxHeartbeats 4000000 in
set_option maxRecDepth 20000 in
theorem K_X1_pass_L3 {l : Launch} {T : Option AV × List Key × AM} {n0 : Nat} (hn0 : n0 < 4) {c2 : Int32} {c3 : Int32} : ∀ (n : Nat) (s : Int32 × PM) (e0 : PM), am_loop (f_X1_pass_L3 n0 c2 c3) n s = some e0 → (fun e : PM => X l mX1_pass 6 0 0 false T kC 0 0 130 [some (vR (20, 0, 0)), some (vR (1, n0, 0)), some (vI c2), some (vI c3), none, none] [] (en e)) e0 → X l mX1_pass 6 0 0 false T kC 0 0 3 [some (vR (20, 0, 0)), some (vR (1, n0, 0)), some (vI c2), some (vI c3), some (vI s.1), none] [] (en s.2) := by
  refine am_loop_of ?_
  intro s x hf k1 k2
  obtain ⟨x4 , u⟩ := s
  unfold f_X1_pass_L3 at hf
  show X l mX1_pass 6 0 0 false T kC 0 0 3 [some (vR (20, 0, 0)), some (vR (1, n0, 0)), some (vI c2), some (vI c3), some (vI x4), none] [] (en u)
  refine r_iload (x := x4) dX1_pass_3 rfl ?_
  refine r_aload_n (x := (1, n0, 0)) dX1_pass_5 rfl ?_
  refine e_geti fw_X1_31 dX1_pass_6 (kC_mem (s := 1) (by decide) hn0 (by decide)) rfl (lt_b rfl) ?_
  refine r_icmp_ge (tgt := 130) dX1_pass_9 (by decide) (fun hc => ?_) (fun hc => ?_)
  · have hf := (am_if hf).1 hc
    refine r_weak (L' := [some (vR (20, 0, 0)), some (vR (1, n0, 0)), some (vI c2), some (vI c3), none, none]) (And.intro rfl (And.intro rfl (And.intro rfl (And.intro rfl trivial)))) ?_
    exact k2 (u) (am_inj hf).symm
  · have hf := (am_if hf).2 hc
    refine r_iload (x := x4) dX1_pass_12 rfl ?_
    refine r_bipush (v := 6) dX1_pass_14 rfl ?_
    refine r_icmp_ge (tgt := 130) dX1_pass_16 (by decide) (fun hc => ?_) (fun hc => ?_)
    · have hf := (am_if hf).1 hc
      refine r_weak (L' := [some (vR (20, 0, 0)), some (vR (1, n0, 0)), some (vI c2), some (vI c3), none, none]) (And.intro rfl (And.intro rfl (And.intro rfl (And.intro rfl trivial)))) ?_
      exact k2 (u) (am_inj hf).symm
    · have hf := (am_if hf).2 hc
      refine r_aload_n (x := (20, 0, 0)) dX1_pass_19 rfl ?_
      refine e_getr (z := some (21, 0, 0)) fw_X1_18 dX1_pass_20 (kC_mem (s := 20) (by decide) (by decide) (by decide)) rfl (lt_b rfl) rfl ?_
      refine r_iload (x := x4) dX1_pass_23 rfl ?_
      refine r_aload_n (x := (1, n0, 0)) dX1_pass_25 rfl ?_
      refine r_iload (x := x4) dX1_pass_26 rfl ?_
      refine r_iload_n (x := c2) dX1_pass_28 rfl ?_
      obtain ⟨⟨r1, u3⟩, hr2, hf⟩ := am_bind hf
      refine r_callV (as := [vI x4, vI c2]) (st := [vI x4, vR (21, 0, 0)]) (n := 2) mw_X1_50 mv_X8_choice (C_X8_choice (l := l) hn0 hr2) (le_b rfl) dX1_pass_29 (kC_mem (s := 1) (by decide) hn0 (by decide)) rfl rfl rfl (le_b rfl) (le_b rfl) (le_b rfl) ?_
      show X l _ _ 0 0 false _ kC 0 0 32 [some (vR (20, 0, 0)), some (vR (1, n0, 0)), some (vI c2), some (vI c3), some (vI x4), none] [vI r1, vI x4, vR (21, 0, 0)] (en u3)
      obtain ⟨h4, hf⟩ := am_nchk hf
      refine e_iast (n := x4.toNatClampNeg) dX1_pass_32 (kC_mem (s := 21) (by decide) (by decide) (by decide)) rfl h4 rfl ?_
      refine r_aload_n (x := (20, 0, 0)) dX1_pass_33 rfl ?_
      refine e_getr (z := some (22, 0, 0)) fw_X1_22 dX1_pass_34 (kC_mem (s := 20) (by decide) (by decide) (by decide)) rfl (lt_b rfl) rfl ?_
      refine r_iload (x := x4) dX1_pass_37 rfl ?_
      refine r_aload_n (x := (20, 0, 0)) dX1_pass_39 rfl ?_
      refine e_getr (z := some (21, 0, 0)) fw_X1_18 dX1_pass_40 (kC_mem (s := 20) (by decide) (by decide) (by decide)) rfl (lt_b rfl) rfl ?_
      refine r_iload (x := x4) dX1_pass_43 rfl ?_
      refine e_iald (n := x4.toNatClampNeg) (x := r1) dX1_pass_45 (kC_mem (s := 21) (by decide) (by decide) (by decide)) rfl h4 rfl (by simp [pi, pl, pr, pci, pcl]) ?_
      refine r_iconst (v := 1) dX1_pass_46 rfl ?_
      refine r_icmp_ne (tgt := 61) dX1_pass_47 (by decide) (fun hc => ?_) (fun hc => ?_)
      · have hf := (am_if hf).2 hc
        refine r_iconst (v := 0) dX1_pass_61 rfl ?_
        refine e_iast (n := x4.toNatClampNeg) dX1_pass_62 (kC_mem (s := 22) (by decide) (by decide) (by decide)) rfl h4 rfl ?_
        refine r_aload_n (x := (20, 0, 0)) dX1_pass_63 rfl ?_
        refine e_getr (z := some (23, 0, 0)) fw_X1_25 dX1_pass_64 (kC_mem (s := 20) (by decide) (by decide) (by decide)) rfl (lt_b rfl) rfl ?_
        refine r_iload (x := x4) dX1_pass_67 rfl ?_
        refine r_aload_n (x := (1, n0, 0)) dX1_pass_69 rfl ?_
        refine e_getr (z := some (2, n0, 0)) fw_X1_40 dX1_pass_70 (kC_mem (s := 1) (by decide) hn0 (by decide)) rfl (lt_b rfl) rfl ?_
        refine r_iload (x := x4) dX1_pass_73 rfl ?_
        refine e_aald (n := x4.toNatClampNeg) (z := some (3, n0, x4.toNatClampNeg)) dX1_pass_75 (kC_mem (s := 2) (by decide) hn0 (by decide)) ⟨le_b rfl, lt_b rfl⟩ h4 rfl rfl ?_
        refine e_geti_ (x := u3.1 (3, n0, x4.toNatClampNeg) 5) fw_X1_54 dX1_pass_76 (kC_mem (s := 3) (by decide) hn0 (vp_lt h4)) rfl (lt_b rfl) (by simp [pi, pl, pr, pci, pcl]) ?_
        refine r_iconst (v := 2) dX1_pass_79 rfl ?_
        refine r_icmp_ne (tgt := 94) dX1_pass_80 (by decide) (fun hc => ?_) (fun hc => ?_)
        · have hf := (am_if hf).2 hc
          refine r_iconst (v := 0) dX1_pass_94 rfl ?_
          refine e_iast (n := x4.toNatClampNeg) dX1_pass_95 (kC_mem (s := 23) (by decide) (by decide) (by decide)) rfl h4 rfl ?_
          refine r_aload_n (x := (20, 0, 0)) dX1_pass_96 rfl ?_
          refine e_getr (z := some (24, 0, 0)) fw_X1_28 dX1_pass_97 (kC_mem (s := 20) (by decide) (by decide) (by decide)) rfl (lt_b rfl) rfl ?_
          refine r_iload (x := x4) dX1_pass_100 rfl ?_
          refine r_aload_n (x := (20, 0, 0)) dX1_pass_102 rfl ?_
          refine e_getr (z := some (21, 0, 0)) fw_X1_18 dX1_pass_103 (kC_mem (s := 20) (by decide) (by decide) (by decide)) rfl (lt_b rfl) rfl ?_
          refine r_iload (x := x4) dX1_pass_106 rfl ?_
          refine e_iald (n := x4.toNatClampNeg) (x := r1) dX1_pass_108 (kC_mem (s := 21) (by decide) (by decide) (by decide)) rfl h4 rfl (by simp [pi, pl, pr, pci, pcl]) ?_
          refine r_iconst (v := 3) dX1_pass_109 rfl ?_
          refine r_icmp_ne (tgt := 122) dX1_pass_110 (by decide) (fun hc => ?_) (fun hc => ?_)
          · have hf := (am_if hf).2 hc
            refine r_iconst (v := -1) dX1_pass_122 rfl ?_
            refine e_iast (n := x4.toNatClampNeg) dX1_pass_123 (kC_mem (s := 24) (by decide) (by decide) (by decide)) rfl h4 rfl ?_
            refine r_iinc (x := x4) (v := x4 + (1 : Int32)) (L' := [some (vR (20, 0, 0)), some (vR (1, n0, 0)), some (vI c2), some (vI c3), some (vI (x4 + (1 : Int32))), none]) dX1_pass_124 rfl rfl (lt_b rfl) rfl ?_
            refine r_goto (tgt := 3) dX1_pass_127 (by decide) ?_
            refine r_weak (L' := [some (vR (20, 0, 0)), some (vR (1, n0, 0)), some (vI c2), some (vI c3), some (vI (x4 + (1 : Int32))), none]) (And.intro rfl (And.intro rfl (And.intro rfl (And.intro rfl (And.intro rfl trivial))))) ?_
            exact k1 (x4 + (1 : Int32), (pi (pi (pi (pi u3 (21, 0, 0) x4.toNatClampNeg r1) (22, 0, 0) x4.toNatClampNeg (0 : Int32)) (23, 0, 0) x4.toNatClampNeg (0 : Int32)) (24, 0, 0) x4.toNatClampNeg (-1 : Int32))) (am_inj hf).symm
          · have hf := (am_if hf).1 hc
            refine r_aload_n (x := (1, n0, 0)) dX1_pass_113 rfl ?_
            refine r_iload (x := x4) dX1_pass_114 rfl ?_
            obtain ⟨r5, hr6, hf⟩ := am_bind hf
            refine r_callV (as := [vI x4]) (st := [vI x4, vR (24, 0, 0)]) (n := 1) mw_X1_57 mv_X8_nearestFire (C_X8_nearestFire (l := l) hn0 hr6) (le_b rfl) dX1_pass_116 (kC_mem (s := 1) (by decide) hn0 (by decide)) rfl rfl rfl (le_b rfl) (le_b rfl) (le_b rfl) ?_
            show X l _ _ 0 0 false _ kC 0 0 119 [some (vR (20, 0, 0)), some (vR (1, n0, 0)), some (vI c2), some (vI c3), some (vI x4), none] [vI r5, vI x4, vR (24, 0, 0)] (en (pi (pi (pi u3 (21, 0, 0) x4.toNatClampNeg r1) (22, 0, 0) x4.toNatClampNeg (0 : Int32)) (23, 0, 0) x4.toNatClampNeg (0 : Int32)))
            refine r_goto (tgt := 123) dX1_pass_119 (by decide) ?_
            refine e_iast (n := x4.toNatClampNeg) dX1_pass_123 (kC_mem (s := 24) (by decide) (by decide) (by decide)) rfl h4 rfl ?_
            refine r_iinc (x := x4) (v := x4 + (1 : Int32)) (L' := [some (vR (20, 0, 0)), some (vR (1, n0, 0)), some (vI c2), some (vI c3), some (vI (x4 + (1 : Int32))), none]) dX1_pass_124 rfl rfl (lt_b rfl) rfl ?_
            refine r_goto (tgt := 3) dX1_pass_127 (by decide) ?_
            refine r_weak (L' := [some (vR (20, 0, 0)), some (vR (1, n0, 0)), some (vI c2), some (vI c3), some (vI (x4 + (1 : Int32))), none]) (And.intro rfl (And.intro rfl (And.intro rfl (And.intro rfl (And.intro rfl trivial))))) ?_
            exact k1 (x4 + (1 : Int32), (pi (pi (pi (pi u3 (21, 0, 0) x4.toNatClampNeg r1) (22, 0, 0) x4.toNatClampNeg (0 : Int32)) (23, 0, 0) x4.toNatClampNeg (0 : Int32)) (24, 0, 0) x4.toNatClampNeg r5)) (am_inj hf).symm
        · have hf := (am_if hf).1 hc
          refine r_aload_n (x := (1, n0, 0)) dX1_pass_83 rfl ?_
          refine r_iconst (v := 2) dX1_pass_84 rfl ?_
          refine r_iload (x := x4) dX1_pass_85 rfl ?_
          refine r_iload_n (x := c2) dX1_pass_87 rfl ?_
          obtain ⟨⟨r7, u9⟩, hr8, hf⟩ := am_bind hf
          refine r_callV (as := [vI (2 : Int32), vI x4, vI c2]) (st := [vI x4, vR (23, 0, 0)]) (n := 3) mw_X1_36 mv_X8_sum (C_X8_sum (l := l) hn0 hr8) (le_b rfl) dX1_pass_88 (kC_mem (s := 1) (by decide) hn0 (by decide)) rfl rfl rfl (le_b rfl) (le_b rfl) (le_b rfl) ?_
          show X l _ _ 0 0 false _ kC 0 0 91 [some (vR (20, 0, 0)), some (vR (1, n0, 0)), some (vI c2), some (vI c3), some (vI x4), none] [vI r7, vI x4, vR (23, 0, 0)] (en u9)
          refine r_goto (tgt := 95) dX1_pass_91 (by decide) ?_
          refine e_iast (n := x4.toNatClampNeg) dX1_pass_95 (kC_mem (s := 23) (by decide) (by decide) (by decide)) rfl h4 rfl ?_
          refine r_aload_n (x := (20, 0, 0)) dX1_pass_96 rfl ?_
          refine e_getr (z := some (24, 0, 0)) fw_X1_28 dX1_pass_97 (kC_mem (s := 20) (by decide) (by decide) (by decide)) rfl (lt_b rfl) rfl ?_
          refine r_iload (x := x4) dX1_pass_100 rfl ?_
          refine r_aload_n (x := (20, 0, 0)) dX1_pass_102 rfl ?_
          refine e_getr (z := some (21, 0, 0)) fw_X1_18 dX1_pass_103 (kC_mem (s := 20) (by decide) (by decide) (by decide)) rfl (lt_b rfl) rfl ?_
          refine r_iload (x := x4) dX1_pass_106 rfl ?_
          refine e_iald (n := x4.toNatClampNeg) (x := u9.1 (21, 0, 0) x4.toNatClampNeg) dX1_pass_108 (kC_mem (s := 21) (by decide) (by decide) (by decide)) rfl h4 rfl (by simp [pi, pl, pr, pci, pcl]) ?_
          refine r_iconst (v := 3) dX1_pass_109 rfl ?_
          refine r_icmp_ne (tgt := 122) dX1_pass_110 (by decide) (fun hc => ?_) (fun hc => ?_)
          · have hf := (am_if hf).2 hc
            refine r_iconst (v := -1) dX1_pass_122 rfl ?_
            refine e_iast (n := x4.toNatClampNeg) dX1_pass_123 (kC_mem (s := 24) (by decide) (by decide) (by decide)) rfl h4 rfl ?_
            refine r_iinc (x := x4) (v := x4 + (1 : Int32)) (L' := [some (vR (20, 0, 0)), some (vR (1, n0, 0)), some (vI c2), some (vI c3), some (vI (x4 + (1 : Int32))), none]) dX1_pass_124 rfl rfl (lt_b rfl) rfl ?_
            refine r_goto (tgt := 3) dX1_pass_127 (by decide) ?_
            refine r_weak (L' := [some (vR (20, 0, 0)), some (vR (1, n0, 0)), some (vI c2), some (vI c3), some (vI (x4 + (1 : Int32))), none]) (And.intro rfl (And.intro rfl (And.intro rfl (And.intro rfl (And.intro rfl trivial))))) ?_
            exact k1 (x4 + (1 : Int32), (pi (pi u9 (23, 0, 0) x4.toNatClampNeg r7) (24, 0, 0) x4.toNatClampNeg (-1 : Int32))) (am_inj hf).symm
          · have hf := (am_if hf).1 hc
            refine r_aload_n (x := (1, n0, 0)) dX1_pass_113 rfl ?_
            refine r_iload (x := x4) dX1_pass_114 rfl ?_
            obtain ⟨r10, hr11, hf⟩ := am_bind hf
            refine r_callV (as := [vI x4]) (st := [vI x4, vR (24, 0, 0)]) (n := 1) mw_X1_57 mv_X8_nearestFire (C_X8_nearestFire (l := l) hn0 hr11) (le_b rfl) dX1_pass_116 (kC_mem (s := 1) (by decide) hn0 (by decide)) rfl rfl rfl (le_b rfl) (le_b rfl) (le_b rfl) ?_
            show X l _ _ 0 0 false _ kC 0 0 119 [some (vR (20, 0, 0)), some (vR (1, n0, 0)), some (vI c2), some (vI c3), some (vI x4), none] [vI r10, vI x4, vR (24, 0, 0)] (en (pi u9 (23, 0, 0) x4.toNatClampNeg r7))
            refine r_goto (tgt := 123) dX1_pass_119 (by decide) ?_
            refine e_iast (n := x4.toNatClampNeg) dX1_pass_123 (kC_mem (s := 24) (by decide) (by decide) (by decide)) rfl h4 rfl ?_
            refine r_iinc (x := x4) (v := x4 + (1 : Int32)) (L' := [some (vR (20, 0, 0)), some (vR (1, n0, 0)), some (vI c2), some (vI c3), some (vI (x4 + (1 : Int32))), none]) dX1_pass_124 rfl rfl (lt_b rfl) rfl ?_
            refine r_goto (tgt := 3) dX1_pass_127 (by decide) ?_
            refine r_weak (L' := [some (vR (20, 0, 0)), some (vR (1, n0, 0)), some (vI c2), some (vI c3), some (vI (x4 + (1 : Int32))), none]) (And.intro rfl (And.intro rfl (And.intro rfl (And.intro rfl (And.intro rfl trivial))))) ?_
            exact k1 (x4 + (1 : Int32), (pi (pi u9 (23, 0, 0) x4.toNatClampNeg r7) (24, 0, 0) x4.toNatClampNeg r10)) (am_inj hf).symm
      · have hf := (am_if hf).1 hc
        refine r_aload_n (x := (1, n0, 0)) dX1_pass_50 rfl ?_
        refine r_iconst (v := 1) dX1_pass_51 rfl ?_
        refine r_iload (x := x4) dX1_pass_52 rfl ?_
        refine r_iload_n (x := c2) dX1_pass_54 rfl ?_
        obtain ⟨⟨r12, u14⟩, hr13, hf⟩ := am_bind hf
        refine r_callV (as := [vI (1 : Int32), vI x4, vI c2]) (st := [vI x4, vR (22, 0, 0)]) (n := 3) mw_X1_36 mv_X8_sum (C_X8_sum (l := l) hn0 hr13) (le_b rfl) dX1_pass_55 (kC_mem (s := 1) (by decide) hn0 (by decide)) rfl rfl rfl (le_b rfl) (le_b rfl) (le_b rfl) ?_
        show X l _ _ 0 0 false _ kC 0 0 58 [some (vR (20, 0, 0)), some (vR (1, n0, 0)), some (vI c2), some (vI c3), some (vI x4), none] [vI r12, vI x4, vR (22, 0, 0)] (en u14)
        refine r_goto (tgt := 62) dX1_pass_58 (by decide) ?_
        refine e_iast (n := x4.toNatClampNeg) dX1_pass_62 (kC_mem (s := 22) (by decide) (by decide) (by decide)) rfl h4 rfl ?_
        refine r_aload_n (x := (20, 0, 0)) dX1_pass_63 rfl ?_
        refine e_getr (z := some (23, 0, 0)) fw_X1_25 dX1_pass_64 (kC_mem (s := 20) (by decide) (by decide) (by decide)) rfl (lt_b rfl) rfl ?_
        refine r_iload (x := x4) dX1_pass_67 rfl ?_
        refine r_aload_n (x := (1, n0, 0)) dX1_pass_69 rfl ?_
        refine e_getr (z := some (2, n0, 0)) fw_X1_40 dX1_pass_70 (kC_mem (s := 1) (by decide) hn0 (by decide)) rfl (lt_b rfl) rfl ?_
        refine r_iload (x := x4) dX1_pass_73 rfl ?_
        refine e_aald (n := x4.toNatClampNeg) (z := some (3, n0, x4.toNatClampNeg)) dX1_pass_75 (kC_mem (s := 2) (by decide) hn0 (by decide)) ⟨le_b rfl, lt_b rfl⟩ h4 rfl rfl ?_
        refine e_geti_ (x := u14.1 (3, n0, x4.toNatClampNeg) 5) fw_X1_54 dX1_pass_76 (kC_mem (s := 3) (by decide) hn0 (vp_lt h4)) rfl (lt_b rfl) (by simp [pi, pl, pr, pci, pcl]) ?_
        refine r_iconst (v := 2) dX1_pass_79 rfl ?_
        refine r_icmp_ne (tgt := 94) dX1_pass_80 (by decide) (fun hc => ?_) (fun hc => ?_)
        · have hf := (am_if hf).2 hc
          refine r_iconst (v := 0) dX1_pass_94 rfl ?_
          refine e_iast (n := x4.toNatClampNeg) dX1_pass_95 (kC_mem (s := 23) (by decide) (by decide) (by decide)) rfl h4 rfl ?_
          refine r_aload_n (x := (20, 0, 0)) dX1_pass_96 rfl ?_
          refine e_getr (z := some (24, 0, 0)) fw_X1_28 dX1_pass_97 (kC_mem (s := 20) (by decide) (by decide) (by decide)) rfl (lt_b rfl) rfl ?_
          refine r_iload (x := x4) dX1_pass_100 rfl ?_
          refine r_aload_n (x := (20, 0, 0)) dX1_pass_102 rfl ?_
          refine e_getr (z := some (21, 0, 0)) fw_X1_18 dX1_pass_103 (kC_mem (s := 20) (by decide) (by decide) (by decide)) rfl (lt_b rfl) rfl ?_
          refine r_iload (x := x4) dX1_pass_106 rfl ?_
          refine e_iald (n := x4.toNatClampNeg) (x := u14.1 (21, 0, 0) x4.toNatClampNeg) dX1_pass_108 (kC_mem (s := 21) (by decide) (by decide) (by decide)) rfl h4 rfl (by simp [pi, pl, pr, pci, pcl]) ?_
          refine r_iconst (v := 3) dX1_pass_109 rfl ?_
          refine r_icmp_ne (tgt := 122) dX1_pass_110 (by decide) (fun hc => ?_) (fun hc => ?_)
          · have hf := (am_if hf).2 hc
            refine r_iconst (v := -1) dX1_pass_122 rfl ?_
            refine e_iast (n := x4.toNatClampNeg) dX1_pass_123 (kC_mem (s := 24) (by decide) (by decide) (by decide)) rfl h4 rfl ?_
            refine r_iinc (x := x4) (v := x4 + (1 : Int32)) (L' := [some (vR (20, 0, 0)), some (vR (1, n0, 0)), some (vI c2), some (vI c3), some (vI (x4 + (1 : Int32))), none]) dX1_pass_124 rfl rfl (lt_b rfl) rfl ?_
            refine r_goto (tgt := 3) dX1_pass_127 (by decide) ?_
            refine r_weak (L' := [some (vR (20, 0, 0)), some (vR (1, n0, 0)), some (vI c2), some (vI c3), some (vI (x4 + (1 : Int32))), none]) (And.intro rfl (And.intro rfl (And.intro rfl (And.intro rfl (And.intro rfl trivial))))) ?_
            exact k1 (x4 + (1 : Int32), (pi (pi (pi u14 (22, 0, 0) x4.toNatClampNeg r12) (23, 0, 0) x4.toNatClampNeg (0 : Int32)) (24, 0, 0) x4.toNatClampNeg (-1 : Int32))) (am_inj hf).symm
          · have hf := (am_if hf).1 hc
            refine r_aload_n (x := (1, n0, 0)) dX1_pass_113 rfl ?_
            refine r_iload (x := x4) dX1_pass_114 rfl ?_
            obtain ⟨r15, hr16, hf⟩ := am_bind hf
            refine r_callV (as := [vI x4]) (st := [vI x4, vR (24, 0, 0)]) (n := 1) mw_X1_57 mv_X8_nearestFire (C_X8_nearestFire (l := l) hn0 hr16) (le_b rfl) dX1_pass_116 (kC_mem (s := 1) (by decide) hn0 (by decide)) rfl rfl rfl (le_b rfl) (le_b rfl) (le_b rfl) ?_
            show X l _ _ 0 0 false _ kC 0 0 119 [some (vR (20, 0, 0)), some (vR (1, n0, 0)), some (vI c2), some (vI c3), some (vI x4), none] [vI r15, vI x4, vR (24, 0, 0)] (en (pi (pi u14 (22, 0, 0) x4.toNatClampNeg r12) (23, 0, 0) x4.toNatClampNeg (0 : Int32)))
            refine r_goto (tgt := 123) dX1_pass_119 (by decide) ?_
            refine e_iast (n := x4.toNatClampNeg) dX1_pass_123 (kC_mem (s := 24) (by decide) (by decide) (by decide)) rfl h4 rfl ?_
            refine r_iinc (x := x4) (v := x4 + (1 : Int32)) (L' := [some (vR (20, 0, 0)), some (vR (1, n0, 0)), some (vI c2), some (vI c3), some (vI (x4 + (1 : Int32))), none]) dX1_pass_124 rfl rfl (lt_b rfl) rfl ?_
            refine r_goto (tgt := 3) dX1_pass_127 (by decide) ?_
            refine r_weak (L' := [some (vR (20, 0, 0)), some (vR (1, n0, 0)), some (vI c2), some (vI c3), some (vI (x4 + (1 : Int32))), none]) (And.intro rfl (And.intro rfl (And.intro rfl (And.intro rfl (And.intro rfl trivial))))) ?_
            exact k1 (x4 + (1 : Int32), (pi (pi (pi u14 (22, 0, 0) x4.toNatClampNeg r12) (23, 0, 0) x4.toNatClampNeg (0 : Int32)) (24, 0, 0) x4.toNatClampNeg r15)) (am_inj hf).symm
        · have hf := (am_if hf).1 hc
          refine r_aload_n (x := (1, n0, 0)) dX1_pass_83 rfl ?_
          refine r_iconst (v := 2) dX1_pass_84 rfl ?_
          refine r_iload (x := x4) dX1_pass_85 rfl ?_
          refine r_iload_n (x := c2) dX1_pass_87 rfl ?_
          obtain ⟨⟨r17, u19⟩, hr18, hf⟩ := am_bind hf
          refine r_callV (as := [vI (2 : Int32), vI x4, vI c2]) (st := [vI x4, vR (23, 0, 0)]) (n := 3) mw_X1_36 mv_X8_sum (C_X8_sum (l := l) hn0 hr18) (le_b rfl) dX1_pass_88 (kC_mem (s := 1) (by decide) hn0 (by decide)) rfl rfl rfl (le_b rfl) (le_b rfl) (le_b rfl) ?_
          show X l _ _ 0 0 false _ kC 0 0 91 [some (vR (20, 0, 0)), some (vR (1, n0, 0)), some (vI c2), some (vI c3), some (vI x4), none] [vI r17, vI x4, vR (23, 0, 0)] (en u19)
          refine r_goto (tgt := 95) dX1_pass_91 (by decide) ?_
          refine e_iast (n := x4.toNatClampNeg) dX1_pass_95 (kC_mem (s := 23) (by decide) (by decide) (by decide)) rfl h4 rfl ?_
          refine r_aload_n (x := (20, 0, 0)) dX1_pass_96 rfl ?_
          refine e_getr (z := some (24, 0, 0)) fw_X1_28 dX1_pass_97 (kC_mem (s := 20) (by decide) (by decide) (by decide)) rfl (lt_b rfl) rfl ?_
          refine r_iload (x := x4) dX1_pass_100 rfl ?_
          refine r_aload_n (x := (20, 0, 0)) dX1_pass_102 rfl ?_
          refine e_getr (z := some (21, 0, 0)) fw_X1_18 dX1_pass_103 (kC_mem (s := 20) (by decide) (by decide) (by decide)) rfl (lt_b rfl) rfl ?_
          refine r_iload (x := x4) dX1_pass_106 rfl ?_
          refine e_iald (n := x4.toNatClampNeg) (x := u19.1 (21, 0, 0) x4.toNatClampNeg) dX1_pass_108 (kC_mem (s := 21) (by decide) (by decide) (by decide)) rfl h4 rfl (by simp [pi, pl, pr, pci, pcl]) ?_
          refine r_iconst (v := 3) dX1_pass_109 rfl ?_
          refine r_icmp_ne (tgt := 122) dX1_pass_110 (by decide) (fun hc => ?_) (fun hc => ?_)
          · have hf := (am_if hf).2 hc
            refine r_iconst (v := -1) dX1_pass_122 rfl ?_
            refine e_iast (n := x4.toNatClampNeg) dX1_pass_123 (kC_mem (s := 24) (by decide) (by decide) (by decide)) rfl h4 rfl ?_
            refine r_iinc (x := x4) (v := x4 + (1 : Int32)) (L' := [some (vR (20, 0, 0)), some (vR (1, n0, 0)), some (vI c2), some (vI c3), some (vI (x4 + (1 : Int32))), none]) dX1_pass_124 rfl rfl (lt_b rfl) rfl ?_
            refine r_goto (tgt := 3) dX1_pass_127 (by decide) ?_
            refine r_weak (L' := [some (vR (20, 0, 0)), some (vR (1, n0, 0)), some (vI c2), some (vI c3), some (vI (x4 + (1 : Int32))), none]) (And.intro rfl (And.intro rfl (And.intro rfl (And.intro rfl (And.intro rfl trivial))))) ?_
            exact k1 (x4 + (1 : Int32), (pi (pi u19 (23, 0, 0) x4.toNatClampNeg r17) (24, 0, 0) x4.toNatClampNeg (-1 : Int32))) (am_inj hf).symm
          · have hf := (am_if hf).1 hc
            refine r_aload_n (x := (1, n0, 0)) dX1_pass_113 rfl ?_
            refine r_iload (x := x4) dX1_pass_114 rfl ?_
            obtain ⟨r20, hr21, hf⟩ := am_bind hf
            refine r_callV (as := [vI x4]) (st := [vI x4, vR (24, 0, 0)]) (n := 1) mw_X1_57 mv_X8_nearestFire (C_X8_nearestFire (l := l) hn0 hr21) (le_b rfl) dX1_pass_116 (kC_mem (s := 1) (by decide) hn0 (by decide)) rfl rfl rfl (le_b rfl) (le_b rfl) (le_b rfl) ?_
            show X l _ _ 0 0 false _ kC 0 0 119 [some (vR (20, 0, 0)), some (vR (1, n0, 0)), some (vI c2), some (vI c3), some (vI x4), none] [vI r20, vI x4, vR (24, 0, 0)] (en (pi u19 (23, 0, 0) x4.toNatClampNeg r17))
            refine r_goto (tgt := 123) dX1_pass_119 (by decide) ?_
            refine e_iast (n := x4.toNatClampNeg) dX1_pass_123 (kC_mem (s := 24) (by decide) (by decide) (by decide)) rfl h4 rfl ?_
            refine r_iinc (x := x4) (v := x4 + (1 : Int32)) (L' := [some (vR (20, 0, 0)), some (vR (1, n0, 0)), some (vI c2), some (vI c3), some (vI (x4 + (1 : Int32))), none]) dX1_pass_124 rfl rfl (lt_b rfl) rfl ?_
            refine r_goto (tgt := 3) dX1_pass_127 (by decide) ?_
            refine r_weak (L' := [some (vR (20, 0, 0)), some (vR (1, n0, 0)), some (vI c2), some (vI c3), some (vI (x4 + (1 : Int32))), none]) (And.intro rfl (And.intro rfl (And.intro rfl (And.intro rfl (And.intro rfl trivial))))) ?_
            exact k1 (x4 + (1 : Int32), (pi (pi u19 (23, 0, 0) x4.toNatClampNeg r17) (24, 0, 0) x4.toNatClampNeg r20)) (am_inj hf).symm
def f_X1_pass_L133 (n0 : Nat) (c2 : Int32) (c3 : Int32) : Int32 × PM → Option ((Int32 × PM) ⊕ (PM)) := fun (x4 , u) =>
  if (u.1 (1, n0, 0) 0) ≤ x4 then
    some (.inr (u))
  else
  if (6 : Int32) ≤ x4 then
    some (.inr (u))
  else
  if x4 < 0 ∨ 6 ≤ x4.toNatClampNeg then none else
  if (u.1 (21, 0, 0) x4.toNatClampNeg) = (3 : Int32) then
    (f_X8_hoursBetween n0 x4 (u.1 (24, 0, 0) x4.toNatClampNeg) u).bind fun r28 =>
    (f_X2_setOut n0 x4.toNatClampNeg (1 : Int32) r28 (u.1 (24, 0, 0) x4.toNatClampNeg) u).bind fun r30 =>
    some (.inl (x4 + (1 : Int32), r30))
  else
  if (u.1 (3, n0, x4.toNatClampNeg) 1) = 0 then
    some (.inl (x4 + (1 : Int32), u))
  else
  (f_X1_burn n0 x4.toNatClampNeg x4 c3 u).bind fun r26 =>
  some (.inl (x4 + (1 : Int32), r26))
set_option maxHeartbeats 4000000 in
set_option maxRecDepth 20000 in
theorem K_X1_pass_L133 {l : Launch} {T : Option AV × List Key × AM} {n0 : Nat} (hn0 : n0 < 4) {c2 : Int32} {c3 : Int32} : ∀ (n : Nat) (s : Int32 × PM) (e0 : PM), am_loop (f_X1_pass_L133 n0 c2 c3) n s = some e0 → (fun e : PM => X l mX1_pass 6 0 0 false T kC 0 0 221 [some (vR (20, 0, 0)), some (vR (1, n0, 0)), some (vI c2), none, none, none] [] (en e)) e0 → X l mX1_pass 6 0 0 false T kC 0 0 133 [some (vR (20, 0, 0)), some (vR (1, n0, 0)), some (vI c2), some (vI c3), some (vI s.1), none] [] (en s.2) := by
  refine am_loop_of ?_
  intro s x hf k1 k2
  obtain ⟨x4 , u⟩ := s
  unfold f_X1_pass_L133 at hf
  show X l mX1_pass 6 0 0 false T kC 0 0 133 [some (vR (20, 0, 0)), some (vR (1, n0, 0)), some (vI c2), some (vI c3), some (vI x4), none] [] (en u)
  refine r_iload (x := x4) dX1_pass_133 rfl ?_
  refine r_aload_n (x := (1, n0, 0)) dX1_pass_135 rfl ?_
  refine e_geti fw_X1_31 dX1_pass_136 (kC_mem (s := 1) (by decide) hn0 (by decide)) rfl (lt_b rfl) ?_
  refine r_icmp_ge (tgt := 221) dX1_pass_139 (by decide) (fun hc => ?_) (fun hc => ?_)
  · have hf := (am_if hf).1 hc
    refine r_weak (L' := [some (vR (20, 0, 0)), some (vR (1, n0, 0)), some (vI c2), none, none, none]) (And.intro rfl (And.intro rfl (And.intro rfl trivial))) ?_
    exact k2 (u) (am_inj hf).symm
  · have hf := (am_if hf).2 hc
    refine r_iload (x := x4) dX1_pass_142 rfl ?_
    refine r_bipush (v := 6) dX1_pass_144 rfl ?_
    refine r_icmp_ge (tgt := 221) dX1_pass_146 (by decide) (fun hc => ?_) (fun hc => ?_)
    · have hf := (am_if hf).1 hc
      refine r_weak (L' := [some (vR (20, 0, 0)), some (vR (1, n0, 0)), some (vI c2), none, none, none]) (And.intro rfl (And.intro rfl (And.intro rfl trivial))) ?_
      exact k2 (u) (am_inj hf).symm
    · have hf := (am_if hf).2 hc
      refine r_aload_n (x := (1, n0, 0)) dX1_pass_149 rfl ?_
      refine e_getr (z := some (2, n0, 0)) fw_X1_40 dX1_pass_150 (kC_mem (s := 1) (by decide) hn0 (by decide)) rfl (lt_b rfl) rfl ?_
      refine r_iload (x := x4) dX1_pass_153 rfl ?_
      obtain ⟨h25, hf⟩ := am_nchk hf
      refine e_aald (n := x4.toNatClampNeg) (z := some (3, n0, x4.toNatClampNeg)) dX1_pass_155 (kC_mem (s := 2) (by decide) hn0 (by decide)) ⟨le_b rfl, lt_b rfl⟩ h25 rfl rfl ?_
      refine r_astore (L' := [some (vR (20, 0, 0)), some (vR (1, n0, 0)), some (vI c2), some (vI c3), some (vI x4), some (vR (3, n0, x4.toNatClampNeg))]) dX1_pass_156 (by decide) rfl ?_
      refine r_aload_n (x := (20, 0, 0)) dX1_pass_158 rfl ?_
      refine e_getr (z := some (21, 0, 0)) fw_X1_18 dX1_pass_159 (kC_mem (s := 20) (by decide) (by decide) (by decide)) rfl (lt_b rfl) rfl ?_
      refine r_iload (x := x4) dX1_pass_162 rfl ?_
      refine e_iald (n := x4.toNatClampNeg) dX1_pass_164 (kC_mem (s := 21) (by decide) (by decide) (by decide)) rfl h25 rfl rfl ?_
      refine r_iconst (v := 3) dX1_pass_165 rfl ?_
      refine r_icmp_ne (tgt := 198) dX1_pass_166 (by decide) (fun hc => ?_) (fun hc => ?_)
      · have hf := (am_if hf).2 hc
        refine r_aload (x := (3, n0, x4.toNatClampNeg)) dX1_pass_198 rfl ?_
        refine e_geti fw_X1_44 dX1_pass_200 (kC_mem (s := 3) (by decide) hn0 (vp_lt h25)) rfl (lt_b rfl) ?_
        refine r_if_eq (tgt := 215) dX1_pass_203 (by decide) (fun hc => ?_) (fun hc => ?_)
        · have hf := (am_if hf).1 hc
          refine r_iinc (x := x4) (v := x4 + (1 : Int32)) (L' := [some (vR (20, 0, 0)), some (vR (1, n0, 0)), some (vI c2), some (vI c3), some (vI (x4 + (1 : Int32))), some (vR (3, n0, x4.toNatClampNeg))]) dX1_pass_215 rfl rfl (lt_b rfl) rfl ?_
          refine r_goto (tgt := 133) dX1_pass_218 (by decide) ?_
          refine r_weak (L' := [some (vR (20, 0, 0)), some (vR (1, n0, 0)), some (vI c2), some (vI c3), some (vI (x4 + (1 : Int32))), none]) (And.intro rfl (And.intro rfl (And.intro rfl (And.intro rfl (And.intro rfl trivial))))) ?_
          exact k1 (x4 + (1 : Int32), u) (am_inj hf).symm
        · have hf := (am_if hf).2 hc
          refine r_aload_n (x := (20, 0, 0)) dX1_pass_206 rfl ?_
          refine r_aload (x := (3, n0, x4.toNatClampNeg)) dX1_pass_207 rfl ?_
          refine r_iload (x := x4) dX1_pass_209 rfl ?_
          refine r_iload_n (x := c3) dX1_pass_211 rfl ?_
          obtain ⟨r26, hr27, hf⟩ := am_bind hf
          refine r_callV (as := [vR (3, n0, x4.toNatClampNeg), vI x4, vI c3]) (st := []) (n := 3) mw_X1_68 mv_X1_burn (C_X1_burn (l := l) hn0 (vp_lt h25) hr27) (le_b rfl) dX1_pass_212 (kC_mem (s := 20) (by decide) (by decide) (by decide)) rfl rfl rfl (le_b rfl) (le_b rfl) (le_b rfl) ?_
          show X l _ _ 0 0 false _ kC 0 0 215 [some (vR (20, 0, 0)), some (vR (1, n0, 0)), some (vI c2), some (vI c3), some (vI x4), some (vR (3, n0, x4.toNatClampNeg))] [] (en r26)
          refine r_iinc (x := x4) (v := x4 + (1 : Int32)) (L' := [some (vR (20, 0, 0)), some (vR (1, n0, 0)), some (vI c2), some (vI c3), some (vI (x4 + (1 : Int32))), some (vR (3, n0, x4.toNatClampNeg))]) dX1_pass_215 rfl rfl (lt_b rfl) rfl ?_
          refine r_goto (tgt := 133) dX1_pass_218 (by decide) ?_
          refine r_weak (L' := [some (vR (20, 0, 0)), some (vR (1, n0, 0)), some (vI c2), some (vI c3), some (vI (x4 + (1 : Int32))), none]) (And.intro rfl (And.intro rfl (And.intro rfl (And.intro rfl (And.intro rfl trivial))))) ?_
          exact k1 (x4 + (1 : Int32), r26) (am_inj hf).symm
      · have hf := (am_if hf).1 hc
        refine r_aload (x := (3, n0, x4.toNatClampNeg)) dX1_pass_169 rfl ?_
        refine r_iconst (v := 1) dX1_pass_171 rfl ?_
        refine r_aload_n (x := (1, n0, 0)) dX1_pass_172 rfl ?_
        refine r_iload (x := x4) dX1_pass_173 rfl ?_
        refine r_aload_n (x := (20, 0, 0)) dX1_pass_175 rfl ?_
        refine e_getr (z := some (24, 0, 0)) fw_X1_28 dX1_pass_176 (kC_mem (s := 20) (by decide) (by decide) (by decide)) rfl (lt_b rfl) rfl ?_
        refine r_iload (x := x4) dX1_pass_179 rfl ?_
        refine e_iald (n := x4.toNatClampNeg) dX1_pass_181 (kC_mem (s := 24) (by decide) (by decide) (by decide)) rfl h25 rfl rfl ?_
        obtain ⟨r28, hr29, hf⟩ := am_bind hf
        refine r_callV (as := [vI x4, vI (u.1 (24, 0, 0) x4.toNatClampNeg)]) (st := [vI (1 : Int32), vR (3, n0, x4.toNatClampNeg)]) (n := 2) mw_X1_61 mv_X8_hoursBetween (C_X8_hoursBetween (l := l) hn0 hr29) (le_b rfl) dX1_pass_182 (kC_mem (s := 1) (by decide) hn0 (by decide)) rfl rfl rfl (le_b rfl) (le_b rfl) (le_b rfl) ?_
        show X l _ _ 0 0 false _ kC 0 0 185 [some (vR (20, 0, 0)), some (vR (1, n0, 0)), some (vI c2), some (vI c3), some (vI x4), some (vR (3, n0, x4.toNatClampNeg))] [vI r28, vI (1 : Int32), vR (3, n0, x4.toNatClampNeg)] (en u)
        refine r_aload_n (x := (20, 0, 0)) dX1_pass_185 rfl ?_
        refine e_getr (z := some (24, 0, 0)) fw_X1_28 dX1_pass_186 (kC_mem (s := 20) (by decide) (by decide) (by decide)) rfl (lt_b rfl) rfl ?_
        refine r_iload (x := x4) dX1_pass_189 rfl ?_
        refine e_iald (n := x4.toNatClampNeg) dX1_pass_191 (kC_mem (s := 24) (by decide) (by decide) (by decide)) rfl h25 rfl rfl ?_
        obtain ⟨r30, hr31, hf⟩ := am_bind hf
        refine r_callV (as := [vI (1 : Int32), vI r28, vI (u.1 (24, 0, 0) x4.toNatClampNeg)]) (st := []) (n := 3) mw_X1_64 mv_X2_setOut (C_X2_setOut (l := l) hn0 (vp_lt h25) hr31) (le_b rfl) dX1_pass_192 (kC_mem (s := 3) (by decide) hn0 (vp_lt h25)) rfl rfl rfl (le_b rfl) (le_b rfl) (le_b rfl) ?_
        show X l _ _ 0 0 false _ kC 0 0 195 [some (vR (20, 0, 0)), some (vR (1, n0, 0)), some (vI c2), some (vI c3), some (vI x4), some (vR (3, n0, x4.toNatClampNeg))] [] (en r30)
        refine r_goto (tgt := 215) dX1_pass_195 (by decide) ?_
        refine r_iinc (x := x4) (v := x4 + (1 : Int32)) (L' := [some (vR (20, 0, 0)), some (vR (1, n0, 0)), some (vI c2), some (vI c3), some (vI (x4 + (1 : Int32))), some (vR (3, n0, x4.toNatClampNeg))]) dX1_pass_215 rfl rfl (lt_b rfl) rfl ?_
        refine r_goto (tgt := 133) dX1_pass_218 (by decide) ?_
        refine r_weak (L' := [some (vR (20, 0, 0)), some (vR (1, n0, 0)), some (vI c2), some (vI c3), some (vI (x4 + (1 : Int32))), none]) (And.intro rfl (And.intro rfl (And.intro rfl (And.intro rfl (And.intro rfl trivial))))) ?_
        exact k1 (x4 + (1 : Int32), r30) (am_inj hf).symm
def f_X1_pass_L224 (n0 : Nat) (c2 : Int32) : Int32 × PM → Option ((Int32 × PM) ⊕ (PM)) := fun (x4 , u) =>
  if (u.1 (1, n0, 0) 0) ≤ x4 then
    some (.inr (u))
  else
  if (6 : Int32) ≤ x4 then
    some (.inr (u))
  else
  if x4 < 0 ∨ 6 ≤ x4.toNatClampNeg then none else
  if (u.1 (3, n0, x4.toNatClampNeg) 5) = (1 : Int32) then
    (f_X1_goNearer n0 x4.toNatClampNeg x4 u).bind fun r38 =>
    some (.inl (x4 + (1 : Int32), r38))
  else
  if (u.1 (3, n0, x4.toNatClampNeg) 5) = (2 : Int32) then
    (f_X1_bringNearer n0 x4.toNatClampNeg x4 u).bind fun r36 =>
    some (.inl (x4 + (1 : Int32), r36))
  else
  some (.inl (x4 + (1 : Int32), u))
set_option maxHeartbeats 4000000 in
set_option maxRecDepth 20000 in
theorem K_X1_pass_L224 {l : Launch} {T : Option AV × List Key × AM} {n0 : Nat} (hn0 : n0 < 4) {c2 : Int32} : ∀ (n : Nat) (s : Int32 × PM) (e0 : PM), am_loop (f_X1_pass_L224 n0 c2) n s = some e0 → (fun e : PM => X l mX1_pass 6 0 0 false T kC 0 0 293 [none, some (vR (1, n0, 0)), some (vI c2), none, none, none] [] (en e)) e0 → X l mX1_pass 6 0 0 false T kC 0 0 224 [some (vR (20, 0, 0)), some (vR (1, n0, 0)), some (vI c2), none, some (vI s.1), none] [] (en s.2) := by
  refine am_loop_of ?_
  intro s x hf k1 k2
  obtain ⟨x4 , u⟩ := s
  unfold f_X1_pass_L224 at hf
  show X l mX1_pass 6 0 0 false T kC 0 0 224 [some (vR (20, 0, 0)), some (vR (1, n0, 0)), some (vI c2), none, some (vI x4), none] [] (en u)
  refine r_iload (x := x4) dX1_pass_224 rfl ?_
  refine r_aload_n (x := (1, n0, 0)) dX1_pass_226 rfl ?_
  refine e_geti fw_X1_31 dX1_pass_227 (kC_mem (s := 1) (by decide) hn0 (by decide)) rfl (lt_b rfl) ?_
  refine r_icmp_ge (tgt := 293) dX1_pass_230 (by decide) (fun hc => ?_) (fun hc => ?_)
  · have hf := (am_if hf).1 hc
    refine r_weak (L' := [none, some (vR (1, n0, 0)), some (vI c2), none, none, none]) (And.intro rfl (And.intro rfl trivial)) ?_
    exact k2 (u) (am_inj hf).symm
  · have hf := (am_if hf).2 hc
    refine r_iload (x := x4) dX1_pass_233 rfl ?_
    refine r_bipush (v := 6) dX1_pass_235 rfl ?_
    refine r_icmp_ge (tgt := 293) dX1_pass_237 (by decide) (fun hc => ?_) (fun hc => ?_)
    · have hf := (am_if hf).1 hc
      refine r_weak (L' := [none, some (vR (1, n0, 0)), some (vI c2), none, none, none]) (And.intro rfl (And.intro rfl trivial)) ?_
      exact k2 (u) (am_inj hf).symm
    · have hf := (am_if hf).2 hc
      refine r_aload_n (x := (1, n0, 0)) dX1_pass_240 rfl ?_
      refine e_getr (z := some (2, n0, 0)) fw_X1_40 dX1_pass_241 (kC_mem (s := 1) (by decide) hn0 (by decide)) rfl (lt_b rfl) rfl ?_
      refine r_iload (x := x4) dX1_pass_244 rfl ?_
      obtain ⟨h35, hf⟩ := am_nchk hf
      refine e_aald (n := x4.toNatClampNeg) (z := some (3, n0, x4.toNatClampNeg)) dX1_pass_246 (kC_mem (s := 2) (by decide) hn0 (by decide)) ⟨le_b rfl, lt_b rfl⟩ h35 rfl rfl ?_
      refine r_astore (L' := [some (vR (20, 0, 0)), some (vR (1, n0, 0)), some (vI c2), none, some (vI x4), some (vR (3, n0, x4.toNatClampNeg))]) dX1_pass_247 (by decide) rfl ?_
      refine r_aload (x := (3, n0, x4.toNatClampNeg)) dX1_pass_249 rfl ?_
      refine e_geti fw_X1_54 dX1_pass_251 (kC_mem (s := 3) (by decide) hn0 (vp_lt h35)) rfl (lt_b rfl) ?_
      refine r_iconst (v := 1) dX1_pass_254 rfl ?_
      refine r_icmp_ne (tgt := 270) dX1_pass_255 (by decide) (fun hc => ?_) (fun hc => ?_)
      · have hf := (am_if hf).2 hc
        refine r_aload (x := (3, n0, x4.toNatClampNeg)) dX1_pass_270 rfl ?_
        refine e_geti fw_X1_54 dX1_pass_272 (kC_mem (s := 3) (by decide) hn0 (vp_lt h35)) rfl (lt_b rfl) ?_
        refine r_iconst (v := 2) dX1_pass_275 rfl ?_
        refine r_icmp_ne (tgt := 287) dX1_pass_276 (by decide) (fun hc => ?_) (fun hc => ?_)
        · have hf := (am_if hf).2 hc
          refine r_iinc (x := x4) (v := x4 + (1 : Int32)) (L' := [some (vR (20, 0, 0)), some (vR (1, n0, 0)), some (vI c2), none, some (vI (x4 + (1 : Int32))), some (vR (3, n0, x4.toNatClampNeg))]) dX1_pass_287 rfl rfl (lt_b rfl) rfl ?_
          refine r_goto (tgt := 224) dX1_pass_290 (by decide) ?_
          refine r_weak (L' := [some (vR (20, 0, 0)), some (vR (1, n0, 0)), some (vI c2), none, some (vI (x4 + (1 : Int32))), none]) (And.intro rfl (And.intro rfl (And.intro rfl (And.intro rfl trivial)))) ?_
          exact k1 (x4 + (1 : Int32), u) (am_inj hf).symm
        · have hf := (am_if hf).1 hc
          refine r_aload_n (x := (20, 0, 0)) dX1_pass_279 rfl ?_
          refine r_aload (x := (3, n0, x4.toNatClampNeg)) dX1_pass_280 rfl ?_
          refine r_iload (x := x4) dX1_pass_282 rfl ?_
          obtain ⟨r36, hr37, hf⟩ := am_bind hf
          refine r_callV (as := [vR (3, n0, x4.toNatClampNeg), vI x4]) (st := []) (n := 2) mw_X1_76 mv_X1_bringNearer (C_X1_bringNearer (l := l) hn0 (vp_lt h35) hr37) (le_b rfl) dX1_pass_284 (kC_mem (s := 20) (by decide) (by decide) (by decide)) rfl rfl rfl (le_b rfl) (le_b rfl) (le_b rfl) ?_
          show X l _ _ 0 0 false _ kC 0 0 287 [some (vR (20, 0, 0)), some (vR (1, n0, 0)), some (vI c2), none, some (vI x4), some (vR (3, n0, x4.toNatClampNeg))] [] (en r36)
          refine r_iinc (x := x4) (v := x4 + (1 : Int32)) (L' := [some (vR (20, 0, 0)), some (vR (1, n0, 0)), some (vI c2), none, some (vI (x4 + (1 : Int32))), some (vR (3, n0, x4.toNatClampNeg))]) dX1_pass_287 rfl rfl (lt_b rfl) rfl ?_
          refine r_goto (tgt := 224) dX1_pass_290 (by decide) ?_
          refine r_weak (L' := [some (vR (20, 0, 0)), some (vR (1, n0, 0)), some (vI c2), none, some (vI (x4 + (1 : Int32))), none]) (And.intro rfl (And.intro rfl (And.intro rfl (And.intro rfl trivial)))) ?_
          exact k1 (x4 + (1 : Int32), r36) (am_inj hf).symm
      · have hf := (am_if hf).1 hc
        refine r_aload_n (x := (20, 0, 0)) dX1_pass_258 rfl ?_
        refine r_aload_n (x := (1, n0, 0)) dX1_pass_259 rfl ?_
        refine r_aload (x := (3, n0, x4.toNatClampNeg)) dX1_pass_260 rfl ?_
        refine r_iload (x := x4) dX1_pass_262 rfl ?_
        obtain ⟨r38, hr39, hf⟩ := am_bind hf
        refine r_callV (as := [vR (1, n0, 0), vR (3, n0, x4.toNatClampNeg), vI x4]) (st := []) (n := 3) mw_X1_72 mv_X1_goNearer (C_X1_goNearer (l := l) hn0 (vp_lt h35) hr39) (le_b rfl) dX1_pass_264 (kC_mem (s := 20) (by decide) (by decide) (by decide)) rfl rfl rfl (le_b rfl) (le_b rfl) (le_b rfl) ?_
        show X l _ _ 0 0 false _ kC 0 0 267 [some (vR (20, 0, 0)), some (vR (1, n0, 0)), some (vI c2), none, some (vI x4), some (vR (3, n0, x4.toNatClampNeg))] [] (en r38)
        refine r_goto (tgt := 287) dX1_pass_267 (by decide) ?_
        refine r_iinc (x := x4) (v := x4 + (1 : Int32)) (L' := [some (vR (20, 0, 0)), some (vR (1, n0, 0)), some (vI c2), none, some (vI (x4 + (1 : Int32))), some (vR (3, n0, x4.toNatClampNeg))]) dX1_pass_287 rfl rfl (lt_b rfl) rfl ?_
        refine r_goto (tgt := 224) dX1_pass_290 (by decide) ?_
        refine r_weak (L' := [some (vR (20, 0, 0)), some (vR (1, n0, 0)), some (vI c2), none, some (vI (x4 + (1 : Int32))), none]) (And.intro rfl (And.intro rfl (And.intro rfl (And.intro rfl trivial)))) ?_
        exact k1 (x4 + (1 : Int32), r38) (am_inj hf).symm
def f_X1_pass (w : Nat) (a1 : Int32) (a2 : Int32) (u : PM) : Option (PM) :=
  (am_loop (f_X1_pass_L3 w a1 a2) 2000 ((0 : Int32), u)).bind fun u24 =>
  (am_loop (f_X1_pass_L133 w a1 a2) 2000 ((0 : Int32), u24)).bind fun u34 =>
  (am_loop (f_X1_pass_L224 w a1) 2000 ((0 : Int32), u34)).bind fun u42 =>
  some (pi (pi u42 (1, w, 0) 3 a1) (1, w, 0) 4 ((u42.1 (1, w, 0) 4) + (1 : Int32)))
set_option maxHeartbeats 4000000 in
set_option maxRecDepth 20000 in
theorem C_X1_pass {l : Launch} {w : Nat} (hw : w < 4) {a1 : Int32} {a2 : Int32} {u : PM} {x : PM} (hf : f_X1_pass w a1 a2 u = some x) : Ev l mX1_pass 6 0 0 false [vR (20, 0, 0), vR (1, w, 0), vI a1, vI a2] kC (en u) (none, kC, en x) := by
  refine Ev_of (by decide +kernel) (le_b rfl) ?_
  unfold f_X1_pass at hf
  show X l mX1_pass 6 0 0 false _ kC 0 0 0 [some (vR (20, 0, 0)), some (vR (1, w, 0)), some (vI a1), some (vI a2), none, none] [] (en u)
  refine r_iconst (v := 0) dX1_pass_0 rfl ?_
  refine r_istore (L' := [some (vR (20, 0, 0)), some (vR (1, w, 0)), some (vI a1), some (vI a2), some (vI (0 : Int32)), none]) dX1_pass_1 (by decide) rfl ?_
  refine r_weak (L' := [some (vR (20, 0, 0)), some (vR (1, w, 0)), some (vI a1), some (vI a2), some (vI (0 : Int32)), none]) (And.intro rfl (And.intro rfl (And.intro rfl (And.intro rfl (And.intro rfl trivial))))) ?_
  obtain ⟨e22, he23, hf⟩ := am_bind hf
  refine K_X1_pass_L3 hw 2000 ((0 : Int32), u) _ he23 ?_
  obtain ⟨u24, rfl⟩ : ∃ z, z = e22 := ⟨_, rfl⟩
  show X l _ _ 0 0 false _ kC 0 0 130 [some (vR (20, 0, 0)), some (vR (1, w, 0)), some (vI a1), some (vI a2), none, none] [] (en u24)
  refine r_iconst (v := 0) dX1_pass_130 rfl ?_
  refine r_istore (L' := [some (vR (20, 0, 0)), some (vR (1, w, 0)), some (vI a1), some (vI a2), some (vI (0 : Int32)), none]) dX1_pass_131 (by decide) rfl ?_
  refine r_weak (L' := [some (vR (20, 0, 0)), some (vR (1, w, 0)), some (vI a1), some (vI a2), some (vI (0 : Int32)), none]) (And.intro rfl (And.intro rfl (And.intro rfl (And.intro rfl (And.intro rfl trivial))))) ?_
  obtain ⟨e32, he33, hf⟩ := am_bind hf
  refine K_X1_pass_L133 hw 2000 ((0 : Int32), u24) _ he33 ?_
  obtain ⟨u34, rfl⟩ : ∃ z, z = e32 := ⟨_, rfl⟩
  show X l _ _ 0 0 false _ kC 0 0 221 [some (vR (20, 0, 0)), some (vR (1, w, 0)), some (vI a1), none, none, none] [] (en u34)
  refine r_iconst (v := 0) dX1_pass_221 rfl ?_
  refine r_istore (L' := [some (vR (20, 0, 0)), some (vR (1, w, 0)), some (vI a1), none, some (vI (0 : Int32)), none]) dX1_pass_222 (by decide) rfl ?_
  refine r_weak (L' := [some (vR (20, 0, 0)), some (vR (1, w, 0)), some (vI a1), none, some (vI (0 : Int32)), none]) (And.intro rfl (And.intro rfl (And.intro rfl (And.intro rfl trivial)))) ?_
  obtain ⟨e40, he41, hf⟩ := am_bind hf
  refine K_X1_pass_L224 hw 2000 ((0 : Int32), u34) _ he41 ?_
  obtain ⟨u42, rfl⟩ : ∃ z, z = e40 := ⟨_, rfl⟩
  show X l _ _ 0 0 false _ kC 0 0 293 [none, some (vR (1, w, 0)), some (vI a1), none, none, none] [] (en u42)
  refine r_aload_n (x := (1, w, 0)) dX1_pass_293 rfl ?_
  refine r_iload_n (x := a1) dX1_pass_294 rfl ?_
  refine e_puti fp_X1_80 dX1_pass_295 (kC_mem (s := 1) (by decide) hw (by decide)) rfl (lt_b rfl) rfl rfl rfl ?_
  refine r_aload_n (x := (1, w, 0)) dX1_pass_298 rfl ?_
  refine r_dup dX1_pass_299 rfl ?_
  refine e_geti_ (x := u42.1 (1, w, 0) 4) fw_X1_83 dX1_pass_300 (kC_mem (s := 1) (by decide) hw (by decide)) rfl (lt_b rfl) (by simp [pi, pl, pr, pci, pcl]) ?_
  refine r_iconst (v := 1) dX1_pass_303 rfl ?_
  refine r_iadd dX1_pass_304 ?_
  refine e_puti fp_X1_83 dX1_pass_305 (kC_mem (s := 1) (by decide) hw (by decide)) rfl (lt_b rfl) rfl rfl rfl ?_
  have hx := am_inj hf
  subst hx
  exact r_vret dX1_pass_308 rfl (le_b rfl) (le_b rfl)
/-! FireFromFire$Hours.passNights -/
theorem dX1_passNights_0 : decode cX1_passNights 0 = .ok (.aload_n 2, 1) := by decide +kernel
theorem dX1_passNights_1 : decode cX1_passNights 1 = .ok (.aload_n 1, 1) := by decide +kernel
theorem dX1_passNights_2 : decode cX1_passNights 2 = .ok (.invokevirtual 107, 3) := by decide +kernel
theorem dX1_passNights_5 : decode cX1_passNights 5 = .ok (.aload_n 0, 1) := by decide +kernel
theorem dX1_passNights_6 : decode cX1_passNights 6 = .ok (.invokevirtual 111, 3) := by decide +kernel
theorem dX1_passNights_9 : decode cX1_passNights 9 = .ok (.iconst 0, 1) := by decide +kernel
theorem dX1_passNights_10 : decode cX1_passNights 10 = .ok (.istore 4, 2) := by decide +kernel
theorem dX1_passNights_12 : decode cX1_passNights 12 = .ok (.iload 4, 2) := by decide +kernel
theorem dX1_passNights_14 : decode cX1_passNights 14 = .ok (.iload_n 3, 1) := by decide +kernel
theorem dX1_passNights_15 : decode cX1_passNights 15 = .ok (.if_icmp .ge 47, 3) := by decide +kernel
theorem dX1_passNights_18 : decode cX1_passNights 18 = .ok (.iload 4, 2) := by decide +kernel
theorem dX1_passNights_20 : decode cX1_passNights 20 = .ok (.bipush 12, 2) := by decide +kernel
theorem dX1_passNights_22 : decode cX1_passNights 22 = .ok (.if_icmp .ge 40, 3) := by decide +kernel
theorem dX1_passNights_25 : decode cX1_passNights 25 = .ok (.aload_n 0, 1) := by decide +kernel
theorem dX1_passNights_26 : decode cX1_passNights 26 = .ok (.aload_n 2, 1) := by decide +kernel
theorem dX1_passNights_27 : decode cX1_passNights 27 = .ok (.aload_n 1, 1) := by decide +kernel
theorem dX1_passNights_28 : decode cX1_passNights 28 = .ok (.getfield 114, 3) := by decide +kernel
theorem dX1_passNights_31 : decode cX1_passNights 31 = .ok (.iload 4, 2) := by decide +kernel
theorem dX1_passNights_33 : decode cX1_passNights 33 = .ok (.iaload, 1) := by decide +kernel
theorem dX1_passNights_34 : decode cX1_passNights 34 = .ok (.invokevirtual 117, 3) := by decide +kernel
theorem dX1_passNights_37 : decode cX1_passNights 37 = .ok (.aload_n 0, 1) := by decide +kernel
theorem dX1_passNights_38 : decode cX1_passNights 38 = .ok (.aload_n 2, 1) := by decide +kernel
theorem dX1_passNights_39 : decode cX1_passNights 39 = .ok (.aload_n 1, 1) := by decide +kernel
theorem dX1_passNights_40 : decode cX1_passNights 40 = .ok (.getfield 114, 3) := by decide +kernel
theorem dX1_passNights_43 : decode cX1_passNights 43 = .ok (.iload 4, 2) := by decide +kernel
theorem dX1_passNights_45 : decode cX1_passNights 45 = .ok (.iaload, 1) := by decide +kernel
theorem dX1_passNights_46 : decode cX1_passNights 46 = .ok (.aload_n 1, 1) := by decide +kernel
theorem dX1_passNights_47 : decode cX1_passNights 47 = .ok (.getfield 121, 3) := by decide +kernel
theorem dX1_passNights_50 : decode cX1_passNights 50 = .ok (.iload 4, 2) := by decide +kernel
theorem dX1_passNights_52 : decode cX1_passNights 52 = .ok (.iaload, 1) := by decide +kernel
theorem dX1_passNights_53 : decode cX1_passNights 53 = .ok (.invokevirtual 124, 3) := by decide +kernel
theorem dX1_passNights_56 : decode cX1_passNights 56 = .ok (.iinc 4 1, 3) := by decide +kernel
theorem dX1_passNights_59 : decode cX1_passNights 59 = .ok (.goto (-47), 3) := by decide +kernel
theorem dX1_passNights_62 : decode cX1_passNights 62 = .ok (.return_, 1) := by decide +kernel
def f_X1_passNights_L12 (n0 : Nat) (n1 : Nat) (c3 : Int32) : Int32 × PM → Option ((Int32 × PM) ⊕ (PM)) := fun (x4 , u) =>
  if c3 ≤ x4 then
    some (.inr (u))
  else
  if (12 : Int32) ≤ x4 then
    some (.inr (u))
  else
  if x4 < 0 ∨ 12 ≤ x4.toNatClampNeg then none else
  (f_X1_weigh n1 (u.1 (6, n0, 0) x4.toNatClampNeg) u).bind fun r6 =>
  (f_X1_pass n1 (r6.1 (6, n0, 0) x4.toNatClampNeg) (r6.1 (7, n0, 0) x4.toNatClampNeg) r6).bind fun r8 =>
  some (.inl (x4 + (1 : Int32), r8))
set_option maxHeartbeats 4000000 in
set_option maxRecDepth 20000 in
theorem K_X1_passNights_L12 {l : Launch} {T : Option AV × List Key × AM} {n0 : Nat} (hn0 : n0 < 4) {n1 : Nat} (hn1 : n1 < 4) {c3 : Int32} : ∀ (n : Nat) (s : Int32 × PM) (e0 : PM), am_loop (f_X1_passNights_L12 n0 n1 c3) n s = some e0 → (fun e : PM => X l mX1_passNights 7 0 0 false T kC 0 0 62 [none, none, none, none, none] [] (en e)) e0 → X l mX1_passNights 7 0 0 false T kC 0 0 12 [some (vR (20, 0, 0)), some (vR (1, n0, 0)), some (vR (1, n1, 0)), some (vI c3), some (vI s.1)] [] (en s.2) := by
  refine am_loop_of ?_
  intro s x hf k1 k2
  obtain ⟨x4 , u⟩ := s
  unfold f_X1_passNights_L12 at hf
  show X l mX1_passNights 7 0 0 false T kC 0 0 12 [some (vR (20, 0, 0)), some (vR (1, n0, 0)), some (vR (1, n1, 0)), some (vI c3), some (vI x4)] [] (en u)
  refine r_iload (x := x4) dX1_passNights_12 rfl ?_
  refine r_iload_n (x := c3) dX1_passNights_14 rfl ?_
  refine r_icmp_ge (tgt := 62) dX1_passNights_15 (by decide) (fun hc => ?_) (fun hc => ?_)
  · have hf := (am_if hf).1 hc
    refine r_weak (L' := [none, none, none, none, none]) trivial ?_
    exact k2 (u) (am_inj hf).symm
  · have hf := (am_if hf).2 hc
    refine r_iload (x := x4) dX1_passNights_18 rfl ?_
    refine r_bipush (v := 12) dX1_passNights_20 rfl ?_
    refine r_icmp_ge (tgt := 62) dX1_passNights_22 (by decide) (fun hc => ?_) (fun hc => ?_)
    · have hf := (am_if hf).1 hc
      refine r_weak (L' := [none, none, none, none, none]) trivial ?_
      exact k2 (u) (am_inj hf).symm
    · have hf := (am_if hf).2 hc
      refine r_aload_n (x := (20, 0, 0)) dX1_passNights_25 rfl ?_
      refine r_aload_n (x := (1, n1, 0)) dX1_passNights_26 rfl ?_
      refine r_aload_n (x := (1, n0, 0)) dX1_passNights_27 rfl ?_
      refine e_getr (z := some (6, n0, 0)) fw_X1_114 dX1_passNights_28 (kC_mem (s := 1) (by decide) hn0 (by decide)) rfl (lt_b rfl) rfl ?_
      refine r_iload (x := x4) dX1_passNights_31 rfl ?_
      obtain ⟨h5, hf⟩ := am_nchk hf
      refine e_iald (n := x4.toNatClampNeg) dX1_passNights_33 (kC_mem (s := 6) (by decide) hn0 (by decide)) rfl h5 rfl rfl ?_
      obtain ⟨r6, hr7, hf⟩ := am_bind hf
      refine r_callV (as := [vR (1, n1, 0), vI (u.1 (6, n0, 0) x4.toNatClampNeg)]) (st := []) (n := 2) mw_X1_117 mv_X1_weigh (C_X1_weigh (l := l) hn1 hr7) (le_b rfl) dX1_passNights_34 (kC_mem (s := 20) (by decide) (by decide) (by decide)) rfl rfl rfl (le_b rfl) (le_b rfl) (le_b rfl) ?_
      show X l _ _ 0 0 false _ kC 0 0 37 [some (vR (20, 0, 0)), some (vR (1, n0, 0)), some (vR (1, n1, 0)), some (vI c3), some (vI x4)] [] (en r6)
      refine r_aload_n (x := (20, 0, 0)) dX1_passNights_37 rfl ?_
      refine r_aload_n (x := (1, n1, 0)) dX1_passNights_38 rfl ?_
      refine r_aload_n (x := (1, n0, 0)) dX1_passNights_39 rfl ?_
      refine e_getr (z := some (6, n0, 0)) fw_X1_114 dX1_passNights_40 (kC_mem (s := 1) (by decide) hn0 (by decide)) rfl (lt_b rfl) rfl ?_
      refine r_iload (x := x4) dX1_passNights_43 rfl ?_
      refine e_iald (n := x4.toNatClampNeg) dX1_passNights_45 (kC_mem (s := 6) (by decide) hn0 (by decide)) rfl h5 rfl rfl ?_
      refine r_aload_n (x := (1, n0, 0)) dX1_passNights_46 rfl ?_
      refine e_getr (z := some (7, n0, 0)) fw_X1_121 dX1_passNights_47 (kC_mem (s := 1) (by decide) hn0 (by decide)) rfl (lt_b rfl) rfl ?_
      refine r_iload (x := x4) dX1_passNights_50 rfl ?_
      refine e_iald (n := x4.toNatClampNeg) dX1_passNights_52 (kC_mem (s := 7) (by decide) hn0 (by decide)) rfl h5 rfl rfl ?_
      obtain ⟨r8, hr9, hf⟩ := am_bind hf
      refine r_callV (as := [vR (1, n1, 0), vI (r6.1 (6, n0, 0) x4.toNatClampNeg), vI (r6.1 (7, n0, 0) x4.toNatClampNeg)]) (st := []) (n := 3) mw_X1_124 mv_X1_pass (C_X1_pass (l := l) hn1 hr9) (le_b rfl) dX1_passNights_53 (kC_mem (s := 20) (by decide) (by decide) (by decide)) rfl rfl rfl (le_b rfl) (le_b rfl) (le_b rfl) ?_
      show X l _ _ 0 0 false _ kC 0 0 56 [some (vR (20, 0, 0)), some (vR (1, n0, 0)), some (vR (1, n1, 0)), some (vI c3), some (vI x4)] [] (en r8)
      refine r_iinc (x := x4) (v := x4 + (1 : Int32)) (L' := [some (vR (20, 0, 0)), some (vR (1, n0, 0)), some (vR (1, n1, 0)), some (vI c3), some (vI (x4 + (1 : Int32)))]) dX1_passNights_56 rfl rfl (lt_b rfl) rfl ?_
      refine r_goto (tgt := 12) dX1_passNights_59 (by decide) ?_
      refine r_weak (L' := [some (vR (20, 0, 0)), some (vR (1, n0, 0)), some (vR (1, n1, 0)), some (vI c3), some (vI (x4 + (1 : Int32)))]) (And.intro rfl (And.intro rfl (And.intro rfl (And.intro rfl (And.intro rfl trivial))))) ?_
      exact k1 (x4 + (1 : Int32), r8) (am_inj hf).symm
def f_X1_passNights (w : Nat) (w2 : Nat) (a2 : Int32) (u : PM) : Option (PM) :=
  (f_X8_copy w2 w u).bind fun r1 =>
  (f_X1_begin r1).bind fun r3 =>
  (am_loop (f_X1_passNights_L12 w w2 a2) 2000 ((0 : Int32), r3)).bind fun u12 =>
  some u12
set_option maxHeartbeats 4000000 in
set_option maxRecDepth 20000 in
theorem C_X1_passNights {l : Launch} {w : Nat} (hw : w < 4) {w2 : Nat} (hw2 : w2 < 4) {a2 : Int32} {u : PM} {x : PM} (hf : f_X1_passNights w w2 a2 u = some x) : Ev l mX1_passNights 7 0 0 false [vR (20, 0, 0), vR (1, w, 0), vR (1, w2, 0), vI a2] kC (en u) (none, kC, en x) := by
  refine Ev_of (by decide +kernel) (le_b rfl) ?_
  unfold f_X1_passNights at hf
  show X l mX1_passNights 7 0 0 false _ kC 0 0 0 [some (vR (20, 0, 0)), some (vR (1, w, 0)), some (vR (1, w2, 0)), some (vI a2), none] [] (en u)
  refine r_aload_n (x := (1, w2, 0)) dX1_passNights_0 rfl ?_
  refine r_aload_n (x := (1, w, 0)) dX1_passNights_1 rfl ?_
  obtain ⟨r1, hr2, hf⟩ := am_bind hf
  refine r_callV (as := [vR (1, w, 0)]) (st := []) (n := 1) mw_X1_107 mv_X8_copy (C_X8_copy (l := l) hw2 hw hr2) (le_b rfl) dX1_passNights_2 (kC_mem (s := 1) (by decide) hw2 (by decide)) rfl rfl rfl (le_b rfl) (le_b rfl) (le_b rfl) ?_
  show X l _ _ 0 0 false _ kC 0 0 5 [some (vR (20, 0, 0)), some (vR (1, w, 0)), some (vR (1, w2, 0)), some (vI a2), none] [] (en r1)
  refine r_aload_n (x := (20, 0, 0)) dX1_passNights_5 rfl ?_
  obtain ⟨r3, hr4, hf⟩ := am_bind hf
  refine r_callV (as := []) (st := []) (n := 0) mw_X1_111 mv_X1_begin (C_X1_begin (l := l) hr4) (le_b rfl) dX1_passNights_6 (kC_mem (s := 20) (by decide) (by decide) (by decide)) rfl rfl rfl (le_b rfl) (le_b rfl) (le_b rfl) ?_
  show X l _ _ 0 0 false _ kC 0 0 9 [some (vR (20, 0, 0)), some (vR (1, w, 0)), some (vR (1, w2, 0)), some (vI a2), none] [] (en r3)
  refine r_iconst (v := 0) dX1_passNights_9 rfl ?_
  refine r_istore (L' := [some (vR (20, 0, 0)), some (vR (1, w, 0)), some (vR (1, w2, 0)), some (vI a2), some (vI (0 : Int32))]) dX1_passNights_10 (by decide) rfl ?_
  refine r_weak (L' := [some (vR (20, 0, 0)), some (vR (1, w, 0)), some (vR (1, w2, 0)), some (vI a2), some (vI (0 : Int32))]) (And.intro rfl (And.intro rfl (And.intro rfl (And.intro rfl (And.intro rfl trivial))))) ?_
  obtain ⟨e10, he11, hf⟩ := am_bind hf
  refine K_X1_passNights_L12 hw hw2 2000 ((0 : Int32), r3) _ he11 ?_
  obtain ⟨u12, rfl⟩ : ∃ z, z = e10 := ⟨_, rfl⟩
  show X l _ _ 0 0 false _ kC 0 0 62 [none, none, none, none, none] [] (en u12)
  have hx := am_inj hf
  subst hx
  exact r_vret dX1_passNights_62 rfl (le_b rfl) (le_b rfl)
/-! FireFromFire$Hours.gain -/
theorem dX1_gain_0 : decode cX1_gain 0 = .ok (.iconst 0, 1) := by decide +kernel
theorem dX1_gain_1 : decode cX1_gain 1 = .ok (.istore 5, 2) := by decide +kernel
theorem dX1_gain_3 : decode cX1_gain 3 = .ok (.iconst 0, 1) := by decide +kernel
theorem dX1_gain_4 : decode cX1_gain 4 = .ok (.istore 6, 2) := by decide +kernel
theorem dX1_gain_6 : decode cX1_gain 6 = .ok (.iload 6, 2) := by decide +kernel
theorem dX1_gain_8 : decode cX1_gain 8 = .ok (.iconst 2, 1) := by decide +kernel
theorem dX1_gain_9 : decode cX1_gain 9 = .ok (.if_icmp .ge 88, 3) := by decide +kernel
theorem dX1_gain_12 : decode cX1_gain 12 = .ok (.aload_n 2, 1) := by decide +kernel
theorem dX1_gain_13 : decode cX1_gain 13 = .ok (.aload_n 1, 1) := by decide +kernel
theorem dX1_gain_14 : decode cX1_gain 14 = .ok (.invokevirtual 107, 3) := by decide +kernel
theorem dX1_gain_17 : decode cX1_gain 17 = .ok (.aload_n 2, 1) := by decide +kernel
theorem dX1_gain_18 : decode cX1_gain 18 = .ok (.iload_n 3, 1) := by decide +kernel
theorem dX1_gain_19 : decode cX1_gain 19 = .ok (.invokevirtual 95, 3) := by decide +kernel
theorem dX1_gain_22 : decode cX1_gain 22 = .ok (.astore 7, 2) := by decide +kernel
theorem dX1_gain_24 : decode cX1_gain 24 = .ok (.iload 6, 2) := by decide +kernel
theorem dX1_gain_26 : decode cX1_gain 26 = .ok (.iconst 1, 1) := by decide +kernel
theorem dX1_gain_27 : decode cX1_gain 27 = .ok (.if_icmp .ne 14, 3) := by decide +kernel
theorem dX1_gain_30 : decode cX1_gain 30 = .ok (.aload 7, 2) := by decide +kernel
theorem dX1_gain_32 : decode cX1_gain 32 = .ok (.ifnull 9, 3) := by decide +kernel
theorem dX1_gain_35 : decode cX1_gain 35 = .ok (.aload 7, 2) := by decide +kernel
theorem dX1_gain_37 : decode cX1_gain 37 = .ok (.iconst 1, 1) := by decide +kernel
theorem dX1_gain_38 : decode cX1_gain 38 = .ok (.putfield 44, 3) := by decide +kernel
theorem dX1_gain_41 : decode cX1_gain 41 = .ok (.aload_n 0, 1) := by decide +kernel
theorem dX1_gain_42 : decode cX1_gain 42 = .ok (.invokevirtual 111, 3) := by decide +kernel
theorem dX1_gain_45 : decode cX1_gain 45 = .ok (.iconst 0, 1) := by decide +kernel
theorem dX1_gain_46 : decode cX1_gain 46 = .ok (.istore 8, 2) := by decide +kernel
theorem dX1_gain_48 : decode cX1_gain 48 = .ok (.iload 8, 2) := by decide +kernel
theorem dX1_gain_50 : decode cX1_gain 50 = .ok (.iload 4, 2) := by decide +kernel
theorem dX1_gain_52 : decode cX1_gain 52 = .ok (.if_icmp .ge 28, 3) := by decide +kernel
theorem dX1_gain_55 : decode cX1_gain 55 = .ok (.aload_n 0, 1) := by decide +kernel
theorem dX1_gain_56 : decode cX1_gain 56 = .ok (.aload_n 2, 1) := by decide +kernel
theorem dX1_gain_57 : decode cX1_gain 57 = .ok (.aload_n 1, 1) := by decide +kernel
theorem dX1_gain_58 : decode cX1_gain 58 = .ok (.getfield 80, 3) := by decide +kernel
theorem dX1_gain_61 : decode cX1_gain 61 = .ok (.invokevirtual 117, 3) := by decide +kernel
theorem dX1_gain_64 : decode cX1_gain 64 = .ok (.aload_n 0, 1) := by decide +kernel
theorem dX1_gain_65 : decode cX1_gain 65 = .ok (.aload_n 2, 1) := by decide +kernel
theorem dX1_gain_66 : decode cX1_gain 66 = .ok (.aload_n 1, 1) := by decide +kernel
theorem dX1_gain_67 : decode cX1_gain 67 = .ok (.getfield 80, 3) := by decide +kernel
theorem dX1_gain_70 : decode cX1_gain 70 = .ok (.iconst 0, 1) := by decide +kernel
theorem dX1_gain_71 : decode cX1_gain 71 = .ok (.invokevirtual 124, 3) := by decide +kernel
theorem dX1_gain_74 : decode cX1_gain 74 = .ok (.iinc 8 1, 3) := by decide +kernel
theorem dX1_gain_77 : decode cX1_gain 77 = .ok (.goto (-29), 3) := by decide +kernel
theorem dX1_gain_80 : decode cX1_gain 80 = .ok (.iload 6, 2) := by decide +kernel
theorem dX1_gain_82 : decode cX1_gain 82 = .ok (.ifCond .ne 9, 3) := by decide +kernel
theorem dX1_gain_85 : decode cX1_gain 85 = .ok (.aload_n 0, 1) := by decide +kernel
theorem dX1_gain_86 : decode cX1_gain 86 = .ok (.getfield 9, 3) := by decide +kernel
theorem dX1_gain_89 : decode cX1_gain 89 = .ok (.istore 5, 2) := by decide +kernel
theorem dX1_gain_91 : decode cX1_gain 91 = .ok (.iinc 6 1, 3) := by decide +kernel
theorem dX1_gain_94 : decode cX1_gain 94 = .ok (.goto (-88), 3) := by decide +kernel
theorem dX1_gain_97 : decode cX1_gain 97 = .ok (.aload_n 0, 1) := by decide +kernel
theorem dX1_gain_98 : decode cX1_gain 98 = .ok (.getfield 9, 3) := by decide +kernel
theorem dX1_gain_101 : decode cX1_gain 101 = .ok (.iload 5, 2) := by decide +kernel
theorem dX1_gain_103 : decode cX1_gain 103 = .ok (.isub, 1) := by decide +kernel
theorem dX1_gain_104 : decode cX1_gain 104 = .ok (.ireturn, 1) := by decide +kernel
def f_X1_gain_L48 (n0 : Nat) (n1 : Nat) (c3 : Int32) (c4 : Int32) (c5 : Int32) (c6 : Int32) : Int32 × PM → Option ((Int32 × PM) ⊕ (PM)) := fun (x8 , u) =>
  if c4 ≤ x8 then
    some (.inr (u))
  else
  (f_X1_weigh n1 (u.1 (1, n0, 0) 3) u).bind fun r9 =>
  (f_X1_pass n1 (r9.1 (1, n0, 0) 3) (0 : Int32) r9).bind fun r11 =>
  some (.inl (x8 + (1 : Int32), r11))
set_option maxHeartbeats 4000000 in
set_option maxRecDepth 20000 in
theorem K_X1_gain_L48 {l : Launch} {T : Option AV × List Key × AM} {n0 : Nat} (hn0 : n0 < 4) {n1 : Nat} (hn1 : n1 < 4) {c3 : Int32} {c4 : Int32} {c5 : Int32} {c6 : Int32} : ∀ (n : Nat) (s : Int32 × PM) (e0 : PM), am_loop (f_X1_gain_L48 n0 n1 c3 c4 c5 c6) n s = some e0 → (fun e : PM => X l mX1_gain 7 0 0 false T kC 0 0 80 [some (vR (20, 0, 0)), some (vR (1, n0, 0)), some (vR (1, n1, 0)), some (vI c3), some (vI c4), some (vI c5), some (vI c6), none, none] [] (en e)) e0 → X l mX1_gain 7 0 0 false T kC 0 0 48 [some (vR (20, 0, 0)), some (vR (1, n0, 0)), some (vR (1, n1, 0)), some (vI c3), some (vI c4), some (vI c5), some (vI c6), none, some (vI s.1)] [] (en s.2) := by
  refine am_loop_of ?_
  intro s x hf k1 k2
  obtain ⟨x8 , u⟩ := s
  unfold f_X1_gain_L48 at hf
  show X l mX1_gain 7 0 0 false T kC 0 0 48 [some (vR (20, 0, 0)), some (vR (1, n0, 0)), some (vR (1, n1, 0)), some (vI c3), some (vI c4), some (vI c5), some (vI c6), none, some (vI x8)] [] (en u)
  refine r_iload (x := x8) dX1_gain_48 rfl ?_
  refine r_iload (x := c4) dX1_gain_50 rfl ?_
  refine r_icmp_ge (tgt := 80) dX1_gain_52 (by decide) (fun hc => ?_) (fun hc => ?_)
  · have hf := (am_if hf).1 hc
    refine r_weak (L' := [some (vR (20, 0, 0)), some (vR (1, n0, 0)), some (vR (1, n1, 0)), some (vI c3), some (vI c4), some (vI c5), some (vI c6), none, none]) (And.intro rfl (And.intro rfl (And.intro rfl (And.intro rfl (And.intro rfl (And.intro rfl (And.intro rfl trivial))))))) ?_
    exact k2 (u) (am_inj hf).symm
  · have hf := (am_if hf).2 hc
    refine r_aload_n (x := (20, 0, 0)) dX1_gain_55 rfl ?_
    refine r_aload_n (x := (1, n1, 0)) dX1_gain_56 rfl ?_
    refine r_aload_n (x := (1, n0, 0)) dX1_gain_57 rfl ?_
    refine e_geti fw_X1_80 dX1_gain_58 (kC_mem (s := 1) (by decide) hn0 (by decide)) rfl (lt_b rfl) ?_
    obtain ⟨r9, hr10, hf⟩ := am_bind hf
    refine r_callV (as := [vR (1, n1, 0), vI (u.1 (1, n0, 0) 3)]) (st := []) (n := 2) mw_X1_117 mv_X1_weigh (C_X1_weigh (l := l) hn1 hr10) (le_b rfl) dX1_gain_61 (kC_mem (s := 20) (by decide) (by decide) (by decide)) rfl rfl rfl (le_b rfl) (le_b rfl) (le_b rfl) ?_
    show X l _ _ 0 0 false _ kC 0 0 64 [some (vR (20, 0, 0)), some (vR (1, n0, 0)), some (vR (1, n1, 0)), some (vI c3), some (vI c4), some (vI c5), some (vI c6), none, some (vI x8)] [] (en r9)
    refine r_aload_n (x := (20, 0, 0)) dX1_gain_64 rfl ?_
    refine r_aload_n (x := (1, n1, 0)) dX1_gain_65 rfl ?_
    refine r_aload_n (x := (1, n0, 0)) dX1_gain_66 rfl ?_
    refine e_geti fw_X1_80 dX1_gain_67 (kC_mem (s := 1) (by decide) hn0 (by decide)) rfl (lt_b rfl) ?_
    refine r_iconst (v := 0) dX1_gain_70 rfl ?_
    obtain ⟨r11, hr12, hf⟩ := am_bind hf
    refine r_callV (as := [vR (1, n1, 0), vI (r9.1 (1, n0, 0) 3), vI (0 : Int32)]) (st := []) (n := 3) mw_X1_124 mv_X1_pass (C_X1_pass (l := l) hn1 hr12) (le_b rfl) dX1_gain_71 (kC_mem (s := 20) (by decide) (by decide) (by decide)) rfl rfl rfl (le_b rfl) (le_b rfl) (le_b rfl) ?_
    show X l _ _ 0 0 false _ kC 0 0 74 [some (vR (20, 0, 0)), some (vR (1, n0, 0)), some (vR (1, n1, 0)), some (vI c3), some (vI c4), some (vI c5), some (vI c6), none, some (vI x8)] [] (en r11)
    refine r_iinc (x := x8) (v := x8 + (1 : Int32)) (L' := [some (vR (20, 0, 0)), some (vR (1, n0, 0)), some (vR (1, n1, 0)), some (vI c3), some (vI c4), some (vI c5), some (vI c6), none, some (vI (x8 + (1 : Int32)))]) dX1_gain_74 rfl rfl (lt_b rfl) rfl ?_
    refine r_goto (tgt := 48) dX1_gain_77 (by decide) ?_
    refine r_weak (L' := [some (vR (20, 0, 0)), some (vR (1, n0, 0)), some (vR (1, n1, 0)), some (vI c3), some (vI c4), some (vI c5), some (vI c6), none, some (vI (x8 + (1 : Int32)))]) (And.intro rfl (And.intro rfl (And.intro rfl (And.intro rfl (And.intro rfl (And.intro rfl (And.intro rfl (And.intro rfl trivial)))))))) ?_
    exact k1 (x8 + (1 : Int32), r11) (am_inj hf).symm
def f_X1_gain_L6 (n0 : Nat) (n1 : Nat) (c3 : Int32) (c4 : Int32) : Int32 × Int32 × PM → Option ((Int32 × Int32 × PM) ⊕ (Int32 × PM)) := fun (x5 , x6 , u) =>
  if (2 : Int32) ≤ x6 then
    some (.inr (x5, u))
  else
  (f_X8_copy n1 n0 u).bind fun r1 =>
  (f_X8_find n1 c3 r1).bind fun r3 =>
  match r3 with
  | none =>
    if x6 = (1 : Int32) then
      (f_X1_begin r1).bind fun r16 =>
      (am_loop (f_X1_gain_L48 n0 n1 c3 c4 x5 x6) 2000 ((0 : Int32), r16)).bind fun u20 =>
      if x6 = 0 then
        some (.inl (u20.1 (20, 0, 0) 0, x6 + (1 : Int32), u20))
      else
      some (.inl (x5, x6 + (1 : Int32), u20))
    else
    (f_X1_begin r1).bind fun r7 =>
    (am_loop (f_X1_gain_L48 n0 n1 c3 c4 x5 x6) 2000 ((0 : Int32), r7)).bind fun u15 =>
    if x6 = 0 then
      some (.inl (u15.1 (20, 0, 0) 0, x6 + (1 : Int32), u15))
    else
    some (.inl (x5, x6 + (1 : Int32), u15))
  | some p5 =>
    if p5 < 6 then
      if x6 = (1 : Int32) then
        (f_X1_begin (pi r1 (3, n1, p5) 1 (1 : Int32))).bind fun r26 =>
        (am_loop (f_X1_gain_L48 n0 n1 c3 c4 x5 x6) 2000 ((0 : Int32), r26)).bind fun u30 =>
        if x6 = 0 then
          some (.inl (u30.1 (20, 0, 0) 0, x6 + (1 : Int32), u30))
        else
        some (.inl (x5, x6 + (1 : Int32), u30))
      else
      (f_X1_begin r1).bind fun r21 =>
      (am_loop (f_X1_gain_L48 n0 n1 c3 c4 x5 x6) 2000 ((0 : Int32), r21)).bind fun u25 =>
      if x6 = 0 then
        some (.inl (u25.1 (20, 0, 0) 0, x6 + (1 : Int32), u25))
      else
      some (.inl (x5, x6 + (1 : Int32), u25))
    else none
set_option maxHeartbeats 4000000 in
set_option maxRecDepth 20000 in
theorem K_X1_gain_L6 {l : Launch} {T : Option AV × List Key × AM} {n0 : Nat} (hn0 : n0 < 4) {n1 : Nat} (hn1 : n1 < 4) {c3 : Int32} {c4 : Int32} : ∀ (n : Nat) (s : Int32 × Int32 × PM) (e0 : Int32 × PM), am_loop (f_X1_gain_L6 n0 n1 c3 c4) n s = some e0 → (fun e : Int32 × PM => X l mX1_gain 7 0 0 false T kC 0 0 97 [some (vR (20, 0, 0)), none, none, none, none, some (vI e.1), none, none, none] [] (en e.2)) e0 → X l mX1_gain 7 0 0 false T kC 0 0 6 [some (vR (20, 0, 0)), some (vR (1, n0, 0)), some (vR (1, n1, 0)), some (vI c3), some (vI c4), some (vI s.1), some (vI s.2.1), none, none] [] (en s.2.2) := by
  refine am_loop_of ?_
  intro s x hf k1 k2
  obtain ⟨x5 , x6 , u⟩ := s
  unfold f_X1_gain_L6 at hf
  show X l mX1_gain 7 0 0 false T kC 0 0 6 [some (vR (20, 0, 0)), some (vR (1, n0, 0)), some (vR (1, n1, 0)), some (vI c3), some (vI c4), some (vI x5), some (vI x6), none, none] [] (en u)
  refine r_iload (x := x6) dX1_gain_6 rfl ?_
  refine r_iconst (v := 2) dX1_gain_8 rfl ?_
  refine r_icmp_ge (tgt := 97) dX1_gain_9 (by decide) (fun hc => ?_) (fun hc => ?_)
  · have hf := (am_if hf).1 hc
    refine r_weak (L' := [some (vR (20, 0, 0)), none, none, none, none, some (vI x5), none, none, none]) (And.intro rfl (And.intro rfl trivial)) ?_
    exact k2 (x5, u) (am_inj hf).symm
  · have hf := (am_if hf).2 hc
    refine r_aload_n (x := (1, n1, 0)) dX1_gain_12 rfl ?_
    refine r_aload_n (x := (1, n0, 0)) dX1_gain_13 rfl ?_
    obtain ⟨r1, hr2, hf⟩ := am_bind hf
    refine r_callV (as := [vR (1, n0, 0)]) (st := []) (n := 1) mw_X1_107 mv_X8_copy (C_X8_copy (l := l) hn1 hn0 hr2) (le_b rfl) dX1_gain_14 (kC_mem (s := 1) (by decide) hn1 (by decide)) rfl rfl rfl (le_b rfl) (le_b rfl) (le_b rfl) ?_
    show X l _ _ 0 0 false _ kC 0 0 17 [some (vR (20, 0, 0)), some (vR (1, n0, 0)), some (vR (1, n1, 0)), some (vI c3), some (vI c4), some (vI x5), some (vI x6), none, none] [] (en r1)
    refine r_aload_n (x := (1, n1, 0)) dX1_gain_17 rfl ?_
    refine r_iload_n (x := c3) dX1_gain_18 rfl ?_
    obtain ⟨r3, hr4, hf⟩ := am_bind hf
    refine r_callV (as := [vI c3]) (st := []) (n := 1) mw_X1_95 mv_X8_find (C_X8_find (l := l) hn1 hr4) (le_b rfl) dX1_gain_19 (kC_mem (s := 1) (by decide) hn1 (by decide)) rfl rfl rfl (le_b rfl) (le_b rfl) (le_b rfl) ?_
    cases r3 with
    | none =>
      show X l _ _ 0 0 false _ kC 0 0 22 [some (vR (20, 0, 0)), some (vR (1, n0, 0)), some (vR (1, n1, 0)), some (vI c3), some (vI c4), some (vI x5), some (vI x6), none, none] [vN] (en r1)
      refine r_astoreN (L' := [some (vR (20, 0, 0)), some (vR (1, n0, 0)), some (vR (1, n1, 0)), some (vI c3), some (vI c4), some (vI x5), some (vI x6), some (vN), none]) dX1_gain_22 (by decide) rfl ?_
      refine r_iload (x := x6) dX1_gain_24 rfl ?_
      refine r_iconst (v := 1) dX1_gain_26 rfl ?_
      refine r_icmp_ne (tgt := 41) dX1_gain_27 (by decide) (fun hc => ?_) (fun hc => ?_)
      · have hf := (am_if hf).2 hc
        refine r_aload_n (x := (20, 0, 0)) dX1_gain_41 rfl ?_
        obtain ⟨r7, hr8, hf⟩ := am_bind hf
        refine r_callV (as := []) (st := []) (n := 0) mw_X1_111 mv_X1_begin (C_X1_begin (l := l) hr8) (le_b rfl) dX1_gain_42 (kC_mem (s := 20) (by decide) (by decide) (by decide)) rfl rfl rfl (le_b rfl) (le_b rfl) (le_b rfl) ?_
        show X l _ _ 0 0 false _ kC 0 0 45 [some (vR (20, 0, 0)), some (vR (1, n0, 0)), some (vR (1, n1, 0)), some (vI c3), some (vI c4), some (vI x5), some (vI x6), some (vN), none] [] (en r7)
        refine r_iconst (v := 0) dX1_gain_45 rfl ?_
        refine r_istore (L' := [some (vR (20, 0, 0)), some (vR (1, n0, 0)), some (vR (1, n1, 0)), some (vI c3), some (vI c4), some (vI x5), some (vI x6), some (vN), some (vI (0 : Int32))]) dX1_gain_46 (by decide) rfl ?_
        refine r_weak (L' := [some (vR (20, 0, 0)), some (vR (1, n0, 0)), some (vR (1, n1, 0)), some (vI c3), some (vI c4), some (vI x5), some (vI x6), none, some (vI (0 : Int32))]) (And.intro rfl (And.intro rfl (And.intro rfl (And.intro rfl (And.intro rfl (And.intro rfl (And.intro rfl (And.intro rfl trivial)))))))) ?_
        obtain ⟨e13, he14, hf⟩ := am_bind hf
        refine K_X1_gain_L48 hn0 hn1 2000 ((0 : Int32), r7) _ he14 ?_
        obtain ⟨u15, rfl⟩ : ∃ z, z = e13 := ⟨_, rfl⟩
        show X l _ _ 0 0 false _ kC 0 0 80 [some (vR (20, 0, 0)), some (vR (1, n0, 0)), some (vR (1, n1, 0)), some (vI c3), some (vI c4), some (vI x5), some (vI x6), none, none] [] (en u15)
        refine r_iload (x := x6) dX1_gain_80 rfl ?_
        refine r_if_ne (tgt := 91) dX1_gain_82 (by decide) (fun hc => ?_) (fun hc => ?_)
        · have hf := (am_if hf).2 hc
          refine r_iinc (x := x6) (v := x6 + (1 : Int32)) (L' := [some (vR (20, 0, 0)), some (vR (1, n0, 0)), some (vR (1, n1, 0)), some (vI c3), some (vI c4), some (vI x5), some (vI (x6 + (1 : Int32))), none, none]) dX1_gain_91 rfl rfl (lt_b rfl) rfl ?_
          refine r_goto (tgt := 6) dX1_gain_94 (by decide) ?_
          refine r_weak (L' := [some (vR (20, 0, 0)), some (vR (1, n0, 0)), some (vR (1, n1, 0)), some (vI c3), some (vI c4), some (vI x5), some (vI (x6 + (1 : Int32))), none, none]) (And.intro rfl (And.intro rfl (And.intro rfl (And.intro rfl (And.intro rfl (And.intro rfl (And.intro rfl trivial))))))) ?_
          exact k1 (x5, x6 + (1 : Int32), u15) (am_inj hf).symm
        · have hf := (am_if hf).1 hc
          refine r_aload_n (x := (20, 0, 0)) dX1_gain_85 rfl ?_
          refine e_geti fw_X1_9 dX1_gain_86 (kC_mem (s := 20) (by decide) (by decide) (by decide)) rfl (lt_b rfl) ?_
          refine r_istore (L' := [some (vR (20, 0, 0)), some (vR (1, n0, 0)), some (vR (1, n1, 0)), some (vI c3), some (vI c4), some (vI (u15.1 (20, 0, 0) 0)), some (vI x6), none, none]) dX1_gain_89 (by decide) rfl ?_
          refine r_iinc (x := x6) (v := x6 + (1 : Int32)) (L' := [some (vR (20, 0, 0)), some (vR (1, n0, 0)), some (vR (1, n1, 0)), some (vI c3), some (vI c4), some (vI (u15.1 (20, 0, 0) 0)), some (vI (x6 + (1 : Int32))), none, none]) dX1_gain_91 rfl rfl (lt_b rfl) rfl ?_
          refine r_goto (tgt := 6) dX1_gain_94 (by decide) ?_
          refine r_weak (L' := [some (vR (20, 0, 0)), some (vR (1, n0, 0)), some (vR (1, n1, 0)), some (vI c3), some (vI c4), some (vI (u15.1 (20, 0, 0) 0)), some (vI (x6 + (1 : Int32))), none, none]) (And.intro rfl (And.intro rfl (And.intro rfl (And.intro rfl (And.intro rfl (And.intro rfl (And.intro rfl trivial))))))) ?_
          exact k1 (u15.1 (20, 0, 0) 0, x6 + (1 : Int32), u15) (am_inj hf).symm
      · have hf := (am_if hf).1 hc
        refine r_aloadN dX1_gain_30 rfl ?_
        refine r_ifnullN (tgt := 41) dX1_gain_32 (by decide) ?_
        refine r_aload_n (x := (20, 0, 0)) dX1_gain_41 rfl ?_
        obtain ⟨r16, hr17, hf⟩ := am_bind hf
        refine r_callV (as := []) (st := []) (n := 0) mw_X1_111 mv_X1_begin (C_X1_begin (l := l) hr17) (le_b rfl) dX1_gain_42 (kC_mem (s := 20) (by decide) (by decide) (by decide)) rfl rfl rfl (le_b rfl) (le_b rfl) (le_b rfl) ?_
        show X l _ _ 0 0 false _ kC 0 0 45 [some (vR (20, 0, 0)), some (vR (1, n0, 0)), some (vR (1, n1, 0)), some (vI c3), some (vI c4), some (vI x5), some (vI x6), some (vN), none] [] (en r16)
        refine r_iconst (v := 0) dX1_gain_45 rfl ?_
        refine r_istore (L' := [some (vR (20, 0, 0)), some (vR (1, n0, 0)), some (vR (1, n1, 0)), some (vI c3), some (vI c4), some (vI x5), some (vI x6), some (vN), some (vI (0 : Int32))]) dX1_gain_46 (by decide) rfl ?_
        refine r_weak (L' := [some (vR (20, 0, 0)), some (vR (1, n0, 0)), some (vR (1, n1, 0)), some (vI c3), some (vI c4), some (vI x5), some (vI x6), none, some (vI (0 : Int32))]) (And.intro rfl (And.intro rfl (And.intro rfl (And.intro rfl (And.intro rfl (And.intro rfl (And.intro rfl (And.intro rfl trivial)))))))) ?_
        obtain ⟨e18, he19, hf⟩ := am_bind hf
        refine K_X1_gain_L48 hn0 hn1 2000 ((0 : Int32), r16) _ he19 ?_
        obtain ⟨u20, rfl⟩ : ∃ z, z = e18 := ⟨_, rfl⟩
        show X l _ _ 0 0 false _ kC 0 0 80 [some (vR (20, 0, 0)), some (vR (1, n0, 0)), some (vR (1, n1, 0)), some (vI c3), some (vI c4), some (vI x5), some (vI x6), none, none] [] (en u20)
        refine r_iload (x := x6) dX1_gain_80 rfl ?_
        refine r_if_ne (tgt := 91) dX1_gain_82 (by decide) (fun hc => ?_) (fun hc => ?_)
        · have hf := (am_if hf).2 hc
          refine r_iinc (x := x6) (v := x6 + (1 : Int32)) (L' := [some (vR (20, 0, 0)), some (vR (1, n0, 0)), some (vR (1, n1, 0)), some (vI c3), some (vI c4), some (vI x5), some (vI (x6 + (1 : Int32))), none, none]) dX1_gain_91 rfl rfl (lt_b rfl) rfl ?_
          refine r_goto (tgt := 6) dX1_gain_94 (by decide) ?_
          refine r_weak (L' := [some (vR (20, 0, 0)), some (vR (1, n0, 0)), some (vR (1, n1, 0)), some (vI c3), some (vI c4), some (vI x5), some (vI (x6 + (1 : Int32))), none, none]) (And.intro rfl (And.intro rfl (And.intro rfl (And.intro rfl (And.intro rfl (And.intro rfl (And.intro rfl trivial))))))) ?_
          exact k1 (x5, x6 + (1 : Int32), u20) (am_inj hf).symm
        · have hf := (am_if hf).1 hc
          refine r_aload_n (x := (20, 0, 0)) dX1_gain_85 rfl ?_
          refine e_geti fw_X1_9 dX1_gain_86 (kC_mem (s := 20) (by decide) (by decide) (by decide)) rfl (lt_b rfl) ?_
          refine r_istore (L' := [some (vR (20, 0, 0)), some (vR (1, n0, 0)), some (vR (1, n1, 0)), some (vI c3), some (vI c4), some (vI (u20.1 (20, 0, 0) 0)), some (vI x6), none, none]) dX1_gain_89 (by decide) rfl ?_
          refine r_iinc (x := x6) (v := x6 + (1 : Int32)) (L' := [some (vR (20, 0, 0)), some (vR (1, n0, 0)), some (vR (1, n1, 0)), some (vI c3), some (vI c4), some (vI (u20.1 (20, 0, 0) 0)), some (vI (x6 + (1 : Int32))), none, none]) dX1_gain_91 rfl rfl (lt_b rfl) rfl ?_
          refine r_goto (tgt := 6) dX1_gain_94 (by decide) ?_
          refine r_weak (L' := [some (vR (20, 0, 0)), some (vR (1, n0, 0)), some (vR (1, n1, 0)), some (vI c3), some (vI c4), some (vI (u20.1 (20, 0, 0) 0)), some (vI (x6 + (1 : Int32))), none, none]) (And.intro rfl (And.intro rfl (And.intro rfl (And.intro rfl (And.intro rfl (And.intro rfl (And.intro rfl trivial))))))) ?_
          exact k1 (u20.1 (20, 0, 0) 0, x6 + (1 : Int32), u20) (am_inj hf).symm
    | some p5 =>
      obtain ⟨h6, hf⟩ := am_chk hf
      show X l _ _ 0 0 false _ kC 0 0 22 [some (vR (20, 0, 0)), some (vR (1, n0, 0)), some (vR (1, n1, 0)), some (vI c3), some (vI c4), some (vI x5), some (vI x6), none, none] [vR (3, n1, p5)] (en r1)
      refine r_astore (L' := [some (vR (20, 0, 0)), some (vR (1, n0, 0)), some (vR (1, n1, 0)), some (vI c3), some (vI c4), some (vI x5), some (vI x6), some (vR (3, n1, p5)), none]) dX1_gain_22 (by decide) rfl ?_
      refine r_iload (x := x6) dX1_gain_24 rfl ?_
      refine r_iconst (v := 1) dX1_gain_26 rfl ?_
      refine r_icmp_ne (tgt := 41) dX1_gain_27 (by decide) (fun hc => ?_) (fun hc => ?_)
      · have hf := (am_if hf).2 hc
        refine r_aload_n (x := (20, 0, 0)) dX1_gain_41 rfl ?_
        obtain ⟨r21, hr22, hf⟩ := am_bind hf
        refine r_callV (as := []) (st := []) (n := 0) mw_X1_111 mv_X1_begin (C_X1_begin (l := l) hr22) (le_b rfl) dX1_gain_42 (kC_mem (s := 20) (by decide) (by decide) (by decide)) rfl rfl rfl (le_b rfl) (le_b rfl) (le_b rfl) ?_
        show X l _ _ 0 0 false _ kC 0 0 45 [some (vR (20, 0, 0)), some (vR (1, n0, 0)), some (vR (1, n1, 0)), some (vI c3), some (vI c4), some (vI x5), some (vI x6), some (vR (3, n1, p5)), none] [] (en r21)
        refine r_iconst (v := 0) dX1_gain_45 rfl ?_
        refine r_istore (L' := [some (vR (20, 0, 0)), some (vR (1, n0, 0)), some (vR (1, n1, 0)), some (vI c3), some (vI c4), some (vI x5), some (vI x6), some (vR (3, n1, p5)), some (vI (0 : Int32))]) dX1_gain_46 (by decide) rfl ?_
        refine r_weak (L' := [some (vR (20, 0, 0)), some (vR (1, n0, 0)), some (vR (1, n1, 0)), some (vI c3), some (vI c4), some (vI x5), some (vI x6), none, some (vI (0 : Int32))]) (And.intro rfl (And.intro rfl (And.intro rfl (And.intro rfl (And.intro rfl (And.intro rfl (And.intro rfl (And.intro rfl trivial)))))))) ?_
        obtain ⟨e23, he24, hf⟩ := am_bind hf
        refine K_X1_gain_L48 hn0 hn1 2000 ((0 : Int32), r21) _ he24 ?_
        obtain ⟨u25, rfl⟩ : ∃ z, z = e23 := ⟨_, rfl⟩
        show X l _ _ 0 0 false _ kC 0 0 80 [some (vR (20, 0, 0)), some (vR (1, n0, 0)), some (vR (1, n1, 0)), some (vI c3), some (vI c4), some (vI x5), some (vI x6), none, none] [] (en u25)
        refine r_iload (x := x6) dX1_gain_80 rfl ?_
        refine r_if_ne (tgt := 91) dX1_gain_82 (by decide) (fun hc => ?_) (fun hc => ?_)
        · have hf := (am_if hf).2 hc
          refine r_iinc (x := x6) (v := x6 + (1 : Int32)) (L' := [some (vR (20, 0, 0)), some (vR (1, n0, 0)), some (vR (1, n1, 0)), some (vI c3), some (vI c4), some (vI x5), some (vI (x6 + (1 : Int32))), none, none]) dX1_gain_91 rfl rfl (lt_b rfl) rfl ?_
          refine r_goto (tgt := 6) dX1_gain_94 (by decide) ?_
          refine r_weak (L' := [some (vR (20, 0, 0)), some (vR (1, n0, 0)), some (vR (1, n1, 0)), some (vI c3), some (vI c4), some (vI x5), some (vI (x6 + (1 : Int32))), none, none]) (And.intro rfl (And.intro rfl (And.intro rfl (And.intro rfl (And.intro rfl (And.intro rfl (And.intro rfl trivial))))))) ?_
          exact k1 (x5, x6 + (1 : Int32), u25) (am_inj hf).symm
        · have hf := (am_if hf).1 hc
          refine r_aload_n (x := (20, 0, 0)) dX1_gain_85 rfl ?_
          refine e_geti fw_X1_9 dX1_gain_86 (kC_mem (s := 20) (by decide) (by decide) (by decide)) rfl (lt_b rfl) ?_
          refine r_istore (L' := [some (vR (20, 0, 0)), some (vR (1, n0, 0)), some (vR (1, n1, 0)), some (vI c3), some (vI c4), some (vI (u25.1 (20, 0, 0) 0)), some (vI x6), none, none]) dX1_gain_89 (by decide) rfl ?_
          refine r_iinc (x := x6) (v := x6 + (1 : Int32)) (L' := [some (vR (20, 0, 0)), some (vR (1, n0, 0)), some (vR (1, n1, 0)), some (vI c3), some (vI c4), some (vI (u25.1 (20, 0, 0) 0)), some (vI (x6 + (1 : Int32))), none, none]) dX1_gain_91 rfl rfl (lt_b rfl) rfl ?_
          refine r_goto (tgt := 6) dX1_gain_94 (by decide) ?_
          refine r_weak (L' := [some (vR (20, 0, 0)), some (vR (1, n0, 0)), some (vR (1, n1, 0)), some (vI c3), some (vI c4), some (vI (u25.1 (20, 0, 0) 0)), some (vI (x6 + (1 : Int32))), none, none]) (And.intro rfl (And.intro rfl (And.intro rfl (And.intro rfl (And.intro rfl (And.intro rfl (And.intro rfl trivial))))))) ?_
          exact k1 (u25.1 (20, 0, 0) 0, x6 + (1 : Int32), u25) (am_inj hf).symm
      · have hf := (am_if hf).1 hc
        refine r_aload (x := (3, n1, p5)) dX1_gain_30 rfl ?_
        refine r_ifnullR dX1_gain_32 ?_
        refine r_aload (x := (3, n1, p5)) dX1_gain_35 rfl ?_
        refine r_iconst (v := 1) dX1_gain_37 rfl ?_
        refine e_puti fp_X1_44 dX1_gain_38 (kC_mem (s := 3) (by decide) hn1 h6) rfl (lt_b rfl) rfl (am_bool (x := 1) (by decide)).1 (am_bool (x := 1) (by decide)).2 ?_
        refine r_aload_n (x := (20, 0, 0)) dX1_gain_41 rfl ?_
        obtain ⟨r26, hr27, hf⟩ := am_bind hf
        refine r_callV (as := []) (st := []) (n := 0) mw_X1_111 mv_X1_begin (C_X1_begin (l := l) hr27) (le_b rfl) dX1_gain_42 (kC_mem (s := 20) (by decide) (by decide) (by decide)) rfl rfl rfl (le_b rfl) (le_b rfl) (le_b rfl) ?_
        show X l _ _ 0 0 false _ kC 0 0 45 [some (vR (20, 0, 0)), some (vR (1, n0, 0)), some (vR (1, n1, 0)), some (vI c3), some (vI c4), some (vI x5), some (vI x6), some (vR (3, n1, p5)), none] [] (en r26)
        refine r_iconst (v := 0) dX1_gain_45 rfl ?_
        refine r_istore (L' := [some (vR (20, 0, 0)), some (vR (1, n0, 0)), some (vR (1, n1, 0)), some (vI c3), some (vI c4), some (vI x5), some (vI x6), some (vR (3, n1, p5)), some (vI (0 : Int32))]) dX1_gain_46 (by decide) rfl ?_
        refine r_weak (L' := [some (vR (20, 0, 0)), some (vR (1, n0, 0)), some (vR (1, n1, 0)), some (vI c3), some (vI c4), some (vI x5), some (vI x6), none, some (vI (0 : Int32))]) (And.intro rfl (And.intro rfl (And.intro rfl (And.intro rfl (And.intro rfl (And.intro rfl (And.intro rfl (And.intro rfl trivial)))))))) ?_
        obtain ⟨e28, he29, hf⟩ := am_bind hf
        refine K_X1_gain_L48 hn0 hn1 2000 ((0 : Int32), r26) _ he29 ?_
        obtain ⟨u30, rfl⟩ : ∃ z, z = e28 := ⟨_, rfl⟩
        show X l _ _ 0 0 false _ kC 0 0 80 [some (vR (20, 0, 0)), some (vR (1, n0, 0)), some (vR (1, n1, 0)), some (vI c3), some (vI c4), some (vI x5), some (vI x6), none, none] [] (en u30)
        refine r_iload (x := x6) dX1_gain_80 rfl ?_
        refine r_if_ne (tgt := 91) dX1_gain_82 (by decide) (fun hc => ?_) (fun hc => ?_)
        · have hf := (am_if hf).2 hc
          refine r_iinc (x := x6) (v := x6 + (1 : Int32)) (L' := [some (vR (20, 0, 0)), some (vR (1, n0, 0)), some (vR (1, n1, 0)), some (vI c3), some (vI c4), some (vI x5), some (vI (x6 + (1 : Int32))), none, none]) dX1_gain_91 rfl rfl (lt_b rfl) rfl ?_
          refine r_goto (tgt := 6) dX1_gain_94 (by decide) ?_
          refine r_weak (L' := [some (vR (20, 0, 0)), some (vR (1, n0, 0)), some (vR (1, n1, 0)), some (vI c3), some (vI c4), some (vI x5), some (vI (x6 + (1 : Int32))), none, none]) (And.intro rfl (And.intro rfl (And.intro rfl (And.intro rfl (And.intro rfl (And.intro rfl (And.intro rfl trivial))))))) ?_
          exact k1 (x5, x6 + (1 : Int32), u30) (am_inj hf).symm
        · have hf := (am_if hf).1 hc
          refine r_aload_n (x := (20, 0, 0)) dX1_gain_85 rfl ?_
          refine e_geti fw_X1_9 dX1_gain_86 (kC_mem (s := 20) (by decide) (by decide) (by decide)) rfl (lt_b rfl) ?_
          refine r_istore (L' := [some (vR (20, 0, 0)), some (vR (1, n0, 0)), some (vR (1, n1, 0)), some (vI c3), some (vI c4), some (vI (u30.1 (20, 0, 0) 0)), some (vI x6), none, none]) dX1_gain_89 (by decide) rfl ?_
          refine r_iinc (x := x6) (v := x6 + (1 : Int32)) (L' := [some (vR (20, 0, 0)), some (vR (1, n0, 0)), some (vR (1, n1, 0)), some (vI c3), some (vI c4), some (vI (u30.1 (20, 0, 0) 0)), some (vI (x6 + (1 : Int32))), none, none]) dX1_gain_91 rfl rfl (lt_b rfl) rfl ?_
          refine r_goto (tgt := 6) dX1_gain_94 (by decide) ?_
          refine r_weak (L' := [some (vR (20, 0, 0)), some (vR (1, n0, 0)), some (vR (1, n1, 0)), some (vI c3), some (vI c4), some (vI (u30.1 (20, 0, 0) 0)), some (vI (x6 + (1 : Int32))), none, none]) (And.intro rfl (And.intro rfl (And.intro rfl (And.intro rfl (And.intro rfl (And.intro rfl (And.intro rfl trivial))))))) ?_
          exact k1 (u30.1 (20, 0, 0) 0, x6 + (1 : Int32), u30) (am_inj hf).symm
def f_X1_gain (w : Nat) (w2 : Nat) (a2 : Int32) (a3 : Int32) (u : PM) : Option (Int32 × PM) :=
  (am_loop (f_X1_gain_L6 w w2 a2 a3) 2000 ((0 : Int32), (0 : Int32), u)).bind fun (y33, u34) =>
  some ((u34.1 (20, 0, 0) 0) - y33, u34)
set_option maxHeartbeats 4000000 in
set_option maxRecDepth 20000 in
theorem C_X1_gain {l : Launch} {w : Nat} (hw : w < 4) {w2 : Nat} (hw2 : w2 < 4) {a2 : Int32} {a3 : Int32} {u : PM} {x : Int32 × PM} (hf : f_X1_gain w w2 a2 a3 u = some x) : Ev l mX1_gain 7 0 0 false [vR (20, 0, 0), vR (1, w, 0), vR (1, w2, 0), vI a2, vI a3] kC (en u) (some (vI x.1), kC, en x.2) := by
  refine Ev_of (by decide +kernel) (le_b rfl) ?_
  unfold f_X1_gain at hf
  show X l mX1_gain 7 0 0 false _ kC 0 0 0 [some (vR (20, 0, 0)), some (vR (1, w, 0)), some (vR (1, w2, 0)), some (vI a2), some (vI a3), none, none, none, none] [] (en u)
  refine r_iconst (v := 0) dX1_gain_0 rfl ?_
  refine r_istore (L' := [some (vR (20, 0, 0)), some (vR (1, w, 0)), some (vR (1, w2, 0)), some (vI a2), some (vI a3), some (vI (0 : Int32)), none, none, none]) dX1_gain_1 (by decide) rfl ?_
  refine r_iconst (v := 0) dX1_gain_3 rfl ?_
  refine r_istore (L' := [some (vR (20, 0, 0)), some (vR (1, w, 0)), some (vR (1, w2, 0)), some (vI a2), some (vI a3), some (vI (0 : Int32)), some (vI (0 : Int32)), none, none]) dX1_gain_4 (by decide) rfl ?_
  refine r_weak (L' := [some (vR (20, 0, 0)), some (vR (1, w, 0)), some (vR (1, w2, 0)), some (vI a2), some (vI a3), some (vI (0 : Int32)), some (vI (0 : Int32)), none, none]) (And.intro rfl (And.intro rfl (And.intro rfl (And.intro rfl (And.intro rfl (And.intro rfl (And.intro rfl trivial))))))) ?_
  obtain ⟨e31, he32, hf⟩ := am_bind hf
  refine K_X1_gain_L6 hw hw2 2000 ((0 : Int32), (0 : Int32), u) _ he32 ?_
  obtain ⟨y33, u34⟩ := e31
  show X l _ _ 0 0 false _ kC 0 0 97 [some (vR (20, 0, 0)), none, none, none, none, some (vI y33), none, none, none] [] (en u34)
  refine r_aload_n (x := (20, 0, 0)) dX1_gain_97 rfl ?_
  refine e_geti fw_X1_9 dX1_gain_98 (kC_mem (s := 20) (by decide) (by decide) (by decide)) rfl (lt_b rfl) ?_
  refine r_iload (x := y33) dX1_gain_101 rfl ?_
  refine r_isub dX1_gain_103 ?_
  have hx := am_inj hf
  subst hx
  exact r_iret dX1_gain_104 rfl rfl (le_b rfl) (le_b rfl)
/-! FireFromFire$Paths.measure -/
theorem dX5_measure_0 : decode cX5_measure 0 = .ok (.aload_n 0, 1) := by decide +kernel
theorem dX5_measure_1 : decode cX5_measure 1 = .ok (.aload_n 1, 1) := by decide +kernel
theorem dX5_measure_2 : decode cX5_measure 2 = .ok (.getfield 20, 3) := by decide +kernel
theorem dX5_measure_5 : decode cX5_measure 5 = .ok (.bipush 6, 2) := by decide +kernel
theorem dX5_measure_7 : decode cX5_measure 7 = .ok (.invokestatic 23, 3) := by decide +kernel
theorem dX5_measure_10 : decode cX5_measure 10 = .ok (.putfield 16, 3) := by decide +kernel
theorem dX5_measure_13 : decode cX5_measure 13 = .ok (.iconst 0, 1) := by decide +kernel
theorem dX5_measure_14 : decode cX5_measure 14 = .ok (.istore_n 2, 1) := by decide +kernel
theorem dX5_measure_15 : decode cX5_measure 15 = .ok (.iload_n 2, 1) := by decide +kernel
theorem dX5_measure_16 : decode cX5_measure 16 = .ok (.aload_n 0, 1) := by decide +kernel
theorem dX5_measure_17 : decode cX5_measure 17 = .ok (.getfield 16, 3) := by decide +kernel
theorem dX5_measure_20 : decode cX5_measure 20 = .ok (.if_icmp .ge 64, 3) := by decide +kernel
theorem dX5_measure_23 : decode cX5_measure 23 = .ok (.iconst 0, 1) := by decide +kernel
theorem dX5_measure_24 : decode cX5_measure 24 = .ok (.istore_n 3, 1) := by decide +kernel
theorem dX5_measure_25 : decode cX5_measure 25 = .ok (.iload_n 3, 1) := by decide +kernel
theorem dX5_measure_26 : decode cX5_measure 26 = .ok (.aload_n 0, 1) := by decide +kernel
theorem dX5_measure_27 : decode cX5_measure 27 = .ok (.getfield 16, 3) := by decide +kernel
theorem dX5_measure_30 : decode cX5_measure 30 = .ok (.if_icmp .ge 48, 3) := by decide +kernel
theorem dX5_measure_33 : decode cX5_measure 33 = .ok (.aload_n 1, 1) := by decide +kernel
theorem dX5_measure_34 : decode cX5_measure 34 = .ok (.getfield 29, 3) := by decide +kernel
theorem dX5_measure_37 : decode cX5_measure 37 = .ok (.iload_n 2, 1) := by decide +kernel
theorem dX5_measure_38 : decode cX5_measure 38 = .ok (.aaload, 1) := by decide +kernel
theorem dX5_measure_39 : decode cX5_measure 39 = .ok (.iload_n 3, 1) := by decide +kernel
theorem dX5_measure_40 : decode cX5_measure 40 = .ok (.iaload, 1) := by decide +kernel
theorem dX5_measure_41 : decode cX5_measure 41 = .ok (.istore 4, 2) := by decide +kernel
theorem dX5_measure_43 : decode cX5_measure 43 = .ok (.aload_n 0, 1) := by decide +kernel
theorem dX5_measure_44 : decode cX5_measure 44 = .ok (.getfield 11, 3) := by decide +kernel
theorem dX5_measure_47 : decode cX5_measure 47 = .ok (.iload_n 2, 1) := by decide +kernel
theorem dX5_measure_48 : decode cX5_measure 48 = .ok (.aaload, 1) := by decide +kernel
theorem dX5_measure_49 : decode cX5_measure 49 = .ok (.iload_n 3, 1) := by decide +kernel
theorem dX5_measure_50 : decode cX5_measure 50 = .ok (.iload_n 2, 1) := by decide +kernel
theorem dX5_measure_51 : decode cX5_measure 51 = .ok (.iload_n 3, 1) := by decide +kernel
theorem dX5_measure_52 : decode cX5_measure 52 = .ok (.if_icmp .ne 7, 3) := by decide +kernel
theorem dX5_measure_55 : decode cX5_measure 55 = .ok (.iconst 0, 1) := by decide +kernel
theorem dX5_measure_56 : decode cX5_measure 56 = .ok (.goto 15, 3) := by decide +kernel
theorem dX5_measure_59 : decode cX5_measure 59 = .ok (.iload 4, 2) := by decide +kernel
theorem dX5_measure_61 : decode cX5_measure 61 = .ok (.ifCond .le 8, 3) := by decide +kernel
theorem dX5_measure_64 : decode cX5_measure 64 = .ok (.iload 4, 2) := by decide +kernel
theorem dX5_measure_66 : decode cX5_measure 66 = .ok (.goto 5, 3) := by decide +kernel
theorem dX5_measure_69 : decode cX5_measure 69 = .ok (.ldc 32, 2) := by decide +kernel
theorem dX5_measure_71 : decode cX5_measure 71 = .ok (.iastore, 1) := by decide +kernel
theorem dX5_measure_72 : decode cX5_measure 72 = .ok (.iinc 3 1, 3) := by decide +kernel
theorem dX5_measure_75 : decode cX5_measure 75 = .ok (.goto (-50), 3) := by decide +kernel
theorem dX5_measure_78 : decode cX5_measure 78 = .ok (.iinc 2 1, 3) := by decide +kernel
theorem dX5_measure_81 : decode cX5_measure 81 = .ok (.goto (-66), 3) := by decide +kernel
theorem dX5_measure_84 : decode cX5_measure 84 = .ok (.iconst 0, 1) := by decide +kernel
theorem dX5_measure_85 : decode cX5_measure 85 = .ok (.istore_n 2, 1) := by decide +kernel
theorem dX5_measure_86 : decode cX5_measure 86 = .ok (.iload_n 2, 1) := by decide +kernel
theorem dX5_measure_87 : decode cX5_measure 87 = .ok (.aload_n 0, 1) := by decide +kernel
theorem dX5_measure_88 : decode cX5_measure 88 = .ok (.getfield 16, 3) := by decide +kernel
theorem dX5_measure_91 : decode cX5_measure 91 = .ok (.if_icmp .ge 82, 3) := by decide +kernel
theorem dX5_measure_94 : decode cX5_measure 94 = .ok (.iconst 0, 1) := by decide +kernel
theorem dX5_measure_95 : decode cX5_measure 95 = .ok (.istore_n 3, 1) := by decide +kernel
theorem dX5_measure_96 : decode cX5_measure 96 = .ok (.iload_n 3, 1) := by decide +kernel
theorem dX5_measure_97 : decode cX5_measure 97 = .ok (.aload_n 0, 1) := by decide +kernel
theorem dX5_measure_98 : decode cX5_measure 98 = .ok (.getfield 16, 3) := by decide +kernel
theorem dX5_measure_101 : decode cX5_measure 101 = .ok (.if_icmp .ge 66, 3) := by decide +kernel
theorem dX5_measure_104 : decode cX5_measure 104 = .ok (.iconst 0, 1) := by decide +kernel
theorem dX5_measure_105 : decode cX5_measure 105 = .ok (.istore 4, 2) := by decide +kernel
theorem dX5_measure_107 : decode cX5_measure 107 = .ok (.iload 4, 2) := by decide +kernel
theorem dX5_measure_109 : decode cX5_measure 109 = .ok (.aload_n 0, 1) := by decide +kernel
theorem dX5_measure_110 : decode cX5_measure 110 = .ok (.getfield 16, 3) := by decide +kernel
theorem dX5_measure_113 : decode cX5_measure 113 = .ok (.if_icmp .ge 48, 3) := by decide +kernel
theorem dX5_measure_116 : decode cX5_measure 116 = .ok (.aload_n 0, 1) := by decide +kernel
theorem dX5_measure_117 : decode cX5_measure 117 = .ok (.getfield 11, 3) := by decide +kernel
theorem dX5_measure_120 : decode cX5_measure 120 = .ok (.iload_n 3, 1) := by decide +kernel
theorem dX5_measure_121 : decode cX5_measure 121 = .ok (.aaload, 1) := by decide +kernel
theorem dX5_measure_122 : decode cX5_measure 122 = .ok (.iload 4, 2) := by decide +kernel
theorem dX5_measure_124 : decode cX5_measure 124 = .ok (.aload_n 0, 1) := by decide +kernel
theorem dX5_measure_125 : decode cX5_measure 125 = .ok (.getfield 11, 3) := by decide +kernel
theorem dX5_measure_128 : decode cX5_measure 128 = .ok (.iload_n 3, 1) := by decide +kernel
theorem dX5_measure_129 : decode cX5_measure 129 = .ok (.aaload, 1) := by decide +kernel
theorem dX5_measure_130 : decode cX5_measure 130 = .ok (.iload 4, 2) := by decide +kernel
theorem dX5_measure_132 : decode cX5_measure 132 = .ok (.iaload, 1) := by decide +kernel
theorem dX5_measure_133 : decode cX5_measure 133 = .ok (.aload_n 0, 1) := by decide +kernel
theorem dX5_measure_134 : decode cX5_measure 134 = .ok (.getfield 11, 3) := by decide +kernel
theorem dX5_measure_137 : decode cX5_measure 137 = .ok (.iload_n 3, 1) := by decide +kernel
theorem dX5_measure_138 : decode cX5_measure 138 = .ok (.aaload, 1) := by decide +kernel
theorem dX5_measure_139 : decode cX5_measure 139 = .ok (.iload_n 2, 1) := by decide +kernel
theorem dX5_measure_140 : decode cX5_measure 140 = .ok (.iaload, 1) := by decide +kernel
theorem dX5_measure_141 : decode cX5_measure 141 = .ok (.aload_n 0, 1) := by decide +kernel
theorem dX5_measure_142 : decode cX5_measure 142 = .ok (.getfield 11, 3) := by decide +kernel
theorem dX5_measure_145 : decode cX5_measure 145 = .ok (.iload_n 2, 1) := by decide +kernel
theorem dX5_measure_146 : decode cX5_measure 146 = .ok (.aaload, 1) := by decide +kernel
theorem dX5_measure_147 : decode cX5_measure 147 = .ok (.iload 4, 2) := by decide +kernel
theorem dX5_measure_149 : decode cX5_measure 149 = .ok (.iaload, 1) := by decide +kernel
theorem dX5_measure_150 : decode cX5_measure 150 = .ok (.iadd, 1) := by decide +kernel
theorem dX5_measure_151 : decode cX5_measure 151 = .ok (.invokestatic 23, 3) := by decide +kernel
theorem dX5_measure_154 : decode cX5_measure 154 = .ok (.iastore, 1) := by decide +kernel
theorem dX5_measure_155 : decode cX5_measure 155 = .ok (.iinc 4 1, 3) := by decide +kernel
theorem dX5_measure_158 : decode cX5_measure 158 = .ok (.goto (-51), 3) := by decide +kernel
theorem dX5_measure_161 : decode cX5_measure 161 = .ok (.iinc 3 1, 3) := by decide +kernel
theorem dX5_measure_164 : decode cX5_measure 164 = .ok (.goto (-68), 3) := by decide +kernel
theorem dX5_measure_167 : decode cX5_measure 167 = .ok (.iinc 2 1, 3) := by decide +kernel
theorem dX5_measure_170 : decode cX5_measure 170 = .ok (.goto (-84), 3) := by decide +kernel
theorem dX5_measure_173 : decode cX5_measure 173 = .ok (.return_, 1) := by decide +kernel
def f_X5_measure_L25 (n0 : Nat) (c2 : Int32) : Int32 × PM → Option ((Int32 × PM) ⊕ (PM)) := fun (x3 , u) =>
  if (u.1 (25, 0, 0) 1) ≤ x3 then
    some (.inr (u))
  else
  if c2 < 0 ∨ 6 ≤ c2.toNatClampNeg then none else
  if x3 < 0 ∨ 6 ≤ x3.toNatClampNeg then none else
  if c2 = x3 then
    some (.inl (x3 + (1 : Int32), (pi u (27, 0, c2.toNatClampNeg) x3.toNatClampNeg (0 : Int32))))
  else
  if (u.1 (5, n0, c2.toNatClampNeg) x3.toNatClampNeg) ≤ 0 then
    some (.inl (x3 + (1 : Int32), (pi u (27, 0, c2.toNatClampNeg) x3.toNatClampNeg (1000000 : Int32))))
  else
  some (.inl (x3 + (1 : Int32), (pi u (27, 0, c2.toNatClampNeg) x3.toNatClampNeg (u.1 (5, n0, c2.toNatClampNeg) x3.toNatClampNeg))))
set_option maxHeartbeats 4000000 in
set_option maxRecDepth 20000 in
theorem K_X5_measure_L25 {l : Launch} {T : Option AV × List Key × AM} {n0 : Nat} (hn0 : n0 < 4) {c2 : Int32} : ∀ (n : Nat) (s : Int32 × PM) (e0 : PM), am_loop (f_X5_measure_L25 n0 c2) n s = some e0 → (fun e : PM => X l mX5_measure 2 0 0 false T kC 0 0 78 [some (vR (25, 0, 0)), some (vR (1, n0, 0)), some (vI c2), none, none] [] (en e)) e0 → X l mX5_measure 2 0 0 false T kC 0 0 25 [some (vR (25, 0, 0)), some (vR (1, n0, 0)), some (vI c2), some (vI s.1), none] [] (en s.2) := by
  refine am_loop_of ?_
  intro s x hf k1 k2
  obtain ⟨x3 , u⟩ := s
  unfold f_X5_measure_L25 at hf
  show X l mX5_measure 2 0 0 false T kC 0 0 25 [some (vR (25, 0, 0)), some (vR (1, n0, 0)), some (vI c2), some (vI x3), none] [] (en u)
  refine r_iload_n (x := x3) dX5_measure_25 rfl ?_
  refine r_aload_n (x := (25, 0, 0)) dX5_measure_26 rfl ?_
  refine e_geti fw_X5_16 dX5_measure_27 (kC_mem (s := 25) (by decide) (by decide) (by decide)) rfl (lt_b rfl) ?_
  refine r_icmp_ge (tgt := 78) dX5_measure_30 (by decide) (fun hc => ?_) (fun hc => ?_)
  · have hf := (am_if hf).1 hc
    refine r_weak (L' := [some (vR (25, 0, 0)), some (vR (1, n0, 0)), some (vI c2), none, none]) (And.intro rfl (And.intro rfl (And.intro rfl trivial))) ?_
    exact k2 (u) (am_inj hf).symm
  · have hf := (am_if hf).2 hc
    refine r_aload_n (x := (1, n0, 0)) dX5_measure_33 rfl ?_
    refine e_getr (z := some (4, n0, 0)) fw_X5_29 dX5_measure_34 (kC_mem (s := 1) (by decide) hn0 (by decide)) rfl (lt_b rfl) rfl ?_
    refine r_iload_n (x := c2) dX5_measure_37 rfl ?_
    obtain ⟨h1, hf⟩ := am_nchk hf
    refine e_aald (n := c2.toNatClampNeg) (z := some (5, n0, c2.toNatClampNeg)) dX5_measure_38 (kC_mem (s := 4) (by decide) hn0 (by decide)) ⟨le_b rfl, lt_b rfl⟩ h1 rfl rfl ?_
    refine r_iload_n (x := x3) dX5_measure_39 rfl ?_
    obtain ⟨h2, hf⟩ := am_nchk hf
    refine e_iald (n := x3.toNatClampNeg) dX5_measure_40 (kC_mem (s := 5) (by decide) hn0 (vp_lt h1)) rfl h2 rfl rfl ?_
    refine r_istore (L' := [some (vR (25, 0, 0)), some (vR (1, n0, 0)), some (vI c2), some (vI x3), some (vI (u.1 (5, n0, c2.toNatClampNeg) x3.toNatClampNeg))]) dX5_measure_41 (by decide) rfl ?_
    refine r_aload_n (x := (25, 0, 0)) dX5_measure_43 rfl ?_
    refine e_getr (z := some (26, 0, 0)) fw_X5_11 dX5_measure_44 (kC_mem (s := 25) (by decide) (by decide) (by decide)) rfl (lt_b rfl) rfl ?_
    refine r_iload_n (x := c2) dX5_measure_47 rfl ?_
    refine e_aald (n := c2.toNatClampNeg) (z := some (27, 0, c2.toNatClampNeg)) dX5_measure_48 (kC_mem (s := 26) (by decide) (by decide) (by decide)) ⟨le_b rfl, lt_b rfl⟩ h1 rfl rfl ?_
    refine r_iload_n (x := x3) dX5_measure_49 rfl ?_
    refine r_iload_n (x := c2) dX5_measure_50 rfl ?_
    refine r_iload_n (x := x3) dX5_measure_51 rfl ?_
    refine r_icmp_ne (tgt := 59) dX5_measure_52 (by decide) (fun hc => ?_) (fun hc => ?_)
    · have hf := (am_if hf).2 hc
      refine r_iload (x := u.1 (5, n0, c2.toNatClampNeg) x3.toNatClampNeg) dX5_measure_59 rfl ?_
      refine r_if_le (tgt := 69) dX5_measure_61 (by decide) (fun hc => ?_) (fun hc => ?_)
      · have hf := (am_if hf).1 hc
        refine r_ldc (v := 1000000) dX5_measure_69 cc_X5_32 ?_
        refine e_iast (n := x3.toNatClampNeg) dX5_measure_71 (kC_mem (s := 27) (by decide) (by decide) (vp_lt h1)) rfl h2 rfl ?_
        refine r_iinc (x := x3) (v := x3 + (1 : Int32)) (L' := [some (vR (25, 0, 0)), some (vR (1, n0, 0)), some (vI c2), some (vI (x3 + (1 : Int32))), some (vI (u.1 (5, n0, c2.toNatClampNeg) x3.toNatClampNeg))]) dX5_measure_72 rfl rfl (lt_b rfl) rfl ?_
        refine r_goto (tgt := 25) dX5_measure_75 (by decide) ?_
        refine r_weak (L' := [some (vR (25, 0, 0)), some (vR (1, n0, 0)), some (vI c2), some (vI (x3 + (1 : Int32))), none]) (And.intro rfl (And.intro rfl (And.intro rfl (And.intro rfl trivial)))) ?_
        exact k1 (x3 + (1 : Int32), (pi u (27, 0, c2.toNatClampNeg) x3.toNatClampNeg (1000000 : Int32))) (am_inj hf).symm
      · have hf := (am_if hf).2 hc
        refine r_iload (x := u.1 (5, n0, c2.toNatClampNeg) x3.toNatClampNeg) dX5_measure_64 rfl ?_
        refine r_goto (tgt := 71) dX5_measure_66 (by decide) ?_
        refine e_iast (n := x3.toNatClampNeg) dX5_measure_71 (kC_mem (s := 27) (by decide) (by decide) (vp_lt h1)) rfl h2 rfl ?_
        refine r_iinc (x := x3) (v := x3 + (1 : Int32)) (L' := [some (vR (25, 0, 0)), some (vR (1, n0, 0)), some (vI c2), some (vI (x3 + (1 : Int32))), some (vI (u.1 (5, n0, c2.toNatClampNeg) x3.toNatClampNeg))]) dX5_measure_72 rfl rfl (lt_b rfl) rfl ?_
        refine r_goto (tgt := 25) dX5_measure_75 (by decide) ?_
        refine r_weak (L' := [some (vR (25, 0, 0)), some (vR (1, n0, 0)), some (vI c2), some (vI (x3 + (1 : Int32))), none]) (And.intro rfl (And.intro rfl (And.intro rfl (And.intro rfl trivial)))) ?_
        exact k1 (x3 + (1 : Int32), (pi u (27, 0, c2.toNatClampNeg) x3.toNatClampNeg (u.1 (5, n0, c2.toNatClampNeg) x3.toNatClampNeg))) (am_inj hf).symm
    · have hf := (am_if hf).1 hc
      refine r_iconst (v := 0) dX5_measure_55 rfl ?_
      refine r_goto (tgt := 71) dX5_measure_56 (by decide) ?_
      refine e_iast (n := x3.toNatClampNeg) dX5_measure_71 (kC_mem (s := 27) (by decide) (by decide) (vp_lt h1)) rfl h2 rfl ?_
      refine r_iinc (x := x3) (v := x3 + (1 : Int32)) (L' := [some (vR (25, 0, 0)), some (vR (1, n0, 0)), some (vI c2), some (vI (x3 + (1 : Int32))), some (vI (u.1 (5, n0, c2.toNatClampNeg) x3.toNatClampNeg))]) dX5_measure_72 rfl rfl (lt_b rfl) rfl ?_
      refine r_goto (tgt := 25) dX5_measure_75 (by decide) ?_
      refine r_weak (L' := [some (vR (25, 0, 0)), some (vR (1, n0, 0)), some (vI c2), some (vI (x3 + (1 : Int32))), none]) (And.intro rfl (And.intro rfl (And.intro rfl (And.intro rfl trivial)))) ?_
      exact k1 (x3 + (1 : Int32), (pi u (27, 0, c2.toNatClampNeg) x3.toNatClampNeg (0 : Int32))) (am_inj hf).symm
def f_X5_measure_L15 (n0 : Nat)  : Int32 × PM → Option ((Int32 × PM) ⊕ (PM)) := fun (x2 , u) =>
  if (u.1 (25, 0, 0) 1) ≤ x2 then
    some (.inr (u))
  else
  (am_loop (f_X5_measure_L25 n0 x2) 2000 ((0 : Int32), u)).bind fun u5 =>
  some (.inl (x2 + (1 : Int32), u5))
set_option maxHeartbeats 4000000 in
set_option maxRecDepth 20000 in
theorem K_X5_measure_L15 {l : Launch} {T : Option AV × List Key × AM} {n0 : Nat} (hn0 : n0 < 4)  : ∀ (n : Nat) (s : Int32 × PM) (e0 : PM), am_loop (f_X5_measure_L15 n0) n s = some e0 → (fun e : PM => X l mX5_measure 2 0 0 false T kC 0 0 84 [some (vR (25, 0, 0)), none, none, none, none] [] (en e)) e0 → X l mX5_measure 2 0 0 false T kC 0 0 15 [some (vR (25, 0, 0)), some (vR (1, n0, 0)), some (vI s.1), none, none] [] (en s.2) := by
  refine am_loop_of ?_
  intro s x hf k1 k2
  obtain ⟨x2 , u⟩ := s
  unfold f_X5_measure_L15 at hf
  show X l mX5_measure 2 0 0 false T kC 0 0 15 [some (vR (25, 0, 0)), some (vR (1, n0, 0)), some (vI x2), none, none] [] (en u)
  refine r_iload_n (x := x2) dX5_measure_15 rfl ?_
  refine r_aload_n (x := (25, 0, 0)) dX5_measure_16 rfl ?_
  refine e_geti fw_X5_16 dX5_measure_17 (kC_mem (s := 25) (by decide) (by decide) (by decide)) rfl (lt_b rfl) ?_
  refine r_icmp_ge (tgt := 84) dX5_measure_20 (by decide) (fun hc => ?_) (fun hc => ?_)
  · have hf := (am_if hf).1 hc
    refine r_weak (L' := [some (vR (25, 0, 0)), none, none, none, none]) (And.intro rfl trivial) ?_
    exact k2 (u) (am_inj hf).symm
  · have hf := (am_if hf).2 hc
    refine r_iconst (v := 0) dX5_measure_23 rfl ?_
    refine r_istore_n (L' := [some (vR (25, 0, 0)), some (vR (1, n0, 0)), some (vI x2), some (vI (0 : Int32)), none]) dX5_measure_24 (by decide) rfl ?_
    refine r_weak (L' := [some (vR (25, 0, 0)), some (vR (1, n0, 0)), some (vI x2), some (vI (0 : Int32)), none]) (And.intro rfl (And.intro rfl (And.intro rfl (And.intro rfl trivial)))) ?_
    obtain ⟨e3, he4, hf⟩ := am_bind hf
    refine K_X5_measure_L25 hn0 2000 ((0 : Int32), u) _ he4 ?_
    obtain ⟨u5, rfl⟩ : ∃ z, z = e3 := ⟨_, rfl⟩
    show X l _ _ 0 0 false _ kC 0 0 78 [some (vR (25, 0, 0)), some (vR (1, n0, 0)), some (vI x2), none, none] [] (en u5)
    refine r_iinc (x := x2) (v := x2 + (1 : Int32)) (L' := [some (vR (25, 0, 0)), some (vR (1, n0, 0)), some (vI (x2 + (1 : Int32))), none, none]) dX5_measure_78 rfl rfl (lt_b rfl) rfl ?_
    refine r_goto (tgt := 15) dX5_measure_81 (by decide) ?_
    refine r_weak (L' := [some (vR (25, 0, 0)), some (vR (1, n0, 0)), some (vI (x2 + (1 : Int32))), none, none]) (And.intro rfl (And.intro rfl (And.intro rfl trivial))) ?_
    exact k1 (x2 + (1 : Int32), u5) (am_inj hf).symm
def f_X5_measure_L107  (c2 : Int32) (c3 : Int32) : Int32 × PM → Option ((Int32 × PM) ⊕ (PM)) := fun (x4 , u) =>
  if (u.1 (25, 0, 0) 1) ≤ x4 then
    some (.inr (u))
  else
  if c3 < 0 ∨ 6 ≤ c3.toNatClampNeg then none else
  if x4 < 0 ∨ 6 ≤ x4.toNatClampNeg then none else
  if c2 < 0 ∨ 6 ≤ c2.toNatClampNeg then none else
  some (.inl (x4 + (1 : Int32), (pi u (27, 0, c3.toNatClampNeg) x4.toNatClampNeg (if ((u.1 (27, 0, c3.toNatClampNeg) c2.toNatClampNeg) + (u.1 (27, 0, c2.toNatClampNeg) x4.toNatClampNeg)) < (u.1 (27, 0, c3.toNatClampNeg) x4.toNatClampNeg) then ((u.1 (27, 0, c3.toNatClampNeg) c2.toNatClampNeg) + (u.1 (27, 0, c2.toNatClampNeg) x4.toNatClampNeg)) else (u.1 (27, 0, c3.toNatClampNeg) x4.toNatClampNeg)))))
set_option maxHeartbeats 4000000 in
set_option maxRecDepth 20000 in
theorem K_X5_measure_L107 {l : Launch} {T : Option AV × List Key × AM}  {c2 : Int32} {c3 : Int32} : ∀ (n : Nat) (s : Int32 × PM) (e0 : PM), am_loop (f_X5_measure_L107 c2 c3) n s = some e0 → (fun e : PM => X l mX5_measure 2 0 0 false T kC 0 0 161 [some (vR (25, 0, 0)), none, some (vI c2), some (vI c3), none] [] (en e)) e0 → X l mX5_measure 2 0 0 false T kC 0 0 107 [some (vR (25, 0, 0)), none, some (vI c2), some (vI c3), some (vI s.1)] [] (en s.2) := by
  refine am_loop_of ?_
  intro s x hf k1 k2
  obtain ⟨x4 , u⟩ := s
  unfold f_X5_measure_L107 at hf
  show X l mX5_measure 2 0 0 false T kC 0 0 107 [some (vR (25, 0, 0)), none, some (vI c2), some (vI c3), some (vI x4)] [] (en u)
  refine r_iload (x := x4) dX5_measure_107 rfl ?_
  refine r_aload_n (x := (25, 0, 0)) dX5_measure_109 rfl ?_
  refine e_geti fw_X5_16 dX5_measure_110 (kC_mem (s := 25) (by decide) (by decide) (by decide)) rfl (lt_b rfl) ?_
  refine r_icmp_ge (tgt := 161) dX5_measure_113 (by decide) (fun hc => ?_) (fun hc => ?_)
  · have hf := (am_if hf).1 hc
    refine r_weak (L' := [some (vR (25, 0, 0)), none, some (vI c2), some (vI c3), none]) (And.intro rfl (And.intro rfl (And.intro rfl trivial))) ?_
    exact k2 (u) (am_inj hf).symm
  · have hf := (am_if hf).2 hc
    refine r_aload_n (x := (25, 0, 0)) dX5_measure_116 rfl ?_
    refine e_getr (z := some (26, 0, 0)) fw_X5_11 dX5_measure_117 (kC_mem (s := 25) (by decide) (by decide) (by decide)) rfl (lt_b rfl) rfl ?_
    refine r_iload_n (x := c3) dX5_measure_120 rfl ?_
    obtain ⟨h9, hf⟩ := am_nchk hf
    refine e_aald (n := c3.toNatClampNeg) (z := some (27, 0, c3.toNatClampNeg)) dX5_measure_121 (kC_mem (s := 26) (by decide) (by decide) (by decide)) ⟨le_b rfl, lt_b rfl⟩ h9 rfl rfl ?_
    refine r_iload (x := x4) dX5_measure_122 rfl ?_
    refine r_aload_n (x := (25, 0, 0)) dX5_measure_124 rfl ?_
    refine e_getr (z := some (26, 0, 0)) fw_X5_11 dX5_measure_125 (kC_mem (s := 25) (by decide) (by decide) (by decide)) rfl (lt_b rfl) rfl ?_
    refine r_iload_n (x := c3) dX5_measure_128 rfl ?_
    refine e_aald (n := c3.toNatClampNeg) (z := some (27, 0, c3.toNatClampNeg)) dX5_measure_129 (kC_mem (s := 26) (by decide) (by decide) (by decide)) ⟨le_b rfl, lt_b rfl⟩ h9 rfl rfl ?_
    refine r_iload (x := x4) dX5_measure_130 rfl ?_
    obtain ⟨h10, hf⟩ := am_nchk hf
    refine e_iald (n := x4.toNatClampNeg) dX5_measure_132 (kC_mem (s := 27) (by decide) (by decide) (vp_lt h9)) rfl h10 rfl rfl ?_
    refine r_aload_n (x := (25, 0, 0)) dX5_measure_133 rfl ?_
    refine e_getr (z := some (26, 0, 0)) fw_X5_11 dX5_measure_134 (kC_mem (s := 25) (by decide) (by decide) (by decide)) rfl (lt_b rfl) rfl ?_
    refine r_iload_n (x := c3) dX5_measure_137 rfl ?_
    refine e_aald (n := c3.toNatClampNeg) (z := some (27, 0, c3.toNatClampNeg)) dX5_measure_138 (kC_mem (s := 26) (by decide) (by decide) (by decide)) ⟨le_b rfl, lt_b rfl⟩ h9 rfl rfl ?_
    refine r_iload_n (x := c2) dX5_measure_139 rfl ?_
    obtain ⟨h11, hf⟩ := am_nchk hf
    refine e_iald (n := c2.toNatClampNeg) dX5_measure_140 (kC_mem (s := 27) (by decide) (by decide) (vp_lt h9)) rfl h11 rfl rfl ?_
    refine r_aload_n (x := (25, 0, 0)) dX5_measure_141 rfl ?_
    refine e_getr (z := some (26, 0, 0)) fw_X5_11 dX5_measure_142 (kC_mem (s := 25) (by decide) (by decide) (by decide)) rfl (lt_b rfl) rfl ?_
    refine r_iload_n (x := c2) dX5_measure_145 rfl ?_
    refine e_aald (n := c2.toNatClampNeg) (z := some (27, 0, c2.toNatClampNeg)) dX5_measure_146 (kC_mem (s := 26) (by decide) (by decide) (by decide)) ⟨le_b rfl, lt_b rfl⟩ h11 rfl rfl ?_
    refine r_iload (x := x4) dX5_measure_147 rfl ?_
    refine e_iald (n := x4.toNatClampNeg) dX5_measure_149 (kC_mem (s := 27) (by decide) (by decide) (vp_lt h11)) rfl h10 rfl rfl ?_
    refine r_iadd dX5_measure_150 ?_
    refine r_mmin jm_X5_23 js_min.1 js_min.2.1 js_min.2.2 dX5_measure_151 (le_b rfl) (le_b rfl) (le_b rfl) (le_b rfl) ?_
    refine e_iast (n := x4.toNatClampNeg) dX5_measure_154 (kC_mem (s := 27) (by decide) (by decide) (vp_lt h9)) rfl h10 rfl ?_
    refine r_iinc (x := x4) (v := x4 + (1 : Int32)) (L' := [some (vR (25, 0, 0)), none, some (vI c2), some (vI c3), some (vI (x4 + (1 : Int32)))]) dX5_measure_155 rfl rfl (lt_b rfl) rfl ?_
    refine r_goto (tgt := 107) dX5_measure_158 (by decide) ?_
    refine r_weak (L' := [some (vR (25, 0, 0)), none, some (vI c2), some (vI c3), some (vI (x4 + (1 : Int32)))]) (And.intro rfl (And.intro rfl (And.intro rfl (And.intro rfl trivial)))) ?_
    exact k1 (x4 + (1 : Int32), (pi u (27, 0, c3.toNatClampNeg) x4.toNatClampNeg (if ((u.1 (27, 0, c3.toNatClampNeg) c2.toNatClampNeg) + (u.1 (27, 0, c2.toNatClampNeg) x4.toNatClampNeg)) < (u.1 (27, 0, c3.toNatClampNeg) x4.toNatClampNeg) then ((u.1 (27, 0, c3.toNatClampNeg) c2.toNatClampNeg) + (u.1 (27, 0, c2.toNatClampNeg) x4.toNatClampNeg)) else (u.1 (27, 0, c3.toNatClampNeg) x4.toNatClampNeg)))) (am_inj hf).symm
def f_X5_measure_L96  (c2 : Int32) : Int32 × PM → Option ((Int32 × PM) ⊕ (PM)) := fun (x3 , u) =>
  if (u.1 (25, 0, 0) 1) ≤ x3 then
    some (.inr (u))
  else
  (am_loop (f_X5_measure_L107 c2 x3) 2000 ((0 : Int32), u)).bind fun u14 =>
  some (.inl (x3 + (1 : Int32), u14))
set_option maxHeartbeats 4000000 in
set_option maxRecDepth 20000 in
theorem K_X5_measure_L96 {l : Launch} {T : Option AV × List Key × AM}  {c2 : Int32} : ∀ (n : Nat) (s : Int32 × PM) (e0 : PM), am_loop (f_X5_measure_L96 c2) n s = some e0 → (fun e : PM => X l mX5_measure 2 0 0 false T kC 0 0 167 [some (vR (25, 0, 0)), none, some (vI c2), none, none] [] (en e)) e0 → X l mX5_measure 2 0 0 false T kC 0 0 96 [some (vR (25, 0, 0)), none, some (vI c2), some (vI s.1), none] [] (en s.2) := by
  refine am_loop_of ?_
  intro s x hf k1 k2
  obtain ⟨x3 , u⟩ := s
  unfold f_X5_measure_L96 at hf
  show X l mX5_measure 2 0 0 false T kC 0 0 96 [some (vR (25, 0, 0)), none, some (vI c2), some (vI x3), none] [] (en u)
  refine r_iload_n (x := x3) dX5_measure_96 rfl ?_
  refine r_aload_n (x := (25, 0, 0)) dX5_measure_97 rfl ?_
  refine e_geti fw_X5_16 dX5_measure_98 (kC_mem (s := 25) (by decide) (by decide) (by decide)) rfl (lt_b rfl) ?_
  refine r_icmp_ge (tgt := 167) dX5_measure_101 (by decide) (fun hc => ?_) (fun hc => ?_)
  · have hf := (am_if hf).1 hc
    refine r_weak (L' := [some (vR (25, 0, 0)), none, some (vI c2), none, none]) (And.intro rfl (And.intro rfl trivial)) ?_
    exact k2 (u) (am_inj hf).symm
  · have hf := (am_if hf).2 hc
    refine r_iconst (v := 0) dX5_measure_104 rfl ?_
    refine r_istore (L' := [some (vR (25, 0, 0)), none, some (vI c2), some (vI x3), some (vI (0 : Int32))]) dX5_measure_105 (by decide) rfl ?_
    refine r_weak (L' := [some (vR (25, 0, 0)), none, some (vI c2), some (vI x3), some (vI (0 : Int32))]) (And.intro rfl (And.intro rfl (And.intro rfl (And.intro rfl trivial)))) ?_
    obtain ⟨e12, he13, hf⟩ := am_bind hf
    refine K_X5_measure_L107  2000 ((0 : Int32), u) _ he13 ?_
    obtain ⟨u14, rfl⟩ : ∃ z, z = e12 := ⟨_, rfl⟩
    show X l _ _ 0 0 false _ kC 0 0 161 [some (vR (25, 0, 0)), none, some (vI c2), some (vI x3), none] [] (en u14)
    refine r_iinc (x := x3) (v := x3 + (1 : Int32)) (L' := [some (vR (25, 0, 0)), none, some (vI c2), some (vI (x3 + (1 : Int32))), none]) dX5_measure_161 rfl rfl (lt_b rfl) rfl ?_
    refine r_goto (tgt := 96) dX5_measure_164 (by decide) ?_
    refine r_weak (L' := [some (vR (25, 0, 0)), none, some (vI c2), some (vI (x3 + (1 : Int32))), none]) (And.intro rfl (And.intro rfl (And.intro rfl trivial))) ?_
    exact k1 (x3 + (1 : Int32), u14) (am_inj hf).symm
def f_X5_measure_L86   : Int32 × PM → Option ((Int32 × PM) ⊕ (PM)) := fun (x2 , u) =>
  if (u.1 (25, 0, 0) 1) ≤ x2 then
    some (.inr (u))
  else
  (am_loop (f_X5_measure_L96 x2) 2000 ((0 : Int32), u)).bind fun u17 =>
  some (.inl (x2 + (1 : Int32), u17))
set_option maxHeartbeats 4000000 in
set_option maxRecDepth 20000 in
theorem K_X5_measure_L86 {l : Launch} {T : Option AV × List Key × AM}   : ∀ (n : Nat) (s : Int32 × PM) (e0 : PM), am_loop (f_X5_measure_L86) n s = some e0 → (fun e : PM => X l mX5_measure 2 0 0 false T kC 0 0 173 [none, none, none, none, none] [] (en e)) e0 → X l mX5_measure 2 0 0 false T kC 0 0 86 [some (vR (25, 0, 0)), none, some (vI s.1), none, none] [] (en s.2) := by
  refine am_loop_of ?_
  intro s x hf k1 k2
  obtain ⟨x2 , u⟩ := s
  unfold f_X5_measure_L86 at hf
  show X l mX5_measure 2 0 0 false T kC 0 0 86 [some (vR (25, 0, 0)), none, some (vI x2), none, none] [] (en u)
  refine r_iload_n (x := x2) dX5_measure_86 rfl ?_
  refine r_aload_n (x := (25, 0, 0)) dX5_measure_87 rfl ?_
  refine e_geti fw_X5_16 dX5_measure_88 (kC_mem (s := 25) (by decide) (by decide) (by decide)) rfl (lt_b rfl) ?_
  refine r_icmp_ge (tgt := 173) dX5_measure_91 (by decide) (fun hc => ?_) (fun hc => ?_)
  · have hf := (am_if hf).1 hc
    refine r_weak (L' := [none, none, none, none, none]) trivial ?_
    exact k2 (u) (am_inj hf).symm
  · have hf := (am_if hf).2 hc
    refine r_iconst (v := 0) dX5_measure_94 rfl ?_
    refine r_istore_n (L' := [some (vR (25, 0, 0)), none, some (vI x2), some (vI (0 : Int32)), none]) dX5_measure_95 (by decide) rfl ?_
    refine r_weak (L' := [some (vR (25, 0, 0)), none, some (vI x2), some (vI (0 : Int32)), none]) (And.intro rfl (And.intro rfl (And.intro rfl trivial))) ?_
    obtain ⟨e15, he16, hf⟩ := am_bind hf
    refine K_X5_measure_L96  2000 ((0 : Int32), u) _ he16 ?_
    obtain ⟨u17, rfl⟩ : ∃ z, z = e15 := ⟨_, rfl⟩
    show X l _ _ 0 0 false _ kC 0 0 167 [some (vR (25, 0, 0)), none, some (vI x2), none, none] [] (en u17)
    refine r_iinc (x := x2) (v := x2 + (1 : Int32)) (L' := [some (vR (25, 0, 0)), none, some (vI (x2 + (1 : Int32))), none, none]) dX5_measure_167 rfl rfl (lt_b rfl) rfl ?_
    refine r_goto (tgt := 86) dX5_measure_170 (by decide) ?_
    refine r_weak (L' := [some (vR (25, 0, 0)), none, some (vI (x2 + (1 : Int32))), none, none]) (And.intro rfl (And.intro rfl trivial)) ?_
    exact k1 (x2 + (1 : Int32), u17) (am_inj hf).symm
def f_X5_measure (w : Nat)  (u : PM) : Option (PM) :=
  (am_loop (f_X5_measure_L15 w) 2000 ((0 : Int32), (pi u (25, 0, 0) 1 (if (6 : Int32) < (u.1 (1, w, 0) 0) then (6 : Int32) else (u.1 (1, w, 0) 0))))).bind fun u8 =>
  (am_loop (f_X5_measure_L86) 2000 ((0 : Int32), u8)).bind fun u20 =>
  some u20
set_option maxHeartbeats 4000000 in
set_option maxRecDepth 20000 in
theorem C_X5_measure {l : Launch} {w : Nat} (hw : w < 4)  {u : PM} {x : PM} (hf : f_X5_measure w u = some x) : Ev l mX5_measure 2 0 0 false [vR (25, 0, 0), vR (1, w, 0)] kC (en u) (none, kC, en x) := by
  refine Ev_of (by decide +kernel) (le_b rfl) ?_
  unfold f_X5_measure at hf
  show X l mX5_measure 2 0 0 false _ kC 0 0 0 [some (vR (25, 0, 0)), some (vR (1, w, 0)), none, none, none] [] (en u)
  refine r_aload_n (x := (25, 0, 0)) dX5_measure_0 rfl ?_
  refine r_aload_n (x := (1, w, 0)) dX5_measure_1 rfl ?_
  refine e_geti fw_X5_20 dX5_measure_2 (kC_mem (s := 1) (by decide) hw (by decide)) rfl (lt_b rfl) ?_
  refine r_bipush (v := 6) dX5_measure_5 rfl ?_
  refine r_mmin jm_X5_23 js_min.1 js_min.2.1 js_min.2.2 dX5_measure_7 (le_b rfl) (le_b rfl) (le_b rfl) (le_b rfl) ?_
  refine e_puti fp_X5_16 dX5_measure_10 (kC_mem (s := 25) (by decide) (by decide) (by decide)) rfl (lt_b rfl) rfl rfl rfl ?_
  refine r_iconst (v := 0) dX5_measure_13 rfl ?_
  refine r_istore_n (L' := [some (vR (25, 0, 0)), some (vR (1, w, 0)), some (vI (0 : Int32)), none, none]) dX5_measure_14 (by decide) rfl ?_
  refine r_weak (L' := [some (vR (25, 0, 0)), some (vR (1, w, 0)), some (vI (0 : Int32)), none, none]) (And.intro rfl (And.intro rfl (And.intro rfl trivial))) ?_
  obtain ⟨e6, he7, hf⟩ := am_bind hf
  refine K_X5_measure_L15 hw 2000 ((0 : Int32), (pi u (25, 0, 0) 1 (if (6 : Int32) < (u.1 (1, w, 0) 0) then (6 : Int32) else (u.1 (1, w, 0) 0)))) _ he7 ?_
  obtain ⟨u8, rfl⟩ : ∃ z, z = e6 := ⟨_, rfl⟩
  show X l _ _ 0 0 false _ kC 0 0 84 [some (vR (25, 0, 0)), none, none, none, none] [] (en u8)
  refine r_iconst (v := 0) dX5_measure_84 rfl ?_
  refine r_istore_n (L' := [some (vR (25, 0, 0)), none, some (vI (0 : Int32)), none, none]) dX5_measure_85 (by decide) rfl ?_
  refine r_weak (L' := [some (vR (25, 0, 0)), none, some (vI (0 : Int32)), none, none]) (And.intro rfl (And.intro rfl trivial)) ?_
  obtain ⟨e18, he19, hf⟩ := am_bind hf
  refine K_X5_measure_L86  2000 ((0 : Int32), u8) _ he19 ?_
  obtain ⟨u20, rfl⟩ : ∃ z, z = e18 := ⟨_, rfl⟩
  show X l _ _ 0 0 false _ kC 0 0 173 [none, none, none, none, none] [] (en u20)
  have hx := am_inj hf
  subst hx
  exact r_vret dX5_measure_173 rfl (le_b rfl) (le_b rfl)
/-! FireFromFire$Paths.toFire -/
theorem dX5_toFire_0 : decode cX5_toFire 0 = .ok (.ldc 32, 2) := by decide +kernel
theorem dX5_toFire_2 : decode cX5_toFire 2 = .ok (.istore_n 3, 1) := by decide +kernel
theorem dX5_toFire_3 : decode cX5_toFire 3 = .ok (.iconst 0, 1) := by decide +kernel
theorem dX5_toFire_4 : decode cX5_toFire 4 = .ok (.istore 4, 2) := by decide +kernel
theorem dX5_toFire_6 : decode cX5_toFire 6 = .ok (.iload 4, 2) := by decide +kernel
theorem dX5_toFire_8 : decode cX5_toFire 8 = .ok (.aload_n 0, 1) := by decide +kernel
theorem dX5_toFire_9 : decode cX5_toFire 9 = .ok (.getfield 16, 3) := by decide +kernel
theorem dX5_toFire_12 : decode cX5_toFire 12 = .ok (.if_icmp .ge 56, 3) := by decide +kernel
theorem dX5_toFire_15 : decode cX5_toFire 15 = .ok (.aload_n 1, 1) := by decide +kernel
theorem dX5_toFire_16 : decode cX5_toFire 16 = .ok (.iload 4, 2) := by decide +kernel
theorem dX5_toFire_18 : decode cX5_toFire 18 = .ok (.invokevirtual 33, 3) := by decide +kernel
theorem dX5_toFire_21 : decode cX5_toFire 21 = .ok (.astore 5, 2) := by decide +kernel
theorem dX5_toFire_23 : decode cX5_toFire 23 = .ok (.iload_n 2, 1) := by decide +kernel
theorem dX5_toFire_24 : decode cX5_toFire 24 = .ok (.ifCond .lt 38, 3) := by decide +kernel
theorem dX5_toFire_27 : decode cX5_toFire 27 = .ok (.iload_n 2, 1) := by decide +kernel
theorem dX5_toFire_28 : decode cX5_toFire 28 = .ok (.aload_n 0, 1) := by decide +kernel
theorem dX5_toFire_29 : decode cX5_toFire 29 = .ok (.getfield 16, 3) := by decide +kernel
theorem dX5_toFire_32 : decode cX5_toFire 32 = .ok (.if_icmp .ge 30, 3) := by decide +kernel
theorem dX5_toFire_35 : decode cX5_toFire 35 = .ok (.aload 5, 2) := by decide +kernel
theorem dX5_toFire_37 : decode cX5_toFire 37 = .ok (.ifnull 25, 3) := by decide +kernel
theorem dX5_toFire_40 : decode cX5_toFire 40 = .ok (.aload 5, 2) := by decide +kernel
theorem dX5_toFire_42 : decode cX5_toFire 42 = .ok (.getfield 37, 3) := by decide +kernel
theorem dX5_toFire_45 : decode cX5_toFire 45 = .ok (.ifCond .eq 17, 3) := by decide +kernel
theorem dX5_toFire_48 : decode cX5_toFire 48 = .ok (.iload_n 3, 1) := by decide +kernel
theorem dX5_toFire_49 : decode cX5_toFire 49 = .ok (.aload_n 0, 1) := by decide +kernel
theorem dX5_toFire_50 : decode cX5_toFire 50 = .ok (.getfield 11, 3) := by decide +kernel
theorem dX5_toFire_53 : decode cX5_toFire 53 = .ok (.iload 4, 2) := by decide +kernel
theorem dX5_toFire_55 : decode cX5_toFire 55 = .ok (.aaload, 1) := by decide +kernel
theorem dX5_toFire_56 : decode cX5_toFire 56 = .ok (.iload_n 2, 1) := by decide +kernel
theorem dX5_toFire_57 : decode cX5_toFire 57 = .ok (.iaload, 1) := by decide +kernel
theorem dX5_toFire_58 : decode cX5_toFire 58 = .ok (.invokestatic 23, 3) := by decide +kernel
theorem dX5_toFire_61 : decode cX5_toFire 61 = .ok (.istore_n 3, 1) := by decide +kernel
theorem dX5_toFire_62 : decode cX5_toFire 62 = .ok (.iinc 4 1, 3) := by decide +kernel
theorem dX5_toFire_65 : decode cX5_toFire 65 = .ok (.goto (-59), 3) := by decide +kernel
theorem dX5_toFire_68 : decode cX5_toFire 68 = .ok (.iload_n 3, 1) := by decide +kernel
theorem dX5_toFire_69 : decode cX5_toFire 69 = .ok (.ldc 32, 2) := by decide +kernel
theorem dX5_toFire_71 : decode cX5_toFire 71 = .ok (.if_icmp .ge 7, 3) := by decide +kernel
theorem dX5_toFire_74 : decode cX5_toFire 74 = .ok (.iload_n 3, 1) := by decide +kernel
theorem dX5_toFire_75 : decode cX5_toFire 75 = .ok (.goto 5, 3) := by decide +kernel
theorem dX5_toFire_78 : decode cX5_toFire 78 = .ok (.bipush (-5), 2) := by decide +kernel
theorem dX5_toFire_80 : decode cX5_toFire 80 = .ok (.ireturn, 1) := by decide +kernel
def f_X5_toFire_L6 (n0 : Nat) (c2 : Int32) (u : PM) : Int32 × Int32 → Option ((Int32 × Int32) ⊕ (Int32)) := fun (x3 , x4) =>
  if (u.1 (25, 0, 0) 1) ≤ x4 then
    some (.inr (x3))
  else
  (f_X8_find n0 x4 u).bind fun r1 =>
  match r1 with
  | none =>
    if c2 < 0 then
      some (.inl (x3, x4 + (1 : Int32)))
    else
    if (u.1 (25, 0, 0) 1) ≤ c2 then
      some (.inl (x3, x4 + (1 : Int32)))
    else
    some (.inl (x3, x4 + (1 : Int32)))
  | some p3 =>
    if p3 < 6 then
      if c2 < 0 then
        some (.inl (x3, x4 + (1 : Int32)))
      else
      if (u.1 (25, 0, 0) 1) ≤ c2 then
        some (.inl (x3, x4 + (1 : Int32)))
      else
      if (u.1 (3, n0, p3) 1) = 0 then
        some (.inl (x3, x4 + (1 : Int32)))
      else
      if x4 < 0 ∨ 6 ≤ x4.toNatClampNeg then none else
      if c2 < 0 ∨ 6 ≤ c2.toNatClampNeg then none else
      some (.inl ((if (u.1 (27, 0, x4.toNatClampNeg) c2.toNatClampNeg) < x3 then (u.1 (27, 0, x4.toNatClampNeg) c2.toNatClampNeg) else x3), x4 + (1 : Int32)))
    else none
set_option maxHeartbeats 4000000 in
set_option maxRecDepth 20000 in
theorem K_X5_toFire_L6 {l : Launch} {T : Option AV × List Key × AM} {n0 : Nat} (hn0 : n0 < 4) {c2 : Int32} {u : PM} : ∀ (n : Nat) (s : Int32 × Int32) (e0 : Int32), am_loop (f_X5_toFire_L6 n0 c2 u) n s = some e0 → (fun e : Int32 => X l mX5_toFire 2 0 0 false T kC 0 0 68 [none, none, none, some (vI e), none, none] [] (en u)) e0 → X l mX5_toFire 2 0 0 false T kC 0 0 6 [some (vR (25, 0, 0)), some (vR (1, n0, 0)), some (vI c2), some (vI s.1), some (vI s.2), none] [] (en u) := by
  refine am_loop_of ?_
  intro s x hf k1 k2
  obtain ⟨x3 , x4⟩ := s
  unfold f_X5_toFire_L6 at hf
  show X l mX5_toFire 2 0 0 false T kC 0 0 6 [some (vR (25, 0, 0)), some (vR (1, n0, 0)), some (vI c2), some (vI x3), some (vI x4), none] [] (en u)
  refine r_iload (x := x4) dX5_toFire_6 rfl ?_
  refine r_aload_n (x := (25, 0, 0)) dX5_toFire_8 rfl ?_
  refine e_geti fw_X5_16 dX5_toFire_9 (kC_mem (s := 25) (by decide) (by decide) (by decide)) rfl (lt_b rfl) ?_
  refine r_icmp_ge (tgt := 68) dX5_toFire_12 (by decide) (fun hc => ?_) (fun hc => ?_)
  · have hf := (am_if hf).1 hc
    refine r_weak (L' := [none, none, none, some (vI x3), none, none]) (And.intro rfl trivial) ?_
    exact k2 (x3) (am_inj hf).symm
  · have hf := (am_if hf).2 hc
    refine r_aload_n (x := (1, n0, 0)) dX5_toFire_15 rfl ?_
    refine r_iload (x := x4) dX5_toFire_16 rfl ?_
    obtain ⟨r1, hr2, hf⟩ := am_bind hf
    refine r_callV (as := [vI x4]) (st := []) (n := 1) mw_X5_33 mv_X8_find (C_X8_find (l := l) hn0 hr2) (le_b rfl) dX5_toFire_18 (kC_mem (s := 1) (by decide) hn0 (by decide)) rfl rfl rfl (le_b rfl) (le_b rfl) (le_b rfl) ?_
    cases r1 with
    | none =>
      show X l _ _ 0 0 false _ kC 0 0 21 [some (vR (25, 0, 0)), some (vR (1, n0, 0)), some (vI c2), some (vI x3), some (vI x4), none] [vN] (en u)
      refine r_astoreN (L' := [some (vR (25, 0, 0)), some (vR (1, n0, 0)), some (vI c2), some (vI x3), some (vI x4), some (vN)]) dX5_toFire_21 (by decide) rfl ?_
      refine r_iload_n (x := c2) dX5_toFire_23 rfl ?_
      refine r_if_lt (tgt := 62) dX5_toFire_24 (by decide) (fun hc => ?_) (fun hc => ?_)
      · have hf := (am_if hf).1 hc
        refine r_iinc (x := x4) (v := x4 + (1 : Int32)) (L' := [some (vR (25, 0, 0)), some (vR (1, n0, 0)), some (vI c2), some (vI x3), some (vI (x4 + (1 : Int32))), some (vN)]) dX5_toFire_62 rfl rfl (lt_b rfl) rfl ?_
        refine r_goto (tgt := 6) dX5_toFire_65 (by decide) ?_
        refine r_weak (L' := [some (vR (25, 0, 0)), some (vR (1, n0, 0)), some (vI c2), some (vI x3), some (vI (x4 + (1 : Int32))), none]) (And.intro rfl (And.intro rfl (And.intro rfl (And.intro rfl (And.intro rfl trivial))))) ?_
        exact k1 (x3, x4 + (1 : Int32)) (am_inj hf).symm
      · have hf := (am_if hf).2 hc
        refine r_iload_n (x := c2) dX5_toFire_27 rfl ?_
        refine r_aload_n (x := (25, 0, 0)) dX5_toFire_28 rfl ?_
        refine e_geti fw_X5_16 dX5_toFire_29 (kC_mem (s := 25) (by decide) (by decide) (by decide)) rfl (lt_b rfl) ?_
        refine r_icmp_ge (tgt := 62) dX5_toFire_32 (by decide) (fun hc => ?_) (fun hc => ?_)
        · have hf := (am_if hf).1 hc
          refine r_iinc (x := x4) (v := x4 + (1 : Int32)) (L' := [some (vR (25, 0, 0)), some (vR (1, n0, 0)), some (vI c2), some (vI x3), some (vI (x4 + (1 : Int32))), some (vN)]) dX5_toFire_62 rfl rfl (lt_b rfl) rfl ?_
          refine r_goto (tgt := 6) dX5_toFire_65 (by decide) ?_
          refine r_weak (L' := [some (vR (25, 0, 0)), some (vR (1, n0, 0)), some (vI c2), some (vI x3), some (vI (x4 + (1 : Int32))), none]) (And.intro rfl (And.intro rfl (And.intro rfl (And.intro rfl (And.intro rfl trivial))))) ?_
          exact k1 (x3, x4 + (1 : Int32)) (am_inj hf).symm
        · have hf := (am_if hf).2 hc
          refine r_aloadN dX5_toFire_35 rfl ?_
          refine r_ifnullN (tgt := 62) dX5_toFire_37 (by decide) ?_
          refine r_iinc (x := x4) (v := x4 + (1 : Int32)) (L' := [some (vR (25, 0, 0)), some (vR (1, n0, 0)), some (vI c2), some (vI x3), some (vI (x4 + (1 : Int32))), some (vN)]) dX5_toFire_62 rfl rfl (lt_b rfl) rfl ?_
          refine r_goto (tgt := 6) dX5_toFire_65 (by decide) ?_
          refine r_weak (L' := [some (vR (25, 0, 0)), some (vR (1, n0, 0)), some (vI c2), some (vI x3), some (vI (x4 + (1 : Int32))), none]) (And.intro rfl (And.intro rfl (And.intro rfl (And.intro rfl (And.intro rfl trivial))))) ?_
          exact k1 (x3, x4 + (1 : Int32)) (am_inj hf).symm
    | some p3 =>
      obtain ⟨h4, hf⟩ := am_chk hf
      show X l _ _ 0 0 false _ kC 0 0 21 [some (vR (25, 0, 0)), some (vR (1, n0, 0)), some (vI c2), some (vI x3), some (vI x4), none] [vR (3, n0, p3)] (en u)
      refine r_astore (L' := [some (vR (25, 0, 0)), some (vR (1, n0, 0)), some (vI c2), some (vI x3), some (vI x4), some (vR (3, n0, p3))]) dX5_toFire_21 (by decide) rfl ?_
      refine r_iload_n (x := c2) dX5_toFire_23 rfl ?_
      refine r_if_lt (tgt := 62) dX5_toFire_24 (by decide) (fun hc => ?_) (fun hc => ?_)
      · have hf := (am_if hf).1 hc
        refine r_iinc (x := x4) (v := x4 + (1 : Int32)) (L' := [some (vR (25, 0, 0)), some (vR (1, n0, 0)), some (vI c2), some (vI x3), some (vI (x4 + (1 : Int32))), some (vR (3, n0, p3))]) dX5_toFire_62 rfl rfl (lt_b rfl) rfl ?_
        refine r_goto (tgt := 6) dX5_toFire_65 (by decide) ?_
        refine r_weak (L' := [some (vR (25, 0, 0)), some (vR (1, n0, 0)), some (vI c2), some (vI x3), some (vI (x4 + (1 : Int32))), none]) (And.intro rfl (And.intro rfl (And.intro rfl (And.intro rfl (And.intro rfl trivial))))) ?_
        exact k1 (x3, x4 + (1 : Int32)) (am_inj hf).symm
      · have hf := (am_if hf).2 hc
        refine r_iload_n (x := c2) dX5_toFire_27 rfl ?_
        refine r_aload_n (x := (25, 0, 0)) dX5_toFire_28 rfl ?_
        refine e_geti fw_X5_16 dX5_toFire_29 (kC_mem (s := 25) (by decide) (by decide) (by decide)) rfl (lt_b rfl) ?_
        refine r_icmp_ge (tgt := 62) dX5_toFire_32 (by decide) (fun hc => ?_) (fun hc => ?_)
        · have hf := (am_if hf).1 hc
          refine r_iinc (x := x4) (v := x4 + (1 : Int32)) (L' := [some (vR (25, 0, 0)), some (vR (1, n0, 0)), some (vI c2), some (vI x3), some (vI (x4 + (1 : Int32))), some (vR (3, n0, p3))]) dX5_toFire_62 rfl rfl (lt_b rfl) rfl ?_
          refine r_goto (tgt := 6) dX5_toFire_65 (by decide) ?_
          refine r_weak (L' := [some (vR (25, 0, 0)), some (vR (1, n0, 0)), some (vI c2), some (vI x3), some (vI (x4 + (1 : Int32))), none]) (And.intro rfl (And.intro rfl (And.intro rfl (And.intro rfl (And.intro rfl trivial))))) ?_
          exact k1 (x3, x4 + (1 : Int32)) (am_inj hf).symm
        · have hf := (am_if hf).2 hc
          refine r_aload (x := (3, n0, p3)) dX5_toFire_35 rfl ?_
          refine r_ifnullR dX5_toFire_37 ?_
          refine r_aload (x := (3, n0, p3)) dX5_toFire_40 rfl ?_
          refine e_geti fw_X5_37 dX5_toFire_42 (kC_mem (s := 3) (by decide) hn0 h4) rfl (lt_b rfl) ?_
          refine r_if_eq (tgt := 62) dX5_toFire_45 (by decide) (fun hc => ?_) (fun hc => ?_)
          · have hf := (am_if hf).1 hc
            refine r_iinc (x := x4) (v := x4 + (1 : Int32)) (L' := [some (vR (25, 0, 0)), some (vR (1, n0, 0)), some (vI c2), some (vI x3), some (vI (x4 + (1 : Int32))), some (vR (3, n0, p3))]) dX5_toFire_62 rfl rfl (lt_b rfl) rfl ?_
            refine r_goto (tgt := 6) dX5_toFire_65 (by decide) ?_
            refine r_weak (L' := [some (vR (25, 0, 0)), some (vR (1, n0, 0)), some (vI c2), some (vI x3), some (vI (x4 + (1 : Int32))), none]) (And.intro rfl (And.intro rfl (And.intro rfl (And.intro rfl (And.intro rfl trivial))))) ?_
            exact k1 (x3, x4 + (1 : Int32)) (am_inj hf).symm
          · have hf := (am_if hf).2 hc
            refine r_iload_n (x := x3) dX5_toFire_48 rfl ?_
            refine r_aload_n (x := (25, 0, 0)) dX5_toFire_49 rfl ?_
            refine e_getr (z := some (26, 0, 0)) fw_X5_11 dX5_toFire_50 (kC_mem (s := 25) (by decide) (by decide) (by decide)) rfl (lt_b rfl) rfl ?_
            refine r_iload (x := x4) dX5_toFire_53 rfl ?_
            obtain ⟨h5, hf⟩ := am_nchk hf
            refine e_aald (n := x4.toNatClampNeg) (z := some (27, 0, x4.toNatClampNeg)) dX5_toFire_55 (kC_mem (s := 26) (by decide) (by decide) (by decide)) ⟨le_b rfl, lt_b rfl⟩ h5 rfl rfl ?_
            refine r_iload_n (x := c2) dX5_toFire_56 rfl ?_
            obtain ⟨h6, hf⟩ := am_nchk hf
            refine e_iald (n := c2.toNatClampNeg) dX5_toFire_57 (kC_mem (s := 27) (by decide) (by decide) (vp_lt h5)) rfl h6 rfl rfl ?_
            refine r_mmin jm_X5_23 js_min.1 js_min.2.1 js_min.2.2 dX5_toFire_58 (le_b rfl) (le_b rfl) (le_b rfl) (le_b rfl) ?_
            refine r_istore_n (L' := [some (vR (25, 0, 0)), some (vR (1, n0, 0)), some (vI c2), some (vI (if (u.1 (27, 0, x4.toNatClampNeg) c2.toNatClampNeg) < x3 then (u.1 (27, 0, x4.toNatClampNeg) c2.toNatClampNeg) else x3)), some (vI x4), some (vR (3, n0, p3))]) dX5_toFire_61 (by decide) rfl ?_
            refine r_iinc (x := x4) (v := x4 + (1 : Int32)) (L' := [some (vR (25, 0, 0)), some (vR (1, n0, 0)), some (vI c2), some (vI (if (u.1 (27, 0, x4.toNatClampNeg) c2.toNatClampNeg) < x3 then (u.1 (27, 0, x4.toNatClampNeg) c2.toNatClampNeg) else x3)), some (vI (x4 + (1 : Int32))), some (vR (3, n0, p3))]) dX5_toFire_62 rfl rfl (lt_b rfl) rfl ?_
            refine r_goto (tgt := 6) dX5_toFire_65 (by decide) ?_
            refine r_weak (L' := [some (vR (25, 0, 0)), some (vR (1, n0, 0)), some (vI c2), some (vI (if (u.1 (27, 0, x4.toNatClampNeg) c2.toNatClampNeg) < x3 then (u.1 (27, 0, x4.toNatClampNeg) c2.toNatClampNeg) else x3)), some (vI (x4 + (1 : Int32))), none]) (And.intro rfl (And.intro rfl (And.intro rfl (And.intro rfl (And.intro rfl trivial))))) ?_
            exact k1 ((if (u.1 (27, 0, x4.toNatClampNeg) c2.toNatClampNeg) < x3 then (u.1 (27, 0, x4.toNatClampNeg) c2.toNatClampNeg) else x3), x4 + (1 : Int32)) (am_inj hf).symm
def f_X5_toFire (w : Nat) (a1 : Int32) (u : PM) : Option (Int32) :=
  (am_loop (f_X5_toFire_L6 w a1 u) 2000 ((1000000 : Int32), (0 : Int32))).bind fun y9 =>
  if (1000000 : Int32) ≤ y9 then
    some (-5 : Int32)
  else
  some y9
set_option maxHeartbeats 4000000 in
set_option maxRecDepth 20000 in
theorem C_X5_toFire {l : Launch} {w : Nat} (hw : w < 4) {a1 : Int32} {u : PM} {x : Int32} (hf : f_X5_toFire w a1 u = some x) : Ev l mX5_toFire 2 0 0 false [vR (25, 0, 0), vR (1, w, 0), vI a1] kC (en u) (some (vI x), kC, en u) := by
  refine Ev_of (by decide +kernel) (le_b rfl) ?_
  unfold f_X5_toFire at hf
  show X l mX5_toFire 2 0 0 false _ kC 0 0 0 [some (vR (25, 0, 0)), some (vR (1, w, 0)), some (vI a1), none, none, none] [] (en u)
  refine r_ldc (v := 1000000) dX5_toFire_0 cc_X5_32 ?_
  refine r_istore_n (L' := [some (vR (25, 0, 0)), some (vR (1, w, 0)), some (vI a1), some (vI (1000000 : Int32)), none, none]) dX5_toFire_2 (by decide) rfl ?_
  refine r_iconst (v := 0) dX5_toFire_3 rfl ?_
  refine r_istore (L' := [some (vR (25, 0, 0)), some (vR (1, w, 0)), some (vI a1), some (vI (1000000 : Int32)), some (vI (0 : Int32)), none]) dX5_toFire_4 (by decide) rfl ?_
  refine r_weak (L' := [some (vR (25, 0, 0)), some (vR (1, w, 0)), some (vI a1), some (vI (1000000 : Int32)), some (vI (0 : Int32)), none]) (And.intro rfl (And.intro rfl (And.intro rfl (And.intro rfl (And.intro rfl trivial))))) ?_
  obtain ⟨e7, he8, hf⟩ := am_bind hf
  refine K_X5_toFire_L6 hw 2000 ((1000000 : Int32), (0 : Int32)) _ he8 ?_
  obtain ⟨y9, rfl⟩ : ∃ z, z = e7 := ⟨_, rfl⟩
  show X l _ _ 0 0 false _ kC 0 0 68 [none, none, none, some (vI y9), none, none] [] (en u)
  refine r_iload_n (x := y9) dX5_toFire_68 rfl ?_
  refine r_ldc (v := 1000000) dX5_toFire_69 cc_X5_32 ?_
  refine r_icmp_ge (tgt := 78) dX5_toFire_71 (by decide) (fun hc => ?_) (fun hc => ?_)
  · have hf := (am_if hf).1 hc
    refine r_bipush (v := -5) dX5_toFire_78 rfl ?_
    have hx := am_inj hf
    subst hx
    exact r_iret dX5_toFire_80 rfl rfl (le_b rfl) (le_b rfl)
  · have hf := (am_if hf).2 hc
    refine r_iload_n (x := y9) dX5_toFire_74 rfl ?_
    refine r_goto (tgt := 80) dX5_toFire_75 (by decide) ?_
    have hx := am_inj hf
    subst hx
    exact r_iret dX5_toFire_80 rfl rfl (le_b rfl) (le_b rfl)
/-! FireFromFire$Paths.widest -/
theorem dX5_widest_0 : decode cX5_widest 0 = .ok (.iconst 0, 1) := by decide +kernel
theorem dX5_widest_1 : decode cX5_widest 1 = .ok (.istore_n 1, 1) := by decide +kernel
theorem dX5_widest_2 : decode cX5_widest 2 = .ok (.iconst 0, 1) := by decide +kernel
theorem dX5_widest_3 : decode cX5_widest 3 = .ok (.istore_n 2, 1) := by decide +kernel
theorem dX5_widest_4 : decode cX5_widest 4 = .ok (.iload_n 2, 1) := by decide +kernel
theorem dX5_widest_5 : decode cX5_widest 5 = .ok (.aload_n 0, 1) := by decide +kernel
theorem dX5_widest_6 : decode cX5_widest 6 = .ok (.getfield 16, 3) := by decide +kernel
theorem dX5_widest_9 : decode cX5_widest 9 = .ok (.if_icmp .ge 38, 3) := by decide +kernel
theorem dX5_widest_12 : decode cX5_widest 12 = .ok (.iconst 0, 1) := by decide +kernel
theorem dX5_widest_13 : decode cX5_widest 13 = .ok (.istore_n 3, 1) := by decide +kernel
theorem dX5_widest_14 : decode cX5_widest 14 = .ok (.iload_n 3, 1) := by decide +kernel
theorem dX5_widest_15 : decode cX5_widest 15 = .ok (.aload_n 0, 1) := by decide +kernel
theorem dX5_widest_16 : decode cX5_widest 16 = .ok (.getfield 16, 3) := by decide +kernel
theorem dX5_widest_19 : decode cX5_widest 19 = .ok (.if_icmp .ge 22, 3) := by decide +kernel
theorem dX5_widest_22 : decode cX5_widest 22 = .ok (.iload_n 1, 1) := by decide +kernel
theorem dX5_widest_23 : decode cX5_widest 23 = .ok (.aload_n 0, 1) := by decide +kernel
theorem dX5_widest_24 : decode cX5_widest 24 = .ok (.getfield 11, 3) := by decide +kernel
theorem dX5_widest_27 : decode cX5_widest 27 = .ok (.iload_n 2, 1) := by decide +kernel
theorem dX5_widest_28 : decode cX5_widest 28 = .ok (.aaload, 1) := by decide +kernel
theorem dX5_widest_29 : decode cX5_widest 29 = .ok (.iload_n 3, 1) := by decide +kernel
theorem dX5_widest_30 : decode cX5_widest 30 = .ok (.iaload, 1) := by decide +kernel
theorem dX5_widest_31 : decode cX5_widest 31 = .ok (.invokestatic 43, 3) := by decide +kernel
theorem dX5_widest_34 : decode cX5_widest 34 = .ok (.istore_n 1, 1) := by decide +kernel
theorem dX5_widest_35 : decode cX5_widest 35 = .ok (.iinc 3 1, 3) := by decide +kernel
theorem dX5_widest_38 : decode cX5_widest 38 = .ok (.goto (-24), 3) := by decide +kernel
theorem dX5_widest_41 : decode cX5_widest 41 = .ok (.iinc 2 1, 3) := by decide +kernel
theorem dX5_widest_44 : decode cX5_widest 44 = .ok (.goto (-40), 3) := by decide +kernel
theorem dX5_widest_47 : decode cX5_widest 47 = .ok (.iload_n 1, 1) := by decide +kernel
theorem dX5_widest_48 : decode cX5_widest 48 = .ok (.ldc 32, 2) := by decide +kernel
theorem dX5_widest_50 : decode cX5_widest 50 = .ok (.if_icmp .ge 7, 3) := by decide +kernel
theorem dX5_widest_53 : decode cX5_widest 53 = .ok (.iload_n 1, 1) := by decide +kernel
theorem dX5_widest_54 : decode cX5_widest 54 = .ok (.goto 5, 3) := by decide +kernel
theorem dX5_widest_57 : decode cX5_widest 57 = .ok (.bipush (-5), 2) := by decide +kernel
theorem dX5_widest_59 : decode cX5_widest 59 = .ok (.ireturn, 1) := by decide +kernel
def f_X5_widest_L14  (c2 : Int32) (u : PM) : Int32 × Int32 → Option ((Int32 × Int32) ⊕ (Int32)) := fun (x1 , x3) =>
  if (u.1 (25, 0, 0) 1) ≤ x3 then
    some (.inr (x1))
  else
  if c2 < 0 ∨ 6 ≤ c2.toNatClampNeg then none else
  if x3 < 0 ∨ 6 ≤ x3.toNatClampNeg then none else
  some (.inl ((if x1 < (u.1 (27, 0, c2.toNatClampNeg) x3.toNatClampNeg) then (u.1 (27, 0, c2.toNatClampNeg) x3.toNatClampNeg) else x1), x3 + (1 : Int32)))
set_option maxHeartbeats 4000000 in
set_option maxRecDepth 20000 in
theorem K_X5_widest_L14 {l : Launch} {T : Option AV × List Key × AM}  {c2 : Int32} {u : PM} : ∀ (n : Nat) (s : Int32 × Int32) (e0 : Int32), am_loop (f_X5_widest_L14 c2 u) n s = some e0 → (fun e : Int32 => X l mX5_widest 2 0 0 false T kC 0 0 41 [some (vR (25, 0, 0)), some (vI e), some (vI c2), none] [] (en u)) e0 → X l mX5_widest 2 0 0 false T kC 0 0 14 [some (vR (25, 0, 0)), some (vI s.1), some (vI c2), some (vI s.2)] [] (en u) := by
  refine am_loop_of ?_
  intro s x hf k1 k2
  obtain ⟨x1 , x3⟩ := s
  unfold f_X5_widest_L14 at hf
  show X l mX5_widest 2 0 0 false T kC 0 0 14 [some (vR (25, 0, 0)), some (vI x1), some (vI c2), some (vI x3)] [] (en u)
  refine r_iload_n (x := x3) dX5_widest_14 rfl ?_
  refine r_aload_n (x := (25, 0, 0)) dX5_widest_15 rfl ?_
  refine e_geti fw_X5_16 dX5_widest_16 (kC_mem (s := 25) (by decide) (by decide) (by decide)) rfl (lt_b rfl) ?_
  refine r_icmp_ge (tgt := 41) dX5_widest_19 (by decide) (fun hc => ?_) (fun hc => ?_)
  · have hf := (am_if hf).1 hc
    refine r_weak (L' := [some (vR (25, 0, 0)), some (vI x1), some (vI c2), none]) (And.intro rfl (And.intro rfl (And.intro rfl trivial))) ?_
    exact k2 (x1) (am_inj hf).symm
  · have hf := (am_if hf).2 hc
    refine r_iload_n (x := x1) dX5_widest_22 rfl ?_
    refine r_aload_n (x := (25, 0, 0)) dX5_widest_23 rfl ?_
    refine e_getr (z := some (26, 0, 0)) fw_X5_11 dX5_widest_24 (kC_mem (s := 25) (by decide) (by decide) (by decide)) rfl (lt_b rfl) rfl ?_
    refine r_iload_n (x := c2) dX5_widest_27 rfl ?_
    obtain ⟨h1, hf⟩ := am_nchk hf
    refine e_aald (n := c2.toNatClampNeg) (z := some (27, 0, c2.toNatClampNeg)) dX5_widest_28 (kC_mem (s := 26) (by decide) (by decide) (by decide)) ⟨le_b rfl, lt_b rfl⟩ h1 rfl rfl ?_
    refine r_iload_n (x := x3) dX5_widest_29 rfl ?_
    obtain ⟨h2, hf⟩ := am_nchk hf
    refine e_iald (n := x3.toNatClampNeg) dX5_widest_30 (kC_mem (s := 27) (by decide) (by decide) (vp_lt h1)) rfl h2 rfl rfl ?_
    refine r_mmax jm_X5_43 js_max.1 js_max.2.1 js_max.2.2 dX5_widest_31 (le_b rfl) (le_b rfl) (le_b rfl) (le_b rfl) ?_
    refine r_istore_n (L' := [some (vR (25, 0, 0)), some (vI (if x1 < (u.1 (27, 0, c2.toNatClampNeg) x3.toNatClampNeg) then (u.1 (27, 0, c2.toNatClampNeg) x3.toNatClampNeg) else x1)), some (vI c2), some (vI x3)]) dX5_widest_34 (by decide) rfl ?_
    refine r_iinc (x := x3) (v := x3 + (1 : Int32)) (L' := [some (vR (25, 0, 0)), some (vI (if x1 < (u.1 (27, 0, c2.toNatClampNeg) x3.toNatClampNeg) then (u.1 (27, 0, c2.toNatClampNeg) x3.toNatClampNeg) else x1)), some (vI c2), some (vI (x3 + (1 : Int32)))]) dX5_widest_35 rfl rfl (lt_b rfl) rfl ?_
    refine r_goto (tgt := 14) dX5_widest_38 (by decide) ?_
    refine r_weak (L' := [some (vR (25, 0, 0)), some (vI (if x1 < (u.1 (27, 0, c2.toNatClampNeg) x3.toNatClampNeg) then (u.1 (27, 0, c2.toNatClampNeg) x3.toNatClampNeg) else x1)), some (vI c2), some (vI (x3 + (1 : Int32)))]) (And.intro rfl (And.intro rfl (And.intro rfl (And.intro rfl trivial)))) ?_
    exact k1 ((if x1 < (u.1 (27, 0, c2.toNatClampNeg) x3.toNatClampNeg) then (u.1 (27, 0, c2.toNatClampNeg) x3.toNatClampNeg) else x1), x3 + (1 : Int32)) (am_inj hf).symm
def f_X5_widest_L4   (u : PM) : Int32 × Int32 → Option ((Int32 × Int32) ⊕ (Int32)) := fun (x1 , x2) =>
  if (u.1 (25, 0, 0) 1) ≤ x2 then
    some (.inr (x1))
  else
  (am_loop (f_X5_widest_L14 x2 u) 2000 (x1, (0 : Int32))).bind fun y5 =>
  some (.inl (y5, x2 + (1 : Int32)))
set_option maxHeartbeats 4000000 in
set_option maxRecDepth 20000 in
theorem K_X5_widest_L4 {l : Launch} {T : Option AV × List Key × AM}   {u : PM} : ∀ (n : Nat) (s : Int32 × Int32) (e0 : Int32), am_loop (f_X5_widest_L4 u) n s = some e0 → (fun e : Int32 => X l mX5_widest 2 0 0 false T kC 0 0 47 [none, some (vI e), none, none] [] (en u)) e0 → X l mX5_widest 2 0 0 false T kC 0 0 4 [some (vR (25, 0, 0)), some (vI s.1), some (vI s.2), none] [] (en u) := by
  refine am_loop_of ?_
  intro s x hf k1 k2
  obtain ⟨x1 , x2⟩ := s
  unfold f_X5_widest_L4 at hf
  show X l mX5_widest 2 0 0 false T kC 0 0 4 [some (vR (25, 0, 0)), some (vI x1), some (vI x2), none] [] (en u)
  refine r_iload_n (x := x2) dX5_widest_4 rfl ?_
  refine r_aload_n (x := (25, 0, 0)) dX5_widest_5 rfl ?_
  refine e_geti fw_X5_16 dX5_widest_6 (kC_mem (s := 25) (by decide) (by decide) (by decide)) rfl (lt_b rfl) ?_
  refine r_icmp_ge (tgt := 47) dX5_widest_9 (by decide) (fun hc => ?_) (fun hc => ?_)
  · have hf := (am_if hf).1 hc
    refine r_weak (L' := [none, some (vI x1), none, none]) (And.intro rfl trivial) ?_
    exact k2 (x1) (am_inj hf).symm
  · have hf := (am_if hf).2 hc
    refine r_iconst (v := 0) dX5_widest_12 rfl ?_
    refine r_istore_n (L' := [some (vR (25, 0, 0)), some (vI x1), some (vI x2), some (vI (0 : Int32))]) dX5_widest_13 (by decide) rfl ?_
    refine r_weak (L' := [some (vR (25, 0, 0)), some (vI x1), some (vI x2), some (vI (0 : Int32))]) (And.intro rfl (And.intro rfl (And.intro rfl (And.intro rfl trivial)))) ?_
    obtain ⟨e3, he4, hf⟩ := am_bind hf
    refine K_X5_widest_L14  2000 (x1, (0 : Int32)) _ he4 ?_
    obtain ⟨y5, rfl⟩ : ∃ z, z = e3 := ⟨_, rfl⟩
    show X l _ _ 0 0 false _ kC 0 0 41 [some (vR (25, 0, 0)), some (vI y5), some (vI x2), none] [] (en u)
    refine r_iinc (x := x2) (v := x2 + (1 : Int32)) (L' := [some (vR (25, 0, 0)), some (vI y5), some (vI (x2 + (1 : Int32))), none]) dX5_widest_41 rfl rfl (lt_b rfl) rfl ?_
    refine r_goto (tgt := 4) dX5_widest_44 (by decide) ?_
    refine r_weak (L' := [some (vR (25, 0, 0)), some (vI y5), some (vI (x2 + (1 : Int32))), none]) (And.intro rfl (And.intro rfl (And.intro rfl trivial))) ?_
    exact k1 (y5, x2 + (1 : Int32)) (am_inj hf).symm
def f_X5_widest   (u : PM) : Option (Int32) :=
  (am_loop (f_X5_widest_L4 u) 2000 ((0 : Int32), (0 : Int32))).bind fun y8 =>
  if (1000000 : Int32) ≤ y8 then
    some (-5 : Int32)
  else
  some y8
set_option maxHeartbeats 4000000 in
set_option maxRecDepth 20000 in
theorem C_X5_widest {l : Launch}   {u : PM} {x : Int32} (hf : f_X5_widest u = some x) : Ev l mX5_widest 2 0 0 false [vR (25, 0, 0)] kC (en u) (some (vI x), kC, en u) := by
  refine Ev_of (by decide +kernel) (le_b rfl) ?_
  unfold f_X5_widest at hf
  show X l mX5_widest 2 0 0 false _ kC 0 0 0 [some (vR (25, 0, 0)), none, none, none] [] (en u)
  refine r_iconst (v := 0) dX5_widest_0 rfl ?_
  refine r_istore_n (L' := [some (vR (25, 0, 0)), some (vI (0 : Int32)), none, none]) dX5_widest_1 (by decide) rfl ?_
  refine r_iconst (v := 0) dX5_widest_2 rfl ?_
  refine r_istore_n (L' := [some (vR (25, 0, 0)), some (vI (0 : Int32)), some (vI (0 : Int32)), none]) dX5_widest_3 (by decide) rfl ?_
  refine r_weak (L' := [some (vR (25, 0, 0)), some (vI (0 : Int32)), some (vI (0 : Int32)), none]) (And.intro rfl (And.intro rfl (And.intro rfl trivial))) ?_
  obtain ⟨e6, he7, hf⟩ := am_bind hf
  refine K_X5_widest_L4  2000 ((0 : Int32), (0 : Int32)) _ he7 ?_
  obtain ⟨y8, rfl⟩ : ∃ z, z = e6 := ⟨_, rfl⟩
  show X l _ _ 0 0 false _ kC 0 0 47 [none, some (vI y8), none, none] [] (en u)
  refine r_iload_n (x := y8) dX5_widest_47 rfl ?_
  refine r_ldc (v := 1000000) dX5_widest_48 cc_X5_32 ?_
  refine r_icmp_ge (tgt := 57) dX5_widest_50 (by decide) (fun hc => ?_) (fun hc => ?_)
  · have hf := (am_if hf).1 hc
    refine r_bipush (v := -5) dX5_widest_57 rfl ?_
    have hx := am_inj hf
    subst hx
    exact r_iret dX5_widest_59 rfl rfl (le_b rfl) (le_b rfl)
  · have hf := (am_if hf).2 hc
    refine r_iload_n (x := y8) dX5_widest_53 rfl ?_
    refine r_goto (tgt := 59) dX5_widest_54 (by decide) ?_
    have hx := am_inj hf
    subst hx
    exact r_iret dX5_widest_59 rfl rfl (le_b rfl) (le_b rfl)
/-! FireFromFire$Paths.isReached -/
theorem dX5_isReached_0 : decode cX5_isReached 0 = .ok (.iconst 0, 1) := by decide +kernel
theorem dX5_isReached_1 : decode cX5_isReached 1 = .ok (.istore_n 3, 1) := by decide +kernel
theorem dX5_isReached_2 : decode cX5_isReached 2 = .ok (.iload_n 3, 1) := by decide +kernel
theorem dX5_isReached_3 : decode cX5_isReached 3 = .ok (.aload_n 0, 1) := by decide +kernel
theorem dX5_isReached_4 : decode cX5_isReached 4 = .ok (.getfield 16, 3) := by decide +kernel
theorem dX5_isReached_7 : decode cX5_isReached 7 = .ok (.if_icmp .ge 71, 3) := by decide +kernel
theorem dX5_isReached_10 : decode cX5_isReached 10 = .ok (.iconst 0, 1) := by decide +kernel
theorem dX5_isReached_11 : decode cX5_isReached 11 = .ok (.istore 4, 2) := by decide +kernel
theorem dX5_isReached_13 : decode cX5_isReached 13 = .ok (.iconst 0, 1) := by decide +kernel
theorem dX5_isReached_14 : decode cX5_isReached 14 = .ok (.istore 5, 2) := by decide +kernel
theorem dX5_isReached_16 : decode cX5_isReached 16 = .ok (.iload 5, 2) := by decide +kernel
theorem dX5_isReached_18 : decode cX5_isReached 18 = .ok (.aload_n 0, 1) := by decide +kernel
theorem dX5_isReached_19 : decode cX5_isReached 19 = .ok (.getfield 16, 3) := by decide +kernel
theorem dX5_isReached_22 : decode cX5_isReached 22 = .ok (.if_icmp .ge 43, 3) := by decide +kernel
theorem dX5_isReached_25 : decode cX5_isReached 25 = .ok (.iload 4, 2) := by decide +kernel
theorem dX5_isReached_27 : decode cX5_isReached 27 = .ok (.ifCond .ne 25, 3) := by decide +kernel
theorem dX5_isReached_30 : decode cX5_isReached 30 = .ok (.iload_n 1, 1) := by decide +kernel
theorem dX5_isReached_31 : decode cX5_isReached 31 = .ok (.iload 5, 2) := by decide +kernel
theorem dX5_isReached_33 : decode cX5_isReached 33 = .ok (.ishr, 1) := by decide +kernel
theorem dX5_isReached_34 : decode cX5_isReached 34 = .ok (.iconst 1, 1) := by decide +kernel
theorem dX5_isReached_35 : decode cX5_isReached 35 = .ok (.iand, 1) := by decide +kernel
theorem dX5_isReached_36 : decode cX5_isReached 36 = .ok (.ifCond .eq 20, 3) := by decide +kernel
theorem dX5_isReached_39 : decode cX5_isReached 39 = .ok (.aload_n 0, 1) := by decide +kernel
theorem dX5_isReached_40 : decode cX5_isReached 40 = .ok (.getfield 11, 3) := by decide +kernel
theorem dX5_isReached_43 : decode cX5_isReached 43 = .ok (.iload 5, 2) := by decide +kernel
theorem dX5_isReached_45 : decode cX5_isReached 45 = .ok (.aaload, 1) := by decide +kernel
theorem dX5_isReached_46 : decode cX5_isReached 46 = .ok (.iload_n 3, 1) := by decide +kernel
theorem dX5_isReached_47 : decode cX5_isReached 47 = .ok (.iaload, 1) := by decide +kernel
theorem dX5_isReached_48 : decode cX5_isReached 48 = .ok (.iload_n 2, 1) := by decide +kernel
theorem dX5_isReached_49 : decode cX5_isReached 49 = .ok (.if_icmp .gt 7, 3) := by decide +kernel
theorem dX5_isReached_52 : decode cX5_isReached 52 = .ok (.iconst 1, 1) := by decide +kernel
theorem dX5_isReached_53 : decode cX5_isReached 53 = .ok (.goto 4, 3) := by decide +kernel
theorem dX5_isReached_56 : decode cX5_isReached 56 = .ok (.iconst 0, 1) := by decide +kernel
theorem dX5_isReached_57 : decode cX5_isReached 57 = .ok (.istore 4, 2) := by decide +kernel
theorem dX5_isReached_59 : decode cX5_isReached 59 = .ok (.iinc 5 1, 3) := by decide +kernel
theorem dX5_isReached_62 : decode cX5_isReached 62 = .ok (.goto (-46), 3) := by decide +kernel
theorem dX5_isReached_65 : decode cX5_isReached 65 = .ok (.iload 4, 2) := by decide +kernel
theorem dX5_isReached_67 : decode cX5_isReached 67 = .ok (.ifCond .ne 5, 3) := by decide +kernel
theorem dX5_isReached_70 : decode cX5_isReached 70 = .ok (.iconst 0, 1) := by decide +kernel
theorem dX5_isReached_71 : decode cX5_isReached 71 = .ok (.ireturn, 1) := by decide +kernel
theorem dX5_isReached_72 : decode cX5_isReached 72 = .ok (.iinc 3 1, 3) := by decide +kernel
theorem dX5_isReached_75 : decode cX5_isReached 75 = .ok (.goto (-73), 3) := by decide +kernel
theorem dX5_isReached_78 : decode cX5_isReached 78 = .ok (.iconst 1, 1) := by decide +kernel
theorem dX5_isReached_79 : decode cX5_isReached 79 = .ok (.ireturn, 1) := by decide +kernel
def f_X5_isReached_L16  (c1 : Int32) (c2 : Int32) (c3 : Int32) (u : PM) : Int32 × Int32 → Option ((Int32 × Int32) ⊕ (Int32)) := fun (x4 , x5) =>
  if (u.1 (25, 0, 0) 1) ≤ x5 then
    some (.inr (x4))
  else
  if x4 = 0 then
    if ((c1 >>> (x5 &&& 31)) &&& (1 : Int32)) = 0 then
      some (.inl ((0 : Int32), x5 + (1 : Int32)))
    else
    if x5 < 0 ∨ 6 ≤ x5.toNatClampNeg then none else
    if c3 < 0 ∨ 6 ≤ c3.toNatClampNeg then none else
    if c2 < (u.1 (27, 0, x5.toNatClampNeg) c3.toNatClampNeg) then
      some (.inl ((0 : Int32), x5 + (1 : Int32)))
    else
    some (.inl ((1 : Int32), x5 + (1 : Int32)))
  else
  some (.inl ((1 : Int32), x5 + (1 : Int32)))
set_option maxHeartbeats 4000000 in
set_option maxRecDepth 20000 in
theorem K_X5_isReached_L16 {l : Launch} {T : Option AV × List Key × AM}  {c1 : Int32} {c2 : Int32} {c3 : Int32} {u : PM} : ∀ (n : Nat) (s : Int32 × Int32) (e0 : Int32), am_loop (f_X5_isReached_L16 c1 c2 c3 u) n s = some e0 → (fun e : Int32 => X l mX5_isReached 1 0 0 false T kC 0 0 65 [some (vR (25, 0, 0)), some (vI c1), some (vI c2), some (vI c3), some (vI e), none] [] (en u)) e0 → X l mX5_isReached 1 0 0 false T kC 0 0 16 [some (vR (25, 0, 0)), some (vI c1), some (vI c2), some (vI c3), some (vI s.1), some (vI s.2)] [] (en u) := by
  refine am_loop_of ?_
  intro s x hf k1 k2
  obtain ⟨x4 , x5⟩ := s
  unfold f_X5_isReached_L16 at hf
  show X l mX5_isReached 1 0 0 false T kC 0 0 16 [some (vR (25, 0, 0)), some (vI c1), some (vI c2), some (vI c3), some (vI x4), some (vI x5)] [] (en u)
  refine r_iload (x := x5) dX5_isReached_16 rfl ?_
  refine r_aload_n (x := (25, 0, 0)) dX5_isReached_18 rfl ?_
  refine e_geti fw_X5_16 dX5_isReached_19 (kC_mem (s := 25) (by decide) (by decide) (by decide)) rfl (lt_b rfl) ?_
  refine r_icmp_ge (tgt := 65) dX5_isReached_22 (by decide) (fun hc => ?_) (fun hc => ?_)
  · have hf := (am_if hf).1 hc
    refine r_weak (L' := [some (vR (25, 0, 0)), some (vI c1), some (vI c2), some (vI c3), some (vI x4), none]) (And.intro rfl (And.intro rfl (And.intro rfl (And.intro rfl (And.intro rfl trivial))))) ?_
    exact k2 (x4) (am_inj hf).symm
  · have hf := (am_if hf).2 hc
    refine r_iload (x := x4) dX5_isReached_25 rfl ?_
    refine r_if_ne (tgt := 52) dX5_isReached_27 (by decide) (fun hc => ?_) (fun hc => ?_)
    · have hf := (am_if hf).2 hc
      refine r_iconst (v := 1) dX5_isReached_52 rfl ?_
      refine r_goto (tgt := 57) dX5_isReached_53 (by decide) ?_
      refine r_istore (L' := [some (vR (25, 0, 0)), some (vI c1), some (vI c2), some (vI c3), some (vI (1 : Int32)), some (vI x5)]) dX5_isReached_57 (by decide) rfl ?_
      refine r_iinc (x := x5) (v := x5 + (1 : Int32)) (L' := [some (vR (25, 0, 0)), some (vI c1), some (vI c2), some (vI c3), some (vI (1 : Int32)), some (vI (x5 + (1 : Int32)))]) dX5_isReached_59 rfl rfl (lt_b rfl) rfl ?_
      refine r_goto (tgt := 16) dX5_isReached_62 (by decide) ?_
      refine r_weak (L' := [some (vR (25, 0, 0)), some (vI c1), some (vI c2), some (vI c3), some (vI (1 : Int32)), some (vI (x5 + (1 : Int32)))]) (And.intro rfl (And.intro rfl (And.intro rfl (And.intro rfl (And.intro rfl (And.intro rfl trivial)))))) ?_
      exact k1 ((1 : Int32), x5 + (1 : Int32)) (am_inj hf).symm
    · have hf := (am_if hf).1 hc
      refine r_iload_n (x := c1) dX5_isReached_30 rfl ?_
      refine r_iload (x := x5) dX5_isReached_31 rfl ?_
      refine r_ishr dX5_isReached_33 ?_
      refine r_iconst (v := 1) dX5_isReached_34 rfl ?_
      refine r_iand dX5_isReached_35 ?_
      refine r_if_eq (tgt := 56) dX5_isReached_36 (by decide) (fun hc => ?_) (fun hc => ?_)
      · have hf := (am_if hf).1 hc
        refine r_iconst (v := 0) dX5_isReached_56 rfl ?_
        refine r_istore (L' := [some (vR (25, 0, 0)), some (vI c1), some (vI c2), some (vI c3), some (vI (0 : Int32)), some (vI x5)]) dX5_isReached_57 (by decide) rfl ?_
        refine r_iinc (x := x5) (v := x5 + (1 : Int32)) (L' := [some (vR (25, 0, 0)), some (vI c1), some (vI c2), some (vI c3), some (vI (0 : Int32)), some (vI (x5 + (1 : Int32)))]) dX5_isReached_59 rfl rfl (lt_b rfl) rfl ?_
        refine r_goto (tgt := 16) dX5_isReached_62 (by decide) ?_
        refine r_weak (L' := [some (vR (25, 0, 0)), some (vI c1), some (vI c2), some (vI c3), some (vI (0 : Int32)), some (vI (x5 + (1 : Int32)))]) (And.intro rfl (And.intro rfl (And.intro rfl (And.intro rfl (And.intro rfl (And.intro rfl trivial)))))) ?_
        exact k1 ((0 : Int32), x5 + (1 : Int32)) (am_inj hf).symm
      · have hf := (am_if hf).2 hc
        refine r_aload_n (x := (25, 0, 0)) dX5_isReached_39 rfl ?_
        refine e_getr (z := some (26, 0, 0)) fw_X5_11 dX5_isReached_40 (kC_mem (s := 25) (by decide) (by decide) (by decide)) rfl (lt_b rfl) rfl ?_
        refine r_iload (x := x5) dX5_isReached_43 rfl ?_
        obtain ⟨h1, hf⟩ := am_nchk hf
        refine e_aald (n := x5.toNatClampNeg) (z := some (27, 0, x5.toNatClampNeg)) dX5_isReached_45 (kC_mem (s := 26) (by decide) (by decide) (by decide)) ⟨le_b rfl, lt_b rfl⟩ h1 rfl rfl ?_
        refine r_iload_n (x := c3) dX5_isReached_46 rfl ?_
        obtain ⟨h2, hf⟩ := am_nchk hf
        refine e_iald (n := c3.toNatClampNeg) dX5_isReached_47 (kC_mem (s := 27) (by decide) (by decide) (vp_lt h1)) rfl h2 rfl rfl ?_
        refine r_iload_n (x := c2) dX5_isReached_48 rfl ?_
        refine r_icmp_gt (tgt := 56) dX5_isReached_49 (by decide) (fun hc => ?_) (fun hc => ?_)
        · have hf := (am_if hf).1 hc
          refine r_iconst (v := 0) dX5_isReached_56 rfl ?_
          refine r_istore (L' := [some (vR (25, 0, 0)), some (vI c1), some (vI c2), some (vI c3), some (vI (0 : Int32)), some (vI x5)]) dX5_isReached_57 (by decide) rfl ?_
          refine r_iinc (x := x5) (v := x5 + (1 : Int32)) (L' := [some (vR (25, 0, 0)), some (vI c1), some (vI c2), some (vI c3), some (vI (0 : Int32)), some (vI (x5 + (1 : Int32)))]) dX5_isReached_59 rfl rfl (lt_b rfl) rfl ?_
          refine r_goto (tgt := 16) dX5_isReached_62 (by decide) ?_
          refine r_weak (L' := [some (vR (25, 0, 0)), some (vI c1), some (vI c2), some (vI c3), some (vI (0 : Int32)), some (vI (x5 + (1 : Int32)))]) (And.intro rfl (And.intro rfl (And.intro rfl (And.intro rfl (And.intro rfl (And.intro rfl trivial)))))) ?_
          exact k1 ((0 : Int32), x5 + (1 : Int32)) (am_inj hf).symm
        · have hf := (am_if hf).2 hc
          refine r_iconst (v := 1) dX5_isReached_52 rfl ?_
          refine r_goto (tgt := 57) dX5_isReached_53 (by decide) ?_
          refine r_istore (L' := [some (vR (25, 0, 0)), some (vI c1), some (vI c2), some (vI c3), some (vI (1 : Int32)), some (vI x5)]) dX5_isReached_57 (by decide) rfl ?_
          refine r_iinc (x := x5) (v := x5 + (1 : Int32)) (L' := [some (vR (25, 0, 0)), some (vI c1), some (vI c2), some (vI c3), some (vI (1 : Int32)), some (vI (x5 + (1 : Int32)))]) dX5_isReached_59 rfl rfl (lt_b rfl) rfl ?_
          refine r_goto (tgt := 16) dX5_isReached_62 (by decide) ?_
          refine r_weak (L' := [some (vR (25, 0, 0)), some (vI c1), some (vI c2), some (vI c3), some (vI (1 : Int32)), some (vI (x5 + (1 : Int32)))]) (And.intro rfl (And.intro rfl (And.intro rfl (And.intro rfl (And.intro rfl (And.intro rfl trivial)))))) ?_
          exact k1 ((1 : Int32), x5 + (1 : Int32)) (am_inj hf).symm
def f_X5_isReached_L2  (c1 : Int32) (c2 : Int32) (u : PM) : Int32 → Option ((Int32) ⊕ ((Int32) ⊕ (Unit))) := fun x3 =>
  if (u.1 (25, 0, 0) 1) ≤ x3 then
    some (.inr (.inr ()))
  else
  (am_loop (f_X5_isReached_L16 c1 c2 x3 u) 2000 ((0 : Int32), (0 : Int32))).bind fun y5 =>
  if y5 = 0 then
    some (.inr (.inl (0 : Int32)))
  else
  some (.inl (x3 + (1 : Int32)))
set_option maxHeartbeats 4000000 in
set_option maxRecDepth 20000 in
theorem K_X5_isReached_L2 {l : Launch} {T : Option AV × List Key × AM}  {c1 : Int32} {c2 : Int32} {u : PM} : ∀ (n : Nat) (s : Int32) (e0 : (Int32) ⊕ (Unit)), am_loop (f_X5_isReached_L2 c1 c2 u) n s = some e0 → Sum.elim (fun r : Int32 => T = (some (vI r), kC, en u)) (fun e : Unit => X l mX5_isReached 1 0 0 false T kC 0 0 78 [none, none, none, none, none, none] [] (en u)) e0 → X l mX5_isReached 1 0 0 false T kC 0 0 2 [some (vR (25, 0, 0)), some (vI c1), some (vI c2), some (vI s), none, none] [] (en u) := by
  refine am_loop_of ?_
  intro s x hf k1 k2
  obtain ⟨x3, rfl⟩ : ∃ z, z = s := ⟨_, rfl⟩
  unfold f_X5_isReached_L2 at hf
  show X l mX5_isReached 1 0 0 false T kC 0 0 2 [some (vR (25, 0, 0)), some (vI c1), some (vI c2), some (vI x3), none, none] [] (en u)
  refine r_iload_n (x := x3) dX5_isReached_2 rfl ?_
  refine r_aload_n (x := (25, 0, 0)) dX5_isReached_3 rfl ?_
  refine e_geti fw_X5_16 dX5_isReached_4 (kC_mem (s := 25) (by decide) (by decide) (by decide)) rfl (lt_b rfl) ?_
  refine r_icmp_ge (tgt := 78) dX5_isReached_7 (by decide) (fun hc => ?_) (fun hc => ?_)
  · have hf := (am_if hf).1 hc
    refine r_weak (L' := [none, none, none, none, none, none]) trivial ?_
    exact k2 (.inr ()) (am_inj hf).symm
  · have hf := (am_if hf).2 hc
    refine r_iconst (v := 0) dX5_isReached_10 rfl ?_
    refine r_istore (L' := [some (vR (25, 0, 0)), some (vI c1), some (vI c2), some (vI x3), some (vI (0 : Int32)), none]) dX5_isReached_11 (by decide) rfl ?_
    refine r_iconst (v := 0) dX5_isReached_13 rfl ?_
    refine r_istore (L' := [some (vR (25, 0, 0)), some (vI c1), some (vI c2), some (vI x3), some (vI (0 : Int32)), some (vI (0 : Int32))]) dX5_isReached_14 (by decide) rfl ?_
    refine r_weak (L' := [some (vR (25, 0, 0)), some (vI c1), some (vI c2), some (vI x3), some (vI (0 : Int32)), some (vI (0 : Int32))]) (And.intro rfl (And.intro rfl (And.intro rfl (And.intro rfl (And.intro rfl (And.intro rfl trivial)))))) ?_
    obtain ⟨e3, he4, hf⟩ := am_bind hf
    refine K_X5_isReached_L16  2000 ((0 : Int32), (0 : Int32)) _ he4 ?_
    obtain ⟨y5, rfl⟩ : ∃ z, z = e3 := ⟨_, rfl⟩
    show X l _ _ 0 0 false _ kC 0 0 65 [some (vR (25, 0, 0)), some (vI c1), some (vI c2), some (vI x3), some (vI y5), none] [] (en u)
    refine r_iload (x := y5) dX5_isReached_65 rfl ?_
    refine r_if_ne (tgt := 72) dX5_isReached_67 (by decide) (fun hc => ?_) (fun hc => ?_)
    · have hf := (am_if hf).2 hc
      refine r_iinc (x := x3) (v := x3 + (1 : Int32)) (L' := [some (vR (25, 0, 0)), some (vI c1), some (vI c2), some (vI (x3 + (1 : Int32))), some (vI y5), none]) dX5_isReached_72 rfl rfl (lt_b rfl) rfl ?_
      refine r_goto (tgt := 2) dX5_isReached_75 (by decide) ?_
      refine r_weak (L' := [some (vR (25, 0, 0)), some (vI c1), some (vI c2), some (vI (x3 + (1 : Int32))), none, none]) (And.intro rfl (And.intro rfl (And.intro rfl (And.intro rfl trivial)))) ?_
      exact k1 (x3 + (1 : Int32)) (am_inj hf).symm
    · have hf := (am_if hf).1 hc
      refine r_iconst (v := 0) dX5_isReached_70 rfl ?_
      have hT := k2 _ (am_inj hf).symm
      replace hT : T = (some (vI (0 : Int32)), kC, en u) := hT
      subst hT
      exact r_iret dX5_isReached_71 rfl (am_bool (x := 0) (by decide)).1 (le_b rfl) (le_b rfl)
def f_X5_isReached  (a0 : Int32) (a1 : Int32) (u : PM) : Option (Int32) :=
  (am_loop (f_X5_isReached_L2 a0 a1 u) 2000 ((0 : Int32))).bind fun e6 =>
  match e6 with
  | .inl q8 => some q8
  | .inr _ =>
    some (1 : Int32)
set_option maxHeartbeats 4000000 in
set_option maxRecDepth 20000 in
theorem C_X5_isReached {l : Launch}  {a0 : Int32} {a1 : Int32} {u : PM} {x : Int32} (hf : f_X5_isReached a0 a1 u = some x) : Ev l mX5_isReached 1 0 0 false [vR (25, 0, 0), vI a0, vI a1] kC (en u) (some (vI x), kC, en u) := by
  refine Ev_of (by decide +kernel) (le_b rfl) ?_
  unfold f_X5_isReached at hf
  show X l mX5_isReached 1 0 0 false _ kC 0 0 0 [some (vR (25, 0, 0)), some (vI a0), some (vI a1), none, none, none] [] (en u)
  refine r_iconst (v := 0) dX5_isReached_0 rfl ?_
  refine r_istore_n (L' := [some (vR (25, 0, 0)), some (vI a0), some (vI a1), some (vI (0 : Int32)), none, none]) dX5_isReached_1 (by decide) rfl ?_
  refine r_weak (L' := [some (vR (25, 0, 0)), some (vI a0), some (vI a1), some (vI (0 : Int32)), none, none]) (And.intro rfl (And.intro rfl (And.intro rfl (And.intro rfl trivial)))) ?_
  obtain ⟨e6, he7, hf⟩ := am_bind hf
  refine K_X5_isReached_L2  2000 ((0 : Int32)) _ he7 ?_
  rcases e6 with q8 | e6
  · have hx := am_inj hf
    subst hx
    rfl
  · show X l _ _ 0 0 false _ kC 0 0 78 [none, none, none, none, none, none] [] (en u)
    refine r_iconst (v := 1) dX5_isReached_78 rfl ?_
    have hx := am_inj hf
    subst hx
    exact r_iret dX5_isReached_79 rfl (am_bool (x := 1) (by decide)).1 (le_b rfl) (le_b rfl)
/-! FireFromFire$Paths.fewest -/
theorem dX5_fewest_0 : decode cX5_fewest 0 = .ok (.bipush (-5), 2) := by decide +kernel
theorem dX5_fewest_2 : decode cX5_fewest 2 = .ok (.istore_n 2, 1) := by decide +kernel
theorem dX5_fewest_3 : decode cX5_fewest 3 = .ok (.bipush 7, 2) := by decide +kernel
theorem dX5_fewest_5 : decode cX5_fewest 5 = .ok (.istore_n 3, 1) := by decide +kernel
theorem dX5_fewest_6 : decode cX5_fewest 6 = .ok (.iconst 0, 1) := by decide +kernel
theorem dX5_fewest_7 : decode cX5_fewest 7 = .ok (.istore 4, 2) := by decide +kernel
theorem dX5_fewest_9 : decode cX5_fewest 9 = .ok (.iload 4, 2) := by decide +kernel
theorem dX5_fewest_11 : decode cX5_fewest 11 = .ok (.iconst 1, 1) := by decide +kernel
theorem dX5_fewest_12 : decode cX5_fewest 12 = .ok (.aload_n 0, 1) := by decide +kernel
theorem dX5_fewest_13 : decode cX5_fewest 13 = .ok (.getfield 16, 3) := by decide +kernel
theorem dX5_fewest_16 : decode cX5_fewest 16 = .ok (.ishl, 1) := by decide +kernel
theorem dX5_fewest_17 : decode cX5_fewest 17 = .ok (.if_icmp .ge 37, 3) := by decide +kernel
theorem dX5_fewest_20 : decode cX5_fewest 20 = .ok (.iload 4, 2) := by decide +kernel
theorem dX5_fewest_22 : decode cX5_fewest 22 = .ok (.invokestatic 46, 3) := by decide +kernel
theorem dX5_fewest_25 : decode cX5_fewest 25 = .ok (.iload_n 3, 1) := by decide +kernel
theorem dX5_fewest_26 : decode cX5_fewest 26 = .ok (.if_icmp .ge 22, 3) := by decide +kernel
theorem dX5_fewest_29 : decode cX5_fewest 29 = .ok (.aload_n 0, 1) := by decide +kernel
theorem dX5_fewest_30 : decode cX5_fewest 30 = .ok (.iload 4, 2) := by decide +kernel
theorem dX5_fewest_32 : decode cX5_fewest 32 = .ok (.iload_n 1, 1) := by decide +kernel
theorem dX5_fewest_33 : decode cX5_fewest 33 = .ok (.invokevirtual 52, 3) := by decide +kernel
theorem dX5_fewest_36 : decode cX5_fewest 36 = .ok (.ifCond .eq 12, 3) := by decide +kernel
theorem dX5_fewest_39 : decode cX5_fewest 39 = .ok (.iload 4, 2) := by decide +kernel
theorem dX5_fewest_41 : decode cX5_fewest 41 = .ok (.invokestatic 46, 3) := by decide +kernel
theorem dX5_fewest_44 : decode cX5_fewest 44 = .ok (.istore_n 3, 1) := by decide +kernel
theorem dX5_fewest_45 : decode cX5_fewest 45 = .ok (.iload 4, 2) := by decide +kernel
theorem dX5_fewest_47 : decode cX5_fewest 47 = .ok (.istore_n 2, 1) := by decide +kernel
theorem dX5_fewest_48 : decode cX5_fewest 48 = .ok (.iinc 4 1, 3) := by decide +kernel
theorem dX5_fewest_51 : decode cX5_fewest 51 = .ok (.goto (-42), 3) := by decide +kernel
theorem dX5_fewest_54 : decode cX5_fewest 54 = .ok (.iload_n 2, 1) := by decide +kernel
theorem dX5_fewest_55 : decode cX5_fewest 55 = .ok (.ireturn, 1) := by decide +kernel
def f_X5_fewest_L9  (c1 : Int32) (u : PM) : Int32 × Int32 × Int32 → Option ((Int32 × Int32 × Int32) ⊕ (Int32)) := fun (x2 , x3 , x4) =>
  if ((1 : Int32) <<< ((u.1 (25, 0, 0) 1) &&& 31)) ≤ x4 then
    some (.inr (x2))
  else
  (f_J6_bitCount_0f7a4 x4 u).bind fun r1 =>
  if x3 ≤ r1 then
    some (.inl (x2, x3, x4 + (1 : Int32)))
  else
  (f_X5_isReached x4 c1 u).bind fun r3 =>
  if r3 = 0 then
    some (.inl (x2, x3, x4 + (1 : Int32)))
  else
  (f_J6_bitCount_0f7a4 x4 u).bind fun r5 =>
  some (.inl (x4, r5, x4 + (1 : Int32)))
set_option maxHeartbeats 4000000 in
set_option maxRecDepth 20000 in
theorem K_X5_fewest_L9 {l : Launch} {T : Option AV × List Key × AM}  {c1 : Int32} {u : PM} : ∀ (n : Nat) (s : Int32 × Int32 × Int32) (e0 : Int32), am_loop (f_X5_fewest_L9 c1 u) n s = some e0 → (fun e : Int32 => X l mX5_fewest 2 0 0 false T kC 0 0 54 [none, none, some (vI e), none, none] [] (en u)) e0 → X l mX5_fewest 2 0 0 false T kC 0 0 9 [some (vR (25, 0, 0)), some (vI c1), some (vI s.1), some (vI s.2.1), some (vI s.2.2)] [] (en u) := by
  refine am_loop_of ?_
  intro s x hf k1 k2
  obtain ⟨x2 , x3 , x4⟩ := s
  unfold f_X5_fewest_L9 at hf
  show X l mX5_fewest 2 0 0 false T kC 0 0 9 [some (vR (25, 0, 0)), some (vI c1), some (vI x2), some (vI x3), some (vI x4)] [] (en u)
  refine r_iload (x := x4) dX5_fewest_9 rfl ?_
  refine r_iconst (v := 1) dX5_fewest_11 rfl ?_
  refine r_aload_n (x := (25, 0, 0)) dX5_fewest_12 rfl ?_
  refine e_geti fw_X5_16 dX5_fewest_13 (kC_mem (s := 25) (by decide) (by decide) (by decide)) rfl (lt_b rfl) ?_
  refine r_ishl dX5_fewest_16 ?_
  refine r_icmp_ge (tgt := 54) dX5_fewest_17 (by decide) (fun hc => ?_) (fun hc => ?_)
  · have hf := (am_if hf).1 hc
    refine r_weak (L' := [none, none, some (vI x2), none, none]) (And.intro rfl trivial) ?_
    exact k2 (x2) (am_inj hf).symm
  · have hf := (am_if hf).2 hc
    refine r_iload (x := x4) dX5_fewest_20 rfl ?_
    obtain ⟨r1, hr2, hf⟩ := am_bind hf
    refine r_callS (as := [vI x4]) (st := []) (n := 1) mw_X5_46 ms_J6_bitCount_0f7a4 (C_J6_bitCount_0f7a4 (l := l) hr2) (le_b rfl) dX5_fewest_22 rfl (le_b rfl) (le_b rfl) (le_b rfl) ?_
    show X l _ _ 0 0 false _ kC 0 0 25 [some (vR (25, 0, 0)), some (vI c1), some (vI x2), some (vI x3), some (vI x4)] [vI r1] (en u)
    refine r_iload_n (x := x3) dX5_fewest_25 rfl ?_
    refine r_icmp_ge (tgt := 48) dX5_fewest_26 (by decide) (fun hc => ?_) (fun hc => ?_)
    · have hf := (am_if hf).1 hc
      refine r_iinc (x := x4) (v := x4 + (1 : Int32)) (L' := [some (vR (25, 0, 0)), some (vI c1), some (vI x2), some (vI x3), some (vI (x4 + (1 : Int32)))]) dX5_fewest_48 rfl rfl (lt_b rfl) rfl ?_
      refine r_goto (tgt := 9) dX5_fewest_51 (by decide) ?_
      refine r_weak (L' := [some (vR (25, 0, 0)), some (vI c1), some (vI x2), some (vI x3), some (vI (x4 + (1 : Int32)))]) (And.intro rfl (And.intro rfl (And.intro rfl (And.intro rfl (And.intro rfl trivial))))) ?_
      exact k1 (x2, x3, x4 + (1 : Int32)) (am_inj hf).symm
    · have hf := (am_if hf).2 hc
      refine r_aload_n (x := (25, 0, 0)) dX5_fewest_29 rfl ?_
      refine r_iload (x := x4) dX5_fewest_30 rfl ?_
      refine r_iload_n (x := c1) dX5_fewest_32 rfl ?_
      obtain ⟨r3, hr4, hf⟩ := am_bind hf
      refine r_callV (as := [vI x4, vI c1]) (st := []) (n := 2) mw_X5_52 mv_X5_isReached (C_X5_isReached (l := l) hr4) (le_b rfl) dX5_fewest_33 (kC_mem (s := 25) (by decide) (by decide) (by decide)) rfl rfl rfl (le_b rfl) (le_b rfl) (le_b rfl) ?_
      show X l _ _ 0 0 false _ kC 0 0 36 [some (vR (25, 0, 0)), some (vI c1), some (vI x2), some (vI x3), some (vI x4)] [vI r3] (en u)
      refine r_if_eq (tgt := 48) dX5_fewest_36 (by decide) (fun hc => ?_) (fun hc => ?_)
      · have hf := (am_if hf).1 hc
        refine r_iinc (x := x4) (v := x4 + (1 : Int32)) (L' := [some (vR (25, 0, 0)), some (vI c1), some (vI x2), some (vI x3), some (vI (x4 + (1 : Int32)))]) dX5_fewest_48 rfl rfl (lt_b rfl) rfl ?_
        refine r_goto (tgt := 9) dX5_fewest_51 (by decide) ?_
        refine r_weak (L' := [some (vR (25, 0, 0)), some (vI c1), some (vI x2), some (vI x3), some (vI (x4 + (1 : Int32)))]) (And.intro rfl (And.intro rfl (And.intro rfl (And.intro rfl (And.intro rfl trivial))))) ?_
        exact k1 (x2, x3, x4 + (1 : Int32)) (am_inj hf).symm
      · have hf := (am_if hf).2 hc
        refine r_iload (x := x4) dX5_fewest_39 rfl ?_
        obtain ⟨r5, hr6, hf⟩ := am_bind hf
        refine r_callS (as := [vI x4]) (st := []) (n := 1) mw_X5_46 ms_J6_bitCount_0f7a4 (C_J6_bitCount_0f7a4 (l := l) hr6) (le_b rfl) dX5_fewest_41 rfl (le_b rfl) (le_b rfl) (le_b rfl) ?_
        show X l _ _ 0 0 false _ kC 0 0 44 [some (vR (25, 0, 0)), some (vI c1), some (vI x2), some (vI x3), some (vI x4)] [vI r5] (en u)
        refine r_istore_n (L' := [some (vR (25, 0, 0)), some (vI c1), some (vI x2), some (vI r5), some (vI x4)]) dX5_fewest_44 (by decide) rfl ?_
        refine r_iload (x := x4) dX5_fewest_45 rfl ?_
        refine r_istore_n (L' := [some (vR (25, 0, 0)), some (vI c1), some (vI x4), some (vI r5), some (vI x4)]) dX5_fewest_47 (by decide) rfl ?_
        refine r_iinc (x := x4) (v := x4 + (1 : Int32)) (L' := [some (vR (25, 0, 0)), some (vI c1), some (vI x4), some (vI r5), some (vI (x4 + (1 : Int32)))]) dX5_fewest_48 rfl rfl (lt_b rfl) rfl ?_
        refine r_goto (tgt := 9) dX5_fewest_51 (by decide) ?_
        refine r_weak (L' := [some (vR (25, 0, 0)), some (vI c1), some (vI x4), some (vI r5), some (vI (x4 + (1 : Int32)))]) (And.intro rfl (And.intro rfl (And.intro rfl (And.intro rfl (And.intro rfl trivial))))) ?_
        exact k1 (x4, r5, x4 + (1 : Int32)) (am_inj hf).symm
def f_X5_fewest  (a0 : Int32) (u : PM) : Option (Int32) :=
  (am_loop (f_X5_fewest_L9 a0 u) 2000 ((-5 : Int32), (7 : Int32), (0 : Int32))).bind fun y9 =>
  some y9
set_option maxHeartbeats 4000000 in
set_option maxRecDepth 20000 in
theorem C_X5_fewest {l : Launch}  {a0 : Int32} {u : PM} {x : Int32} (hf : f_X5_fewest a0 u = some x) : Ev l mX5_fewest 2 0 0 false [vR (25, 0, 0), vI a0] kC (en u) (some (vI x), kC, en u) := by
  refine Ev_of (by decide +kernel) (le_b rfl) ?_
  unfold f_X5_fewest at hf
  show X l mX5_fewest 2 0 0 false _ kC 0 0 0 [some (vR (25, 0, 0)), some (vI a0), none, none, none] [] (en u)
  refine r_bipush (v := -5) dX5_fewest_0 rfl ?_
  refine r_istore_n (L' := [some (vR (25, 0, 0)), some (vI a0), some (vI (-5 : Int32)), none, none]) dX5_fewest_2 (by decide) rfl ?_
  refine r_bipush (v := 7) dX5_fewest_3 rfl ?_
  refine r_istore_n (L' := [some (vR (25, 0, 0)), some (vI a0), some (vI (-5 : Int32)), some (vI (7 : Int32)), none]) dX5_fewest_5 (by decide) rfl ?_
  refine r_iconst (v := 0) dX5_fewest_6 rfl ?_
  refine r_istore (L' := [some (vR (25, 0, 0)), some (vI a0), some (vI (-5 : Int32)), some (vI (7 : Int32)), some (vI (0 : Int32))]) dX5_fewest_7 (by decide) rfl ?_
  refine r_weak (L' := [some (vR (25, 0, 0)), some (vI a0), some (vI (-5 : Int32)), some (vI (7 : Int32)), some (vI (0 : Int32))]) (And.intro rfl (And.intro rfl (And.intro rfl (And.intro rfl (And.intro rfl trivial))))) ?_
  obtain ⟨e7, he8, hf⟩ := am_bind hf
  refine K_X5_fewest_L9  2000 ((-5 : Int32), (7 : Int32), (0 : Int32)) _ he8 ?_
  obtain ⟨y9, rfl⟩ : ∃ z, z = e7 := ⟨_, rfl⟩
  show X l _ _ 0 0 false _ kC 0 0 54 [none, none, some (vI y9), none, none] [] (en u)
  refine r_iload_n (x := y9) dX5_fewest_54 rfl ?_
  have hx := am_inj hf
  subst hx
  exact r_iret dX5_fewest_55 rfl rfl (le_b rfl) (le_b rfl)
/-! FireFromFire$Odds.begin -/
theorem dX4_begin_0 : decode cX4_begin 0 = .ok (.aload_n 0, 1) := by decide +kernel
theorem dX4_begin_1 : decode cX4_begin 1 = .ok (.lconst 0, 1) := by decide +kernel
theorem dX4_begin_2 : decode cX4_begin 2 = .ok (.putfield 11, 3) := by decide +kernel
theorem dX4_begin_5 : decode cX4_begin 5 = .ok (.aload_n 0, 1) := by decide +kernel
theorem dX4_begin_6 : decode cX4_begin 6 = .ok (.lconst 0, 1) := by decide +kernel
theorem dX4_begin_7 : decode cX4_begin 7 = .ok (.putfield 15, 3) := by decide +kernel
theorem dX4_begin_10 : decode cX4_begin 10 = .ok (.aload_n 0, 1) := by decide +kernel
theorem dX4_begin_11 : decode cX4_begin 11 = .ok (.lconst 1, 1) := by decide +kernel
theorem dX4_begin_12 : decode cX4_begin 12 = .ok (.putfield 18, 3) := by decide +kernel
theorem dX4_begin_15 : decode cX4_begin 15 = .ok (.iconst 1, 1) := by decide +kernel
theorem dX4_begin_16 : decode cX4_begin 16 = .ok (.istore_n 3, 1) := by decide +kernel
theorem dX4_begin_17 : decode cX4_begin 17 = .ok (.iconst 0, 1) := by decide +kernel
theorem dX4_begin_18 : decode cX4_begin 18 = .ok (.istore 4, 2) := by decide +kernel
theorem dX4_begin_20 : decode cX4_begin 20 = .ok (.iload 4, 2) := by decide +kernel
theorem dX4_begin_22 : decode cX4_begin 22 = .ok (.iload_n 2, 1) := by decide +kernel
theorem dX4_begin_23 : decode cX4_begin 23 = .ok (.if_icmp .ge 65, 3) := by decide +kernel
theorem dX4_begin_26 : decode cX4_begin 26 = .ok (.iload 4, 2) := by decide +kernel
theorem dX4_begin_28 : decode cX4_begin 28 = .ok (.iconst 2, 1) := by decide +kernel
theorem dX4_begin_29 : decode cX4_begin 29 = .ok (.if_icmp .ge 59, 3) := by decide +kernel
theorem dX4_begin_32 : decode cX4_begin 32 = .ok (.iload_n 3, 1) := by decide +kernel
theorem dX4_begin_33 : decode cX4_begin 33 = .ok (.bipush 24, 2) := by decide +kernel
theorem dX4_begin_35 : decode cX4_begin 35 = .ok (.imul, 1) := by decide +kernel
theorem dX4_begin_36 : decode cX4_begin 36 = .ok (.istore_n 3, 1) := by decide +kernel
theorem dX4_begin_37 : decode cX4_begin 37 = .ok (.aload_n 0, 1) := by decide +kernel
theorem dX4_begin_38 : decode cX4_begin 38 = .ok (.dup, 1) := by decide +kernel
theorem dX4_begin_39 : decode cX4_begin 39 = .ok (.getfield 18, 3) := by decide +kernel
theorem dX4_begin_42 : decode cX4_begin 42 = .ok (.ldc2_w 28, 3) := by decide +kernel
theorem dX4_begin_45 : decode cX4_begin 45 = .ok (.lmul, 1) := by decide +kernel
theorem dX4_begin_46 : decode cX4_begin 46 = .ok (.putfield 18, 3) := by decide +kernel
theorem dX4_begin_49 : decode cX4_begin 49 = .ok (.iconst 0, 1) := by decide +kernel
theorem dX4_begin_50 : decode cX4_begin 50 = .ok (.istore 5, 2) := by decide +kernel
theorem dX4_begin_52 : decode cX4_begin 52 = .ok (.iload 5, 2) := by decide +kernel
theorem dX4_begin_54 : decode cX4_begin 54 = .ok (.iload_n 1, 1) := by decide +kernel
theorem dX4_begin_55 : decode cX4_begin 55 = .ok (.if_icmp .ge 27, 3) := by decide +kernel
theorem dX4_begin_58 : decode cX4_begin 58 = .ok (.iload 5, 2) := by decide +kernel
theorem dX4_begin_60 : decode cX4_begin 60 = .ok (.iconst 3, 1) := by decide +kernel
theorem dX4_begin_61 : decode cX4_begin 61 = .ok (.if_icmp .ge 21, 3) := by decide +kernel
theorem dX4_begin_64 : decode cX4_begin 64 = .ok (.aload_n 0, 1) := by decide +kernel
theorem dX4_begin_65 : decode cX4_begin 65 = .ok (.dup, 1) := by decide +kernel
theorem dX4_begin_66 : decode cX4_begin 66 = .ok (.getfield 18, 3) := by decide +kernel
theorem dX4_begin_69 : decode cX4_begin 69 = .ok (.ldc2_w 30, 3) := by decide +kernel
theorem dX4_begin_72 : decode cX4_begin 72 = .ok (.lmul, 1) := by decide +kernel
theorem dX4_begin_73 : decode cX4_begin 73 = .ok (.putfield 18, 3) := by decide +kernel
theorem dX4_begin_76 : decode cX4_begin 76 = .ok (.iinc 5 1, 3) := by decide +kernel
theorem dX4_begin_79 : decode cX4_begin 79 = .ok (.goto (-27), 3) := by decide +kernel
theorem dX4_begin_82 : decode cX4_begin 82 = .ok (.iinc 4 1, 3) := by decide +kernel
theorem dX4_begin_85 : decode cX4_begin 85 = .ok (.goto (-65), 3) := by decide +kernel
theorem dX4_begin_88 : decode cX4_begin 88 = .ok (.iload_n 3, 1) := by decide +kernel
theorem dX4_begin_89 : decode cX4_begin 89 = .ok (.ireturn, 1) := by decide +kernel
def f_X4_begin_L52  (c1 : Int32) (c2 : Int32) (c3 : Int32) (c4 : Int32) : Int32 × PM → Option ((Int32 × PM) ⊕ (PM)) := fun (x5 , u) =>
  if c1 ≤ x5 then
    some (.inr (u))
  else
  if (3 : Int32) ≤ x5 then
    some (.inr (u))
  else
  some (.inl (x5 + (1 : Int32), (pl u (28, 0, 0) 2 ((u.2.1 (28, 0, 0) 2) * (100 : Int64)))))
set_option maxHeartbeats 4000000 in
set_option maxRecDepth 20000 in
theorem K_X4_begin_L52 {l : Launch} {T : Option AV × List Key × AM}  {c1 : Int32} {c2 : Int32} {c3 : Int32} {c4 : Int32} : ∀ (n : Nat) (s : Int32 × PM) (e0 : PM), am_loop (f_X4_begin_L52 c1 c2 c3 c4) n s = some e0 → (fun e : PM => X l mX4_begin 1 0 0 false T kC 0 0 82 [some (vR (28, 0, 0)), some (vI c1), some (vI c2), some (vI c3), some (vI c4), none] [] (en e)) e0 → X l mX4_begin 1 0 0 false T kC 0 0 52 [some (vR (28, 0, 0)), some (vI c1), some (vI c2), some (vI c3), some (vI c4), some (vI s.1)] [] (en s.2) := by
  refine am_loop_of ?_
  intro s x hf k1 k2
  obtain ⟨x5 , u⟩ := s
  unfold f_X4_begin_L52 at hf
  show X l mX4_begin 1 0 0 false T kC 0 0 52 [some (vR (28, 0, 0)), some (vI c1), some (vI c2), some (vI c3), some (vI c4), some (vI x5)] [] (en u)
  refine r_iload (x := x5) dX4_begin_52 rfl ?_
  refine r_iload_n (x := c1) dX4_begin_54 rfl ?_
  refine r_icmp_ge (tgt := 82) dX4_begin_55 (by decide) (fun hc => ?_) (fun hc => ?_)
  · have hf := (am_if hf).1 hc
    refine r_weak (L' := [some (vR (28, 0, 0)), some (vI c1), some (vI c2), some (vI c3), some (vI c4), none]) (And.intro rfl (And.intro rfl (And.intro rfl (And.intro rfl (And.intro rfl trivial))))) ?_
    exact k2 (u) (am_inj hf).symm
  · have hf := (am_if hf).2 hc
    refine r_iload (x := x5) dX4_begin_58 rfl ?_
    refine r_iconst (v := 3) dX4_begin_60 rfl ?_
    refine r_icmp_ge (tgt := 82) dX4_begin_61 (by decide) (fun hc => ?_) (fun hc => ?_)
    · have hf := (am_if hf).1 hc
      refine r_weak (L' := [some (vR (28, 0, 0)), some (vI c1), some (vI c2), some (vI c3), some (vI c4), none]) (And.intro rfl (And.intro rfl (And.intro rfl (And.intro rfl (And.intro rfl trivial))))) ?_
      exact k2 (u) (am_inj hf).symm
    · have hf := (am_if hf).2 hc
      refine r_aload_n (x := (28, 0, 0)) dX4_begin_64 rfl ?_
      refine r_dup dX4_begin_65 rfl ?_
      refine e_getl fw_X4_18 dX4_begin_66 (kC_mem (s := 28) (by decide) (by decide) (by decide)) rfl (lt_b rfl) ?_
      refine r_ldc2 (v := 100) dX4_begin_69 cc_X4_30 ?_
      refine r_lmul dX4_begin_72 ?_
      refine e_putl fp_X4_18 dX4_begin_73 (kC_mem (s := 28) (by decide) (by decide) (by decide)) rfl (lt_b rfl) rfl ?_
      refine r_iinc (x := x5) (v := x5 + (1 : Int32)) (L' := [some (vR (28, 0, 0)), some (vI c1), some (vI c2), some (vI c3), some (vI c4), some (vI (x5 + (1 : Int32)))]) dX4_begin_76 rfl rfl (lt_b rfl) rfl ?_
      refine r_goto (tgt := 52) dX4_begin_79 (by decide) ?_
      refine r_weak (L' := [some (vR (28, 0, 0)), some (vI c1), some (vI c2), some (vI c3), some (vI c4), some (vI (x5 + (1 : Int32)))]) (And.intro rfl (And.intro rfl (And.intro rfl (And.intro rfl (And.intro rfl (And.intro rfl trivial)))))) ?_
      exact k1 (x5 + (1 : Int32), (pl u (28, 0, 0) 2 ((u.2.1 (28, 0, 0) 2) * (100 : Int64)))) (am_inj hf).symm
def f_X4_begin_L20  (c1 : Int32) (c2 : Int32) : Int32 × Int32 × PM → Option ((Int32 × Int32 × PM) ⊕ (Int32 × PM)) := fun (x3 , x4 , u) =>
  if c2 ≤ x4 then
    some (.inr (x3, u))
  else
  if (2 : Int32) ≤ x4 then
    some (.inr (x3, u))
  else
  (am_loop (f_X4_begin_L52 c1 c2 (x3 * (24 : Int32)) x4) 2000 ((0 : Int32), (pl u (28, 0, 0) 2 ((u.2.1 (28, 0, 0) 2) * (10 : Int64))))).bind fun u3 =>
  some (.inl (x3 * (24 : Int32), x4 + (1 : Int32), u3))
set_option maxHeartbeats 4000000 in
set_option maxRecDepth 20000 in
theorem K_X4_begin_L20 {l : Launch} {T : Option AV × List Key × AM}  {c1 : Int32} {c2 : Int32} : ∀ (n : Nat) (s : Int32 × Int32 × PM) (e0 : Int32 × PM), am_loop (f_X4_begin_L20 c1 c2) n s = some e0 → (fun e : Int32 × PM => X l mX4_begin 1 0 0 false T kC 0 0 88 [none, none, none, some (vI e.1), none, none] [] (en e.2)) e0 → X l mX4_begin 1 0 0 false T kC 0 0 20 [some (vR (28, 0, 0)), some (vI c1), some (vI c2), some (vI s.1), some (vI s.2.1), none] [] (en s.2.2) := by
  refine am_loop_of ?_
  intro s x hf k1 k2
  obtain ⟨x3 , x4 , u⟩ := s
  unfold f_X4_begin_L20 at hf
  show X l mX4_begin 1 0 0 false T kC 0 0 20 [some (vR (28, 0, 0)), some (vI c1), some (vI c2), some (vI x3), some (vI x4), none] [] (en u)
  refine r_iload (x := x4) dX4_begin_20 rfl ?_
  refine r_iload_n (x := c2) dX4_begin_22 rfl ?_
  refine r_icmp_ge (tgt := 88) dX4_begin_23 (by decide) (fun hc => ?_) (fun hc => ?_)
  · have hf := (am_if hf).1 hc
    refine r_weak (L' := [none, none, none, some (vI x3), none, none]) (And.intro rfl trivial) ?_
    exact k2 (x3, u) (am_inj hf).symm
  · have hf := (am_if hf).2 hc
    refine r_iload (x := x4) dX4_begin_26 rfl ?_
    refine r_iconst (v := 2) dX4_begin_28 rfl ?_
    refine r_icmp_ge (tgt := 88) dX4_begin_29 (by decide) (fun hc => ?_) (fun hc => ?_)
    · have hf := (am_if hf).1 hc
      refine r_weak (L' := [none, none, none, some (vI x3), none, none]) (And.intro rfl trivial) ?_
      exact k2 (x3, u) (am_inj hf).symm
    · have hf := (am_if hf).2 hc
      refine r_iload_n (x := x3) dX4_begin_32 rfl ?_
      refine r_bipush (v := 24) dX4_begin_33 rfl ?_
      refine r_imul dX4_begin_35 ?_
      refine r_istore_n (L' := [some (vR (28, 0, 0)), some (vI c1), some (vI c2), some (vI (x3 * (24 : Int32))), some (vI x4), none]) dX4_begin_36 (by decide) rfl ?_
      refine r_aload_n (x := (28, 0, 0)) dX4_begin_37 rfl ?_
      refine r_dup dX4_begin_38 rfl ?_
      refine e_getl fw_X4_18 dX4_begin_39 (kC_mem (s := 28) (by decide) (by decide) (by decide)) rfl (lt_b rfl) ?_
      refine r_ldc2 (v := 10) dX4_begin_42 cc_X4_28 ?_
      refine r_lmul dX4_begin_45 ?_
      refine e_putl fp_X4_18 dX4_begin_46 (kC_mem (s := 28) (by decide) (by decide) (by decide)) rfl (lt_b rfl) rfl ?_
      refine r_iconst (v := 0) dX4_begin_49 rfl ?_
      refine r_istore (L' := [some (vR (28, 0, 0)), some (vI c1), some (vI c2), some (vI (x3 * (24 : Int32))), some (vI x4), some (vI (0 : Int32))]) dX4_begin_50 (by decide) rfl ?_
      refine r_weak (L' := [some (vR (28, 0, 0)), some (vI c1), some (vI c2), some (vI (x3 * (24 : Int32))), some (vI x4), some (vI (0 : Int32))]) (And.intro rfl (And.intro rfl (And.intro rfl (And.intro rfl (And.intro rfl (And.intro rfl trivial)))))) ?_
      obtain ⟨e1, he2, hf⟩ := am_bind hf
      refine K_X4_begin_L52  2000 ((0 : Int32), (pl u (28, 0, 0) 2 ((u.2.1 (28, 0, 0) 2) * (10 : Int64)))) _ he2 ?_
      obtain ⟨u3, rfl⟩ : ∃ z, z = e1 := ⟨_, rfl⟩
      show X l _ _ 0 0 false _ kC 0 0 82 [some (vR (28, 0, 0)), some (vI c1), some (vI c2), some (vI (x3 * (24 : Int32))), some (vI x4), none] [] (en u3)
      refine r_iinc (x := x4) (v := x4 + (1 : Int32)) (L' := [some (vR (28, 0, 0)), some (vI c1), some (vI c2), some (vI (x3 * (24 : Int32))), some (vI (x4 + (1 : Int32))), none]) dX4_begin_82 rfl rfl (lt_b rfl) rfl ?_
      refine r_goto (tgt := 20) dX4_begin_85 (by decide) ?_
      refine r_weak (L' := [some (vR (28, 0, 0)), some (vI c1), some (vI c2), some (vI (x3 * (24 : Int32))), some (vI (x4 + (1 : Int32))), none]) (And.intro rfl (And.intro rfl (And.intro rfl (And.intro rfl (And.intro rfl trivial))))) ?_
      exact k1 (x3 * (24 : Int32), x4 + (1 : Int32), u3) (am_inj hf).symm
def f_X4_begin  (a0 : Int32) (a1 : Int32) (u : PM) : Option (Int32 × PM) :=
  (am_loop (f_X4_begin_L20 a0 a1) 2000 ((1 : Int32), (0 : Int32), (pl (pl (pl u (28, 0, 0) 0 (0 : Int64)) (28, 0, 0) 1 (0 : Int64)) (28, 0, 0) 2 (1 : Int64)))).bind fun (y6, u7) =>
  some (y6, u7)
set_option maxHeartbeats 4000000 in
set_option maxRecDepth 20000 in
theorem C_X4_begin {l : Launch}  {a0 : Int32} {a1 : Int32} {u : PM} {x : Int32 × PM} (hf : f_X4_begin a0 a1 u = some x) : Ev l mX4_begin 1 0 0 false [vR (28, 0, 0), vI a0, vI a1] kC (en u) (some (vI x.1), kC, en x.2) := by
  refine Ev_of (by decide +kernel) (le_b rfl) ?_
  unfold f_X4_begin at hf
  show X l mX4_begin 1 0 0 false _ kC 0 0 0 [some (vR (28, 0, 0)), some (vI a0), some (vI a1), none, none, none] [] (en u)
  refine r_aload_n (x := (28, 0, 0)) dX4_begin_0 rfl ?_
  refine r_lconst (v := 0) dX4_begin_1 rfl ?_
  refine e_putl fp_X4_11 dX4_begin_2 (kC_mem (s := 28) (by decide) (by decide) (by decide)) rfl (lt_b rfl) rfl ?_
  refine r_aload_n (x := (28, 0, 0)) dX4_begin_5 rfl ?_
  refine r_lconst (v := 0) dX4_begin_6 rfl ?_
  refine e_putl fp_X4_15 dX4_begin_7 (kC_mem (s := 28) (by decide) (by decide) (by decide)) rfl (lt_b rfl) rfl ?_
  refine r_aload_n (x := (28, 0, 0)) dX4_begin_10 rfl ?_
  refine r_lconst (v := 1) dX4_begin_11 rfl ?_
  refine e_putl fp_X4_18 dX4_begin_12 (kC_mem (s := 28) (by decide) (by decide) (by decide)) rfl (lt_b rfl) rfl ?_
  refine r_iconst (v := 1) dX4_begin_15 rfl ?_
  refine r_istore_n (L' := [some (vR (28, 0, 0)), some (vI a0), some (vI a1), some (vI (1 : Int32)), none, none]) dX4_begin_16 (by decide) rfl ?_
  refine r_iconst (v := 0) dX4_begin_17 rfl ?_
  refine r_istore (L' := [some (vR (28, 0, 0)), some (vI a0), some (vI a1), some (vI (1 : Int32)), some (vI (0 : Int32)), none]) dX4_begin_18 (by decide) rfl ?_
  refine r_weak (L' := [some (vR (28, 0, 0)), some (vI a0), some (vI a1), some (vI (1 : Int32)), some (vI (0 : Int32)), none]) (And.intro rfl (And.intro rfl (And.intro rfl (And.intro rfl (And.intro rfl trivial))))) ?_
  obtain ⟨e4, he5, hf⟩ := am_bind hf
  refine K_X4_begin_L20  2000 ((1 : Int32), (0 : Int32), (pl (pl (pl u (28, 0, 0) 0 (0 : Int64)) (28, 0, 0) 1 (0 : Int64)) (28, 0, 0) 2 (1 : Int64))) _ he5 ?_
  obtain ⟨y6, u7⟩ := e4
  show X l _ _ 0 0 false _ kC 0 0 88 [none, none, none, some (vI y6), none, none] [] (en u7)
  refine r_iload_n (x := y6) dX4_begin_88 rfl ?_
  have hx := am_inj hf
  subst hx
  exact r_iret dX4_begin_89 rfl rfl (le_b rfl) (le_b rfl)
/-! FireFromFire$Odds.shareOf -/
theorem dX4_shareOf_0 : decode cX4_shareOf 0 = .ok (.iload_n 2, 1) := by decide +kernel
theorem dX4_shareOf_1 : decode cX4_shareOf 1 = .ok (.iconst 1, 1) := by decide +kernel
theorem dX4_shareOf_2 : decode cX4_shareOf 2 = .ok (.aload_n 0, 1) := by decide +kernel
theorem dX4_shareOf_3 : decode cX4_shareOf 3 = .ok (.getfield 24, 3) := by decide +kernel
theorem dX4_shareOf_6 : decode cX4_shareOf 6 = .ok (.getfield 67, 3) := by decide +kernel
theorem dX4_shareOf_9 : decode cX4_shareOf 9 = .ok (.ishl, 1) := by decide +kernel
theorem dX4_shareOf_10 : decode cX4_shareOf 10 = .ok (.if_icmp .lt 7, 3) := by decide +kernel
theorem dX4_shareOf_13 : decode cX4_shareOf 13 = .ok (.lconst 0, 1) := by decide +kernel
theorem dX4_shareOf_14 : decode cX4_shareOf 14 = .ok (.goto 4, 3) := by decide +kernel
theorem dX4_shareOf_17 : decode cX4_shareOf 17 = .ok (.lconst 1, 1) := by decide +kernel
theorem dX4_shareOf_18 : decode cX4_shareOf 18 = .ok (.lstore_n 3, 1) := by decide +kernel
theorem dX4_shareOf_19 : decode cX4_shareOf 19 = .ok (.iconst 0, 1) := by decide +kernel
theorem dX4_shareOf_20 : decode cX4_shareOf 20 = .ok (.istore 5, 2) := by decide +kernel
theorem dX4_shareOf_22 : decode cX4_shareOf 22 = .ok (.iload 5, 2) := by decide +kernel
theorem dX4_shareOf_24 : decode cX4_shareOf 24 = .ok (.aload_n 0, 1) := by decide +kernel
theorem dX4_shareOf_25 : decode cX4_shareOf 25 = .ok (.getfield 24, 3) := by decide +kernel
theorem dX4_shareOf_28 : decode cX4_shareOf 28 = .ok (.getfield 67, 3) := by decide +kernel
theorem dX4_shareOf_31 : decode cX4_shareOf 31 = .ok (.if_icmp .ge 72, 3) := by decide +kernel
theorem dX4_shareOf_34 : decode cX4_shareOf 34 = .ok (.iload 5, 2) := by decide +kernel
theorem dX4_shareOf_36 : decode cX4_shareOf 36 = .ok (.iconst 3, 1) := by decide +kernel
theorem dX4_shareOf_37 : decode cX4_shareOf 37 = .ok (.if_icmp .ge 66, 3) := by decide +kernel
theorem dX4_shareOf_40 : decode cX4_shareOf 40 = .ok (.aload_n 0, 1) := by decide +kernel
theorem dX4_shareOf_41 : decode cX4_shareOf 41 = .ok (.getfield 24, 3) := by decide +kernel
theorem dX4_shareOf_44 : decode cX4_shareOf 44 = .ok (.getfield 70, 3) := by decide +kernel
theorem dX4_shareOf_47 : decode cX4_shareOf 47 = .ok (.iload 5, 2) := by decide +kernel
theorem dX4_shareOf_49 : decode cX4_shareOf 49 = .ok (.aaload, 1) := by decide +kernel
theorem dX4_shareOf_50 : decode cX4_shareOf 50 = .ok (.getfield 74, 3) := by decide +kernel
theorem dX4_shareOf_53 : decode cX4_shareOf 53 = .ok (.ifCond .eq 17, 3) := by decide +kernel
theorem dX4_shareOf_56 : decode cX4_shareOf 56 = .ok (.aload_n 0, 1) := by decide +kernel
theorem dX4_shareOf_57 : decode cX4_shareOf 57 = .ok (.getfield 24, 3) := by decide +kernel
theorem dX4_shareOf_60 : decode cX4_shareOf 60 = .ok (.iconst 0, 1) := by decide +kernel
theorem dX4_shareOf_61 : decode cX4_shareOf 61 = .ok (.iload 5, 2) := by decide +kernel
theorem dX4_shareOf_63 : decode cX4_shareOf 63 = .ok (.iload_n 1, 1) := by decide +kernel
theorem dX4_shareOf_64 : decode cX4_shareOf 64 = .ok (.invokevirtual 80, 3) := by decide +kernel
theorem dX4_shareOf_67 : decode cX4_shareOf 67 = .ok (.goto 4, 3) := by decide +kernel
theorem dX4_shareOf_70 : decode cX4_shareOf 70 = .ok (.iconst 0, 1) := by decide +kernel
theorem dX4_shareOf_71 : decode cX4_shareOf 71 = .ok (.istore 6, 2) := by decide +kernel
theorem dX4_shareOf_73 : decode cX4_shareOf 73 = .ok (.lload_n 3, 1) := by decide +kernel
theorem dX4_shareOf_74 : decode cX4_shareOf 74 = .ok (.iload_n 2, 1) := by decide +kernel
theorem dX4_shareOf_75 : decode cX4_shareOf 75 = .ok (.iload 5, 2) := by decide +kernel
theorem dX4_shareOf_77 : decode cX4_shareOf 77 = .ok (.ishr, 1) := by decide +kernel
theorem dX4_shareOf_78 : decode cX4_shareOf 78 = .ok (.iconst 1, 1) := by decide +kernel
theorem dX4_shareOf_79 : decode cX4_shareOf 79 = .ok (.iand, 1) := by decide +kernel
theorem dX4_shareOf_80 : decode cX4_shareOf 80 = .ok (.ifCond .eq 9, 3) := by decide +kernel
theorem dX4_shareOf_83 : decode cX4_shareOf 83 = .ok (.iload 6, 2) := by decide +kernel
theorem dX4_shareOf_85 : decode cX4_shareOf 85 = .ok (.i2l, 1) := by decide +kernel
theorem dX4_shareOf_86 : decode cX4_shareOf 86 = .ok (.goto 9, 3) := by decide +kernel
theorem dX4_shareOf_89 : decode cX4_shareOf 89 = .ok (.bipush 100, 2) := by decide +kernel
theorem dX4_shareOf_91 : decode cX4_shareOf 91 = .ok (.iload 6, 2) := by decide +kernel
theorem dX4_shareOf_93 : decode cX4_shareOf 93 = .ok (.isub, 1) := by decide +kernel
theorem dX4_shareOf_94 : decode cX4_shareOf 94 = .ok (.i2l, 1) := by decide +kernel
theorem dX4_shareOf_95 : decode cX4_shareOf 95 = .ok (.lmul, 1) := by decide +kernel
theorem dX4_shareOf_96 : decode cX4_shareOf 96 = .ok (.lstore_n 3, 1) := by decide +kernel
theorem dX4_shareOf_97 : decode cX4_shareOf 97 = .ok (.iinc 5 1, 3) := by decide +kernel
theorem dX4_shareOf_100 : decode cX4_shareOf 100 = .ok (.goto (-78), 3) := by decide +kernel
theorem dX4_shareOf_103 : decode cX4_shareOf 103 = .ok (.lload_n 3, 1) := by decide +kernel
theorem dX4_shareOf_104 : decode cX4_shareOf 104 = .ok (.lreturn, 1) := by decide +kernel
def f_X4_shareOf_L22  (c1 : Int32) (c2 : Int32) : Int64 × Int32 × PM → Option ((Int64 × Int32 × PM) ⊕ (Int64 × PM)) := fun (x3 , x5 , u) =>
  if (u.1 (1, 3, 0) 0) ≤ x5 then
    some (.inr (x3, u))
  else
  if (3 : Int32) ≤ x5 then
    some (.inr (x3, u))
  else
  if x5 < 0 ∨ 6 ≤ x5.toNatClampNeg then none else
  if (u.1 (3, 3, x5.toNatClampNeg) 1) = 0 then
    if ((c2 >>> (x5 &&& 31)) &&& (1 : Int32)) = 0 then
      some (.inl (x3 * (((100 : Int32) - (0 : Int32)).toInt64), x5 + (1 : Int32), u))
    else
    some (.inl (x3 * ((0 : Int32).toInt64), x5 + (1 : Int32), u))
  else
  (f_X8_sum 3 (0 : Int32) x5 c1 u).bind fun (r2, u4) =>
  if ((c2 >>> (x5 &&& 31)) &&& (1 : Int32)) = 0 then
    some (.inl (x3 * (((100 : Int32) - r2).toInt64), x5 + (1 : Int32), u4))
  else
  some (.inl (x3 * r2.toInt64, x5 + (1 : Int32), u4))
set_option maxHeartbeats 4000000 in
set_option maxRecDepth 20000 in
theorem K_X4_shareOf_L22 {l : Launch} {T : Option AV × List Key × AM}  {c1 : Int32} {c2 : Int32} : ∀ (n : Nat) (s : Int64 × Int32 × PM) (e0 : Int64 × PM), am_loop (f_X4_shareOf_L22 c1 c2) n s = some e0 → (fun e : Int64 × PM => X l mX4_shareOf 4 0 0 false T kC 0 0 103 [none, none, none, some (vJ e.1), none, none, none] [] (en e.2)) e0 → X l mX4_shareOf 4 0 0 false T kC 0 0 22 [some (vR (28, 0, 0)), some (vI c1), some (vI c2), some (vJ s.1), none, some (vI s.2.1), none] [] (en s.2.2) := by
  refine am_loop_of ?_
  intro s x hf k1 k2
  obtain ⟨x3 , x5 , u⟩ := s
  unfold f_X4_shareOf_L22 at hf
  show X l mX4_shareOf 4 0 0 false T kC 0 0 22 [some (vR (28, 0, 0)), some (vI c1), some (vI c2), some (vJ x3), none, some (vI x5), none] [] (en u)
  refine r_iload (x := x5) dX4_shareOf_22 rfl ?_
  refine r_aload_n (x := (28, 0, 0)) dX4_shareOf_24 rfl ?_
  refine e_getr (z := some (1, 3, 0)) fw_X4_24 dX4_shareOf_25 (kC_mem (s := 28) (by decide) (by decide) (by decide)) rfl (lt_b rfl) rfl ?_
  refine e_geti fw_X4_67 dX4_shareOf_28 (kC_mem (s := 1) (by decide) (by decide) (by decide)) rfl (lt_b rfl) ?_
  refine r_icmp_ge (tgt := 103) dX4_shareOf_31 (by decide) (fun hc => ?_) (fun hc => ?_)
  · have hf := (am_if hf).1 hc
    refine r_weak (L' := [none, none, none, some (vJ x3), none, none, none]) (And.intro rfl trivial) ?_
    exact k2 (x3, u) (am_inj hf).symm
  · have hf := (am_if hf).2 hc
    refine r_iload (x := x5) dX4_shareOf_34 rfl ?_
    refine r_iconst (v := 3) dX4_shareOf_36 rfl ?_
    refine r_icmp_ge (tgt := 103) dX4_shareOf_37 (by decide) (fun hc => ?_) (fun hc => ?_)
    · have hf := (am_if hf).1 hc
      refine r_weak (L' := [none, none, none, some (vJ x3), none, none, none]) (And.intro rfl trivial) ?_
      exact k2 (x3, u) (am_inj hf).symm
    · have hf := (am_if hf).2 hc
      refine r_aload_n (x := (28, 0, 0)) dX4_shareOf_40 rfl ?_
      refine e_getr (z := some (1, 3, 0)) fw_X4_24 dX4_shareOf_41 (kC_mem (s := 28) (by decide) (by decide) (by decide)) rfl (lt_b rfl) rfl ?_
      refine e_getr (z := some (2, 3, 0)) fw_X4_70 dX4_shareOf_44 (kC_mem (s := 1) (by decide) (by decide) (by decide)) rfl (lt_b rfl) rfl ?_
      refine r_iload (x := x5) dX4_shareOf_47 rfl ?_
      obtain ⟨h1, hf⟩ := am_nchk hf
      refine e_aald (n := x5.toNatClampNeg) (z := some (3, 3, x5.toNatClampNeg)) dX4_shareOf_49 (kC_mem (s := 2) (by decide) (by decide) (by decide)) ⟨le_b rfl, lt_b rfl⟩ h1 rfl rfl ?_
      refine e_geti fw_X4_74 dX4_shareOf_50 (kC_mem (s := 3) (by decide) (by decide) (vp_lt h1)) rfl (lt_b rfl) ?_
      refine r_if_eq (tgt := 70) dX4_shareOf_53 (by decide) (fun hc => ?_) (fun hc => ?_)
      · have hf := (am_if hf).1 hc
        refine r_iconst (v := 0) dX4_shareOf_70 rfl ?_
        refine r_istore (L' := [some (vR (28, 0, 0)), some (vI c1), some (vI c2), some (vJ x3), none, some (vI x5), some (vI (0 : Int32))]) dX4_shareOf_71 (by decide) rfl ?_
        refine r_lload_n (x := x3) dX4_shareOf_73 rfl ?_
        refine r_iload_n (x := c2) dX4_shareOf_74 rfl ?_
        refine r_iload (x := x5) dX4_shareOf_75 rfl ?_
        refine r_ishr dX4_shareOf_77 ?_
        refine r_iconst (v := 1) dX4_shareOf_78 rfl ?_
        refine r_iand dX4_shareOf_79 ?_
        refine r_if_eq (tgt := 89) dX4_shareOf_80 (by decide) (fun hc => ?_) (fun hc => ?_)
        · have hf := (am_if hf).1 hc
          refine r_bipush (v := 100) dX4_shareOf_89 rfl ?_
          refine r_iload (x := (0 : Int32)) dX4_shareOf_91 rfl ?_
          refine r_isub dX4_shareOf_93 ?_
          refine r_i2l dX4_shareOf_94 ?_
          refine r_lmul dX4_shareOf_95 ?_
          refine r_lstore_n (L' := [some (vR (28, 0, 0)), some (vI c1), some (vI c2), some (vJ (x3 * (((100 : Int32) - (0 : Int32)).toInt64))), none, some (vI x5), some (vI (0 : Int32))]) dX4_shareOf_96 (by decide) rfl ?_
          refine r_iinc (x := x5) (v := x5 + (1 : Int32)) (L' := [some (vR (28, 0, 0)), some (vI c1), some (vI c2), some (vJ (x3 * (((100 : Int32) - (0 : Int32)).toInt64))), none, some (vI (x5 + (1 : Int32))), some (vI (0 : Int32))]) dX4_shareOf_97 rfl rfl (lt_b rfl) rfl ?_
          refine r_goto (tgt := 22) dX4_shareOf_100 (by decide) ?_
          refine r_weak (L' := [some (vR (28, 0, 0)), some (vI c1), some (vI c2), some (vJ (x3 * (((100 : Int32) - (0 : Int32)).toInt64))), none, some (vI (x5 + (1 : Int32))), none]) (And.intro rfl (And.intro rfl (And.intro rfl (And.intro rfl (And.intro rfl trivial))))) ?_
          exact k1 (x3 * (((100 : Int32) - (0 : Int32)).toInt64), x5 + (1 : Int32), u) (am_inj hf).symm
        · have hf := (am_if hf).2 hc
          refine r_iload (x := (0 : Int32)) dX4_shareOf_83 rfl ?_
          refine r_i2l dX4_shareOf_85 ?_
          refine r_goto (tgt := 95) dX4_shareOf_86 (by decide) ?_
          refine r_lmul dX4_shareOf_95 ?_
          refine r_lstore_n (L' := [some (vR (28, 0, 0)), some (vI c1), some (vI c2), some (vJ (x3 * ((0 : Int32).toInt64))), none, some (vI x5), some (vI (0 : Int32))]) dX4_shareOf_96 (by decide) rfl ?_
          refine r_iinc (x := x5) (v := x5 + (1 : Int32)) (L' := [some (vR (28, 0, 0)), some (vI c1), some (vI c2), some (vJ (x3 * ((0 : Int32).toInt64))), none, some (vI (x5 + (1 : Int32))), some (vI (0 : Int32))]) dX4_shareOf_97 rfl rfl (lt_b rfl) rfl ?_
          refine r_goto (tgt := 22) dX4_shareOf_100 (by decide) ?_
          refine r_weak (L' := [some (vR (28, 0, 0)), some (vI c1), some (vI c2), some (vJ (x3 * ((0 : Int32).toInt64))), none, some (vI (x5 + (1 : Int32))), none]) (And.intro rfl (And.intro rfl (And.intro rfl (And.intro rfl (And.intro rfl trivial))))) ?_
          exact k1 (x3 * ((0 : Int32).toInt64), x5 + (1 : Int32), u) (am_inj hf).symm
      · have hf := (am_if hf).2 hc
        refine r_aload_n (x := (28, 0, 0)) dX4_shareOf_56 rfl ?_
        refine e_getr (z := some (1, 3, 0)) fw_X4_24 dX4_shareOf_57 (kC_mem (s := 28) (by decide) (by decide) (by decide)) rfl (lt_b rfl) rfl ?_
        refine r_iconst (v := 0) dX4_shareOf_60 rfl ?_
        refine r_iload (x := x5) dX4_shareOf_61 rfl ?_
        refine r_iload_n (x := c1) dX4_shareOf_63 rfl ?_
        obtain ⟨⟨r2, u4⟩, hr3, hf⟩ := am_bind hf
        refine r_callV (as := [vI (0 : Int32), vI x5, vI c1]) (st := []) (n := 3) mw_X4_80 mv_X8_sum (C_X8_sum (l := l) (by decide) hr3) (le_b rfl) dX4_shareOf_64 (kC_mem (s := 1) (by decide) (by decide) (by decide)) rfl rfl rfl (le_b rfl) (le_b rfl) (le_b rfl) ?_
        show X l _ _ 0 0 false _ kC 0 0 67 [some (vR (28, 0, 0)), some (vI c1), some (vI c2), some (vJ x3), none, some (vI x5), none] [vI r2] (en u4)
        refine r_goto (tgt := 71) dX4_shareOf_67 (by decide) ?_
        refine r_istore (L' := [some (vR (28, 0, 0)), some (vI c1), some (vI c2), some (vJ x3), none, some (vI x5), some (vI r2)]) dX4_shareOf_71 (by decide) rfl ?_
        refine r_lload_n (x := x3) dX4_shareOf_73 rfl ?_
        refine r_iload_n (x := c2) dX4_shareOf_74 rfl ?_
        refine r_iload (x := x5) dX4_shareOf_75 rfl ?_
        refine r_ishr dX4_shareOf_77 ?_
        refine r_iconst (v := 1) dX4_shareOf_78 rfl ?_
        refine r_iand dX4_shareOf_79 ?_
        refine r_if_eq (tgt := 89) dX4_shareOf_80 (by decide) (fun hc => ?_) (fun hc => ?_)
        · have hf := (am_if hf).1 hc
          refine r_bipush (v := 100) dX4_shareOf_89 rfl ?_
          refine r_iload (x := r2) dX4_shareOf_91 rfl ?_
          refine r_isub dX4_shareOf_93 ?_
          refine r_i2l dX4_shareOf_94 ?_
          refine r_lmul dX4_shareOf_95 ?_
          refine r_lstore_n (L' := [some (vR (28, 0, 0)), some (vI c1), some (vI c2), some (vJ (x3 * (((100 : Int32) - r2).toInt64))), none, some (vI x5), some (vI r2)]) dX4_shareOf_96 (by decide) rfl ?_
          refine r_iinc (x := x5) (v := x5 + (1 : Int32)) (L' := [some (vR (28, 0, 0)), some (vI c1), some (vI c2), some (vJ (x3 * (((100 : Int32) - r2).toInt64))), none, some (vI (x5 + (1 : Int32))), some (vI r2)]) dX4_shareOf_97 rfl rfl (lt_b rfl) rfl ?_
          refine r_goto (tgt := 22) dX4_shareOf_100 (by decide) ?_
          refine r_weak (L' := [some (vR (28, 0, 0)), some (vI c1), some (vI c2), some (vJ (x3 * (((100 : Int32) - r2).toInt64))), none, some (vI (x5 + (1 : Int32))), none]) (And.intro rfl (And.intro rfl (And.intro rfl (And.intro rfl (And.intro rfl trivial))))) ?_
          exact k1 (x3 * (((100 : Int32) - r2).toInt64), x5 + (1 : Int32), u4) (am_inj hf).symm
        · have hf := (am_if hf).2 hc
          refine r_iload (x := r2) dX4_shareOf_83 rfl ?_
          refine r_i2l dX4_shareOf_85 ?_
          refine r_goto (tgt := 95) dX4_shareOf_86 (by decide) ?_
          refine r_lmul dX4_shareOf_95 ?_
          refine r_lstore_n (L' := [some (vR (28, 0, 0)), some (vI c1), some (vI c2), some (vJ (x3 * r2.toInt64)), none, some (vI x5), some (vI r2)]) dX4_shareOf_96 (by decide) rfl ?_
          refine r_iinc (x := x5) (v := x5 + (1 : Int32)) (L' := [some (vR (28, 0, 0)), some (vI c1), some (vI c2), some (vJ (x3 * r2.toInt64)), none, some (vI (x5 + (1 : Int32))), some (vI r2)]) dX4_shareOf_97 rfl rfl (lt_b rfl) rfl ?_
          refine r_goto (tgt := 22) dX4_shareOf_100 (by decide) ?_
          refine r_weak (L' := [some (vR (28, 0, 0)), some (vI c1), some (vI c2), some (vJ (x3 * r2.toInt64)), none, some (vI (x5 + (1 : Int32))), none]) (And.intro rfl (And.intro rfl (And.intro rfl (And.intro rfl (And.intro rfl trivial))))) ?_
          exact k1 (x3 * r2.toInt64, x5 + (1 : Int32), u4) (am_inj hf).symm
def f_X4_shareOf  (a0 : Int32) (a1 : Int32) (u : PM) : Option (Int64 × PM) :=
  if a1 < ((1 : Int32) <<< ((u.1 (1, 3, 0) 0) &&& 31)) then
    (am_loop (f_X4_shareOf_L22 a0 a1) 2000 ((1 : Int64), (0 : Int32), u)).bind fun (y7, u8) =>
    some (y7, u8)
  else
  (am_loop (f_X4_shareOf_L22 a0 a1) 2000 ((0 : Int64), (0 : Int32), u)).bind fun (y11, u12) =>
  some (y11, u12)
set_option maxHeartbeats 4000000 in
set_option maxRecDepth 20000 in
theorem C_X4_shareOf {l : Launch}  {a0 : Int32} {a1 : Int32} {u : PM} {x : Int64 × PM} (hf : f_X4_shareOf a0 a1 u = some x) : Ev l mX4_shareOf 4 0 0 false [vR (28, 0, 0), vI a0, vI a1] kC (en u) (some (vJ x.1), kC, en x.2) := by
  refine Ev_of (by decide +kernel) (le_b rfl) ?_
  unfold f_X4_shareOf at hf
  show X l mX4_shareOf 4 0 0 false _ kC 0 0 0 [some (vR (28, 0, 0)), some (vI a0), some (vI a1), none, none, none, none] [] (en u)
  refine r_iload_n (x := a1) dX4_shareOf_0 rfl ?_
  refine r_iconst (v := 1) dX4_shareOf_1 rfl ?_
  refine r_aload_n (x := (28, 0, 0)) dX4_shareOf_2 rfl ?_
  refine e_getr (z := some (1, 3, 0)) fw_X4_24 dX4_shareOf_3 (kC_mem (s := 28) (by decide) (by decide) (by decide)) rfl (lt_b rfl) rfl ?_
  refine e_geti fw_X4_67 dX4_shareOf_6 (kC_mem (s := 1) (by decide) (by decide) (by decide)) rfl (lt_b rfl) ?_
  refine r_ishl dX4_shareOf_9 ?_
  refine r_icmp_lt (tgt := 17) dX4_shareOf_10 (by decide) (fun hc => ?_) (fun hc => ?_)
  · have hf := (am_if hf).1 hc
    refine r_lconst (v := 1) dX4_shareOf_17 rfl ?_
    refine r_lstore_n (L' := [some (vR (28, 0, 0)), some (vI a0), some (vI a1), some (vJ (1 : Int64)), none, none, none]) dX4_shareOf_18 (by decide) rfl ?_
    refine r_iconst (v := 0) dX4_shareOf_19 rfl ?_
    refine r_istore (L' := [some (vR (28, 0, 0)), some (vI a0), some (vI a1), some (vJ (1 : Int64)), none, some (vI (0 : Int32)), none]) dX4_shareOf_20 (by decide) rfl ?_
    refine r_weak (L' := [some (vR (28, 0, 0)), some (vI a0), some (vI a1), some (vJ (1 : Int64)), none, some (vI (0 : Int32)), none]) (And.intro rfl (And.intro rfl (And.intro rfl (And.intro rfl (And.intro rfl trivial))))) ?_
    obtain ⟨e5, he6, hf⟩ := am_bind hf
    refine K_X4_shareOf_L22  2000 ((1 : Int64), (0 : Int32), u) _ he6 ?_
    obtain ⟨y7, u8⟩ := e5
    show X l _ _ 0 0 false _ kC 0 0 103 [none, none, none, some (vJ y7), none, none, none] [] (en u8)
    refine r_lload_n (x := y7) dX4_shareOf_103 rfl ?_
    have hx := am_inj hf
    subst hx
    exact r_lret dX4_shareOf_104 rfl (le_b rfl) (le_b rfl)
  · have hf := (am_if hf).2 hc
    refine r_lconst (v := 0) dX4_shareOf_13 rfl ?_
    refine r_goto (tgt := 18) dX4_shareOf_14 (by decide) ?_
    refine r_lstore_n (L' := [some (vR (28, 0, 0)), some (vI a0), some (vI a1), some (vJ (0 : Int64)), none, none, none]) dX4_shareOf_18 (by decide) rfl ?_
    refine r_iconst (v := 0) dX4_shareOf_19 rfl ?_
    refine r_istore (L' := [some (vR (28, 0, 0)), some (vI a0), some (vI a1), some (vJ (0 : Int64)), none, some (vI (0 : Int32)), none]) dX4_shareOf_20 (by decide) rfl ?_
    refine r_weak (L' := [some (vR (28, 0, 0)), some (vI a0), some (vI a1), some (vJ (0 : Int64)), none, some (vI (0 : Int32)), none]) (And.intro rfl (And.intro rfl (And.intro rfl (And.intro rfl (And.intro rfl trivial))))) ?_
    obtain ⟨e9, he10, hf⟩ := am_bind hf
    refine K_X4_shareOf_L22  2000 ((0 : Int64), (0 : Int32), u) _ he10 ?_
    obtain ⟨y11, u12⟩ := e9
    show X l _ _ 0 0 false _ kC 0 0 103 [none, none, none, some (vJ y11), none, none, none] [] (en u12)
    refine r_lload_n (x := y11) dX4_shareOf_103 rfl ?_
    have hx := am_inj hf
    subst hx
    exact r_lret dX4_shareOf_104 rfl (le_b rfl) (le_b rfl)
/-! FireFromFire$Odds.follow -/
theorem dX4_follow_0 : decode cX4_follow 0 = .ok (.aload_n 0, 1) := by decide +kernel
theorem dX4_follow_1 : decode cX4_follow 1 = .ok (.getfield 24, 3) := by decide +kernel
theorem dX4_follow_4 : decode cX4_follow 4 = .ok (.aload_n 2, 1) := by decide +kernel
theorem dX4_follow_5 : decode cX4_follow 5 = .ok (.invokevirtual 32, 3) := by decide +kernel
theorem dX4_follow_8 : decode cX4_follow 8 = .ok (.lconst 1, 1) := by decide +kernel
theorem dX4_follow_9 : decode cX4_follow 9 = .ok (.lstore 5, 2) := by decide +kernel
theorem dX4_follow_11 : decode cX4_follow 11 = .ok (.iload 4, 2) := by decide +kernel
theorem dX4_follow_13 : decode cX4_follow 13 = .ok (.istore 7, 2) := by decide +kernel
theorem dX4_follow_15 : decode cX4_follow 15 = .ok (.aload_n 1, 1) := by decide +kernel
theorem dX4_follow_16 : decode cX4_follow 16 = .ok (.invokevirtual 36, 3) := by decide +kernel
theorem dX4_follow_19 : decode cX4_follow 19 = .ok (.iconst 0, 1) := by decide +kernel
theorem dX4_follow_20 : decode cX4_follow 20 = .ok (.istore 8, 2) := by decide +kernel
theorem dX4_follow_22 : decode cX4_follow 22 = .ok (.iload 8, 2) := by decide +kernel
theorem dX4_follow_24 : decode cX4_follow 24 = .ok (.iload_n 3, 1) := by decide +kernel
theorem dX4_follow_25 : decode cX4_follow 25 = .ok (.if_icmp .ge 100, 3) := by decide +kernel
theorem dX4_follow_28 : decode cX4_follow 28 = .ok (.iload 8, 2) := by decide +kernel
theorem dX4_follow_30 : decode cX4_follow 30 = .ok (.iconst 2, 1) := by decide +kernel
theorem dX4_follow_31 : decode cX4_follow 31 = .ok (.if_icmp .ge 94, 3) := by decide +kernel
theorem dX4_follow_34 : decode cX4_follow 34 = .ok (.iload 7, 2) := by decide +kernel
theorem dX4_follow_36 : decode cX4_follow 36 = .ok (.bipush 24, 2) := by decide +kernel
theorem dX4_follow_38 : decode cX4_follow 38 = .ok (.irem, 1) := by decide +kernel
theorem dX4_follow_39 : decode cX4_follow 39 = .ok (.bipush 8, 2) := by decide +kernel
theorem dX4_follow_41 : decode cX4_follow 41 = .ok (.idiv, 1) := by decide +kernel
theorem dX4_follow_42 : decode cX4_follow 42 = .ok (.istore 9, 2) := by decide +kernel
theorem dX4_follow_44 : decode cX4_follow 44 = .ok (.iload 7, 2) := by decide +kernel
theorem dX4_follow_46 : decode cX4_follow 46 = .ok (.bipush 8, 2) := by decide +kernel
theorem dX4_follow_48 : decode cX4_follow 48 = .ok (.irem, 1) := by decide +kernel
theorem dX4_follow_49 : decode cX4_follow 49 = .ok (.istore 10, 2) := by decide +kernel
theorem dX4_follow_51 : decode cX4_follow 51 = .ok (.iload 7, 2) := by decide +kernel
theorem dX4_follow_53 : decode cX4_follow 53 = .ok (.bipush 24, 2) := by decide +kernel
theorem dX4_follow_55 : decode cX4_follow 55 = .ok (.idiv, 1) := by decide +kernel
theorem dX4_follow_56 : decode cX4_follow 56 = .ok (.istore 7, 2) := by decide +kernel
theorem dX4_follow_58 : decode cX4_follow 58 = .ok (.lload 5, 2) := by decide +kernel
theorem dX4_follow_60 : decode cX4_follow 60 = .ok (.aload_n 0, 1) := by decide +kernel
theorem dX4_follow_61 : decode cX4_follow 61 = .ok (.getfield 24, 3) := by decide +kernel
theorem dX4_follow_64 : decode cX4_follow 64 = .ok (.aload_n 0, 1) := by decide +kernel
theorem dX4_follow_65 : decode cX4_follow 65 = .ok (.getfield 24, 3) := by decide +kernel
theorem dX4_follow_68 : decode cX4_follow 68 = .ok (.getfield 41, 3) := by decide +kernel
theorem dX4_follow_71 : decode cX4_follow 71 = .ok (.iload 9, 2) := by decide +kernel
theorem dX4_follow_73 : decode cX4_follow 73 = .ok (.invokevirtual 45, 3) := by decide +kernel
theorem dX4_follow_76 : decode cX4_follow 76 = .ok (.i2l, 1) := by decide +kernel
theorem dX4_follow_77 : decode cX4_follow 77 = .ok (.aload_n 0, 1) := by decide +kernel
theorem dX4_follow_78 : decode cX4_follow 78 = .ok (.iload 9, 2) := by decide +kernel
theorem dX4_follow_80 : decode cX4_follow 80 = .ok (.iload 10, 2) := by decide +kernel
theorem dX4_follow_82 : decode cX4_follow 82 = .ok (.invokevirtual 49, 3) := by decide +kernel
theorem dX4_follow_85 : decode cX4_follow 85 = .ok (.lmul, 1) := by decide +kernel
theorem dX4_follow_86 : decode cX4_follow 86 = .ok (.lmul, 1) := by decide +kernel
theorem dX4_follow_87 : decode cX4_follow 87 = .ok (.lstore 5, 2) := by decide +kernel
theorem dX4_follow_89 : decode cX4_follow 89 = .ok (.lload 5, 2) := by decide +kernel
theorem dX4_follow_91 : decode cX4_follow 91 = .ok (.lconst 0, 1) := by decide +kernel
theorem dX4_follow_92 : decode cX4_follow 92 = .ok (.lcmp, 1) := by decide +kernel
theorem dX4_follow_93 : decode cX4_follow 93 = .ok (.ifCond .ne 4, 3) := by decide +kernel
theorem dX4_follow_96 : decode cX4_follow 96 = .ok (.return_, 1) := by decide +kernel
theorem dX4_follow_97 : decode cX4_follow 97 = .ok (.aload_n 1, 1) := by decide +kernel
theorem dX4_follow_98 : decode cX4_follow 98 = .ok (.aload_n 0, 1) := by decide +kernel
theorem dX4_follow_99 : decode cX4_follow 99 = .ok (.getfield 24, 3) := by decide +kernel
theorem dX4_follow_102 : decode cX4_follow 102 = .ok (.iload 9, 2) := by decide +kernel
theorem dX4_follow_104 : decode cX4_follow 104 = .ok (.invokevirtual 53, 3) := by decide +kernel
theorem dX4_follow_107 : decode cX4_follow 107 = .ok (.aload_n 1, 1) := by decide +kernel
theorem dX4_follow_108 : decode cX4_follow 108 = .ok (.aload_n 0, 1) := by decide +kernel
theorem dX4_follow_109 : decode cX4_follow 109 = .ok (.getfield 24, 3) := by decide +kernel
theorem dX4_follow_112 : decode cX4_follow 112 = .ok (.iload 9, 2) := by decide +kernel
theorem dX4_follow_114 : decode cX4_follow 114 = .ok (.iload 10, 2) := by decide +kernel
theorem dX4_follow_116 : decode cX4_follow 116 = .ok (.invokevirtual 57, 3) := by decide +kernel
theorem dX4_follow_119 : decode cX4_follow 119 = .ok (.iinc 8 1, 3) := by decide +kernel
theorem dX4_follow_122 : decode cX4_follow 122 = .ok (.goto (-100), 3) := by decide +kernel
theorem dX4_follow_125 : decode cX4_follow 125 = .ok (.aload_n 0, 1) := by decide +kernel
theorem dX4_follow_126 : decode cX4_follow 126 = .ok (.dup, 1) := by decide +kernel
theorem dX4_follow_127 : decode cX4_follow 127 = .ok (.getfield 15, 3) := by decide +kernel
theorem dX4_follow_130 : decode cX4_follow 130 = .ok (.lload 5, 2) := by decide +kernel
theorem dX4_follow_132 : decode cX4_follow 132 = .ok (.aload_n 1, 1) := by decide +kernel
theorem dX4_follow_133 : decode cX4_follow 133 = .ok (.getfield 61, 3) := by decide +kernel
theorem dX4_follow_136 : decode cX4_follow 136 = .ok (.i2l, 1) := by decide +kernel
theorem dX4_follow_137 : decode cX4_follow 137 = .ok (.lmul, 1) := by decide +kernel
theorem dX4_follow_138 : decode cX4_follow 138 = .ok (.ladd, 1) := by decide +kernel
theorem dX4_follow_139 : decode cX4_follow 139 = .ok (.putfield 15, 3) := by decide +kernel
theorem dX4_follow_142 : decode cX4_follow 142 = .ok (.aload_n 0, 1) := by decide +kernel
theorem dX4_follow_143 : decode cX4_follow 143 = .ok (.getfield 24, 3) := by decide +kernel
theorem dX4_follow_146 : decode cX4_follow 146 = .ok (.invokevirtual 63, 3) := by decide +kernel
theorem dX4_follow_149 : decode cX4_follow 149 = .ok (.ifCond .ne 14, 3) := by decide +kernel
theorem dX4_follow_152 : decode cX4_follow 152 = .ok (.aload_n 0, 1) := by decide +kernel
theorem dX4_follow_153 : decode cX4_follow 153 = .ok (.dup, 1) := by decide +kernel
theorem dX4_follow_154 : decode cX4_follow 154 = .ok (.getfield 11, 3) := by decide +kernel
theorem dX4_follow_157 : decode cX4_follow 157 = .ok (.lload 5, 2) := by decide +kernel
theorem dX4_follow_159 : decode cX4_follow 159 = .ok (.ladd, 1) := by decide +kernel
theorem dX4_follow_160 : decode cX4_follow 160 = .ok (.putfield 11, 3) := by decide +kernel
theorem dX4_follow_163 : decode cX4_follow 163 = .ok (.return_, 1) := by decide +kernel
def f_X4_follow_L22  (c3 : Int32) : Int64 × Int32 × Int32 × PM → Option ((Int64 × Int32 × Int32 × PM) ⊕ ((PM) ⊕ (Int64 × PM))) := fun (x5 , x7 , x8 , u) =>
  if c3 ≤ x8 then
    some (.inr (.inr (x5, u)))
  else
  if (2 : Int32) ≤ x8 then
    some (.inr (.inr (x5, u)))
  else
  (f_X8_tenthsOf 3 (u.1 (1, 3, 0) 3) ((x7 - x7 / (24 : Int32) * (24 : Int32)) / (8 : Int32)) u).bind fun r5 =>
  (f_X4_shareOf ((x7 - x7 / (24 : Int32) * (24 : Int32)) / (8 : Int32)) (x7 - x7 / (8 : Int32) * (8 : Int32)) u).bind fun (r7, u9) =>
  if (lg_cmp (x5 * (r5.toInt64 * r7)) (0 : Int64)) = 0 then
    some (.inr (.inl u9))
  else
  (f_X1_weigh 3 ((x7 - x7 / (24 : Int32) * (24 : Int32)) / (8 : Int32)) u9).bind fun r10 =>
  (f_X1_pass 3 ((x7 - x7 / (24 : Int32) * (24 : Int32)) / (8 : Int32)) (x7 - x7 / (8 : Int32) * (8 : Int32)) r10).bind fun r12 =>
  some (.inl (x5 * (r5.toInt64 * r7), x7 / (24 : Int32), x8 + (1 : Int32), r12))
set_option maxHeartbeats 4000000 in
set_option maxRecDepth 20000 in
theorem K_X4_follow_L22 {l : Launch} {T : Option AV × List Key × AM}  {c3 : Int32} : ∀ (n : Nat) (s : Int64 × Int32 × Int32 × PM) (e0 : (PM) ⊕ (Int64 × PM)), am_loop (f_X4_follow_L22 c3) n s = some e0 → Sum.elim (fun r : PM => T = (none, kC, en r)) (fun e : Int64 × PM => X l mX4_follow 7 0 0 false T kC 0 0 125 [some (vR (28, 0, 0)), some (vR (20, 0, 0)), none, none, none, some (vJ e.1), none, none, none, none, none] [] (en e.2)) e0 → X l mX4_follow 7 0 0 false T kC 0 0 22 [some (vR (28, 0, 0)), some (vR (20, 0, 0)), none, some (vI c3), none, some (vJ s.1), none, some (vI s.2.1), some (vI s.2.2.1), none, none] [] (en s.2.2.2) := by
  refine am_loop_of ?_
  intro s x hf k1 k2
  obtain ⟨x5 , x7 , x8 , u⟩ := s
  unfold f_X4_follow_L22 at hf
  show X l mX4_follow 7 0 0 false T kC 0 0 22 [some (vR (28, 0, 0)), some (vR (20, 0, 0)), none, some (vI c3), none, some (vJ x5), none, some (vI x7), some (vI x8), none, none] [] (en u)
  refine r_iload (x := x8) dX4_follow_22 rfl ?_
  refine r_iload_n (x := c3) dX4_follow_24 rfl ?_
  refine r_icmp_ge (tgt := 125) dX4_follow_25 (by decide) (fun hc => ?_) (fun hc => ?_)
  · have hf := (am_if hf).1 hc
    refine r_weak (L' := [some (vR (28, 0, 0)), some (vR (20, 0, 0)), none, none, none, some (vJ x5), none, none, none, none, none]) (And.intro rfl (And.intro rfl (And.intro rfl trivial))) ?_
    exact k2 (.inr (x5, u)) (am_inj hf).symm
  · have hf := (am_if hf).2 hc
    refine r_iload (x := x8) dX4_follow_28 rfl ?_
    refine r_iconst (v := 2) dX4_follow_30 rfl ?_
    refine r_icmp_ge (tgt := 125) dX4_follow_31 (by decide) (fun hc => ?_) (fun hc => ?_)
    · have hf := (am_if hf).1 hc
      refine r_weak (L' := [some (vR (28, 0, 0)), some (vR (20, 0, 0)), none, none, none, some (vJ x5), none, none, none, none, none]) (And.intro rfl (And.intro rfl (And.intro rfl trivial))) ?_
      exact k2 (.inr (x5, u)) (am_inj hf).symm
    · have hf := (am_if hf).2 hc
      refine r_iload (x := x7) dX4_follow_34 rfl ?_
      refine r_bipush (v := 24) dX4_follow_36 rfl ?_
      refine r_irem dX4_follow_38 (by decide) ?_
      refine r_bipush (v := 8) dX4_follow_39 rfl ?_
      refine r_idiv dX4_follow_41 (by decide) ?_
      refine r_istore (L' := [some (vR (28, 0, 0)), some (vR (20, 0, 0)), none, some (vI c3), none, some (vJ x5), none, some (vI x7), some (vI x8), some (vI ((x7 - x7 / (24 : Int32) * (24 : Int32)) / (8 : Int32))), none]) dX4_follow_42 (by decide) rfl ?_
      refine r_iload (x := x7) dX4_follow_44 rfl ?_
      refine r_bipush (v := 8) dX4_follow_46 rfl ?_
      refine r_irem dX4_follow_48 (by decide) ?_
      refine r_istore (L' := [some (vR (28, 0, 0)), some (vR (20, 0, 0)), none, some (vI c3), none, some (vJ x5), none, some (vI x7), some (vI x8), some (vI ((x7 - x7 / (24 : Int32) * (24 : Int32)) / (8 : Int32))), some (vI (x7 - x7 / (8 : Int32) * (8 : Int32)))]) dX4_follow_49 (by decide) rfl ?_
      refine r_iload (x := x7) dX4_follow_51 rfl ?_
      refine r_bipush (v := 24) dX4_follow_53 rfl ?_
      refine r_idiv dX4_follow_55 (by decide) ?_
      refine r_istore (L' := [some (vR (28, 0, 0)), some (vR (20, 0, 0)), none, some (vI c3), none, some (vJ x5), none, some (vI (x7 / (24 : Int32))), some (vI x8), some (vI ((x7 - x7 / (24 : Int32) * (24 : Int32)) / (8 : Int32))), some (vI (x7 - x7 / (8 : Int32) * (8 : Int32)))]) dX4_follow_56 (by decide) rfl ?_
      refine r_lload (x := x5) dX4_follow_58 rfl ?_
      refine r_aload_n (x := (28, 0, 0)) dX4_follow_60 rfl ?_
      refine e_getr (z := some (1, 3, 0)) fw_X4_24 dX4_follow_61 (kC_mem (s := 28) (by decide) (by decide) (by decide)) rfl (lt_b rfl) rfl ?_
      refine r_aload_n (x := (28, 0, 0)) dX4_follow_64 rfl ?_
      refine e_getr (z := some (1, 3, 0)) fw_X4_24 dX4_follow_65 (kC_mem (s := 28) (by decide) (by decide) (by decide)) rfl (lt_b rfl) rfl ?_
      refine e_geti fw_X4_41 dX4_follow_68 (kC_mem (s := 1) (by decide) (by decide) (by decide)) rfl (lt_b rfl) ?_
      refine r_iload (x := (x7 - x7 / (24 : Int32) * (24 : Int32)) / (8 : Int32)) dX4_follow_71 rfl ?_
      obtain ⟨r5, hr6, hf⟩ := am_bind hf
      refine r_callV (as := [vI (u.1 (1, 3, 0) 3), vI ((x7 - x7 / (24 : Int32) * (24 : Int32)) / (8 : Int32))]) (st := [vJ x5]) (n := 2) mw_X4_45 mv_X8_tenthsOf (C_X8_tenthsOf (l := l) (by decide) hr6) (le_b rfl) dX4_follow_73 (kC_mem (s := 1) (by decide) (by decide) (by decide)) rfl rfl rfl (le_b rfl) (le_b rfl) (le_b rfl) ?_
      show X l _ _ 0 0 false _ kC 0 0 76 [some (vR (28, 0, 0)), some (vR (20, 0, 0)), none, some (vI c3), none, some (vJ x5), none, some (vI (x7 / (24 : Int32))), some (vI x8), some (vI ((x7 - x7 / (24 : Int32) * (24 : Int32)) / (8 : Int32))), some (vI (x7 - x7 / (8 : Int32) * (8 : Int32)))] [vI r5, vJ x5] (en u)
      refine r_i2l dX4_follow_76 ?_
      refine r_aload_n (x := (28, 0, 0)) dX4_follow_77 rfl ?_
      refine r_iload (x := (x7 - x7 / (24 : Int32) * (24 : Int32)) / (8 : Int32)) dX4_follow_78 rfl ?_
      refine r_iload (x := x7 - x7 / (8 : Int32) * (8 : Int32)) dX4_follow_80 rfl ?_
      obtain ⟨⟨r7, u9⟩, hr8, hf⟩ := am_bind hf
      refine r_callV (as := [vI ((x7 - x7 / (24 : Int32) * (24 : Int32)) / (8 : Int32)), vI (x7 - x7 / (8 : Int32) * (8 : Int32))]) (st := [vJ r5.toInt64, vJ x5]) (n := 2) mw_X4_49 mv_X4_shareOf (C_X4_shareOf (l := l) hr8) (le_b rfl) dX4_follow_82 (kC_mem (s := 28) (by decide) (by decide) (by decide)) rfl rfl rfl (le_b rfl) (le_b rfl) (le_b rfl) ?_
      show X l _ _ 0 0 false _ kC 0 0 85 [some (vR (28, 0, 0)), some (vR (20, 0, 0)), none, some (vI c3), none, some (vJ x5), none, some (vI (x7 / (24 : Int32))), some (vI x8), some (vI ((x7 - x7 / (24 : Int32) * (24 : Int32)) / (8 : Int32))), some (vI (x7 - x7 / (8 : Int32) * (8 : Int32)))] [vJ r7, vJ r5.toInt64, vJ x5] (en u9)
      refine r_lmul dX4_follow_85 ?_
      refine r_lmul dX4_follow_86 ?_
      refine r_lstore (L' := [some (vR (28, 0, 0)), some (vR (20, 0, 0)), none, some (vI c3), none, some (vJ (x5 * (r5.toInt64 * r7))), none, some (vI (x7 / (24 : Int32))), some (vI x8), some (vI ((x7 - x7 / (24 : Int32) * (24 : Int32)) / (8 : Int32))), some (vI (x7 - x7 / (8 : Int32) * (8 : Int32)))]) dX4_follow_87 (by decide) rfl ?_
      refine r_lload (x := x5 * (r5.toInt64 * r7)) dX4_follow_89 rfl ?_
      refine r_lconst (v := 0) dX4_follow_91 rfl ?_
      refine r_lcmp dX4_follow_92 ?_
      refine r_if_ne (tgt := 97) dX4_follow_93 (by decide) (fun hc => ?_) (fun hc => ?_)
      · have hf := (am_if hf).2 hc
        refine r_aload_n (x := (20, 0, 0)) dX4_follow_97 rfl ?_
        refine r_aload_n (x := (28, 0, 0)) dX4_follow_98 rfl ?_
        refine e_getr (z := some (1, 3, 0)) fw_X4_24 dX4_follow_99 (kC_mem (s := 28) (by decide) (by decide) (by decide)) rfl (lt_b rfl) rfl ?_
        refine r_iload (x := (x7 - x7 / (24 : Int32) * (24 : Int32)) / (8 : Int32)) dX4_follow_102 rfl ?_
        obtain ⟨r10, hr11, hf⟩ := am_bind hf
        refine r_callV (as := [vR (1, 3, 0), vI ((x7 - x7 / (24 : Int32) * (24 : Int32)) / (8 : Int32))]) (st := []) (n := 2) mw_X4_53 mv_X1_weigh (C_X1_weigh (l := l) (by decide) hr11) (le_b rfl) dX4_follow_104 (kC_mem (s := 20) (by decide) (by decide) (by decide)) rfl rfl rfl (le_b rfl) (le_b rfl) (le_b rfl) ?_
        show X l _ _ 0 0 false _ kC 0 0 107 [some (vR (28, 0, 0)), some (vR (20, 0, 0)), none, some (vI c3), none, some (vJ (x5 * (r5.toInt64 * r7))), none, some (vI (x7 / (24 : Int32))), some (vI x8), some (vI ((x7 - x7 / (24 : Int32) * (24 : Int32)) / (8 : Int32))), some (vI (x7 - x7 / (8 : Int32) * (8 : Int32)))] [] (en r10)
        refine r_aload_n (x := (20, 0, 0)) dX4_follow_107 rfl ?_
        refine r_aload_n (x := (28, 0, 0)) dX4_follow_108 rfl ?_
        refine e_getr (z := some (1, 3, 0)) fw_X4_24 dX4_follow_109 (kC_mem (s := 28) (by decide) (by decide) (by decide)) rfl (lt_b rfl) rfl ?_
        refine r_iload (x := (x7 - x7 / (24 : Int32) * (24 : Int32)) / (8 : Int32)) dX4_follow_112 rfl ?_
        refine r_iload (x := x7 - x7 / (8 : Int32) * (8 : Int32)) dX4_follow_114 rfl ?_
        obtain ⟨r12, hr13, hf⟩ := am_bind hf
        refine r_callV (as := [vR (1, 3, 0), vI ((x7 - x7 / (24 : Int32) * (24 : Int32)) / (8 : Int32)), vI (x7 - x7 / (8 : Int32) * (8 : Int32))]) (st := []) (n := 3) mw_X4_57 mv_X1_pass (C_X1_pass (l := l) (by decide) hr13) (le_b rfl) dX4_follow_116 (kC_mem (s := 20) (by decide) (by decide) (by decide)) rfl rfl rfl (le_b rfl) (le_b rfl) (le_b rfl) ?_
        show X l _ _ 0 0 false _ kC 0 0 119 [some (vR (28, 0, 0)), some (vR (20, 0, 0)), none, some (vI c3), none, some (vJ (x5 * (r5.toInt64 * r7))), none, some (vI (x7 / (24 : Int32))), some (vI x8), some (vI ((x7 - x7 / (24 : Int32) * (24 : Int32)) / (8 : Int32))), some (vI (x7 - x7 / (8 : Int32) * (8 : Int32)))] [] (en r12)
        refine r_iinc (x := x8) (v := x8 + (1 : Int32)) (L' := [some (vR (28, 0, 0)), some (vR (20, 0, 0)), none, some (vI c3), none, some (vJ (x5 * (r5.toInt64 * r7))), none, some (vI (x7 / (24 : Int32))), some (vI (x8 + (1 : Int32))), some (vI ((x7 - x7 / (24 : Int32) * (24 : Int32)) / (8 : Int32))), some (vI (x7 - x7 / (8 : Int32) * (8 : Int32)))]) dX4_follow_119 rfl rfl (lt_b rfl) rfl ?_
        refine r_goto (tgt := 22) dX4_follow_122 (by decide) ?_
        refine r_weak (L' := [some (vR (28, 0, 0)), some (vR (20, 0, 0)), none, some (vI c3), none, some (vJ (x5 * (r5.toInt64 * r7))), none, some (vI (x7 / (24 : Int32))), some (vI (x8 + (1 : Int32))), none, none]) (And.intro rfl (And.intro rfl (And.intro rfl (And.intro rfl (And.intro rfl (And.intro rfl trivial)))))) ?_
        exact k1 (x5 * (r5.toInt64 * r7), x7 / (24 : Int32), x8 + (1 : Int32), r12) (am_inj hf).symm
      · have hf := (am_if hf).1 hc
        have hT := k2 _ (am_inj hf).symm
        replace hT : T = (none, kC, en u9) := hT
        subst hT
        exact r_vret dX4_follow_96 rfl (le_b rfl) (le_b rfl)
def f_X4_follow (w : Nat) (a2 : Int32) (a3 : Int32) (u : PM) : Option (PM) :=
  (f_X8_copy 3 w u).bind fun r1 =>
  (f_X1_begin r1).bind fun r3 =>
  (am_loop (f_X4_follow_L22 a2) 2000 ((1 : Int64), a3, (0 : Int32), r3)).bind fun e14 =>
  match e14 with
  | .inl q20 => some q20
  | .inr (y16, u17) =>
    (f_X8_litCount 3 (pl u17 (28, 0, 0) 1 ((u17.2.1 (28, 0, 0) 1) + (y16 * ((u17.1 (20, 0, 0) 0).toInt64))))).bind fun r18 =>
    if r18 = 0 then
      some (pl (pl u17 (28, 0, 0) 1 ((u17.2.1 (28, 0, 0) 1) + (y16 * ((u17.1 (20, 0, 0) 0).toInt64)))) (28, 0, 0) 0 ((u17.2.1 (28, 0, 0) 0) + y16))
    else
    some (pl u17 (28, 0, 0) 1 ((u17.2.1 (28, 0, 0) 1) + (y16 * ((u17.1 (20, 0, 0) 0).toInt64))))
set_option maxHeartbeats 4000000 in
set_option maxRecDepth 20000 in
theorem C_X4_follow {l : Launch} {w : Nat} (hw : w < 4) {a2 : Int32} {a3 : Int32} {u : PM} {x : PM} (hf : f_X4_follow w a2 a3 u = some x) : Ev l mX4_follow 7 0 0 false [vR (28, 0, 0), vR (20, 0, 0), vR (1, w, 0), vI a2, vI a3] kC (en u) (none, kC, en x) := by
  refine Ev_of (by decide +kernel) (le_b rfl) ?_
  unfold f_X4_follow at hf
  show X l mX4_follow 7 0 0 false _ kC 0 0 0 [some (vR (28, 0, 0)), some (vR (20, 0, 0)), some (vR (1, w, 0)), some (vI a2), some (vI a3), none, none, none, none, none, none] [] (en u)
  refine r_aload_n (x := (28, 0, 0)) dX4_follow_0 rfl ?_
  refine e_getr (z := some (1, 3, 0)) fw_X4_24 dX4_follow_1 (kC_mem (s := 28) (by decide) (by decide) (by decide)) rfl (lt_b rfl) rfl ?_
  refine r_aload_n (x := (1, w, 0)) dX4_follow_4 rfl ?_
  obtain ⟨r1, hr2, hf⟩ := am_bind hf
  refine r_callV (as := [vR (1, w, 0)]) (st := []) (n := 1) mw_X4_32 mv_X8_copy (C_X8_copy (l := l) (by decide) hw hr2) (le_b rfl) dX4_follow_5 (kC_mem (s := 1) (by decide) (by decide) (by decide)) rfl rfl rfl (le_b rfl) (le_b rfl) (le_b rfl) ?_
  show X l _ _ 0 0 false _ kC 0 0 8 [some (vR (28, 0, 0)), some (vR (20, 0, 0)), some (vR (1, w, 0)), some (vI a2), some (vI a3), none, none, none, none, none, none] [] (en r1)
  refine r_lconst (v := 1) dX4_follow_8 rfl ?_
  refine r_lstore (L' := [some (vR (28, 0, 0)), some (vR (20, 0, 0)), some (vR (1, w, 0)), some (vI a2), some (vI a3), some (vJ (1 : Int64)), none, none, none, none, none]) dX4_follow_9 (by decide) rfl ?_
  refine r_iload (x := a3) dX4_follow_11 rfl ?_
  refine r_istore (L' := [some (vR (28, 0, 0)), some (vR (20, 0, 0)), some (vR (1, w, 0)), some (vI a2), some (vI a3), some (vJ (1 : Int64)), none, some (vI a3), none, none, none]) dX4_follow_13 (by decide) rfl ?_
  refine r_aload_n (x := (20, 0, 0)) dX4_follow_15 rfl ?_
  obtain ⟨r3, hr4, hf⟩ := am_bind hf
  refine r_callV (as := []) (st := []) (n := 0) mw_X4_36 mv_X1_begin (C_X1_begin (l := l) hr4) (le_b rfl) dX4_follow_16 (kC_mem (s := 20) (by decide) (by decide) (by decide)) rfl rfl rfl (le_b rfl) (le_b rfl) (le_b rfl) ?_
  show X l _ _ 0 0 false _ kC 0 0 19 [some (vR (28, 0, 0)), some (vR (20, 0, 0)), some (vR (1, w, 0)), some (vI a2), some (vI a3), some (vJ (1 : Int64)), none, some (vI a3), none, none, none] [] (en r3)
  refine r_iconst (v := 0) dX4_follow_19 rfl ?_
  refine r_istore (L' := [some (vR (28, 0, 0)), some (vR (20, 0, 0)), some (vR (1, w, 0)), some (vI a2), some (vI a3), some (vJ (1 : Int64)), none, some (vI a3), some (vI (0 : Int32)), none, none]) dX4_follow_20 (by decide) rfl ?_
  refine r_weak (L' := [some (vR (28, 0, 0)), some (vR (20, 0, 0)), none, some (vI a2), none, some (vJ (1 : Int64)), none, some (vI a3), some (vI (0 : Int32)), none, none]) (And.intro rfl (And.intro rfl (And.intro rfl (And.intro rfl (And.intro rfl (And.intro rfl trivial)))))) ?_
  obtain ⟨e14, he15, hf⟩ := am_bind hf
  refine K_X4_follow_L22  2000 ((1 : Int64), a3, (0 : Int32), r3) _ he15 ?_
  rcases e14 with q20 | e14
  · have hx := am_inj hf
    subst hx
    rfl
  · obtain ⟨y16, u17⟩ := e14
    show X l _ _ 0 0 false _ kC 0 0 125 [some (vR (28, 0, 0)), some (vR (20, 0, 0)), none, none, none, some (vJ y16), none, none, none, none, none] [] (en u17)
    refine r_aload_n (x := (28, 0, 0)) dX4_follow_125 rfl ?_
    refine r_dup dX4_follow_126 rfl ?_
    refine e_getl fw_X4_15 dX4_follow_127 (kC_mem (s := 28) (by decide) (by decide) (by decide)) rfl (lt_b rfl) ?_
    refine r_lload (x := y16) dX4_follow_130 rfl ?_
    refine r_aload_n (x := (20, 0, 0)) dX4_follow_132 rfl ?_
    refine e_geti fw_X4_61 dX4_follow_133 (kC_mem (s := 20) (by decide) (by decide) (by decide)) rfl (lt_b rfl) ?_
    refine r_i2l dX4_follow_136 ?_
    refine r_lmul dX4_follow_137 ?_
    refine r_ladd dX4_follow_138 ?_
    refine e_putl fp_X4_15 dX4_follow_139 (kC_mem (s := 28) (by decide) (by decide) (by decide)) rfl (lt_b rfl) rfl ?_
    refine r_aload_n (x := (28, 0, 0)) dX4_follow_142 rfl ?_
    refine e_getr (z := some (1, 3, 0)) fw_X4_24 dX4_follow_143 (kC_mem (s := 28) (by decide) (by decide) (by decide)) rfl (lt_b rfl) rfl ?_
    obtain ⟨r18, hr19, hf⟩ := am_bind hf
    refine r_callV (as := []) (st := []) (n := 0) mw_X4_63 mv_X8_litCount (C_X8_litCount (l := l) (by decide) hr19) (le_b rfl) dX4_follow_146 (kC_mem (s := 1) (by decide) (by decide) (by decide)) rfl rfl rfl (le_b rfl) (le_b rfl) (le_b rfl) ?_
    show X l _ _ 0 0 false _ kC 0 0 149 [some (vR (28, 0, 0)), some (vR (20, 0, 0)), none, none, none, some (vJ y16), none, none, none, none, none] [vI r18] (en (pl u17 (28, 0, 0) 1 ((u17.2.1 (28, 0, 0) 1) + (y16 * ((u17.1 (20, 0, 0) 0).toInt64)))))
    refine r_if_ne (tgt := 163) dX4_follow_149 (by decide) (fun hc => ?_) (fun hc => ?_)
    · have hf := (am_if hf).2 hc
      have hx := am_inj hf
      subst hx
      exact r_vret dX4_follow_163 rfl (le_b rfl) (le_b rfl)
    · have hf := (am_if hf).1 hc
      refine r_aload_n (x := (28, 0, 0)) dX4_follow_152 rfl ?_
      refine r_dup dX4_follow_153 rfl ?_
      refine e_getl_ (x := u17.2.1 (28, 0, 0) 0) fw_X4_11 dX4_follow_154 (kC_mem (s := 28) (by decide) (by decide) (by decide)) rfl (lt_b rfl) (by simp [pi, pl, pr, pci, pcl]) ?_
      refine r_lload (x := y16) dX4_follow_157 rfl ?_
      refine r_ladd dX4_follow_159 ?_
      refine e_putl fp_X4_11 dX4_follow_160 (kC_mem (s := 28) (by decide) (by decide) (by decide)) rfl (lt_b rfl) rfl ?_
      have hx := am_inj hf
      subst hx
      exact r_vret dX4_follow_163 rfl (le_b rfl) (le_b rfl)
/-! FireFromFire$Odds.commonDivisor -/
theorem dX4_commonDivisor_0 : decode cX4_commonDivisor 0 = .ok (.lload_n 0, 1) := by decide +kernel
theorem dX4_commonDivisor_1 : decode cX4_commonDivisor 1 = .ok (.lstore 4, 2) := by decide +kernel
theorem dX4_commonDivisor_3 : decode cX4_commonDivisor 3 = .ok (.lload_n 2, 1) := by decide +kernel
theorem dX4_commonDivisor_4 : decode cX4_commonDivisor 4 = .ok (.lstore 6, 2) := by decide +kernel
theorem dX4_commonDivisor_6 : decode cX4_commonDivisor 6 = .ok (.iconst 0, 1) := by decide +kernel
theorem dX4_commonDivisor_7 : decode cX4_commonDivisor 7 = .ok (.istore 8, 2) := by decide +kernel
theorem dX4_commonDivisor_9 : decode cX4_commonDivisor 9 = .ok (.iload 8, 2) := by decide +kernel
theorem dX4_commonDivisor_11 : decode cX4_commonDivisor 11 = .ok (.sipush 1000, 3) := by decide +kernel
theorem dX4_commonDivisor_14 : decode cX4_commonDivisor 14 = .ok (.if_icmp .ge 31, 3) := by decide +kernel
theorem dX4_commonDivisor_17 : decode cX4_commonDivisor 17 = .ok (.lload 6, 2) := by decide +kernel
theorem dX4_commonDivisor_19 : decode cX4_commonDivisor 19 = .ok (.lconst 0, 1) := by decide +kernel
theorem dX4_commonDivisor_20 : decode cX4_commonDivisor 20 = .ok (.lcmp, 1) := by decide +kernel
theorem dX4_commonDivisor_21 : decode cX4_commonDivisor 21 = .ok (.ifCond .eq 24, 3) := by decide +kernel
theorem dX4_commonDivisor_24 : decode cX4_commonDivisor 24 = .ok (.lload 4, 2) := by decide +kernel
theorem dX4_commonDivisor_26 : decode cX4_commonDivisor 26 = .ok (.lload 6, 2) := by decide +kernel
theorem dX4_commonDivisor_28 : decode cX4_commonDivisor 28 = .ok (.lrem, 1) := by decide +kernel
theorem dX4_commonDivisor_29 : decode cX4_commonDivisor 29 = .ok (.lstore 9, 2) := by decide +kernel
theorem dX4_commonDivisor_31 : decode cX4_commonDivisor 31 = .ok (.lload 6, 2) := by decide +kernel
theorem dX4_commonDivisor_33 : decode cX4_commonDivisor 33 = .ok (.lstore 4, 2) := by decide +kernel
theorem dX4_commonDivisor_35 : decode cX4_commonDivisor 35 = .ok (.lload 9, 2) := by decide +kernel
theorem dX4_commonDivisor_37 : decode cX4_commonDivisor 37 = .ok (.lstore 6, 2) := by decide +kernel
theorem dX4_commonDivisor_39 : decode cX4_commonDivisor 39 = .ok (.iinc 8 1, 3) := by decide +kernel
theorem dX4_commonDivisor_42 : decode cX4_commonDivisor 42 = .ok (.goto (-33), 3) := by decide +kernel
theorem dX4_commonDivisor_45 : decode cX4_commonDivisor 45 = .ok (.lload 4, 2) := by decide +kernel
theorem dX4_commonDivisor_47 : decode cX4_commonDivisor 47 = .ok (.lreturn, 1) := by decide +kernel
def f_X4_commonDivisor_L9   (u : PM) : Int64 × Int64 × Int32 → Option ((Int64 × Int64 × Int32) ⊕ (Int64)) := fun (x4 , x6 , x8) =>
  if (1000 : Int32) ≤ x8 then
    some (.inr (x4))
  else
  if (lg_cmp x6 (0 : Int64)) = 0 then
    some (.inr (x4))
  else
  if x6 = 0 then none else
  some (.inl (x6, x4 - x4 / x6 * x6, x8 + (1 : Int32)))
set_option maxHeartbeats 4000000 in
set_option maxRecDepth 20000 in
theorem K_X4_commonDivisor_L9 {l : Launch} {T : Option AV × List Key × AM}   {u : PM} : ∀ (n : Nat) (s : Int64 × Int64 × Int32) (e0 : Int64), am_loop (f_X4_commonDivisor_L9 u) n s = some e0 → (fun e : Int64 => X l mX4_commonDivisor 1 0 0 false T kC 0 0 45 [none, none, none, none, some (vJ e), none, none, none, none, none, none] [] (en u)) e0 → X l mX4_commonDivisor 1 0 0 false T kC 0 0 9 [none, none, none, none, some (vJ s.1), none, some (vJ s.2.1), none, some (vI s.2.2), none, none] [] (en u) := by
  refine am_loop_of ?_
  intro s x hf k1 k2
  obtain ⟨x4 , x6 , x8⟩ := s
  unfold f_X4_commonDivisor_L9 at hf
  show X l mX4_commonDivisor 1 0 0 false T kC 0 0 9 [none, none, none, none, some (vJ x4), none, some (vJ x6), none, some (vI x8), none, none] [] (en u)
  refine r_iload (x := x8) dX4_commonDivisor_9 rfl ?_
  refine r_sipush (v := 1000) dX4_commonDivisor_11 rfl ?_
  refine r_icmp_ge (tgt := 45) dX4_commonDivisor_14 (by decide) (fun hc => ?_) (fun hc => ?_)
  · have hf := (am_if hf).1 hc
    refine r_weak (L' := [none, none, none, none, some (vJ x4), none, none, none, none, none, none]) (And.intro rfl trivial) ?_
    exact k2 (x4) (am_inj hf).symm
  · have hf := (am_if hf).2 hc
    refine r_lload (x := x6) dX4_commonDivisor_17 rfl ?_
    refine r_lconst (v := 0) dX4_commonDivisor_19 rfl ?_
    refine r_lcmp dX4_commonDivisor_20 ?_
    refine r_if_eq (tgt := 45) dX4_commonDivisor_21 (by decide) (fun hc => ?_) (fun hc => ?_)
    · have hf := (am_if hf).1 hc
      refine r_weak (L' := [none, none, none, none, some (vJ x4), none, none, none, none, none, none]) (And.intro rfl trivial) ?_
      exact k2 (x4) (am_inj hf).symm
    · have hf := (am_if hf).2 hc
      refine r_lload (x := x4) dX4_commonDivisor_24 rfl ?_
      refine r_lload (x := x6) dX4_commonDivisor_26 rfl ?_
      obtain ⟨h1, hf⟩ := am_nchk hf
      refine r_lrem dX4_commonDivisor_28 h1 ?_
      refine r_lstore (L' := [none, none, none, none, some (vJ x4), none, some (vJ x6), none, some (vI x8), some (vJ (x4 - x4 / x6 * x6)), none]) dX4_commonDivisor_29 (by decide) rfl ?_
      refine r_lload (x := x6) dX4_commonDivisor_31 rfl ?_
      refine r_lstore (L' := [none, none, none, none, some (vJ x6), none, some (vJ x6), none, some (vI x8), some (vJ (x4 - x4 / x6 * x6)), none]) dX4_commonDivisor_33 (by decide) rfl ?_
      refine r_lload (x := x4 - x4 / x6 * x6) dX4_commonDivisor_35 rfl ?_
      refine r_lstore (L' := [none, none, none, none, some (vJ x6), none, some (vJ (x4 - x4 / x6 * x6)), none, some (vI x8), some (vJ (x4 - x4 / x6 * x6)), none]) dX4_commonDivisor_37 (by decide) rfl ?_
      refine r_iinc (x := x8) (v := x8 + (1 : Int32)) (L' := [none, none, none, none, some (vJ x6), none, some (vJ (x4 - x4 / x6 * x6)), none, some (vI (x8 + (1 : Int32))), some (vJ (x4 - x4 / x6 * x6)), none]) dX4_commonDivisor_39 rfl rfl (lt_b rfl) rfl ?_
      refine r_goto (tgt := 9) dX4_commonDivisor_42 (by decide) ?_
      refine r_weak (L' := [none, none, none, none, some (vJ x6), none, some (vJ (x4 - x4 / x6 * x6)), none, some (vI (x8 + (1 : Int32))), none, none]) (And.intro rfl (And.intro rfl (And.intro rfl trivial))) ?_
      exact k1 (x6, x4 - x4 / x6 * x6, x8 + (1 : Int32)) (am_inj hf).symm
def f_X4_commonDivisor  (a0 : Int64) (a1 : Int64) (u : PM) : Option (Int64) :=
  (am_loop (f_X4_commonDivisor_L9 u) 2000 (a0, a1, (0 : Int32))).bind fun y4 =>
  some y4
set_option maxHeartbeats 4000000 in
set_option maxRecDepth 20000 in
theorem C_X4_commonDivisor {l : Launch}  {a0 : Int64} {a1 : Int64} {u : PM} {x : Int64} (hf : f_X4_commonDivisor a0 a1 u = some x) : Ev l mX4_commonDivisor 1 0 0 false [vJ a0, vJ a1] kC (en u) (some (vJ x), kC, en u) := by
  refine Ev_of (by decide +kernel) (le_b rfl) ?_
  unfold f_X4_commonDivisor at hf
  show X l mX4_commonDivisor 1 0 0 false _ kC 0 0 0 [some (vJ a0), none, some (vJ a1), none, none, none, none, none, none, none, none] [] (en u)
  refine r_lload_n (x := a0) dX4_commonDivisor_0 rfl ?_
  refine r_lstore (L' := [some (vJ a0), none, some (vJ a1), none, some (vJ a0), none, none, none, none, none, none]) dX4_commonDivisor_1 (by decide) rfl ?_
  refine r_lload_n (x := a1) dX4_commonDivisor_3 rfl ?_
  refine r_lstore (L' := [some (vJ a0), none, some (vJ a1), none, some (vJ a0), none, some (vJ a1), none, none, none, none]) dX4_commonDivisor_4 (by decide) rfl ?_
  refine r_iconst (v := 0) dX4_commonDivisor_6 rfl ?_
  refine r_istore (L' := [some (vJ a0), none, some (vJ a1), none, some (vJ a0), none, some (vJ a1), none, some (vI (0 : Int32)), none, none]) dX4_commonDivisor_7 (by decide) rfl ?_
  refine r_weak (L' := [none, none, none, none, some (vJ a0), none, some (vJ a1), none, some (vI (0 : Int32)), none, none]) (And.intro rfl (And.intro rfl (And.intro rfl trivial))) ?_
  obtain ⟨e2, he3, hf⟩ := am_bind hf
  refine K_X4_commonDivisor_L9  2000 (a0, a1, (0 : Int32)) _ he3 ?_
  obtain ⟨y4, rfl⟩ : ∃ z, z = e2 := ⟨_, rfl⟩
  show X l _ _ 0 0 false _ kC 0 0 45 [none, none, none, none, some (vJ y4), none, none, none, none, none, none] [] (en u)
  refine r_lload (x := y4) dX4_commonDivisor_45 rfl ?_
  have hx := am_inj hf
  subst hx
  exact r_lret dX4_commonDivisor_47 rfl (le_b rfl) (le_b rfl)
