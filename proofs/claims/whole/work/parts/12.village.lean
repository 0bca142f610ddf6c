/-! FireFromFire$Village.find -/
theorem dX8_find_0 : decode cX8_find 0 = .ok (.iload_n 1, 1) := by decide +kernel
theorem dX8_find_1 : decode cX8_find 1 = .ok (.ifCond .lt 26, 3) := by decide +kernel
theorem dX8_find_4 : decode cX8_find 4 = .ok (.iload_n 1, 1) := by decide +kernel
theorem dX8_find_5 : decode cX8_find 5 = .ok (.aload_n 0, 1) := by decide +kernel
theorem dX8_find_6 : decode cX8_find 6 = .ok (.getfield 9, 3) := by decide +kernel
theorem dX8_find_9 : decode cX8_find 9 = .ok (.if_icmp .ge 18, 3) := by decide +kernel
theorem dX8_find_12 : decode cX8_find 12 = .ok (.iload_n 1, 1) := by decide +kernel
theorem dX8_find_13 : decode cX8_find 13 = .ok (.bipush 6, 2) := by decide +kernel
theorem dX8_find_15 : decode cX8_find 15 = .ok (.if_icmp .ge 12, 3) := by decide +kernel
theorem dX8_find_18 : decode cX8_find 18 = .ok (.aload_n 0, 1) := by decide +kernel
theorem dX8_find_19 : decode cX8_find 19 = .ok (.getfield 17, 3) := by decide +kernel
theorem dX8_find_22 : decode cX8_find 22 = .ok (.iload_n 1, 1) := by decide +kernel
theorem dX8_find_23 : decode cX8_find 23 = .ok (.aaload, 1) := by decide +kernel
theorem dX8_find_24 : decode cX8_find 24 = .ok (.goto 4, 3) := by decide +kernel
theorem dX8_find_27 : decode cX8_find 27 = .ok (.aconst_null, 1) := by decide +kernel
theorem dX8_find_28 : decode cX8_find 28 = .ok (.areturn, 1) := by decide +kernel
def f_X8_find (v : Nat) (a0 : Int32) (u : PM) : Option (Option Nat) :=
  if a0 < 0 then
    some none
  else
  if (u.1 (1, v, 0) 0) ≤ a0 then
    some none
  else
  if (6 : Int32) ≤ a0 then
    some none
  else
  if a0 < 0 ∨ 6 ≤ a0.toNatClampNeg then none else
  some (some a0.toNatClampNeg)
set_option maxHeartbeats 4000000 in
set_option maxRecDepth 20000 in
theorem C_X8_find {l : Launch} {v : Nat} (hv : v < 4) {a0 : Int32} {u : PM} {x : Option Nat} (hf : f_X8_find v a0 u = some x) : Ev l mX8_find 1 0 0 false [vR (1, v, 0), vI a0] kC (en u) (some (vO (x.map fun z => (3, v, z))), kC, en u) := by
  refine Ev_of (by decide +kernel) (le_b rfl) ?_
  unfold f_X8_find at hf
  show X l mX8_find 1 0 0 false _ kC 0 0 0 [some (vR (1, v, 0)), some (vI a0)] [] (en u)
  refine r_iload_n (x := a0) dX8_find_0 rfl ?_
  refine r_if_lt (tgt := 27) dX8_find_1 (by decide) (fun hc => ?_) (fun hc => ?_)
  · have hf := (am_if hf).1 hc
    refine r_anull dX8_find_27 ?_
    have hx := am_inj hf
    subst hx
    exact r_aret dX8_find_28 rfl (le_b rfl) (le_b rfl)
  · have hf := (am_if hf).2 hc
    refine r_iload_n (x := a0) dX8_find_4 rfl ?_
    refine r_aload_n (x := (1, v, 0)) dX8_find_5 rfl ?_
    refine e_geti fw_X8_9 dX8_find_6 (kC_mem (s := 1) (by decide) hv (by decide)) rfl (lt_b rfl) ?_
    refine r_icmp_ge (tgt := 27) dX8_find_9 (by decide) (fun hc => ?_) (fun hc => ?_)
    · have hf := (am_if hf).1 hc
      refine r_anull dX8_find_27 ?_
      have hx := am_inj hf
      subst hx
      exact r_aret dX8_find_28 rfl (le_b rfl) (le_b rfl)
    · have hf := (am_if hf).2 hc
      refine r_iload_n (x := a0) dX8_find_12 rfl ?_
      refine r_bipush (v := 6) dX8_find_13 rfl ?_
      refine r_icmp_ge (tgt := 27) dX8_find_15 (by decide) (fun hc => ?_) (fun hc => ?_)
      · have hf := (am_if hf).1 hc
        refine r_anull dX8_find_27 ?_
        have hx := am_inj hf
        subst hx
        exact r_aret dX8_find_28 rfl (le_b rfl) (le_b rfl)
      · have hf := (am_if hf).2 hc
        refine r_aload_n (x := (1, v, 0)) dX8_find_18 rfl ?_
        refine e_getr (z := some (2, v, 0)) fw_X8_17 dX8_find_19 (kC_mem (s := 1) (by decide) hv (by decide)) rfl (lt_b rfl) rfl ?_
        refine r_iload_n (x := a0) dX8_find_22 rfl ?_
        obtain ⟨h1, hf⟩ := am_nchk hf
        refine e_aald (n := a0.toNatClampNeg) (z := some (3, v, a0.toNatClampNeg)) dX8_find_23 (kC_mem (s := 2) (by decide) hv (by decide)) ⟨le_b rfl, lt_b rfl⟩ h1 rfl rfl ?_
        refine r_goto (tgt := 28) dX8_find_24 (by decide) ?_
        have hx := am_inj hf
        subst hx
        exact r_aret dX8_find_28 rfl (le_b rfl) (le_b rfl)
/-! FireFromFire$Village.copy -/
theorem dX8_copy_0 : decode cX8_copy 0 = .ok (.aload_n 0, 1) := by decide +kernel
theorem dX8_copy_1 : decode cX8_copy 1 = .ok (.aload_n 1, 1) := by decide +kernel
theorem dX8_copy_2 : decode cX8_copy 2 = .ok (.getfield 9, 3) := by decide +kernel
theorem dX8_copy_5 : decode cX8_copy 5 = .ok (.putfield 9, 3) := by decide +kernel
theorem dX8_copy_8 : decode cX8_copy 8 = .ok (.aload_n 0, 1) := by decide +kernel
theorem dX8_copy_9 : decode cX8_copy 9 = .ok (.aload_n 1, 1) := by decide +kernel
theorem dX8_copy_10 : decode cX8_copy 10 = .ok (.getfield 26, 3) := by decide +kernel
theorem dX8_copy_13 : decode cX8_copy 13 = .ok (.putfield 26, 3) := by decide +kernel
theorem dX8_copy_16 : decode cX8_copy 16 = .ok (.aload_n 0, 1) := by decide +kernel
theorem dX8_copy_17 : decode cX8_copy 17 = .ok (.aload_n 1, 1) := by decide +kernel
theorem dX8_copy_18 : decode cX8_copy 18 = .ok (.getfield 29, 3) := by decide +kernel
theorem dX8_copy_21 : decode cX8_copy 21 = .ok (.putfield 29, 3) := by decide +kernel
theorem dX8_copy_24 : decode cX8_copy 24 = .ok (.aload_n 0, 1) := by decide +kernel
theorem dX8_copy_25 : decode cX8_copy 25 = .ok (.aload_n 1, 1) := by decide +kernel
theorem dX8_copy_26 : decode cX8_copy 26 = .ok (.getfield 32, 3) := by decide +kernel
theorem dX8_copy_29 : decode cX8_copy 29 = .ok (.putfield 32, 3) := by decide +kernel
theorem dX8_copy_32 : decode cX8_copy 32 = .ok (.aload_n 0, 1) := by decide +kernel
theorem dX8_copy_33 : decode cX8_copy 33 = .ok (.aload_n 1, 1) := by decide +kernel
theorem dX8_copy_34 : decode cX8_copy 34 = .ok (.getfield 36, 3) := by decide +kernel
theorem dX8_copy_37 : decode cX8_copy 37 = .ok (.putfield 36, 3) := by decide +kernel
theorem dX8_copy_40 : decode cX8_copy 40 = .ok (.iconst 0, 1) := by decide +kernel
theorem dX8_copy_41 : decode cX8_copy 41 = .ok (.istore_n 2, 1) := by decide +kernel
theorem dX8_copy_42 : decode cX8_copy 42 = .ok (.iload_n 2, 1) := by decide +kernel
theorem dX8_copy_43 : decode cX8_copy 43 = .ok (.bipush 6, 2) := by decide +kernel
theorem dX8_copy_45 : decode cX8_copy 45 = .ok (.if_icmp .ge 43, 3) := by decide +kernel
theorem dX8_copy_48 : decode cX8_copy 48 = .ok (.aload_n 0, 1) := by decide +kernel
theorem dX8_copy_49 : decode cX8_copy 49 = .ok (.getfield 17, 3) := by decide +kernel
theorem dX8_copy_52 : decode cX8_copy 52 = .ok (.iload_n 2, 1) := by decide +kernel
theorem dX8_copy_53 : decode cX8_copy 53 = .ok (.aaload, 1) := by decide +kernel
theorem dX8_copy_54 : decode cX8_copy 54 = .ok (.aload_n 1, 1) := by decide +kernel
theorem dX8_copy_55 : decode cX8_copy 55 = .ok (.getfield 17, 3) := by decide +kernel
theorem dX8_copy_58 : decode cX8_copy 58 = .ok (.iload_n 2, 1) := by decide +kernel
theorem dX8_copy_59 : decode cX8_copy 59 = .ok (.aaload, 1) := by decide +kernel
theorem dX8_copy_60 : decode cX8_copy 60 = .ok (.invokevirtual 50, 3) := by decide +kernel
theorem dX8_copy_63 : decode cX8_copy 63 = .ok (.aload_n 1, 1) := by decide +kernel
theorem dX8_copy_64 : decode cX8_copy 64 = .ok (.getfield 23, 3) := by decide +kernel
theorem dX8_copy_67 : decode cX8_copy 67 = .ok (.iload_n 2, 1) := by decide +kernel
theorem dX8_copy_68 : decode cX8_copy 68 = .ok (.aaload, 1) := by decide +kernel
theorem dX8_copy_69 : decode cX8_copy 69 = .ok (.iconst 0, 1) := by decide +kernel
theorem dX8_copy_70 : decode cX8_copy 70 = .ok (.aload_n 0, 1) := by decide +kernel
theorem dX8_copy_71 : decode cX8_copy 71 = .ok (.getfield 23, 3) := by decide +kernel
theorem dX8_copy_74 : decode cX8_copy 74 = .ok (.iload_n 2, 1) := by decide +kernel
theorem dX8_copy_75 : decode cX8_copy 75 = .ok (.aaload, 1) := by decide +kernel
theorem dX8_copy_76 : decode cX8_copy 76 = .ok (.iconst 0, 1) := by decide +kernel
theorem dX8_copy_77 : decode cX8_copy 77 = .ok (.bipush 6, 2) := by decide +kernel
theorem dX8_copy_79 : decode cX8_copy 79 = .ok (.invokestatic 54, 3) := by decide +kernel
theorem dX8_copy_82 : decode cX8_copy 82 = .ok (.iinc 2 1, 3) := by decide +kernel
theorem dX8_copy_85 : decode cX8_copy 85 = .ok (.goto (-43), 3) := by decide +kernel
theorem dX8_copy_88 : decode cX8_copy 88 = .ok (.aload_n 1, 1) := by decide +kernel
theorem dX8_copy_89 : decode cX8_copy 89 = .ok (.getfield 39, 3) := by decide +kernel
theorem dX8_copy_92 : decode cX8_copy 92 = .ok (.iconst 0, 1) := by decide +kernel
theorem dX8_copy_93 : decode cX8_copy 93 = .ok (.aload_n 0, 1) := by decide +kernel
theorem dX8_copy_94 : decode cX8_copy 94 = .ok (.getfield 39, 3) := by decide +kernel
theorem dX8_copy_97 : decode cX8_copy 97 = .ok (.iconst 0, 1) := by decide +kernel
theorem dX8_copy_98 : decode cX8_copy 98 = .ok (.bipush 12, 2) := by decide +kernel
theorem dX8_copy_100 : decode cX8_copy 100 = .ok (.invokestatic 54, 3) := by decide +kernel
theorem dX8_copy_103 : decode cX8_copy 103 = .ok (.aload_n 1, 1) := by decide +kernel
theorem dX8_copy_104 : decode cX8_copy 104 = .ok (.getfield 43, 3) := by decide +kernel
theorem dX8_copy_107 : decode cX8_copy 107 = .ok (.iconst 0, 1) := by decide +kernel
theorem dX8_copy_108 : decode cX8_copy 108 = .ok (.aload_n 0, 1) := by decide +kernel
theorem dX8_copy_109 : decode cX8_copy 109 = .ok (.getfield 43, 3) := by decide +kernel
theorem dX8_copy_112 : decode cX8_copy 112 = .ok (.iconst 0, 1) := by decide +kernel
theorem dX8_copy_113 : decode cX8_copy 113 = .ok (.bipush 12, 2) := by decide +kernel
theorem dX8_copy_115 : decode cX8_copy 115 = .ok (.invokestatic 54, 3) := by decide +kernel
theorem dX8_copy_118 : decode cX8_copy 118 = .ok (.return_, 1) := by decide +kernel
def f_X8_copy_L42 (n0 : Nat) (n1 : Nat)  : Int32 × PM → Option ((Int32 × PM) ⊕ (PM)) := fun (x2 , u) =>
  if (6 : Int32) ≤ x2 then
    some (.inr (u))
  else
  if x2 < 0 ∨ 6 ≤ x2.toNatClampNeg then none else
  (f_X2_copy n0 x2.toNatClampNeg n1 x2.toNatClampNeg u).bind fun r5 =>
  some (.inl (x2 + (1 : Int32), (pci r5 (5, n0, x2.toNatClampNeg) (va_cpy (r5.1 (5, n1, x2.toNatClampNeg)) (r5.1 (5, n0, x2.toNatClampNeg)) 0 0 6))))
set_option maxHeartbeats 4000000 in
set_option maxRecDepth 20000 in
theorem K_X8_copy_L42 {l : Launch} {T : Option AV × List Key × AM} {n0 : Nat} (hn0 : n0 < 4) {n1 : Nat} (hn1 : n1 < 4)  : ∀ (n : Nat) (s : Int32 × PM) (e0 : PM), am_loop (f_X8_copy_L42 n0 n1) n s = some e0 → (fun e : PM => X l mX8_copy 3 0 0 false T kC 0 0 88 [some (vR (1, n0, 0)), some (vR (1, n1, 0)), none] [] (en e)) e0 → X l mX8_copy 3 0 0 false T kC 0 0 42 [some (vR (1, n0, 0)), some (vR (1, n1, 0)), some (vI s.1)] [] (en s.2) := by
  refine am_loop_of ?_
  intro s x hf k1 k2
  obtain ⟨x2 , u⟩ := s
  unfold f_X8_copy_L42 at hf
  show X l mX8_copy 3 0 0 false T kC 0 0 42 [some (vR (1, n0, 0)), some (vR (1, n1, 0)), some (vI x2)] [] (en u)
  refine r_iload_n (x := x2) dX8_copy_42 rfl ?_
  refine r_bipush (v := 6) dX8_copy_43 rfl ?_
  refine r_icmp_ge (tgt := 88) dX8_copy_45 (by decide) (fun hc => ?_) (fun hc => ?_)
  · have hf := (am_if hf).1 hc
    refine r_weak (L' := [some (vR (1, n0, 0)), some (vR (1, n1, 0)), none]) (And.intro rfl (And.intro rfl trivial)) ?_
    exact k2 (u) (am_inj hf).symm
  · have hf := (am_if hf).2 hc
    refine r_aload_n (x := (1, n0, 0)) dX8_copy_48 rfl ?_
    refine e_getr (z := some (2, n0, 0)) fw_X8_17 dX8_copy_49 (kC_mem (s := 1) (by decide) hn0 (by decide)) rfl (lt_b rfl) rfl ?_
    refine r_iload_n (x := x2) dX8_copy_52 rfl ?_
    obtain ⟨h4, hf⟩ := am_nchk hf
    refine e_aald (n := x2.toNatClampNeg) (z := some (3, n0, x2.toNatClampNeg)) dX8_copy_53 (kC_mem (s := 2) (by decide) hn0 (by decide)) ⟨le_b rfl, lt_b rfl⟩ h4 rfl rfl ?_
    refine r_aload_n (x := (1, n1, 0)) dX8_copy_54 rfl ?_
    refine e_getr (z := some (2, n1, 0)) fw_X8_17 dX8_copy_55 (kC_mem (s := 1) (by decide) hn1 (by decide)) rfl (lt_b rfl) rfl ?_
    refine r_iload_n (x := x2) dX8_copy_58 rfl ?_
    refine e_aald (n := x2.toNatClampNeg) (z := some (3, n1, x2.toNatClampNeg)) dX8_copy_59 (kC_mem (s := 2) (by decide) hn1 (by decide)) ⟨le_b rfl, lt_b rfl⟩ h4 rfl rfl ?_
    obtain ⟨r5, hr6, hf⟩ := am_bind hf
    refine r_callV (as := [vR (3, n1, x2.toNatClampNeg)]) (st := []) (n := 1) mw_X8_50 mv_X2_copy (C_X2_copy (l := l) hn0 (vp_lt h4) hn1 (vp_lt h4) hr6) (le_b rfl) dX8_copy_60 (kC_mem (s := 3) (by decide) hn0 (vp_lt h4)) rfl rfl rfl (le_b rfl) (le_b rfl) (le_b rfl) ?_
    show X l _ _ 0 0 false _ kC 0 0 63 [some (vR (1, n0, 0)), some (vR (1, n1, 0)), some (vI x2)] [] (en r5)
    refine r_aload_n (x := (1, n1, 0)) dX8_copy_63 rfl ?_
    refine e_getr (z := some (4, n1, 0)) fw_X8_23 dX8_copy_64 (kC_mem (s := 1) (by decide) hn1 (by decide)) rfl (lt_b rfl) rfl ?_
    refine r_iload_n (x := x2) dX8_copy_67 rfl ?_
    refine e_aald (n := x2.toNatClampNeg) (z := some (5, n1, x2.toNatClampNeg)) dX8_copy_68 (kC_mem (s := 4) (by decide) hn1 (by decide)) ⟨le_b rfl, lt_b rfl⟩ h4 rfl rfl ?_
    refine r_iconst (v := 0) dX8_copy_69 rfl ?_
    refine r_aload_n (x := (1, n0, 0)) dX8_copy_70 rfl ?_
    refine e_getr (z := some (4, n0, 0)) fw_X8_23 dX8_copy_71 (kC_mem (s := 1) (by decide) hn0 (by decide)) rfl (lt_b rfl) rfl ?_
    refine r_iload_n (x := x2) dX8_copy_74 rfl ?_
    refine e_aald (n := x2.toNatClampNeg) (z := some (5, n0, x2.toNatClampNeg)) dX8_copy_75 (kC_mem (s := 4) (by decide) hn0 (by decide)) ⟨le_b rfl, lt_b rfl⟩ h4 rfl rfl ?_
    refine r_iconst (v := 0) dX8_copy_76 rfl ?_
    refine r_bipush (v := 6) dX8_copy_77 rfl ?_
    refine e_copyi (a := 0) (b := 0) (c := 6) jc_X8_54 dX8_copy_79 (kC_mem (s := 5) (by decide) hn1 (vp_lt h4)) (kC_mem (s := 5) (by decide) hn0 (vp_lt h4)) rfl rfl (by decide) (by decide) (by decide) rfl rfl rfl (le_b rfl) (le_b rfl) (le_b rfl) (le_b rfl) ?_
    refine r_iinc (x := x2) (v := x2 + (1 : Int32)) (L' := [some (vR (1, n0, 0)), some (vR (1, n1, 0)), some (vI (x2 + (1 : Int32)))]) dX8_copy_82 rfl rfl (lt_b rfl) rfl ?_
    refine r_goto (tgt := 42) dX8_copy_85 (by decide) ?_
    refine r_weak (L' := [some (vR (1, n0, 0)), some (vR (1, n1, 0)), some (vI (x2 + (1 : Int32)))]) (And.intro rfl (And.intro rfl (And.intro rfl trivial))) ?_
    exact k1 (x2 + (1 : Int32), (pci r5 (5, n0, x2.toNatClampNeg) (va_cpy (r5.1 (5, n1, x2.toNatClampNeg)) (r5.1 (5, n0, x2.toNatClampNeg)) 0 0 6))) (am_inj hf).symm
def f_X8_copy (v : Nat) (w : Nat)  (u : PM) : Option (PM) :=
  match u.2.2 (w + 1) with
  | none =>
    (am_loop (f_X8_copy_L42 v w) 2000 ((0 : Int32), (pi (pr (pi (pi (pi u (1, v, 0) 0 (u.1 (1, w, 0) 0)) (1, v, 0) 3 (u.1 (1, w, 0) 3)) (1, v, 0) 4 (u.1 (1, w, 0) 4)) (v + 1) none) (1, v, 0) 6 (u.1 (1, w, 0) 6)))).bind fun u9 =>
    some (pci (pci u9 (6, v, 0) (va_cpy (u9.1 (6, w, 0)) (u9.1 (6, v, 0)) 0 0 12)) (7, v, 0) (va_cpy ((pci u9 (6, v, 0) (va_cpy (u9.1 (6, w, 0)) (u9.1 (6, v, 0)) 0 0 12)).1 (7, w, 0)) ((pci u9 (6, v, 0) (va_cpy (u9.1 (6, w, 0)) (u9.1 (6, v, 0)) 0 0 12)).1 (7, v, 0)) 0 0 12))
  | some p1 =>
    if p1 < 5 then
      (am_loop (f_X8_copy_L42 v w) 2000 ((0 : Int32), (pi (pr (pi (pi (pi u (1, v, 0) 0 (u.1 (1, w, 0) 0)) (1, v, 0) 3 (u.1 (1, w, 0) 3)) (1, v, 0) 4 (u.1 (1, w, 0) 4)) (v + 1) (some p1)) (1, v, 0) 6 (u.1 (1, w, 0) 6)))).bind fun u12 =>
      some (pci (pci u12 (6, v, 0) (va_cpy (u12.1 (6, w, 0)) (u12.1 (6, v, 0)) 0 0 12)) (7, v, 0) (va_cpy ((pci u12 (6, v, 0) (va_cpy (u12.1 (6, w, 0)) (u12.1 (6, v, 0)) 0 0 12)).1 (7, w, 0)) ((pci u12 (6, v, 0) (va_cpy (u12.1 (6, w, 0)) (u12.1 (6, v, 0)) 0 0 12)).1 (7, v, 0)) 0 0 12))
    else none
set_option maxHeartbeats 4000000 in
set_option maxRecDepth 20000 in
theorem C_X8_copy {l : Launch} {v : Nat} (hv : v < 4) {w : Nat} (hw : w < 4)  {u : PM} {x : PM} (hf : f_X8_copy v w u = some x) : Ev l mX8_copy 3 0 0 false [vR (1, v, 0), vR (1, w, 0)] kC (en u) (none, kC, en x) := by
  refine Ev_of (by decide +kernel) (le_b rfl) ?_
  unfold f_X8_copy at hf
  show X l mX8_copy 3 0 0 false _ kC 0 0 0 [some (vR (1, v, 0)), some (vR (1, w, 0)), none] [] (en u)
  refine r_aload_n (x := (1, v, 0)) dX8_copy_0 rfl ?_
  refine r_aload_n (x := (1, w, 0)) dX8_copy_1 rfl ?_
  refine e_geti fw_X8_9 dX8_copy_2 (kC_mem (s := 1) (by decide) hw (by decide)) rfl (lt_b rfl) ?_
  refine e_puti fp_X8_9 dX8_copy_5 (kC_mem (s := 1) (by decide) hv (by decide)) rfl (lt_b rfl) rfl rfl rfl ?_
  refine r_aload_n (x := (1, v, 0)) dX8_copy_8 rfl ?_
  refine r_aload_n (x := (1, w, 0)) dX8_copy_9 rfl ?_
  refine e_geti_ (x := u.1 (1, w, 0) 3) fw_X8_26 dX8_copy_10 (kC_mem (s := 1) (by decide) hw (by decide)) rfl (lt_b rfl) (by simp [pi, pl, pr, pci, pcl]) ?_
  refine e_puti fp_X8_26 dX8_copy_13 (kC_mem (s := 1) (by decide) hv (by decide)) rfl (lt_b rfl) rfl rfl rfl ?_
  refine r_aload_n (x := (1, v, 0)) dX8_copy_16 rfl ?_
  refine r_aload_n (x := (1, w, 0)) dX8_copy_17 rfl ?_
  refine e_geti_ (x := u.1 (1, w, 0) 4) fw_X8_29 dX8_copy_18 (kC_mem (s := 1) (by decide) hw (by decide)) rfl (lt_b rfl) (by simp [pi, pl, pr, pci, pcl]) ?_
  refine e_puti fp_X8_29 dX8_copy_21 (kC_mem (s := 1) (by decide) hv (by decide)) rfl (lt_b rfl) rfl rfl rfl ?_
  refine r_aload_n (x := (1, v, 0)) dX8_copy_24 rfl ?_
  refine r_aload_n (x := (1, w, 0)) dX8_copy_25 rfl ?_
  cases he3 : u.2.2 (w + 1) with
  | none =>
    rw [he3] at hf
    refine e_getr (z := none) fw_X8_32 dX8_copy_26 (kC_mem (s := 1) (by decide) hw (by decide)) rfl (lt_b rfl) (by show Option.map _ (u.2.2 (w + 1)) = _; rw [he3]; rfl) ?_
    refine e_put1 (x := none) fp_X8_32 dX8_copy_29 (kC_mem (s := 1) (by decide) hv (by decide)) (fun v => by cases v <;> exact ⟨rfl, rfl⟩) ?_
    refine r_aload_n (x := (1, v, 0)) dX8_copy_32 rfl ?_
    refine r_aload_n (x := (1, w, 0)) dX8_copy_33 rfl ?_
    refine e_geti_ (x := u.1 (1, w, 0) 6) fw_X8_36 dX8_copy_34 (kC_mem (s := 1) (by decide) hw (by decide)) rfl (lt_b rfl) (by simp [pi, pl, pr, pci, pcl]) ?_
    refine e_puti fp_X8_36 dX8_copy_37 (kC_mem (s := 1) (by decide) hv (by decide)) rfl (lt_b rfl) rfl rfl rfl ?_
    refine r_iconst (v := 0) dX8_copy_40 rfl ?_
    refine r_istore_n (L' := [some (vR (1, v, 0)), some (vR (1, w, 0)), some (vI (0 : Int32))]) dX8_copy_41 (by decide) rfl ?_
    refine r_weak (L' := [some (vR (1, v, 0)), some (vR (1, w, 0)), some (vI (0 : Int32))]) (And.intro rfl (And.intro rfl (And.intro rfl trivial))) ?_
    obtain ⟨e7, he8, hf⟩ := am_bind hf
    refine K_X8_copy_L42 hv hw 2000 ((0 : Int32), (pi (pr (pi (pi (pi u (1, v, 0) 0 (u.1 (1, w, 0) 0)) (1, v, 0) 3 (u.1 (1, w, 0) 3)) (1, v, 0) 4 (u.1 (1, w, 0) 4)) (v + 1) none) (1, v, 0) 6 (u.1 (1, w, 0) 6))) _ he8 ?_
    obtain ⟨u9, rfl⟩ : ∃ z, z = e7 := ⟨_, rfl⟩
    show X l _ _ 0 0 false _ kC 0 0 88 [some (vR (1, v, 0)), some (vR (1, w, 0)), none] [] (en u9)
    refine r_aload_n (x := (1, w, 0)) dX8_copy_88 rfl ?_
    refine e_getr (z := some (6, w, 0)) fw_X8_39 dX8_copy_89 (kC_mem (s := 1) (by decide) hw (by decide)) rfl (lt_b rfl) rfl ?_
    refine r_iconst (v := 0) dX8_copy_92 rfl ?_
    refine r_aload_n (x := (1, v, 0)) dX8_copy_93 rfl ?_
    refine e_getr (z := some (6, v, 0)) fw_X8_39 dX8_copy_94 (kC_mem (s := 1) (by decide) hv (by decide)) rfl (lt_b rfl) rfl ?_
    refine r_iconst (v := 0) dX8_copy_97 rfl ?_
    refine r_bipush (v := 12) dX8_copy_98 rfl ?_
    refine e_copyi (a := 0) (b := 0) (c := 12) jc_X8_54 dX8_copy_100 (kC_mem (s := 6) (by decide) hw (by decide)) (kC_mem (s := 6) (by decide) hv (by decide)) rfl rfl (by decide) (by decide) (by decide) rfl rfl rfl (le_b rfl) (le_b rfl) (le_b rfl) (le_b rfl) ?_
    refine r_aload_n (x := (1, w, 0)) dX8_copy_103 rfl ?_
    refine e_getr (z := some (7, w, 0)) fw_X8_43 dX8_copy_104 (kC_mem (s := 1) (by decide) hw (by decide)) rfl (lt_b rfl) rfl ?_
    refine r_iconst (v := 0) dX8_copy_107 rfl ?_
    refine r_aload_n (x := (1, v, 0)) dX8_copy_108 rfl ?_
    refine e_getr (z := some (7, v, 0)) fw_X8_43 dX8_copy_109 (kC_mem (s := 1) (by decide) hv (by decide)) rfl (lt_b rfl) rfl ?_
    refine r_iconst (v := 0) dX8_copy_112 rfl ?_
    refine r_bipush (v := 12) dX8_copy_113 rfl ?_
    refine e_copyi (a := 0) (b := 0) (c := 12) jc_X8_54 dX8_copy_115 (kC_mem (s := 7) (by decide) hw (by decide)) (kC_mem (s := 7) (by decide) hv (by decide)) rfl rfl (by decide) (by decide) (by decide) rfl rfl rfl (le_b rfl) (le_b rfl) (le_b rfl) (le_b rfl) ?_
    have hx := am_inj hf
    subst hx
    exact r_vret dX8_copy_118 rfl (le_b rfl) (le_b rfl)
  | some p1 =>
    rw [he3] at hf
    obtain ⟨h2, hf⟩ := am_chk hf
    refine e_getr (z := some (11, p1, 0)) fw_X8_32 dX8_copy_26 (kC_mem (s := 1) (by decide) hw (by decide)) rfl (lt_b rfl) (by show Option.map _ (u.2.2 (w + 1)) = _; rw [he3]; rfl) ?_
    refine e_put1 (x := some p1) fp_X8_32 dX8_copy_29 (kC_mem (s := 1) (by decide) hv (by decide)) (fun v => by cases v <;> exact ⟨rfl, rfl⟩) ?_
    refine r_aload_n (x := (1, v, 0)) dX8_copy_32 rfl ?_
    refine r_aload_n (x := (1, w, 0)) dX8_copy_33 rfl ?_
    refine e_geti_ (x := u.1 (1, w, 0) 6) fw_X8_36 dX8_copy_34 (kC_mem (s := 1) (by decide) hw (by decide)) rfl (lt_b rfl) (by simp [pi, pl, pr, pci, pcl]) ?_
    refine e_puti fp_X8_36 dX8_copy_37 (kC_mem (s := 1) (by decide) hv (by decide)) rfl (lt_b rfl) rfl rfl rfl ?_
    refine r_iconst (v := 0) dX8_copy_40 rfl ?_
    refine r_istore_n (L' := [some (vR (1, v, 0)), some (vR (1, w, 0)), some (vI (0 : Int32))]) dX8_copy_41 (by decide) rfl ?_
    refine r_weak (L' := [some (vR (1, v, 0)), some (vR (1, w, 0)), some (vI (0 : Int32))]) (And.intro rfl (And.intro rfl (And.intro rfl trivial))) ?_
    obtain ⟨e10, he11, hf⟩ := am_bind hf
    refine K_X8_copy_L42 hv hw 2000 ((0 : Int32), (pi (pr (pi (pi (pi u (1, v, 0) 0 (u.1 (1, w, 0) 0)) (1, v, 0) 3 (u.1 (1, w, 0) 3)) (1, v, 0) 4 (u.1 (1, w, 0) 4)) (v + 1) (some p1)) (1, v, 0) 6 (u.1 (1, w, 0) 6))) _ he11 ?_
    obtain ⟨u12, rfl⟩ : ∃ z, z = e10 := ⟨_, rfl⟩
    show X l _ _ 0 0 false _ kC 0 0 88 [some (vR (1, v, 0)), some (vR (1, w, 0)), none] [] (en u12)
    refine r_aload_n (x := (1, w, 0)) dX8_copy_88 rfl ?_
    refine e_getr (z := some (6, w, 0)) fw_X8_39 dX8_copy_89 (kC_mem (s := 1) (by decide) hw (by decide)) rfl (lt_b rfl) rfl ?_
    refine r_iconst (v := 0) dX8_copy_92 rfl ?_
    refine r_aload_n (x := (1, v, 0)) dX8_copy_93 rfl ?_
    refine e_getr (z := some (6, v, 0)) fw_X8_39 dX8_copy_94 (kC_mem (s := 1) (by decide) hv (by decide)) rfl (lt_b rfl) rfl ?_
    refine r_iconst (v := 0) dX8_copy_97 rfl ?_
    refine r_bipush (v := 12) dX8_copy_98 rfl ?_
    refine e_copyi (a := 0) (b := 0) (c := 12) jc_X8_54 dX8_copy_100 (kC_mem (s := 6) (by decide) hw (by decide)) (kC_mem (s := 6) (by decide) hv (by decide)) rfl rfl (by decide) (by decide) (by decide) rfl rfl rfl (le_b rfl) (le_b rfl) (le_b rfl) (le_b rfl) ?_
    refine r_aload_n (x := (1, w, 0)) dX8_copy_103 rfl ?_
    refine e_getr (z := some (7, w, 0)) fw_X8_43 dX8_copy_104 (kC_mem (s := 1) (by decide) hw (by decide)) rfl (lt_b rfl) rfl ?_
    refine r_iconst (v := 0) dX8_copy_107 rfl ?_
    refine r_aload_n (x := (1, v, 0)) dX8_copy_108 rfl ?_
    refine e_getr (z := some (7, v, 0)) fw_X8_43 dX8_copy_109 (kC_mem (s := 1) (by decide) hv (by decide)) rfl (lt_b rfl) rfl ?_
    refine r_iconst (v := 0) dX8_copy_112 rfl ?_
    refine r_bipush (v := 12) dX8_copy_113 rfl ?_
    refine e_copyi (a := 0) (b := 0) (c := 12) jc_X8_54 dX8_copy_115 (kC_mem (s := 7) (by decide) hw (by decide)) (kC_mem (s := 7) (by decide) hv (by decide)) rfl rfl (by decide) (by decide) (by decide) rfl rfl rfl (le_b rfl) (le_b rfl) (le_b rfl) (le_b rfl) ?_
    have hx := am_inj hf
    subst hx
    exact r_vret dX8_copy_118 rfl (le_b rfl) (le_b rfl)
/-! FireFromFire$Village.hoursBetween -/
theorem dX8_hoursBetween_0 : decode cX8_hoursBetween 0 = .ok (.iload_n 1, 1) := by decide +kernel
theorem dX8_hoursBetween_1 : decode cX8_hoursBetween 1 = .ok (.ifCond .lt 30, 3) := by decide +kernel
theorem dX8_hoursBetween_4 : decode cX8_hoursBetween 4 = .ok (.iload_n 1, 1) := by decide +kernel
theorem dX8_hoursBetween_5 : decode cX8_hoursBetween 5 = .ok (.bipush 6, 2) := by decide +kernel
theorem dX8_hoursBetween_7 : decode cX8_hoursBetween 7 = .ok (.if_icmp .ge 24, 3) := by decide +kernel
theorem dX8_hoursBetween_10 : decode cX8_hoursBetween 10 = .ok (.iload_n 2, 1) := by decide +kernel
theorem dX8_hoursBetween_11 : decode cX8_hoursBetween 11 = .ok (.ifCond .lt 20, 3) := by decide +kernel
theorem dX8_hoursBetween_14 : decode cX8_hoursBetween 14 = .ok (.iload_n 2, 1) := by decide +kernel
theorem dX8_hoursBetween_15 : decode cX8_hoursBetween 15 = .ok (.bipush 6, 2) := by decide +kernel
theorem dX8_hoursBetween_17 : decode cX8_hoursBetween 17 = .ok (.if_icmp .ge 14, 3) := by decide +kernel
theorem dX8_hoursBetween_20 : decode cX8_hoursBetween 20 = .ok (.aload_n 0, 1) := by decide +kernel
theorem dX8_hoursBetween_21 : decode cX8_hoursBetween 21 = .ok (.getfield 23, 3) := by decide +kernel
theorem dX8_hoursBetween_24 : decode cX8_hoursBetween 24 = .ok (.iload_n 1, 1) := by decide +kernel
theorem dX8_hoursBetween_25 : decode cX8_hoursBetween 25 = .ok (.aaload, 1) := by decide +kernel
theorem dX8_hoursBetween_26 : decode cX8_hoursBetween 26 = .ok (.iload_n 2, 1) := by decide +kernel
theorem dX8_hoursBetween_27 : decode cX8_hoursBetween 27 = .ok (.iaload, 1) := by decide +kernel
theorem dX8_hoursBetween_28 : decode cX8_hoursBetween 28 = .ok (.goto 4, 3) := by decide +kernel
theorem dX8_hoursBetween_31 : decode cX8_hoursBetween 31 = .ok (.iconst 0, 1) := by decide +kernel
theorem dX8_hoursBetween_32 : decode cX8_hoursBetween 32 = .ok (.ireturn, 1) := by decide +kernel
def f_X8_hoursBetween (v : Nat) (a0 : Int32) (a1 : Int32) (u : PM) : Option (Int32) :=
  if a0 < 0 then
    some (0 : Int32)
  else
  if (6 : Int32) ≤ a0 then
    some (0 : Int32)
  else
  if a1 < 0 then
    some (0 : Int32)
  else
  if (6 : Int32) ≤ a1 then
    some (0 : Int32)
  else
  if a0 < 0 ∨ 6 ≤ a0.toNatClampNeg then none else
  if a1 < 0 ∨ 6 ≤ a1.toNatClampNeg then none else
  some (u.1 (5, v, a0.toNatClampNeg) a1.toNatClampNeg)
set_option maxHeartbeats 4000000 in
set_option maxRecDepth 20000 in
theorem C_X8_hoursBetween {l : Launch} {v : Nat} (hv : v < 4) {a0 : Int32} {a1 : Int32} {u : PM} {x : Int32} (hf : f_X8_hoursBetween v a0 a1 u = some x) : Ev l mX8_hoursBetween 1 0 0 false [vR (1, v, 0), vI a0, vI a1] kC (en u) (some (vI x), kC, en u) := by
  refine Ev_of (by decide +kernel) (le_b rfl) ?_
  unfold f_X8_hoursBetween at hf
  show X l mX8_hoursBetween 1 0 0 false _ kC 0 0 0 [some (vR (1, v, 0)), some (vI a0), some (vI a1)] [] (en u)
  refine r_iload_n (x := a0) dX8_hoursBetween_0 rfl ?_
  refine r_if_lt (tgt := 31) dX8_hoursBetween_1 (by decide) (fun hc => ?_) (fun hc => ?_)
  · have hf := (am_if hf).1 hc
    refine r_iconst (v := 0) dX8_hoursBetween_31 rfl ?_
    have hx := am_inj hf
    subst hx
    exact r_iret dX8_hoursBetween_32 rfl rfl (le_b rfl) (le_b rfl)
  · have hf := (am_if hf).2 hc
    refine r_iload_n (x := a0) dX8_hoursBetween_4 rfl ?_
    refine r_bipush (v := 6) dX8_hoursBetween_5 rfl ?_
    refine r_icmp_ge (tgt := 31) dX8_hoursBetween_7 (by decide) (fun hc => ?_) (fun hc => ?_)
    · have hf := (am_if hf).1 hc
      refine r_iconst (v := 0) dX8_hoursBetween_31 rfl ?_
      have hx := am_inj hf
      subst hx
      exact r_iret dX8_hoursBetween_32 rfl rfl (le_b rfl) (le_b rfl)
    · have hf := (am_if hf).2 hc
      refine r_iload_n (x := a1) dX8_hoursBetween_10 rfl ?_
      refine r_if_lt (tgt := 31) dX8_hoursBetween_11 (by decide) (fun hc => ?_) (fun hc => ?_)
      · have hf := (am_if hf).1 hc
        refine r_iconst (v := 0) dX8_hoursBetween_31 rfl ?_
        have hx := am_inj hf
        subst hx
        exact r_iret dX8_hoursBetween_32 rfl rfl (le_b rfl) (le_b rfl)
      · have hf := (am_if hf).2 hc
        refine r_iload_n (x := a1) dX8_hoursBetween_14 rfl ?_
        refine r_bipush (v := 6) dX8_hoursBetween_15 rfl ?_
        refine r_icmp_ge (tgt := 31) dX8_hoursBetween_17 (by decide) (fun hc => ?_) (fun hc => ?_)
        · have hf := (am_if hf).1 hc
          refine r_iconst (v := 0) dX8_hoursBetween_31 rfl ?_
          have hx := am_inj hf
          subst hx
          exact r_iret dX8_hoursBetween_32 rfl rfl (le_b rfl) (le_b rfl)
        · have hf := (am_if hf).2 hc
          refine r_aload_n (x := (1, v, 0)) dX8_hoursBetween_20 rfl ?_
          refine e_getr (z := some (4, v, 0)) fw_X8_23 dX8_hoursBetween_21 (kC_mem (s := 1) (by decide) hv (by decide)) rfl (lt_b rfl) rfl ?_
          refine r_iload_n (x := a0) dX8_hoursBetween_24 rfl ?_
          obtain ⟨h1, hf⟩ := am_nchk hf
          refine e_aald (n := a0.toNatClampNeg) (z := some (5, v, a0.toNatClampNeg)) dX8_hoursBetween_25 (kC_mem (s := 4) (by decide) hv (by decide)) ⟨le_b rfl, lt_b rfl⟩ h1 rfl rfl ?_
          refine r_iload_n (x := a1) dX8_hoursBetween_26 rfl ?_
          obtain ⟨h2, hf⟩ := am_nchk hf
          refine e_iald (n := a1.toNatClampNeg) dX8_hoursBetween_27 (kC_mem (s := 5) (by decide) hv (vp_lt h1)) rfl h2 rfl rfl ?_
          refine r_goto (tgt := 32) dX8_hoursBetween_28 (by decide) ?_
          have hx := am_inj hf
          subst hx
          exact r_iret dX8_hoursBetween_32 rfl rfl (le_b rfl) (le_b rfl)
/-! FireFromFire$Village.join -/
theorem dX8_join_0 : decode cX8_join 0 = .ok (.iload_n 1, 1) := by decide +kernel
theorem dX8_join_1 : decode cX8_join 1 = .ok (.ifCond .lt 37, 3) := by decide +kernel
theorem dX8_join_4 : decode cX8_join 4 = .ok (.iload_n 1, 1) := by decide +kernel
theorem dX8_join_5 : decode cX8_join 5 = .ok (.bipush 6, 2) := by decide +kernel
theorem dX8_join_7 : decode cX8_join 7 = .ok (.if_icmp .ge 31, 3) := by decide +kernel
theorem dX8_join_10 : decode cX8_join 10 = .ok (.iload_n 2, 1) := by decide +kernel
theorem dX8_join_11 : decode cX8_join 11 = .ok (.ifCond .lt 27, 3) := by decide +kernel
theorem dX8_join_14 : decode cX8_join 14 = .ok (.iload_n 2, 1) := by decide +kernel
theorem dX8_join_15 : decode cX8_join 15 = .ok (.bipush 6, 2) := by decide +kernel
theorem dX8_join_17 : decode cX8_join 17 = .ok (.if_icmp .ge 21, 3) := by decide +kernel
theorem dX8_join_20 : decode cX8_join 20 = .ok (.aload_n 0, 1) := by decide +kernel
theorem dX8_join_21 : decode cX8_join 21 = .ok (.getfield 23, 3) := by decide +kernel
theorem dX8_join_24 : decode cX8_join 24 = .ok (.iload_n 1, 1) := by decide +kernel
theorem dX8_join_25 : decode cX8_join 25 = .ok (.aaload, 1) := by decide +kernel
theorem dX8_join_26 : decode cX8_join 26 = .ok (.iload_n 2, 1) := by decide +kernel
theorem dX8_join_27 : decode cX8_join 27 = .ok (.iload_n 3, 1) := by decide +kernel
theorem dX8_join_28 : decode cX8_join 28 = .ok (.iastore, 1) := by decide +kernel
theorem dX8_join_29 : decode cX8_join 29 = .ok (.aload_n 0, 1) := by decide +kernel
theorem dX8_join_30 : decode cX8_join 30 = .ok (.getfield 23, 3) := by decide +kernel
theorem dX8_join_33 : decode cX8_join 33 = .ok (.iload_n 2, 1) := by decide +kernel
theorem dX8_join_34 : decode cX8_join 34 = .ok (.aaload, 1) := by decide +kernel
theorem dX8_join_35 : decode cX8_join 35 = .ok (.iload_n 1, 1) := by decide +kernel
theorem dX8_join_36 : decode cX8_join 36 = .ok (.iload_n 3, 1) := by decide +kernel
theorem dX8_join_37 : decode cX8_join 37 = .ok (.iastore, 1) := by decide +kernel
theorem dX8_join_38 : decode cX8_join 38 = .ok (.return_, 1) := by decide +kernel
def f_X8_join (v : Nat) (a0 : Int32) (a1 : Int32) (a2 : Int32) (u : PM) : Option (PM) :=
  if a0 < 0 then
    some u
  else
  if (6 : Int32) ≤ a0 then
    some u
  else
  if a1 < 0 then
    some u
  else
  if (6 : Int32) ≤ a1 then
    some u
  else
  if a0 < 0 ∨ 6 ≤ a0.toNatClampNeg then none else
  if a1 < 0 ∨ 6 ≤ a1.toNatClampNeg then none else
  some (pi (pi u (5, v, a0.toNatClampNeg) a1.toNatClampNeg a2) (5, v, a1.toNatClampNeg) a0.toNatClampNeg a2)
set_option maxHeartbeats 4000000 in
set_option maxRecDepth 20000 in
theorem C_X8_join {l : Launch} {v : Nat} (hv : v < 4) {a0 : Int32} {a1 : Int32} {a2 : Int32} {u : PM} {x : PM} (hf : f_X8_join v a0 a1 a2 u = some x) : Ev l mX8_join 1 0 0 false [vR (1, v, 0), vI a0, vI a1, vI a2] kC (en u) (none, kC, en x) := by
  refine Ev_of (by decide +kernel) (le_b rfl) ?_
  unfold f_X8_join at hf
  show X l mX8_join 1 0 0 false _ kC 0 0 0 [some (vR (1, v, 0)), some (vI a0), some (vI a1), some (vI a2)] [] (en u)
  refine r_iload_n (x := a0) dX8_join_0 rfl ?_
  refine r_if_lt (tgt := 38) dX8_join_1 (by decide) (fun hc => ?_) (fun hc => ?_)
  · have hf := (am_if hf).1 hc
    have hx := am_inj hf
    subst hx
    exact r_vret dX8_join_38 rfl (le_b rfl) (le_b rfl)
  · have hf := (am_if hf).2 hc
    refine r_iload_n (x := a0) dX8_join_4 rfl ?_
    refine r_bipush (v := 6) dX8_join_5 rfl ?_
    refine r_icmp_ge (tgt := 38) dX8_join_7 (by decide) (fun hc => ?_) (fun hc => ?_)
    · have hf := (am_if hf).1 hc
      have hx := am_inj hf
      subst hx
      exact r_vret dX8_join_38 rfl (le_b rfl) (le_b rfl)
    · have hf := (am_if hf).2 hc
      refine r_iload_n (x := a1) dX8_join_10 rfl ?_
      refine r_if_lt (tgt := 38) dX8_join_11 (by decide) (fun hc => ?_) (fun hc => ?_)
      · have hf := (am_if hf).1 hc
        have hx := am_inj hf
        subst hx
        exact r_vret dX8_join_38 rfl (le_b rfl) (le_b rfl)
      · have hf := (am_if hf).2 hc
        refine r_iload_n (x := a1) dX8_join_14 rfl ?_
        refine r_bipush (v := 6) dX8_join_15 rfl ?_
        refine r_icmp_ge (tgt := 38) dX8_join_17 (by decide) (fun hc => ?_) (fun hc => ?_)
        · have hf := (am_if hf).1 hc
          have hx := am_inj hf
          subst hx
          exact r_vret dX8_join_38 rfl (le_b rfl) (le_b rfl)
        · have hf := (am_if hf).2 hc
          refine r_aload_n (x := (1, v, 0)) dX8_join_20 rfl ?_
          refine e_getr (z := some (4, v, 0)) fw_X8_23 dX8_join_21 (kC_mem (s := 1) (by decide) hv (by decide)) rfl (lt_b rfl) rfl ?_
          refine r_iload_n (x := a0) dX8_join_24 rfl ?_
          obtain ⟨h1, hf⟩ := am_nchk hf
          refine e_aald (n := a0.toNatClampNeg) (z := some (5, v, a0.toNatClampNeg)) dX8_join_25 (kC_mem (s := 4) (by decide) hv (by decide)) ⟨le_b rfl, lt_b rfl⟩ h1 rfl rfl ?_
          refine r_iload_n (x := a1) dX8_join_26 rfl ?_
          refine r_iload_n (x := a2) dX8_join_27 rfl ?_
          obtain ⟨h2, hf⟩ := am_nchk hf
          refine e_iast (n := a1.toNatClampNeg) dX8_join_28 (kC_mem (s := 5) (by decide) hv (vp_lt h1)) rfl h2 rfl ?_
          refine r_aload_n (x := (1, v, 0)) dX8_join_29 rfl ?_
          refine e_getr (z := some (4, v, 0)) fw_X8_23 dX8_join_30 (kC_mem (s := 1) (by decide) hv (by decide)) rfl (lt_b rfl) rfl ?_
          refine r_iload_n (x := a1) dX8_join_33 rfl ?_
          refine e_aald (n := a1.toNatClampNeg) (z := some (5, v, a1.toNatClampNeg)) dX8_join_34 (kC_mem (s := 4) (by decide) hv (by decide)) ⟨le_b rfl, lt_b rfl⟩ h2 rfl rfl ?_
          refine r_iload_n (x := a0) dX8_join_35 rfl ?_
          refine r_iload_n (x := a2) dX8_join_36 rfl ?_
          refine e_iast (n := a0.toNatClampNeg) dX8_join_37 (kC_mem (s := 5) (by decide) hv (vp_lt h2)) rfl h1 rfl ?_
          have hx := am_inj hf
          subst hx
          exact r_vret dX8_join_38 rfl (le_b rfl) (le_b rfl)
/-! FireFromFire$Village.litBits -/
theorem dX8_litBits_0 : decode cX8_litBits 0 = .ok (.iconst 0, 1) := by decide +kernel
theorem dX8_litBits_1 : decode cX8_litBits 1 = .ok (.istore_n 1, 1) := by decide +kernel
theorem dX8_litBits_2 : decode cX8_litBits 2 = .ok (.iconst 0, 1) := by decide +kernel
theorem dX8_litBits_3 : decode cX8_litBits 3 = .ok (.istore_n 2, 1) := by decide +kernel
theorem dX8_litBits_4 : decode cX8_litBits 4 = .ok (.iload_n 2, 1) := by decide +kernel
theorem dX8_litBits_5 : decode cX8_litBits 5 = .ok (.aload_n 0, 1) := by decide +kernel
theorem dX8_litBits_6 : decode cX8_litBits 6 = .ok (.getfield 9, 3) := by decide +kernel
theorem dX8_litBits_9 : decode cX8_litBits 9 = .ok (.if_icmp .ge 33, 3) := by decide +kernel
theorem dX8_litBits_12 : decode cX8_litBits 12 = .ok (.iload_n 2, 1) := by decide +kernel
theorem dX8_litBits_13 : decode cX8_litBits 13 = .ok (.bipush 6, 2) := by decide +kernel
theorem dX8_litBits_15 : decode cX8_litBits 15 = .ok (.if_icmp .ge 27, 3) := by decide +kernel
theorem dX8_litBits_18 : decode cX8_litBits 18 = .ok (.aload_n 0, 1) := by decide +kernel
theorem dX8_litBits_19 : decode cX8_litBits 19 = .ok (.getfield 17, 3) := by decide +kernel
theorem dX8_litBits_22 : decode cX8_litBits 22 = .ok (.iload_n 2, 1) := by decide +kernel
theorem dX8_litBits_23 : decode cX8_litBits 23 = .ok (.aaload, 1) := by decide +kernel
theorem dX8_litBits_24 : decode cX8_litBits 24 = .ok (.getfield 60, 3) := by decide +kernel
theorem dX8_litBits_27 : decode cX8_litBits 27 = .ok (.ifCond .eq 9, 3) := by decide +kernel
theorem dX8_litBits_30 : decode cX8_litBits 30 = .ok (.iload_n 1, 1) := by decide +kernel
theorem dX8_litBits_31 : decode cX8_litBits 31 = .ok (.iconst 1, 1) := by decide +kernel
theorem dX8_litBits_32 : decode cX8_litBits 32 = .ok (.iload_n 2, 1) := by decide +kernel
theorem dX8_litBits_33 : decode cX8_litBits 33 = .ok (.ishl, 1) := by decide +kernel
theorem dX8_litBits_34 : decode cX8_litBits 34 = .ok (.ior, 1) := by decide +kernel
theorem dX8_litBits_35 : decode cX8_litBits 35 = .ok (.istore_n 1, 1) := by decide +kernel
theorem dX8_litBits_36 : decode cX8_litBits 36 = .ok (.iinc 2 1, 3) := by decide +kernel
theorem dX8_litBits_39 : decode cX8_litBits 39 = .ok (.goto (-35), 3) := by decide +kernel
theorem dX8_litBits_42 : decode cX8_litBits 42 = .ok (.iload_n 1, 1) := by decide +kernel
theorem dX8_litBits_43 : decode cX8_litBits 43 = .ok (.ireturn, 1) := by decide +kernel
def f_X8_litBits_L4 (n0 : Nat)  (u : PM) : Int32 × Int32 → Option ((Int32 × Int32) ⊕ (Int32)) := fun (x1 , x2) =>
  if (u.1 (1, n0, 0) 0) ≤ x2 then
    some (.inr (x1))
  else
  if (6 : Int32) ≤ x2 then
    some (.inr (x1))
  else
  if x2 < 0 ∨ 6 ≤ x2.toNatClampNeg then none else
  if (u.1 (3, n0, x2.toNatClampNeg) 1) = 0 then
    some (.inl (x1, x2 + (1 : Int32)))
  else
  some (.inl (x1 ||| ((1 : Int32) <<< (x2 &&& 31)), x2 + (1 : Int32)))
set_option maxHeartbeats 4000000 in
set_option maxRecDepth 20000 in
theorem K_X8_litBits_L4 {l : Launch} {T : Option AV × List Key × AM} {n0 : Nat} (hn0 : n0 < 4)  {u : PM} : ∀ (n : Nat) (s : Int32 × Int32) (e0 : Int32), am_loop (f_X8_litBits_L4 n0 u) n s = some e0 → (fun e : Int32 => X l mX8_litBits 1 0 0 false T kC 0 0 42 [none, some (vI e), none] [] (en u)) e0 → X l mX8_litBits 1 0 0 false T kC 0 0 4 [some (vR (1, n0, 0)), some (vI s.1), some (vI s.2)] [] (en u) := by
  refine am_loop_of ?_
  intro s x hf k1 k2
  obtain ⟨x1 , x2⟩ := s
  unfold f_X8_litBits_L4 at hf
  show X l mX8_litBits 1 0 0 false T kC 0 0 4 [some (vR (1, n0, 0)), some (vI x1), some (vI x2)] [] (en u)
  refine r_iload_n (x := x2) dX8_litBits_4 rfl ?_
  refine r_aload_n (x := (1, n0, 0)) dX8_litBits_5 rfl ?_
  refine e_geti fw_X8_9 dX8_litBits_6 (kC_mem (s := 1) (by decide) hn0 (by decide)) rfl (lt_b rfl) ?_
  refine r_icmp_ge (tgt := 42) dX8_litBits_9 (by decide) (fun hc => ?_) (fun hc => ?_)
  · have hf := (am_if hf).1 hc
    refine r_weak (L' := [none, some (vI x1), none]) (And.intro rfl trivial) ?_
    exact k2 (x1) (am_inj hf).symm
  · have hf := (am_if hf).2 hc
    refine r_iload_n (x := x2) dX8_litBits_12 rfl ?_
    refine r_bipush (v := 6) dX8_litBits_13 rfl ?_
    refine r_icmp_ge (tgt := 42) dX8_litBits_15 (by decide) (fun hc => ?_) (fun hc => ?_)
    · have hf := (am_if hf).1 hc
      refine r_weak (L' := [none, some (vI x1), none]) (And.intro rfl trivial) ?_
      exact k2 (x1) (am_inj hf).symm
    · have hf := (am_if hf).2 hc
      refine r_aload_n (x := (1, n0, 0)) dX8_litBits_18 rfl ?_
      refine e_getr (z := some (2, n0, 0)) fw_X8_17 dX8_litBits_19 (kC_mem (s := 1) (by decide) hn0 (by decide)) rfl (lt_b rfl) rfl ?_
      refine r_iload_n (x := x2) dX8_litBits_22 rfl ?_
      obtain ⟨h1, hf⟩ := am_nchk hf
      refine e_aald (n := x2.toNatClampNeg) (z := some (3, n0, x2.toNatClampNeg)) dX8_litBits_23 (kC_mem (s := 2) (by decide) hn0 (by decide)) ⟨le_b rfl, lt_b rfl⟩ h1 rfl rfl ?_
      refine e_geti fw_X8_60 dX8_litBits_24 (kC_mem (s := 3) (by decide) hn0 (vp_lt h1)) rfl (lt_b rfl) ?_
      refine r_if_eq (tgt := 36) dX8_litBits_27 (by decide) (fun hc => ?_) (fun hc => ?_)
      · have hf := (am_if hf).1 hc
        refine r_iinc (x := x2) (v := x2 + (1 : Int32)) (L' := [some (vR (1, n0, 0)), some (vI x1), some (vI (x2 + (1 : Int32)))]) dX8_litBits_36 rfl rfl (lt_b rfl) rfl ?_
        refine r_goto (tgt := 4) dX8_litBits_39 (by decide) ?_
        refine r_weak (L' := [some (vR (1, n0, 0)), some (vI x1), some (vI (x2 + (1 : Int32)))]) (And.intro rfl (And.intro rfl (And.intro rfl trivial))) ?_
        exact k1 (x1, x2 + (1 : Int32)) (am_inj hf).symm
      · have hf := (am_if hf).2 hc
        refine r_iload_n (x := x1) dX8_litBits_30 rfl ?_
        refine r_iconst (v := 1) dX8_litBits_31 rfl ?_
        refine r_iload_n (x := x2) dX8_litBits_32 rfl ?_
        refine r_ishl dX8_litBits_33 ?_
        refine r_ior dX8_litBits_34 ?_
        refine r_istore_n (L' := [some (vR (1, n0, 0)), some (vI (x1 ||| ((1 : Int32) <<< (x2 &&& 31)))), some (vI x2)]) dX8_litBits_35 (by decide) rfl ?_
        refine r_iinc (x := x2) (v := x2 + (1 : Int32)) (L' := [some (vR (1, n0, 0)), some (vI (x1 ||| ((1 : Int32) <<< (x2 &&& 31)))), some (vI (x2 + (1 : Int32)))]) dX8_litBits_36 rfl rfl (lt_b rfl) rfl ?_
        refine r_goto (tgt := 4) dX8_litBits_39 (by decide) ?_
        refine r_weak (L' := [some (vR (1, n0, 0)), some (vI (x1 ||| ((1 : Int32) <<< (x2 &&& 31)))), some (vI (x2 + (1 : Int32)))]) (And.intro rfl (And.intro rfl (And.intro rfl trivial))) ?_
        exact k1 (x1 ||| ((1 : Int32) <<< (x2 &&& 31)), x2 + (1 : Int32)) (am_inj hf).symm
def f_X8_litBits (v : Nat)  (u : PM) : Option (Int32) :=
  (am_loop (f_X8_litBits_L4 v u) 2000 ((0 : Int32), (0 : Int32))).bind fun y4 =>
  some y4
set_option maxHeartbeats 4000000 in
set_option maxRecDepth 20000 in
theorem C_X8_litBits {l : Launch} {v : Nat} (hv : v < 4)  {u : PM} {x : Int32} (hf : f_X8_litBits v u = some x) : Ev l mX8_litBits 1 0 0 false [vR (1, v, 0)] kC (en u) (some (vI x), kC, en u) := by
  refine Ev_of (by decide +kernel) (le_b rfl) ?_
  unfold f_X8_litBits at hf
  show X l mX8_litBits 1 0 0 false _ kC 0 0 0 [some (vR (1, v, 0)), none, none] [] (en u)
  refine r_iconst (v := 0) dX8_litBits_0 rfl ?_
  refine r_istore_n (L' := [some (vR (1, v, 0)), some (vI (0 : Int32)), none]) dX8_litBits_1 (by decide) rfl ?_
  refine r_iconst (v := 0) dX8_litBits_2 rfl ?_
  refine r_istore_n (L' := [some (vR (1, v, 0)), some (vI (0 : Int32)), some (vI (0 : Int32))]) dX8_litBits_3 (by decide) rfl ?_
  refine r_weak (L' := [some (vR (1, v, 0)), some (vI (0 : Int32)), some (vI (0 : Int32))]) (And.intro rfl (And.intro rfl (And.intro rfl trivial))) ?_
  obtain ⟨e2, he3, hf⟩ := am_bind hf
  refine K_X8_litBits_L4 hv 2000 ((0 : Int32), (0 : Int32)) _ he3 ?_
  obtain ⟨y4, rfl⟩ : ∃ z, z = e2 := ⟨_, rfl⟩
  show X l _ _ 0 0 false _ kC 0 0 42 [none, some (vI y4), none] [] (en u)
  refine r_iload_n (x := y4) dX8_litBits_42 rfl ?_
  have hx := am_inj hf
  subst hx
  exact r_iret dX8_litBits_43 rfl rfl (le_b rfl) (le_b rfl)
/-! FireFromFire$Village.litCount -/
theorem dX8_litCount_0 : decode cX8_litCount 0 = .ok (.aload_n 0, 1) := by decide +kernel
theorem dX8_litCount_1 : decode cX8_litCount 1 = .ok (.invokevirtual 64, 3) := by decide +kernel
theorem dX8_litCount_4 : decode cX8_litCount 4 = .ok (.invokestatic 68, 3) := by decide +kernel
theorem dX8_litCount_7 : decode cX8_litCount 7 = .ok (.ireturn, 1) := by decide +kernel
def f_X8_litCount (v : Nat)  (u : PM) : Option (Int32) :=
  (f_X8_litBits v u).bind fun r1 =>
  (f_J6_bitCount_0f7a4 r1 u).bind fun r3 =>
  some r3
set_option maxHeartbeats 4000000 in
set_option maxRecDepth 20000 in
theorem C_X8_litCount {l : Launch} {v : Nat} (hv : v < 4)  {u : PM} {x : Int32} (hf : f_X8_litCount v u = some x) : Ev l mX8_litCount 2 0 0 false [vR (1, v, 0)] kC (en u) (some (vI x), kC, en u) := by
  refine Ev_of (by decide +kernel) (le_b rfl) ?_
  unfold f_X8_litCount at hf
  show X l mX8_litCount 2 0 0 false _ kC 0 0 0 [some (vR (1, v, 0))] [] (en u)
  refine r_aload_n (x := (1, v, 0)) dX8_litCount_0 rfl ?_
  obtain ⟨r1, hr2, hf⟩ := am_bind hf
  refine r_callV (as := []) (st := []) (n := 0) mw_X8_64 mv_X8_litBits (C_X8_litBits (l := l) hv hr2) (le_b rfl) dX8_litCount_1 (kC_mem (s := 1) (by decide) hv (by decide)) rfl rfl rfl (le_b rfl) (le_b rfl) (le_b rfl) ?_
  show X l _ _ 0 0 false _ kC 0 0 4 [some (vR (1, v, 0))] [vI r1] (en u)
  obtain ⟨r3, hr4, hf⟩ := am_bind hf
  refine r_callS (as := [vI r1]) (st := []) (n := 1) mw_X8_68 ms_J6_bitCount_0f7a4 (C_J6_bitCount_0f7a4 (l := l) hr4) (le_b rfl) dX8_litCount_4 rfl (le_b rfl) (le_b rfl) (le_b rfl) ?_
  show X l _ _ 0 0 false _ kC 0 0 7 [some (vR (1, v, 0))] [vI r3] (en u)
  have hx := am_inj hf
  subst hx
  exact r_iret dX8_litCount_7 rfl rfl (le_b rfl) (le_b rfl)
/-! FireFromFire$Village.payAll -/
theorem dX8_payAll_0 : decode cX8_payAll 0 = .ok (.iconst 0, 1) := by decide +kernel
theorem dX8_payAll_1 : decode cX8_payAll 1 = .ok (.istore_n 2, 1) := by decide +kernel
theorem dX8_payAll_2 : decode cX8_payAll 2 = .ok (.iload_n 2, 1) := by decide +kernel
theorem dX8_payAll_3 : decode cX8_payAll 3 = .ok (.aload_n 0, 1) := by decide +kernel
theorem dX8_payAll_4 : decode cX8_payAll 4 = .ok (.getfield 9, 3) := by decide +kernel
theorem dX8_payAll_7 : decode cX8_payAll 7 = .ok (.if_icmp .ge 35, 3) := by decide +kernel
theorem dX8_payAll_10 : decode cX8_payAll 10 = .ok (.iload_n 2, 1) := by decide +kernel
theorem dX8_payAll_11 : decode cX8_payAll 11 = .ok (.bipush 6, 2) := by decide +kernel
theorem dX8_payAll_13 : decode cX8_payAll 13 = .ok (.if_icmp .ge 29, 3) := by decide +kernel
theorem dX8_payAll_16 : decode cX8_payAll 16 = .ok (.aload_n 0, 1) := by decide +kernel
theorem dX8_payAll_17 : decode cX8_payAll 17 = .ok (.getfield 17, 3) := by decide +kernel
theorem dX8_payAll_20 : decode cX8_payAll 20 = .ok (.iload_n 2, 1) := by decide +kernel
theorem dX8_payAll_21 : decode cX8_payAll 21 = .ok (.aaload, 1) := by decide +kernel
theorem dX8_payAll_22 : decode cX8_payAll 22 = .ok (.iconst 4, 1) := by decide +kernel
theorem dX8_payAll_23 : decode cX8_payAll 23 = .ok (.putfield 74, 3) := by decide +kernel
theorem dX8_payAll_26 : decode cX8_payAll 26 = .ok (.aload_n 0, 1) := by decide +kernel
theorem dX8_payAll_27 : decode cX8_payAll 27 = .ok (.getfield 17, 3) := by decide +kernel
theorem dX8_payAll_30 : decode cX8_payAll 30 = .ok (.iload_n 2, 1) := by decide +kernel
theorem dX8_payAll_31 : decode cX8_payAll 31 = .ok (.aaload, 1) := by decide +kernel
theorem dX8_payAll_32 : decode cX8_payAll 32 = .ok (.iload_n 1, 1) := by decide +kernel
theorem dX8_payAll_33 : decode cX8_payAll 33 = .ok (.putfield 77, 3) := by decide +kernel
theorem dX8_payAll_36 : decode cX8_payAll 36 = .ok (.iinc 2 1, 3) := by decide +kernel
theorem dX8_payAll_39 : decode cX8_payAll 39 = .ok (.goto (-37), 3) := by decide +kernel
theorem dX8_payAll_42 : decode cX8_payAll 42 = .ok (.return_, 1) := by decide +kernel
def f_X8_payAll_L2 (n0 : Nat) (c1 : Int32) : Int32 × PM → Option ((Int32 × PM) ⊕ (PM)) := fun (x2 , u) =>
  if (u.1 (1, n0, 0) 0) ≤ x2 then
    some (.inr (u))
  else
  if (6 : Int32) ≤ x2 then
    some (.inr (u))
  else
  if x2 < 0 ∨ 6 ≤ x2.toNatClampNeg then none else
  some (.inl (x2 + (1 : Int32), (pi (pi u (3, n0, x2.toNatClampNeg) 2 (4 : Int32)) (3, n0, x2.toNatClampNeg) 3 c1)))
set_option maxHeartbeats 4000000 in
set_option maxRecDepth 20000 in
theorem K_X8_payAll_L2 {l : Launch} {T : Option AV × List Key × AM} {n0 : Nat} (hn0 : n0 < 4) {c1 : Int32} : ∀ (n : Nat) (s : Int32 × PM) (e0 : PM), am_loop (f_X8_payAll_L2 n0 c1) n s = some e0 → (fun e : PM => X l mX8_payAll 1 0 0 false T kC 0 0 42 [none, none, none] [] (en e)) e0 → X l mX8_payAll 1 0 0 false T kC 0 0 2 [some (vR (1, n0, 0)), some (vI c1), some (vI s.1)] [] (en s.2) := by
  refine am_loop_of ?_
  intro s x hf k1 k2
  obtain ⟨x2 , u⟩ := s
  unfold f_X8_payAll_L2 at hf
  show X l mX8_payAll 1 0 0 false T kC 0 0 2 [some (vR (1, n0, 0)), some (vI c1), some (vI x2)] [] (en u)
  refine r_iload_n (x := x2) dX8_payAll_2 rfl ?_
  refine r_aload_n (x := (1, n0, 0)) dX8_payAll_3 rfl ?_
  refine e_geti fw_X8_9 dX8_payAll_4 (kC_mem (s := 1) (by decide) hn0 (by decide)) rfl (lt_b rfl) ?_
  refine r_icmp_ge (tgt := 42) dX8_payAll_7 (by decide) (fun hc => ?_) (fun hc => ?_)
  · have hf := (am_if hf).1 hc
    refine r_weak (L' := [none, none, none]) trivial ?_
    exact k2 (u) (am_inj hf).symm
  · have hf := (am_if hf).2 hc
    refine r_iload_n (x := x2) dX8_payAll_10 rfl ?_
    refine r_bipush (v := 6) dX8_payAll_11 rfl ?_
    refine r_icmp_ge (tgt := 42) dX8_payAll_13 (by decide) (fun hc => ?_) (fun hc => ?_)
    · have hf := (am_if hf).1 hc
      refine r_weak (L' := [none, none, none]) trivial ?_
      exact k2 (u) (am_inj hf).symm
    · have hf := (am_if hf).2 hc
      refine r_aload_n (x := (1, n0, 0)) dX8_payAll_16 rfl ?_
      refine e_getr (z := some (2, n0, 0)) fw_X8_17 dX8_payAll_17 (kC_mem (s := 1) (by decide) hn0 (by decide)) rfl (lt_b rfl) rfl ?_
      refine r_iload_n (x := x2) dX8_payAll_20 rfl ?_
      obtain ⟨h1, hf⟩ := am_nchk hf
      refine e_aald (n := x2.toNatClampNeg) (z := some (3, n0, x2.toNatClampNeg)) dX8_payAll_21 (kC_mem (s := 2) (by decide) hn0 (by decide)) ⟨le_b rfl, lt_b rfl⟩ h1 rfl rfl ?_
      refine r_iconst (v := 4) dX8_payAll_22 rfl ?_
      refine e_puti fp_X8_74 dX8_payAll_23 (kC_mem (s := 3) (by decide) hn0 (vp_lt h1)) rfl (lt_b rfl) rfl rfl rfl ?_
      refine r_aload_n (x := (1, n0, 0)) dX8_payAll_26 rfl ?_
      refine e_getr (z := some (2, n0, 0)) fw_X8_17 dX8_payAll_27 (kC_mem (s := 1) (by decide) hn0 (by decide)) rfl (lt_b rfl) rfl ?_
      refine r_iload_n (x := x2) dX8_payAll_30 rfl ?_
      refine e_aald (n := x2.toNatClampNeg) (z := some (3, n0, x2.toNatClampNeg)) dX8_payAll_31 (kC_mem (s := 2) (by decide) hn0 (by decide)) ⟨le_b rfl, lt_b rfl⟩ h1 rfl rfl ?_
      refine r_iload_n (x := c1) dX8_payAll_32 rfl ?_
      refine e_puti fp_X8_77 dX8_payAll_33 (kC_mem (s := 3) (by decide) hn0 (vp_lt h1)) rfl (lt_b rfl) rfl rfl rfl ?_
      refine r_iinc (x := x2) (v := x2 + (1 : Int32)) (L' := [some (vR (1, n0, 0)), some (vI c1), some (vI (x2 + (1 : Int32)))]) dX8_payAll_36 rfl rfl (lt_b rfl) rfl ?_
      refine r_goto (tgt := 2) dX8_payAll_39 (by decide) ?_
      refine r_weak (L' := [some (vR (1, n0, 0)), some (vI c1), some (vI (x2 + (1 : Int32)))]) (And.intro rfl (And.intro rfl (And.intro rfl trivial))) ?_
      exact k1 (x2 + (1 : Int32), (pi (pi u (3, n0, x2.toNatClampNeg) 2 (4 : Int32)) (3, n0, x2.toNatClampNeg) 3 c1)) (am_inj hf).symm
def f_X8_payAll (v : Nat) (a0 : Int32) (u : PM) : Option (PM) :=
  (am_loop (f_X8_payAll_L2 v a0) 2000 ((0 : Int32), u)).bind fun u4 =>
  some u4
set_option maxHeartbeats 4000000 in
set_option maxRecDepth 20000 in
theorem C_X8_payAll {l : Launch} {v : Nat} (hv : v < 4) {a0 : Int32} {u : PM} {x : PM} (hf : f_X8_payAll v a0 u = some x) : Ev l mX8_payAll 1 0 0 false [vR (1, v, 0), vI a0] kC (en u) (none, kC, en x) := by
  refine Ev_of (by decide +kernel) (le_b rfl) ?_
  unfold f_X8_payAll at hf
  show X l mX8_payAll 1 0 0 false _ kC 0 0 0 [some (vR (1, v, 0)), some (vI a0), none] [] (en u)
  refine r_iconst (v := 0) dX8_payAll_0 rfl ?_
  refine r_istore_n (L' := [some (vR (1, v, 0)), some (vI a0), some (vI (0 : Int32))]) dX8_payAll_1 (by decide) rfl ?_
  refine r_weak (L' := [some (vR (1, v, 0)), some (vI a0), some (vI (0 : Int32))]) (And.intro rfl (And.intro rfl (And.intro rfl trivial))) ?_
  obtain ⟨e2, he3, hf⟩ := am_bind hf
  refine K_X8_payAll_L2 hv 2000 ((0 : Int32), u) _ he3 ?_
  obtain ⟨u4, rfl⟩ : ∃ z, z = e2 := ⟨_, rfl⟩
  show X l _ _ 0 0 false _ kC 0 0 42 [none, none, none] [] (en u4)
  have hx := am_inj hf
  subst hx
  exact r_vret dX8_payAll_42 rfl (le_b rfl) (le_b rfl)
/-! FireFromFire$Village.sum -/
theorem dX8_sum_0 : decode cX8_sum 0 = .ok (.aload_n 0, 1) := by decide +kernel
theorem dX8_sum_1 : decode cX8_sum 1 = .ok (.iload_n 2, 1) := by decide +kernel
theorem dX8_sum_2 : decode cX8_sum 2 = .ok (.invokevirtual 80, 3) := by decide +kernel
theorem dX8_sum_5 : decode cX8_sum 5 = .ok (.astore 4, 2) := by decide +kernel
theorem dX8_sum_7 : decode cX8_sum 7 = .ok (.aload_n 0, 1) := by decide +kernel
theorem dX8_sum_8 : decode cX8_sum 8 = .ok (.getfield 32, 3) := by decide +kernel
theorem dX8_sum_11 : decode cX8_sum 11 = .ok (.ifnull 8, 3) := by decide +kernel
theorem dX8_sum_14 : decode cX8_sum 14 = .ok (.aload 4, 2) := by decide +kernel
theorem dX8_sum_16 : decode cX8_sum 16 = .ok (.ifnonnull 5, 3) := by decide +kernel
theorem dX8_sum_19 : decode cX8_sum 19 = .ok (.iconst 0, 1) := by decide +kernel
theorem dX8_sum_20 : decode cX8_sum 20 = .ok (.ireturn, 1) := by decide +kernel
theorem dX8_sum_21 : decode cX8_sum 21 = .ok (.aload_n 0, 1) := by decide +kernel
theorem dX8_sum_22 : decode cX8_sum 22 = .ok (.getfield 46, 3) := by decide +kernel
theorem dX8_sum_25 : decode cX8_sum 25 = .ok (.iconst 0, 1) := by decide +kernel
theorem dX8_sum_26 : decode cX8_sum 26 = .ok (.iload_n 3, 1) := by decide +kernel
theorem dX8_sum_27 : decode cX8_sum 27 = .ok (.iastore, 1) := by decide +kernel
theorem dX8_sum_28 : decode cX8_sum 28 = .ok (.aload_n 0, 1) := by decide +kernel
theorem dX8_sum_29 : decode cX8_sum 29 = .ok (.getfield 46, 3) := by decide +kernel
theorem dX8_sum_32 : decode cX8_sum 32 = .ok (.iconst 1, 1) := by decide +kernel
theorem dX8_sum_33 : decode cX8_sum 33 = .ok (.aload_n 0, 1) := by decide +kernel
theorem dX8_sum_34 : decode cX8_sum 34 = .ok (.getfield 29, 3) := by decide +kernel
theorem dX8_sum_37 : decode cX8_sum 37 = .ok (.bipush 24, 2) := by decide +kernel
theorem dX8_sum_39 : decode cX8_sum 39 = .ok (.irem, 1) := by decide +kernel
theorem dX8_sum_40 : decode cX8_sum 40 = .ok (.iastore, 1) := by decide +kernel
theorem dX8_sum_41 : decode cX8_sum 41 = .ok (.aload_n 0, 1) := by decide +kernel
theorem dX8_sum_42 : decode cX8_sum 42 = .ok (.getfield 46, 3) := by decide +kernel
theorem dX8_sum_45 : decode cX8_sum 45 = .ok (.iconst 2, 1) := by decide +kernel
theorem dX8_sum_46 : decode cX8_sum 46 = .ok (.iload_n 2, 1) := by decide +kernel
theorem dX8_sum_47 : decode cX8_sum 47 = .ok (.iastore, 1) := by decide +kernel
theorem dX8_sum_48 : decode cX8_sum 48 = .ok (.aload_n 0, 1) := by decide +kernel
theorem dX8_sum_49 : decode cX8_sum 49 = .ok (.getfield 46, 3) := by decide +kernel
theorem dX8_sum_52 : decode cX8_sum 52 = .ok (.iconst 3, 1) := by decide +kernel
theorem dX8_sum_53 : decode cX8_sum 53 = .ok (.aload 4, 2) := by decide +kernel
theorem dX8_sum_55 : decode cX8_sum 55 = .ok (.getfield 74, 3) := by decide +kernel
theorem dX8_sum_58 : decode cX8_sum 58 = .ok (.iastore, 1) := by decide +kernel
theorem dX8_sum_59 : decode cX8_sum 59 = .ok (.aload_n 0, 1) := by decide +kernel
theorem dX8_sum_60 : decode cX8_sum 60 = .ok (.getfield 46, 3) := by decide +kernel
theorem dX8_sum_63 : decode cX8_sum 63 = .ok (.iconst 4, 1) := by decide +kernel
theorem dX8_sum_64 : decode cX8_sum 64 = .ok (.aload 4, 2) := by decide +kernel
theorem dX8_sum_66 : decode cX8_sum 66 = .ok (.getfield 84, 3) := by decide +kernel
theorem dX8_sum_69 : decode cX8_sum 69 = .ok (.iastore, 1) := by decide +kernel
theorem dX8_sum_70 : decode cX8_sum 70 = .ok (.aload_n 0, 1) := by decide +kernel
theorem dX8_sum_71 : decode cX8_sum 71 = .ok (.getfield 46, 3) := by decide +kernel
theorem dX8_sum_74 : decode cX8_sum 74 = .ok (.iconst 5, 1) := by decide +kernel
theorem dX8_sum_75 : decode cX8_sum 75 = .ok (.aload_n 0, 1) := by decide +kernel
theorem dX8_sum_76 : decode cX8_sum 76 = .ok (.invokevirtual 64, 3) := by decide +kernel
theorem dX8_sum_79 : decode cX8_sum 79 = .ok (.invokestatic 68, 3) := by decide +kernel
theorem dX8_sum_82 : decode cX8_sum 82 = .ok (.iastore, 1) := by decide +kernel
theorem dX8_sum_83 : decode cX8_sum 83 = .ok (.iconst 0, 1) := by decide +kernel
theorem dX8_sum_84 : decode cX8_sum 84 = .ok (.istore 5, 2) := by decide +kernel
theorem dX8_sum_86 : decode cX8_sum 86 = .ok (.iconst 0, 1) := by decide +kernel
theorem dX8_sum_87 : decode cX8_sum 87 = .ok (.istore 6, 2) := by decide +kernel
theorem dX8_sum_89 : decode cX8_sum 89 = .ok (.iload 6, 2) := by decide +kernel
theorem dX8_sum_91 : decode cX8_sum 91 = .ok (.aload_n 0, 1) := by decide +kernel
theorem dX8_sum_92 : decode cX8_sum 92 = .ok (.getfield 32, 3) := by decide +kernel
theorem dX8_sum_95 : decode cX8_sum 95 = .ok (.getfield 87, 3) := by decide +kernel
theorem dX8_sum_98 : decode cX8_sum 98 = .ok (.if_icmp .ge 61, 3) := by decide +kernel
theorem dX8_sum_101 : decode cX8_sum 101 = .ok (.iload 6, 2) := by decide +kernel
theorem dX8_sum_103 : decode cX8_sum 103 = .ok (.bipush 10, 2) := by decide +kernel
theorem dX8_sum_105 : decode cX8_sum 105 = .ok (.if_icmp .ge 54, 3) := by decide +kernel
theorem dX8_sum_108 : decode cX8_sum 108 = .ok (.aload_n 0, 1) := by decide +kernel
theorem dX8_sum_109 : decode cX8_sum 109 = .ok (.getfield 32, 3) := by decide +kernel
theorem dX8_sum_112 : decode cX8_sum 112 = .ok (.getfield 92, 3) := by decide +kernel
theorem dX8_sum_115 : decode cX8_sum 115 = .ok (.iload 6, 2) := by decide +kernel
theorem dX8_sum_117 : decode cX8_sum 117 = .ok (.iaload, 1) := by decide +kernel
theorem dX8_sum_118 : decode cX8_sum 118 = .ok (.iload_n 1, 1) := by decide +kernel
theorem dX8_sum_119 : decode cX8_sum 119 = .ok (.if_icmp .ne 34, 3) := by decide +kernel
theorem dX8_sum_122 : decode cX8_sum 122 = .ok (.aload_n 0, 1) := by decide +kernel
theorem dX8_sum_123 : decode cX8_sum 123 = .ok (.getfield 32, 3) := by decide +kernel
theorem dX8_sum_126 : decode cX8_sum 126 = .ok (.iload 6, 2) := by decide +kernel
theorem dX8_sum_128 : decode cX8_sum 128 = .ok (.aload_n 0, 1) := by decide +kernel
theorem dX8_sum_129 : decode cX8_sum 129 = .ok (.getfield 46, 3) := by decide +kernel
theorem dX8_sum_132 : decode cX8_sum 132 = .ok (.invokevirtual 95, 3) := by decide +kernel
theorem dX8_sum_135 : decode cX8_sum 135 = .ok (.ifCond .eq 18, 3) := by decide +kernel
theorem dX8_sum_138 : decode cX8_sum 138 = .ok (.iload 5, 2) := by decide +kernel
theorem dX8_sum_140 : decode cX8_sum 140 = .ok (.aload_n 0, 1) := by decide +kernel
theorem dX8_sum_141 : decode cX8_sum 141 = .ok (.getfield 32, 3) := by decide +kernel
theorem dX8_sum_144 : decode cX8_sum 144 = .ok (.getfield 99, 3) := by decide +kernel
theorem dX8_sum_147 : decode cX8_sum 147 = .ok (.iload 6, 2) := by decide +kernel
theorem dX8_sum_149 : decode cX8_sum 149 = .ok (.iaload, 1) := by decide +kernel
theorem dX8_sum_150 : decode cX8_sum 150 = .ok (.iadd, 1) := by decide +kernel
theorem dX8_sum_151 : decode cX8_sum 151 = .ok (.istore 5, 2) := by decide +kernel
theorem dX8_sum_153 : decode cX8_sum 153 = .ok (.iinc 6 1, 3) := by decide +kernel
theorem dX8_sum_156 : decode cX8_sum 156 = .ok (.goto (-67), 3) := by decide +kernel
theorem dX8_sum_159 : decode cX8_sum 159 = .ok (.iload 5, 2) := by decide +kernel
theorem dX8_sum_161 : decode cX8_sum 161 = .ok (.iload_n 1, 1) := by decide +kernel
theorem dX8_sum_162 : decode cX8_sum 162 = .ok (.ifCond .ne 8, 3) := by decide +kernel
theorem dX8_sum_165 : decode cX8_sum 165 = .ok (.bipush 100, 2) := by decide +kernel
theorem dX8_sum_167 : decode cX8_sum 167 = .ok (.goto 5, 3) := by decide +kernel
theorem dX8_sum_170 : decode cX8_sum 170 = .ok (.bipush 99, 2) := by decide +kernel
theorem dX8_sum_172 : decode cX8_sum 172 = .ok (.invokestatic 102, 3) := by decide +kernel
theorem dX8_sum_175 : decode cX8_sum 175 = .ok (.ireturn, 1) := by decide +kernel
def f_X8_sum_L89 (n0 : Nat) (c1 : Int32) (u : PM) : Int32 × Int32 → Option ((Int32 × Int32) ⊕ (Int32)) := fun (x5 , x6) =>
  match u.2.2 (n0 + 1) with
  | none =>
    none
  | some p15 =>
    if p15 < 5 then
      if (u.1 (11, p15, 0) 0) ≤ x6 then
        some (.inr (x5))
      else
      if (10 : Int32) ≤ x6 then
        some (.inr (x5))
      else
      if x6 < 0 ∨ 10 ≤ x6.toNatClampNeg then none else
      if (u.1 (12, p15, 0) x6.toNatClampNeg) = c1 then
        (f_X3_holds p15 n0 x6 u).bind fun r19 =>
        if r19 = 0 then
          some (.inl (x5, x6 + (1 : Int32)))
        else
        some (.inl (x5 + (u.1 (13, p15, 0) x6.toNatClampNeg), x6 + (1 : Int32)))
      else
      some (.inl (x5, x6 + (1 : Int32)))
    else none
set_option maxHeartbeats 4000000 in
set_option maxRecDepth 20000 in
theorem K_X8_sum_L89 {l : Launch} {T : Option AV × List Key × AM} {n0 : Nat} (hn0 : n0 < 4) {c1 : Int32} {u : PM} : ∀ (n : Nat) (s : Int32 × Int32) (e0 : Int32), am_loop (f_X8_sum_L89 n0 c1 u) n s = some e0 → (fun e : Int32 => X l mX8_sum 3 0 0 false T kC 0 0 159 [none, some (vI c1), none, none, none, some (vI e), none] [] (en u)) e0 → X l mX8_sum 3 0 0 false T kC 0 0 89 [some (vR (1, n0, 0)), some (vI c1), none, none, none, some (vI s.1), some (vI s.2)] [] (en u) := by
  refine am_loop_of ?_
  intro s x hf k1 k2
  obtain ⟨x5 , x6⟩ := s
  unfold f_X8_sum_L89 at hf
  show X l mX8_sum 3 0 0 false T kC 0 0 89 [some (vR (1, n0, 0)), some (vI c1), none, none, none, some (vI x5), some (vI x6)] [] (en u)
  refine r_iload (x := x6) dX8_sum_89 rfl ?_
  refine r_aload_n (x := (1, n0, 0)) dX8_sum_91 rfl ?_
  cases he17 : u.2.2 (n0 + 1) with
  | none =>
    rw [he17] at hf
    refine e_getr (z := none) fw_X8_32 dX8_sum_92 (kC_mem (s := 1) (by decide) hn0 (by decide)) rfl (lt_b rfl) (by show Option.map _ (u.2.2 (n0 + 1)) = _; rw [he17]; rfl) ?_
    cases hf
  | some p15 =>
    rw [he17] at hf
    obtain ⟨h16, hf⟩ := am_chk hf
    refine e_getr (z := some (11, p15, 0)) fw_X8_32 dX8_sum_92 (kC_mem (s := 1) (by decide) hn0 (by decide)) rfl (lt_b rfl) (by show Option.map _ (u.2.2 (n0 + 1)) = _; rw [he17]; rfl) ?_
    refine e_geti fw_X8_87 dX8_sum_95 (kC_mem (s := 11) (by decide) h16 (by decide)) rfl (lt_b rfl) ?_
    refine r_icmp_ge (tgt := 159) dX8_sum_98 (by decide) (fun hc => ?_) (fun hc => ?_)
    · have hf := (am_if hf).1 hc
      refine r_weak (L' := [none, some (vI c1), none, none, none, some (vI x5), none]) (And.intro rfl (And.intro rfl trivial)) ?_
      exact k2 (x5) (am_inj hf).symm
    · have hf := (am_if hf).2 hc
      refine r_iload (x := x6) dX8_sum_101 rfl ?_
      refine r_bipush (v := 10) dX8_sum_103 rfl ?_
      refine r_icmp_ge (tgt := 159) dX8_sum_105 (by decide) (fun hc => ?_) (fun hc => ?_)
      · have hf := (am_if hf).1 hc
        refine r_weak (L' := [none, some (vI c1), none, none, none, some (vI x5), none]) (And.intro rfl (And.intro rfl trivial)) ?_
        exact k2 (x5) (am_inj hf).symm
      · have hf := (am_if hf).2 hc
        refine r_aload_n (x := (1, n0, 0)) dX8_sum_108 rfl ?_
        refine e_getr (z := some (11, p15, 0)) fw_X8_32 dX8_sum_109 (kC_mem (s := 1) (by decide) hn0 (by decide)) rfl (lt_b rfl) (by show Option.map _ (u.2.2 (n0 + 1)) = _; rw [he17]; rfl) ?_
        refine e_getr (z := some (12, p15, 0)) fw_X8_92 dX8_sum_112 (kC_mem (s := 11) (by decide) h16 (by decide)) rfl (lt_b rfl) rfl ?_
        refine r_iload (x := x6) dX8_sum_115 rfl ?_
        obtain ⟨h18, hf⟩ := am_nchk hf
        refine e_iald (n := x6.toNatClampNeg) dX8_sum_117 (kC_mem (s := 12) (by decide) h16 (by decide)) rfl h18 rfl rfl ?_
        refine r_iload_n (x := c1) dX8_sum_118 rfl ?_
        refine r_icmp_ne (tgt := 153) dX8_sum_119 (by decide) (fun hc => ?_) (fun hc => ?_)
        · have hf := (am_if hf).2 hc
          refine r_iinc (x := x6) (v := x6 + (1 : Int32)) (L' := [some (vR (1, n0, 0)), some (vI c1), none, none, none, some (vI x5), some (vI (x6 + (1 : Int32)))]) dX8_sum_153 rfl rfl (lt_b rfl) rfl ?_
          refine r_goto (tgt := 89) dX8_sum_156 (by decide) ?_
          refine r_weak (L' := [some (vR (1, n0, 0)), some (vI c1), none, none, none, some (vI x5), some (vI (x6 + (1 : Int32)))]) (And.intro rfl (And.intro rfl (And.intro rfl (And.intro rfl trivial)))) ?_
          exact k1 (x5, x6 + (1 : Int32)) (am_inj hf).symm
        · have hf := (am_if hf).1 hc
          refine r_aload_n (x := (1, n0, 0)) dX8_sum_122 rfl ?_
          refine e_getr (z := some (11, p15, 0)) fw_X8_32 dX8_sum_123 (kC_mem (s := 1) (by decide) hn0 (by decide)) rfl (lt_b rfl) (by show Option.map _ (u.2.2 (n0 + 1)) = _; rw [he17]; rfl) ?_
          refine r_iload (x := x6) dX8_sum_126 rfl ?_
          refine r_aload_n (x := (1, n0, 0)) dX8_sum_128 rfl ?_
          refine e_getr (z := some (8, n0, 0)) fw_X8_46 dX8_sum_129 (kC_mem (s := 1) (by decide) hn0 (by decide)) rfl (lt_b rfl) rfl ?_
          obtain ⟨r19, hr20, hf⟩ := am_bind hf
          refine r_callV (as := [vI x6, vR (8, n0, 0)]) (st := []) (n := 2) mw_X8_95 mv_X3_holds (C_X3_holds (l := l) h16 hn0 hr20) (le_b rfl) dX8_sum_132 (kC_mem (s := 11) (by decide) h16 (by decide)) rfl rfl rfl (le_b rfl) (le_b rfl) (le_b rfl) ?_
          show X l _ _ 0 0 false _ kC 0 0 135 [some (vR (1, n0, 0)), some (vI c1), none, none, none, some (vI x5), some (vI x6)] [vI r19] (en u)
          refine r_if_eq (tgt := 153) dX8_sum_135 (by decide) (fun hc => ?_) (fun hc => ?_)
          · have hf := (am_if hf).1 hc
            refine r_iinc (x := x6) (v := x6 + (1 : Int32)) (L' := [some (vR (1, n0, 0)), some (vI c1), none, none, none, some (vI x5), some (vI (x6 + (1 : Int32)))]) dX8_sum_153 rfl rfl (lt_b rfl) rfl ?_
            refine r_goto (tgt := 89) dX8_sum_156 (by decide) ?_
            refine r_weak (L' := [some (vR (1, n0, 0)), some (vI c1), none, none, none, some (vI x5), some (vI (x6 + (1 : Int32)))]) (And.intro rfl (And.intro rfl (And.intro rfl (And.intro rfl trivial)))) ?_
            exact k1 (x5, x6 + (1 : Int32)) (am_inj hf).symm
          · have hf := (am_if hf).2 hc
            refine r_iload (x := x5) dX8_sum_138 rfl ?_
            refine r_aload_n (x := (1, n0, 0)) dX8_sum_140 rfl ?_
            refine e_getr (z := some (11, p15, 0)) fw_X8_32 dX8_sum_141 (kC_mem (s := 1) (by decide) hn0 (by decide)) rfl (lt_b rfl) (by show Option.map _ (u.2.2 (n0 + 1)) = _; rw [he17]; rfl) ?_
            refine e_getr (z := some (13, p15, 0)) fw_X8_99 dX8_sum_144 (kC_mem (s := 11) (by decide) h16 (by decide)) rfl (lt_b rfl) rfl ?_
            refine r_iload (x := x6) dX8_sum_147 rfl ?_
            refine e_iald (n := x6.toNatClampNeg) dX8_sum_149 (kC_mem (s := 13) (by decide) h16 (by decide)) rfl h18 rfl rfl ?_
            refine r_iadd dX8_sum_150 ?_
            refine r_istore (L' := [some (vR (1, n0, 0)), some (vI c1), none, none, none, some (vI (x5 + (u.1 (13, p15, 0) x6.toNatClampNeg))), some (vI x6)]) dX8_sum_151 (by decide) rfl ?_
            refine r_iinc (x := x6) (v := x6 + (1 : Int32)) (L' := [some (vR (1, n0, 0)), some (vI c1), none, none, none, some (vI (x5 + (u.1 (13, p15, 0) x6.toNatClampNeg))), some (vI (x6 + (1 : Int32)))]) dX8_sum_153 rfl rfl (lt_b rfl) rfl ?_
            refine r_goto (tgt := 89) dX8_sum_156 (by decide) ?_
            refine r_weak (L' := [some (vR (1, n0, 0)), some (vI c1), none, none, none, some (vI (x5 + (u.1 (13, p15, 0) x6.toNatClampNeg))), some (vI (x6 + (1 : Int32)))]) (And.intro rfl (And.intro rfl (And.intro rfl (And.intro rfl trivial)))) ?_
            exact k1 (x5 + (u.1 (13, p15, 0) x6.toNatClampNeg), x6 + (1 : Int32)) (am_inj hf).symm
def f_X8_sum (v : Nat) (a0 : Int32) (a1 : Int32) (a2 : Int32) (u : PM) : Option (Int32 × PM) :=
  (f_X8_find v a1 u).bind fun r1 =>
  match r1 with
  | none =>
    match u.2.2 (v + 1) with
    | none =>
      some ((0 : Int32), u)
    | some p5 =>
      if p5 < 5 then
        some ((0 : Int32), u)
      else none
  | some p3 =>
    if p3 < 6 then
      match u.2.2 (v + 1) with
      | none =>
        some ((0 : Int32), u)
      | some p8 =>
        if p8 < 5 then
          (f_X8_litBits v (pi (pi (pi (pi (pi u (8, v, 0) 0 a2) (8, v, 0) 1 ((u.1 (1, v, 0) 4) - (u.1 (1, v, 0) 4) / (24 : Int32) * (24 : Int32))) (8, v, 0) 2 a1) (8, v, 0) 3 (u.1 (3, v, p3) 2)) (8, v, 0) 4 (u.1 (3, v, p3) 0))).bind fun r11 =>
          (f_J6_bitCount_0f7a4 r11 (pi (pi (pi (pi (pi u (8, v, 0) 0 a2) (8, v, 0) 1 ((u.1 (1, v, 0) 4) - (u.1 (1, v, 0) 4) / (24 : Int32) * (24 : Int32))) (8, v, 0) 2 a1) (8, v, 0) 3 (u.1 (3, v, p3) 2)) (8, v, 0) 4 (u.1 (3, v, p3) 0))).bind fun r13 =>
          (am_loop (f_X8_sum_L89 v a0 (pi (pi (pi (pi (pi (pi u (8, v, 0) 0 a2) (8, v, 0) 1 ((u.1 (1, v, 0) 4) - (u.1 (1, v, 0) 4) / (24 : Int32) * (24 : Int32))) (8, v, 0) 2 a1) (8, v, 0) 3 (u.1 (3, v, p3) 2)) (8, v, 0) 4 (u.1 (3, v, p3) 0)) (8, v, 0) 5 r13)) 2000 ((0 : Int32), (0 : Int32))).bind fun y23 =>
          if a0 = 0 then
            some ((if (100 : Int32) < y23 then (100 : Int32) else y23), (pi (pi (pi (pi (pi (pi u (8, v, 0) 0 a2) (8, v, 0) 1 ((u.1 (1, v, 0) 4) - (u.1 (1, v, 0) 4) / (24 : Int32) * (24 : Int32))) (8, v, 0) 2 a1) (8, v, 0) 3 (u.1 (3, v, p3) 2)) (8, v, 0) 4 (u.1 (3, v, p3) 0)) (8, v, 0) 5 r13))
          else
          some ((if (99 : Int32) < y23 then (99 : Int32) else y23), (pi (pi (pi (pi (pi (pi u (8, v, 0) 0 a2) (8, v, 0) 1 ((u.1 (1, v, 0) 4) - (u.1 (1, v, 0) 4) / (24 : Int32) * (24 : Int32))) (8, v, 0) 2 a1) (8, v, 0) 3 (u.1 (3, v, p3) 2)) (8, v, 0) 4 (u.1 (3, v, p3) 0)) (8, v, 0) 5 r13))
        else none
    else none
set_option maxHeartbeats 4000000 in
set_option maxRecDepth 20000 in
theorem C_X8_sum {l : Launch} {v : Nat} (hv : v < 4) {a0 : Int32} {a1 : Int32} {a2 : Int32} {u : PM} {x : Int32 × PM} (hf : f_X8_sum v a0 a1 a2 u = some x) : Ev l mX8_sum 3 0 0 false [vR (1, v, 0), vI a0, vI a1, vI a2] kC (en u) (some (vI x.1), kC, en x.2) := by
  refine Ev_of (by decide +kernel) (le_b rfl) ?_
  unfold f_X8_sum at hf
  show X l mX8_sum 3 0 0 false _ kC 0 0 0 [some (vR (1, v, 0)), some (vI a0), some (vI a1), some (vI a2), none, none, none] [] (en u)
  refine r_aload_n (x := (1, v, 0)) dX8_sum_0 rfl ?_
  refine r_iload_n (x := a1) dX8_sum_1 rfl ?_
  obtain ⟨r1, hr2, hf⟩ := am_bind hf
  refine r_callV (as := [vI a1]) (st := []) (n := 1) mw_X8_80 mv_X8_find (C_X8_find (l := l) hv hr2) (le_b rfl) dX8_sum_2 (kC_mem (s := 1) (by decide) hv (by decide)) rfl rfl rfl (le_b rfl) (le_b rfl) (le_b rfl) ?_
  cases r1 with
  | none =>
    show X l _ _ 0 0 false _ kC 0 0 5 [some (vR (1, v, 0)), some (vI a0), some (vI a1), some (vI a2), none, none, none] [vN] (en u)
    refine r_astoreN (L' := [some (vR (1, v, 0)), some (vI a0), some (vI a1), some (vI a2), some (vN), none, none]) dX8_sum_5 (by decide) rfl ?_
    refine r_aload_n (x := (1, v, 0)) dX8_sum_7 rfl ?_
    cases he7 : u.2.2 (v + 1) with
    | none =>
      rw [he7] at hf
      refine e_getr (z := none) fw_X8_32 dX8_sum_8 (kC_mem (s := 1) (by decide) hv (by decide)) rfl (lt_b rfl) (by show Option.map _ (u.2.2 (v + 1)) = _; rw [he7]; rfl) ?_
      refine r_ifnullN (tgt := 19) dX8_sum_11 (by decide) ?_
      refine r_iconst (v := 0) dX8_sum_19 rfl ?_
      have hx := am_inj hf
      subst hx
      exact r_iret dX8_sum_20 rfl rfl (le_b rfl) (le_b rfl)
    | some p5 =>
      rw [he7] at hf
      obtain ⟨h6, hf⟩ := am_chk hf
      refine e_getr (z := some (11, p5, 0)) fw_X8_32 dX8_sum_8 (kC_mem (s := 1) (by decide) hv (by decide)) rfl (lt_b rfl) (by show Option.map _ (u.2.2 (v + 1)) = _; rw [he7]; rfl) ?_
      refine r_ifnullR dX8_sum_11 ?_
      refine r_aloadN dX8_sum_14 rfl ?_
      refine r_ifnonnullN dX8_sum_16 ?_
      refine r_iconst (v := 0) dX8_sum_19 rfl ?_
      have hx := am_inj hf
      subst hx
      exact r_iret dX8_sum_20 rfl rfl (le_b rfl) (le_b rfl)
  | some p3 =>
    obtain ⟨h4, hf⟩ := am_chk hf
    show X l _ _ 0 0 false _ kC 0 0 5 [some (vR (1, v, 0)), some (vI a0), some (vI a1), some (vI a2), none, none, none] [vR (3, v, p3)] (en u)
    refine r_astore (L' := [some (vR (1, v, 0)), some (vI a0), some (vI a1), some (vI a2), some (vR (3, v, p3)), none, none]) dX8_sum_5 (by decide) rfl ?_
    refine r_aload_n (x := (1, v, 0)) dX8_sum_7 rfl ?_
    cases he10 : u.2.2 (v + 1) with
    | none =>
      rw [he10] at hf
      refine e_getr (z := none) fw_X8_32 dX8_sum_8 (kC_mem (s := 1) (by decide) hv (by decide)) rfl (lt_b rfl) (by show Option.map _ (u.2.2 (v + 1)) = _; rw [he10]; rfl) ?_
      refine r_ifnullN (tgt := 19) dX8_sum_11 (by decide) ?_
      refine r_iconst (v := 0) dX8_sum_19 rfl ?_
      have hx := am_inj hf
      subst hx
      exact r_iret dX8_sum_20 rfl rfl (le_b rfl) (le_b rfl)
    | some p8 =>
      rw [he10] at hf
      obtain ⟨h9, hf⟩ := am_chk hf
      refine e_getr (z := some (11, p8, 0)) fw_X8_32 dX8_sum_8 (kC_mem (s := 1) (by decide) hv (by decide)) rfl (lt_b rfl) (by show Option.map _ (u.2.2 (v + 1)) = _; rw [he10]; rfl) ?_
      refine r_ifnullR dX8_sum_11 ?_
      refine r_aload (x := (3, v, p3)) dX8_sum_14 rfl ?_
      refine r_ifnonnullR (tgt := 21) dX8_sum_16 (by decide) ?_
      refine r_aload_n (x := (1, v, 0)) dX8_sum_21 rfl ?_
      refine e_getr (z := some (8, v, 0)) fw_X8_46 dX8_sum_22 (kC_mem (s := 1) (by decide) hv (by decide)) rfl (lt_b rfl) rfl ?_
      refine r_iconst (v := 0) dX8_sum_25 rfl ?_
      refine r_iload_n (x := a2) dX8_sum_26 rfl ?_
      refine e_iast (n := 0) dX8_sum_27 (kC_mem (s := 8) (by decide) hv (by decide)) rfl (vp_lit (i := 0) (n := 6) rfl) rfl ?_
      refine r_aload_n (x := (1, v, 0)) dX8_sum_28 rfl ?_
      refine e_getr (z := some (8, v, 0)) fw_X8_46 dX8_sum_29 (kC_mem (s := 1) (by decide) hv (by decide)) rfl (lt_b rfl) rfl ?_
      refine r_iconst (v := 1) dX8_sum_32 rfl ?_
      refine r_aload_n (x := (1, v, 0)) dX8_sum_33 rfl ?_
      refine e_geti_ (x := u.1 (1, v, 0) 4) fw_X8_29 dX8_sum_34 (kC_mem (s := 1) (by decide) hv (by decide)) rfl (lt_b rfl) (by simp [pi, pl, pr, pci, pcl]) ?_
      refine r_bipush (v := 24) dX8_sum_37 rfl ?_
      refine r_irem dX8_sum_39 (by decide) ?_
      refine e_iast (n := 1) dX8_sum_40 (kC_mem (s := 8) (by decide) hv (by decide)) rfl (vp_lit (i := 1) (n := 6) rfl) rfl ?_
      refine r_aload_n (x := (1, v, 0)) dX8_sum_41 rfl ?_
      refine e_getr (z := some (8, v, 0)) fw_X8_46 dX8_sum_42 (kC_mem (s := 1) (by decide) hv (by decide)) rfl (lt_b rfl) rfl ?_
      refine r_iconst (v := 2) dX8_sum_45 rfl ?_
      refine r_iload_n (x := a1) dX8_sum_46 rfl ?_
      refine e_iast (n := 2) dX8_sum_47 (kC_mem (s := 8) (by decide) hv (by decide)) rfl (vp_lit (i := 2) (n := 6) rfl) rfl ?_
      refine r_aload_n (x := (1, v, 0)) dX8_sum_48 rfl ?_
      refine e_getr (z := some (8, v, 0)) fw_X8_46 dX8_sum_49 (kC_mem (s := 1) (by decide) hv (by decide)) rfl (lt_b rfl) rfl ?_
      refine r_iconst (v := 3) dX8_sum_52 rfl ?_
      refine r_aload (x := (3, v, p3)) dX8_sum_53 rfl ?_
      refine e_geti_ (x := u.1 (3, v, p3) 2) fw_X8_74 dX8_sum_55 (kC_mem (s := 3) (by decide) hv h4) rfl (lt_b rfl) (by simp [pi, pl, pr, pci, pcl]) ?_
      refine e_iast (n := 3) dX8_sum_58 (kC_mem (s := 8) (by decide) hv (by decide)) rfl (vp_lit (i := 3) (n := 6) rfl) rfl ?_
      refine r_aload_n (x := (1, v, 0)) dX8_sum_59 rfl ?_
      refine e_getr (z := some (8, v, 0)) fw_X8_46 dX8_sum_60 (kC_mem (s := 1) (by decide) hv (by decide)) rfl (lt_b rfl) rfl ?_
      refine r_iconst (v := 4) dX8_sum_63 rfl ?_
      refine r_aload (x := (3, v, p3)) dX8_sum_64 rfl ?_
      refine e_geti_ (x := u.1 (3, v, p3) 0) fw_X8_84 dX8_sum_66 (kC_mem (s := 3) (by decide) hv h4) rfl (lt_b rfl) (by simp [pi, pl, pr, pci, pcl]) ?_
      refine e_iast (n := 4) dX8_sum_69 (kC_mem (s := 8) (by decide) hv (by decide)) rfl (vp_lit (i := 4) (n := 6) rfl) rfl ?_
      refine r_aload_n (x := (1, v, 0)) dX8_sum_70 rfl ?_
      refine e_getr (z := some (8, v, 0)) fw_X8_46 dX8_sum_71 (kC_mem (s := 1) (by decide) hv (by decide)) rfl (lt_b rfl) rfl ?_
      refine r_iconst (v := 5) dX8_sum_74 rfl ?_
      refine r_aload_n (x := (1, v, 0)) dX8_sum_75 rfl ?_
      obtain ⟨r11, hr12, hf⟩ := am_bind hf
      refine r_callV (as := []) (st := [vI (5 : Int32), vR (8, v, 0)]) (n := 0) mw_X8_64 mv_X8_litBits (C_X8_litBits (l := l) hv hr12) (le_b rfl) dX8_sum_76 (kC_mem (s := 1) (by decide) hv (by decide)) rfl rfl rfl (le_b rfl) (le_b rfl) (le_b rfl) ?_
      show X l _ _ 0 0 false _ kC 0 0 79 [some (vR (1, v, 0)), some (vI a0), some (vI a1), some (vI a2), some (vR (3, v, p3)), none, none] [vI r11, vI (5 : Int32), vR (8, v, 0)] (en (pi (pi (pi (pi (pi u (8, v, 0) 0 a2) (8, v, 0) 1 ((u.1 (1, v, 0) 4) - (u.1 (1, v, 0) 4) / (24 : Int32) * (24 : Int32))) (8, v, 0) 2 a1) (8, v, 0) 3 (u.1 (3, v, p3) 2)) (8, v, 0) 4 (u.1 (3, v, p3) 0)))
      obtain ⟨r13, hr14, hf⟩ := am_bind hf
      refine r_callS (as := [vI r11]) (st := [vI (5 : Int32), vR (8, v, 0)]) (n := 1) mw_X8_68 ms_J6_bitCount_0f7a4 (C_J6_bitCount_0f7a4 (l := l) hr14) (le_b rfl) dX8_sum_79 rfl (le_b rfl) (le_b rfl) (le_b rfl) ?_
      show X l _ _ 0 0 false _ kC 0 0 82 [some (vR (1, v, 0)), some (vI a0), some (vI a1), some (vI a2), some (vR (3, v, p3)), none, none] [vI r13, vI (5 : Int32), vR (8, v, 0)] (en (pi (pi (pi (pi (pi u (8, v, 0) 0 a2) (8, v, 0) 1 ((u.1 (1, v, 0) 4) - (u.1 (1, v, 0) 4) / (24 : Int32) * (24 : Int32))) (8, v, 0) 2 a1) (8, v, 0) 3 (u.1 (3, v, p3) 2)) (8, v, 0) 4 (u.1 (3, v, p3) 0)))
      refine e_iast (n := 5) dX8_sum_82 (kC_mem (s := 8) (by decide) hv (by decide)) rfl (vp_lit (i := 5) (n := 6) rfl) rfl ?_
      refine r_iconst (v := 0) dX8_sum_83 rfl ?_
      refine r_istore (L' := [some (vR (1, v, 0)), some (vI a0), some (vI a1), some (vI a2), some (vR (3, v, p3)), some (vI (0 : Int32)), none]) dX8_sum_84 (by decide) rfl ?_
      refine r_iconst (v := 0) dX8_sum_86 rfl ?_
      refine r_istore (L' := [some (vR (1, v, 0)), some (vI a0), some (vI a1), some (vI a2), some (vR (3, v, p3)), some (vI (0 : Int32)), some (vI (0 : Int32))]) dX8_sum_87 (by decide) rfl ?_
      refine r_weak (L' := [some (vR (1, v, 0)), some (vI a0), none, none, none, some (vI (0 : Int32)), some (vI (0 : Int32))]) (And.intro rfl (And.intro rfl (And.intro rfl (And.intro rfl trivial)))) ?_
      obtain ⟨e21, he22, hf⟩ := am_bind hf
      refine K_X8_sum_L89 hv 2000 ((0 : Int32), (0 : Int32)) _ he22 ?_
      obtain ⟨y23, rfl⟩ : ∃ z, z = e21 := ⟨_, rfl⟩
      show X l _ _ 0 0 false _ kC 0 0 159 [none, some (vI a0), none, none, none, some (vI y23), none] [] (en (pi (pi (pi (pi (pi (pi u (8, v, 0) 0 a2) (8, v, 0) 1 ((u.1 (1, v, 0) 4) - (u.1 (1, v, 0) 4) / (24 : Int32) * (24 : Int32))) (8, v, 0) 2 a1) (8, v, 0) 3 (u.1 (3, v, p3) 2)) (8, v, 0) 4 (u.1 (3, v, p3) 0)) (8, v, 0) 5 r13))
      refine r_iload (x := y23) dX8_sum_159 rfl ?_
      refine r_iload_n (x := a0) dX8_sum_161 rfl ?_
      refine r_if_ne (tgt := 170) dX8_sum_162 (by decide) (fun hc => ?_) (fun hc => ?_)
      · have hf := (am_if hf).2 hc
        refine r_bipush (v := 99) dX8_sum_170 rfl ?_
        refine r_mmin jm_X8_102 js_min.1 js_min.2.1 js_min.2.2 dX8_sum_172 (le_b rfl) (le_b rfl) (le_b rfl) (le_b rfl) ?_
        have hx := am_inj hf
        subst hx
        exact r_iret dX8_sum_175 rfl rfl (le_b rfl) (le_b rfl)
      · have hf := (am_if hf).1 hc
        refine r_bipush (v := 100) dX8_sum_165 rfl ?_
        refine r_goto (tgt := 172) dX8_sum_167 (by decide) ?_
        refine r_mmin jm_X8_102 js_min.1 js_min.2.1 js_min.2.2 dX8_sum_172 (le_b rfl) (le_b rfl) (le_b rfl) (le_b rfl) ?_
        have hx := am_inj hf
        subst hx
        exact r_iret dX8_sum_175 rfl rfl (le_b rfl) (le_b rfl)
/-! FireFromFire$Village.tenthsOf -/
theorem dX8_tenthsOf_0 : decode cX8_tenthsOf 0 = .ok (.bipush 10, 2) := by decide +kernel
theorem dX8_tenthsOf_2 : decode cX8_tenthsOf 2 = .ok (.istore_n 3, 1) := by decide +kernel
theorem dX8_tenthsOf_3 : decode cX8_tenthsOf 3 = .ok (.iconst 0, 1) := by decide +kernel
theorem dX8_tenthsOf_4 : decode cX8_tenthsOf 4 = .ok (.istore 4, 2) := by decide +kernel
theorem dX8_tenthsOf_6 : decode cX8_tenthsOf 6 = .ok (.iload 4, 2) := by decide +kernel
theorem dX8_tenthsOf_8 : decode cX8_tenthsOf 8 = .ok (.iconst 3, 1) := by decide +kernel
theorem dX8_tenthsOf_9 : decode cX8_tenthsOf 9 = .ok (.if_icmp .ge 56, 3) := by decide +kernel
theorem dX8_tenthsOf_12 : decode cX8_tenthsOf 12 = .ok (.iload 4, 2) := by decide +kernel
theorem dX8_tenthsOf_14 : decode cX8_tenthsOf 14 = .ok (.iload_n 1, 1) := by decide +kernel
theorem dX8_tenthsOf_15 : decode cX8_tenthsOf 15 = .ok (.if_icmp .eq 44, 3) := by decide +kernel
theorem dX8_tenthsOf_18 : decode cX8_tenthsOf 18 = .ok (.aload_n 0, 1) := by decide +kernel
theorem dX8_tenthsOf_19 : decode cX8_tenthsOf 19 = .ok (.getfield 32, 3) := by decide +kernel
theorem dX8_tenthsOf_22 : decode cX8_tenthsOf 22 = .ok (.ifnonnull 7, 3) := by decide +kernel
theorem dX8_tenthsOf_25 : decode cX8_tenthsOf 25 = .ok (.iconst 0, 1) := by decide +kernel
theorem dX8_tenthsOf_26 : decode cX8_tenthsOf 26 = .ok (.goto 17, 3) := by decide +kernel
theorem dX8_tenthsOf_29 : decode cX8_tenthsOf 29 = .ok (.iload_n 3, 1) := by decide +kernel
theorem dX8_tenthsOf_30 : decode cX8_tenthsOf 30 = .ok (.aload_n 0, 1) := by decide +kernel
theorem dX8_tenthsOf_31 : decode cX8_tenthsOf 31 = .ok (.getfield 32, 3) := by decide +kernel
theorem dX8_tenthsOf_34 : decode cX8_tenthsOf 34 = .ok (.iload_n 1, 1) := by decide +kernel
theorem dX8_tenthsOf_35 : decode cX8_tenthsOf 35 = .ok (.iload 4, 2) := by decide +kernel
theorem dX8_tenthsOf_37 : decode cX8_tenthsOf 37 = .ok (.invokevirtual 108, 3) := by decide +kernel
theorem dX8_tenthsOf_40 : decode cX8_tenthsOf 40 = .ok (.invokestatic 102, 3) := by decide +kernel
theorem dX8_tenthsOf_43 : decode cX8_tenthsOf 43 = .ok (.istore 5, 2) := by decide +kernel
theorem dX8_tenthsOf_45 : decode cX8_tenthsOf 45 = .ok (.iload 4, 2) := by decide +kernel
theorem dX8_tenthsOf_47 : decode cX8_tenthsOf 47 = .ok (.iload_n 2, 1) := by decide +kernel
theorem dX8_tenthsOf_48 : decode cX8_tenthsOf 48 = .ok (.if_icmp .ne 6, 3) := by decide +kernel
theorem dX8_tenthsOf_51 : decode cX8_tenthsOf 51 = .ok (.iload 5, 2) := by decide +kernel
theorem dX8_tenthsOf_53 : decode cX8_tenthsOf 53 = .ok (.ireturn, 1) := by decide +kernel
theorem dX8_tenthsOf_54 : decode cX8_tenthsOf 54 = .ok (.iload_n 3, 1) := by decide +kernel
theorem dX8_tenthsOf_55 : decode cX8_tenthsOf 55 = .ok (.iload 5, 2) := by decide +kernel
theorem dX8_tenthsOf_57 : decode cX8_tenthsOf 57 = .ok (.isub, 1) := by decide +kernel
theorem dX8_tenthsOf_58 : decode cX8_tenthsOf 58 = .ok (.istore_n 3, 1) := by decide +kernel
theorem dX8_tenthsOf_59 : decode cX8_tenthsOf 59 = .ok (.iinc 4 1, 3) := by decide +kernel
theorem dX8_tenthsOf_62 : decode cX8_tenthsOf 62 = .ok (.goto (-56), 3) := by decide +kernel
theorem dX8_tenthsOf_65 : decode cX8_tenthsOf 65 = .ok (.iload_n 3, 1) := by decide +kernel
theorem dX8_tenthsOf_66 : decode cX8_tenthsOf 66 = .ok (.ireturn, 1) := by decide +kernel
def f_X8_tenthsOf_L6 (n0 : Nat) (c1 : Int32) (c2 : Int32) (u : PM) : Int32 × Int32 → Option ((Int32 × Int32) ⊕ ((Int32) ⊕ (Int32))) := fun (x3 , x4) =>
  if (3 : Int32) ≤ x4 then
    some (.inr (.inr (x3)))
  else
  if x4 = c1 then
    some (.inl (x3, x4 + (1 : Int32)))
  else
  match u.2.2 (n0 + 1) with
  | none =>
    if x4 = c2 then
      some (.inr (.inl (0 : Int32)))
    else
    some (.inl (x3 - (0 : Int32), x4 + (1 : Int32)))
  | some p1 =>
    if p1 < 5 then
      (f_X3_lastNext p1 c1 x4 u).bind fun r4 =>
      if x4 = c2 then
        some (.inr (.inl (if r4 < x3 then r4 else x3)))
      else
      some (.inl (x3 - (if r4 < x3 then r4 else x3), x4 + (1 : Int32)))
    else none
set_option maxHeartbeats 4000000 in
set_option maxRecDepth 20000 in
theorem K_X8_tenthsOf_L6 {l : Launch} {T : Option AV × List Key × AM} {n0 : Nat} (hn0 : n0 < 4) {c1 : Int32} {c2 : Int32} {u : PM} : ∀ (n : Nat) (s : Int32 × Int32) (e0 : (Int32) ⊕ (Int32)), am_loop (f_X8_tenthsOf_L6 n0 c1 c2 u) n s = some e0 → Sum.elim (fun r : Int32 => T = (some (vI r), kC, en u)) (fun e : Int32 => X l mX8_tenthsOf 2 0 0 false T kC 0 0 65 [none, none, none, some (vI e), none, none] [] (en u)) e0 → X l mX8_tenthsOf 2 0 0 false T kC 0 0 6 [some (vR (1, n0, 0)), some (vI c1), some (vI c2), some (vI s.1), some (vI s.2), none] [] (en u) := by
  refine am_loop_of ?_
  intro s x hf k1 k2
  obtain ⟨x3 , x4⟩ := s
  unfold f_X8_tenthsOf_L6 at hf
  show X l mX8_tenthsOf 2 0 0 false T kC 0 0 6 [some (vR (1, n0, 0)), some (vI c1), some (vI c2), some (vI x3), some (vI x4), none] [] (en u)
  refine r_iload (x := x4) dX8_tenthsOf_6 rfl ?_
  refine r_iconst (v := 3) dX8_tenthsOf_8 rfl ?_
  refine r_icmp_ge (tgt := 65) dX8_tenthsOf_9 (by decide) (fun hc => ?_) (fun hc => ?_)
  · have hf := (am_if hf).1 hc
    refine r_weak (L' := [none, none, none, some (vI x3), none, none]) (And.intro rfl trivial) ?_
    exact k2 (.inr (x3)) (am_inj hf).symm
  · have hf := (am_if hf).2 hc
    refine r_iload (x := x4) dX8_tenthsOf_12 rfl ?_
    refine r_iload_n (x := c1) dX8_tenthsOf_14 rfl ?_
    refine r_icmp_eq (tgt := 59) dX8_tenthsOf_15 (by decide) (fun hc => ?_) (fun hc => ?_)
    · have hf := (am_if hf).1 hc
      refine r_iinc (x := x4) (v := x4 + (1 : Int32)) (L' := [some (vR (1, n0, 0)), some (vI c1), some (vI c2), some (vI x3), some (vI (x4 + (1 : Int32))), none]) dX8_tenthsOf_59 rfl rfl (lt_b rfl) rfl ?_
      refine r_goto (tgt := 6) dX8_tenthsOf_62 (by decide) ?_
      refine r_weak (L' := [some (vR (1, n0, 0)), some (vI c1), some (vI c2), some (vI x3), some (vI (x4 + (1 : Int32))), none]) (And.intro rfl (And.intro rfl (And.intro rfl (And.intro rfl (And.intro rfl trivial))))) ?_
      exact k1 (x3, x4 + (1 : Int32)) (am_inj hf).symm
    · have hf := (am_if hf).2 hc
      refine r_aload_n (x := (1, n0, 0)) dX8_tenthsOf_18 rfl ?_
      cases he3 : u.2.2 (n0 + 1) with
      | none =>
        rw [he3] at hf
        refine e_getr (z := none) fw_X8_32 dX8_tenthsOf_19 (kC_mem (s := 1) (by decide) hn0 (by decide)) rfl (lt_b rfl) (by show Option.map _ (u.2.2 (n0 + 1)) = _; rw [he3]; rfl) ?_
        refine r_ifnonnullN dX8_tenthsOf_22 ?_
        refine r_iconst (v := 0) dX8_tenthsOf_25 rfl ?_
        refine r_goto (tgt := 43) dX8_tenthsOf_26 (by decide) ?_
        refine r_istore (L' := [some (vR (1, n0, 0)), some (vI c1), some (vI c2), some (vI x3), some (vI x4), some (vI (0 : Int32))]) dX8_tenthsOf_43 (by decide) rfl ?_
        refine r_iload (x := x4) dX8_tenthsOf_45 rfl ?_
        refine r_iload_n (x := c2) dX8_tenthsOf_47 rfl ?_
        refine r_icmp_ne (tgt := 54) dX8_tenthsOf_48 (by decide) (fun hc => ?_) (fun hc => ?_)
        · have hf := (am_if hf).2 hc
          refine r_iload_n (x := x3) dX8_tenthsOf_54 rfl ?_
          refine r_iload (x := (0 : Int32)) dX8_tenthsOf_55 rfl ?_
          refine r_isub dX8_tenthsOf_57 ?_
          refine r_istore_n (L' := [some (vR (1, n0, 0)), some (vI c1), some (vI c2), some (vI (x3 - (0 : Int32))), some (vI x4), some (vI (0 : Int32))]) dX8_tenthsOf_58 (by decide) rfl ?_
          refine r_iinc (x := x4) (v := x4 + (1 : Int32)) (L' := [some (vR (1, n0, 0)), some (vI c1), some (vI c2), some (vI (x3 - (0 : Int32))), some (vI (x4 + (1 : Int32))), some (vI (0 : Int32))]) dX8_tenthsOf_59 rfl rfl (lt_b rfl) rfl ?_
          refine r_goto (tgt := 6) dX8_tenthsOf_62 (by decide) ?_
          refine r_weak (L' := [some (vR (1, n0, 0)), some (vI c1), some (vI c2), some (vI (x3 - (0 : Int32))), some (vI (x4 + (1 : Int32))), none]) (And.intro rfl (And.intro rfl (And.intro rfl (And.intro rfl (And.intro rfl trivial))))) ?_
          exact k1 (x3 - (0 : Int32), x4 + (1 : Int32)) (am_inj hf).symm
        · have hf := (am_if hf).1 hc
          refine r_iload (x := (0 : Int32)) dX8_tenthsOf_51 rfl ?_
          have hT := k2 _ (am_inj hf).symm
          replace hT : T = (some (vI (0 : Int32)), kC, en u) := hT
          subst hT
          exact r_iret dX8_tenthsOf_53 rfl rfl (le_b rfl) (le_b rfl)
      | some p1 =>
        rw [he3] at hf
        obtain ⟨h2, hf⟩ := am_chk hf
        refine e_getr (z := some (11, p1, 0)) fw_X8_32 dX8_tenthsOf_19 (kC_mem (s := 1) (by decide) hn0 (by decide)) rfl (lt_b rfl) (by show Option.map _ (u.2.2 (n0 + 1)) = _; rw [he3]; rfl) ?_
        refine r_ifnonnullR (tgt := 29) dX8_tenthsOf_22 (by decide) ?_
        refine r_iload_n (x := x3) dX8_tenthsOf_29 rfl ?_
        refine r_aload_n (x := (1, n0, 0)) dX8_tenthsOf_30 rfl ?_
        refine e_getr (z := some (11, p1, 0)) fw_X8_32 dX8_tenthsOf_31 (kC_mem (s := 1) (by decide) hn0 (by decide)) rfl (lt_b rfl) (by show Option.map _ (u.2.2 (n0 + 1)) = _; rw [he3]; rfl) ?_
        refine r_iload_n (x := c1) dX8_tenthsOf_34 rfl ?_
        refine r_iload (x := x4) dX8_tenthsOf_35 rfl ?_
        obtain ⟨r4, hr5, hf⟩ := am_bind hf
        refine r_callV (as := [vI c1, vI x4]) (st := [vI x3]) (n := 2) mw_X8_108 mv_X3_lastNext (C_X3_lastNext (l := l) h2 hr5) (le_b rfl) dX8_tenthsOf_37 (kC_mem (s := 11) (by decide) h2 (by decide)) rfl rfl rfl (le_b rfl) (le_b rfl) (le_b rfl) ?_
        show X l _ _ 0 0 false _ kC 0 0 40 [some (vR (1, n0, 0)), some (vI c1), some (vI c2), some (vI x3), some (vI x4), none] [vI r4, vI x3] (en u)
        refine r_mmin jm_X8_102 js_min.1 js_min.2.1 js_min.2.2 dX8_tenthsOf_40 (le_b rfl) (le_b rfl) (le_b rfl) (le_b rfl) ?_
        refine r_istore (L' := [some (vR (1, n0, 0)), some (vI c1), some (vI c2), some (vI x3), some (vI x4), some (vI (if r4 < x3 then r4 else x3))]) dX8_tenthsOf_43 (by decide) rfl ?_
        refine r_iload (x := x4) dX8_tenthsOf_45 rfl ?_
        refine r_iload_n (x := c2) dX8_tenthsOf_47 rfl ?_
        refine r_icmp_ne (tgt := 54) dX8_tenthsOf_48 (by decide) (fun hc => ?_) (fun hc => ?_)
        · have hf := (am_if hf).2 hc
          refine r_iload_n (x := x3) dX8_tenthsOf_54 rfl ?_
          refine r_iload (x := (if r4 < x3 then r4 else x3)) dX8_tenthsOf_55 rfl ?_
          refine r_isub dX8_tenthsOf_57 ?_
          refine r_istore_n (L' := [some (vR (1, n0, 0)), some (vI c1), some (vI c2), some (vI (x3 - (if r4 < x3 then r4 else x3))), some (vI x4), some (vI (if r4 < x3 then r4 else x3))]) dX8_tenthsOf_58 (by decide) rfl ?_
          refine r_iinc (x := x4) (v := x4 + (1 : Int32)) (L' := [some (vR (1, n0, 0)), some (vI c1), some (vI c2), some (vI (x3 - (if r4 < x3 then r4 else x3))), some (vI (x4 + (1 : Int32))), some (vI (if r4 < x3 then r4 else x3))]) dX8_tenthsOf_59 rfl rfl (lt_b rfl) rfl ?_
          refine r_goto (tgt := 6) dX8_tenthsOf_62 (by decide) ?_
          refine r_weak (L' := [some (vR (1, n0, 0)), some (vI c1), some (vI c2), some (vI (x3 - (if r4 < x3 then r4 else x3))), some (vI (x4 + (1 : Int32))), none]) (And.intro rfl (And.intro rfl (And.intro rfl (And.intro rfl (And.intro rfl trivial))))) ?_
          exact k1 (x3 - (if r4 < x3 then r4 else x3), x4 + (1 : Int32)) (am_inj hf).symm
        · have hf := (am_if hf).1 hc
          refine r_iload (x := (if r4 < x3 then r4 else x3)) dX8_tenthsOf_51 rfl ?_
          have hT := k2 _ (am_inj hf).symm
          replace hT : T = (some (vI (if r4 < x3 then r4 else x3)), kC, en u) := hT
          subst hT
          exact r_iret dX8_tenthsOf_53 rfl rfl (le_b rfl) (le_b rfl)
def f_X8_tenthsOf (v : Nat) (a0 : Int32) (a1 : Int32) (u : PM) : Option (Int32) :=
  (am_loop (f_X8_tenthsOf_L6 v a0 a1 u) 2000 ((10 : Int32), (0 : Int32))).bind fun e6 =>
  match e6 with
  | .inl q9 => some q9
  | .inr y8 =>
    some y8
set_option maxHeartbeats 4000000 in
set_option maxRecDepth 20000 in
theorem C_X8_tenthsOf {l : Launch} {v : Nat} (hv : v < 4) {a0 : Int32} {a1 : Int32} {u : PM} {x : Int32} (hf : f_X8_tenthsOf v a0 a1 u = some x) : Ev l mX8_tenthsOf 2 0 0 false [vR (1, v, 0), vI a0, vI a1] kC (en u) (some (vI x), kC, en u) := by
  refine Ev_of (by decide +kernel) (le_b rfl) ?_
  unfold f_X8_tenthsOf at hf
  show X l mX8_tenthsOf 2 0 0 false _ kC 0 0 0 [some (vR (1, v, 0)), some (vI a0), some (vI a1), none, none, none] [] (en u)
  refine r_bipush (v := 10) dX8_tenthsOf_0 rfl ?_
  refine r_istore_n (L' := [some (vR (1, v, 0)), some (vI a0), some (vI a1), some (vI (10 : Int32)), none, none]) dX8_tenthsOf_2 (by decide) rfl ?_
  refine r_iconst (v := 0) dX8_tenthsOf_3 rfl ?_
  refine r_istore (L' := [some (vR (1, v, 0)), some (vI a0), some (vI a1), some (vI (10 : Int32)), some (vI (0 : Int32)), none]) dX8_tenthsOf_4 (by decide) rfl ?_
  refine r_weak (L' := [some (vR (1, v, 0)), some (vI a0), some (vI a1), some (vI (10 : Int32)), some (vI (0 : Int32)), none]) (And.intro rfl (And.intro rfl (And.intro rfl (And.intro rfl (And.intro rfl trivial))))) ?_
  obtain ⟨e6, he7, hf⟩ := am_bind hf
  refine K_X8_tenthsOf_L6 hv 2000 ((10 : Int32), (0 : Int32)) _ he7 ?_
  rcases e6 with q9 | e6
  · have hx := am_inj hf
    subst hx
    rfl
  · obtain ⟨y8, rfl⟩ : ∃ z, z = e6 := ⟨_, rfl⟩
    show X l _ _ 0 0 false _ kC 0 0 65 [none, none, none, some (vI y8), none, none] [] (en u)
    refine r_iload_n (x := y8) dX8_tenthsOf_65 rfl ?_
    have hx := am_inj hf
    subst hx
    exact r_iret dX8_tenthsOf_66 rfl rfl (le_b rfl) (le_b rfl)
/-! FireFromFire$Village.nearestFire -/
theorem dX8_nearestFire_0 : decode cX8_nearestFire 0 = .ok (.iconst (-1), 1) := by decide +kernel
theorem dX8_nearestFire_1 : decode cX8_nearestFire 1 = .ok (.istore_n 2, 1) := by decide +kernel
theorem dX8_nearestFire_2 : decode cX8_nearestFire 2 = .ok (.bipush 10, 2) := by decide +kernel
theorem dX8_nearestFire_4 : decode cX8_nearestFire 4 = .ok (.istore_n 3, 1) := by decide +kernel
theorem dX8_nearestFire_5 : decode cX8_nearestFire 5 = .ok (.iconst 0, 1) := by decide +kernel
theorem dX8_nearestFire_6 : decode cX8_nearestFire 6 = .ok (.istore 4, 2) := by decide +kernel
theorem dX8_nearestFire_8 : decode cX8_nearestFire 8 = .ok (.iload 4, 2) := by decide +kernel
theorem dX8_nearestFire_10 : decode cX8_nearestFire 10 = .ok (.aload_n 0, 1) := by decide +kernel
theorem dX8_nearestFire_11 : decode cX8_nearestFire 11 = .ok (.getfield 9, 3) := by decide +kernel
theorem dX8_nearestFire_14 : decode cX8_nearestFire 14 = .ok (.if_icmp .ge 55, 3) := by decide +kernel
theorem dX8_nearestFire_17 : decode cX8_nearestFire 17 = .ok (.iload 4, 2) := by decide +kernel
theorem dX8_nearestFire_19 : decode cX8_nearestFire 19 = .ok (.bipush 6, 2) := by decide +kernel
theorem dX8_nearestFire_21 : decode cX8_nearestFire 21 = .ok (.if_icmp .ge 48, 3) := by decide +kernel
theorem dX8_nearestFire_24 : decode cX8_nearestFire 24 = .ok (.aload_n 0, 1) := by decide +kernel
theorem dX8_nearestFire_25 : decode cX8_nearestFire 25 = .ok (.iload_n 1, 1) := by decide +kernel
theorem dX8_nearestFire_26 : decode cX8_nearestFire 26 = .ok (.iload 4, 2) := by decide +kernel
theorem dX8_nearestFire_28 : decode cX8_nearestFire 28 = .ok (.invokevirtual 111, 3) := by decide +kernel
theorem dX8_nearestFire_31 : decode cX8_nearestFire 31 = .ok (.istore 5, 2) := by decide +kernel
theorem dX8_nearestFire_33 : decode cX8_nearestFire 33 = .ok (.aload_n 0, 1) := by decide +kernel
theorem dX8_nearestFire_34 : decode cX8_nearestFire 34 = .ok (.getfield 17, 3) := by decide +kernel
theorem dX8_nearestFire_37 : decode cX8_nearestFire 37 = .ok (.iload 4, 2) := by decide +kernel
theorem dX8_nearestFire_39 : decode cX8_nearestFire 39 = .ok (.aaload, 1) := by decide +kernel
theorem dX8_nearestFire_40 : decode cX8_nearestFire 40 = .ok (.getfield 60, 3) := by decide +kernel
theorem dX8_nearestFire_43 : decode cX8_nearestFire 43 = .ok (.ifCond .eq 20, 3) := by decide +kernel
theorem dX8_nearestFire_46 : decode cX8_nearestFire 46 = .ok (.iload 5, 2) := by decide +kernel
theorem dX8_nearestFire_48 : decode cX8_nearestFire 48 = .ok (.ifCond .le 15, 3) := by decide +kernel
theorem dX8_nearestFire_51 : decode cX8_nearestFire 51 = .ok (.iload 5, 2) := by decide +kernel
theorem dX8_nearestFire_53 : decode cX8_nearestFire 53 = .ok (.iload_n 3, 1) := by decide +kernel
theorem dX8_nearestFire_54 : decode cX8_nearestFire 54 = .ok (.if_icmp .ge 9, 3) := by decide +kernel
theorem dX8_nearestFire_57 : decode cX8_nearestFire 57 = .ok (.iload 5, 2) := by decide +kernel
theorem dX8_nearestFire_59 : decode cX8_nearestFire 59 = .ok (.istore_n 3, 1) := by decide +kernel
theorem dX8_nearestFire_60 : decode cX8_nearestFire 60 = .ok (.iload 4, 2) := by decide +kernel
theorem dX8_nearestFire_62 : decode cX8_nearestFire 62 = .ok (.istore_n 2, 1) := by decide +kernel
theorem dX8_nearestFire_63 : decode cX8_nearestFire 63 = .ok (.iinc 4 1, 3) := by decide +kernel
theorem dX8_nearestFire_66 : decode cX8_nearestFire 66 = .ok (.goto (-58), 3) := by decide +kernel
theorem dX8_nearestFire_69 : decode cX8_nearestFire 69 = .ok (.iload_n 2, 1) := by decide +kernel
theorem dX8_nearestFire_70 : decode cX8_nearestFire 70 = .ok (.ireturn, 1) := by decide +kernel
def f_X8_nearestFire_L8 (n0 : Nat) (c1 : Int32) (u : PM) : Int32 × Int32 × Int32 → Option ((Int32 × Int32 × Int32) ⊕ (Int32)) := fun (x2 , x3 , x4) =>
  if (u.1 (1, n0, 0) 0) ≤ x4 then
    some (.inr (x2))
  else
  if (6 : Int32) ≤ x4 then
    some (.inr (x2))
  else
  (f_X8_hoursBetween n0 c1 x4 u).bind fun r1 =>
  if x4 < 0 ∨ 6 ≤ x4.toNatClampNeg then none else
  if (u.1 (3, n0, x4.toNatClampNeg) 1) = 0 then
    some (.inl (x2, x3, x4 + (1 : Int32)))
  else
  if r1 ≤ 0 then
    some (.inl (x2, x3, x4 + (1 : Int32)))
  else
  if x3 ≤ r1 then
    some (.inl (x2, x3, x4 + (1 : Int32)))
  else
  some (.inl (x4, r1, x4 + (1 : Int32)))
set_option maxHeartbeats 4000000 in
set_option maxRecDepth 20000 in
theorem K_X8_nearestFire_L8 {l : Launch} {T : Option AV × List Key × AM} {n0 : Nat} (hn0 : n0 < 4) {c1 : Int32} {u : PM} : ∀ (n : Nat) (s : Int32 × Int32 × Int32) (e0 : Int32), am_loop (f_X8_nearestFire_L8 n0 c1 u) n s = some e0 → (fun e : Int32 => X l mX8_nearestFire 2 0 0 false T kC 0 0 69 [none, none, some (vI e), none, none, none] [] (en u)) e0 → X l mX8_nearestFire 2 0 0 false T kC 0 0 8 [some (vR (1, n0, 0)), some (vI c1), some (vI s.1), some (vI s.2.1), some (vI s.2.2), none] [] (en u) := by
  refine am_loop_of ?_
  intro s x hf k1 k2
  obtain ⟨x2 , x3 , x4⟩ := s
  unfold f_X8_nearestFire_L8 at hf
  show X l mX8_nearestFire 2 0 0 false T kC 0 0 8 [some (vR (1, n0, 0)), some (vI c1), some (vI x2), some (vI x3), some (vI x4), none] [] (en u)
  refine r_iload (x := x4) dX8_nearestFire_8 rfl ?_
  refine r_aload_n (x := (1, n0, 0)) dX8_nearestFire_10 rfl ?_
  refine e_geti fw_X8_9 dX8_nearestFire_11 (kC_mem (s := 1) (by decide) hn0 (by decide)) rfl (lt_b rfl) ?_
  refine r_icmp_ge (tgt := 69) dX8_nearestFire_14 (by decide) (fun hc => ?_) (fun hc => ?_)
  · have hf := (am_if hf).1 hc
    refine r_weak (L' := [none, none, some (vI x2), none, none, none]) (And.intro rfl trivial) ?_
    exact k2 (x2) (am_inj hf).symm
  · have hf := (am_if hf).2 hc
    refine r_iload (x := x4) dX8_nearestFire_17 rfl ?_
    refine r_bipush (v := 6) dX8_nearestFire_19 rfl ?_
    refine r_icmp_ge (tgt := 69) dX8_nearestFire_21 (by decide) (fun hc => ?_) (fun hc => ?_)
    · have hf := (am_if hf).1 hc
      refine r_weak (L' := [none, none, some (vI x2), none, none, none]) (And.intro rfl trivial) ?_
      exact k2 (x2) (am_inj hf).symm
    · have hf := (am_if hf).2 hc
      refine r_aload_n (x := (1, n0, 0)) dX8_nearestFire_24 rfl ?_
      refine r_iload_n (x := c1) dX8_nearestFire_25 rfl ?_
      refine r_iload (x := x4) dX8_nearestFire_26 rfl ?_
      obtain ⟨r1, hr2, hf⟩ := am_bind hf
      refine r_callV (as := [vI c1, vI x4]) (st := []) (n := 2) mw_X8_111 mv_X8_hoursBetween (C_X8_hoursBetween (l := l) hn0 hr2) (le_b rfl) dX8_nearestFire_28 (kC_mem (s := 1) (by decide) hn0 (by decide)) rfl rfl rfl (le_b rfl) (le_b rfl) (le_b rfl) ?_
      show X l _ _ 0 0 false _ kC 0 0 31 [some (vR (1, n0, 0)), some (vI c1), some (vI x2), some (vI x3), some (vI x4), none] [vI r1] (en u)
      refine r_istore (L' := [some (vR (1, n0, 0)), some (vI c1), some (vI x2), some (vI x3), some (vI x4), some (vI r1)]) dX8_nearestFire_31 (by decide) rfl ?_
      refine r_aload_n (x := (1, n0, 0)) dX8_nearestFire_33 rfl ?_
      refine e_getr (z := some (2, n0, 0)) fw_X8_17 dX8_nearestFire_34 (kC_mem (s := 1) (by decide) hn0 (by decide)) rfl (lt_b rfl) rfl ?_
      refine r_iload (x := x4) dX8_nearestFire_37 rfl ?_
      obtain ⟨h3, hf⟩ := am_nchk hf
      refine e_aald (n := x4.toNatClampNeg) (z := some (3, n0, x4.toNatClampNeg)) dX8_nearestFire_39 (kC_mem (s := 2) (by decide) hn0 (by decide)) ⟨le_b rfl, lt_b rfl⟩ h3 rfl rfl ?_
      refine e_geti fw_X8_60 dX8_nearestFire_40 (kC_mem (s := 3) (by decide) hn0 (vp_lt h3)) rfl (lt_b rfl) ?_
      refine r_if_eq (tgt := 63) dX8_nearestFire_43 (by decide) (fun hc => ?_) (fun hc => ?_)
      · have hf := (am_if hf).1 hc
        refine r_iinc (x := x4) (v := x4 + (1 : Int32)) (L' := [some (vR (1, n0, 0)), some (vI c1), some (vI x2), some (vI x3), some (vI (x4 + (1 : Int32))), some (vI r1)]) dX8_nearestFire_63 rfl rfl (lt_b rfl) rfl ?_
        refine r_goto (tgt := 8) dX8_nearestFire_66 (by decide) ?_
        refine r_weak (L' := [some (vR (1, n0, 0)), some (vI c1), some (vI x2), some (vI x3), some (vI (x4 + (1 : Int32))), none]) (And.intro rfl (And.intro rfl (And.intro rfl (And.intro rfl (And.intro rfl trivial))))) ?_
        exact k1 (x2, x3, x4 + (1 : Int32)) (am_inj hf).symm
      · have hf := (am_if hf).2 hc
        refine r_iload (x := r1) dX8_nearestFire_46 rfl ?_
        refine r_if_le (tgt := 63) dX8_nearestFire_48 (by decide) (fun hc => ?_) (fun hc => ?_)
        · have hf := (am_if hf).1 hc
          refine r_iinc (x := x4) (v := x4 + (1 : Int32)) (L' := [some (vR (1, n0, 0)), some (vI c1), some (vI x2), some (vI x3), some (vI (x4 + (1 : Int32))), some (vI r1)]) dX8_nearestFire_63 rfl rfl (lt_b rfl) rfl ?_
          refine r_goto (tgt := 8) dX8_nearestFire_66 (by decide) ?_
          refine r_weak (L' := [some (vR (1, n0, 0)), some (vI c1), some (vI x2), some (vI x3), some (vI (x4 + (1 : Int32))), none]) (And.intro rfl (And.intro rfl (And.intro rfl (And.intro rfl (And.intro rfl trivial))))) ?_
          exact k1 (x2, x3, x4 + (1 : Int32)) (am_inj hf).symm
        · have hf := (am_if hf).2 hc
          refine r_iload (x := r1) dX8_nearestFire_51 rfl ?_
          refine r_iload_n (x := x3) dX8_nearestFire_53 rfl ?_
          refine r_icmp_ge (tgt := 63) dX8_nearestFire_54 (by decide) (fun hc => ?_) (fun hc => ?_)
          · have hf := (am_if hf).1 hc
            refine r_iinc (x := x4) (v := x4 + (1 : Int32)) (L' := [some (vR (1, n0, 0)), some (vI c1), some (vI x2), some (vI x3), some (vI (x4 + (1 : Int32))), some (vI r1)]) dX8_nearestFire_63 rfl rfl (lt_b rfl) rfl ?_
            refine r_goto (tgt := 8) dX8_nearestFire_66 (by decide) ?_
            refine r_weak (L' := [some (vR (1, n0, 0)), some (vI c1), some (vI x2), some (vI x3), some (vI (x4 + (1 : Int32))), none]) (And.intro rfl (And.intro rfl (And.intro rfl (And.intro rfl (And.intro rfl trivial))))) ?_
            exact k1 (x2, x3, x4 + (1 : Int32)) (am_inj hf).symm
          · have hf := (am_if hf).2 hc
            refine r_iload (x := r1) dX8_nearestFire_57 rfl ?_
            refine r_istore_n (L' := [some (vR (1, n0, 0)), some (vI c1), some (vI x2), some (vI r1), some (vI x4), some (vI r1)]) dX8_nearestFire_59 (by decide) rfl ?_
            refine r_iload (x := x4) dX8_nearestFire_60 rfl ?_
            refine r_istore_n (L' := [some (vR (1, n0, 0)), some (vI c1), some (vI x4), some (vI r1), some (vI x4), some (vI r1)]) dX8_nearestFire_62 (by decide) rfl ?_
            refine r_iinc (x := x4) (v := x4 + (1 : Int32)) (L' := [some (vR (1, n0, 0)), some (vI c1), some (vI x4), some (vI r1), some (vI (x4 + (1 : Int32))), some (vI r1)]) dX8_nearestFire_63 rfl rfl (lt_b rfl) rfl ?_
            refine r_goto (tgt := 8) dX8_nearestFire_66 (by decide) ?_
            refine r_weak (L' := [some (vR (1, n0, 0)), some (vI c1), some (vI x4), some (vI r1), some (vI (x4 + (1 : Int32))), none]) (And.intro rfl (And.intro rfl (And.intro rfl (And.intro rfl (And.intro rfl trivial))))) ?_
            exact k1 (x4, r1, x4 + (1 : Int32)) (am_inj hf).symm
def f_X8_nearestFire (v : Nat) (a0 : Int32) (u : PM) : Option (Int32) :=
  (am_loop (f_X8_nearestFire_L8 v a0 u) 2000 ((-1 : Int32), (10 : Int32), (0 : Int32))).bind fun y6 =>
  some y6
set_option maxHeartbeats 4000000 in
set_option maxRecDepth 20000 in
theorem C_X8_nearestFire {l : Launch} {v : Nat} (hv : v < 4) {a0 : Int32} {u : PM} {x : Int32} (hf : f_X8_nearestFire v a0 u = some x) : Ev l mX8_nearestFire 2 0 0 false [vR (1, v, 0), vI a0] kC (en u) (some (vI x), kC, en u) := by
  refine Ev_of (by decide +kernel) (le_b rfl) ?_
  unfold f_X8_nearestFire at hf
  show X l mX8_nearestFire 2 0 0 false _ kC 0 0 0 [some (vR (1, v, 0)), some (vI a0), none, none, none, none] [] (en u)
  refine r_iconst (v := -1) dX8_nearestFire_0 rfl ?_
  refine r_istore_n (L' := [some (vR (1, v, 0)), some (vI a0), some (vI (-1 : Int32)), none, none, none]) dX8_nearestFire_1 (by decide) rfl ?_
  refine r_bipush (v := 10) dX8_nearestFire_2 rfl ?_
  refine r_istore_n (L' := [some (vR (1, v, 0)), some (vI a0), some (vI (-1 : Int32)), some (vI (10 : Int32)), none, none]) dX8_nearestFire_4 (by decide) rfl ?_
  refine r_iconst (v := 0) dX8_nearestFire_5 rfl ?_
  refine r_istore (L' := [some (vR (1, v, 0)), some (vI a0), some (vI (-1 : Int32)), some (vI (10 : Int32)), some (vI (0 : Int32)), none]) dX8_nearestFire_6 (by decide) rfl ?_
  refine r_weak (L' := [some (vR (1, v, 0)), some (vI a0), some (vI (-1 : Int32)), some (vI (10 : Int32)), some (vI (0 : Int32)), none]) (And.intro rfl (And.intro rfl (And.intro rfl (And.intro rfl (And.intro rfl trivial))))) ?_
  obtain ⟨e4, he5, hf⟩ := am_bind hf
  refine K_X8_nearestFire_L8 hv 2000 ((-1 : Int32), (10 : Int32), (0 : Int32)) _ he5 ?_
  obtain ⟨y6, rfl⟩ : ∃ z, z = e4 := ⟨_, rfl⟩
  show X l _ _ 0 0 false _ kC 0 0 69 [none, none, some (vI y6), none, none, none] [] (en u)
  refine r_iload_n (x := y6) dX8_nearestFire_69 rfl ?_
  have hx := am_inj hf
  subst hx
  exact r_iret dX8_nearestFire_70 rfl rfl (le_b rfl) (le_b rfl)
/-! FireFromFire$Village.isKeeping -/
theorem dX8_isKeeping_0 : decode cX8_isKeeping 0 = .ok (.aload_n 1, 1) := by decide +kernel
theorem dX8_isKeeping_1 : decode cX8_isKeeping 1 = .ok (.getfield 74, 3) := by decide +kernel
theorem dX8_isKeeping_4 : decode cX8_isKeeping 4 = .ok (.tableswitch 141 2 6 #[36, 55, 75, 92, 115], 36) := by decide +kernel
theorem dX8_isKeeping_40 : decode cX8_isKeeping 40 = .ok (.aload_n 0, 1) := by decide +kernel
theorem dX8_isKeeping_41 : decode cX8_isKeeping 41 = .ok (.invokevirtual 64, 3) := by decide +kernel
theorem dX8_isKeeping_44 : decode cX8_isKeeping 44 = .ok (.iconst 1, 1) := by decide +kernel
theorem dX8_isKeeping_45 : decode cX8_isKeeping 45 = .ok (.iload_n 2, 1) := by decide +kernel
theorem dX8_isKeeping_46 : decode cX8_isKeeping 46 = .ok (.ishl, 1) := by decide +kernel
theorem dX8_isKeeping_47 : decode cX8_isKeeping 47 = .ok (.iconst 1, 1) := by decide +kernel
theorem dX8_isKeeping_48 : decode cX8_isKeeping 48 = .ok (.isub, 1) := by decide +kernel
theorem dX8_isKeeping_49 : decode cX8_isKeeping 49 = .ok (.iand, 1) := by decide +kernel
theorem dX8_isKeeping_50 : decode cX8_isKeeping 50 = .ok (.ifCond .ne 7, 3) := by decide +kernel
theorem dX8_isKeeping_53 : decode cX8_isKeeping 53 = .ok (.iconst 1, 1) := by decide +kernel
theorem dX8_isKeeping_54 : decode cX8_isKeeping 54 = .ok (.goto 4, 3) := by decide +kernel
theorem dX8_isKeeping_57 : decode cX8_isKeeping 57 = .ok (.iconst 0, 1) := by decide +kernel
theorem dX8_isKeeping_58 : decode cX8_isKeeping 58 = .ok (.ireturn, 1) := by decide +kernel
theorem dX8_isKeeping_59 : decode cX8_isKeeping 59 = .ok (.aload_n 0, 1) := by decide +kernel
theorem dX8_isKeeping_60 : decode cX8_isKeeping 60 = .ok (.iconst 3, 1) := by decide +kernel
theorem dX8_isKeeping_61 : decode cX8_isKeeping 61 = .ok (.iload_n 2, 1) := by decide +kernel
theorem dX8_isKeeping_62 : decode cX8_isKeeping 62 = .ok (.iload_n 3, 1) := by decide +kernel
theorem dX8_isKeeping_63 : decode cX8_isKeeping 63 = .ok (.invokevirtual 127, 3) := by decide +kernel
theorem dX8_isKeeping_66 : decode cX8_isKeeping 66 = .ok (.aload_n 1, 1) := by decide +kernel
theorem dX8_isKeeping_67 : decode cX8_isKeeping 67 = .ok (.getfield 77, 3) := by decide +kernel
theorem dX8_isKeeping_70 : decode cX8_isKeeping 70 = .ok (.if_icmp .lt 7, 3) := by decide +kernel
theorem dX8_isKeeping_73 : decode cX8_isKeeping 73 = .ok (.iconst 1, 1) := by decide +kernel
theorem dX8_isKeeping_74 : decode cX8_isKeeping 74 = .ok (.goto 4, 3) := by decide +kernel
theorem dX8_isKeeping_77 : decode cX8_isKeeping 77 = .ok (.iconst 0, 1) := by decide +kernel
theorem dX8_isKeeping_78 : decode cX8_isKeeping 78 = .ok (.ireturn, 1) := by decide +kernel
theorem dX8_isKeeping_79 : decode cX8_isKeeping 79 = .ok (.aload_n 1, 1) := by decide +kernel
theorem dX8_isKeeping_80 : decode cX8_isKeeping 80 = .ok (.getfield 84, 3) := by decide +kernel
theorem dX8_isKeeping_83 : decode cX8_isKeeping 83 = .ok (.aload_n 1, 1) := by decide +kernel
theorem dX8_isKeeping_84 : decode cX8_isKeeping 84 = .ok (.getfield 77, 3) := by decide +kernel
theorem dX8_isKeeping_87 : decode cX8_isKeeping 87 = .ok (.if_icmp .lt 7, 3) := by decide +kernel
theorem dX8_isKeeping_90 : decode cX8_isKeeping 90 = .ok (.iconst 1, 1) := by decide +kernel
theorem dX8_isKeeping_91 : decode cX8_isKeeping 91 = .ok (.goto 4, 3) := by decide +kernel
theorem dX8_isKeeping_94 : decode cX8_isKeeping 94 = .ok (.iconst 0, 1) := by decide +kernel
theorem dX8_isKeeping_95 : decode cX8_isKeeping 95 = .ok (.ireturn, 1) := by decide +kernel
theorem dX8_isKeeping_96 : decode cX8_isKeeping 96 = .ok (.aload_n 1, 1) := by decide +kernel
theorem dX8_isKeeping_97 : decode cX8_isKeeping 97 = .ok (.getfield 131, 3) := by decide +kernel
theorem dX8_isKeeping_100 : decode cX8_isKeeping 100 = .ok (.aload_n 0, 1) := by decide +kernel
theorem dX8_isKeeping_101 : decode cX8_isKeeping 101 = .ok (.getfield 29, 3) := by decide +kernel
theorem dX8_isKeeping_104 : decode cX8_isKeeping 104 = .ok (.bipush 24, 2) := by decide +kernel
theorem dX8_isKeeping_106 : decode cX8_isKeeping 106 = .ok (.irem, 1) := by decide +kernel
theorem dX8_isKeeping_107 : decode cX8_isKeeping 107 = .ok (.ishr, 1) := by decide +kernel
theorem dX8_isKeeping_108 : decode cX8_isKeeping 108 = .ok (.iconst 1, 1) := by decide +kernel
theorem dX8_isKeeping_109 : decode cX8_isKeeping 109 = .ok (.iand, 1) := by decide +kernel
theorem dX8_isKeeping_110 : decode cX8_isKeeping 110 = .ok (.ifCond .eq 7, 3) := by decide +kernel
theorem dX8_isKeeping_113 : decode cX8_isKeeping 113 = .ok (.iconst 1, 1) := by decide +kernel
theorem dX8_isKeeping_114 : decode cX8_isKeeping 114 = .ok (.goto 4, 3) := by decide +kernel
theorem dX8_isKeeping_117 : decode cX8_isKeeping 117 = .ok (.iconst 0, 1) := by decide +kernel
theorem dX8_isKeeping_118 : decode cX8_isKeeping 118 = .ok (.ireturn, 1) := by decide +kernel
theorem dX8_isKeeping_119 : decode cX8_isKeeping 119 = .ok (.aload_n 0, 1) := by decide +kernel
theorem dX8_isKeeping_120 : decode cX8_isKeeping 120 = .ok (.invokevirtual 64, 3) := by decide +kernel
theorem dX8_isKeeping_123 : decode cX8_isKeeping 123 = .ok (.iconst 1, 1) := by decide +kernel
theorem dX8_isKeeping_124 : decode cX8_isKeeping 124 = .ok (.iload_n 2, 1) := by decide +kernel
theorem dX8_isKeeping_125 : decode cX8_isKeeping 125 = .ok (.ishl, 1) := by decide +kernel
theorem dX8_isKeeping_126 : decode cX8_isKeeping 126 = .ok (.iconst (-1), 1) := by decide +kernel
theorem dX8_isKeeping_127 : decode cX8_isKeeping 127 = .ok (.ixor, 1) := by decide +kernel
theorem dX8_isKeeping_128 : decode cX8_isKeeping 128 = .ok (.iand, 1) := by decide +kernel
theorem dX8_isKeeping_129 : decode cX8_isKeeping 129 = .ok (.invokestatic 68, 3) := by decide +kernel
theorem dX8_isKeeping_132 : decode cX8_isKeeping 132 = .ok (.aload_n 1, 1) := by decide +kernel
theorem dX8_isKeeping_133 : decode cX8_isKeeping 133 = .ok (.getfield 77, 3) := by decide +kernel
theorem dX8_isKeeping_136 : decode cX8_isKeeping 136 = .ok (.if_icmp .ge 7, 3) := by decide +kernel
theorem dX8_isKeeping_139 : decode cX8_isKeeping 139 = .ok (.iconst 1, 1) := by decide +kernel
theorem dX8_isKeeping_140 : decode cX8_isKeeping 140 = .ok (.goto 4, 3) := by decide +kernel
theorem dX8_isKeeping_143 : decode cX8_isKeeping 143 = .ok (.iconst 0, 1) := by decide +kernel
theorem dX8_isKeeping_144 : decode cX8_isKeeping 144 = .ok (.ireturn, 1) := by decide +kernel
theorem dX8_isKeeping_145 : decode cX8_isKeeping 145 = .ok (.iconst 1, 1) := by decide +kernel
theorem dX8_isKeeping_146 : decode cX8_isKeeping 146 = .ok (.ireturn, 1) := by decide +kernel
def f_X8_isKeeping (v : Nat) (g : Nat) (a1 : Int32) (a2 : Int32) (u : PM) : Option (Int32 × PM) :=
  if (u.1 (3, v, g) 2) = (2 : Int32) then
    (f_X8_litBits v u).bind fun r1 =>
    if (r1 &&& (((1 : Int32) <<< (a1 &&& 31)) - (1 : Int32))) = 0 then
      some ((1 : Int32), u)
    else
    some ((0 : Int32), u)
  else if (u.1 (3, v, g) 2) = (3 : Int32) then
    (f_X8_sum v (3 : Int32) a1 a2 u).bind fun (r3, u5) =>
    if r3 < (u5.1 (3, v, g) 3) then
      some ((0 : Int32), u5)
    else
    some ((1 : Int32), u5)
  else if (u.1 (3, v, g) 2) = (4 : Int32) then
    if (u.1 (3, v, g) 0) < (u.1 (3, v, g) 3) then
      some ((0 : Int32), u)
    else
    some ((1 : Int32), u)
  else if (u.1 (3, v, g) 2) = (5 : Int32) then
    if (((u.1 (3, v, g) 4) >>> (((u.1 (1, v, 0) 4) - (u.1 (1, v, 0) 4) / (24 : Int32) * (24 : Int32)) &&& 31)) &&& (1 : Int32)) = 0 then
      some ((0 : Int32), u)
    else
    some ((1 : Int32), u)
  else if (u.1 (3, v, g) 2) = (6 : Int32) then
    (f_X8_litBits v u).bind fun r6 =>
    (f_J6_bitCount_0f7a4 (r6 &&& (((1 : Int32) <<< (a1 &&& 31)) ^^^ (-1 : Int32))) u).bind fun r8 =>
    if (u.1 (3, v, g) 3) ≤ r8 then
      some ((0 : Int32), u)
    else
    some ((1 : Int32), u)
  else 
  some ((1 : Int32), u)
set_option maxHeartbeats 4000000 in
set_option maxRecDepth 20000 in
theorem C_X8_isKeeping {l : Launch} {v : Nat} (hv : v < 4) {g : Nat} (hg : g < 6) {a1 : Int32} {a2 : Int32} {u : PM} {x : Int32 × PM} (hf : f_X8_isKeeping v g a1 a2 u = some x) : Ev l mX8_isKeeping 4 0 0 false [vR (1, v, 0), vR (3, v, g), vI a1, vI a2] kC (en u) (some (vI x.1), kC, en x.2) := by
  refine Ev_of (by decide +kernel) (le_b rfl) ?_
  unfold f_X8_isKeeping at hf
  show X l mX8_isKeeping 4 0 0 false _ kC 0 0 0 [some (vR (1, v, 0)), some (vR (3, v, g)), some (vI a1), some (vI a2)] [] (en u)
  refine r_aload_n (x := (3, v, g)) dX8_isKeeping_0 rfl ?_
  refine e_geti fw_X8_74 dX8_isKeeping_1 (kC_mem (s := 3) (by decide) hv hg) rfl (lt_b rfl) ?_
  by_cases hs0 : (u.1 (3, v, g) 2) = (2 : Int32)
  · have hf := (am_if hf).1 hs0
    refine r_tswIn (x := u.1 (3, v, g) 2) (kx := 2) (tgt := 40) dX8_isKeeping_4 hs0 (by decide) (by decide) rfl (by decide) ?_
    refine r_aload_n (x := (1, v, 0)) dX8_isKeeping_40 rfl ?_
    obtain ⟨r1, hr2, hf⟩ := am_bind hf
    refine r_callV (as := []) (st := []) (n := 0) mw_X8_64 mv_X8_litBits (C_X8_litBits (l := l) hv hr2) (le_b rfl) dX8_isKeeping_41 (kC_mem (s := 1) (by decide) hv (by decide)) rfl rfl rfl (le_b rfl) (le_b rfl) (le_b rfl) ?_
    show X l _ _ 0 0 false _ kC 0 0 44 [some (vR (1, v, 0)), some (vR (3, v, g)), some (vI a1), some (vI a2)] [vI r1] (en u)
    refine r_iconst (v := 1) dX8_isKeeping_44 rfl ?_
    refine r_iload_n (x := a1) dX8_isKeeping_45 rfl ?_
    refine r_ishl dX8_isKeeping_46 ?_
    refine r_iconst (v := 1) dX8_isKeeping_47 rfl ?_
    refine r_isub dX8_isKeeping_48 ?_
    refine r_iand dX8_isKeeping_49 ?_
    refine r_if_ne (tgt := 57) dX8_isKeeping_50 (by decide) (fun hc => ?_) (fun hc => ?_)
    · have hf := (am_if hf).2 hc
      refine r_iconst (v := 0) dX8_isKeeping_57 rfl ?_
      have hx := am_inj hf
      subst hx
      exact r_iret dX8_isKeeping_58 rfl (am_bool (x := 0) (by decide)).1 (le_b rfl) (le_b rfl)
    · have hf := (am_if hf).1 hc
      refine r_iconst (v := 1) dX8_isKeeping_53 rfl ?_
      refine r_goto (tgt := 58) dX8_isKeeping_54 (by decide) ?_
      have hx := am_inj hf
      subst hx
      exact r_iret dX8_isKeeping_58 rfl (am_bool (x := 1) (by decide)).1 (le_b rfl) (le_b rfl)
  have hf := (am_if hf).2 hs0
  by_cases hs1 : (u.1 (3, v, g) 2) = (3 : Int32)
  · have hf := (am_if hf).1 hs1
    refine r_tswIn (x := u.1 (3, v, g) 2) (kx := 3) (tgt := 59) dX8_isKeeping_4 hs1 (by decide) (by decide) rfl (by decide) ?_
    refine r_aload_n (x := (1, v, 0)) dX8_isKeeping_59 rfl ?_
    refine r_iconst (v := 3) dX8_isKeeping_60 rfl ?_
    refine r_iload_n (x := a1) dX8_isKeeping_61 rfl ?_
    refine r_iload_n (x := a2) dX8_isKeeping_62 rfl ?_
    obtain ⟨⟨r3, u5⟩, hr4, hf⟩ := am_bind hf
    refine r_callV (as := [vI (3 : Int32), vI a1, vI a2]) (st := []) (n := 3) mw_X8_127 mv_X8_sum (C_X8_sum (l := l) hv hr4) (le_b rfl) dX8_isKeeping_63 (kC_mem (s := 1) (by decide) hv (by decide)) rfl rfl rfl (le_b rfl) (le_b rfl) (le_b rfl) ?_
    show X l _ _ 0 0 false _ kC 0 0 66 [some (vR (1, v, 0)), some (vR (3, v, g)), some (vI a1), some (vI a2)] [vI r3] (en u5)
    refine r_aload_n (x := (3, v, g)) dX8_isKeeping_66 rfl ?_
    refine e_geti fw_X8_77 dX8_isKeeping_67 (kC_mem (s := 3) (by decide) hv hg) rfl (lt_b rfl) ?_
    refine r_icmp_lt (tgt := 77) dX8_isKeeping_70 (by decide) (fun hc => ?_) (fun hc => ?_)
    · have hf := (am_if hf).1 hc
      refine r_iconst (v := 0) dX8_isKeeping_77 rfl ?_
      have hx := am_inj hf
      subst hx
      exact r_iret dX8_isKeeping_78 rfl (am_bool (x := 0) (by decide)).1 (le_b rfl) (le_b rfl)
    · have hf := (am_if hf).2 hc
      refine r_iconst (v := 1) dX8_isKeeping_73 rfl ?_
      refine r_goto (tgt := 78) dX8_isKeeping_74 (by decide) ?_
      have hx := am_inj hf
      subst hx
      exact r_iret dX8_isKeeping_78 rfl (am_bool (x := 1) (by decide)).1 (le_b rfl) (le_b rfl)
  have hf := (am_if hf).2 hs1
  by_cases hs2 : (u.1 (3, v, g) 2) = (4 : Int32)
  · have hf := (am_if hf).1 hs2
    refine r_tswIn (x := u.1 (3, v, g) 2) (kx := 4) (tgt := 79) dX8_isKeeping_4 hs2 (by decide) (by decide) rfl (by decide) ?_
    refine r_aload_n (x := (3, v, g)) dX8_isKeeping_79 rfl ?_
    refine e_geti fw_X8_84 dX8_isKeeping_80 (kC_mem (s := 3) (by decide) hv hg) rfl (lt_b rfl) ?_
    refine r_aload_n (x := (3, v, g)) dX8_isKeeping_83 rfl ?_
    refine e_geti fw_X8_77 dX8_isKeeping_84 (kC_mem (s := 3) (by decide) hv hg) rfl (lt_b rfl) ?_
    refine r_icmp_lt (tgt := 94) dX8_isKeeping_87 (by decide) (fun hc => ?_) (fun hc => ?_)
    · have hf := (am_if hf).1 hc
      refine r_iconst (v := 0) dX8_isKeeping_94 rfl ?_
      have hx := am_inj hf
      subst hx
      exact r_iret dX8_isKeeping_95 rfl (am_bool (x := 0) (by decide)).1 (le_b rfl) (le_b rfl)
    · have hf := (am_if hf).2 hc
      refine r_iconst (v := 1) dX8_isKeeping_90 rfl ?_
      refine r_goto (tgt := 95) dX8_isKeeping_91 (by decide) ?_
      have hx := am_inj hf
      subst hx
      exact r_iret dX8_isKeeping_95 rfl (am_bool (x := 1) (by decide)).1 (le_b rfl) (le_b rfl)
  have hf := (am_if hf).2 hs2
  by_cases hs3 : (u.1 (3, v, g) 2) = (5 : Int32)
  · have hf := (am_if hf).1 hs3
    refine r_tswIn (x := u.1 (3, v, g) 2) (kx := 5) (tgt := 96) dX8_isKeeping_4 hs3 (by decide) (by decide) rfl (by decide) ?_
    refine r_aload_n (x := (3, v, g)) dX8_isKeeping_96 rfl ?_
    refine e_geti fw_X8_131 dX8_isKeeping_97 (kC_mem (s := 3) (by decide) hv hg) rfl (lt_b rfl) ?_
    refine r_aload_n (x := (1, v, 0)) dX8_isKeeping_100 rfl ?_
    refine e_geti fw_X8_29 dX8_isKeeping_101 (kC_mem (s := 1) (by decide) hv (by decide)) rfl (lt_b rfl) ?_
    refine r_bipush (v := 24) dX8_isKeeping_104 rfl ?_
    refine r_irem dX8_isKeeping_106 (by decide) ?_
    refine r_ishr dX8_isKeeping_107 ?_
    refine r_iconst (v := 1) dX8_isKeeping_108 rfl ?_
    refine r_iand dX8_isKeeping_109 ?_
    refine r_if_eq (tgt := 117) dX8_isKeeping_110 (by decide) (fun hc => ?_) (fun hc => ?_)
    · have hf := (am_if hf).1 hc
      refine r_iconst (v := 0) dX8_isKeeping_117 rfl ?_
      have hx := am_inj hf
      subst hx
      exact r_iret dX8_isKeeping_118 rfl (am_bool (x := 0) (by decide)).1 (le_b rfl) (le_b rfl)
    · have hf := (am_if hf).2 hc
      refine r_iconst (v := 1) dX8_isKeeping_113 rfl ?_
      refine r_goto (tgt := 118) dX8_isKeeping_114 (by decide) ?_
      have hx := am_inj hf
      subst hx
      exact r_iret dX8_isKeeping_118 rfl (am_bool (x := 1) (by decide)).1 (le_b rfl) (le_b rfl)
  have hf := (am_if hf).2 hs3
  by_cases hs4 : (u.1 (3, v, g) 2) = (6 : Int32)
  · have hf := (am_if hf).1 hs4
    refine r_tswIn (x := u.1 (3, v, g) 2) (kx := 6) (tgt := 119) dX8_isKeeping_4 hs4 (by decide) (by decide) rfl (by decide) ?_
    refine r_aload_n (x := (1, v, 0)) dX8_isKeeping_119 rfl ?_
    obtain ⟨r6, hr7, hf⟩ := am_bind hf
    refine r_callV (as := []) (st := []) (n := 0) mw_X8_64 mv_X8_litBits (C_X8_litBits (l := l) hv hr7) (le_b rfl) dX8_isKeeping_120 (kC_mem (s := 1) (by decide) hv (by decide)) rfl rfl rfl (le_b rfl) (le_b rfl) (le_b rfl) ?_
    show X l _ _ 0 0 false _ kC 0 0 123 [some (vR (1, v, 0)), some (vR (3, v, g)), some (vI a1), some (vI a2)] [vI r6] (en u)
    refine r_iconst (v := 1) dX8_isKeeping_123 rfl ?_
    refine r_iload_n (x := a1) dX8_isKeeping_124 rfl ?_
    refine r_ishl dX8_isKeeping_125 ?_
    refine r_iconst (v := -1) dX8_isKeeping_126 rfl ?_
    refine r_ixor dX8_isKeeping_127 ?_
    refine r_iand dX8_isKeeping_128 ?_
    obtain ⟨r8, hr9, hf⟩ := am_bind hf
    refine r_callS (as := [vI (r6 &&& (((1 : Int32) <<< (a1 &&& 31)) ^^^ (-1 : Int32)))]) (st := []) (n := 1) mw_X8_68 ms_J6_bitCount_0f7a4 (C_J6_bitCount_0f7a4 (l := l) hr9) (le_b rfl) dX8_isKeeping_129 rfl (le_b rfl) (le_b rfl) (le_b rfl) ?_
    show X l _ _ 0 0 false _ kC 0 0 132 [some (vR (1, v, 0)), some (vR (3, v, g)), some (vI a1), some (vI a2)] [vI r8] (en u)
    refine r_aload_n (x := (3, v, g)) dX8_isKeeping_132 rfl ?_
    refine e_geti fw_X8_77 dX8_isKeeping_133 (kC_mem (s := 3) (by decide) hv hg) rfl (lt_b rfl) ?_
    refine r_icmp_ge (tgt := 143) dX8_isKeeping_136 (by decide) (fun hc => ?_) (fun hc => ?_)
    · have hf := (am_if hf).1 hc
      refine r_iconst (v := 0) dX8_isKeeping_143 rfl ?_
      have hx := am_inj hf
      subst hx
      exact r_iret dX8_isKeeping_144 rfl (am_bool (x := 0) (by decide)).1 (le_b rfl) (le_b rfl)
    · have hf := (am_if hf).2 hc
      refine r_iconst (v := 1) dX8_isKeeping_139 rfl ?_
      refine r_goto (tgt := 144) dX8_isKeeping_140 (by decide) ?_
      have hx := am_inj hf
      subst hx
      exact r_iret dX8_isKeeping_144 rfl (am_bool (x := 1) (by decide)).1 (le_b rfl) (le_b rfl)
  have hf := (am_if hf).2 hs4
  refine r_tswOut (x := u.1 (3, v, g) 2) (tgt := 145) dX8_isKeeping_4 (by have ehs0 := am_neI hs0 (z := 2) rfl; have ehs1 := am_neI hs1 (z := 3) rfl; have ehs2 := am_neI hs2 (z := 4) rfl; have ehs3 := am_neI hs3 (z := 5) rfl; have ehs4 := am_neI hs4 (z := 6) rfl; omega) (by decide) ?_
  refine r_iconst (v := 1) dX8_isKeeping_145 rfl ?_
  have hx := am_inj hf
  subst hx
  exact r_iret dX8_isKeeping_146 rfl (am_bool (x := 1) (by decide)).1 (le_b rfl) (le_b rfl)
/-! FireFromFire$Village.isSending -/
theorem dX8_isSending_0 : decode cX8_isSending 0 = .ok (.aload_n 1, 1) := by decide +kernel
theorem dX8_isSending_1 : decode cX8_isSending 1 = .ok (.getfield 74, 3) := by decide +kernel
theorem dX8_isSending_4 : decode cX8_isSending 4 = .ok (.tableswitch 81 1 6 #[40, 42, 61, 40, 42, 61], 40) := by decide +kernel
theorem dX8_isSending_44 : decode cX8_isSending 44 = .ok (.iconst 1, 1) := by decide +kernel
theorem dX8_isSending_45 : decode cX8_isSending 45 = .ok (.ireturn, 1) := by decide +kernel
theorem dX8_isSending_46 : decode cX8_isSending 46 = .ok (.aload_n 0, 1) := by decide +kernel
theorem dX8_isSending_47 : decode cX8_isSending 47 = .ok (.invokevirtual 64, 3) := by decide +kernel
theorem dX8_isSending_50 : decode cX8_isSending 50 = .ok (.iconst 1, 1) := by decide +kernel
theorem dX8_isSending_51 : decode cX8_isSending 51 = .ok (.iload_n 2, 1) := by decide +kernel
theorem dX8_isSending_52 : decode cX8_isSending 52 = .ok (.ishl, 1) := by decide +kernel
theorem dX8_isSending_53 : decode cX8_isSending 53 = .ok (.iconst 1, 1) := by decide +kernel
theorem dX8_isSending_54 : decode cX8_isSending 54 = .ok (.isub, 1) := by decide +kernel
theorem dX8_isSending_55 : decode cX8_isSending 55 = .ok (.iand, 1) := by decide +kernel
theorem dX8_isSending_56 : decode cX8_isSending 56 = .ok (.ifCond .ne 7, 3) := by decide +kernel
theorem dX8_isSending_59 : decode cX8_isSending 59 = .ok (.iconst 1, 1) := by decide +kernel
theorem dX8_isSending_60 : decode cX8_isSending 60 = .ok (.goto 4, 3) := by decide +kernel
theorem dX8_isSending_63 : decode cX8_isSending 63 = .ok (.iconst 0, 1) := by decide +kernel
theorem dX8_isSending_64 : decode cX8_isSending 64 = .ok (.ireturn, 1) := by decide +kernel
theorem dX8_isSending_65 : decode cX8_isSending 65 = .ok (.aload_n 0, 1) := by decide +kernel
theorem dX8_isSending_66 : decode cX8_isSending 66 = .ok (.iconst 3, 1) := by decide +kernel
theorem dX8_isSending_67 : decode cX8_isSending 67 = .ok (.iload_n 2, 1) := by decide +kernel
theorem dX8_isSending_68 : decode cX8_isSending 68 = .ok (.iload_n 3, 1) := by decide +kernel
theorem dX8_isSending_69 : decode cX8_isSending 69 = .ok (.invokevirtual 127, 3) := by decide +kernel
theorem dX8_isSending_72 : decode cX8_isSending 72 = .ok (.aload_n 1, 1) := by decide +kernel
theorem dX8_isSending_73 : decode cX8_isSending 73 = .ok (.getfield 77, 3) := by decide +kernel
theorem dX8_isSending_76 : decode cX8_isSending 76 = .ok (.if_icmp .lt 7, 3) := by decide +kernel
theorem dX8_isSending_79 : decode cX8_isSending 79 = .ok (.iconst 1, 1) := by decide +kernel
theorem dX8_isSending_80 : decode cX8_isSending 80 = .ok (.goto 4, 3) := by decide +kernel
theorem dX8_isSending_83 : decode cX8_isSending 83 = .ok (.iconst 0, 1) := by decide +kernel
theorem dX8_isSending_84 : decode cX8_isSending 84 = .ok (.ireturn, 1) := by decide +kernel
theorem dX8_isSending_85 : decode cX8_isSending 85 = .ok (.iconst 0, 1) := by decide +kernel
theorem dX8_isSending_86 : decode cX8_isSending 86 = .ok (.ireturn, 1) := by decide +kernel
def f_X8_isSending (v : Nat) (g : Nat) (a1 : Int32) (a2 : Int32) (u : PM) : Option (Int32 × PM) :=
  if (u.1 (3, v, g) 2) = (1 : Int32) then
    some ((1 : Int32), u)
  else if (u.1 (3, v, g) 2) = (2 : Int32) then
    (f_X8_litBits v u).bind fun r1 =>
    if (r1 &&& (((1 : Int32) <<< (a1 &&& 31)) - (1 : Int32))) = 0 then
      some ((1 : Int32), u)
    else
    some ((0 : Int32), u)
  else if (u.1 (3, v, g) 2) = (3 : Int32) then
    (f_X8_sum v (3 : Int32) a1 a2 u).bind fun (r3, u5) =>
    if r3 < (u5.1 (3, v, g) 3) then
      some ((0 : Int32), u5)
    else
    some ((1 : Int32), u5)
  else if (u.1 (3, v, g) 2) = (4 : Int32) then
    some ((1 : Int32), u)
  else if (u.1 (3, v, g) 2) = (5 : Int32) then
    (f_X8_litBits v u).bind fun r6 =>
    if (r6 &&& (((1 : Int32) <<< (a1 &&& 31)) - (1 : Int32))) = 0 then
      some ((1 : Int32), u)
    else
    some ((0 : Int32), u)
  else if (u.1 (3, v, g) 2) = (6 : Int32) then
    (f_X8_sum v (3 : Int32) a1 a2 u).bind fun (r8, u10) =>
    if r8 < (u10.1 (3, v, g) 3) then
      some ((0 : Int32), u10)
    else
    some ((1 : Int32), u10)
  else 
  some ((0 : Int32), u)
set_option maxHeartbeats 4000000 in
set_option maxRecDepth 20000 in
theorem C_X8_isSending {l : Launch} {v : Nat} (hv : v < 4) {g : Nat} (hg : g < 6) {a1 : Int32} {a2 : Int32} {u : PM} {x : Int32 × PM} (hf : f_X8_isSending v g a1 a2 u = some x) : Ev l mX8_isSending 4 0 0 false [vR (1, v, 0), vR (3, v, g), vI a1, vI a2] kC (en u) (some (vI x.1), kC, en x.2) := by
  refine Ev_of (by decide +kernel) (le_b rfl) ?_
  unfold f_X8_isSending at hf
  show X l mX8_isSending 4 0 0 false _ kC 0 0 0 [some (vR (1, v, 0)), some (vR (3, v, g)), some (vI a1), some (vI a2)] [] (en u)
  refine r_aload_n (x := (3, v, g)) dX8_isSending_0 rfl ?_
  refine e_geti fw_X8_74 dX8_isSending_1 (kC_mem (s := 3) (by decide) hv hg) rfl (lt_b rfl) ?_
  by_cases hs0 : (u.1 (3, v, g) 2) = (1 : Int32)
  · have hf := (am_if hf).1 hs0
    refine r_tswIn (x := u.1 (3, v, g) 2) (kx := 1) (tgt := 44) dX8_isSending_4 hs0 (by decide) (by decide) rfl (by decide) ?_
    refine r_iconst (v := 1) dX8_isSending_44 rfl ?_
    have hx := am_inj hf
    subst hx
    exact r_iret dX8_isSending_45 rfl (am_bool (x := 1) (by decide)).1 (le_b rfl) (le_b rfl)
  have hf := (am_if hf).2 hs0
  by_cases hs1 : (u.1 (3, v, g) 2) = (2 : Int32)
  · have hf := (am_if hf).1 hs1
    refine r_tswIn (x := u.1 (3, v, g) 2) (kx := 2) (tgt := 46) dX8_isSending_4 hs1 (by decide) (by decide) rfl (by decide) ?_
    refine r_aload_n (x := (1, v, 0)) dX8_isSending_46 rfl ?_
    obtain ⟨r1, hr2, hf⟩ := am_bind hf
    refine r_callV (as := []) (st := []) (n := 0) mw_X8_64 mv_X8_litBits (C_X8_litBits (l := l) hv hr2) (le_b rfl) dX8_isSending_47 (kC_mem (s := 1) (by decide) hv (by decide)) rfl rfl rfl (le_b rfl) (le_b rfl) (le_b rfl) ?_
    show X l _ _ 0 0 false _ kC 0 0 50 [some (vR (1, v, 0)), some (vR (3, v, g)), some (vI a1), some (vI a2)] [vI r1] (en u)
    refine r_iconst (v := 1) dX8_isSending_50 rfl ?_
    refine r_iload_n (x := a1) dX8_isSending_51 rfl ?_
    refine r_ishl dX8_isSending_52 ?_
    refine r_iconst (v := 1) dX8_isSending_53 rfl ?_
    refine r_isub dX8_isSending_54 ?_
    refine r_iand dX8_isSending_55 ?_
    refine r_if_ne (tgt := 63) dX8_isSending_56 (by decide) (fun hc => ?_) (fun hc => ?_)
    · have hf := (am_if hf).2 hc
      refine r_iconst (v := 0) dX8_isSending_63 rfl ?_
      have hx := am_inj hf
      subst hx
      exact r_iret dX8_isSending_64 rfl (am_bool (x := 0) (by decide)).1 (le_b rfl) (le_b rfl)
    · have hf := (am_if hf).1 hc
      refine r_iconst (v := 1) dX8_isSending_59 rfl ?_
      refine r_goto (tgt := 64) dX8_isSending_60 (by decide) ?_
      have hx := am_inj hf
      subst hx
      exact r_iret dX8_isSending_64 rfl (am_bool (x := 1) (by decide)).1 (le_b rfl) (le_b rfl)
  have hf := (am_if hf).2 hs1
  by_cases hs2 : (u.1 (3, v, g) 2) = (3 : Int32)
  · have hf := (am_if hf).1 hs2
    refine r_tswIn (x := u.1 (3, v, g) 2) (kx := 3) (tgt := 65) dX8_isSending_4 hs2 (by decide) (by decide) rfl (by decide) ?_
    refine r_aload_n (x := (1, v, 0)) dX8_isSending_65 rfl ?_
    refine r_iconst (v := 3) dX8_isSending_66 rfl ?_
    refine r_iload_n (x := a1) dX8_isSending_67 rfl ?_
    refine r_iload_n (x := a2) dX8_isSending_68 rfl ?_
    obtain ⟨⟨r3, u5⟩, hr4, hf⟩ := am_bind hf
    refine r_callV (as := [vI (3 : Int32), vI a1, vI a2]) (st := []) (n := 3) mw_X8_127 mv_X8_sum (C_X8_sum (l := l) hv hr4) (le_b rfl) dX8_isSending_69 (kC_mem (s := 1) (by decide) hv (by decide)) rfl rfl rfl (le_b rfl) (le_b rfl) (le_b rfl) ?_
    show X l _ _ 0 0 false _ kC 0 0 72 [some (vR (1, v, 0)), some (vR (3, v, g)), some (vI a1), some (vI a2)] [vI r3] (en u5)
    refine r_aload_n (x := (3, v, g)) dX8_isSending_72 rfl ?_
    refine e_geti fw_X8_77 dX8_isSending_73 (kC_mem (s := 3) (by decide) hv hg) rfl (lt_b rfl) ?_
    refine r_icmp_lt (tgt := 83) dX8_isSending_76 (by decide) (fun hc => ?_) (fun hc => ?_)
    · have hf := (am_if hf).1 hc
      refine r_iconst (v := 0) dX8_isSending_83 rfl ?_
      have hx := am_inj hf
      subst hx
      exact r_iret dX8_isSending_84 rfl (am_bool (x := 0) (by decide)).1 (le_b rfl) (le_b rfl)
    · have hf := (am_if hf).2 hc
      refine r_iconst (v := 1) dX8_isSending_79 rfl ?_
      refine r_goto (tgt := 84) dX8_isSending_80 (by decide) ?_
      have hx := am_inj hf
      subst hx
      exact r_iret dX8_isSending_84 rfl (am_bool (x := 1) (by decide)).1 (le_b rfl) (le_b rfl)
  have hf := (am_if hf).2 hs2
  by_cases hs3 : (u.1 (3, v, g) 2) = (4 : Int32)
  · have hf := (am_if hf).1 hs3
    refine r_tswIn (x := u.1 (3, v, g) 2) (kx := 4) (tgt := 44) dX8_isSending_4 hs3 (by decide) (by decide) rfl (by decide) ?_
    refine r_iconst (v := 1) dX8_isSending_44 rfl ?_
    have hx := am_inj hf
    subst hx
    exact r_iret dX8_isSending_45 rfl (am_bool (x := 1) (by decide)).1 (le_b rfl) (le_b rfl)
  have hf := (am_if hf).2 hs3
  by_cases hs4 : (u.1 (3, v, g) 2) = (5 : Int32)
  · have hf := (am_if hf).1 hs4
    refine r_tswIn (x := u.1 (3, v, g) 2) (kx := 5) (tgt := 46) dX8_isSending_4 hs4 (by decide) (by decide) rfl (by decide) ?_
    refine r_aload_n (x := (1, v, 0)) dX8_isSending_46 rfl ?_
    obtain ⟨r6, hr7, hf⟩ := am_bind hf
    refine r_callV (as := []) (st := []) (n := 0) mw_X8_64 mv_X8_litBits (C_X8_litBits (l := l) hv hr7) (le_b rfl) dX8_isSending_47 (kC_mem (s := 1) (by decide) hv (by decide)) rfl rfl rfl (le_b rfl) (le_b rfl) (le_b rfl) ?_
    show X l _ _ 0 0 false _ kC 0 0 50 [some (vR (1, v, 0)), some (vR (3, v, g)), some (vI a1), some (vI a2)] [vI r6] (en u)
    refine r_iconst (v := 1) dX8_isSending_50 rfl ?_
    refine r_iload_n (x := a1) dX8_isSending_51 rfl ?_
    refine r_ishl dX8_isSending_52 ?_
    refine r_iconst (v := 1) dX8_isSending_53 rfl ?_
    refine r_isub dX8_isSending_54 ?_
    refine r_iand dX8_isSending_55 ?_
    refine r_if_ne (tgt := 63) dX8_isSending_56 (by decide) (fun hc => ?_) (fun hc => ?_)
    · have hf := (am_if hf).2 hc
      refine r_iconst (v := 0) dX8_isSending_63 rfl ?_
      have hx := am_inj hf
      subst hx
      exact r_iret dX8_isSending_64 rfl (am_bool (x := 0) (by decide)).1 (le_b rfl) (le_b rfl)
    · have hf := (am_if hf).1 hc
      refine r_iconst (v := 1) dX8_isSending_59 rfl ?_
      refine r_goto (tgt := 64) dX8_isSending_60 (by decide) ?_
      have hx := am_inj hf
      subst hx
      exact r_iret dX8_isSending_64 rfl (am_bool (x := 1) (by decide)).1 (le_b rfl) (le_b rfl)
  have hf := (am_if hf).2 hs4
  by_cases hs5 : (u.1 (3, v, g) 2) = (6 : Int32)
  · have hf := (am_if hf).1 hs5
    refine r_tswIn (x := u.1 (3, v, g) 2) (kx := 6) (tgt := 65) dX8_isSending_4 hs5 (by decide) (by decide) rfl (by decide) ?_
    refine r_aload_n (x := (1, v, 0)) dX8_isSending_65 rfl ?_
    refine r_iconst (v := 3) dX8_isSending_66 rfl ?_
    refine r_iload_n (x := a1) dX8_isSending_67 rfl ?_
    refine r_iload_n (x := a2) dX8_isSending_68 rfl ?_
    obtain ⟨⟨r8, u10⟩, hr9, hf⟩ := am_bind hf
    refine r_callV (as := [vI (3 : Int32), vI a1, vI a2]) (st := []) (n := 3) mw_X8_127 mv_X8_sum (C_X8_sum (l := l) hv hr9) (le_b rfl) dX8_isSending_69 (kC_mem (s := 1) (by decide) hv (by decide)) rfl rfl rfl (le_b rfl) (le_b rfl) (le_b rfl) ?_
    show X l _ _ 0 0 false _ kC 0 0 72 [some (vR (1, v, 0)), some (vR (3, v, g)), some (vI a1), some (vI a2)] [vI r8] (en u10)
    refine r_aload_n (x := (3, v, g)) dX8_isSending_72 rfl ?_
    refine e_geti fw_X8_77 dX8_isSending_73 (kC_mem (s := 3) (by decide) hv hg) rfl (lt_b rfl) ?_
    refine r_icmp_lt (tgt := 83) dX8_isSending_76 (by decide) (fun hc => ?_) (fun hc => ?_)
    · have hf := (am_if hf).1 hc
      refine r_iconst (v := 0) dX8_isSending_83 rfl ?_
      have hx := am_inj hf
      subst hx
      exact r_iret dX8_isSending_84 rfl (am_bool (x := 0) (by decide)).1 (le_b rfl) (le_b rfl)
    · have hf := (am_if hf).2 hc
      refine r_iconst (v := 1) dX8_isSending_79 rfl ?_
      refine r_goto (tgt := 84) dX8_isSending_80 (by decide) ?_
      have hx := am_inj hf
      subst hx
      exact r_iret dX8_isSending_84 rfl (am_bool (x := 1) (by decide)).1 (le_b rfl) (le_b rfl)
  have hf := (am_if hf).2 hs5
  refine r_tswOut (x := u.1 (3, v, g) 2) (tgt := 85) dX8_isSending_4 (by have ehs0 := am_neI hs0 (z := 1) rfl; have ehs1 := am_neI hs1 (z := 2) rfl; have ehs2 := am_neI hs2 (z := 3) rfl; have ehs3 := am_neI hs3 (z := 4) rfl; have ehs4 := am_neI hs4 (z := 5) rfl; have ehs5 := am_neI hs5 (z := 6) rfl; omega) (by decide) ?_
  refine r_iconst (v := 0) dX8_isSending_85 rfl ?_
  have hx := am_inj hf
  subst hx
  exact r_iret dX8_isSending_86 rfl (am_bool (x := 0) (by decide)).1 (le_b rfl) (le_b rfl)
/-! FireFromFire$Village.choice -/
theorem dX8_choice_0 : decode cX8_choice 0 = .ok (.aload_n 0, 1) := by decide +kernel
theorem dX8_choice_1 : decode cX8_choice 1 = .ok (.iload_n 1, 1) := by decide +kernel
theorem dX8_choice_2 : decode cX8_choice 2 = .ok (.invokevirtual 80, 3) := by decide +kernel
theorem dX8_choice_5 : decode cX8_choice 5 = .ok (.astore_n 3, 1) := by decide +kernel
theorem dX8_choice_6 : decode cX8_choice 6 = .ok (.aload_n 3, 1) := by decide +kernel
theorem dX8_choice_7 : decode cX8_choice 7 = .ok (.ifnonnull 5, 3) := by decide +kernel
theorem dX8_choice_10 : decode cX8_choice 10 = .ok (.iconst 0, 1) := by decide +kernel
theorem dX8_choice_11 : decode cX8_choice 11 = .ok (.ireturn, 1) := by decide +kernel
theorem dX8_choice_12 : decode cX8_choice 12 = .ok (.aload_n 3, 1) := by decide +kernel
theorem dX8_choice_13 : decode cX8_choice 13 = .ok (.getfield 60, 3) := by decide +kernel
theorem dX8_choice_16 : decode cX8_choice 16 = .ok (.ifCond .eq 19, 3) := by decide +kernel
theorem dX8_choice_19 : decode cX8_choice 19 = .ok (.aload_n 0, 1) := by decide +kernel
theorem dX8_choice_20 : decode cX8_choice 20 = .ok (.aload_n 3, 1) := by decide +kernel
theorem dX8_choice_21 : decode cX8_choice 21 = .ok (.iload_n 1, 1) := by decide +kernel
theorem dX8_choice_22 : decode cX8_choice 22 = .ok (.iload_n 2, 1) := by decide +kernel
theorem dX8_choice_23 : decode cX8_choice 23 = .ok (.invokevirtual 114, 3) := by decide +kernel
theorem dX8_choice_26 : decode cX8_choice 26 = .ok (.ifCond .eq 7, 3) := by decide +kernel
theorem dX8_choice_29 : decode cX8_choice 29 = .ok (.iconst 1, 1) := by decide +kernel
theorem dX8_choice_30 : decode cX8_choice 30 = .ok (.goto 4, 3) := by decide +kernel
theorem dX8_choice_33 : decode cX8_choice 33 = .ok (.iconst 2, 1) := by decide +kernel
theorem dX8_choice_34 : decode cX8_choice 34 = .ok (.ireturn, 1) := by decide +kernel
theorem dX8_choice_35 : decode cX8_choice 35 = .ok (.aload_n 3, 1) := by decide +kernel
theorem dX8_choice_36 : decode cX8_choice 36 = .ok (.getfield 118, 3) := by decide +kernel
theorem dX8_choice_39 : decode cX8_choice 39 = .ok (.ifCond .ne 11, 3) := by decide +kernel
theorem dX8_choice_42 : decode cX8_choice 42 = .ok (.aload_n 0, 1) := by decide +kernel
theorem dX8_choice_43 : decode cX8_choice 43 = .ok (.iload_n 1, 1) := by decide +kernel
theorem dX8_choice_44 : decode cX8_choice 44 = .ok (.invokevirtual 121, 3) := by decide +kernel
theorem dX8_choice_47 : decode cX8_choice 47 = .ok (.ifCond .ge 5, 3) := by decide +kernel
theorem dX8_choice_50 : decode cX8_choice 50 = .ok (.iconst 0, 1) := by decide +kernel
theorem dX8_choice_51 : decode cX8_choice 51 = .ok (.ireturn, 1) := by decide +kernel
theorem dX8_choice_52 : decode cX8_choice 52 = .ok (.aload_n 0, 1) := by decide +kernel
theorem dX8_choice_53 : decode cX8_choice 53 = .ok (.aload_n 3, 1) := by decide +kernel
theorem dX8_choice_54 : decode cX8_choice 54 = .ok (.iload_n 1, 1) := by decide +kernel
theorem dX8_choice_55 : decode cX8_choice 55 = .ok (.iload_n 2, 1) := by decide +kernel
theorem dX8_choice_56 : decode cX8_choice 56 = .ok (.invokevirtual 124, 3) := by decide +kernel
theorem dX8_choice_59 : decode cX8_choice 59 = .ok (.ifCond .eq 7, 3) := by decide +kernel
theorem dX8_choice_62 : decode cX8_choice 62 = .ok (.iconst 3, 1) := by decide +kernel
theorem dX8_choice_63 : decode cX8_choice 63 = .ok (.goto 4, 3) := by decide +kernel
theorem dX8_choice_66 : decode cX8_choice 66 = .ok (.iconst 0, 1) := by decide +kernel
theorem dX8_choice_67 : decode cX8_choice 67 = .ok (.ireturn, 1) := by decide +kernel
def f_X8_choice (v : Nat) (a0 : Int32) (a1 : Int32) (u : PM) : Option (Int32 × PM) :=
  (f_X8_find v a0 u).bind fun r1 =>
  match r1 with
  | none =>
    some ((0 : Int32), u)
  | some p3 =>
    if p3 < 6 then
      if (u.1 (3, v, p3) 1) = 0 then
        if (u.1 (3, v, p3) 5) = 0 then
          (f_X8_nearestFire v a0 u).bind fun r5 =>
          if 0 ≤ r5 then
            (f_X8_isSending v p3 a0 a1 u).bind fun (r7, u9) =>
            if r7 = 0 then
              some ((0 : Int32), u9)
            else
            some ((3 : Int32), u9)
          else
          some ((0 : Int32), u)
        else
        some ((0 : Int32), u)
      else
      (f_X8_isKeeping v p3 a0 a1 u).bind fun (r10, u12) =>
      if r10 = 0 then
        some ((2 : Int32), u12)
      else
      some ((1 : Int32), u12)
    else none
set_option maxHeartbeats 4000000 in
set_option maxRecDepth 20000 in
theorem C_X8_choice {l : Launch} {v : Nat} (hv : v < 4) {a0 : Int32} {a1 : Int32} {u : PM} {x : Int32 × PM} (hf : f_X8_choice v a0 a1 u = some x) : Ev l mX8_choice 5 0 0 false [vR (1, v, 0), vI a0, vI a1] kC (en u) (some (vI x.1), kC, en x.2) := by
  refine Ev_of (by decide +kernel) (le_b rfl) ?_
  unfold f_X8_choice at hf
  show X l mX8_choice 5 0 0 false _ kC 0 0 0 [some (vR (1, v, 0)), some (vI a0), some (vI a1), none] [] (en u)
  refine r_aload_n (x := (1, v, 0)) dX8_choice_0 rfl ?_
  refine r_iload_n (x := a0) dX8_choice_1 rfl ?_
  obtain ⟨r1, hr2, hf⟩ := am_bind hf
  refine r_callV (as := [vI a0]) (st := []) (n := 1) mw_X8_80 mv_X8_find (C_X8_find (l := l) hv hr2) (le_b rfl) dX8_choice_2 (kC_mem (s := 1) (by decide) hv (by decide)) rfl rfl rfl (le_b rfl) (le_b rfl) (le_b rfl) ?_
  cases r1 with
  | none =>
    show X l _ _ 0 0 false _ kC 0 0 5 [some (vR (1, v, 0)), some (vI a0), some (vI a1), none] [vN] (en u)
    refine r_astore_nN (L' := [some (vR (1, v, 0)), some (vI a0), some (vI a1), some (vN)]) dX8_choice_5 (by decide) rfl ?_
    refine r_aload_nN dX8_choice_6 rfl ?_
    refine r_ifnonnullN dX8_choice_7 ?_
    refine r_iconst (v := 0) dX8_choice_10 rfl ?_
    have hx := am_inj hf
    subst hx
    exact r_iret dX8_choice_11 rfl rfl (le_b rfl) (le_b rfl)
  | some p3 =>
    obtain ⟨h4, hf⟩ := am_chk hf
    show X l _ _ 0 0 false _ kC 0 0 5 [some (vR (1, v, 0)), some (vI a0), some (vI a1), none] [vR (3, v, p3)] (en u)
    refine r_astore_n (L' := [some (vR (1, v, 0)), some (vI a0), some (vI a1), some (vR (3, v, p3))]) dX8_choice_5 (by decide) rfl ?_
    refine r_aload_n (x := (3, v, p3)) dX8_choice_6 rfl ?_
    refine r_ifnonnullR (tgt := 12) dX8_choice_7 (by decide) ?_
    refine r_aload_n (x := (3, v, p3)) dX8_choice_12 rfl ?_
    refine e_geti fw_X8_60 dX8_choice_13 (kC_mem (s := 3) (by decide) hv h4) rfl (lt_b rfl) ?_
    refine r_if_eq (tgt := 35) dX8_choice_16 (by decide) (fun hc => ?_) (fun hc => ?_)
    · have hf := (am_if hf).1 hc
      refine r_aload_n (x := (3, v, p3)) dX8_choice_35 rfl ?_
      refine e_geti fw_X8_118 dX8_choice_36 (kC_mem (s := 3) (by decide) hv h4) rfl (lt_b rfl) ?_
      refine r_if_ne (tgt := 50) dX8_choice_39 (by decide) (fun hc => ?_) (fun hc => ?_)
      · have hf := (am_if hf).2 hc
        refine r_iconst (v := 0) dX8_choice_50 rfl ?_
        have hx := am_inj hf
        subst hx
        exact r_iret dX8_choice_51 rfl rfl (le_b rfl) (le_b rfl)
      · have hf := (am_if hf).1 hc
        refine r_aload_n (x := (1, v, 0)) dX8_choice_42 rfl ?_
        refine r_iload_n (x := a0) dX8_choice_43 rfl ?_
        obtain ⟨r5, hr6, hf⟩ := am_bind hf
        refine r_callV (as := [vI a0]) (st := []) (n := 1) mw_X8_121 mv_X8_nearestFire (C_X8_nearestFire (l := l) hv hr6) (le_b rfl) dX8_choice_44 (kC_mem (s := 1) (by decide) hv (by decide)) rfl rfl rfl (le_b rfl) (le_b rfl) (le_b rfl) ?_
        show X l _ _ 0 0 false _ kC 0 0 47 [some (vR (1, v, 0)), some (vI a0), some (vI a1), some (vR (3, v, p3))] [vI r5] (en u)
        refine r_if_ge (tgt := 52) dX8_choice_47 (by decide) (fun hc => ?_) (fun hc => ?_)
        · have hf := (am_if hf).1 hc
          refine r_aload_n (x := (1, v, 0)) dX8_choice_52 rfl ?_
          refine r_aload_n (x := (3, v, p3)) dX8_choice_53 rfl ?_
          refine r_iload_n (x := a0) dX8_choice_54 rfl ?_
          refine r_iload_n (x := a1) dX8_choice_55 rfl ?_
          obtain ⟨⟨r7, u9⟩, hr8, hf⟩ := am_bind hf
          refine r_callV (as := [vR (3, v, p3), vI a0, vI a1]) (st := []) (n := 3) mw_X8_124 mv_X8_isSending (C_X8_isSending (l := l) hv h4 hr8) (le_b rfl) dX8_choice_56 (kC_mem (s := 1) (by decide) hv (by decide)) rfl rfl rfl (le_b rfl) (le_b rfl) (le_b rfl) ?_
          show X l _ _ 0 0 false _ kC 0 0 59 [some (vR (1, v, 0)), some (vI a0), some (vI a1), some (vR (3, v, p3))] [vI r7] (en u9)
          refine r_if_eq (tgt := 66) dX8_choice_59 (by decide) (fun hc => ?_) (fun hc => ?_)
          · have hf := (am_if hf).1 hc
            refine r_iconst (v := 0) dX8_choice_66 rfl ?_
            have hx := am_inj hf
            subst hx
            exact r_iret dX8_choice_67 rfl rfl (le_b rfl) (le_b rfl)
          · have hf := (am_if hf).2 hc
            refine r_iconst (v := 3) dX8_choice_62 rfl ?_
            refine r_goto (tgt := 67) dX8_choice_63 (by decide) ?_
            have hx := am_inj hf
            subst hx
            exact r_iret dX8_choice_67 rfl rfl (le_b rfl) (le_b rfl)
        · have hf := (am_if hf).2 hc
          refine r_iconst (v := 0) dX8_choice_50 rfl ?_
          have hx := am_inj hf
          subst hx
          exact r_iret dX8_choice_51 rfl rfl (le_b rfl) (le_b rfl)
    · have hf := (am_if hf).2 hc
      refine r_aload_n (x := (1, v, 0)) dX8_choice_19 rfl ?_
      refine r_aload_n (x := (3, v, p3)) dX8_choice_20 rfl ?_
      refine r_iload_n (x := a0) dX8_choice_21 rfl ?_
      refine r_iload_n (x := a1) dX8_choice_22 rfl ?_
      obtain ⟨⟨r10, u12⟩, hr11, hf⟩ := am_bind hf
      refine r_callV (as := [vR (3, v, p3), vI a0, vI a1]) (st := []) (n := 3) mw_X8_114 mv_X8_isKeeping (C_X8_isKeeping (l := l) hv h4 hr11) (le_b rfl) dX8_choice_23 (kC_mem (s := 1) (by decide) hv (by decide)) rfl rfl rfl (le_b rfl) (le_b rfl) (le_b rfl) ?_
      show X l _ _ 0 0 false _ kC 0 0 26 [some (vR (1, v, 0)), some (vI a0), some (vI a1), some (vR (3, v, p3))] [vI r10] (en u12)
      refine r_if_eq (tgt := 33) dX8_choice_26 (by decide) (fun hc => ?_) (fun hc => ?_)
      · have hf := (am_if hf).1 hc
        refine r_iconst (v := 2) dX8_choice_33 rfl ?_
        have hx := am_inj hf
        subst hx
        exact r_iret dX8_choice_34 rfl rfl (le_b rfl) (le_b rfl)
      · have hf := (am_if hf).2 hc
        refine r_iconst (v := 1) dX8_choice_29 rfl ?_
        refine r_goto (tgt := 34) dX8_choice_30 (by decide) ?_
        have hx := am_inj hf
        subst hx
        exact r_iret dX8_choice_34 rfl rfl (le_b rfl) (le_b rfl)
