/-! FireFromFireModel.goHour -/
theorem dX10_goHour_0 : decode cX10_goHour 0 = .ok (.aload_n 0, 1) := by decide +kernel
theorem dX10_goHour_1 : decode cX10_goHour 1 = .ok (.invokevirtual 348, 3) := by decide +kernel
theorem dX10_goHour_4 : decode cX10_goHour 4 = .ok (.iconst 0, 1) := by decide +kernel
theorem dX10_goHour_5 : decode cX10_goHour 5 = .ok (.istore_n 3, 1) := by decide +kernel
theorem dX10_goHour_6 : decode cX10_goHour 6 = .ok (.iload_n 3, 1) := by decide +kernel
theorem dX10_goHour_7 : decode cX10_goHour 7 = .ok (.aload_n 0, 1) := by decide +kernel
theorem dX10_goHour_8 : decode cX10_goHour 8 = .ok (.getfield 7, 3) := by decide +kernel
theorem dX10_goHour_11 : decode cX10_goHour 11 = .ok (.if_icmp .ge 76, 3) := by decide +kernel
theorem dX10_goHour_14 : decode cX10_goHour 14 = .ok (.aload_n 0, 1) := by decide +kernel
theorem dX10_goHour_15 : decode cX10_goHour 15 = .ok (.iconst 3, 1) := by decide +kernel
theorem dX10_goHour_16 : decode cX10_goHour 16 = .ok (.iload_n 3, 1) := by decide +kernel
theorem dX10_goHour_17 : decode cX10_goHour 17 = .ok (.iload_n 1, 1) := by decide +kernel
theorem dX10_goHour_18 : decode cX10_goHour 18 = .ok (.invokevirtual 364, 3) := by decide +kernel
theorem dX10_goHour_21 : decode cX10_goHour 21 = .ok (.istore 4, 2) := by decide +kernel
theorem dX10_goHour_23 : decode cX10_goHour 23 = .ok (.aload_n 0, 1) := by decide +kernel
theorem dX10_goHour_24 : decode cX10_goHour 24 = .ok (.dup, 1) := by decide +kernel
theorem dX10_goHour_25 : decode cX10_goHour 25 = .ok (.getfield 116, 3) := by decide +kernel
theorem dX10_goHour_28 : decode cX10_goHour 28 = .ok (.aload_n 0, 1) := by decide +kernel
theorem dX10_goHour_29 : decode cX10_goHour 29 = .ok (.aload_n 0, 1) := by decide +kernel
theorem dX10_goHour_30 : decode cX10_goHour 30 = .ok (.getfield 113, 3) := by decide +kernel
theorem dX10_goHour_33 : decode cX10_goHour 33 = .ok (.iload_n 3, 1) := by decide +kernel
theorem dX10_goHour_34 : decode cX10_goHour 34 = .ok (.invokevirtual 275, 3) := by decide +kernel
theorem dX10_goHour_37 : decode cX10_goHour 37 = .ok (.ifCond .eq 8, 3) := by decide +kernel
theorem dX10_goHour_40 : decode cX10_goHour 40 = .ok (.iload 4, 2) := by decide +kernel
theorem dX10_goHour_42 : decode cX10_goHour 42 = .ok (.goto 4, 3) := by decide +kernel
theorem dX10_goHour_45 : decode cX10_goHour 45 = .ok (.iconst 0, 1) := by decide +kernel
theorem dX10_goHour_46 : decode cX10_goHour 46 = .ok (.iadd, 1) := by decide +kernel
theorem dX10_goHour_47 : decode cX10_goHour 47 = .ok (.putfield 116, 3) := by decide +kernel
theorem dX10_goHour_50 : decode cX10_goHour 50 = .ok (.aload_n 0, 1) := by decide +kernel
theorem dX10_goHour_51 : decode cX10_goHour 51 = .ok (.dup, 1) := by decide +kernel
theorem dX10_goHour_52 : decode cX10_goHour 52 = .ok (.getfield 119, 3) := by decide +kernel
theorem dX10_goHour_55 : decode cX10_goHour 55 = .ok (.iload 4, 2) := by decide +kernel
theorem dX10_goHour_57 : decode cX10_goHour 57 = .ok (.ifCond .le 19, 3) := by decide +kernel
theorem dX10_goHour_60 : decode cX10_goHour 60 = .ok (.aload_n 0, 1) := by decide +kernel
theorem dX10_goHour_61 : decode cX10_goHour 61 = .ok (.aload_n 0, 1) := by decide +kernel
theorem dX10_goHour_62 : decode cX10_goHour 62 = .ok (.getfield 113, 3) := by decide +kernel
theorem dX10_goHour_65 : decode cX10_goHour 65 = .ok (.iload_n 3, 1) := by decide +kernel
theorem dX10_goHour_66 : decode cX10_goHour 66 = .ok (.invokevirtual 275, 3) := by decide +kernel
theorem dX10_goHour_69 : decode cX10_goHour 69 = .ok (.ifCond .ne 7, 3) := by decide +kernel
theorem dX10_goHour_72 : decode cX10_goHour 72 = .ok (.iconst 1, 1) := by decide +kernel
theorem dX10_goHour_73 : decode cX10_goHour 73 = .ok (.goto 4, 3) := by decide +kernel
theorem dX10_goHour_76 : decode cX10_goHour 76 = .ok (.iconst 0, 1) := by decide +kernel
theorem dX10_goHour_77 : decode cX10_goHour 77 = .ok (.iadd, 1) := by decide +kernel
theorem dX10_goHour_78 : decode cX10_goHour 78 = .ok (.putfield 119, 3) := by decide +kernel
theorem dX10_goHour_81 : decode cX10_goHour 81 = .ok (.iinc 3 1, 3) := by decide +kernel
theorem dX10_goHour_84 : decode cX10_goHour 84 = .ok (.goto (-78), 3) := by decide +kernel
theorem dX10_goHour_87 : decode cX10_goHour 87 = .ok (.iconst 0, 1) := by decide +kernel
theorem dX10_goHour_88 : decode cX10_goHour 88 = .ok (.istore_n 3, 1) := by decide +kernel
theorem dX10_goHour_89 : decode cX10_goHour 89 = .ok (.iload_n 3, 1) := by decide +kernel
theorem dX10_goHour_90 : decode cX10_goHour 90 = .ok (.aload_n 0, 1) := by decide +kernel
theorem dX10_goHour_91 : decode cX10_goHour 91 = .ok (.getfield 7, 3) := by decide +kernel
theorem dX10_goHour_94 : decode cX10_goHour 94 = .ok (.if_icmp .ge 46, 3) := by decide +kernel
theorem dX10_goHour_97 : decode cX10_goHour 97 = .ok (.aload_n 0, 1) := by decide +kernel
theorem dX10_goHour_98 : decode cX10_goHour 98 = .ok (.aload_n 0, 1) := by decide +kernel
theorem dX10_goHour_99 : decode cX10_goHour 99 = .ok (.getfield 113, 3) := by decide +kernel
theorem dX10_goHour_102 : decode cX10_goHour 102 = .ok (.iload_n 3, 1) := by decide +kernel
theorem dX10_goHour_103 : decode cX10_goHour 103 = .ok (.invokevirtual 275, 3) := by decide +kernel
theorem dX10_goHour_106 : decode cX10_goHour 106 = .ok (.ifCond .eq 13, 3) := by decide +kernel
theorem dX10_goHour_109 : decode cX10_goHour 109 = .ok (.aload_n 0, 1) := by decide +kernel
theorem dX10_goHour_110 : decode cX10_goHour 110 = .ok (.iload_n 3, 1) := by decide +kernel
theorem dX10_goHour_111 : decode cX10_goHour 111 = .ok (.iload_n 1, 1) := by decide +kernel
theorem dX10_goHour_112 : decode cX10_goHour 112 = .ok (.iload_n 2, 1) := by decide +kernel
theorem dX10_goHour_113 : decode cX10_goHour 113 = .ok (.invokevirtual 379, 3) := by decide +kernel
theorem dX10_goHour_116 : decode cX10_goHour 116 = .ok (.goto 18, 3) := by decide +kernel
theorem dX10_goHour_119 : decode cX10_goHour 119 = .ok (.aload_n 0, 1) := by decide +kernel
theorem dX10_goHour_120 : decode cX10_goHour 120 = .ok (.getfield 134, 3) := by decide +kernel
theorem dX10_goHour_123 : decode cX10_goHour 123 = .ok (.iload_n 3, 1) := by decide +kernel
theorem dX10_goHour_124 : decode cX10_goHour 124 = .ok (.iaload, 1) := by decide +kernel
theorem dX10_goHour_125 : decode cX10_goHour 125 = .ok (.ifCond .ne 9, 3) := by decide +kernel
theorem dX10_goHour_128 : decode cX10_goHour 128 = .ok (.aload_n 0, 1) := by decide +kernel
theorem dX10_goHour_129 : decode cX10_goHour 129 = .ok (.iload_n 3, 1) := by decide +kernel
theorem dX10_goHour_130 : decode cX10_goHour 130 = .ok (.iload_n 1, 1) := by decide +kernel
theorem dX10_goHour_131 : decode cX10_goHour 131 = .ok (.invokevirtual 383, 3) := by decide +kernel
theorem dX10_goHour_134 : decode cX10_goHour 134 = .ok (.iinc 3 1, 3) := by decide +kernel
theorem dX10_goHour_137 : decode cX10_goHour 137 = .ok (.goto (-48), 3) := by decide +kernel
theorem dX10_goHour_140 : decode cX10_goHour 140 = .ok (.iconst 0, 1) := by decide +kernel
theorem dX10_goHour_141 : decode cX10_goHour 141 = .ok (.istore_n 3, 1) := by decide +kernel
theorem dX10_goHour_142 : decode cX10_goHour 142 = .ok (.iload_n 3, 1) := by decide +kernel
theorem dX10_goHour_143 : decode cX10_goHour 143 = .ok (.aload_n 0, 1) := by decide +kernel
theorem dX10_goHour_144 : decode cX10_goHour 144 = .ok (.getfield 7, 3) := by decide +kernel
theorem dX10_goHour_147 : decode cX10_goHour 147 = .ok (.if_icmp .ge 24, 3) := by decide +kernel
theorem dX10_goHour_150 : decode cX10_goHour 150 = .ok (.aload_n 0, 1) := by decide +kernel
theorem dX10_goHour_151 : decode cX10_goHour 151 = .ok (.getfield 134, 3) := by decide +kernel
theorem dX10_goHour_154 : decode cX10_goHour 154 = .ok (.iload_n 3, 1) := by decide +kernel
theorem dX10_goHour_155 : decode cX10_goHour 155 = .ok (.iaload, 1) := by decide +kernel
theorem dX10_goHour_156 : decode cX10_goHour 156 = .ok (.ifCond .le 9, 3) := by decide +kernel
theorem dX10_goHour_159 : decode cX10_goHour 159 = .ok (.aload_n 0, 1) := by decide +kernel
theorem dX10_goHour_160 : decode cX10_goHour 160 = .ok (.iload_n 3, 1) := by decide +kernel
theorem dX10_goHour_161 : decode cX10_goHour 161 = .ok (.iload_n 1, 1) := by decide +kernel
theorem dX10_goHour_162 : decode cX10_goHour 162 = .ok (.invokevirtual 387, 3) := by decide +kernel
theorem dX10_goHour_165 : decode cX10_goHour 165 = .ok (.iinc 3 1, 3) := by decide +kernel
theorem dX10_goHour_168 : decode cX10_goHour 168 = .ok (.goto (-26), 3) := by decide +kernel
theorem dX10_goHour_171 : decode cX10_goHour 171 = .ok (.aload_n 0, 1) := by decide +kernel
theorem dX10_goHour_172 : decode cX10_goHour 172 = .ok (.dup, 1) := by decide +kernel
theorem dX10_goHour_173 : decode cX10_goHour 173 = .ok (.getfield 110, 3) := by decide +kernel
theorem dX10_goHour_176 : decode cX10_goHour 176 = .ok (.iconst 1, 1) := by decide +kernel
theorem dX10_goHour_177 : decode cX10_goHour 177 = .ok (.iadd, 1) := by decide +kernel
theorem dX10_goHour_178 : decode cX10_goHour 178 = .ok (.putfield 110, 3) := by decide +kernel
theorem dX10_goHour_181 : decode cX10_goHour 181 = .ok (.return_, 1) := by decide +kernel
def f_X10_goHour_L6  (c1 : Int32) (c2 : Int32) : Int32 × PM → Option ((Int32 × PM) ⊕ (PM)) := fun (x3 , u) =>
  if (u.1 (40, 0, 0) 0) ≤ x3 then
    some (.inr (u))
  else
  (f_X10_sumOf (3 : Int32) x3 c1 u).bind fun (r3, u5) =>
  (f_X10_has (u5.1 (40, 0, 0) 34) x3 u5).bind fun r6 =>
  if r6 = 0 then
    if r3 ≤ 0 then
      some (.inl (x3 + (1 : Int32), (pi (pi u5 (40, 0, 0) 35 ((u5.1 (40, 0, 0) 35) + (0 : Int32))) (40, 0, 0) 36 ((u5.1 (40, 0, 0) 36) + (0 : Int32)))))
    else
    (f_X10_has (u5.1 (40, 0, 0) 34) x3 (pi u5 (40, 0, 0) 35 ((u5.1 (40, 0, 0) 35) + (0 : Int32)))).bind fun r8 =>
    if r8 = 0 then
      some (.inl (x3 + (1 : Int32), (pi (pi u5 (40, 0, 0) 35 ((u5.1 (40, 0, 0) 35) + (0 : Int32))) (40, 0, 0) 36 ((u5.1 (40, 0, 0) 36) + (1 : Int32)))))
    else
    some (.inl (x3 + (1 : Int32), (pi (pi u5 (40, 0, 0) 35 ((u5.1 (40, 0, 0) 35) + (0 : Int32))) (40, 0, 0) 36 ((u5.1 (40, 0, 0) 36) + (0 : Int32)))))
  else
  if r3 ≤ 0 then
    some (.inl (x3 + (1 : Int32), (pi (pi u5 (40, 0, 0) 35 ((u5.1 (40, 0, 0) 35) + r3)) (40, 0, 0) 36 ((u5.1 (40, 0, 0) 36) + (0 : Int32)))))
  else
  (f_X10_has (u5.1 (40, 0, 0) 34) x3 (pi u5 (40, 0, 0) 35 ((u5.1 (40, 0, 0) 35) + r3))).bind fun r10 =>
  if r10 = 0 then
    some (.inl (x3 + (1 : Int32), (pi (pi u5 (40, 0, 0) 35 ((u5.1 (40, 0, 0) 35) + r3)) (40, 0, 0) 36 ((u5.1 (40, 0, 0) 36) + (1 : Int32)))))
  else
  some (.inl (x3 + (1 : Int32), (pi (pi u5 (40, 0, 0) 35 ((u5.1 (40, 0, 0) 35) + r3)) (40, 0, 0) 36 ((u5.1 (40, 0, 0) 36) + (0 : Int32)))))
set_option maxHeartbeats 4000000 in
set_option maxRecDepth 20000 in
theorem K_X10_goHour_L6 {l : Launch} {T : Option AV × List Key × AM}  {c1 : Int32} {c2 : Int32} : ∀ (n : Nat) (s : Int32 × PM) (e0 : PM), am_loop (f_X10_goHour_L6 c1 c2) n s = some e0 → (fun e : PM => X l mX10_goHour 7 0 0 false T kM 0 0 87 [some (vR (40, 0, 0)), some (vI c1), some (vI c2), none, none] [] (en e)) e0 → X l mX10_goHour 7 0 0 false T kM 0 0 6 [some (vR (40, 0, 0)), some (vI c1), some (vI c2), some (vI s.1), none] [] (en s.2) := by
  refine am_loop_of ?_
  intro s x hf k1 k2
  obtain ⟨x3 , u⟩ := s
  unfold f_X10_goHour_L6 at hf
  show X l mX10_goHour 7 0 0 false T kM 0 0 6 [some (vR (40, 0, 0)), some (vI c1), some (vI c2), some (vI x3), none] [] (en u)
  refine r_iload_n (x := x3) dX10_goHour_6 rfl ?_
  refine r_aload_n (x := (40, 0, 0)) dX10_goHour_7 rfl ?_
  refine e_geti fw_X10_7 dX10_goHour_8 (kM_mem (s := 40) (by decide)) rfl (lt_b rfl) ?_
  refine r_icmp_ge (tgt := 87) dX10_goHour_11 (by decide) (fun hc => ?_) (fun hc => ?_)
  · have hf := (am_if hf).1 hc
    refine r_weak (L' := [some (vR (40, 0, 0)), some (vI c1), some (vI c2), none, none]) (And.intro rfl (And.intro rfl (And.intro rfl trivial))) ?_
    exact k2 (u) (am_inj hf).symm
  · have hf := (am_if hf).2 hc
    refine r_aload_n (x := (40, 0, 0)) dX10_goHour_14 rfl ?_
    refine r_iconst (v := 3) dX10_goHour_15 rfl ?_
    refine r_iload_n (x := x3) dX10_goHour_16 rfl ?_
    refine r_iload_n (x := c1) dX10_goHour_17 rfl ?_
    obtain ⟨⟨r3, u5⟩, hr4, hf⟩ := am_bind hf
    refine r_callV (as := [vI (3 : Int32), vI x3, vI c1]) (st := []) (n := 3) mw_X10_364 mv_X10_sumOf (C_X10_sumOf (l := l) hr4) (le_b rfl) dX10_goHour_18 (kM_mem (s := 40) (by decide)) rfl rfl rfl (le_b rfl) (le_b rfl) (le_b rfl) ?_
    show X l _ _ 0 0 false _ kM 0 0 21 [some (vR (40, 0, 0)), some (vI c1), some (vI c2), some (vI x3), none] [vI r3] (en u5)
    refine r_istore (L' := [some (vR (40, 0, 0)), some (vI c1), some (vI c2), some (vI x3), some (vI r3)]) dX10_goHour_21 (by decide) rfl ?_
    refine r_aload_n (x := (40, 0, 0)) dX10_goHour_23 rfl ?_
    refine r_dup dX10_goHour_24 rfl ?_
    refine e_geti fw_X10_116 dX10_goHour_25 (kM_mem (s := 40) (by decide)) rfl (lt_b rfl) ?_
    refine r_aload_n (x := (40, 0, 0)) dX10_goHour_28 rfl ?_
    refine r_aload_n (x := (40, 0, 0)) dX10_goHour_29 rfl ?_
    refine e_geti fw_X10_113 dX10_goHour_30 (kM_mem (s := 40) (by decide)) rfl (lt_b rfl) ?_
    refine r_iload_n (x := x3) dX10_goHour_33 rfl ?_
    obtain ⟨r6, hr7, hf⟩ := am_bind hf
    refine r_callV (as := [vI (u5.1 (40, 0, 0) 34), vI x3]) (st := [vI (u5.1 (40, 0, 0) 35), vR (40, 0, 0)]) (n := 2) mw_X10_275 mv_X10_has (C_X10_has (l := l) hr7) (le_b rfl) dX10_goHour_34 (kM_mem (s := 40) (by decide)) rfl rfl rfl (le_b rfl) (le_b rfl) (le_b rfl) ?_
    show X l _ _ 0 0 false _ kM 0 0 37 [some (vR (40, 0, 0)), some (vI c1), some (vI c2), some (vI x3), some (vI r3)] [vI r6, vI (u5.1 (40, 0, 0) 35), vR (40, 0, 0)] (en u5)
    refine r_if_eq (tgt := 45) dX10_goHour_37 (by decide) (fun hc => ?_) (fun hc => ?_)
    · have hf := (am_if hf).1 hc
      refine r_iconst (v := 0) dX10_goHour_45 rfl ?_
      refine r_iadd dX10_goHour_46 ?_
      refine e_puti fp_X10_116 dX10_goHour_47 (kM_mem (s := 40) (by decide)) rfl (lt_b rfl) rfl rfl rfl ?_
      refine r_aload_n (x := (40, 0, 0)) dX10_goHour_50 rfl ?_
      refine r_dup dX10_goHour_51 rfl ?_
      refine e_geti_ (x := u5.1 (40, 0, 0) 36) fw_X10_119 dX10_goHour_52 (kM_mem (s := 40) (by decide)) rfl (lt_b rfl) (by simp [pi, pl, pr, pci, pcl]) ?_
      refine r_iload (x := r3) dX10_goHour_55 rfl ?_
      refine r_if_le (tgt := 76) dX10_goHour_57 (by decide) (fun hc => ?_) (fun hc => ?_)
      · have hf := (am_if hf).1 hc
        refine r_iconst (v := 0) dX10_goHour_76 rfl ?_
        refine r_iadd dX10_goHour_77 ?_
        refine e_puti fp_X10_119 dX10_goHour_78 (kM_mem (s := 40) (by decide)) rfl (lt_b rfl) rfl rfl rfl ?_
        refine r_iinc (x := x3) (v := x3 + (1 : Int32)) (L' := [some (vR (40, 0, 0)), some (vI c1), some (vI c2), some (vI (x3 + (1 : Int32))), some (vI r3)]) dX10_goHour_81 rfl rfl (lt_b rfl) rfl ?_
        refine r_goto (tgt := 6) dX10_goHour_84 (by decide) ?_
        refine r_weak (L' := [some (vR (40, 0, 0)), some (vI c1), some (vI c2), some (vI (x3 + (1 : Int32))), none]) (And.intro rfl (And.intro rfl (And.intro rfl (And.intro rfl trivial)))) ?_
        exact k1 (x3 + (1 : Int32), (pi (pi u5 (40, 0, 0) 35 ((u5.1 (40, 0, 0) 35) + (0 : Int32))) (40, 0, 0) 36 ((u5.1 (40, 0, 0) 36) + (0 : Int32)))) (am_inj hf).symm
      · have hf := (am_if hf).2 hc
        refine r_aload_n (x := (40, 0, 0)) dX10_goHour_60 rfl ?_
        refine r_aload_n (x := (40, 0, 0)) dX10_goHour_61 rfl ?_
        refine e_geti_ (x := u5.1 (40, 0, 0) 34) fw_X10_113 dX10_goHour_62 (kM_mem (s := 40) (by decide)) rfl (lt_b rfl) (by simp [pi, pl, pr, pci, pcl]) ?_
        refine r_iload_n (x := x3) dX10_goHour_65 rfl ?_
        obtain ⟨r8, hr9, hf⟩ := am_bind hf
        refine r_callV (as := [vI (u5.1 (40, 0, 0) 34), vI x3]) (st := [vI (u5.1 (40, 0, 0) 36), vR (40, 0, 0)]) (n := 2) mw_X10_275 mv_X10_has (C_X10_has (l := l) hr9) (le_b rfl) dX10_goHour_66 (kM_mem (s := 40) (by decide)) rfl rfl rfl (le_b rfl) (le_b rfl) (le_b rfl) ?_
        show X l _ _ 0 0 false _ kM 0 0 69 [some (vR (40, 0, 0)), some (vI c1), some (vI c2), some (vI x3), some (vI r3)] [vI r8, vI (u5.1 (40, 0, 0) 36), vR (40, 0, 0)] (en (pi u5 (40, 0, 0) 35 ((u5.1 (40, 0, 0) 35) + (0 : Int32))))
        refine r_if_ne (tgt := 76) dX10_goHour_69 (by decide) (fun hc => ?_) (fun hc => ?_)
        · have hf := (am_if hf).2 hc
          refine r_iconst (v := 0) dX10_goHour_76 rfl ?_
          refine r_iadd dX10_goHour_77 ?_
          refine e_puti fp_X10_119 dX10_goHour_78 (kM_mem (s := 40) (by decide)) rfl (lt_b rfl) rfl rfl rfl ?_
          refine r_iinc (x := x3) (v := x3 + (1 : Int32)) (L' := [some (vR (40, 0, 0)), some (vI c1), some (vI c2), some (vI (x3 + (1 : Int32))), some (vI r3)]) dX10_goHour_81 rfl rfl (lt_b rfl) rfl ?_
          refine r_goto (tgt := 6) dX10_goHour_84 (by decide) ?_
          refine r_weak (L' := [some (vR (40, 0, 0)), some (vI c1), some (vI c2), some (vI (x3 + (1 : Int32))), none]) (And.intro rfl (And.intro rfl (And.intro rfl (And.intro rfl trivial)))) ?_
          exact k1 (x3 + (1 : Int32), (pi (pi u5 (40, 0, 0) 35 ((u5.1 (40, 0, 0) 35) + (0 : Int32))) (40, 0, 0) 36 ((u5.1 (40, 0, 0) 36) + (0 : Int32)))) (am_inj hf).symm
        · have hf := (am_if hf).1 hc
          refine r_iconst (v := 1) dX10_goHour_72 rfl ?_
          refine r_goto (tgt := 77) dX10_goHour_73 (by decide) ?_
          refine r_iadd dX10_goHour_77 ?_
          refine e_puti fp_X10_119 dX10_goHour_78 (kM_mem (s := 40) (by decide)) rfl (lt_b rfl) rfl rfl rfl ?_
          refine r_iinc (x := x3) (v := x3 + (1 : Int32)) (L' := [some (vR (40, 0, 0)), some (vI c1), some (vI c2), some (vI (x3 + (1 : Int32))), some (vI r3)]) dX10_goHour_81 rfl rfl (lt_b rfl) rfl ?_
          refine r_goto (tgt := 6) dX10_goHour_84 (by decide) ?_
          refine r_weak (L' := [some (vR (40, 0, 0)), some (vI c1), some (vI c2), some (vI (x3 + (1 : Int32))), none]) (And.intro rfl (And.intro rfl (And.intro rfl (And.intro rfl trivial)))) ?_
          exact k1 (x3 + (1 : Int32), (pi (pi u5 (40, 0, 0) 35 ((u5.1 (40, 0, 0) 35) + (0 : Int32))) (40, 0, 0) 36 ((u5.1 (40, 0, 0) 36) + (1 : Int32)))) (am_inj hf).symm
    · have hf := (am_if hf).2 hc
      refine r_iload (x := r3) dX10_goHour_40 rfl ?_
      refine r_goto (tgt := 46) dX10_goHour_42 (by decide) ?_
      refine r_iadd dX10_goHour_46 ?_
      refine e_puti fp_X10_116 dX10_goHour_47 (kM_mem (s := 40) (by decide)) rfl (lt_b rfl) rfl rfl rfl ?_
      refine r_aload_n (x := (40, 0, 0)) dX10_goHour_50 rfl ?_
      refine r_dup dX10_goHour_51 rfl ?_
      refine e_geti_ (x := u5.1 (40, 0, 0) 36) fw_X10_119 dX10_goHour_52 (kM_mem (s := 40) (by decide)) rfl (lt_b rfl) (by simp [pi, pl, pr, pci, pcl]) ?_
      refine r_iload (x := r3) dX10_goHour_55 rfl ?_
      refine r_if_le (tgt := 76) dX10_goHour_57 (by decide) (fun hc => ?_) (fun hc => ?_)
      · have hf := (am_if hf).1 hc
        refine r_iconst (v := 0) dX10_goHour_76 rfl ?_
        refine r_iadd dX10_goHour_77 ?_
        refine e_puti fp_X10_119 dX10_goHour_78 (kM_mem (s := 40) (by decide)) rfl (lt_b rfl) rfl rfl rfl ?_
        refine r_iinc (x := x3) (v := x3 + (1 : Int32)) (L' := [some (vR (40, 0, 0)), some (vI c1), some (vI c2), some (vI (x3 + (1 : Int32))), some (vI r3)]) dX10_goHour_81 rfl rfl (lt_b rfl) rfl ?_
        refine r_goto (tgt := 6) dX10_goHour_84 (by decide) ?_
        refine r_weak (L' := [some (vR (40, 0, 0)), some (vI c1), some (vI c2), some (vI (x3 + (1 : Int32))), none]) (And.intro rfl (And.intro rfl (And.intro rfl (And.intro rfl trivial)))) ?_
        exact k1 (x3 + (1 : Int32), (pi (pi u5 (40, 0, 0) 35 ((u5.1 (40, 0, 0) 35) + r3)) (40, 0, 0) 36 ((u5.1 (40, 0, 0) 36) + (0 : Int32)))) (am_inj hf).symm
      · have hf := (am_if hf).2 hc
        refine r_aload_n (x := (40, 0, 0)) dX10_goHour_60 rfl ?_
        refine r_aload_n (x := (40, 0, 0)) dX10_goHour_61 rfl ?_
        refine e_geti_ (x := u5.1 (40, 0, 0) 34) fw_X10_113 dX10_goHour_62 (kM_mem (s := 40) (by decide)) rfl (lt_b rfl) (by simp [pi, pl, pr, pci, pcl]) ?_
        refine r_iload_n (x := x3) dX10_goHour_65 rfl ?_
        obtain ⟨r10, hr11, hf⟩ := am_bind hf
        refine r_callV (as := [vI (u5.1 (40, 0, 0) 34), vI x3]) (st := [vI (u5.1 (40, 0, 0) 36), vR (40, 0, 0)]) (n := 2) mw_X10_275 mv_X10_has (C_X10_has (l := l) hr11) (le_b rfl) dX10_goHour_66 (kM_mem (s := 40) (by decide)) rfl rfl rfl (le_b rfl) (le_b rfl) (le_b rfl) ?_
        show X l _ _ 0 0 false _ kM 0 0 69 [some (vR (40, 0, 0)), some (vI c1), some (vI c2), some (vI x3), some (vI r3)] [vI r10, vI (u5.1 (40, 0, 0) 36), vR (40, 0, 0)] (en (pi u5 (40, 0, 0) 35 ((u5.1 (40, 0, 0) 35) + r3)))
        refine r_if_ne (tgt := 76) dX10_goHour_69 (by decide) (fun hc => ?_) (fun hc => ?_)
        · have hf := (am_if hf).2 hc
          refine r_iconst (v := 0) dX10_goHour_76 rfl ?_
          refine r_iadd dX10_goHour_77 ?_
          refine e_puti fp_X10_119 dX10_goHour_78 (kM_mem (s := 40) (by decide)) rfl (lt_b rfl) rfl rfl rfl ?_
          refine r_iinc (x := x3) (v := x3 + (1 : Int32)) (L' := [some (vR (40, 0, 0)), some (vI c1), some (vI c2), some (vI (x3 + (1 : Int32))), some (vI r3)]) dX10_goHour_81 rfl rfl (lt_b rfl) rfl ?_
          refine r_goto (tgt := 6) dX10_goHour_84 (by decide) ?_
          refine r_weak (L' := [some (vR (40, 0, 0)), some (vI c1), some (vI c2), some (vI (x3 + (1 : Int32))), none]) (And.intro rfl (And.intro rfl (And.intro rfl (And.intro rfl trivial)))) ?_
          exact k1 (x3 + (1 : Int32), (pi (pi u5 (40, 0, 0) 35 ((u5.1 (40, 0, 0) 35) + r3)) (40, 0, 0) 36 ((u5.1 (40, 0, 0) 36) + (0 : Int32)))) (am_inj hf).symm
        · have hf := (am_if hf).1 hc
          refine r_iconst (v := 1) dX10_goHour_72 rfl ?_
          refine r_goto (tgt := 77) dX10_goHour_73 (by decide) ?_
          refine r_iadd dX10_goHour_77 ?_
          refine e_puti fp_X10_119 dX10_goHour_78 (kM_mem (s := 40) (by decide)) rfl (lt_b rfl) rfl rfl rfl ?_
          refine r_iinc (x := x3) (v := x3 + (1 : Int32)) (L' := [some (vR (40, 0, 0)), some (vI c1), some (vI c2), some (vI (x3 + (1 : Int32))), some (vI r3)]) dX10_goHour_81 rfl rfl (lt_b rfl) rfl ?_
          refine r_goto (tgt := 6) dX10_goHour_84 (by decide) ?_
          refine r_weak (L' := [some (vR (40, 0, 0)), some (vI c1), some (vI c2), some (vI (x3 + (1 : Int32))), none]) (And.intro rfl (And.intro rfl (And.intro rfl (And.intro rfl trivial)))) ?_
          exact k1 (x3 + (1 : Int32), (pi (pi u5 (40, 0, 0) 35 ((u5.1 (40, 0, 0) 35) + r3)) (40, 0, 0) 36 ((u5.1 (40, 0, 0) 36) + (1 : Int32)))) (am_inj hf).symm
def f_X10_goHour_L89  (c1 : Int32) (c2 : Int32) : Int32 × PM → Option ((Int32 × PM) ⊕ (PM)) := fun (x3 , u) =>
  if (u.1 (40, 0, 0) 0) ≤ x3 then
    some (.inr (u))
  else
  (f_X10_has (u.1 (40, 0, 0) 34) x3 u).bind fun r15 =>
  if r15 = 0 then
    if x3 < 0 ∨ 6 ≤ x3.toNatClampNeg then none else
    if (u.1 (65, 0, 0) x3.toNatClampNeg) = 0 then
      (f_X10_setsOut x3 c1 u).bind fun r18 =>
      some (.inl (x3 + (1 : Int32), r18))
    else
    some (.inl (x3 + (1 : Int32), u))
  else
  (f_X10_burns x3 c1 c2 u).bind fun r20 =>
  some (.inl (x3 + (1 : Int32), r20))
set_option maxHeartbeats 4000000 in
set_option maxRecDepth 20000 in
theorem K_X10_goHour_L89 {l : Launch} {T : Option AV × List Key × AM}  {c1 : Int32} {c2 : Int32} : ∀ (n : Nat) (s : Int32 × PM) (e0 : PM), am_loop (f_X10_goHour_L89 c1 c2) n s = some e0 → (fun e : PM => X l mX10_goHour 7 0 0 false T kM 0 0 140 [some (vR (40, 0, 0)), some (vI c1), none, none, none] [] (en e)) e0 → X l mX10_goHour 7 0 0 false T kM 0 0 89 [some (vR (40, 0, 0)), some (vI c1), some (vI c2), some (vI s.1), none] [] (en s.2) := by
  refine am_loop_of ?_
  intro s x hf k1 k2
  obtain ⟨x3 , u⟩ := s
  unfold f_X10_goHour_L89 at hf
  show X l mX10_goHour 7 0 0 false T kM 0 0 89 [some (vR (40, 0, 0)), some (vI c1), some (vI c2), some (vI x3), none] [] (en u)
  refine r_iload_n (x := x3) dX10_goHour_89 rfl ?_
  refine r_aload_n (x := (40, 0, 0)) dX10_goHour_90 rfl ?_
  refine e_geti fw_X10_7 dX10_goHour_91 (kM_mem (s := 40) (by decide)) rfl (lt_b rfl) ?_
  refine r_icmp_ge (tgt := 140) dX10_goHour_94 (by decide) (fun hc => ?_) (fun hc => ?_)
  · have hf := (am_if hf).1 hc
    refine r_weak (L' := [some (vR (40, 0, 0)), some (vI c1), none, none, none]) (And.intro rfl (And.intro rfl trivial)) ?_
    exact k2 (u) (am_inj hf).symm
  · have hf := (am_if hf).2 hc
    refine r_aload_n (x := (40, 0, 0)) dX10_goHour_97 rfl ?_
    refine r_aload_n (x := (40, 0, 0)) dX10_goHour_98 rfl ?_
    refine e_geti fw_X10_113 dX10_goHour_99 (kM_mem (s := 40) (by decide)) rfl (lt_b rfl) ?_
    refine r_iload_n (x := x3) dX10_goHour_102 rfl ?_
    obtain ⟨r15, hr16, hf⟩ := am_bind hf
    refine r_callV (as := [vI (u.1 (40, 0, 0) 34), vI x3]) (st := []) (n := 2) mw_X10_275 mv_X10_has (C_X10_has (l := l) hr16) (le_b rfl) dX10_goHour_103 (kM_mem (s := 40) (by decide)) rfl rfl rfl (le_b rfl) (le_b rfl) (le_b rfl) ?_
    show X l _ _ 0 0 false _ kM 0 0 106 [some (vR (40, 0, 0)), some (vI c1), some (vI c2), some (vI x3), none] [vI r15] (en u)
    refine r_if_eq (tgt := 119) dX10_goHour_106 (by decide) (fun hc => ?_) (fun hc => ?_)
    · have hf := (am_if hf).1 hc
      refine r_aload_n (x := (40, 0, 0)) dX10_goHour_119 rfl ?_
      refine e_getr (z := some (65, 0, 0)) fw_X10_134 dX10_goHour_120 (kM_mem (s := 40) (by decide)) rfl (lt_b rfl) rfl ?_
      refine r_iload_n (x := x3) dX10_goHour_123 rfl ?_
      obtain ⟨h17, hf⟩ := am_nchk hf
      refine e_iald (n := x3.toNatClampNeg) dX10_goHour_124 (kM_mem (s := 65) (by decide)) rfl h17 rfl rfl ?_
      refine r_if_ne (tgt := 134) dX10_goHour_125 (by decide) (fun hc => ?_) (fun hc => ?_)
      · have hf := (am_if hf).2 hc
        refine r_iinc (x := x3) (v := x3 + (1 : Int32)) (L' := [some (vR (40, 0, 0)), some (vI c1), some (vI c2), some (vI (x3 + (1 : Int32))), none]) dX10_goHour_134 rfl rfl (lt_b rfl) rfl ?_
        refine r_goto (tgt := 89) dX10_goHour_137 (by decide) ?_
        refine r_weak (L' := [some (vR (40, 0, 0)), some (vI c1), some (vI c2), some (vI (x3 + (1 : Int32))), none]) (And.intro rfl (And.intro rfl (And.intro rfl (And.intro rfl trivial)))) ?_
        exact k1 (x3 + (1 : Int32), u) (am_inj hf).symm
      · have hf := (am_if hf).1 hc
        refine r_aload_n (x := (40, 0, 0)) dX10_goHour_128 rfl ?_
        refine r_iload_n (x := x3) dX10_goHour_129 rfl ?_
        refine r_iload_n (x := c1) dX10_goHour_130 rfl ?_
        obtain ⟨r18, hr19, hf⟩ := am_bind hf
        refine r_callV (as := [vI x3, vI c1]) (st := []) (n := 2) mw_X10_383 mv_X10_setsOut (C_X10_setsOut (l := l) hr19) (le_b rfl) dX10_goHour_131 (kM_mem (s := 40) (by decide)) rfl rfl rfl (le_b rfl) (le_b rfl) (le_b rfl) ?_
        show X l _ _ 0 0 false _ kM 0 0 134 [some (vR (40, 0, 0)), some (vI c1), some (vI c2), some (vI x3), none] [] (en r18)
        refine r_iinc (x := x3) (v := x3 + (1 : Int32)) (L' := [some (vR (40, 0, 0)), some (vI c1), some (vI c2), some (vI (x3 + (1 : Int32))), none]) dX10_goHour_134 rfl rfl (lt_b rfl) rfl ?_
        refine r_goto (tgt := 89) dX10_goHour_137 (by decide) ?_
        refine r_weak (L' := [some (vR (40, 0, 0)), some (vI c1), some (vI c2), some (vI (x3 + (1 : Int32))), none]) (And.intro rfl (And.intro rfl (And.intro rfl (And.intro rfl trivial)))) ?_
        exact k1 (x3 + (1 : Int32), r18) (am_inj hf).symm
    · have hf := (am_if hf).2 hc
      refine r_aload_n (x := (40, 0, 0)) dX10_goHour_109 rfl ?_
      refine r_iload_n (x := x3) dX10_goHour_110 rfl ?_
      refine r_iload_n (x := c1) dX10_goHour_111 rfl ?_
      refine r_iload_n (x := c2) dX10_goHour_112 rfl ?_
      obtain ⟨r20, hr21, hf⟩ := am_bind hf
      refine r_callV (as := [vI x3, vI c1, vI c2]) (st := []) (n := 3) mw_X10_379 mv_X10_burns (C_X10_burns (l := l) hr21) (le_b rfl) dX10_goHour_113 (kM_mem (s := 40) (by decide)) rfl rfl rfl (le_b rfl) (le_b rfl) (le_b rfl) ?_
      show X l _ _ 0 0 false _ kM 0 0 116 [some (vR (40, 0, 0)), some (vI c1), some (vI c2), some (vI x3), none] [] (en r20)
      refine r_goto (tgt := 134) dX10_goHour_116 (by decide) ?_
      refine r_iinc (x := x3) (v := x3 + (1 : Int32)) (L' := [some (vR (40, 0, 0)), some (vI c1), some (vI c2), some (vI (x3 + (1 : Int32))), none]) dX10_goHour_134 rfl rfl (lt_b rfl) rfl ?_
      refine r_goto (tgt := 89) dX10_goHour_137 (by decide) ?_
      refine r_weak (L' := [some (vR (40, 0, 0)), some (vI c1), some (vI c2), some (vI (x3 + (1 : Int32))), none]) (And.intro rfl (And.intro rfl (And.intro rfl (And.intro rfl trivial)))) ?_
      exact k1 (x3 + (1 : Int32), r20) (am_inj hf).symm
def f_X10_goHour_L142  (c1 : Int32) : Int32 × PM → Option ((Int32 × PM) ⊕ (PM)) := fun (x3 , u) =>
  if (u.1 (40, 0, 0) 0) ≤ x3 then
    some (.inr (u))
  else
  if x3 < 0 ∨ 6 ≤ x3.toNatClampNeg then none else
  if (u.1 (65, 0, 0) x3.toNatClampNeg) ≤ 0 then
    some (.inl (x3 + (1 : Int32), u))
  else
  (f_X10_walks x3 c1 u).bind fun r26 =>
  some (.inl (x3 + (1 : Int32), r26))
set_option maxHeartbeats 4000000 in
set_option maxRecDepth 20000 in
theorem K_X10_goHour_L142 {l : Launch} {T : Option AV × List Key × AM}  {c1 : Int32} : ∀ (n : Nat) (s : Int32 × PM) (e0 : PM), am_loop (f_X10_goHour_L142 c1) n s = some e0 → (fun e : PM => X l mX10_goHour 7 0 0 false T kM 0 0 171 [some (vR (40, 0, 0)), none, none, none, none] [] (en e)) e0 → X l mX10_goHour 7 0 0 false T kM 0 0 142 [some (vR (40, 0, 0)), some (vI c1), none, some (vI s.1), none] [] (en s.2) := by
  refine am_loop_of ?_
  intro s x hf k1 k2
  obtain ⟨x3 , u⟩ := s
  unfold f_X10_goHour_L142 at hf
  show X l mX10_goHour 7 0 0 false T kM 0 0 142 [some (vR (40, 0, 0)), some (vI c1), none, some (vI x3), none] [] (en u)
  refine r_iload_n (x := x3) dX10_goHour_142 rfl ?_
  refine r_aload_n (x := (40, 0, 0)) dX10_goHour_143 rfl ?_
  refine e_geti fw_X10_7 dX10_goHour_144 (kM_mem (s := 40) (by decide)) rfl (lt_b rfl) ?_
  refine r_icmp_ge (tgt := 171) dX10_goHour_147 (by decide) (fun hc => ?_) (fun hc => ?_)
  · have hf := (am_if hf).1 hc
    refine r_weak (L' := [some (vR (40, 0, 0)), none, none, none, none]) (And.intro rfl trivial) ?_
    exact k2 (u) (am_inj hf).symm
  · have hf := (am_if hf).2 hc
    refine r_aload_n (x := (40, 0, 0)) dX10_goHour_150 rfl ?_
    refine e_getr (z := some (65, 0, 0)) fw_X10_134 dX10_goHour_151 (kM_mem (s := 40) (by decide)) rfl (lt_b rfl) rfl ?_
    refine r_iload_n (x := x3) dX10_goHour_154 rfl ?_
    obtain ⟨h25, hf⟩ := am_nchk hf
    refine e_iald (n := x3.toNatClampNeg) dX10_goHour_155 (kM_mem (s := 65) (by decide)) rfl h25 rfl rfl ?_
    refine r_if_le (tgt := 165) dX10_goHour_156 (by decide) (fun hc => ?_) (fun hc => ?_)
    · have hf := (am_if hf).1 hc
      refine r_iinc (x := x3) (v := x3 + (1 : Int32)) (L' := [some (vR (40, 0, 0)), some (vI c1), none, some (vI (x3 + (1 : Int32))), none]) dX10_goHour_165 rfl rfl (lt_b rfl) rfl ?_
      refine r_goto (tgt := 142) dX10_goHour_168 (by decide) ?_
      refine r_weak (L' := [some (vR (40, 0, 0)), some (vI c1), none, some (vI (x3 + (1 : Int32))), none]) (And.intro rfl (And.intro rfl (And.intro rfl trivial))) ?_
      exact k1 (x3 + (1 : Int32), u) (am_inj hf).symm
    · have hf := (am_if hf).2 hc
      refine r_aload_n (x := (40, 0, 0)) dX10_goHour_159 rfl ?_
      refine r_iload_n (x := x3) dX10_goHour_160 rfl ?_
      refine r_iload_n (x := c1) dX10_goHour_161 rfl ?_
      obtain ⟨r26, hr27, hf⟩ := am_bind hf
      refine r_callV (as := [vI x3, vI c1]) (st := []) (n := 2) mw_X10_387 mv_X10_walks (C_X10_walks (l := l) hr27) (le_b rfl) dX10_goHour_162 (kM_mem (s := 40) (by decide)) rfl rfl rfl (le_b rfl) (le_b rfl) (le_b rfl) ?_
      show X l _ _ 0 0 false _ kM 0 0 165 [some (vR (40, 0, 0)), some (vI c1), none, some (vI x3), none] [] (en r26)
      refine r_iinc (x := x3) (v := x3 + (1 : Int32)) (L' := [some (vR (40, 0, 0)), some (vI c1), none, some (vI (x3 + (1 : Int32))), none]) dX10_goHour_165 rfl rfl (lt_b rfl) rfl ?_
      refine r_goto (tgt := 142) dX10_goHour_168 (by decide) ?_
      refine r_weak (L' := [some (vR (40, 0, 0)), some (vI c1), none, some (vI (x3 + (1 : Int32))), none]) (And.intro rfl (And.intro rfl (And.intro rfl trivial))) ?_
      exact k1 (x3 + (1 : Int32), r26) (am_inj hf).symm
def f_X10_goHour  (a0 : Int32) (a1 : Int32) (u : PM) : Option (PM) :=
  (f_X10_begin u).bind fun r1 =>
  (am_loop (f_X10_goHour_L6 a0 a1) 2000 ((0 : Int32), r1)).bind fun u14 =>
  (am_loop (f_X10_goHour_L89 a0 a1) 2000 ((0 : Int32), u14)).bind fun u24 =>
  (am_loop (f_X10_goHour_L142 a0) 2000 ((0 : Int32), u24)).bind fun u30 =>
  some (pi u30 (40, 0, 0) 33 ((u30.1 (40, 0, 0) 33) + (1 : Int32)))
set_option maxHeartbeats 4000000 in
set_option maxRecDepth 20000 in
theorem C_X10_goHour {l : Launch}  {a0 : Int32} {a1 : Int32} {u : PM} {x : PM} (hf : f_X10_goHour a0 a1 u = some x) : Ev l mX10_goHour 7 0 0 false [vR (40, 0, 0), vI a0, vI a1] kM (en u) (none, kM, en x) := by
  refine Ev_of (by decide +kernel) (le_b rfl) ?_
  unfold f_X10_goHour at hf
  show X l mX10_goHour 7 0 0 false _ kM 0 0 0 [some (vR (40, 0, 0)), some (vI a0), some (vI a1), none, none] [] (en u)
  refine r_aload_n (x := (40, 0, 0)) dX10_goHour_0 rfl ?_
  obtain ⟨r1, hr2, hf⟩ := am_bind hf
  refine r_callV (as := []) (st := []) (n := 0) mw_X10_348 mv_X10_begin (C_X10_begin (l := l) hr2) (le_b rfl) dX10_goHour_1 (kM_mem (s := 40) (by decide)) rfl rfl rfl (le_b rfl) (le_b rfl) (le_b rfl) ?_
  show X l _ _ 0 0 false _ kM 0 0 4 [some (vR (40, 0, 0)), some (vI a0), some (vI a1), none, none] [] (en r1)
  refine r_iconst (v := 0) dX10_goHour_4 rfl ?_
  refine r_istore_n (L' := [some (vR (40, 0, 0)), some (vI a0), some (vI a1), some (vI (0 : Int32)), none]) dX10_goHour_5 (by decide) rfl ?_
  refine r_weak (L' := [some (vR (40, 0, 0)), some (vI a0), some (vI a1), some (vI (0 : Int32)), none]) (And.intro rfl (And.intro rfl (And.intro rfl (And.intro rfl trivial)))) ?_
  obtain ⟨e12, he13, hf⟩ := am_bind hf
  refine K_X10_goHour_L6  2000 ((0 : Int32), r1) _ he13 ?_
  obtain ⟨u14, rfl⟩ : ∃ z, z = e12 := ⟨_, rfl⟩
  show X l _ _ 0 0 false _ kM 0 0 87 [some (vR (40, 0, 0)), some (vI a0), some (vI a1), none, none] [] (en u14)
  refine r_iconst (v := 0) dX10_goHour_87 rfl ?_
  refine r_istore_n (L' := [some (vR (40, 0, 0)), some (vI a0), some (vI a1), some (vI (0 : Int32)), none]) dX10_goHour_88 (by decide) rfl ?_
  refine r_weak (L' := [some (vR (40, 0, 0)), some (vI a0), some (vI a1), some (vI (0 : Int32)), none]) (And.intro rfl (And.intro rfl (And.intro rfl (And.intro rfl trivial)))) ?_
  obtain ⟨e22, he23, hf⟩ := am_bind hf
  refine K_X10_goHour_L89  2000 ((0 : Int32), u14) _ he23 ?_
  obtain ⟨u24, rfl⟩ : ∃ z, z = e22 := ⟨_, rfl⟩
  show X l _ _ 0 0 false _ kM 0 0 140 [some (vR (40, 0, 0)), some (vI a0), none, none, none] [] (en u24)
  refine r_iconst (v := 0) dX10_goHour_140 rfl ?_
  refine r_istore_n (L' := [some (vR (40, 0, 0)), some (vI a0), none, some (vI (0 : Int32)), none]) dX10_goHour_141 (by decide) rfl ?_
  refine r_weak (L' := [some (vR (40, 0, 0)), some (vI a0), none, some (vI (0 : Int32)), none]) (And.intro rfl (And.intro rfl (And.intro rfl trivial))) ?_
  obtain ⟨e28, he29, hf⟩ := am_bind hf
  refine K_X10_goHour_L142  2000 ((0 : Int32), u24) _ he29 ?_
  obtain ⟨u30, rfl⟩ : ∃ z, z = e28 := ⟨_, rfl⟩
  show X l _ _ 0 0 false _ kM 0 0 171 [some (vR (40, 0, 0)), none, none, none, none] [] (en u30)
  refine r_aload_n (x := (40, 0, 0)) dX10_goHour_171 rfl ?_
  refine r_dup dX10_goHour_172 rfl ?_
  refine e_geti fw_X10_110 dX10_goHour_173 (kM_mem (s := 40) (by decide)) rfl (lt_b rfl) ?_
  refine r_iconst (v := 1) dX10_goHour_176 rfl ?_
  refine r_iadd dX10_goHour_177 ?_
  refine e_puti fp_X10_110 dX10_goHour_178 (kM_mem (s := 40) (by decide)) rfl (lt_b rfl) rfl rfl rfl ?_
  have hx := am_inj hf
  subst hx
  exact r_vret dX10_goHour_181 rfl (le_b rfl) (le_b rfl)
/-! FireFromFireModel.go -/
theorem dX10_go_0 : decode cX10_go 0 = .ok (.aload_n 0, 1) := by decide +kernel
theorem dX10_go_1 : decode cX10_go 1 = .ok (.iload_n 1, 1) := by decide +kernel
theorem dX10_go_2 : decode cX10_go 2 = .ok (.invokevirtual 342, 3) := by decide +kernel
theorem dX10_go_5 : decode cX10_go 5 = .ok (.ifCond .ne 5, 3) := by decide +kernel
theorem dX10_go_8 : decode cX10_go 8 = .ok (.iconst (-1), 1) := by decide +kernel
theorem dX10_go_9 : decode cX10_go 9 = .ok (.ireturn, 1) := by decide +kernel
theorem dX10_go_10 : decode cX10_go 10 = .ok (.aload_n 0, 1) := by decide +kernel
theorem dX10_go_11 : decode cX10_go 11 = .ok (.iload_n 2, 1) := by decide +kernel
theorem dX10_go_12 : decode cX10_go 12 = .ok (.iconst 0, 1) := by decide +kernel
theorem dX10_go_13 : decode cX10_go 13 = .ok (.iconst 1, 1) := by decide +kernel
theorem dX10_go_14 : decode cX10_go 14 = .ok (.aload_n 0, 1) := by decide +kernel
theorem dX10_go_15 : decode cX10_go 15 = .ok (.getfield 7, 3) := by decide +kernel
theorem dX10_go_18 : decode cX10_go 18 = .ok (.ishl, 1) := by decide +kernel
theorem dX10_go_19 : decode cX10_go 19 = .ok (.iconst 1, 1) := by decide +kernel
theorem dX10_go_20 : decode cX10_go 20 = .ok (.isub, 1) := by decide +kernel
theorem dX10_go_21 : decode cX10_go 21 = .ok (.invokevirtual 267, 3) := by decide +kernel
theorem dX10_go_24 : decode cX10_go 24 = .ok (.ifCond .ne 6, 3) := by decide +kernel
theorem dX10_go_27 : decode cX10_go 27 = .ok (.bipush (-2), 2) := by decide +kernel
theorem dX10_go_29 : decode cX10_go 29 = .ok (.ireturn, 1) := by decide +kernel
theorem dX10_go_30 : decode cX10_go 30 = .ok (.aload_n 0, 1) := by decide +kernel
theorem dX10_go_31 : decode cX10_go 31 = .ok (.getfield 16, 3) := by decide +kernel
theorem dX10_go_34 : decode cX10_go 34 = .ok (.sipush 9999, 3) := by decide +kernel
theorem dX10_go_37 : decode cX10_go 37 = .ok (.if_icmp .ne 6, 3) := by decide +kernel
theorem dX10_go_40 : decode cX10_go 40 = .ok (.bipush (-3), 2) := by decide +kernel
theorem dX10_go_42 : decode cX10_go 42 = .ok (.ireturn, 1) := by decide +kernel
theorem dX10_go_43 : decode cX10_go 43 = .ok (.aload_n 0, 1) := by decide +kernel
theorem dX10_go_44 : decode cX10_go 44 = .ok (.invokevirtual 361, 3) := by decide +kernel
theorem dX10_go_47 : decode cX10_go 47 = .ok (.aload_n 0, 1) := by decide +kernel
theorem dX10_go_48 : decode cX10_go 48 = .ok (.iload_n 1, 1) := by decide +kernel
theorem dX10_go_49 : decode cX10_go 49 = .ok (.iload_n 2, 1) := by decide +kernel
theorem dX10_go_50 : decode cX10_go 50 = .ok (.invokevirtual 390, 3) := by decide +kernel
theorem dX10_go_53 : decode cX10_go 53 = .ok (.aload_n 0, 1) := by decide +kernel
theorem dX10_go_54 : decode cX10_go 54 = .ok (.iload_n 1, 1) := by decide +kernel
theorem dX10_go_55 : decode cX10_go 55 = .ok (.putfield 19, 3) := by decide +kernel
theorem dX10_go_58 : decode cX10_go 58 = .ok (.aload_n 0, 1) := by decide +kernel
theorem dX10_go_59 : decode cX10_go 59 = .ok (.aload_n 0, 1) := by decide +kernel
theorem dX10_go_60 : decode cX10_go 60 = .ok (.getfield 110, 3) := by decide +kernel
theorem dX10_go_63 : decode cX10_go 63 = .ok (.putfield 16, 3) := by decide +kernel
theorem dX10_go_66 : decode cX10_go 66 = .ok (.aload_n 0, 1) := by decide +kernel
theorem dX10_go_67 : decode cX10_go 67 = .ok (.aload_n 0, 1) := by decide +kernel
theorem dX10_go_68 : decode cX10_go 68 = .ok (.getfield 107, 3) := by decide +kernel
theorem dX10_go_71 : decode cX10_go 71 = .ok (.putfield 13, 3) := by decide +kernel
theorem dX10_go_74 : decode cX10_go 74 = .ok (.iconst 0, 1) := by decide +kernel
theorem dX10_go_75 : decode cX10_go 75 = .ok (.istore_n 3, 1) := by decide +kernel
theorem dX10_go_76 : decode cX10_go 76 = .ok (.iload_n 3, 1) := by decide +kernel
theorem dX10_go_77 : decode cX10_go 77 = .ok (.bipush 6, 2) := by decide +kernel
theorem dX10_go_79 : decode cX10_go 79 = .ok (.if_icmp .ge 69, 3) := by decide +kernel
theorem dX10_go_82 : decode cX10_go 82 = .ok (.aload_n 0, 1) := by decide +kernel
theorem dX10_go_83 : decode cX10_go 83 = .ok (.getfield 22, 3) := by decide +kernel
theorem dX10_go_86 : decode cX10_go 86 = .ok (.iload_n 3, 1) := by decide +kernel
theorem dX10_go_87 : decode cX10_go 87 = .ok (.aload_n 0, 1) := by decide +kernel
theorem dX10_go_88 : decode cX10_go 88 = .ok (.getfield 122, 3) := by decide +kernel
theorem dX10_go_91 : decode cX10_go 91 = .ok (.iload_n 3, 1) := by decide +kernel
theorem dX10_go_92 : decode cX10_go 92 = .ok (.iaload, 1) := by decide +kernel
theorem dX10_go_93 : decode cX10_go 93 = .ok (.iastore, 1) := by decide +kernel
theorem dX10_go_94 : decode cX10_go 94 = .ok (.aload_n 0, 1) := by decide +kernel
theorem dX10_go_95 : decode cX10_go 95 = .ok (.getfield 35, 3) := by decide +kernel
theorem dX10_go_98 : decode cX10_go 98 = .ok (.iload_n 3, 1) := by decide +kernel
theorem dX10_go_99 : decode cX10_go 99 = .ok (.aload_n 0, 1) := by decide +kernel
theorem dX10_go_100 : decode cX10_go 100 = .ok (.getfield 134, 3) := by decide +kernel
theorem dX10_go_103 : decode cX10_go 103 = .ok (.iload_n 3, 1) := by decide +kernel
theorem dX10_go_104 : decode cX10_go 104 = .ok (.iaload, 1) := by decide +kernel
theorem dX10_go_105 : decode cX10_go 105 = .ok (.iastore, 1) := by decide +kernel
theorem dX10_go_106 : decode cX10_go 106 = .ok (.aload_n 0, 1) := by decide +kernel
theorem dX10_go_107 : decode cX10_go 107 = .ok (.getfield 38, 3) := by decide +kernel
theorem dX10_go_110 : decode cX10_go 110 = .ok (.iload_n 3, 1) := by decide +kernel
theorem dX10_go_111 : decode cX10_go 111 = .ok (.aload_n 0, 1) := by decide +kernel
theorem dX10_go_112 : decode cX10_go 112 = .ok (.getfield 137, 3) := by decide +kernel
theorem dX10_go_115 : decode cX10_go 115 = .ok (.iload_n 3, 1) := by decide +kernel
theorem dX10_go_116 : decode cX10_go 116 = .ok (.iaload, 1) := by decide +kernel
theorem dX10_go_117 : decode cX10_go 117 = .ok (.iastore, 1) := by decide +kernel
theorem dX10_go_118 : decode cX10_go 118 = .ok (.aload_n 0, 1) := by decide +kernel
theorem dX10_go_119 : decode cX10_go 119 = .ok (.getfield 41, 3) := by decide +kernel
theorem dX10_go_122 : decode cX10_go 122 = .ok (.iload_n 3, 1) := by decide +kernel
theorem dX10_go_123 : decode cX10_go 123 = .ok (.aload_n 0, 1) := by decide +kernel
theorem dX10_go_124 : decode cX10_go 124 = .ok (.getfield 140, 3) := by decide +kernel
theorem dX10_go_127 : decode cX10_go 127 = .ok (.iload_n 3, 1) := by decide +kernel
theorem dX10_go_128 : decode cX10_go 128 = .ok (.iaload, 1) := by decide +kernel
theorem dX10_go_129 : decode cX10_go 129 = .ok (.iastore, 1) := by decide +kernel
theorem dX10_go_130 : decode cX10_go 130 = .ok (.aload_n 0, 1) := by decide +kernel
theorem dX10_go_131 : decode cX10_go 131 = .ok (.getfield 44, 3) := by decide +kernel
theorem dX10_go_134 : decode cX10_go 134 = .ok (.iload_n 3, 1) := by decide +kernel
theorem dX10_go_135 : decode cX10_go 135 = .ok (.aload_n 0, 1) := by decide +kernel
theorem dX10_go_136 : decode cX10_go 136 = .ok (.getfield 143, 3) := by decide +kernel
theorem dX10_go_139 : decode cX10_go 139 = .ok (.iload_n 3, 1) := by decide +kernel
theorem dX10_go_140 : decode cX10_go 140 = .ok (.iaload, 1) := by decide +kernel
theorem dX10_go_141 : decode cX10_go 141 = .ok (.iastore, 1) := by decide +kernel
theorem dX10_go_142 : decode cX10_go 142 = .ok (.iinc 3 1, 3) := by decide +kernel
theorem dX10_go_145 : decode cX10_go 145 = .ok (.goto (-69), 3) := by decide +kernel
theorem dX10_go_148 : decode cX10_go 148 = .ok (.aload_n 0, 1) := by decide +kernel
theorem dX10_go_149 : decode cX10_go 149 = .ok (.getfield 13, 3) := by decide +kernel
theorem dX10_go_152 : decode cX10_go 152 = .ok (.ireturn, 1) := by decide +kernel
def f_X10_go_L76   : Int32 × PM → Option ((Int32 × PM) ⊕ (PM)) := fun (x3 , u) =>
  if (6 : Int32) ≤ x3 then
    some (.inr (u))
  else
  if x3 < 0 ∨ 6 ≤ x3.toNatClampNeg then none else
  some (.inl (x3 + (1 : Int32), (pi (pi (pi (pi (pi u (41, 0, 0) x3.toNatClampNeg (u.1 (61, 0, 0) x3.toNatClampNeg)) (45, 0, 0) x3.toNatClampNeg (u.1 (65, 0, 0) x3.toNatClampNeg)) (46, 0, 0) x3.toNatClampNeg (u.1 (66, 0, 0) x3.toNatClampNeg)) (47, 0, 0) x3.toNatClampNeg (u.1 (67, 0, 0) x3.toNatClampNeg)) (48, 0, 0) x3.toNatClampNeg (u.1 (68, 0, 0) x3.toNatClampNeg))))
set_option maxHeartbeats 4000000 in
set_option maxRecDepth 20000 in
theorem K_X10_go_L76 {l : Launch} {T : Option AV × List Key × AM}   : ∀ (n : Nat) (s : Int32 × PM) (e0 : PM), am_loop (f_X10_go_L76) n s = some e0 → (fun e : PM => X l mX10_go 8 0 0 false T kM 0 0 148 [some (vR (40, 0, 0)), none, none, none] [] (en e)) e0 → X l mX10_go 8 0 0 false T kM 0 0 76 [some (vR (40, 0, 0)), none, none, some (vI s.1)] [] (en s.2) := by
  refine am_loop_of ?_
  intro s x hf k1 k2
  obtain ⟨x3 , u⟩ := s
  unfold f_X10_go_L76 at hf
  show X l mX10_go 8 0 0 false T kM 0 0 76 [some (vR (40, 0, 0)), none, none, some (vI x3)] [] (en u)
  refine r_iload_n (x := x3) dX10_go_76 rfl ?_
  refine r_bipush (v := 6) dX10_go_77 rfl ?_
  refine r_icmp_ge (tgt := 148) dX10_go_79 (by decide) (fun hc => ?_) (fun hc => ?_)
  · have hf := (am_if hf).1 hc
    refine r_weak (L' := [some (vR (40, 0, 0)), none, none, none]) (And.intro rfl trivial) ?_
    exact k2 (u) (am_inj hf).symm
  · have hf := (am_if hf).2 hc
    refine r_aload_n (x := (40, 0, 0)) dX10_go_82 rfl ?_
    refine e_getr (z := some (41, 0, 0)) fw_X10_22 dX10_go_83 (kM_mem (s := 40) (by decide)) rfl (lt_b rfl) rfl ?_
    refine r_iload_n (x := x3) dX10_go_86 rfl ?_
    refine r_aload_n (x := (40, 0, 0)) dX10_go_87 rfl ?_
    refine e_getr (z := some (61, 0, 0)) fw_X10_122 dX10_go_88 (kM_mem (s := 40) (by decide)) rfl (lt_b rfl) rfl ?_
    refine r_iload_n (x := x3) dX10_go_91 rfl ?_
    obtain ⟨h9, hf⟩ := am_nchk hf
    refine e_iald (n := x3.toNatClampNeg) dX10_go_92 (kM_mem (s := 61) (by decide)) rfl h9 rfl rfl ?_
    refine e_iast (n := x3.toNatClampNeg) dX10_go_93 (kM_mem (s := 41) (by decide)) rfl h9 rfl ?_
    refine r_aload_n (x := (40, 0, 0)) dX10_go_94 rfl ?_
    refine e_getr (z := some (45, 0, 0)) fw_X10_35 dX10_go_95 (kM_mem (s := 40) (by decide)) rfl (lt_b rfl) rfl ?_
    refine r_iload_n (x := x3) dX10_go_98 rfl ?_
    refine r_aload_n (x := (40, 0, 0)) dX10_go_99 rfl ?_
    refine e_getr (z := some (65, 0, 0)) fw_X10_134 dX10_go_100 (kM_mem (s := 40) (by decide)) rfl (lt_b rfl) rfl ?_
    refine r_iload_n (x := x3) dX10_go_103 rfl ?_
    refine e_iald (n := x3.toNatClampNeg) (x := u.1 (65, 0, 0) x3.toNatClampNeg) dX10_go_104 (kM_mem (s := 65) (by decide)) rfl h9 rfl (by simp [pi, pl, pr, pci, pcl]) ?_
    refine e_iast (n := x3.toNatClampNeg) dX10_go_105 (kM_mem (s := 45) (by decide)) rfl h9 rfl ?_
    refine r_aload_n (x := (40, 0, 0)) dX10_go_106 rfl ?_
    refine e_getr (z := some (46, 0, 0)) fw_X10_38 dX10_go_107 (kM_mem (s := 40) (by decide)) rfl (lt_b rfl) rfl ?_
    refine r_iload_n (x := x3) dX10_go_110 rfl ?_
    refine r_aload_n (x := (40, 0, 0)) dX10_go_111 rfl ?_
    refine e_getr (z := some (66, 0, 0)) fw_X10_137 dX10_go_112 (kM_mem (s := 40) (by decide)) rfl (lt_b rfl) rfl ?_
    refine r_iload_n (x := x3) dX10_go_115 rfl ?_
    refine e_iald (n := x3.toNatClampNeg) (x := u.1 (66, 0, 0) x3.toNatClampNeg) dX10_go_116 (kM_mem (s := 66) (by decide)) rfl h9 rfl (by simp [pi, pl, pr, pci, pcl]) ?_
    refine e_iast (n := x3.toNatClampNeg) dX10_go_117 (kM_mem (s := 46) (by decide)) rfl h9 rfl ?_
    refine r_aload_n (x := (40, 0, 0)) dX10_go_118 rfl ?_
    refine e_getr (z := some (47, 0, 0)) fw_X10_41 dX10_go_119 (kM_mem (s := 40) (by decide)) rfl (lt_b rfl) rfl ?_
    refine r_iload_n (x := x3) dX10_go_122 rfl ?_
    refine r_aload_n (x := (40, 0, 0)) dX10_go_123 rfl ?_
    refine e_getr (z := some (67, 0, 0)) fw_X10_140 dX10_go_124 (kM_mem (s := 40) (by decide)) rfl (lt_b rfl) rfl ?_
    refine r_iload_n (x := x3) dX10_go_127 rfl ?_
    refine e_iald (n := x3.toNatClampNeg) (x := u.1 (67, 0, 0) x3.toNatClampNeg) dX10_go_128 (kM_mem (s := 67) (by decide)) rfl h9 rfl (by simp [pi, pl, pr, pci, pcl]) ?_
    refine e_iast (n := x3.toNatClampNeg) dX10_go_129 (kM_mem (s := 47) (by decide)) rfl h9 rfl ?_
    refine r_aload_n (x := (40, 0, 0)) dX10_go_130 rfl ?_
    refine e_getr (z := some (48, 0, 0)) fw_X10_44 dX10_go_131 (kM_mem (s := 40) (by decide)) rfl (lt_b rfl) rfl ?_
    refine r_iload_n (x := x3) dX10_go_134 rfl ?_
    refine r_aload_n (x := (40, 0, 0)) dX10_go_135 rfl ?_
    refine e_getr (z := some (68, 0, 0)) fw_X10_143 dX10_go_136 (kM_mem (s := 40) (by decide)) rfl (lt_b rfl) rfl ?_
    refine r_iload_n (x := x3) dX10_go_139 rfl ?_
    refine e_iald (n := x3.toNatClampNeg) (x := u.1 (68, 0, 0) x3.toNatClampNeg) dX10_go_140 (kM_mem (s := 68) (by decide)) rfl h9 rfl (by simp [pi, pl, pr, pci, pcl]) ?_
    refine e_iast (n := x3.toNatClampNeg) dX10_go_141 (kM_mem (s := 48) (by decide)) rfl h9 rfl ?_
    refine r_iinc (x := x3) (v := x3 + (1 : Int32)) (L' := [some (vR (40, 0, 0)), none, none, some (vI (x3 + (1 : Int32)))]) dX10_go_142 rfl rfl (lt_b rfl) rfl ?_
    refine r_goto (tgt := 76) dX10_go_145 (by decide) ?_
    refine r_weak (L' := [some (vR (40, 0, 0)), none, none, some (vI (x3 + (1 : Int32)))]) (And.intro rfl (And.intro rfl trivial)) ?_
    exact k1 (x3 + (1 : Int32), (pi (pi (pi (pi (pi u (41, 0, 0) x3.toNatClampNeg (u.1 (61, 0, 0) x3.toNatClampNeg)) (45, 0, 0) x3.toNatClampNeg (u.1 (65, 0, 0) x3.toNatClampNeg)) (46, 0, 0) x3.toNatClampNeg (u.1 (66, 0, 0) x3.toNatClampNeg)) (47, 0, 0) x3.toNatClampNeg (u.1 (67, 0, 0) x3.toNatClampNeg)) (48, 0, 0) x3.toNatClampNeg (u.1 (68, 0, 0) x3.toNatClampNeg))) (am_inj hf).symm
def f_X10_go  (a0 : Int32) (a1 : Int32) (u : PM) : Option (Int32 × PM) :=
  (f_X10_isWeather a0 u).bind fun r1 =>
  if r1 = 0 then
    some ((-1 : Int32), u)
  else
  (f_X10_in a1 (0 : Int32) (((1 : Int32) <<< ((u.1 (40, 0, 0) 0) &&& 31)) - (1 : Int32)) u).bind fun r3 =>
  if r3 = 0 then
    some ((-2 : Int32), u)
  else
  if (u.1 (40, 0, 0) 2) = (9999 : Int32) then
    some ((-3 : Int32), u)
  else
  (f_X10_asIs u).bind fun r5 =>
  (f_X10_goHour a0 a1 r5).bind fun r7 =>
  (am_loop (f_X10_go_L76) 2000 ((0 : Int32), (pi (pi (pi r7 (40, 0, 0) 3 a0) (40, 0, 0) 2 (r7.1 (40, 0, 0) 33)) (40, 0, 0) 1 (r7.1 (40, 0, 0) 32)))).bind fun u12 =>
  some (u12.1 (40, 0, 0) 1, u12)
set_option maxHeartbeats 4000000 in
set_option maxRecDepth 20000 in
theorem C_X10_go {l : Launch}  {a0 : Int32} {a1 : Int32} {u : PM} {x : Int32 × PM} (hf : f_X10_go a0 a1 u = some x) : Ev l mX10_go 8 0 0 false [vR (40, 0, 0), vI a0, vI a1] kM (en u) (some (vI x.1), kM, en x.2) := by
  refine Ev_of (by decide +kernel) (le_b rfl) ?_
  unfold f_X10_go at hf
  show X l mX10_go 8 0 0 false _ kM 0 0 0 [some (vR (40, 0, 0)), some (vI a0), some (vI a1), none] [] (en u)
  refine r_aload_n (x := (40, 0, 0)) dX10_go_0 rfl ?_
  refine r_iload_n (x := a0) dX10_go_1 rfl ?_
  obtain ⟨r1, hr2, hf⟩ := am_bind hf
  refine r_callV (as := [vI a0]) (st := []) (n := 1) mw_X10_342 mv_X10_isWeather (C_X10_isWeather (l := l) hr2) (le_b rfl) dX10_go_2 (kM_mem (s := 40) (by decide)) rfl rfl rfl (le_b rfl) (le_b rfl) (le_b rfl) ?_
  show X l _ _ 0 0 false _ kM 0 0 5 [some (vR (40, 0, 0)), some (vI a0), some (vI a1), none] [vI r1] (en u)
  refine r_if_ne (tgt := 10) dX10_go_5 (by decide) (fun hc => ?_) (fun hc => ?_)
  · have hf := (am_if hf).2 hc
    refine r_aload_n (x := (40, 0, 0)) dX10_go_10 rfl ?_
    refine r_iload_n (x := a1) dX10_go_11 rfl ?_
    refine r_iconst (v := 0) dX10_go_12 rfl ?_
    refine r_iconst (v := 1) dX10_go_13 rfl ?_
    refine r_aload_n (x := (40, 0, 0)) dX10_go_14 rfl ?_
    refine e_geti fw_X10_7 dX10_go_15 (kM_mem (s := 40) (by decide)) rfl (lt_b rfl) ?_
    refine r_ishl dX10_go_18 ?_
    refine r_iconst (v := 1) dX10_go_19 rfl ?_
    refine r_isub dX10_go_20 ?_
    obtain ⟨r3, hr4, hf⟩ := am_bind hf
    refine r_callV (as := [vI a1, vI (0 : Int32), vI (((1 : Int32) <<< ((u.1 (40, 0, 0) 0) &&& 31)) - (1 : Int32))]) (st := []) (n := 3) mw_X10_267 mv_X10_in (C_X10_in (l := l) hr4) (le_b rfl) dX10_go_21 (kM_mem (s := 40) (by decide)) rfl rfl rfl (le_b rfl) (le_b rfl) (le_b rfl) ?_
    show X l _ _ 0 0 false _ kM 0 0 24 [some (vR (40, 0, 0)), some (vI a0), some (vI a1), none] [vI r3] (en u)
    refine r_if_ne (tgt := 30) dX10_go_24 (by decide) (fun hc => ?_) (fun hc => ?_)
    · have hf := (am_if hf).2 hc
      refine r_aload_n (x := (40, 0, 0)) dX10_go_30 rfl ?_
      refine e_geti fw_X10_16 dX10_go_31 (kM_mem (s := 40) (by decide)) rfl (lt_b rfl) ?_
      refine r_sipush (v := 9999) dX10_go_34 rfl ?_
      refine r_icmp_ne (tgt := 43) dX10_go_37 (by decide) (fun hc => ?_) (fun hc => ?_)
      · have hf := (am_if hf).2 hc
        refine r_aload_n (x := (40, 0, 0)) dX10_go_43 rfl ?_
        obtain ⟨r5, hr6, hf⟩ := am_bind hf
        refine r_callV (as := []) (st := []) (n := 0) mw_X10_361 mv_X10_asIs (C_X10_asIs (l := l) hr6) (le_b rfl) dX10_go_44 (kM_mem (s := 40) (by decide)) rfl rfl rfl (le_b rfl) (le_b rfl) (le_b rfl) ?_
        show X l _ _ 0 0 false _ kM 0 0 47 [some (vR (40, 0, 0)), some (vI a0), some (vI a1), none] [] (en r5)
        refine r_aload_n (x := (40, 0, 0)) dX10_go_47 rfl ?_
        refine r_iload_n (x := a0) dX10_go_48 rfl ?_
        refine r_iload_n (x := a1) dX10_go_49 rfl ?_
        obtain ⟨r7, hr8, hf⟩ := am_bind hf
        refine r_callV (as := [vI a0, vI a1]) (st := []) (n := 2) mw_X10_390 mv_X10_goHour (C_X10_goHour (l := l) hr8) (le_b rfl) dX10_go_50 (kM_mem (s := 40) (by decide)) rfl rfl rfl (le_b rfl) (le_b rfl) (le_b rfl) ?_
        show X l _ _ 0 0 false _ kM 0 0 53 [some (vR (40, 0, 0)), some (vI a0), some (vI a1), none] [] (en r7)
        refine r_aload_n (x := (40, 0, 0)) dX10_go_53 rfl ?_
        refine r_iload_n (x := a0) dX10_go_54 rfl ?_
        refine e_puti fp_X10_19 dX10_go_55 (kM_mem (s := 40) (by decide)) rfl (lt_b rfl) rfl rfl rfl ?_
        refine r_aload_n (x := (40, 0, 0)) dX10_go_58 rfl ?_
        refine r_aload_n (x := (40, 0, 0)) dX10_go_59 rfl ?_
        refine e_geti_ (x := r7.1 (40, 0, 0) 33) fw_X10_110 dX10_go_60 (kM_mem (s := 40) (by decide)) rfl (lt_b rfl) (by simp [pi, pl, pr, pci, pcl]) ?_
        refine e_puti fp_X10_16 dX10_go_63 (kM_mem (s := 40) (by decide)) rfl (lt_b rfl) rfl rfl rfl ?_
        refine r_aload_n (x := (40, 0, 0)) dX10_go_66 rfl ?_
        refine r_aload_n (x := (40, 0, 0)) dX10_go_67 rfl ?_
        refine e_geti_ (x := r7.1 (40, 0, 0) 32) fw_X10_107 dX10_go_68 (kM_mem (s := 40) (by decide)) rfl (lt_b rfl) (by simp [pi, pl, pr, pci, pcl]) ?_
        refine e_puti fp_X10_13 dX10_go_71 (kM_mem (s := 40) (by decide)) rfl (lt_b rfl) rfl rfl rfl ?_
        refine r_iconst (v := 0) dX10_go_74 rfl ?_
        refine r_istore_n (L' := [some (vR (40, 0, 0)), some (vI a0), some (vI a1), some (vI (0 : Int32))]) dX10_go_75 (by decide) rfl ?_
        refine r_weak (L' := [some (vR (40, 0, 0)), none, none, some (vI (0 : Int32))]) (And.intro rfl (And.intro rfl trivial)) ?_
        obtain ⟨e10, he11, hf⟩ := am_bind hf
        refine K_X10_go_L76  2000 ((0 : Int32), (pi (pi (pi r7 (40, 0, 0) 3 a0) (40, 0, 0) 2 (r7.1 (40, 0, 0) 33)) (40, 0, 0) 1 (r7.1 (40, 0, 0) 32))) _ he11 ?_
        obtain ⟨u12, rfl⟩ : ∃ z, z = e10 := ⟨_, rfl⟩
        show X l _ _ 0 0 false _ kM 0 0 148 [some (vR (40, 0, 0)), none, none, none] [] (en u12)
        refine r_aload_n (x := (40, 0, 0)) dX10_go_148 rfl ?_
        refine e_geti fw_X10_13 dX10_go_149 (kM_mem (s := 40) (by decide)) rfl (lt_b rfl) ?_
        have hx := am_inj hf
        subst hx
        exact r_iret dX10_go_152 rfl rfl (le_b rfl) (le_b rfl)
      · have hf := (am_if hf).1 hc
        refine r_bipush (v := -3) dX10_go_40 rfl ?_
        have hx := am_inj hf
        subst hx
        exact r_iret dX10_go_42 rfl rfl (le_b rfl) (le_b rfl)
    · have hf := (am_if hf).1 hc
      refine r_bipush (v := -2) dX10_go_27 rfl ?_
      have hx := am_inj hf
      subst hx
      exact r_iret dX10_go_29 rfl rfl (le_b rfl) (le_b rfl)
  · have hf := (am_if hf).1 hc
    refine r_iconst (v := -1) dX10_go_8 rfl ?_
    have hx := am_inj hf
    subst hx
    exact r_iret dX10_go_9 rfl rfl (le_b rfl) (le_b rfl)
/-! FireFromFireModel.night -/
theorem dX10_night_0 : decode cX10_night 0 = .ok (.iload_n 1, 1) := by decide +kernel
theorem dX10_night_1 : decode cX10_night 1 = .ok (.iconst (-1), 1) := by decide +kernel
theorem dX10_night_2 : decode cX10_night 2 = .ok (.if_icmp .ne 10, 3) := by decide +kernel
theorem dX10_night_5 : decode cX10_night 5 = .ok (.aload_n 0, 1) := by decide +kernel
theorem dX10_night_6 : decode cX10_night 6 = .ok (.iconst 0, 1) := by decide +kernel
theorem dX10_night_7 : decode cX10_night 7 = .ok (.putfield 150, 3) := by decide +kernel
theorem dX10_night_10 : decode cX10_night 10 = .ok (.iconst 0, 1) := by decide +kernel
theorem dX10_night_11 : decode cX10_night 11 = .ok (.ireturn, 1) := by decide +kernel
theorem dX10_night_12 : decode cX10_night 12 = .ok (.aload_n 0, 1) := by decide +kernel
theorem dX10_night_13 : decode cX10_night 13 = .ok (.iload_n 1, 1) := by decide +kernel
theorem dX10_night_14 : decode cX10_night 14 = .ok (.invokevirtual 342, 3) := by decide +kernel
theorem dX10_night_17 : decode cX10_night 17 = .ok (.ifCond .ne 5, 3) := by decide +kernel
theorem dX10_night_20 : decode cX10_night 20 = .ok (.iconst (-1), 1) := by decide +kernel
theorem dX10_night_21 : decode cX10_night 21 = .ok (.ireturn, 1) := by decide +kernel
theorem dX10_night_22 : decode cX10_night 22 = .ok (.aload_n 0, 1) := by decide +kernel
theorem dX10_night_23 : decode cX10_night 23 = .ok (.iload_n 2, 1) := by decide +kernel
theorem dX10_night_24 : decode cX10_night 24 = .ok (.iconst 0, 1) := by decide +kernel
theorem dX10_night_25 : decode cX10_night 25 = .ok (.bipush 63, 2) := by decide +kernel
theorem dX10_night_27 : decode cX10_night 27 = .ok (.invokevirtual 267, 3) := by decide +kernel
theorem dX10_night_30 : decode cX10_night 30 = .ok (.ifCond .ne 6, 3) := by decide +kernel
theorem dX10_night_33 : decode cX10_night 33 = .ok (.bipush (-2), 2) := by decide +kernel
theorem dX10_night_35 : decode cX10_night 35 = .ok (.ireturn, 1) := by decide +kernel
theorem dX10_night_36 : decode cX10_night 36 = .ok (.aload_n 0, 1) := by decide +kernel
theorem dX10_night_37 : decode cX10_night 37 = .ok (.getfield 150, 3) := by decide +kernel
theorem dX10_night_40 : decode cX10_night 40 = .ok (.bipush 12, 2) := by decide +kernel
theorem dX10_night_42 : decode cX10_night 42 = .ok (.if_icmp .ne 6, 3) := by decide +kernel
theorem dX10_night_45 : decode cX10_night 45 = .ok (.bipush (-4), 2) := by decide +kernel
theorem dX10_night_47 : decode cX10_night 47 = .ok (.ireturn, 1) := by decide +kernel
theorem dX10_night_48 : decode cX10_night 48 = .ok (.aload_n 0, 1) := by decide +kernel
theorem dX10_night_49 : decode cX10_night 49 = .ok (.getfield 153, 3) := by decide +kernel
theorem dX10_night_52 : decode cX10_night 52 = .ok (.aload_n 0, 1) := by decide +kernel
theorem dX10_night_53 : decode cX10_night 53 = .ok (.getfield 150, 3) := by decide +kernel
theorem dX10_night_56 : decode cX10_night 56 = .ok (.iload_n 1, 1) := by decide +kernel
theorem dX10_night_57 : decode cX10_night 57 = .ok (.iastore, 1) := by decide +kernel
theorem dX10_night_58 : decode cX10_night 58 = .ok (.aload_n 0, 1) := by decide +kernel
theorem dX10_night_59 : decode cX10_night 59 = .ok (.getfield 156, 3) := by decide +kernel
theorem dX10_night_62 : decode cX10_night 62 = .ok (.aload_n 0, 1) := by decide +kernel
theorem dX10_night_63 : decode cX10_night 63 = .ok (.getfield 150, 3) := by decide +kernel
theorem dX10_night_66 : decode cX10_night 66 = .ok (.iload_n 2, 1) := by decide +kernel
theorem dX10_night_67 : decode cX10_night 67 = .ok (.iastore, 1) := by decide +kernel
theorem dX10_night_68 : decode cX10_night 68 = .ok (.aload_n 0, 1) := by decide +kernel
theorem dX10_night_69 : decode cX10_night 69 = .ok (.dup, 1) := by decide +kernel
theorem dX10_night_70 : decode cX10_night 70 = .ok (.getfield 150, 3) := by decide +kernel
theorem dX10_night_73 : decode cX10_night 73 = .ok (.iconst 1, 1) := by decide +kernel
theorem dX10_night_74 : decode cX10_night 74 = .ok (.iadd, 1) := by decide +kernel
theorem dX10_night_75 : decode cX10_night 75 = .ok (.putfield 150, 3) := by decide +kernel
theorem dX10_night_78 : decode cX10_night 78 = .ok (.aload_n 0, 1) := by decide +kernel
theorem dX10_night_79 : decode cX10_night 79 = .ok (.getfield 150, 3) := by decide +kernel
theorem dX10_night_82 : decode cX10_night 82 = .ok (.ireturn, 1) := by decide +kernel
def f_X10_night  (a0 : Int32) (a1 : Int32) (u : PM) : Option (Int32 × PM) :=
  if a0 = (-1 : Int32) then
    some ((0 : Int32), (pi u (40, 0, 0) 46 (0 : Int32)))
  else
  (f_X10_isWeather a0 u).bind fun r1 =>
  if r1 = 0 then
    some ((-1 : Int32), u)
  else
  (f_X10_in a1 (0 : Int32) (63 : Int32) u).bind fun r3 =>
  if r3 = 0 then
    some ((-2 : Int32), u)
  else
  if (u.1 (40, 0, 0) 46) = (12 : Int32) then
    some ((-4 : Int32), u)
  else
  if (u.1 (40, 0, 0) 46) < 0 ∨ 12 ≤ (u.1 (40, 0, 0) 46).toNatClampNeg then none else
  some ((u.1 (40, 0, 0) 46) + (1 : Int32), (pi (pi (pi u (70, 0, 0) ((u.1 (40, 0, 0) 46).toNatClampNeg) a0) (71, 0, 0) ((u.1 (40, 0, 0) 46).toNatClampNeg) a1) (40, 0, 0) 46 ((u.1 (40, 0, 0) 46) + (1 : Int32))))
set_option maxHeartbeats 4000000 in
set_option maxRecDepth 20000 in
theorem C_X10_night {l : Launch}  {a0 : Int32} {a1 : Int32} {u : PM} {x : Int32 × PM} (hf : f_X10_night a0 a1 u = some x) : Ev l mX10_night 3 0 0 false [vR (40, 0, 0), vI a0, vI a1] kM (en u) (some (vI x.1), kM, en x.2) := by
  refine Ev_of (by decide +kernel) (le_b rfl) ?_
  unfold f_X10_night at hf
  show X l mX10_night 3 0 0 false _ kM 0 0 0 [some (vR (40, 0, 0)), some (vI a0), some (vI a1)] [] (en u)
  refine r_iload_n (x := a0) dX10_night_0 rfl ?_
  refine r_iconst (v := -1) dX10_night_1 rfl ?_
  refine r_icmp_ne (tgt := 12) dX10_night_2 (by decide) (fun hc => ?_) (fun hc => ?_)
  · have hf := (am_if hf).2 hc
    refine r_aload_n (x := (40, 0, 0)) dX10_night_12 rfl ?_
    refine r_iload_n (x := a0) dX10_night_13 rfl ?_
    obtain ⟨r1, hr2, hf⟩ := am_bind hf
    refine r_callV (as := [vI a0]) (st := []) (n := 1) mw_X10_342 mv_X10_isWeather (C_X10_isWeather (l := l) hr2) (le_b rfl) dX10_night_14 (kM_mem (s := 40) (by decide)) rfl rfl rfl (le_b rfl) (le_b rfl) (le_b rfl) ?_
    show X l _ _ 0 0 false _ kM 0 0 17 [some (vR (40, 0, 0)), some (vI a0), some (vI a1)] [vI r1] (en u)
    refine r_if_ne (tgt := 22) dX10_night_17 (by decide) (fun hc => ?_) (fun hc => ?_)
    · have hf := (am_if hf).2 hc
      refine r_aload_n (x := (40, 0, 0)) dX10_night_22 rfl ?_
      refine r_iload_n (x := a1) dX10_night_23 rfl ?_
      refine r_iconst (v := 0) dX10_night_24 rfl ?_
      refine r_bipush (v := 63) dX10_night_25 rfl ?_
      obtain ⟨r3, hr4, hf⟩ := am_bind hf
      refine r_callV (as := [vI a1, vI (0 : Int32), vI (63 : Int32)]) (st := []) (n := 3) mw_X10_267 mv_X10_in (C_X10_in (l := l) hr4) (le_b rfl) dX10_night_27 (kM_mem (s := 40) (by decide)) rfl rfl rfl (le_b rfl) (le_b rfl) (le_b rfl) ?_
      show X l _ _ 0 0 false _ kM 0 0 30 [some (vR (40, 0, 0)), some (vI a0), some (vI a1)] [vI r3] (en u)
      refine r_if_ne (tgt := 36) dX10_night_30 (by decide) (fun hc => ?_) (fun hc => ?_)
      · have hf := (am_if hf).2 hc
        refine r_aload_n (x := (40, 0, 0)) dX10_night_36 rfl ?_
        refine e_geti fw_X10_150 dX10_night_37 (kM_mem (s := 40) (by decide)) rfl (lt_b rfl) ?_
        refine r_bipush (v := 12) dX10_night_40 rfl ?_
        refine r_icmp_ne (tgt := 48) dX10_night_42 (by decide) (fun hc => ?_) (fun hc => ?_)
        · have hf := (am_if hf).2 hc
          refine r_aload_n (x := (40, 0, 0)) dX10_night_48 rfl ?_
          refine e_getr (z := some (70, 0, 0)) fw_X10_153 dX10_night_49 (kM_mem (s := 40) (by decide)) rfl (lt_b rfl) rfl ?_
          refine r_aload_n (x := (40, 0, 0)) dX10_night_52 rfl ?_
          refine e_geti fw_X10_150 dX10_night_53 (kM_mem (s := 40) (by decide)) rfl (lt_b rfl) ?_
          refine r_iload_n (x := a0) dX10_night_56 rfl ?_
          obtain ⟨h5, hf⟩ := am_nchk hf
          refine e_iast (n := (u.1 (40, 0, 0) 46).toNatClampNeg) dX10_night_57 (kM_mem (s := 70) (by decide)) rfl h5 rfl ?_
          refine r_aload_n (x := (40, 0, 0)) dX10_night_58 rfl ?_
          refine e_getr (z := some (71, 0, 0)) fw_X10_156 dX10_night_59 (kM_mem (s := 40) (by decide)) rfl (lt_b rfl) rfl ?_
          refine r_aload_n (x := (40, 0, 0)) dX10_night_62 rfl ?_
          refine e_geti_ (x := u.1 (40, 0, 0) 46) fw_X10_150 dX10_night_63 (kM_mem (s := 40) (by decide)) rfl (lt_b rfl) (by simp [pi, pl, pr, pci, pcl]) ?_
          refine r_iload_n (x := a1) dX10_night_66 rfl ?_
          refine e_iast (n := (u.1 (40, 0, 0) 46).toNatClampNeg) dX10_night_67 (kM_mem (s := 71) (by decide)) rfl h5 rfl ?_
          refine r_aload_n (x := (40, 0, 0)) dX10_night_68 rfl ?_
          refine r_dup dX10_night_69 rfl ?_
          refine e_geti_ (x := u.1 (40, 0, 0) 46) fw_X10_150 dX10_night_70 (kM_mem (s := 40) (by decide)) rfl (lt_b rfl) (by simp [pi, pl, pr, pci, pcl]) ?_
          refine r_iconst (v := 1) dX10_night_73 rfl ?_
          refine r_iadd dX10_night_74 ?_
          refine e_puti fp_X10_150 dX10_night_75 (kM_mem (s := 40) (by decide)) rfl (lt_b rfl) rfl rfl rfl ?_
          refine r_aload_n (x := (40, 0, 0)) dX10_night_78 rfl ?_
          refine e_geti_ (x := (u.1 (40, 0, 0) 46) + (1 : Int32)) fw_X10_150 dX10_night_79 (kM_mem (s := 40) (by decide)) rfl (lt_b rfl) (by simp [pi, pl, pr, pci, pcl]) ?_
          have hx := am_inj hf
          subst hx
          exact r_iret dX10_night_82 rfl rfl (le_b rfl) (le_b rfl)
        · have hf := (am_if hf).1 hc
          refine r_bipush (v := -4) dX10_night_45 rfl ?_
          have hx := am_inj hf
          subst hx
          exact r_iret dX10_night_47 rfl rfl (le_b rfl) (le_b rfl)
      · have hf := (am_if hf).1 hc
        refine r_bipush (v := -2) dX10_night_33 rfl ?_
        have hx := am_inj hf
        subst hx
        exact r_iret dX10_night_35 rfl rfl (le_b rfl) (le_b rfl)
    · have hf := (am_if hf).1 hc
      refine r_iconst (v := -1) dX10_night_20 rfl ?_
      have hx := am_inj hf
      subst hx
      exact r_iret dX10_night_21 rfl rfl (le_b rfl) (le_b rfl)
  · have hf := (am_if hf).1 hc
    refine r_aload_n (x := (40, 0, 0)) dX10_night_5 rfl ?_
    refine r_iconst (v := 0) dX10_night_6 rfl ?_
    refine e_puti fp_X10_150 dX10_night_7 (kM_mem (s := 40) (by decide)) rfl (lt_b rfl) rfl rfl rfl ?_
    refine r_iconst (v := 0) dX10_night_10 rfl ?_
    have hx := am_inj hf
    subst hx
    exact r_iret dX10_night_11 rfl rfl (le_b rfl) (le_b rfl)
/-! FireFromFireModel.goNights -/
theorem dX10_goNights_0 : decode cX10_goNights 0 = .ok (.aload_n 0, 1) := by decide +kernel
theorem dX10_goNights_1 : decode cX10_goNights 1 = .ok (.invokevirtual 361, 3) := by decide +kernel
theorem dX10_goNights_4 : decode cX10_goNights 4 = .ok (.iconst 0, 1) := by decide +kernel
theorem dX10_goNights_5 : decode cX10_goNights 5 = .ok (.istore_n 2, 1) := by decide +kernel
theorem dX10_goNights_6 : decode cX10_goNights 6 = .ok (.iload_n 2, 1) := by decide +kernel
theorem dX10_goNights_7 : decode cX10_goNights 7 = .ok (.iload_n 1, 1) := by decide +kernel
theorem dX10_goNights_8 : decode cX10_goNights 8 = .ok (.if_icmp .ge 25, 3) := by decide +kernel
theorem dX10_goNights_11 : decode cX10_goNights 11 = .ok (.aload_n 0, 1) := by decide +kernel
theorem dX10_goNights_12 : decode cX10_goNights 12 = .ok (.aload_n 0, 1) := by decide +kernel
theorem dX10_goNights_13 : decode cX10_goNights 13 = .ok (.getfield 153, 3) := by decide +kernel
theorem dX10_goNights_16 : decode cX10_goNights 16 = .ok (.iload_n 2, 1) := by decide +kernel
theorem dX10_goNights_17 : decode cX10_goNights 17 = .ok (.iaload, 1) := by decide +kernel
theorem dX10_goNights_18 : decode cX10_goNights 18 = .ok (.aload_n 0, 1) := by decide +kernel
theorem dX10_goNights_19 : decode cX10_goNights 19 = .ok (.getfield 156, 3) := by decide +kernel
theorem dX10_goNights_22 : decode cX10_goNights 22 = .ok (.iload_n 2, 1) := by decide +kernel
theorem dX10_goNights_23 : decode cX10_goNights 23 = .ok (.iaload, 1) := by decide +kernel
theorem dX10_goNights_24 : decode cX10_goNights 24 = .ok (.invokevirtual 390, 3) := by decide +kernel
theorem dX10_goNights_27 : decode cX10_goNights 27 = .ok (.iinc 2 1, 3) := by decide +kernel
theorem dX10_goNights_30 : decode cX10_goNights 30 = .ok (.goto (-24), 3) := by decide +kernel
theorem dX10_goNights_33 : decode cX10_goNights 33 = .ok (.return_, 1) := by decide +kernel
def f_X10_goNights_L6  (c1 : Int32) : Int32 × PM → Option ((Int32 × PM) ⊕ (PM)) := fun (x2 , u) =>
  if c1 ≤ x2 then
    some (.inr (u))
  else
  if x2 < 0 ∨ 12 ≤ x2.toNatClampNeg then none else
  (f_X10_goHour (u.1 (70, 0, 0) x2.toNatClampNeg) (u.1 (71, 0, 0) x2.toNatClampNeg) u).bind fun r4 =>
  some (.inl (x2 + (1 : Int32), r4))
set_option maxHeartbeats 4000000 in
set_option maxRecDepth 20000 in
theorem K_X10_goNights_L6 {l : Launch} {T : Option AV × List Key × AM}  {c1 : Int32} : ∀ (n : Nat) (s : Int32 × PM) (e0 : PM), am_loop (f_X10_goNights_L6 c1) n s = some e0 → (fun e : PM => X l mX10_goNights 8 0 0 false T kM 0 0 33 [none, none, none] [] (en e)) e0 → X l mX10_goNights 8 0 0 false T kM 0 0 6 [some (vR (40, 0, 0)), some (vI c1), some (vI s.1)] [] (en s.2) := by
  refine am_loop_of ?_
  intro s x hf k1 k2
  obtain ⟨x2 , u⟩ := s
  unfold f_X10_goNights_L6 at hf
  show X l mX10_goNights 8 0 0 false T kM 0 0 6 [some (vR (40, 0, 0)), some (vI c1), some (vI x2)] [] (en u)
  refine r_iload_n (x := x2) dX10_goNights_6 rfl ?_
  refine r_iload_n (x := c1) dX10_goNights_7 rfl ?_
  refine r_icmp_ge (tgt := 33) dX10_goNights_8 (by decide) (fun hc => ?_) (fun hc => ?_)
  · have hf := (am_if hf).1 hc
    refine r_weak (L' := [none, none, none]) trivial ?_
    exact k2 (u) (am_inj hf).symm
  · have hf := (am_if hf).2 hc
    refine r_aload_n (x := (40, 0, 0)) dX10_goNights_11 rfl ?_
    refine r_aload_n (x := (40, 0, 0)) dX10_goNights_12 rfl ?_
    refine e_getr (z := some (70, 0, 0)) fw_X10_153 dX10_goNights_13 (kM_mem (s := 40) (by decide)) rfl (lt_b rfl) rfl ?_
    refine r_iload_n (x := x2) dX10_goNights_16 rfl ?_
    obtain ⟨h3, hf⟩ := am_nchk hf
    refine e_iald (n := x2.toNatClampNeg) dX10_goNights_17 (kM_mem (s := 70) (by decide)) rfl h3 rfl rfl ?_
    refine r_aload_n (x := (40, 0, 0)) dX10_goNights_18 rfl ?_
    refine e_getr (z := some (71, 0, 0)) fw_X10_156 dX10_goNights_19 (kM_mem (s := 40) (by decide)) rfl (lt_b rfl) rfl ?_
    refine r_iload_n (x := x2) dX10_goNights_22 rfl ?_
    refine e_iald (n := x2.toNatClampNeg) dX10_goNights_23 (kM_mem (s := 71) (by decide)) rfl h3 rfl rfl ?_
    obtain ⟨r4, hr5, hf⟩ := am_bind hf
    refine r_callV (as := [vI (u.1 (70, 0, 0) x2.toNatClampNeg), vI (u.1 (71, 0, 0) x2.toNatClampNeg)]) (st := []) (n := 2) mw_X10_390 mv_X10_goHour (C_X10_goHour (l := l) hr5) (le_b rfl) dX10_goNights_24 (kM_mem (s := 40) (by decide)) rfl rfl rfl (le_b rfl) (le_b rfl) (le_b rfl) ?_
    show X l _ _ 0 0 false _ kM 0 0 27 [some (vR (40, 0, 0)), some (vI c1), some (vI x2)] [] (en r4)
    refine r_iinc (x := x2) (v := x2 + (1 : Int32)) (L' := [some (vR (40, 0, 0)), some (vI c1), some (vI (x2 + (1 : Int32)))]) dX10_goNights_27 rfl rfl (lt_b rfl) rfl ?_
    refine r_goto (tgt := 6) dX10_goNights_30 (by decide) ?_
    refine r_weak (L' := [some (vR (40, 0, 0)), some (vI c1), some (vI (x2 + (1 : Int32)))]) (And.intro rfl (And.intro rfl (And.intro rfl trivial))) ?_
    exact k1 (x2 + (1 : Int32), r4) (am_inj hf).symm
def f_X10_goNights  (a0 : Int32) (u : PM) : Option (PM) :=
  (f_X10_asIs u).bind fun r1 =>
  (am_loop (f_X10_goNights_L6 a0) 2000 ((0 : Int32), r1)).bind fun u8 =>
  some u8
set_option maxHeartbeats 4000000 in
set_option maxRecDepth 20000 in
theorem C_X10_goNights {l : Launch}  {a0 : Int32} {u : PM} {x : PM} (hf : f_X10_goNights a0 u = some x) : Ev l mX10_goNights 8 0 0 false [vR (40, 0, 0), vI a0] kM (en u) (none, kM, en x) := by
  refine Ev_of (by decide +kernel) (le_b rfl) ?_
  unfold f_X10_goNights at hf
  show X l mX10_goNights 8 0 0 false _ kM 0 0 0 [some (vR (40, 0, 0)), some (vI a0), none] [] (en u)
  refine r_aload_n (x := (40, 0, 0)) dX10_goNights_0 rfl ?_
  obtain ⟨r1, hr2, hf⟩ := am_bind hf
  refine r_callV (as := []) (st := []) (n := 0) mw_X10_361 mv_X10_asIs (C_X10_asIs (l := l) hr2) (le_b rfl) dX10_goNights_1 (kM_mem (s := 40) (by decide)) rfl rfl rfl (le_b rfl) (le_b rfl) (le_b rfl) ?_
  show X l _ _ 0 0 false _ kM 0 0 4 [some (vR (40, 0, 0)), some (vI a0), none] [] (en r1)
  refine r_iconst (v := 0) dX10_goNights_4 rfl ?_
  refine r_istore_n (L' := [some (vR (40, 0, 0)), some (vI a0), some (vI (0 : Int32))]) dX10_goNights_5 (by decide) rfl ?_
  refine r_weak (L' := [some (vR (40, 0, 0)), some (vI a0), some (vI (0 : Int32))]) (And.intro rfl (And.intro rfl (And.intro rfl trivial))) ?_
  obtain ⟨e6, he7, hf⟩ := am_bind hf
  refine K_X10_goNights_L6  2000 ((0 : Int32), r1) _ he7 ?_
  obtain ⟨u8, rfl⟩ : ∃ z, z = e6 := ⟨_, rfl⟩
  show X l _ _ 0 0 false _ kM 0 0 33 [none, none, none] [] (en u8)
  have hx := am_inj hf
  subst hx
  exact r_vret dX10_goNights_33 rfl (le_b rfl) (le_b rfl)
/-! FireFromFireModel.hand -/
theorem dX10_hand_0 : decode cX10_hand 0 = .ok (.aload_n 0, 1) := by decide +kernel
theorem dX10_hand_1 : decode cX10_hand 1 = .ok (.iload_n 2, 1) := by decide +kernel
theorem dX10_hand_2 : decode cX10_hand 2 = .ok (.iconst 0, 1) := by decide +kernel
theorem dX10_hand_3 : decode cX10_hand 3 = .ok (.bipush 8, 2) := by decide +kernel
theorem dX10_hand_5 : decode cX10_hand 5 = .ok (.invokevirtual 267, 3) := by decide +kernel
theorem dX10_hand_8 : decode cX10_hand 8 = .ok (.ifCond .eq 17, 3) := by decide +kernel
theorem dX10_hand_11 : decode cX10_hand 11 = .ok (.iload_n 2, 1) := by decide +kernel
theorem dX10_hand_12 : decode cX10_hand 12 = .ok (.bipush 6, 2) := by decide +kernel
theorem dX10_hand_14 : decode cX10_hand 14 = .ok (.if_icmp .ge 15, 3) := by decide +kernel
theorem dX10_hand_17 : decode cX10_hand 17 = .ok (.aload_n 0, 1) := by decide +kernel
theorem dX10_hand_18 : decode cX10_hand 18 = .ok (.iload_n 2, 1) := by decide +kernel
theorem dX10_hand_19 : decode cX10_hand 19 = .ok (.invokevirtual 271, 3) := by decide +kernel
theorem dX10_hand_22 : decode cX10_hand 22 = .ok (.ifCond .ne 7, 3) := by decide +kernel
theorem dX10_hand_25 : decode cX10_hand 25 = .ok (.sipush (-1001), 3) := by decide +kernel
theorem dX10_hand_28 : decode cX10_hand 28 = .ok (.ireturn, 1) := by decide +kernel
theorem dX10_hand_29 : decode cX10_hand 29 = .ok (.aload_n 0, 1) := by decide +kernel
theorem dX10_hand_30 : decode cX10_hand 30 = .ok (.iload_n 1, 1) := by decide +kernel
theorem dX10_hand_31 : decode cX10_hand 31 = .ok (.iconst 0, 1) := by decide +kernel
theorem dX10_hand_32 : decode cX10_hand 32 = .ok (.aload_n 0, 1) := by decide +kernel
theorem dX10_hand_33 : decode cX10_hand 33 = .ok (.getfield 150, 3) := by decide +kernel
theorem dX10_hand_36 : decode cX10_hand 36 = .ok (.invokevirtual 267, 3) := by decide +kernel
theorem dX10_hand_39 : decode cX10_hand 39 = .ok (.ifCond .ne 7, 3) := by decide +kernel
theorem dX10_hand_42 : decode cX10_hand 42 = .ok (.sipush (-1002), 3) := by decide +kernel
theorem dX10_hand_45 : decode cX10_hand 45 = .ok (.ireturn, 1) := by decide +kernel
theorem dX10_hand_46 : decode cX10_hand 46 = .ok (.aload_n 0, 1) := by decide +kernel
theorem dX10_hand_47 : decode cX10_hand 47 = .ok (.iload_n 1, 1) := by decide +kernel
theorem dX10_hand_48 : decode cX10_hand 48 = .ok (.invokevirtual 393, 3) := by decide +kernel
theorem dX10_hand_51 : decode cX10_hand 51 = .ok (.iload_n 2, 1) := by decide +kernel
theorem dX10_hand_52 : decode cX10_hand 52 = .ok (.bipush 6, 2) := by decide +kernel
theorem dX10_hand_54 : decode cX10_hand 54 = .ok (.if_icmp .ge 12, 3) := by decide +kernel
theorem dX10_hand_57 : decode cX10_hand 57 = .ok (.aload_n 0, 1) := by decide +kernel
theorem dX10_hand_58 : decode cX10_hand 58 = .ok (.getfield 122, 3) := by decide +kernel
theorem dX10_hand_61 : decode cX10_hand 61 = .ok (.iload_n 2, 1) := by decide +kernel
theorem dX10_hand_62 : decode cX10_hand 62 = .ok (.iaload, 1) := by decide +kernel
theorem dX10_hand_63 : decode cX10_hand 63 = .ok (.goto 33, 3) := by decide +kernel
theorem dX10_hand_66 : decode cX10_hand 66 = .ok (.iload_n 2, 1) := by decide +kernel
theorem dX10_hand_67 : decode cX10_hand 67 = .ok (.bipush 6, 2) := by decide +kernel
theorem dX10_hand_69 : decode cX10_hand 69 = .ok (.if_icmp .ne 10, 3) := by decide +kernel
theorem dX10_hand_72 : decode cX10_hand 72 = .ok (.aload_n 0, 1) := by decide +kernel
theorem dX10_hand_73 : decode cX10_hand 73 = .ok (.getfield 107, 3) := by decide +kernel
theorem dX10_hand_76 : decode cX10_hand 76 = .ok (.goto 20, 3) := by decide +kernel
theorem dX10_hand_79 : decode cX10_hand 79 = .ok (.iload_n 2, 1) := by decide +kernel
theorem dX10_hand_80 : decode cX10_hand 80 = .ok (.bipush 7, 2) := by decide +kernel
theorem dX10_hand_82 : decode cX10_hand 82 = .ok (.if_icmp .ne 10, 3) := by decide +kernel
theorem dX10_hand_85 : decode cX10_hand 85 = .ok (.aload_n 0, 1) := by decide +kernel
theorem dX10_hand_86 : decode cX10_hand 86 = .ok (.getfield 119, 3) := by decide +kernel
theorem dX10_hand_89 : decode cX10_hand 89 = .ok (.goto 7, 3) := by decide +kernel
theorem dX10_hand_92 : decode cX10_hand 92 = .ok (.aload_n 0, 1) := by decide +kernel
theorem dX10_hand_93 : decode cX10_hand 93 = .ok (.getfield 116, 3) := by decide +kernel
theorem dX10_hand_96 : decode cX10_hand 96 = .ok (.ireturn, 1) := by decide +kernel
def f_X10_hand  (a0 : Int32) (a1 : Int32) (u : PM) : Option (Int32 × PM) :=
  (f_X10_in a1 (0 : Int32) (8 : Int32) u).bind fun r1 =>
  if r1 = 0 then
    some ((-1001 : Int32), u)
  else
  if (6 : Int32) ≤ a1 then
    (f_X10_in a0 (0 : Int32) (u.1 (40, 0, 0) 46) u).bind fun r3 =>
    if r3 = 0 then
      some ((-1002 : Int32), u)
    else
    (f_X10_goNights a0 u).bind fun r5 =>
    if (6 : Int32) ≤ a1 then
      if a1 = (6 : Int32) then
        some (r5.1 (40, 0, 0) 32, r5)
      else
      if a1 = (7 : Int32) then
        some (r5.1 (40, 0, 0) 36, r5)
      else
      some (r5.1 (40, 0, 0) 35, r5)
    else
    if a1 < 0 ∨ 6 ≤ a1.toNatClampNeg then none else
    some (r5.1 (61, 0, 0) a1.toNatClampNeg, r5)
  else
  (f_X10_isHouse a1 u).bind fun r8 =>
  if r8 = 0 then
    some ((-1001 : Int32), u)
  else
  (f_X10_in a0 (0 : Int32) (u.1 (40, 0, 0) 46) u).bind fun r10 =>
  if r10 = 0 then
    some ((-1002 : Int32), u)
  else
  (f_X10_goNights a0 u).bind fun r12 =>
  if (6 : Int32) ≤ a1 then
    if a1 = (6 : Int32) then
      some (r12.1 (40, 0, 0) 32, r12)
    else
    if a1 = (7 : Int32) then
      some (r12.1 (40, 0, 0) 36, r12)
    else
    some (r12.1 (40, 0, 0) 35, r12)
  else
  if a1 < 0 ∨ 6 ≤ a1.toNatClampNeg then none else
  some (r12.1 (61, 0, 0) a1.toNatClampNeg, r12)
set_option maxHeartbeats 4000000 in
set_option maxRecDepth 20000 in
theorem C_X10_hand {l : Launch}  {a0 : Int32} {a1 : Int32} {u : PM} {x : Int32 × PM} (hf : f_X10_hand a0 a1 u = some x) : Ev l mX10_hand 9 0 0 false [vR (40, 0, 0), vI a0, vI a1] kM (en u) (some (vI x.1), kM, en x.2) := by
  refine Ev_of (by decide +kernel) (le_b rfl) ?_
  unfold f_X10_hand at hf
  show X l mX10_hand 9 0 0 false _ kM 0 0 0 [some (vR (40, 0, 0)), some (vI a0), some (vI a1)] [] (en u)
  refine r_aload_n (x := (40, 0, 0)) dX10_hand_0 rfl ?_
  refine r_iload_n (x := a1) dX10_hand_1 rfl ?_
  refine r_iconst (v := 0) dX10_hand_2 rfl ?_
  refine r_bipush (v := 8) dX10_hand_3 rfl ?_
  obtain ⟨r1, hr2, hf⟩ := am_bind hf
  refine r_callV (as := [vI a1, vI (0 : Int32), vI (8 : Int32)]) (st := []) (n := 3) mw_X10_267 mv_X10_in (C_X10_in (l := l) hr2) (le_b rfl) dX10_hand_5 (kM_mem (s := 40) (by decide)) rfl rfl rfl (le_b rfl) (le_b rfl) (le_b rfl) ?_
  show X l _ _ 0 0 false _ kM 0 0 8 [some (vR (40, 0, 0)), some (vI a0), some (vI a1)] [vI r1] (en u)
  refine r_if_eq (tgt := 25) dX10_hand_8 (by decide) (fun hc => ?_) (fun hc => ?_)
  · have hf := (am_if hf).1 hc
    refine r_sipush (v := -1001) dX10_hand_25 rfl ?_
    have hx := am_inj hf
    subst hx
    exact r_iret dX10_hand_28 rfl rfl (le_b rfl) (le_b rfl)
  · have hf := (am_if hf).2 hc
    refine r_iload_n (x := a1) dX10_hand_11 rfl ?_
    refine r_bipush (v := 6) dX10_hand_12 rfl ?_
    refine r_icmp_ge (tgt := 29) dX10_hand_14 (by decide) (fun hc => ?_) (fun hc => ?_)
    · have hf := (am_if hf).1 hc
      refine r_aload_n (x := (40, 0, 0)) dX10_hand_29 rfl ?_
      refine r_iload_n (x := a0) dX10_hand_30 rfl ?_
      refine r_iconst (v := 0) dX10_hand_31 rfl ?_
      refine r_aload_n (x := (40, 0, 0)) dX10_hand_32 rfl ?_
      refine e_geti fw_X10_150 dX10_hand_33 (kM_mem (s := 40) (by decide)) rfl (lt_b rfl) ?_
      obtain ⟨r3, hr4, hf⟩ := am_bind hf
      refine r_callV (as := [vI a0, vI (0 : Int32), vI (u.1 (40, 0, 0) 46)]) (st := []) (n := 3) mw_X10_267 mv_X10_in (C_X10_in (l := l) hr4) (le_b rfl) dX10_hand_36 (kM_mem (s := 40) (by decide)) rfl rfl rfl (le_b rfl) (le_b rfl) (le_b rfl) ?_
      show X l _ _ 0 0 false _ kM 0 0 39 [some (vR (40, 0, 0)), some (vI a0), some (vI a1)] [vI r3] (en u)
      refine r_if_ne (tgt := 46) dX10_hand_39 (by decide) (fun hc => ?_) (fun hc => ?_)
      · have hf := (am_if hf).2 hc
        refine r_aload_n (x := (40, 0, 0)) dX10_hand_46 rfl ?_
        refine r_iload_n (x := a0) dX10_hand_47 rfl ?_
        obtain ⟨r5, hr6, hf⟩ := am_bind hf
        refine r_callV (as := [vI a0]) (st := []) (n := 1) mw_X10_393 mv_X10_goNights (C_X10_goNights (l := l) hr6) (le_b rfl) dX10_hand_48 (kM_mem (s := 40) (by decide)) rfl rfl rfl (le_b rfl) (le_b rfl) (le_b rfl) ?_
        show X l _ _ 0 0 false _ kM 0 0 51 [some (vR (40, 0, 0)), some (vI a0), some (vI a1)] [] (en r5)
        refine r_iload_n (x := a1) dX10_hand_51 rfl ?_
        refine r_bipush (v := 6) dX10_hand_52 rfl ?_
        refine r_icmp_ge (tgt := 66) dX10_hand_54 (by decide) (fun hc => ?_) (fun hc => ?_)
        · have hf := (am_if hf).1 hc
          refine r_iload_n (x := a1) dX10_hand_66 rfl ?_
          refine r_bipush (v := 6) dX10_hand_67 rfl ?_
          refine r_icmp_ne (tgt := 79) dX10_hand_69 (by decide) (fun hc => ?_) (fun hc => ?_)
          · have hf := (am_if hf).2 hc
            refine r_iload_n (x := a1) dX10_hand_79 rfl ?_
            refine r_bipush (v := 7) dX10_hand_80 rfl ?_
            refine r_icmp_ne (tgt := 92) dX10_hand_82 (by decide) (fun hc => ?_) (fun hc => ?_)
            · have hf := (am_if hf).2 hc
              refine r_aload_n (x := (40, 0, 0)) dX10_hand_92 rfl ?_
              refine e_geti fw_X10_116 dX10_hand_93 (kM_mem (s := 40) (by decide)) rfl (lt_b rfl) ?_
              have hx := am_inj hf
              subst hx
              exact r_iret dX10_hand_96 rfl rfl (le_b rfl) (le_b rfl)
            · have hf := (am_if hf).1 hc
              refine r_aload_n (x := (40, 0, 0)) dX10_hand_85 rfl ?_
              refine e_geti fw_X10_119 dX10_hand_86 (kM_mem (s := 40) (by decide)) rfl (lt_b rfl) ?_
              refine r_goto (tgt := 96) dX10_hand_89 (by decide) ?_
              have hx := am_inj hf
              subst hx
              exact r_iret dX10_hand_96 rfl rfl (le_b rfl) (le_b rfl)
          · have hf := (am_if hf).1 hc
            refine r_aload_n (x := (40, 0, 0)) dX10_hand_72 rfl ?_
            refine e_geti fw_X10_107 dX10_hand_73 (kM_mem (s := 40) (by decide)) rfl (lt_b rfl) ?_
            refine r_goto (tgt := 96) dX10_hand_76 (by decide) ?_
            have hx := am_inj hf
            subst hx
            exact r_iret dX10_hand_96 rfl rfl (le_b rfl) (le_b rfl)
        · have hf := (am_if hf).2 hc
          refine r_aload_n (x := (40, 0, 0)) dX10_hand_57 rfl ?_
          refine e_getr (z := some (61, 0, 0)) fw_X10_122 dX10_hand_58 (kM_mem (s := 40) (by decide)) rfl (lt_b rfl) rfl ?_
          refine r_iload_n (x := a1) dX10_hand_61 rfl ?_
          obtain ⟨h7, hf⟩ := am_nchk hf
          refine e_iald (n := a1.toNatClampNeg) dX10_hand_62 (kM_mem (s := 61) (by decide)) rfl h7 rfl rfl ?_
          refine r_goto (tgt := 96) dX10_hand_63 (by decide) ?_
          have hx := am_inj hf
          subst hx
          exact r_iret dX10_hand_96 rfl rfl (le_b rfl) (le_b rfl)
      · have hf := (am_if hf).1 hc
        refine r_sipush (v := -1002) dX10_hand_42 rfl ?_
        have hx := am_inj hf
        subst hx
        exact r_iret dX10_hand_45 rfl rfl (le_b rfl) (le_b rfl)
    · have hf := (am_if hf).2 hc
      refine r_aload_n (x := (40, 0, 0)) dX10_hand_17 rfl ?_
      refine r_iload_n (x := a1) dX10_hand_18 rfl ?_
      obtain ⟨r8, hr9, hf⟩ := am_bind hf
      refine r_callV (as := [vI a1]) (st := []) (n := 1) mw_X10_271 mv_X10_isHouse (C_X10_isHouse (l := l) hr9) (le_b rfl) dX10_hand_19 (kM_mem (s := 40) (by decide)) rfl rfl rfl (le_b rfl) (le_b rfl) (le_b rfl) ?_
      show X l _ _ 0 0 false _ kM 0 0 22 [some (vR (40, 0, 0)), some (vI a0), some (vI a1)] [vI r8] (en u)
      refine r_if_ne (tgt := 29) dX10_hand_22 (by decide) (fun hc => ?_) (fun hc => ?_)
      · have hf := (am_if hf).2 hc
        refine r_aload_n (x := (40, 0, 0)) dX10_hand_29 rfl ?_
        refine r_iload_n (x := a0) dX10_hand_30 rfl ?_
        refine r_iconst (v := 0) dX10_hand_31 rfl ?_
        refine r_aload_n (x := (40, 0, 0)) dX10_hand_32 rfl ?_
        refine e_geti fw_X10_150 dX10_hand_33 (kM_mem (s := 40) (by decide)) rfl (lt_b rfl) ?_
        obtain ⟨r10, hr11, hf⟩ := am_bind hf
        refine r_callV (as := [vI a0, vI (0 : Int32), vI (u.1 (40, 0, 0) 46)]) (st := []) (n := 3) mw_X10_267 mv_X10_in (C_X10_in (l := l) hr11) (le_b rfl) dX10_hand_36 (kM_mem (s := 40) (by decide)) rfl rfl rfl (le_b rfl) (le_b rfl) (le_b rfl) ?_
        show X l _ _ 0 0 false _ kM 0 0 39 [some (vR (40, 0, 0)), some (vI a0), some (vI a1)] [vI r10] (en u)
        refine r_if_ne (tgt := 46) dX10_hand_39 (by decide) (fun hc => ?_) (fun hc => ?_)
        · have hf := (am_if hf).2 hc
          refine r_aload_n (x := (40, 0, 0)) dX10_hand_46 rfl ?_
          refine r_iload_n (x := a0) dX10_hand_47 rfl ?_
          obtain ⟨r12, hr13, hf⟩ := am_bind hf
          refine r_callV (as := [vI a0]) (st := []) (n := 1) mw_X10_393 mv_X10_goNights (C_X10_goNights (l := l) hr13) (le_b rfl) dX10_hand_48 (kM_mem (s := 40) (by decide)) rfl rfl rfl (le_b rfl) (le_b rfl) (le_b rfl) ?_
          show X l _ _ 0 0 false _ kM 0 0 51 [some (vR (40, 0, 0)), some (vI a0), some (vI a1)] [] (en r12)
          refine r_iload_n (x := a1) dX10_hand_51 rfl ?_
          refine r_bipush (v := 6) dX10_hand_52 rfl ?_
          refine r_icmp_ge (tgt := 66) dX10_hand_54 (by decide) (fun hc => ?_) (fun hc => ?_)
          · have hf := (am_if hf).1 hc
            refine r_iload_n (x := a1) dX10_hand_66 rfl ?_
            refine r_bipush (v := 6) dX10_hand_67 rfl ?_
            refine r_icmp_ne (tgt := 79) dX10_hand_69 (by decide) (fun hc => ?_) (fun hc => ?_)
            · have hf := (am_if hf).2 hc
              refine r_iload_n (x := a1) dX10_hand_79 rfl ?_
              refine r_bipush (v := 7) dX10_hand_80 rfl ?_
              refine r_icmp_ne (tgt := 92) dX10_hand_82 (by decide) (fun hc => ?_) (fun hc => ?_)
              · have hf := (am_if hf).2 hc
                refine r_aload_n (x := (40, 0, 0)) dX10_hand_92 rfl ?_
                refine e_geti fw_X10_116 dX10_hand_93 (kM_mem (s := 40) (by decide)) rfl (lt_b rfl) ?_
                have hx := am_inj hf
                subst hx
                exact r_iret dX10_hand_96 rfl rfl (le_b rfl) (le_b rfl)
              · have hf := (am_if hf).1 hc
                refine r_aload_n (x := (40, 0, 0)) dX10_hand_85 rfl ?_
                refine e_geti fw_X10_119 dX10_hand_86 (kM_mem (s := 40) (by decide)) rfl (lt_b rfl) ?_
                refine r_goto (tgt := 96) dX10_hand_89 (by decide) ?_
                have hx := am_inj hf
                subst hx
                exact r_iret dX10_hand_96 rfl rfl (le_b rfl) (le_b rfl)
            · have hf := (am_if hf).1 hc
              refine r_aload_n (x := (40, 0, 0)) dX10_hand_72 rfl ?_
              refine e_geti fw_X10_107 dX10_hand_73 (kM_mem (s := 40) (by decide)) rfl (lt_b rfl) ?_
              refine r_goto (tgt := 96) dX10_hand_76 (by decide) ?_
              have hx := am_inj hf
              subst hx
              exact r_iret dX10_hand_96 rfl rfl (le_b rfl) (le_b rfl)
          · have hf := (am_if hf).2 hc
            refine r_aload_n (x := (40, 0, 0)) dX10_hand_57 rfl ?_
            refine e_getr (z := some (61, 0, 0)) fw_X10_122 dX10_hand_58 (kM_mem (s := 40) (by decide)) rfl (lt_b rfl) rfl ?_
            refine r_iload_n (x := a1) dX10_hand_61 rfl ?_
            obtain ⟨h14, hf⟩ := am_nchk hf
            refine e_iald (n := a1.toNatClampNeg) dX10_hand_62 (kM_mem (s := 61) (by decide)) rfl h14 rfl rfl ?_
            refine r_goto (tgt := 96) dX10_hand_63 (by decide) ?_
            have hx := am_inj hf
            subst hx
            exact r_iret dX10_hand_96 rfl rfl (le_b rfl) (le_b rfl)
        · have hf := (am_if hf).1 hc
          refine r_sipush (v := -1002) dX10_hand_42 rfl ?_
          have hx := am_inj hf
          subst hx
          exact r_iret dX10_hand_45 rfl rfl (le_b rfl) (le_b rfl)
      · have hf := (am_if hf).1 hc
        refine r_sipush (v := -1001) dX10_hand_25 rfl ?_
        have hx := am_inj hf
        subst hx
        exact r_iret dX10_hand_28 rfl rfl (le_b rfl) (le_b rfl)
/-! FireFromFireModel.layApart -/
theorem dX10_layApart_0 : decode cX10_layApart 0 = .ok (.iconst 0, 1) := by decide +kernel
theorem dX10_layApart_1 : decode cX10_layApart 1 = .ok (.istore_n 1, 1) := by decide +kernel
theorem dX10_layApart_2 : decode cX10_layApart 2 = .ok (.iload_n 1, 1) := by decide +kernel
theorem dX10_layApart_3 : decode cX10_layApart 3 = .ok (.aload_n 0, 1) := by decide +kernel
theorem dX10_layApart_4 : decode cX10_layApart 4 = .ok (.getfield 7, 3) := by decide +kernel
theorem dX10_layApart_7 : decode cX10_layApart 7 = .ok (.if_icmp .ge 76, 3) := by decide +kernel
theorem dX10_layApart_10 : decode cX10_layApart 10 = .ok (.iconst 0, 1) := by decide +kernel
theorem dX10_layApart_11 : decode cX10_layApart 11 = .ok (.istore_n 2, 1) := by decide +kernel
theorem dX10_layApart_12 : decode cX10_layApart 12 = .ok (.iload_n 2, 1) := by decide +kernel
theorem dX10_layApart_13 : decode cX10_layApart 13 = .ok (.aload_n 0, 1) := by decide +kernel
theorem dX10_layApart_14 : decode cX10_layApart 14 = .ok (.getfield 7, 3) := by decide +kernel
theorem dX10_layApart_17 : decode cX10_layApart 17 = .ok (.if_icmp .ge 60, 3) := by decide +kernel
theorem dX10_layApart_20 : decode cX10_layApart 20 = .ok (.aload_n 0, 1) := by decide +kernel
theorem dX10_layApart_21 : decode cX10_layApart 21 = .ok (.getfield 159, 3) := by decide +kernel
theorem dX10_layApart_24 : decode cX10_layApart 24 = .ok (.bipush 6, 2) := by decide +kernel
theorem dX10_layApart_26 : decode cX10_layApart 26 = .ok (.iload_n 1, 1) := by decide +kernel
theorem dX10_layApart_27 : decode cX10_layApart 27 = .ok (.imul, 1) := by decide +kernel
theorem dX10_layApart_28 : decode cX10_layApart 28 = .ok (.iload_n 2, 1) := by decide +kernel
theorem dX10_layApart_29 : decode cX10_layApart 29 = .ok (.iadd, 1) := by decide +kernel
theorem dX10_layApart_30 : decode cX10_layApart 30 = .ok (.iload_n 1, 1) := by decide +kernel
theorem dX10_layApart_31 : decode cX10_layApart 31 = .ok (.iload_n 2, 1) := by decide +kernel
theorem dX10_layApart_32 : decode cX10_layApart 32 = .ok (.if_icmp .ne 7, 3) := by decide +kernel
theorem dX10_layApart_35 : decode cX10_layApart 35 = .ok (.iconst 0, 1) := by decide +kernel
theorem dX10_layApart_36 : decode cX10_layApart 36 = .ok (.goto 34, 3) := by decide +kernel
theorem dX10_layApart_39 : decode cX10_layApart 39 = .ok (.aload_n 0, 1) := by decide +kernel
theorem dX10_layApart_40 : decode cX10_layApart 40 = .ok (.getfield 47, 3) := by decide +kernel
theorem dX10_layApart_43 : decode cX10_layApart 43 = .ok (.bipush 6, 2) := by decide +kernel
theorem dX10_layApart_45 : decode cX10_layApart 45 = .ok (.iload_n 1, 1) := by decide +kernel
theorem dX10_layApart_46 : decode cX10_layApart 46 = .ok (.imul, 1) := by decide +kernel
theorem dX10_layApart_47 : decode cX10_layApart 47 = .ok (.iload_n 2, 1) := by decide +kernel
theorem dX10_layApart_48 : decode cX10_layApart 48 = .ok (.iadd, 1) := by decide +kernel
theorem dX10_layApart_49 : decode cX10_layApart 49 = .ok (.iaload, 1) := by decide +kernel
theorem dX10_layApart_50 : decode cX10_layApart 50 = .ok (.ifCond .le 17, 3) := by decide +kernel
theorem dX10_layApart_53 : decode cX10_layApart 53 = .ok (.aload_n 0, 1) := by decide +kernel
theorem dX10_layApart_54 : decode cX10_layApart 54 = .ok (.getfield 47, 3) := by decide +kernel
theorem dX10_layApart_57 : decode cX10_layApart 57 = .ok (.bipush 6, 2) := by decide +kernel
theorem dX10_layApart_59 : decode cX10_layApart 59 = .ok (.iload_n 1, 1) := by decide +kernel
theorem dX10_layApart_60 : decode cX10_layApart 60 = .ok (.imul, 1) := by decide +kernel
theorem dX10_layApart_61 : decode cX10_layApart 61 = .ok (.iload_n 2, 1) := by decide +kernel
theorem dX10_layApart_62 : decode cX10_layApart 62 = .ok (.iadd, 1) := by decide +kernel
theorem dX10_layApart_63 : decode cX10_layApart 63 = .ok (.iaload, 1) := by decide +kernel
theorem dX10_layApart_64 : decode cX10_layApart 64 = .ok (.goto 6, 3) := by decide +kernel
theorem dX10_layApart_67 : decode cX10_layApart 67 = .ok (.sipush 1000, 3) := by decide +kernel
theorem dX10_layApart_70 : decode cX10_layApart 70 = .ok (.iastore, 1) := by decide +kernel
theorem dX10_layApart_71 : decode cX10_layApart 71 = .ok (.iinc 2 1, 3) := by decide +kernel
theorem dX10_layApart_74 : decode cX10_layApart 74 = .ok (.goto (-62), 3) := by decide +kernel
theorem dX10_layApart_77 : decode cX10_layApart 77 = .ok (.iinc 1 1, 3) := by decide +kernel
theorem dX10_layApart_80 : decode cX10_layApart 80 = .ok (.goto (-78), 3) := by decide +kernel
theorem dX10_layApart_83 : decode cX10_layApart 83 = .ok (.iconst 0, 1) := by decide +kernel
theorem dX10_layApart_84 : decode cX10_layApart 84 = .ok (.istore_n 1, 1) := by decide +kernel
theorem dX10_layApart_85 : decode cX10_layApart 85 = .ok (.iload_n 1, 1) := by decide +kernel
theorem dX10_layApart_86 : decode cX10_layApart 86 = .ok (.aload_n 0, 1) := by decide +kernel
theorem dX10_layApart_87 : decode cX10_layApart 87 = .ok (.getfield 7, 3) := by decide +kernel
theorem dX10_layApart_90 : decode cX10_layApart 90 = .ok (.if_icmp .ge 90, 3) := by decide +kernel
theorem dX10_layApart_93 : decode cX10_layApart 93 = .ok (.iconst 0, 1) := by decide +kernel
theorem dX10_layApart_94 : decode cX10_layApart 94 = .ok (.istore_n 2, 1) := by decide +kernel
theorem dX10_layApart_95 : decode cX10_layApart 95 = .ok (.iload_n 2, 1) := by decide +kernel
theorem dX10_layApart_96 : decode cX10_layApart 96 = .ok (.aload_n 0, 1) := by decide +kernel
theorem dX10_layApart_97 : decode cX10_layApart 97 = .ok (.getfield 7, 3) := by decide +kernel
theorem dX10_layApart_100 : decode cX10_layApart 100 = .ok (.if_icmp .ge 74, 3) := by decide +kernel
theorem dX10_layApart_103 : decode cX10_layApart 103 = .ok (.iconst 0, 1) := by decide +kernel
theorem dX10_layApart_104 : decode cX10_layApart 104 = .ok (.istore_n 3, 1) := by decide +kernel
theorem dX10_layApart_105 : decode cX10_layApart 105 = .ok (.iload_n 3, 1) := by decide +kernel
theorem dX10_layApart_106 : decode cX10_layApart 106 = .ok (.aload_n 0, 1) := by decide +kernel
theorem dX10_layApart_107 : decode cX10_layApart 107 = .ok (.getfield 7, 3) := by decide +kernel
theorem dX10_layApart_110 : decode cX10_layApart 110 = .ok (.if_icmp .ge 58, 3) := by decide +kernel
theorem dX10_layApart_113 : decode cX10_layApart 113 = .ok (.aload_n 0, 1) := by decide +kernel
theorem dX10_layApart_114 : decode cX10_layApart 114 = .ok (.getfield 159, 3) := by decide +kernel
theorem dX10_layApart_117 : decode cX10_layApart 117 = .ok (.bipush 6, 2) := by decide +kernel
theorem dX10_layApart_119 : decode cX10_layApart 119 = .ok (.iload_n 2, 1) := by decide +kernel
theorem dX10_layApart_120 : decode cX10_layApart 120 = .ok (.imul, 1) := by decide +kernel
theorem dX10_layApart_121 : decode cX10_layApart 121 = .ok (.iload_n 3, 1) := by decide +kernel
theorem dX10_layApart_122 : decode cX10_layApart 122 = .ok (.iadd, 1) := by decide +kernel
theorem dX10_layApart_123 : decode cX10_layApart 123 = .ok (.aload_n 0, 1) := by decide +kernel
theorem dX10_layApart_124 : decode cX10_layApart 124 = .ok (.aload_n 0, 1) := by decide +kernel
theorem dX10_layApart_125 : decode cX10_layApart 125 = .ok (.getfield 159, 3) := by decide +kernel
theorem dX10_layApart_128 : decode cX10_layApart 128 = .ok (.bipush 6, 2) := by decide +kernel
theorem dX10_layApart_130 : decode cX10_layApart 130 = .ok (.iload_n 2, 1) := by decide +kernel
theorem dX10_layApart_131 : decode cX10_layApart 131 = .ok (.imul, 1) := by decide +kernel
theorem dX10_layApart_132 : decode cX10_layApart 132 = .ok (.iload_n 3, 1) := by decide +kernel
theorem dX10_layApart_133 : decode cX10_layApart 133 = .ok (.iadd, 1) := by decide +kernel
theorem dX10_layApart_134 : decode cX10_layApart 134 = .ok (.iaload, 1) := by decide +kernel
theorem dX10_layApart_135 : decode cX10_layApart 135 = .ok (.aload_n 0, 1) := by decide +kernel
theorem dX10_layApart_136 : decode cX10_layApart 136 = .ok (.getfield 159, 3) := by decide +kernel
theorem dX10_layApart_139 : decode cX10_layApart 139 = .ok (.bipush 6, 2) := by decide +kernel
theorem dX10_layApart_141 : decode cX10_layApart 141 = .ok (.iload_n 2, 1) := by decide +kernel
theorem dX10_layApart_142 : decode cX10_layApart 142 = .ok (.imul, 1) := by decide +kernel
theorem dX10_layApart_143 : decode cX10_layApart 143 = .ok (.iload_n 1, 1) := by decide +kernel
theorem dX10_layApart_144 : decode cX10_layApart 144 = .ok (.iadd, 1) := by decide +kernel
theorem dX10_layApart_145 : decode cX10_layApart 145 = .ok (.iaload, 1) := by decide +kernel
theorem dX10_layApart_146 : decode cX10_layApart 146 = .ok (.aload_n 0, 1) := by decide +kernel
theorem dX10_layApart_147 : decode cX10_layApart 147 = .ok (.getfield 159, 3) := by decide +kernel
theorem dX10_layApart_150 : decode cX10_layApart 150 = .ok (.bipush 6, 2) := by decide +kernel
theorem dX10_layApart_152 : decode cX10_layApart 152 = .ok (.iload_n 1, 1) := by decide +kernel
theorem dX10_layApart_153 : decode cX10_layApart 153 = .ok (.imul, 1) := by decide +kernel
theorem dX10_layApart_154 : decode cX10_layApart 154 = .ok (.iload_n 3, 1) := by decide +kernel
theorem dX10_layApart_155 : decode cX10_layApart 155 = .ok (.iadd, 1) := by decide +kernel
theorem dX10_layApart_156 : decode cX10_layApart 156 = .ok (.iaload, 1) := by decide +kernel
theorem dX10_layApart_157 : decode cX10_layApart 157 = .ok (.iadd, 1) := by decide +kernel
theorem dX10_layApart_158 : decode cX10_layApart 158 = .ok (.invokevirtual 338, 3) := by decide +kernel
theorem dX10_layApart_161 : decode cX10_layApart 161 = .ok (.iastore, 1) := by decide +kernel
theorem dX10_layApart_162 : decode cX10_layApart 162 = .ok (.iinc 3 1, 3) := by decide +kernel
theorem dX10_layApart_165 : decode cX10_layApart 165 = .ok (.goto (-60), 3) := by decide +kernel
theorem dX10_layApart_168 : decode cX10_layApart 168 = .ok (.iinc 2 1, 3) := by decide +kernel
theorem dX10_layApart_171 : decode cX10_layApart 171 = .ok (.goto (-76), 3) := by decide +kernel
theorem dX10_layApart_174 : decode cX10_layApart 174 = .ok (.iinc 1 1, 3) := by decide +kernel
theorem dX10_layApart_177 : decode cX10_layApart 177 = .ok (.goto (-92), 3) := by decide +kernel
theorem dX10_layApart_180 : decode cX10_layApart 180 = .ok (.return_, 1) := by decide +kernel
def f_X10_layApart_L12  (c1 : Int32) : Int32 × PM → Option ((Int32 × PM) ⊕ (PM)) := fun (x2 , u) =>
  if (u.1 (40, 0, 0) 0) ≤ x2 then
    some (.inr (u))
  else
  if c1 = x2 then
    if (((6 : Int32) * c1) + x2) < 0 ∨ 36 ≤ (((6 : Int32) * c1) + x2).toNatClampNeg then none else
    some (.inl (x2 + (1 : Int32), (pi u (72, 0, 0) ((((6 : Int32) * c1) + x2).toNatClampNeg) (0 : Int32))))
  else
  if (((6 : Int32) * c1) + x2) < 0 ∨ 36 ≤ (((6 : Int32) * c1) + x2).toNatClampNeg then none else
  if (u.1 (49, 0, 0) ((((6 : Int32) * c1) + x2).toNatClampNeg)) ≤ 0 then
    some (.inl (x2 + (1 : Int32), (pi u (72, 0, 0) ((((6 : Int32) * c1) + x2).toNatClampNeg) (1000 : Int32))))
  else
  some (.inl (x2 + (1 : Int32), (pi u (72, 0, 0) ((((6 : Int32) * c1) + x2).toNatClampNeg) (u.1 (49, 0, 0) ((((6 : Int32) * c1) + x2).toNatClampNeg)))))
set_option maxHeartbeats 4000000 in
set_option maxRecDepth 20000 in
theorem K_X10_layApart_L12 {l : Launch} {T : Option AV × List Key × AM}  {c1 : Int32} : ∀ (n : Nat) (s : Int32 × PM) (e0 : PM), am_loop (f_X10_layApart_L12 c1) n s = some e0 → (fun e : PM => X l mX10_layApart 2 0 0 false T kM 0 0 77 [some (vR (40, 0, 0)), some (vI c1), none, none] [] (en e)) e0 → X l mX10_layApart 2 0 0 false T kM 0 0 12 [some (vR (40, 0, 0)), some (vI c1), some (vI s.1), none] [] (en s.2) := by
  refine am_loop_of ?_
  intro s x hf k1 k2
  obtain ⟨x2 , u⟩ := s
  unfold f_X10_layApart_L12 at hf
  show X l mX10_layApart 2 0 0 false T kM 0 0 12 [some (vR (40, 0, 0)), some (vI c1), some (vI x2), none] [] (en u)
  refine r_iload_n (x := x2) dX10_layApart_12 rfl ?_
  refine r_aload_n (x := (40, 0, 0)) dX10_layApart_13 rfl ?_
  refine e_geti fw_X10_7 dX10_layApart_14 (kM_mem (s := 40) (by decide)) rfl (lt_b rfl) ?_
  refine r_icmp_ge (tgt := 77) dX10_layApart_17 (by decide) (fun hc => ?_) (fun hc => ?_)
  · have hf := (am_if hf).1 hc
    refine r_weak (L' := [some (vR (40, 0, 0)), some (vI c1), none, none]) (And.intro rfl (And.intro rfl trivial)) ?_
    exact k2 (u) (am_inj hf).symm
  · have hf := (am_if hf).2 hc
    refine r_aload_n (x := (40, 0, 0)) dX10_layApart_20 rfl ?_
    refine e_getr (z := some (72, 0, 0)) fw_X10_159 dX10_layApart_21 (kM_mem (s := 40) (by decide)) rfl (lt_b rfl) rfl ?_
    refine r_bipush (v := 6) dX10_layApart_24 rfl ?_
    refine r_iload_n (x := c1) dX10_layApart_26 rfl ?_
    refine r_imul dX10_layApart_27 ?_
    refine r_iload_n (x := x2) dX10_layApart_28 rfl ?_
    refine r_iadd dX10_layApart_29 ?_
    refine r_iload_n (x := c1) dX10_layApart_30 rfl ?_
    refine r_iload_n (x := x2) dX10_layApart_31 rfl ?_
    refine r_icmp_ne (tgt := 39) dX10_layApart_32 (by decide) (fun hc => ?_) (fun hc => ?_)
    · have hf := (am_if hf).2 hc
      refine r_aload_n (x := (40, 0, 0)) dX10_layApart_39 rfl ?_
      refine e_getr (z := some (49, 0, 0)) fw_X10_47 dX10_layApart_40 (kM_mem (s := 40) (by decide)) rfl (lt_b rfl) rfl ?_
      refine r_bipush (v := 6) dX10_layApart_43 rfl ?_
      refine r_iload_n (x := c1) dX10_layApart_45 rfl ?_
      refine r_imul dX10_layApart_46 ?_
      refine r_iload_n (x := x2) dX10_layApart_47 rfl ?_
      refine r_iadd dX10_layApart_48 ?_
      obtain ⟨h1, hf⟩ := am_nchk hf
      refine e_iald (n := (((6 : Int32) * c1) + x2).toNatClampNeg) dX10_layApart_49 (kM_mem (s := 49) (by decide)) rfl h1 rfl rfl ?_
      refine r_if_le (tgt := 67) dX10_layApart_50 (by decide) (fun hc => ?_) (fun hc => ?_)
      · have hf := (am_if hf).1 hc
        refine r_sipush (v := 1000) dX10_layApart_67 rfl ?_
        refine e_iast (n := (((6 : Int32) * c1) + x2).toNatClampNeg) dX10_layApart_70 (kM_mem (s := 72) (by decide)) rfl h1 rfl ?_
        refine r_iinc (x := x2) (v := x2 + (1 : Int32)) (L' := [some (vR (40, 0, 0)), some (vI c1), some (vI (x2 + (1 : Int32))), none]) dX10_layApart_71 rfl rfl (lt_b rfl) rfl ?_
        refine r_goto (tgt := 12) dX10_layApart_74 (by decide) ?_
        refine r_weak (L' := [some (vR (40, 0, 0)), some (vI c1), some (vI (x2 + (1 : Int32))), none]) (And.intro rfl (And.intro rfl (And.intro rfl trivial))) ?_
        exact k1 (x2 + (1 : Int32), (pi u (72, 0, 0) ((((6 : Int32) * c1) + x2).toNatClampNeg) (1000 : Int32))) (am_inj hf).symm
      · have hf := (am_if hf).2 hc
        refine r_aload_n (x := (40, 0, 0)) dX10_layApart_53 rfl ?_
        refine e_getr (z := some (49, 0, 0)) fw_X10_47 dX10_layApart_54 (kM_mem (s := 40) (by decide)) rfl (lt_b rfl) rfl ?_
        refine r_bipush (v := 6) dX10_layApart_57 rfl ?_
        refine r_iload_n (x := c1) dX10_layApart_59 rfl ?_
        refine r_imul dX10_layApart_60 ?_
        refine r_iload_n (x := x2) dX10_layApart_61 rfl ?_
        refine r_iadd dX10_layApart_62 ?_
        refine e_iald (n := (((6 : Int32) * c1) + x2).toNatClampNeg) dX10_layApart_63 (kM_mem (s := 49) (by decide)) rfl h1 rfl rfl ?_
        refine r_goto (tgt := 70) dX10_layApart_64 (by decide) ?_
        refine e_iast (n := (((6 : Int32) * c1) + x2).toNatClampNeg) dX10_layApart_70 (kM_mem (s := 72) (by decide)) rfl h1 rfl ?_
        refine r_iinc (x := x2) (v := x2 + (1 : Int32)) (L' := [some (vR (40, 0, 0)), some (vI c1), some (vI (x2 + (1 : Int32))), none]) dX10_layApart_71 rfl rfl (lt_b rfl) rfl ?_
        refine r_goto (tgt := 12) dX10_layApart_74 (by decide) ?_
        refine r_weak (L' := [some (vR (40, 0, 0)), some (vI c1), some (vI (x2 + (1 : Int32))), none]) (And.intro rfl (And.intro rfl (And.intro rfl trivial))) ?_
        exact k1 (x2 + (1 : Int32), (pi u (72, 0, 0) ((((6 : Int32) * c1) + x2).toNatClampNeg) (u.1 (49, 0, 0) ((((6 : Int32) * c1) + x2).toNatClampNeg)))) (am_inj hf).symm
    · have hf := (am_if hf).1 hc
      refine r_iconst (v := 0) dX10_layApart_35 rfl ?_
      refine r_goto (tgt := 70) dX10_layApart_36 (by decide) ?_
      obtain ⟨h2, hf⟩ := am_nchk hf
      refine e_iast (n := (((6 : Int32) * c1) + x2).toNatClampNeg) dX10_layApart_70 (kM_mem (s := 72) (by decide)) rfl h2 rfl ?_
      refine r_iinc (x := x2) (v := x2 + (1 : Int32)) (L' := [some (vR (40, 0, 0)), some (vI c1), some (vI (x2 + (1 : Int32))), none]) dX10_layApart_71 rfl rfl (lt_b rfl) rfl ?_
      refine r_goto (tgt := 12) dX10_layApart_74 (by decide) ?_
      refine r_weak (L' := [some (vR (40, 0, 0)), some (vI c1), some (vI (x2 + (1 : Int32))), none]) (And.intro rfl (And.intro rfl (And.intro rfl trivial))) ?_
      exact k1 (x2 + (1 : Int32), (pi u (72, 0, 0) ((((6 : Int32) * c1) + x2).toNatClampNeg) (0 : Int32))) (am_inj hf).symm
def f_X10_layApart_L2   : Int32 × PM → Option ((Int32 × PM) ⊕ (PM)) := fun (x1 , u) =>
  if (u.1 (40, 0, 0) 0) ≤ x1 then
    some (.inr (u))
  else
  (am_loop (f_X10_layApart_L12 x1) 2000 ((0 : Int32), u)).bind fun u5 =>
  some (.inl (x1 + (1 : Int32), u5))
set_option maxHeartbeats 4000000 in
set_option maxRecDepth 20000 in
theorem K_X10_layApart_L2 {l : Launch} {T : Option AV × List Key × AM}   : ∀ (n : Nat) (s : Int32 × PM) (e0 : PM), am_loop (f_X10_layApart_L2) n s = some e0 → (fun e : PM => X l mX10_layApart 2 0 0 false T kM 0 0 83 [some (vR (40, 0, 0)), none, none, none] [] (en e)) e0 → X l mX10_layApart 2 0 0 false T kM 0 0 2 [some (vR (40, 0, 0)), some (vI s.1), none, none] [] (en s.2) := by
  refine am_loop_of ?_
  intro s x hf k1 k2
  obtain ⟨x1 , u⟩ := s
  unfold f_X10_layApart_L2 at hf
  show X l mX10_layApart 2 0 0 false T kM 0 0 2 [some (vR (40, 0, 0)), some (vI x1), none, none] [] (en u)
  refine r_iload_n (x := x1) dX10_layApart_2 rfl ?_
  refine r_aload_n (x := (40, 0, 0)) dX10_layApart_3 rfl ?_
  refine e_geti fw_X10_7 dX10_layApart_4 (kM_mem (s := 40) (by decide)) rfl (lt_b rfl) ?_
  refine r_icmp_ge (tgt := 83) dX10_layApart_7 (by decide) (fun hc => ?_) (fun hc => ?_)
  · have hf := (am_if hf).1 hc
    refine r_weak (L' := [some (vR (40, 0, 0)), none, none, none]) (And.intro rfl trivial) ?_
    exact k2 (u) (am_inj hf).symm
  · have hf := (am_if hf).2 hc
    refine r_iconst (v := 0) dX10_layApart_10 rfl ?_
    refine r_istore_n (L' := [some (vR (40, 0, 0)), some (vI x1), some (vI (0 : Int32)), none]) dX10_layApart_11 (by decide) rfl ?_
    refine r_weak (L' := [some (vR (40, 0, 0)), some (vI x1), some (vI (0 : Int32)), none]) (And.intro rfl (And.intro rfl (And.intro rfl trivial))) ?_
    obtain ⟨e3, he4, hf⟩ := am_bind hf
    refine K_X10_layApart_L12  2000 ((0 : Int32), u) _ he4 ?_
    obtain ⟨u5, rfl⟩ : ∃ z, z = e3 := ⟨_, rfl⟩
    show X l _ _ 0 0 false _ kM 0 0 77 [some (vR (40, 0, 0)), some (vI x1), none, none] [] (en u5)
    refine r_iinc (x := x1) (v := x1 + (1 : Int32)) (L' := [some (vR (40, 0, 0)), some (vI (x1 + (1 : Int32))), none, none]) dX10_layApart_77 rfl rfl (lt_b rfl) rfl ?_
    refine r_goto (tgt := 2) dX10_layApart_80 (by decide) ?_
    refine r_weak (L' := [some (vR (40, 0, 0)), some (vI (x1 + (1 : Int32))), none, none]) (And.intro rfl (And.intro rfl trivial)) ?_
    exact k1 (x1 + (1 : Int32), u5) (am_inj hf).symm
def f_X10_layApart_L105  (c1 : Int32) (c2 : Int32) : Int32 × PM → Option ((Int32 × PM) ⊕ (PM)) := fun (x3 , u) =>
  if (u.1 (40, 0, 0) 0) ≤ x3 then
    some (.inr (u))
  else
  if (((6 : Int32) * c2) + x3) < 0 ∨ 36 ≤ (((6 : Int32) * c2) + x3).toNatClampNeg then none else
  if (((6 : Int32) * c2) + c1) < 0 ∨ 36 ≤ (((6 : Int32) * c2) + c1).toNatClampNeg then none else
  if (((6 : Int32) * c1) + x3) < 0 ∨ 36 ≤ (((6 : Int32) * c1) + x3).toNatClampNeg then none else
  (f_X10_min (u.1 (72, 0, 0) ((((6 : Int32) * c2) + x3).toNatClampNeg)) ((u.1 (72, 0, 0) ((((6 : Int32) * c2) + c1).toNatClampNeg)) + (u.1 (72, 0, 0) ((((6 : Int32) * c1) + x3).toNatClampNeg))) u).bind fun r12 =>
  some (.inl (x3 + (1 : Int32), (pi u (72, 0, 0) ((((6 : Int32) * c2) + x3).toNatClampNeg) r12)))
set_option maxHeartbeats 4000000 in
set_option maxRecDepth 20000 in
theorem K_X10_layApart_L105 {l : Launch} {T : Option AV × List Key × AM}  {c1 : Int32} {c2 : Int32} : ∀ (n : Nat) (s : Int32 × PM) (e0 : PM), am_loop (f_X10_layApart_L105 c1 c2) n s = some e0 → (fun e : PM => X l mX10_layApart 2 0 0 false T kM 0 0 168 [some (vR (40, 0, 0)), some (vI c1), some (vI c2), none] [] (en e)) e0 → X l mX10_layApart 2 0 0 false T kM 0 0 105 [some (vR (40, 0, 0)), some (vI c1), some (vI c2), some (vI s.1)] [] (en s.2) := by
  refine am_loop_of ?_
  intro s x hf k1 k2
  obtain ⟨x3 , u⟩ := s
  unfold f_X10_layApart_L105 at hf
  show X l mX10_layApart 2 0 0 false T kM 0 0 105 [some (vR (40, 0, 0)), some (vI c1), some (vI c2), some (vI x3)] [] (en u)
  refine r_iload_n (x := x3) dX10_layApart_105 rfl ?_
  refine r_aload_n (x := (40, 0, 0)) dX10_layApart_106 rfl ?_
  refine e_geti fw_X10_7 dX10_layApart_107 (kM_mem (s := 40) (by decide)) rfl (lt_b rfl) ?_
  refine r_icmp_ge (tgt := 168) dX10_layApart_110 (by decide) (fun hc => ?_) (fun hc => ?_)
  · have hf := (am_if hf).1 hc
    refine r_weak (L' := [some (vR (40, 0, 0)), some (vI c1), some (vI c2), none]) (And.intro rfl (And.intro rfl (And.intro rfl trivial))) ?_
    exact k2 (u) (am_inj hf).symm
  · have hf := (am_if hf).2 hc
    refine r_aload_n (x := (40, 0, 0)) dX10_layApart_113 rfl ?_
    refine e_getr (z := some (72, 0, 0)) fw_X10_159 dX10_layApart_114 (kM_mem (s := 40) (by decide)) rfl (lt_b rfl) rfl ?_
    refine r_bipush (v := 6) dX10_layApart_117 rfl ?_
    refine r_iload_n (x := c2) dX10_layApart_119 rfl ?_
    refine r_imul dX10_layApart_120 ?_
    refine r_iload_n (x := x3) dX10_layApart_121 rfl ?_
    refine r_iadd dX10_layApart_122 ?_
    refine r_aload_n (x := (40, 0, 0)) dX10_layApart_123 rfl ?_
    refine r_aload_n (x := (40, 0, 0)) dX10_layApart_124 rfl ?_
    refine e_getr (z := some (72, 0, 0)) fw_X10_159 dX10_layApart_125 (kM_mem (s := 40) (by decide)) rfl (lt_b rfl) rfl ?_
    refine r_bipush (v := 6) dX10_layApart_128 rfl ?_
    refine r_iload_n (x := c2) dX10_layApart_130 rfl ?_
    refine r_imul dX10_layApart_131 ?_
    refine r_iload_n (x := x3) dX10_layApart_132 rfl ?_
    refine r_iadd dX10_layApart_133 ?_
    obtain ⟨h9, hf⟩ := am_nchk hf
    refine e_iald (n := (((6 : Int32) * c2) + x3).toNatClampNeg) dX10_layApart_134 (kM_mem (s := 72) (by decide)) rfl h9 rfl rfl ?_
    refine r_aload_n (x := (40, 0, 0)) dX10_layApart_135 rfl ?_
    refine e_getr (z := some (72, 0, 0)) fw_X10_159 dX10_layApart_136 (kM_mem (s := 40) (by decide)) rfl (lt_b rfl) rfl ?_
    refine r_bipush (v := 6) dX10_layApart_139 rfl ?_
    refine r_iload_n (x := c2) dX10_layApart_141 rfl ?_
    refine r_imul dX10_layApart_142 ?_
    refine r_iload_n (x := c1) dX10_layApart_143 rfl ?_
    refine r_iadd dX10_layApart_144 ?_
    obtain ⟨h10, hf⟩ := am_nchk hf
    refine e_iald (n := (((6 : Int32) * c2) + c1).toNatClampNeg) dX10_layApart_145 (kM_mem (s := 72) (by decide)) rfl h10 rfl rfl ?_
    refine r_aload_n (x := (40, 0, 0)) dX10_layApart_146 rfl ?_
    refine e_getr (z := some (72, 0, 0)) fw_X10_159 dX10_layApart_147 (kM_mem (s := 40) (by decide)) rfl (lt_b rfl) rfl ?_
    refine r_bipush (v := 6) dX10_layApart_150 rfl ?_
    refine r_iload_n (x := c1) dX10_layApart_152 rfl ?_
    refine r_imul dX10_layApart_153 ?_
    refine r_iload_n (x := x3) dX10_layApart_154 rfl ?_
    refine r_iadd dX10_layApart_155 ?_
    obtain ⟨h11, hf⟩ := am_nchk hf
    refine e_iald (n := (((6 : Int32) * c1) + x3).toNatClampNeg) dX10_layApart_156 (kM_mem (s := 72) (by decide)) rfl h11 rfl rfl ?_
    refine r_iadd dX10_layApart_157 ?_
    obtain ⟨r12, hr13, hf⟩ := am_bind hf
    refine r_callV (as := [vI (u.1 (72, 0, 0) ((((6 : Int32) * c2) + x3).toNatClampNeg)), vI ((u.1 (72, 0, 0) ((((6 : Int32) * c2) + c1).toNatClampNeg)) + (u.1 (72, 0, 0) ((((6 : Int32) * c1) + x3).toNatClampNeg)))]) (st := [vI (((6 : Int32) * c2) + x3), vR (72, 0, 0)]) (n := 2) mw_X10_338 mv_X10_min (C_X10_min (l := l) hr13) (le_b rfl) dX10_layApart_158 (kM_mem (s := 40) (by decide)) rfl rfl rfl (le_b rfl) (le_b rfl) (le_b rfl) ?_
    show X l _ _ 0 0 false _ kM 0 0 161 [some (vR (40, 0, 0)), some (vI c1), some (vI c2), some (vI x3)] [vI r12, vI (((6 : Int32) * c2) + x3), vR (72, 0, 0)] (en u)
    refine e_iast (n := (((6 : Int32) * c2) + x3).toNatClampNeg) dX10_layApart_161 (kM_mem (s := 72) (by decide)) rfl h9 rfl ?_
    refine r_iinc (x := x3) (v := x3 + (1 : Int32)) (L' := [some (vR (40, 0, 0)), some (vI c1), some (vI c2), some (vI (x3 + (1 : Int32)))]) dX10_layApart_162 rfl rfl (lt_b rfl) rfl ?_
    refine r_goto (tgt := 105) dX10_layApart_165 (by decide) ?_
    refine r_weak (L' := [some (vR (40, 0, 0)), some (vI c1), some (vI c2), some (vI (x3 + (1 : Int32)))]) (And.intro rfl (And.intro rfl (And.intro rfl (And.intro rfl trivial)))) ?_
    exact k1 (x3 + (1 : Int32), (pi u (72, 0, 0) ((((6 : Int32) * c2) + x3).toNatClampNeg) r12)) (am_inj hf).symm
def f_X10_layApart_L95  (c1 : Int32) : Int32 × PM → Option ((Int32 × PM) ⊕ (PM)) := fun (x2 , u) =>
  if (u.1 (40, 0, 0) 0) ≤ x2 then
    some (.inr (u))
  else
  (am_loop (f_X10_layApart_L105 c1 x2) 2000 ((0 : Int32), u)).bind fun u16 =>
  some (.inl (x2 + (1 : Int32), u16))
set_option maxHeartbeats 4000000 in
set_option maxRecDepth 20000 in
theorem K_X10_layApart_L95 {l : Launch} {T : Option AV × List Key × AM}  {c1 : Int32} : ∀ (n : Nat) (s : Int32 × PM) (e0 : PM), am_loop (f_X10_layApart_L95 c1) n s = some e0 → (fun e : PM => X l mX10_layApart 2 0 0 false T kM 0 0 174 [some (vR (40, 0, 0)), some (vI c1), none, none] [] (en e)) e0 → X l mX10_layApart 2 0 0 false T kM 0 0 95 [some (vR (40, 0, 0)), some (vI c1), some (vI s.1), none] [] (en s.2) := by
  refine am_loop_of ?_
  intro s x hf k1 k2
  obtain ⟨x2 , u⟩ := s
  unfold f_X10_layApart_L95 at hf
  show X l mX10_layApart 2 0 0 false T kM 0 0 95 [some (vR (40, 0, 0)), some (vI c1), some (vI x2), none] [] (en u)
  refine r_iload_n (x := x2) dX10_layApart_95 rfl ?_
  refine r_aload_n (x := (40, 0, 0)) dX10_layApart_96 rfl ?_
  refine e_geti fw_X10_7 dX10_layApart_97 (kM_mem (s := 40) (by decide)) rfl (lt_b rfl) ?_
  refine r_icmp_ge (tgt := 174) dX10_layApart_100 (by decide) (fun hc => ?_) (fun hc => ?_)
  · have hf := (am_if hf).1 hc
    refine r_weak (L' := [some (vR (40, 0, 0)), some (vI c1), none, none]) (And.intro rfl (And.intro rfl trivial)) ?_
    exact k2 (u) (am_inj hf).symm
  · have hf := (am_if hf).2 hc
    refine r_iconst (v := 0) dX10_layApart_103 rfl ?_
    refine r_istore_n (L' := [some (vR (40, 0, 0)), some (vI c1), some (vI x2), some (vI (0 : Int32))]) dX10_layApart_104 (by decide) rfl ?_
    refine r_weak (L' := [some (vR (40, 0, 0)), some (vI c1), some (vI x2), some (vI (0 : Int32))]) (And.intro rfl (And.intro rfl (And.intro rfl (And.intro rfl trivial)))) ?_
    obtain ⟨e14, he15, hf⟩ := am_bind hf
    refine K_X10_layApart_L105  2000 ((0 : Int32), u) _ he15 ?_
    obtain ⟨u16, rfl⟩ : ∃ z, z = e14 := ⟨_, rfl⟩
    show X l _ _ 0 0 false _ kM 0 0 168 [some (vR (40, 0, 0)), some (vI c1), some (vI x2), none] [] (en u16)
    refine r_iinc (x := x2) (v := x2 + (1 : Int32)) (L' := [some (vR (40, 0, 0)), some (vI c1), some (vI (x2 + (1 : Int32))), none]) dX10_layApart_168 rfl rfl (lt_b rfl) rfl ?_
    refine r_goto (tgt := 95) dX10_layApart_171 (by decide) ?_
    refine r_weak (L' := [some (vR (40, 0, 0)), some (vI c1), some (vI (x2 + (1 : Int32))), none]) (And.intro rfl (And.intro rfl (And.intro rfl trivial))) ?_
    exact k1 (x2 + (1 : Int32), u16) (am_inj hf).symm
def f_X10_layApart_L85   : Int32 × PM → Option ((Int32 × PM) ⊕ (PM)) := fun (x1 , u) =>
  if (u.1 (40, 0, 0) 0) ≤ x1 then
    some (.inr (u))
  else
  (am_loop (f_X10_layApart_L95 x1) 2000 ((0 : Int32), u)).bind fun u19 =>
  some (.inl (x1 + (1 : Int32), u19))
set_option maxHeartbeats 4000000 in
set_option maxRecDepth 20000 in
theorem K_X10_layApart_L85 {l : Launch} {T : Option AV × List Key × AM}   : ∀ (n : Nat) (s : Int32 × PM) (e0 : PM), am_loop (f_X10_layApart_L85) n s = some e0 → (fun e : PM => X l mX10_layApart 2 0 0 false T kM 0 0 180 [none, none, none, none] [] (en e)) e0 → X l mX10_layApart 2 0 0 false T kM 0 0 85 [some (vR (40, 0, 0)), some (vI s.1), none, none] [] (en s.2) := by
  refine am_loop_of ?_
  intro s x hf k1 k2
  obtain ⟨x1 , u⟩ := s
  unfold f_X10_layApart_L85 at hf
  show X l mX10_layApart 2 0 0 false T kM 0 0 85 [some (vR (40, 0, 0)), some (vI x1), none, none] [] (en u)
  refine r_iload_n (x := x1) dX10_layApart_85 rfl ?_
  refine r_aload_n (x := (40, 0, 0)) dX10_layApart_86 rfl ?_
  refine e_geti fw_X10_7 dX10_layApart_87 (kM_mem (s := 40) (by decide)) rfl (lt_b rfl) ?_
  refine r_icmp_ge (tgt := 180) dX10_layApart_90 (by decide) (fun hc => ?_) (fun hc => ?_)
  · have hf := (am_if hf).1 hc
    refine r_weak (L' := [none, none, none, none]) trivial ?_
    exact k2 (u) (am_inj hf).symm
  · have hf := (am_if hf).2 hc
    refine r_iconst (v := 0) dX10_layApart_93 rfl ?_
    refine r_istore_n (L' := [some (vR (40, 0, 0)), some (vI x1), some (vI (0 : Int32)), none]) dX10_layApart_94 (by decide) rfl ?_
    refine r_weak (L' := [some (vR (40, 0, 0)), some (vI x1), some (vI (0 : Int32)), none]) (And.intro rfl (And.intro rfl (And.intro rfl trivial))) ?_
    obtain ⟨e17, he18, hf⟩ := am_bind hf
    refine K_X10_layApart_L95  2000 ((0 : Int32), u) _ he18 ?_
    obtain ⟨u19, rfl⟩ : ∃ z, z = e17 := ⟨_, rfl⟩
    show X l _ _ 0 0 false _ kM 0 0 174 [some (vR (40, 0, 0)), some (vI x1), none, none] [] (en u19)
    refine r_iinc (x := x1) (v := x1 + (1 : Int32)) (L' := [some (vR (40, 0, 0)), some (vI (x1 + (1 : Int32))), none, none]) dX10_layApart_174 rfl rfl (lt_b rfl) rfl ?_
    refine r_goto (tgt := 85) dX10_layApart_177 (by decide) ?_
    refine r_weak (L' := [some (vR (40, 0, 0)), some (vI (x1 + (1 : Int32))), none, none]) (And.intro rfl (And.intro rfl trivial)) ?_
    exact k1 (x1 + (1 : Int32), u19) (am_inj hf).symm
def f_X10_layApart   (u : PM) : Option (PM) :=
  (am_loop (f_X10_layApart_L2) 2000 ((0 : Int32), u)).bind fun u8 =>
  (am_loop (f_X10_layApart_L85) 2000 ((0 : Int32), u8)).bind fun u22 =>
  some u22
set_option maxHeartbeats 4000000 in
set_option maxRecDepth 20000 in
theorem C_X10_layApart {l : Launch}   {u : PM} {x : PM} (hf : f_X10_layApart u = some x) : Ev l mX10_layApart 2 0 0 false [vR (40, 0, 0)] kM (en u) (none, kM, en x) := by
  refine Ev_of (by decide +kernel) (le_b rfl) ?_
  unfold f_X10_layApart at hf
  show X l mX10_layApart 2 0 0 false _ kM 0 0 0 [some (vR (40, 0, 0)), none, none, none] [] (en u)
  refine r_iconst (v := 0) dX10_layApart_0 rfl ?_
  refine r_istore_n (L' := [some (vR (40, 0, 0)), some (vI (0 : Int32)), none, none]) dX10_layApart_1 (by decide) rfl ?_
  refine r_weak (L' := [some (vR (40, 0, 0)), some (vI (0 : Int32)), none, none]) (And.intro rfl (And.intro rfl trivial)) ?_
  obtain ⟨e6, he7, hf⟩ := am_bind hf
  refine K_X10_layApart_L2  2000 ((0 : Int32), u) _ he7 ?_
  obtain ⟨u8, rfl⟩ : ∃ z, z = e6 := ⟨_, rfl⟩
  show X l _ _ 0 0 false _ kM 0 0 83 [some (vR (40, 0, 0)), none, none, none] [] (en u8)
  refine r_iconst (v := 0) dX10_layApart_83 rfl ?_
  refine r_istore_n (L' := [some (vR (40, 0, 0)), some (vI (0 : Int32)), none, none]) dX10_layApart_84 (by decide) rfl ?_
  refine r_weak (L' := [some (vR (40, 0, 0)), some (vI (0 : Int32)), none, none]) (And.intro rfl (And.intro rfl trivial)) ?_
  obtain ⟨e20, he21, hf⟩ := am_bind hf
  refine K_X10_layApart_L85  2000 ((0 : Int32), u8) _ he21 ?_
  obtain ⟨u22, rfl⟩ : ∃ z, z = e20 := ⟨_, rfl⟩
  show X l _ _ 0 0 false _ kM 0 0 180 [none, none, none, none] [] (en u22)
  have hx := am_inj hf
  subst hx
  exact r_vret dX10_layApart_180 rfl (le_b rfl) (le_b rfl)
/-! FireFromFireModel.nearest -/
theorem dX10_nearest_0 : decode cX10_nearest 0 = .ok (.sipush 1000, 3) := by decide +kernel
theorem dX10_nearest_3 : decode cX10_nearest 3 = .ok (.istore_n 3, 1) := by decide +kernel
theorem dX10_nearest_4 : decode cX10_nearest 4 = .ok (.iconst 0, 1) := by decide +kernel
theorem dX10_nearest_5 : decode cX10_nearest 5 = .ok (.istore 4, 2) := by decide +kernel
theorem dX10_nearest_7 : decode cX10_nearest 7 = .ok (.iload 4, 2) := by decide +kernel
theorem dX10_nearest_9 : decode cX10_nearest 9 = .ok (.aload_n 0, 1) := by decide +kernel
theorem dX10_nearest_10 : decode cX10_nearest 10 = .ok (.getfield 7, 3) := by decide +kernel
theorem dX10_nearest_13 : decode cX10_nearest 13 = .ok (.if_icmp .ge 41, 3) := by decide +kernel
theorem dX10_nearest_16 : decode cX10_nearest 16 = .ok (.aload_n 0, 1) := by decide +kernel
theorem dX10_nearest_17 : decode cX10_nearest 17 = .ok (.iload_n 2, 1) := by decide +kernel
theorem dX10_nearest_18 : decode cX10_nearest 18 = .ok (.iload 4, 2) := by decide +kernel
theorem dX10_nearest_20 : decode cX10_nearest 20 = .ok (.invokevirtual 275, 3) := by decide +kernel
theorem dX10_nearest_23 : decode cX10_nearest 23 = .ok (.ifCond .eq 23, 3) := by decide +kernel
theorem dX10_nearest_26 : decode cX10_nearest 26 = .ok (.aload_n 0, 1) := by decide +kernel
theorem dX10_nearest_27 : decode cX10_nearest 27 = .ok (.iload_n 3, 1) := by decide +kernel
theorem dX10_nearest_28 : decode cX10_nearest 28 = .ok (.aload_n 0, 1) := by decide +kernel
theorem dX10_nearest_29 : decode cX10_nearest 29 = .ok (.getfield 159, 3) := by decide +kernel
theorem dX10_nearest_32 : decode cX10_nearest 32 = .ok (.bipush 6, 2) := by decide +kernel
theorem dX10_nearest_34 : decode cX10_nearest 34 = .ok (.iload_n 1, 1) := by decide +kernel
theorem dX10_nearest_35 : decode cX10_nearest 35 = .ok (.imul, 1) := by decide +kernel
theorem dX10_nearest_36 : decode cX10_nearest 36 = .ok (.iload 4, 2) := by decide +kernel
theorem dX10_nearest_38 : decode cX10_nearest 38 = .ok (.iadd, 1) := by decide +kernel
theorem dX10_nearest_39 : decode cX10_nearest 39 = .ok (.iaload, 1) := by decide +kernel
theorem dX10_nearest_40 : decode cX10_nearest 40 = .ok (.invokevirtual 338, 3) := by decide +kernel
theorem dX10_nearest_43 : decode cX10_nearest 43 = .ok (.goto 4, 3) := by decide +kernel
theorem dX10_nearest_46 : decode cX10_nearest 46 = .ok (.iload_n 3, 1) := by decide +kernel
theorem dX10_nearest_47 : decode cX10_nearest 47 = .ok (.istore_n 3, 1) := by decide +kernel
theorem dX10_nearest_48 : decode cX10_nearest 48 = .ok (.iinc 4 1, 3) := by decide +kernel
theorem dX10_nearest_51 : decode cX10_nearest 51 = .ok (.goto (-44), 3) := by decide +kernel
theorem dX10_nearest_54 : decode cX10_nearest 54 = .ok (.iload_n 3, 1) := by decide +kernel
theorem dX10_nearest_55 : decode cX10_nearest 55 = .ok (.ireturn, 1) := by decide +kernel
def f_X10_nearest_L7  (c1 : Int32) (c2 : Int32) (u : PM) : Int32 × Int32 → Option ((Int32 × Int32) ⊕ (Int32)) := fun (x3 , x4) =>
  if (u.1 (40, 0, 0) 0) ≤ x4 then
    some (.inr (x3))
  else
  (f_X10_has c2 x4 u).bind fun r1 =>
  if r1 = 0 then
    some (.inl (x3, x4 + (1 : Int32)))
  else
  if (((6 : Int32) * c1) + x4) < 0 ∨ 36 ≤ (((6 : Int32) * c1) + x4).toNatClampNeg then none else
  (f_X10_min x3 (u.1 (72, 0, 0) ((((6 : Int32) * c1) + x4).toNatClampNeg)) u).bind fun r4 =>
  some (.inl (r4, x4 + (1 : Int32)))
set_option maxHeartbeats 4000000 in
set_option maxRecDepth 20000 in
theorem K_X10_nearest_L7 {l : Launch} {T : Option AV × List Key × AM}  {c1 : Int32} {c2 : Int32} {u : PM} : ∀ (n : Nat) (s : Int32 × Int32) (e0 : Int32), am_loop (f_X10_nearest_L7 c1 c2 u) n s = some e0 → (fun e : Int32 => X l mX10_nearest 2 0 0 false T kM 0 0 54 [none, none, none, some (vI e), none] [] (en u)) e0 → X l mX10_nearest 2 0 0 false T kM 0 0 7 [some (vR (40, 0, 0)), some (vI c1), some (vI c2), some (vI s.1), some (vI s.2)] [] (en u) := by
  refine am_loop_of ?_
  intro s x hf k1 k2
  obtain ⟨x3 , x4⟩ := s
  unfold f_X10_nearest_L7 at hf
  show X l mX10_nearest 2 0 0 false T kM 0 0 7 [some (vR (40, 0, 0)), some (vI c1), some (vI c2), some (vI x3), some (vI x4)] [] (en u)
  refine r_iload (x := x4) dX10_nearest_7 rfl ?_
  refine r_aload_n (x := (40, 0, 0)) dX10_nearest_9 rfl ?_
  refine e_geti fw_X10_7 dX10_nearest_10 (kM_mem (s := 40) (by decide)) rfl (lt_b rfl) ?_
  refine r_icmp_ge (tgt := 54) dX10_nearest_13 (by decide) (fun hc => ?_) (fun hc => ?_)
  · have hf := (am_if hf).1 hc
    refine r_weak (L' := [none, none, none, some (vI x3), none]) (And.intro rfl trivial) ?_
    exact k2 (x3) (am_inj hf).symm
  · have hf := (am_if hf).2 hc
    refine r_aload_n (x := (40, 0, 0)) dX10_nearest_16 rfl ?_
    refine r_iload_n (x := c2) dX10_nearest_17 rfl ?_
    refine r_iload (x := x4) dX10_nearest_18 rfl ?_
    obtain ⟨r1, hr2, hf⟩ := am_bind hf
    refine r_callV (as := [vI c2, vI x4]) (st := []) (n := 2) mw_X10_275 mv_X10_has (C_X10_has (l := l) hr2) (le_b rfl) dX10_nearest_20 (kM_mem (s := 40) (by decide)) rfl rfl rfl (le_b rfl) (le_b rfl) (le_b rfl) ?_
    show X l _ _ 0 0 false _ kM 0 0 23 [some (vR (40, 0, 0)), some (vI c1), some (vI c2), some (vI x3), some (vI x4)] [vI r1] (en u)
    refine r_if_eq (tgt := 46) dX10_nearest_23 (by decide) (fun hc => ?_) (fun hc => ?_)
    · have hf := (am_if hf).1 hc
      refine r_iload_n (x := x3) dX10_nearest_46 rfl ?_
      refine r_istore_n (L' := [some (vR (40, 0, 0)), some (vI c1), some (vI c2), some (vI x3), some (vI x4)]) dX10_nearest_47 (by decide) rfl ?_
      refine r_iinc (x := x4) (v := x4 + (1 : Int32)) (L' := [some (vR (40, 0, 0)), some (vI c1), some (vI c2), some (vI x3), some (vI (x4 + (1 : Int32)))]) dX10_nearest_48 rfl rfl (lt_b rfl) rfl ?_
      refine r_goto (tgt := 7) dX10_nearest_51 (by decide) ?_
      refine r_weak (L' := [some (vR (40, 0, 0)), some (vI c1), some (vI c2), some (vI x3), some (vI (x4 + (1 : Int32)))]) (And.intro rfl (And.intro rfl (And.intro rfl (And.intro rfl (And.intro rfl trivial))))) ?_
      exact k1 (x3, x4 + (1 : Int32)) (am_inj hf).symm
    · have hf := (am_if hf).2 hc
      refine r_aload_n (x := (40, 0, 0)) dX10_nearest_26 rfl ?_
      refine r_iload_n (x := x3) dX10_nearest_27 rfl ?_
      refine r_aload_n (x := (40, 0, 0)) dX10_nearest_28 rfl ?_
      refine e_getr (z := some (72, 0, 0)) fw_X10_159 dX10_nearest_29 (kM_mem (s := 40) (by decide)) rfl (lt_b rfl) rfl ?_
      refine r_bipush (v := 6) dX10_nearest_32 rfl ?_
      refine r_iload_n (x := c1) dX10_nearest_34 rfl ?_
      refine r_imul dX10_nearest_35 ?_
      refine r_iload (x := x4) dX10_nearest_36 rfl ?_
      refine r_iadd dX10_nearest_38 ?_
      obtain ⟨h3, hf⟩ := am_nchk hf
      refine e_iald (n := (((6 : Int32) * c1) + x4).toNatClampNeg) dX10_nearest_39 (kM_mem (s := 72) (by decide)) rfl h3 rfl rfl ?_
      obtain ⟨r4, hr5, hf⟩ := am_bind hf
      refine r_callV (as := [vI x3, vI (u.1 (72, 0, 0) ((((6 : Int32) * c1) + x4).toNatClampNeg))]) (st := []) (n := 2) mw_X10_338 mv_X10_min (C_X10_min (l := l) hr5) (le_b rfl) dX10_nearest_40 (kM_mem (s := 40) (by decide)) rfl rfl rfl (le_b rfl) (le_b rfl) (le_b rfl) ?_
      show X l _ _ 0 0 false _ kM 0 0 43 [some (vR (40, 0, 0)), some (vI c1), some (vI c2), some (vI x3), some (vI x4)] [vI r4] (en u)
      refine r_goto (tgt := 47) dX10_nearest_43 (by decide) ?_
      refine r_istore_n (L' := [some (vR (40, 0, 0)), some (vI c1), some (vI c2), some (vI r4), some (vI x4)]) dX10_nearest_47 (by decide) rfl ?_
      refine r_iinc (x := x4) (v := x4 + (1 : Int32)) (L' := [some (vR (40, 0, 0)), some (vI c1), some (vI c2), some (vI r4), some (vI (x4 + (1 : Int32)))]) dX10_nearest_48 rfl rfl (lt_b rfl) rfl ?_
      refine r_goto (tgt := 7) dX10_nearest_51 (by decide) ?_
      refine r_weak (L' := [some (vR (40, 0, 0)), some (vI c1), some (vI c2), some (vI r4), some (vI (x4 + (1 : Int32)))]) (And.intro rfl (And.intro rfl (And.intro rfl (And.intro rfl (And.intro rfl trivial))))) ?_
      exact k1 (r4, x4 + (1 : Int32)) (am_inj hf).symm
def f_X10_nearest  (a0 : Int32) (a1 : Int32) (u : PM) : Option (Int32) :=
  (am_loop (f_X10_nearest_L7 a0 a1 u) 2000 ((1000 : Int32), (0 : Int32))).bind fun y8 =>
  some y8
set_option maxHeartbeats 4000000 in
set_option maxRecDepth 20000 in
theorem C_X10_nearest {l : Launch}  {a0 : Int32} {a1 : Int32} {u : PM} {x : Int32} (hf : f_X10_nearest a0 a1 u = some x) : Ev l mX10_nearest 2 0 0 false [vR (40, 0, 0), vI a0, vI a1] kM (en u) (some (vI x), kM, en u) := by
  refine Ev_of (by decide +kernel) (le_b rfl) ?_
  unfold f_X10_nearest at hf
  show X l mX10_nearest 2 0 0 false _ kM 0 0 0 [some (vR (40, 0, 0)), some (vI a0), some (vI a1), none, none] [] (en u)
  refine r_sipush (v := 1000) dX10_nearest_0 rfl ?_
  refine r_istore_n (L' := [some (vR (40, 0, 0)), some (vI a0), some (vI a1), some (vI (1000 : Int32)), none]) dX10_nearest_3 (by decide) rfl ?_
  refine r_iconst (v := 0) dX10_nearest_4 rfl ?_
  refine r_istore (L' := [some (vR (40, 0, 0)), some (vI a0), some (vI a1), some (vI (1000 : Int32)), some (vI (0 : Int32))]) dX10_nearest_5 (by decide) rfl ?_
  refine r_weak (L' := [some (vR (40, 0, 0)), some (vI a0), some (vI a1), some (vI (1000 : Int32)), some (vI (0 : Int32))]) (And.intro rfl (And.intro rfl (And.intro rfl (And.intro rfl (And.intro rfl trivial))))) ?_
  obtain ⟨e6, he7, hf⟩ := am_bind hf
  refine K_X10_nearest_L7  2000 ((1000 : Int32), (0 : Int32)) _ he7 ?_
  obtain ⟨y8, rfl⟩ : ∃ z, z = e6 := ⟨_, rfl⟩
  show X l _ _ 0 0 false _ kM 0 0 54 [none, none, none, some (vI y8), none] [] (en u)
  refine r_iload_n (x := y8) dX10_nearest_54 rfl ?_
  have hx := am_inj hf
  subst hx
  exact r_iret dX10_nearest_55 rfl rfl (le_b rfl) (le_b rfl)
/-! FireFromFireModel.quickest -/
theorem dX10_quickest_0 : decode cX10_quickest 0 = .ok (.aload_n 0, 1) := by decide +kernel
theorem dX10_quickest_1 : decode cX10_quickest 1 = .ok (.iload_n 1, 1) := by decide +kernel
theorem dX10_quickest_2 : decode cX10_quickest 2 = .ok (.invokevirtual 271, 3) := by decide +kernel
theorem dX10_quickest_5 : decode cX10_quickest 5 = .ok (.ifCond .eq 13, 3) := by decide +kernel
theorem dX10_quickest_8 : decode cX10_quickest 8 = .ok (.aload_n 0, 1) := by decide +kernel
theorem dX10_quickest_9 : decode cX10_quickest 9 = .ok (.iload_n 2, 1) := by decide +kernel
theorem dX10_quickest_10 : decode cX10_quickest 10 = .ok (.iconst 0, 1) := by decide +kernel
theorem dX10_quickest_11 : decode cX10_quickest 11 = .ok (.iconst 1, 1) := by decide +kernel
theorem dX10_quickest_12 : decode cX10_quickest 12 = .ok (.invokevirtual 267, 3) := by decide +kernel
theorem dX10_quickest_15 : decode cX10_quickest 15 = .ok (.ifCond .ne 5, 3) := by decide +kernel
theorem dX10_quickest_18 : decode cX10_quickest 18 = .ok (.iconst (-1), 1) := by decide +kernel
theorem dX10_quickest_19 : decode cX10_quickest 19 = .ok (.ireturn, 1) := by decide +kernel
theorem dX10_quickest_20 : decode cX10_quickest 20 = .ok (.aload_n 0, 1) := by decide +kernel
theorem dX10_quickest_21 : decode cX10_quickest 21 = .ok (.invokevirtual 396, 3) := by decide +kernel
theorem dX10_quickest_24 : decode cX10_quickest 24 = .ok (.aload_n 0, 1) := by decide +kernel
theorem dX10_quickest_25 : decode cX10_quickest 25 = .ok (.iload_n 1, 1) := by decide +kernel
theorem dX10_quickest_26 : decode cX10_quickest 26 = .ok (.aload_n 0, 1) := by decide +kernel
theorem dX10_quickest_27 : decode cX10_quickest 27 = .ok (.getfield 13, 3) := by decide +kernel
theorem dX10_quickest_30 : decode cX10_quickest 30 = .ok (.invokevirtual 399, 3) := by decide +kernel
theorem dX10_quickest_33 : decode cX10_quickest 33 = .ok (.istore_n 3, 1) := by decide +kernel
theorem dX10_quickest_34 : decode cX10_quickest 34 = .ok (.iload_n 3, 1) := by decide +kernel
theorem dX10_quickest_35 : decode cX10_quickest 35 = .ok (.sipush 1000, 3) := by decide +kernel
theorem dX10_quickest_38 : decode cX10_quickest 38 = .ok (.if_icmp .lt 14, 3) := by decide +kernel
theorem dX10_quickest_41 : decode cX10_quickest 41 = .ok (.iload_n 2, 1) := by decide +kernel
theorem dX10_quickest_42 : decode cX10_quickest 42 = .ok (.ifCond .ne 8, 3) := by decide +kernel
theorem dX10_quickest_45 : decode cX10_quickest 45 = .ok (.bipush (-5), 2) := by decide +kernel
theorem dX10_quickest_47 : decode cX10_quickest 47 = .ok (.goto 4, 3) := by decide +kernel
theorem dX10_quickest_50 : decode cX10_quickest 50 = .ok (.iconst 0, 1) := by decide +kernel
theorem dX10_quickest_51 : decode cX10_quickest 51 = .ok (.ireturn, 1) := by decide +kernel
theorem dX10_quickest_52 : decode cX10_quickest 52 = .ok (.aload_n 0, 1) := by decide +kernel
theorem dX10_quickest_53 : decode cX10_quickest 53 = .ok (.invokevirtual 361, 3) := by decide +kernel
theorem dX10_quickest_56 : decode cX10_quickest 56 = .ok (.iload_n 2, 1) := by decide +kernel
theorem dX10_quickest_57 : decode cX10_quickest 57 = .ok (.ifCond .ne 7, 3) := by decide +kernel
theorem dX10_quickest_60 : decode cX10_quickest 60 = .ok (.iload_n 3, 1) := by decide +kernel
theorem dX10_quickest_61 : decode cX10_quickest 61 = .ok (.goto 22, 3) := by decide +kernel
theorem dX10_quickest_64 : decode cX10_quickest 64 = .ok (.aload_n 0, 1) := by decide +kernel
theorem dX10_quickest_65 : decode cX10_quickest 65 = .ok (.iconst 2, 1) := by decide +kernel
theorem dX10_quickest_66 : decode cX10_quickest 66 = .ok (.iload_n 1, 1) := by decide +kernel
theorem dX10_quickest_67 : decode cX10_quickest 67 = .ok (.aload_n 0, 1) := by decide +kernel
theorem dX10_quickest_68 : decode cX10_quickest 68 = .ok (.getfield 19, 3) := by decide +kernel
theorem dX10_quickest_71 : decode cX10_quickest 71 = .ok (.invokevirtual 364, 3) := by decide +kernel
theorem dX10_quickest_74 : decode cX10_quickest 74 = .ok (.iload_n 3, 1) := by decide +kernel
theorem dX10_quickest_75 : decode cX10_quickest 75 = .ok (.if_icmp .lt 7, 3) := by decide +kernel
theorem dX10_quickest_78 : decode cX10_quickest 78 = .ok (.iconst 1, 1) := by decide +kernel
theorem dX10_quickest_79 : decode cX10_quickest 79 = .ok (.goto 4, 3) := by decide +kernel
theorem dX10_quickest_82 : decode cX10_quickest 82 = .ok (.iconst 0, 1) := by decide +kernel
theorem dX10_quickest_83 : decode cX10_quickest 83 = .ok (.ireturn, 1) := by decide +kernel
def f_X10_quickest  (a0 : Int32) (a1 : Int32) (u : PM) : Option (Int32 × PM) :=
  (f_X10_isHouse a0 u).bind fun r1 =>
  if r1 = 0 then
    some ((-1 : Int32), u)
  else
  (f_X10_in a1 (0 : Int32) (1 : Int32) u).bind fun r3 =>
  if r3 = 0 then
    some ((-1 : Int32), u)
  else
  (f_X10_layApart u).bind fun r5 =>
  (f_X10_nearest a0 (r5.1 (40, 0, 0) 1) r5).bind fun r7 =>
  if r7 < (1000 : Int32) then
    (f_X10_asIs r5).bind fun r9 =>
    if a1 = 0 then
      some (r7, r9)
    else
    (f_X10_sumOf (2 : Int32) a0 (r9.1 (40, 0, 0) 3) r9).bind fun (r11, u13) =>
    if r11 < r7 then
      some ((0 : Int32), u13)
    else
    some ((1 : Int32), u13)
  else
  if a1 = 0 then
    some ((-5 : Int32), r5)
  else
  some ((0 : Int32), r5)
set_option maxHeartbeats 4000000 in
set_option maxRecDepth 20000 in
theorem C_X10_quickest {l : Launch}  {a0 : Int32} {a1 : Int32} {u : PM} {x : Int32 × PM} (hf : f_X10_quickest a0 a1 u = some x) : Ev l mX10_quickest 5 0 0 false [vR (40, 0, 0), vI a0, vI a1] kM (en u) (some (vI x.1), kM, en x.2) := by
  refine Ev_of (by decide +kernel) (le_b rfl) ?_
  unfold f_X10_quickest at hf
  show X l mX10_quickest 5 0 0 false _ kM 0 0 0 [some (vR (40, 0, 0)), some (vI a0), some (vI a1), none] [] (en u)
  refine r_aload_n (x := (40, 0, 0)) dX10_quickest_0 rfl ?_
  refine r_iload_n (x := a0) dX10_quickest_1 rfl ?_
  obtain ⟨r1, hr2, hf⟩ := am_bind hf
  refine r_callV (as := [vI a0]) (st := []) (n := 1) mw_X10_271 mv_X10_isHouse (C_X10_isHouse (l := l) hr2) (le_b rfl) dX10_quickest_2 (kM_mem (s := 40) (by decide)) rfl rfl rfl (le_b rfl) (le_b rfl) (le_b rfl) ?_
  show X l _ _ 0 0 false _ kM 0 0 5 [some (vR (40, 0, 0)), some (vI a0), some (vI a1), none] [vI r1] (en u)
  refine r_if_eq (tgt := 18) dX10_quickest_5 (by decide) (fun hc => ?_) (fun hc => ?_)
  · have hf := (am_if hf).1 hc
    refine r_iconst (v := -1) dX10_quickest_18 rfl ?_
    have hx := am_inj hf
    subst hx
    exact r_iret dX10_quickest_19 rfl rfl (le_b rfl) (le_b rfl)
  · have hf := (am_if hf).2 hc
    refine r_aload_n (x := (40, 0, 0)) dX10_quickest_8 rfl ?_
    refine r_iload_n (x := a1) dX10_quickest_9 rfl ?_
    refine r_iconst (v := 0) dX10_quickest_10 rfl ?_
    refine r_iconst (v := 1) dX10_quickest_11 rfl ?_
    obtain ⟨r3, hr4, hf⟩ := am_bind hf
    refine r_callV (as := [vI a1, vI (0 : Int32), vI (1 : Int32)]) (st := []) (n := 3) mw_X10_267 mv_X10_in (C_X10_in (l := l) hr4) (le_b rfl) dX10_quickest_12 (kM_mem (s := 40) (by decide)) rfl rfl rfl (le_b rfl) (le_b rfl) (le_b rfl) ?_
    show X l _ _ 0 0 false _ kM 0 0 15 [some (vR (40, 0, 0)), some (vI a0), some (vI a1), none] [vI r3] (en u)
    refine r_if_ne (tgt := 20) dX10_quickest_15 (by decide) (fun hc => ?_) (fun hc => ?_)
    · have hf := (am_if hf).2 hc
      refine r_aload_n (x := (40, 0, 0)) dX10_quickest_20 rfl ?_
      obtain ⟨r5, hr6, hf⟩ := am_bind hf
      refine r_callV (as := []) (st := []) (n := 0) mw_X10_396 mv_X10_layApart (C_X10_layApart (l := l) hr6) (le_b rfl) dX10_quickest_21 (kM_mem (s := 40) (by decide)) rfl rfl rfl (le_b rfl) (le_b rfl) (le_b rfl) ?_
      show X l _ _ 0 0 false _ kM 0 0 24 [some (vR (40, 0, 0)), some (vI a0), some (vI a1), none] [] (en r5)
      refine r_aload_n (x := (40, 0, 0)) dX10_quickest_24 rfl ?_
      refine r_iload_n (x := a0) dX10_quickest_25 rfl ?_
      refine r_aload_n (x := (40, 0, 0)) dX10_quickest_26 rfl ?_
      refine e_geti fw_X10_13 dX10_quickest_27 (kM_mem (s := 40) (by decide)) rfl (lt_b rfl) ?_
      obtain ⟨r7, hr8, hf⟩ := am_bind hf
      refine r_callV (as := [vI a0, vI (r5.1 (40, 0, 0) 1)]) (st := []) (n := 2) mw_X10_399 mv_X10_nearest (C_X10_nearest (l := l) hr8) (le_b rfl) dX10_quickest_30 (kM_mem (s := 40) (by decide)) rfl rfl rfl (le_b rfl) (le_b rfl) (le_b rfl) ?_
      show X l _ _ 0 0 false _ kM 0 0 33 [some (vR (40, 0, 0)), some (vI a0), some (vI a1), none] [vI r7] (en r5)
      refine r_istore_n (L' := [some (vR (40, 0, 0)), some (vI a0), some (vI a1), some (vI r7)]) dX10_quickest_33 (by decide) rfl ?_
      refine r_iload_n (x := r7) dX10_quickest_34 rfl ?_
      refine r_sipush (v := 1000) dX10_quickest_35 rfl ?_
      refine r_icmp_lt (tgt := 52) dX10_quickest_38 (by decide) (fun hc => ?_) (fun hc => ?_)
      · have hf := (am_if hf).1 hc
        refine r_aload_n (x := (40, 0, 0)) dX10_quickest_52 rfl ?_
        obtain ⟨r9, hr10, hf⟩ := am_bind hf
        refine r_callV (as := []) (st := []) (n := 0) mw_X10_361 mv_X10_asIs (C_X10_asIs (l := l) hr10) (le_b rfl) dX10_quickest_53 (kM_mem (s := 40) (by decide)) rfl rfl rfl (le_b rfl) (le_b rfl) (le_b rfl) ?_
        show X l _ _ 0 0 false _ kM 0 0 56 [some (vR (40, 0, 0)), some (vI a0), some (vI a1), some (vI r7)] [] (en r9)
        refine r_iload_n (x := a1) dX10_quickest_56 rfl ?_
        refine r_if_ne (tgt := 64) dX10_quickest_57 (by decide) (fun hc => ?_) (fun hc => ?_)
        · have hf := (am_if hf).2 hc
          refine r_aload_n (x := (40, 0, 0)) dX10_quickest_64 rfl ?_
          refine r_iconst (v := 2) dX10_quickest_65 rfl ?_
          refine r_iload_n (x := a0) dX10_quickest_66 rfl ?_
          refine r_aload_n (x := (40, 0, 0)) dX10_quickest_67 rfl ?_
          refine e_geti fw_X10_19 dX10_quickest_68 (kM_mem (s := 40) (by decide)) rfl (lt_b rfl) ?_
          obtain ⟨⟨r11, u13⟩, hr12, hf⟩ := am_bind hf
          refine r_callV (as := [vI (2 : Int32), vI a0, vI (r9.1 (40, 0, 0) 3)]) (st := []) (n := 3) mw_X10_364 mv_X10_sumOf (C_X10_sumOf (l := l) hr12) (le_b rfl) dX10_quickest_71 (kM_mem (s := 40) (by decide)) rfl rfl rfl (le_b rfl) (le_b rfl) (le_b rfl) ?_
          show X l _ _ 0 0 false _ kM 0 0 74 [some (vR (40, 0, 0)), some (vI a0), some (vI a1), some (vI r7)] [vI r11] (en u13)
          refine r_iload_n (x := r7) dX10_quickest_74 rfl ?_
          refine r_icmp_lt (tgt := 82) dX10_quickest_75 (by decide) (fun hc => ?_) (fun hc => ?_)
          · have hf := (am_if hf).1 hc
            refine r_iconst (v := 0) dX10_quickest_82 rfl ?_
            have hx := am_inj hf
            subst hx
            exact r_iret dX10_quickest_83 rfl rfl (le_b rfl) (le_b rfl)
          · have hf := (am_if hf).2 hc
            refine r_iconst (v := 1) dX10_quickest_78 rfl ?_
            refine r_goto (tgt := 83) dX10_quickest_79 (by decide) ?_
            have hx := am_inj hf
            subst hx
            exact r_iret dX10_quickest_83 rfl rfl (le_b rfl) (le_b rfl)
        · have hf := (am_if hf).1 hc
          refine r_iload_n (x := r7) dX10_quickest_60 rfl ?_
          refine r_goto (tgt := 83) dX10_quickest_61 (by decide) ?_
          have hx := am_inj hf
          subst hx
          exact r_iret dX10_quickest_83 rfl rfl (le_b rfl) (le_b rfl)
      · have hf := (am_if hf).2 hc
        refine r_iload_n (x := a1) dX10_quickest_41 rfl ?_
        refine r_if_ne (tgt := 50) dX10_quickest_42 (by decide) (fun hc => ?_) (fun hc => ?_)
        · have hf := (am_if hf).2 hc
          refine r_iconst (v := 0) dX10_quickest_50 rfl ?_
          have hx := am_inj hf
          subst hx
          exact r_iret dX10_quickest_51 rfl rfl (le_b rfl) (le_b rfl)
        · have hf := (am_if hf).1 hc
          refine r_bipush (v := -5) dX10_quickest_45 rfl ?_
          refine r_goto (tgt := 51) dX10_quickest_47 (by decide) ?_
          have hx := am_inj hf
          subst hx
          exact r_iret dX10_quickest_51 rfl rfl (le_b rfl) (le_b rfl)
    · have hf := (am_if hf).1 hc
      refine r_iconst (v := -1) dX10_quickest_18 rfl ?_
      have hx := am_inj hf
      subst hx
      exact r_iret dX10_quickest_19 rfl rfl (le_b rfl) (le_b rfl)
/-! FireFromFireModel.where -/
theorem dX10_where_0 : decode cX10_where 0 = .ok (.aload_n 0, 1) := by decide +kernel
theorem dX10_where_1 : decode cX10_where 1 = .ok (.iload_n 1, 1) := by decide +kernel
theorem dX10_where_2 : decode cX10_where 2 = .ok (.iconst 0, 1) := by decide +kernel
theorem dX10_where_3 : decode cX10_where 3 = .ok (.bipush 40, 2) := by decide +kernel
theorem dX10_where_5 : decode cX10_where 5 = .ok (.invokevirtual 267, 3) := by decide +kernel
theorem dX10_where_8 : decode cX10_where 8 = .ok (.ifCond .ne 6, 3) := by decide +kernel
theorem dX10_where_11 : decode cX10_where 11 = .ok (.bipush (-2), 2) := by decide +kernel
theorem dX10_where_13 : decode cX10_where 13 = .ok (.ireturn, 1) := by decide +kernel
theorem dX10_where_14 : decode cX10_where 14 = .ok (.aload_n 0, 1) := by decide +kernel
theorem dX10_where_15 : decode cX10_where 15 = .ok (.invokevirtual 396, 3) := by decide +kernel
theorem dX10_where_18 : decode cX10_where 18 = .ok (.bipush (-5), 2) := by decide +kernel
theorem dX10_where_20 : decode cX10_where 20 = .ok (.istore_n 2, 1) := by decide +kernel
theorem dX10_where_21 : decode cX10_where 21 = .ok (.iconst 0, 1) := by decide +kernel
theorem dX10_where_22 : decode cX10_where 22 = .ok (.istore_n 3, 1) := by decide +kernel
theorem dX10_where_23 : decode cX10_where 23 = .ok (.iload_n 3, 1) := by decide +kernel
theorem dX10_where_24 : decode cX10_where 24 = .ok (.iconst 1, 1) := by decide +kernel
theorem dX10_where_25 : decode cX10_where 25 = .ok (.aload_n 0, 1) := by decide +kernel
theorem dX10_where_26 : decode cX10_where 26 = .ok (.getfield 7, 3) := by decide +kernel
theorem dX10_where_29 : decode cX10_where 29 = .ok (.ishl, 1) := by decide +kernel
theorem dX10_where_30 : decode cX10_where 30 = .ok (.if_icmp .ge 84, 3) := by decide +kernel
theorem dX10_where_33 : decode cX10_where 33 = .ok (.iload_n 2, 1) := by decide +kernel
theorem dX10_where_34 : decode cX10_where 34 = .ok (.ifCond .lt 19, 3) := by decide +kernel
theorem dX10_where_37 : decode cX10_where 37 = .ok (.aload_n 0, 1) := by decide +kernel
theorem dX10_where_38 : decode cX10_where 38 = .ok (.iload_n 3, 1) := by decide +kernel
theorem dX10_where_39 : decode cX10_where 39 = .ok (.invokevirtual 351, 3) := by decide +kernel
theorem dX10_where_42 : decode cX10_where 42 = .ok (.aload_n 0, 1) := by decide +kernel
theorem dX10_where_43 : decode cX10_where 43 = .ok (.iload_n 2, 1) := by decide +kernel
theorem dX10_where_44 : decode cX10_where 44 = .ok (.invokevirtual 351, 3) := by decide +kernel
theorem dX10_where_47 : decode cX10_where 47 = .ok (.if_icmp .lt 6, 3) := by decide +kernel
theorem dX10_where_50 : decode cX10_where 50 = .ok (.goto 58, 3) := by decide +kernel
theorem dX10_where_53 : decode cX10_where 53 = .ok (.iconst 1, 1) := by decide +kernel
theorem dX10_where_54 : decode cX10_where 54 = .ok (.istore 4, 2) := by decide +kernel
theorem dX10_where_56 : decode cX10_where 56 = .ok (.iconst 0, 1) := by decide +kernel
theorem dX10_where_57 : decode cX10_where 57 = .ok (.istore 5, 2) := by decide +kernel
theorem dX10_where_59 : decode cX10_where 59 = .ok (.iload 5, 2) := by decide +kernel
theorem dX10_where_61 : decode cX10_where 61 = .ok (.aload_n 0, 1) := by decide +kernel
theorem dX10_where_62 : decode cX10_where 62 = .ok (.getfield 7, 3) := by decide +kernel
theorem dX10_where_65 : decode cX10_where 65 = .ok (.if_icmp .ge 32, 3) := by decide +kernel
theorem dX10_where_68 : decode cX10_where 68 = .ok (.iload 4, 2) := by decide +kernel
theorem dX10_where_70 : decode cX10_where 70 = .ok (.ifCond .eq 18, 3) := by decide +kernel
theorem dX10_where_73 : decode cX10_where 73 = .ok (.aload_n 0, 1) := by decide +kernel
theorem dX10_where_74 : decode cX10_where 74 = .ok (.iload 5, 2) := by decide +kernel
theorem dX10_where_76 : decode cX10_where 76 = .ok (.iload_n 3, 1) := by decide +kernel
theorem dX10_where_77 : decode cX10_where 77 = .ok (.invokevirtual 399, 3) := by decide +kernel
theorem dX10_where_80 : decode cX10_where 80 = .ok (.iload_n 1, 1) := by decide +kernel
theorem dX10_where_81 : decode cX10_where 81 = .ok (.if_icmp .gt 7, 3) := by decide +kernel
theorem dX10_where_84 : decode cX10_where 84 = .ok (.iconst 1, 1) := by decide +kernel
theorem dX10_where_85 : decode cX10_where 85 = .ok (.goto 4, 3) := by decide +kernel
theorem dX10_where_88 : decode cX10_where 88 = .ok (.iconst 0, 1) := by decide +kernel
theorem dX10_where_89 : decode cX10_where 89 = .ok (.istore 4, 2) := by decide +kernel
theorem dX10_where_91 : decode cX10_where 91 = .ok (.iinc 5 1, 3) := by decide +kernel
theorem dX10_where_94 : decode cX10_where 94 = .ok (.goto (-35), 3) := by decide +kernel
theorem dX10_where_97 : decode cX10_where 97 = .ok (.iload 4, 2) := by decide +kernel
theorem dX10_where_99 : decode cX10_where 99 = .ok (.ifCond .eq 7, 3) := by decide +kernel
theorem dX10_where_102 : decode cX10_where 102 = .ok (.iload_n 3, 1) := by decide +kernel
theorem dX10_where_103 : decode cX10_where 103 = .ok (.goto 4, 3) := by decide +kernel
theorem dX10_where_106 : decode cX10_where 106 = .ok (.iload_n 2, 1) := by decide +kernel
theorem dX10_where_107 : decode cX10_where 107 = .ok (.istore_n 2, 1) := by decide +kernel
theorem dX10_where_108 : decode cX10_where 108 = .ok (.iinc 3 1, 3) := by decide +kernel
theorem dX10_where_111 : decode cX10_where 111 = .ok (.goto (-88), 3) := by decide +kernel
theorem dX10_where_114 : decode cX10_where 114 = .ok (.iload_n 2, 1) := by decide +kernel
theorem dX10_where_115 : decode cX10_where 115 = .ok (.ireturn, 1) := by decide +kernel
def f_X10_where_L59  (c1 : Int32) (c2 : Int32) (c3 : Int32) (u : PM) : Int32 × Int32 → Option ((Int32 × Int32) ⊕ (Int32)) := fun (x4 , x5) =>
  if (u.1 (40, 0, 0) 0) ≤ x5 then
    some (.inr (x4))
  else
  if x4 = 0 then
    some (.inl ((0 : Int32), x5 + (1 : Int32)))
  else
  (f_X10_nearest x5 c3 u).bind fun r5 =>
  if c1 < r5 then
    some (.inl ((0 : Int32), x5 + (1 : Int32)))
  else
  some (.inl ((1 : Int32), x5 + (1 : Int32)))
set_option maxHeartbeats 4000000 in
set_option maxRecDepth 20000 in
theorem K_X10_where_L59 {l : Launch} {T : Option AV × List Key × AM}  {c1 : Int32} {c2 : Int32} {c3 : Int32} {u : PM} : ∀ (n : Nat) (s : Int32 × Int32) (e0 : Int32), am_loop (f_X10_where_L59 c1 c2 c3 u) n s = some e0 → (fun e : Int32 => X l mX10_where 3 0 0 false T kM 0 0 97 [some (vR (40, 0, 0)), some (vI c1), some (vI c2), some (vI c3), some (vI e), none] [] (en u)) e0 → X l mX10_where 3 0 0 false T kM 0 0 59 [some (vR (40, 0, 0)), some (vI c1), some (vI c2), some (vI c3), some (vI s.1), some (vI s.2)] [] (en u) := by
  refine am_loop_of ?_
  intro s x hf k1 k2
  obtain ⟨x4 , x5⟩ := s
  unfold f_X10_where_L59 at hf
  show X l mX10_where 3 0 0 false T kM 0 0 59 [some (vR (40, 0, 0)), some (vI c1), some (vI c2), some (vI c3), some (vI x4), some (vI x5)] [] (en u)
  refine r_iload (x := x5) dX10_where_59 rfl ?_
  refine r_aload_n (x := (40, 0, 0)) dX10_where_61 rfl ?_
  refine e_geti fw_X10_7 dX10_where_62 (kM_mem (s := 40) (by decide)) rfl (lt_b rfl) ?_
  refine r_icmp_ge (tgt := 97) dX10_where_65 (by decide) (fun hc => ?_) (fun hc => ?_)
  · have hf := (am_if hf).1 hc
    refine r_weak (L' := [some (vR (40, 0, 0)), some (vI c1), some (vI c2), some (vI c3), some (vI x4), none]) (And.intro rfl (And.intro rfl (And.intro rfl (And.intro rfl (And.intro rfl trivial))))) ?_
    exact k2 (x4) (am_inj hf).symm
  · have hf := (am_if hf).2 hc
    refine r_iload (x := x4) dX10_where_68 rfl ?_
    refine r_if_eq (tgt := 88) dX10_where_70 (by decide) (fun hc => ?_) (fun hc => ?_)
    · have hf := (am_if hf).1 hc
      refine r_iconst (v := 0) dX10_where_88 rfl ?_
      refine r_istore (L' := [some (vR (40, 0, 0)), some (vI c1), some (vI c2), some (vI c3), some (vI (0 : Int32)), some (vI x5)]) dX10_where_89 (by decide) rfl ?_
      refine r_iinc (x := x5) (v := x5 + (1 : Int32)) (L' := [some (vR (40, 0, 0)), some (vI c1), some (vI c2), some (vI c3), some (vI (0 : Int32)), some (vI (x5 + (1 : Int32)))]) dX10_where_91 rfl rfl (lt_b rfl) rfl ?_
      refine r_goto (tgt := 59) dX10_where_94 (by decide) ?_
      refine r_weak (L' := [some (vR (40, 0, 0)), some (vI c1), some (vI c2), some (vI c3), some (vI (0 : Int32)), some (vI (x5 + (1 : Int32)))]) (And.intro rfl (And.intro rfl (And.intro rfl (And.intro rfl (And.intro rfl (And.intro rfl trivial)))))) ?_
      exact k1 ((0 : Int32), x5 + (1 : Int32)) (am_inj hf).symm
    · have hf := (am_if hf).2 hc
      refine r_aload_n (x := (40, 0, 0)) dX10_where_73 rfl ?_
      refine r_iload (x := x5) dX10_where_74 rfl ?_
      refine r_iload_n (x := c3) dX10_where_76 rfl ?_
      obtain ⟨r5, hr6, hf⟩ := am_bind hf
      refine r_callV (as := [vI x5, vI c3]) (st := []) (n := 2) mw_X10_399 mv_X10_nearest (C_X10_nearest (l := l) hr6) (le_b rfl) dX10_where_77 (kM_mem (s := 40) (by decide)) rfl rfl rfl (le_b rfl) (le_b rfl) (le_b rfl) ?_
      show X l _ _ 0 0 false _ kM 0 0 80 [some (vR (40, 0, 0)), some (vI c1), some (vI c2), some (vI c3), some (vI x4), some (vI x5)] [vI r5] (en u)
      refine r_iload_n (x := c1) dX10_where_80 rfl ?_
      refine r_icmp_gt (tgt := 88) dX10_where_81 (by decide) (fun hc => ?_) (fun hc => ?_)
      · have hf := (am_if hf).1 hc
        refine r_iconst (v := 0) dX10_where_88 rfl ?_
        refine r_istore (L' := [some (vR (40, 0, 0)), some (vI c1), some (vI c2), some (vI c3), some (vI (0 : Int32)), some (vI x5)]) dX10_where_89 (by decide) rfl ?_
        refine r_iinc (x := x5) (v := x5 + (1 : Int32)) (L' := [some (vR (40, 0, 0)), some (vI c1), some (vI c2), some (vI c3), some (vI (0 : Int32)), some (vI (x5 + (1 : Int32)))]) dX10_where_91 rfl rfl (lt_b rfl) rfl ?_
        refine r_goto (tgt := 59) dX10_where_94 (by decide) ?_
        refine r_weak (L' := [some (vR (40, 0, 0)), some (vI c1), some (vI c2), some (vI c3), some (vI (0 : Int32)), some (vI (x5 + (1 : Int32)))]) (And.intro rfl (And.intro rfl (And.intro rfl (And.intro rfl (And.intro rfl (And.intro rfl trivial)))))) ?_
        exact k1 ((0 : Int32), x5 + (1 : Int32)) (am_inj hf).symm
      · have hf := (am_if hf).2 hc
        refine r_iconst (v := 1) dX10_where_84 rfl ?_
        refine r_goto (tgt := 89) dX10_where_85 (by decide) ?_
        refine r_istore (L' := [some (vR (40, 0, 0)), some (vI c1), some (vI c2), some (vI c3), some (vI (1 : Int32)), some (vI x5)]) dX10_where_89 (by decide) rfl ?_
        refine r_iinc (x := x5) (v := x5 + (1 : Int32)) (L' := [some (vR (40, 0, 0)), some (vI c1), some (vI c2), some (vI c3), some (vI (1 : Int32)), some (vI (x5 + (1 : Int32)))]) dX10_where_91 rfl rfl (lt_b rfl) rfl ?_
        refine r_goto (tgt := 59) dX10_where_94 (by decide) ?_
        refine r_weak (L' := [some (vR (40, 0, 0)), some (vI c1), some (vI c2), some (vI c3), some (vI (1 : Int32)), some (vI (x5 + (1 : Int32)))]) (And.intro rfl (And.intro rfl (And.intro rfl (And.intro rfl (And.intro rfl (And.intro rfl trivial)))))) ?_
        exact k1 ((1 : Int32), x5 + (1 : Int32)) (am_inj hf).symm
def f_X10_where_L23  (c1 : Int32) (u : PM) : Int32 × Int32 → Option ((Int32 × Int32) ⊕ (Int32)) := fun (x2 , x3) =>
  if ((1 : Int32) <<< ((u.1 (40, 0, 0) 0) &&& 31)) ≤ x3 then
    some (.inr (x2))
  else
  if x2 < 0 then
    (am_loop (f_X10_where_L59 c1 x2 x3 u) 2000 ((1 : Int32), (0 : Int32))).bind fun y9 =>
    if y9 = 0 then
      some (.inl (x2, x3 + (1 : Int32)))
    else
    some (.inl (x3, x3 + (1 : Int32)))
  else
  (f_X10_ones x3 u).bind fun r10 =>
  (f_X10_ones x2 u).bind fun r12 =>
  if r10 < r12 then
    (am_loop (f_X10_where_L59 c1 x2 x3 u) 2000 ((1 : Int32), (0 : Int32))).bind fun y16 =>
    if y16 = 0 then
      some (.inl (x2, x3 + (1 : Int32)))
    else
    some (.inl (x3, x3 + (1 : Int32)))
  else
  some (.inl (x2, x3 + (1 : Int32)))
set_option maxHeartbeats 4000000 in
set_option maxRecDepth 20000 in
theorem K_X10_where_L23 {l : Launch} {T : Option AV × List Key × AM}  {c1 : Int32} {u : PM} : ∀ (n : Nat) (s : Int32 × Int32) (e0 : Int32), am_loop (f_X10_where_L23 c1 u) n s = some e0 → (fun e : Int32 => X l mX10_where 3 0 0 false T kM 0 0 114 [none, none, some (vI e), none, none, none] [] (en u)) e0 → X l mX10_where 3 0 0 false T kM 0 0 23 [some (vR (40, 0, 0)), some (vI c1), some (vI s.1), some (vI s.2), none, none] [] (en u) := by
  refine am_loop_of ?_
  intro s x hf k1 k2
  obtain ⟨x2 , x3⟩ := s
  unfold f_X10_where_L23 at hf
  show X l mX10_where 3 0 0 false T kM 0 0 23 [some (vR (40, 0, 0)), some (vI c1), some (vI x2), some (vI x3), none, none] [] (en u)
  refine r_iload_n (x := x3) dX10_where_23 rfl ?_
  refine r_iconst (v := 1) dX10_where_24 rfl ?_
  refine r_aload_n (x := (40, 0, 0)) dX10_where_25 rfl ?_
  refine e_geti fw_X10_7 dX10_where_26 (kM_mem (s := 40) (by decide)) rfl (lt_b rfl) ?_
  refine r_ishl dX10_where_29 ?_
  refine r_icmp_ge (tgt := 114) dX10_where_30 (by decide) (fun hc => ?_) (fun hc => ?_)
  · have hf := (am_if hf).1 hc
    refine r_weak (L' := [none, none, some (vI x2), none, none, none]) (And.intro rfl trivial) ?_
    exact k2 (x2) (am_inj hf).symm
  · have hf := (am_if hf).2 hc
    refine r_iload_n (x := x2) dX10_where_33 rfl ?_
    refine r_if_lt (tgt := 53) dX10_where_34 (by decide) (fun hc => ?_) (fun hc => ?_)
    · have hf := (am_if hf).1 hc
      refine r_iconst (v := 1) dX10_where_53 rfl ?_
      refine r_istore (L' := [some (vR (40, 0, 0)), some (vI c1), some (vI x2), some (vI x3), some (vI (1 : Int32)), none]) dX10_where_54 (by decide) rfl ?_
      refine r_iconst (v := 0) dX10_where_56 rfl ?_
      refine r_istore (L' := [some (vR (40, 0, 0)), some (vI c1), some (vI x2), some (vI x3), some (vI (1 : Int32)), some (vI (0 : Int32))]) dX10_where_57 (by decide) rfl ?_
      refine r_weak (L' := [some (vR (40, 0, 0)), some (vI c1), some (vI x2), some (vI x3), some (vI (1 : Int32)), some (vI (0 : Int32))]) (And.intro rfl (And.intro rfl (And.intro rfl (And.intro rfl (And.intro rfl (And.intro rfl trivial)))))) ?_
      obtain ⟨e7, he8, hf⟩ := am_bind hf
      refine K_X10_where_L59  2000 ((1 : Int32), (0 : Int32)) _ he8 ?_
      obtain ⟨y9, rfl⟩ : ∃ z, z = e7 := ⟨_, rfl⟩
      show X l _ _ 0 0 false _ kM 0 0 97 [some (vR (40, 0, 0)), some (vI c1), some (vI x2), some (vI x3), some (vI y9), none] [] (en u)
      refine r_iload (x := y9) dX10_where_97 rfl ?_
      refine r_if_eq (tgt := 106) dX10_where_99 (by decide) (fun hc => ?_) (fun hc => ?_)
      · have hf := (am_if hf).1 hc
        refine r_iload_n (x := x2) dX10_where_106 rfl ?_
        refine r_istore_n (L' := [some (vR (40, 0, 0)), some (vI c1), some (vI x2), some (vI x3), some (vI y9), none]) dX10_where_107 (by decide) rfl ?_
        refine r_iinc (x := x3) (v := x3 + (1 : Int32)) (L' := [some (vR (40, 0, 0)), some (vI c1), some (vI x2), some (vI (x3 + (1 : Int32))), some (vI y9), none]) dX10_where_108 rfl rfl (lt_b rfl) rfl ?_
        refine r_goto (tgt := 23) dX10_where_111 (by decide) ?_
        refine r_weak (L' := [some (vR (40, 0, 0)), some (vI c1), some (vI x2), some (vI (x3 + (1 : Int32))), none, none]) (And.intro rfl (And.intro rfl (And.intro rfl (And.intro rfl trivial)))) ?_
        exact k1 (x2, x3 + (1 : Int32)) (am_inj hf).symm
      · have hf := (am_if hf).2 hc
        refine r_iload_n (x := x3) dX10_where_102 rfl ?_
        refine r_goto (tgt := 107) dX10_where_103 (by decide) ?_
        refine r_istore_n (L' := [some (vR (40, 0, 0)), some (vI c1), some (vI x3), some (vI x3), some (vI y9), none]) dX10_where_107 (by decide) rfl ?_
        refine r_iinc (x := x3) (v := x3 + (1 : Int32)) (L' := [some (vR (40, 0, 0)), some (vI c1), some (vI x3), some (vI (x3 + (1 : Int32))), some (vI y9), none]) dX10_where_108 rfl rfl (lt_b rfl) rfl ?_
        refine r_goto (tgt := 23) dX10_where_111 (by decide) ?_
        refine r_weak (L' := [some (vR (40, 0, 0)), some (vI c1), some (vI x3), some (vI (x3 + (1 : Int32))), none, none]) (And.intro rfl (And.intro rfl (And.intro rfl (And.intro rfl trivial)))) ?_
        exact k1 (x3, x3 + (1 : Int32)) (am_inj hf).symm
    · have hf := (am_if hf).2 hc
      refine r_aload_n (x := (40, 0, 0)) dX10_where_37 rfl ?_
      refine r_iload_n (x := x3) dX10_where_38 rfl ?_
      obtain ⟨r10, hr11, hf⟩ := am_bind hf
      refine r_callV (as := [vI x3]) (st := []) (n := 1) mw_X10_351 mv_X10_ones (C_X10_ones (l := l) hr11) (le_b rfl) dX10_where_39 (kM_mem (s := 40) (by decide)) rfl rfl rfl (le_b rfl) (le_b rfl) (le_b rfl) ?_
      show X l _ _ 0 0 false _ kM 0 0 42 [some (vR (40, 0, 0)), some (vI c1), some (vI x2), some (vI x3), none, none] [vI r10] (en u)
      refine r_aload_n (x := (40, 0, 0)) dX10_where_42 rfl ?_
      refine r_iload_n (x := x2) dX10_where_43 rfl ?_
      obtain ⟨r12, hr13, hf⟩ := am_bind hf
      refine r_callV (as := [vI x2]) (st := [vI r10]) (n := 1) mw_X10_351 mv_X10_ones (C_X10_ones (l := l) hr13) (le_b rfl) dX10_where_44 (kM_mem (s := 40) (by decide)) rfl rfl rfl (le_b rfl) (le_b rfl) (le_b rfl) ?_
      show X l _ _ 0 0 false _ kM 0 0 47 [some (vR (40, 0, 0)), some (vI c1), some (vI x2), some (vI x3), none, none] [vI r12, vI r10] (en u)
      refine r_icmp_lt (tgt := 53) dX10_where_47 (by decide) (fun hc => ?_) (fun hc => ?_)
      · have hf := (am_if hf).1 hc
        refine r_iconst (v := 1) dX10_where_53 rfl ?_
        refine r_istore (L' := [some (vR (40, 0, 0)), some (vI c1), some (vI x2), some (vI x3), some (vI (1 : Int32)), none]) dX10_where_54 (by decide) rfl ?_
        refine r_iconst (v := 0) dX10_where_56 rfl ?_
        refine r_istore (L' := [some (vR (40, 0, 0)), some (vI c1), some (vI x2), some (vI x3), some (vI (1 : Int32)), some (vI (0 : Int32))]) dX10_where_57 (by decide) rfl ?_
        refine r_weak (L' := [some (vR (40, 0, 0)), some (vI c1), some (vI x2), some (vI x3), some (vI (1 : Int32)), some (vI (0 : Int32))]) (And.intro rfl (And.intro rfl (And.intro rfl (And.intro rfl (And.intro rfl (And.intro rfl trivial)))))) ?_
        obtain ⟨e14, he15, hf⟩ := am_bind hf
        refine K_X10_where_L59  2000 ((1 : Int32), (0 : Int32)) _ he15 ?_
        obtain ⟨y16, rfl⟩ : ∃ z, z = e14 := ⟨_, rfl⟩
        show X l _ _ 0 0 false _ kM 0 0 97 [some (vR (40, 0, 0)), some (vI c1), some (vI x2), some (vI x3), some (vI y16), none] [] (en u)
        refine r_iload (x := y16) dX10_where_97 rfl ?_
        refine r_if_eq (tgt := 106) dX10_where_99 (by decide) (fun hc => ?_) (fun hc => ?_)
        · have hf := (am_if hf).1 hc
          refine r_iload_n (x := x2) dX10_where_106 rfl ?_
          refine r_istore_n (L' := [some (vR (40, 0, 0)), some (vI c1), some (vI x2), some (vI x3), some (vI y16), none]) dX10_where_107 (by decide) rfl ?_
          refine r_iinc (x := x3) (v := x3 + (1 : Int32)) (L' := [some (vR (40, 0, 0)), some (vI c1), some (vI x2), some (vI (x3 + (1 : Int32))), some (vI y16), none]) dX10_where_108 rfl rfl (lt_b rfl) rfl ?_
          refine r_goto (tgt := 23) dX10_where_111 (by decide) ?_
          refine r_weak (L' := [some (vR (40, 0, 0)), some (vI c1), some (vI x2), some (vI (x3 + (1 : Int32))), none, none]) (And.intro rfl (And.intro rfl (And.intro rfl (And.intro rfl trivial)))) ?_
          exact k1 (x2, x3 + (1 : Int32)) (am_inj hf).symm
        · have hf := (am_if hf).2 hc
          refine r_iload_n (x := x3) dX10_where_102 rfl ?_
          refine r_goto (tgt := 107) dX10_where_103 (by decide) ?_
          refine r_istore_n (L' := [some (vR (40, 0, 0)), some (vI c1), some (vI x3), some (vI x3), some (vI y16), none]) dX10_where_107 (by decide) rfl ?_
          refine r_iinc (x := x3) (v := x3 + (1 : Int32)) (L' := [some (vR (40, 0, 0)), some (vI c1), some (vI x3), some (vI (x3 + (1 : Int32))), some (vI y16), none]) dX10_where_108 rfl rfl (lt_b rfl) rfl ?_
          refine r_goto (tgt := 23) dX10_where_111 (by decide) ?_
          refine r_weak (L' := [some (vR (40, 0, 0)), some (vI c1), some (vI x3), some (vI (x3 + (1 : Int32))), none, none]) (And.intro rfl (And.intro rfl (And.intro rfl (And.intro rfl trivial)))) ?_
          exact k1 (x3, x3 + (1 : Int32)) (am_inj hf).symm
      · have hf := (am_if hf).2 hc
        refine r_goto (tgt := 108) dX10_where_50 (by decide) ?_
        refine r_iinc (x := x3) (v := x3 + (1 : Int32)) (L' := [some (vR (40, 0, 0)), some (vI c1), some (vI x2), some (vI (x3 + (1 : Int32))), none, none]) dX10_where_108 rfl rfl (lt_b rfl) rfl ?_
        refine r_goto (tgt := 23) dX10_where_111 (by decide) ?_
        refine r_weak (L' := [some (vR (40, 0, 0)), some (vI c1), some (vI x2), some (vI (x3 + (1 : Int32))), none, none]) (And.intro rfl (And.intro rfl (And.intro rfl (And.intro rfl trivial)))) ?_
        exact k1 (x2, x3 + (1 : Int32)) (am_inj hf).symm
def f_X10_where  (a0 : Int32) (u : PM) : Option (Int32 × PM) :=
  (f_X10_in a0 (0 : Int32) (40 : Int32) u).bind fun r1 =>
  if r1 = 0 then
    some ((-2 : Int32), u)
  else
  (f_X10_layApart u).bind fun r3 =>
  (am_loop (f_X10_where_L23 a0 r3) 2000 ((-5 : Int32), (0 : Int32))).bind fun y19 =>
  some (y19, r3)
set_option maxHeartbeats 4000000 in
set_option maxRecDepth 20000 in
theorem C_X10_where {l : Launch}  {a0 : Int32} {u : PM} {x : Int32 × PM} (hf : f_X10_where a0 u = some x) : Ev l mX10_where 3 0 0 false [vR (40, 0, 0), vI a0] kM (en u) (some (vI x.1), kM, en x.2) := by
  refine Ev_of (by decide +kernel) (le_b rfl) ?_
  unfold f_X10_where at hf
  show X l mX10_where 3 0 0 false _ kM 0 0 0 [some (vR (40, 0, 0)), some (vI a0), none, none, none, none] [] (en u)
  refine r_aload_n (x := (40, 0, 0)) dX10_where_0 rfl ?_
  refine r_iload_n (x := a0) dX10_where_1 rfl ?_
  refine r_iconst (v := 0) dX10_where_2 rfl ?_
  refine r_bipush (v := 40) dX10_where_3 rfl ?_
  obtain ⟨r1, hr2, hf⟩ := am_bind hf
  refine r_callV (as := [vI a0, vI (0 : Int32), vI (40 : Int32)]) (st := []) (n := 3) mw_X10_267 mv_X10_in (C_X10_in (l := l) hr2) (le_b rfl) dX10_where_5 (kM_mem (s := 40) (by decide)) rfl rfl rfl (le_b rfl) (le_b rfl) (le_b rfl) ?_
  show X l _ _ 0 0 false _ kM 0 0 8 [some (vR (40, 0, 0)), some (vI a0), none, none, none, none] [vI r1] (en u)
  refine r_if_ne (tgt := 14) dX10_where_8 (by decide) (fun hc => ?_) (fun hc => ?_)
  · have hf := (am_if hf).2 hc
    refine r_aload_n (x := (40, 0, 0)) dX10_where_14 rfl ?_
    obtain ⟨r3, hr4, hf⟩ := am_bind hf
    refine r_callV (as := []) (st := []) (n := 0) mw_X10_396 mv_X10_layApart (C_X10_layApart (l := l) hr4) (le_b rfl) dX10_where_15 (kM_mem (s := 40) (by decide)) rfl rfl rfl (le_b rfl) (le_b rfl) (le_b rfl) ?_
    show X l _ _ 0 0 false _ kM 0 0 18 [some (vR (40, 0, 0)), some (vI a0), none, none, none, none] [] (en r3)
    refine r_bipush (v := -5) dX10_where_18 rfl ?_
    refine r_istore_n (L' := [some (vR (40, 0, 0)), some (vI a0), some (vI (-5 : Int32)), none, none, none]) dX10_where_20 (by decide) rfl ?_
    refine r_iconst (v := 0) dX10_where_21 rfl ?_
    refine r_istore_n (L' := [some (vR (40, 0, 0)), some (vI a0), some (vI (-5 : Int32)), some (vI (0 : Int32)), none, none]) dX10_where_22 (by decide) rfl ?_
    refine r_weak (L' := [some (vR (40, 0, 0)), some (vI a0), some (vI (-5 : Int32)), some (vI (0 : Int32)), none, none]) (And.intro rfl (And.intro rfl (And.intro rfl (And.intro rfl trivial)))) ?_
    obtain ⟨e17, he18, hf⟩ := am_bind hf
    refine K_X10_where_L23  2000 ((-5 : Int32), (0 : Int32)) _ he18 ?_
    obtain ⟨y19, rfl⟩ : ∃ z, z = e17 := ⟨_, rfl⟩
    show X l _ _ 0 0 false _ kM 0 0 114 [none, none, some (vI y19), none, none, none] [] (en r3)
    refine r_iload_n (x := y19) dX10_where_114 rfl ?_
    have hx := am_inj hf
    subst hx
    exact r_iret dX10_where_115 rfl rfl (le_b rfl) (le_b rfl)
  · have hf := (am_if hf).1 hc
    refine r_bipush (v := -2) dX10_where_11 rfl ?_
    have hx := am_inj hf
    subst hx
    exact r_iret dX10_where_13 rfl rfl (le_b rfl) (le_b rfl)
/-! FireFromFireModel.apart -/
theorem dX10_apart_0 : decode cX10_apart 0 = .ok (.aload_n 0, 1) := by decide +kernel
theorem dX10_apart_1 : decode cX10_apart 1 = .ok (.invokevirtual 396, 3) := by decide +kernel
theorem dX10_apart_4 : decode cX10_apart 4 = .ok (.iconst 0, 1) := by decide +kernel
theorem dX10_apart_5 : decode cX10_apart 5 = .ok (.istore_n 1, 1) := by decide +kernel
theorem dX10_apart_6 : decode cX10_apart 6 = .ok (.iconst 0, 1) := by decide +kernel
theorem dX10_apart_7 : decode cX10_apart 7 = .ok (.istore_n 2, 1) := by decide +kernel
theorem dX10_apart_8 : decode cX10_apart 8 = .ok (.iload_n 2, 1) := by decide +kernel
theorem dX10_apart_9 : decode cX10_apart 9 = .ok (.aload_n 0, 1) := by decide +kernel
theorem dX10_apart_10 : decode cX10_apart 10 = .ok (.getfield 7, 3) := by decide +kernel
theorem dX10_apart_13 : decode cX10_apart 13 = .ok (.if_icmp .ge 56, 3) := by decide +kernel
theorem dX10_apart_16 : decode cX10_apart 16 = .ok (.iconst 0, 1) := by decide +kernel
theorem dX10_apart_17 : decode cX10_apart 17 = .ok (.istore_n 3, 1) := by decide +kernel
theorem dX10_apart_18 : decode cX10_apart 18 = .ok (.iload_n 3, 1) := by decide +kernel
theorem dX10_apart_19 : decode cX10_apart 19 = .ok (.aload_n 0, 1) := by decide +kernel
theorem dX10_apart_20 : decode cX10_apart 20 = .ok (.getfield 7, 3) := by decide +kernel
theorem dX10_apart_23 : decode cX10_apart 23 = .ok (.if_icmp .ge 40, 3) := by decide +kernel
theorem dX10_apart_26 : decode cX10_apart 26 = .ok (.aload_n 0, 1) := by decide +kernel
theorem dX10_apart_27 : decode cX10_apart 27 = .ok (.getfield 159, 3) := by decide +kernel
theorem dX10_apart_30 : decode cX10_apart 30 = .ok (.bipush 6, 2) := by decide +kernel
theorem dX10_apart_32 : decode cX10_apart 32 = .ok (.iload_n 2, 1) := by decide +kernel
theorem dX10_apart_33 : decode cX10_apart 33 = .ok (.imul, 1) := by decide +kernel
theorem dX10_apart_34 : decode cX10_apart 34 = .ok (.iload_n 3, 1) := by decide +kernel
theorem dX10_apart_35 : decode cX10_apart 35 = .ok (.iadd, 1) := by decide +kernel
theorem dX10_apart_36 : decode cX10_apart 36 = .ok (.iaload, 1) := by decide +kernel
theorem dX10_apart_37 : decode cX10_apart 37 = .ok (.iload_n 1, 1) := by decide +kernel
theorem dX10_apart_38 : decode cX10_apart 38 = .ok (.if_icmp .le 17, 3) := by decide +kernel
theorem dX10_apart_41 : decode cX10_apart 41 = .ok (.aload_n 0, 1) := by decide +kernel
theorem dX10_apart_42 : decode cX10_apart 42 = .ok (.getfield 159, 3) := by decide +kernel
theorem dX10_apart_45 : decode cX10_apart 45 = .ok (.bipush 6, 2) := by decide +kernel
theorem dX10_apart_47 : decode cX10_apart 47 = .ok (.iload_n 2, 1) := by decide +kernel
theorem dX10_apart_48 : decode cX10_apart 48 = .ok (.imul, 1) := by decide +kernel
theorem dX10_apart_49 : decode cX10_apart 49 = .ok (.iload_n 3, 1) := by decide +kernel
theorem dX10_apart_50 : decode cX10_apart 50 = .ok (.iadd, 1) := by decide +kernel
theorem dX10_apart_51 : decode cX10_apart 51 = .ok (.iaload, 1) := by decide +kernel
theorem dX10_apart_52 : decode cX10_apart 52 = .ok (.goto 4, 3) := by decide +kernel
theorem dX10_apart_55 : decode cX10_apart 55 = .ok (.iload_n 1, 1) := by decide +kernel
theorem dX10_apart_56 : decode cX10_apart 56 = .ok (.istore_n 1, 1) := by decide +kernel
theorem dX10_apart_57 : decode cX10_apart 57 = .ok (.iinc 3 1, 3) := by decide +kernel
theorem dX10_apart_60 : decode cX10_apart 60 = .ok (.goto (-42), 3) := by decide +kernel
theorem dX10_apart_63 : decode cX10_apart 63 = .ok (.iinc 2 1, 3) := by decide +kernel
theorem dX10_apart_66 : decode cX10_apart 66 = .ok (.goto (-58), 3) := by decide +kernel
theorem dX10_apart_69 : decode cX10_apart 69 = .ok (.iload_n 1, 1) := by decide +kernel
theorem dX10_apart_70 : decode cX10_apart 70 = .ok (.sipush 1000, 3) := by decide +kernel
theorem dX10_apart_73 : decode cX10_apart 73 = .ok (.if_icmp .lt 8, 3) := by decide +kernel
theorem dX10_apart_76 : decode cX10_apart 76 = .ok (.bipush (-5), 2) := by decide +kernel
theorem dX10_apart_78 : decode cX10_apart 78 = .ok (.goto 4, 3) := by decide +kernel
theorem dX10_apart_81 : decode cX10_apart 81 = .ok (.iload_n 1, 1) := by decide +kernel
theorem dX10_apart_82 : decode cX10_apart 82 = .ok (.ireturn, 1) := by decide +kernel
def f_X10_apart_L18  (c2 : Int32) (u : PM) : Int32 × Int32 → Option ((Int32 × Int32) ⊕ (Int32)) := fun (x1 , x3) =>
  if (u.1 (40, 0, 0) 0) ≤ x3 then
    some (.inr (x1))
  else
  if (((6 : Int32) * c2) + x3) < 0 ∨ 36 ≤ (((6 : Int32) * c2) + x3).toNatClampNeg then none else
  if (u.1 (72, 0, 0) ((((6 : Int32) * c2) + x3).toNatClampNeg)) ≤ x1 then
    some (.inl (x1, x3 + (1 : Int32)))
  else
  some (.inl (u.1 (72, 0, 0) ((((6 : Int32) * c2) + x3).toNatClampNeg), x3 + (1 : Int32)))
set_option maxHeartbeats 4000000 in
set_option maxRecDepth 20000 in
theorem K_X10_apart_L18 {l : Launch} {T : Option AV × List Key × AM}  {c2 : Int32} {u : PM} : ∀ (n : Nat) (s : Int32 × Int32) (e0 : Int32), am_loop (f_X10_apart_L18 c2 u) n s = some e0 → (fun e : Int32 => X l mX10_apart 3 0 0 false T kM 0 0 63 [some (vR (40, 0, 0)), some (vI e), some (vI c2), none] [] (en u)) e0 → X l mX10_apart 3 0 0 false T kM 0 0 18 [some (vR (40, 0, 0)), some (vI s.1), some (vI c2), some (vI s.2)] [] (en u) := by
  refine am_loop_of ?_
  intro s x hf k1 k2
  obtain ⟨x1 , x3⟩ := s
  unfold f_X10_apart_L18 at hf
  show X l mX10_apart 3 0 0 false T kM 0 0 18 [some (vR (40, 0, 0)), some (vI x1), some (vI c2), some (vI x3)] [] (en u)
  refine r_iload_n (x := x3) dX10_apart_18 rfl ?_
  refine r_aload_n (x := (40, 0, 0)) dX10_apart_19 rfl ?_
  refine e_geti fw_X10_7 dX10_apart_20 (kM_mem (s := 40) (by decide)) rfl (lt_b rfl) ?_
  refine r_icmp_ge (tgt := 63) dX10_apart_23 (by decide) (fun hc => ?_) (fun hc => ?_)
  · have hf := (am_if hf).1 hc
    refine r_weak (L' := [some (vR (40, 0, 0)), some (vI x1), some (vI c2), none]) (And.intro rfl (And.intro rfl (And.intro rfl trivial))) ?_
    exact k2 (x1) (am_inj hf).symm
  · have hf := (am_if hf).2 hc
    refine r_aload_n (x := (40, 0, 0)) dX10_apart_26 rfl ?_
    refine e_getr (z := some (72, 0, 0)) fw_X10_159 dX10_apart_27 (kM_mem (s := 40) (by decide)) rfl (lt_b rfl) rfl ?_
    refine r_bipush (v := 6) dX10_apart_30 rfl ?_
    refine r_iload_n (x := c2) dX10_apart_32 rfl ?_
    refine r_imul dX10_apart_33 ?_
    refine r_iload_n (x := x3) dX10_apart_34 rfl ?_
    refine r_iadd dX10_apart_35 ?_
    obtain ⟨h3, hf⟩ := am_nchk hf
    refine e_iald (n := (((6 : Int32) * c2) + x3).toNatClampNeg) dX10_apart_36 (kM_mem (s := 72) (by decide)) rfl h3 rfl rfl ?_
    refine r_iload_n (x := x1) dX10_apart_37 rfl ?_
    refine r_icmp_le (tgt := 55) dX10_apart_38 (by decide) (fun hc => ?_) (fun hc => ?_)
    · have hf := (am_if hf).1 hc
      refine r_iload_n (x := x1) dX10_apart_55 rfl ?_
      refine r_istore_n (L' := [some (vR (40, 0, 0)), some (vI x1), some (vI c2), some (vI x3)]) dX10_apart_56 (by decide) rfl ?_
      refine r_iinc (x := x3) (v := x3 + (1 : Int32)) (L' := [some (vR (40, 0, 0)), some (vI x1), some (vI c2), some (vI (x3 + (1 : Int32)))]) dX10_apart_57 rfl rfl (lt_b rfl) rfl ?_
      refine r_goto (tgt := 18) dX10_apart_60 (by decide) ?_
      refine r_weak (L' := [some (vR (40, 0, 0)), some (vI x1), some (vI c2), some (vI (x3 + (1 : Int32)))]) (And.intro rfl (And.intro rfl (And.intro rfl (And.intro rfl trivial)))) ?_
      exact k1 (x1, x3 + (1 : Int32)) (am_inj hf).symm
    · have hf := (am_if hf).2 hc
      refine r_aload_n (x := (40, 0, 0)) dX10_apart_41 rfl ?_
      refine e_getr (z := some (72, 0, 0)) fw_X10_159 dX10_apart_42 (kM_mem (s := 40) (by decide)) rfl (lt_b rfl) rfl ?_
      refine r_bipush (v := 6) dX10_apart_45 rfl ?_
      refine r_iload_n (x := c2) dX10_apart_47 rfl ?_
      refine r_imul dX10_apart_48 ?_
      refine r_iload_n (x := x3) dX10_apart_49 rfl ?_
      refine r_iadd dX10_apart_50 ?_
      refine e_iald (n := (((6 : Int32) * c2) + x3).toNatClampNeg) dX10_apart_51 (kM_mem (s := 72) (by decide)) rfl h3 rfl rfl ?_
      refine r_goto (tgt := 56) dX10_apart_52 (by decide) ?_
      refine r_istore_n (L' := [some (vR (40, 0, 0)), some (vI (u.1 (72, 0, 0) ((((6 : Int32) * c2) + x3).toNatClampNeg))), some (vI c2), some (vI x3)]) dX10_apart_56 (by decide) rfl ?_
      refine r_iinc (x := x3) (v := x3 + (1 : Int32)) (L' := [some (vR (40, 0, 0)), some (vI (u.1 (72, 0, 0) ((((6 : Int32) * c2) + x3).toNatClampNeg))), some (vI c2), some (vI (x3 + (1 : Int32)))]) dX10_apart_57 rfl rfl (lt_b rfl) rfl ?_
      refine r_goto (tgt := 18) dX10_apart_60 (by decide) ?_
      refine r_weak (L' := [some (vR (40, 0, 0)), some (vI (u.1 (72, 0, 0) ((((6 : Int32) * c2) + x3).toNatClampNeg))), some (vI c2), some (vI (x3 + (1 : Int32)))]) (And.intro rfl (And.intro rfl (And.intro rfl (And.intro rfl trivial)))) ?_
      exact k1 (u.1 (72, 0, 0) ((((6 : Int32) * c2) + x3).toNatClampNeg), x3 + (1 : Int32)) (am_inj hf).symm
def f_X10_apart_L8   (u : PM) : Int32 × Int32 → Option ((Int32 × Int32) ⊕ (Int32)) := fun (x1 , x2) =>
  if (u.1 (40, 0, 0) 0) ≤ x2 then
    some (.inr (x1))
  else
  (am_loop (f_X10_apart_L18 x2 u) 2000 (x1, (0 : Int32))).bind fun y6 =>
  some (.inl (y6, x2 + (1 : Int32)))
set_option maxHeartbeats 4000000 in
set_option maxRecDepth 20000 in
theorem K_X10_apart_L8 {l : Launch} {T : Option AV × List Key × AM}   {u : PM} : ∀ (n : Nat) (s : Int32 × Int32) (e0 : Int32), am_loop (f_X10_apart_L8 u) n s = some e0 → (fun e : Int32 => X l mX10_apart 3 0 0 false T kM 0 0 69 [none, some (vI e), none, none] [] (en u)) e0 → X l mX10_apart 3 0 0 false T kM 0 0 8 [some (vR (40, 0, 0)), some (vI s.1), some (vI s.2), none] [] (en u) := by
  refine am_loop_of ?_
  intro s x hf k1 k2
  obtain ⟨x1 , x2⟩ := s
  unfold f_X10_apart_L8 at hf
  show X l mX10_apart 3 0 0 false T kM 0 0 8 [some (vR (40, 0, 0)), some (vI x1), some (vI x2), none] [] (en u)
  refine r_iload_n (x := x2) dX10_apart_8 rfl ?_
  refine r_aload_n (x := (40, 0, 0)) dX10_apart_9 rfl ?_
  refine e_geti fw_X10_7 dX10_apart_10 (kM_mem (s := 40) (by decide)) rfl (lt_b rfl) ?_
  refine r_icmp_ge (tgt := 69) dX10_apart_13 (by decide) (fun hc => ?_) (fun hc => ?_)
  · have hf := (am_if hf).1 hc
    refine r_weak (L' := [none, some (vI x1), none, none]) (And.intro rfl trivial) ?_
    exact k2 (x1) (am_inj hf).symm
  · have hf := (am_if hf).2 hc
    refine r_iconst (v := 0) dX10_apart_16 rfl ?_
    refine r_istore_n (L' := [some (vR (40, 0, 0)), some (vI x1), some (vI x2), some (vI (0 : Int32))]) dX10_apart_17 (by decide) rfl ?_
    refine r_weak (L' := [some (vR (40, 0, 0)), some (vI x1), some (vI x2), some (vI (0 : Int32))]) (And.intro rfl (And.intro rfl (And.intro rfl (And.intro rfl trivial)))) ?_
    obtain ⟨e4, he5, hf⟩ := am_bind hf
    refine K_X10_apart_L18  2000 (x1, (0 : Int32)) _ he5 ?_
    obtain ⟨y6, rfl⟩ : ∃ z, z = e4 := ⟨_, rfl⟩
    show X l _ _ 0 0 false _ kM 0 0 63 [some (vR (40, 0, 0)), some (vI y6), some (vI x2), none] [] (en u)
    refine r_iinc (x := x2) (v := x2 + (1 : Int32)) (L' := [some (vR (40, 0, 0)), some (vI y6), some (vI (x2 + (1 : Int32))), none]) dX10_apart_63 rfl rfl (lt_b rfl) rfl ?_
    refine r_goto (tgt := 8) dX10_apart_66 (by decide) ?_
    refine r_weak (L' := [some (vR (40, 0, 0)), some (vI y6), some (vI (x2 + (1 : Int32))), none]) (And.intro rfl (And.intro rfl (And.intro rfl trivial))) ?_
    exact k1 (y6, x2 + (1 : Int32)) (am_inj hf).symm
def f_X10_apart   (u : PM) : Option (Int32 × PM) :=
  (f_X10_layApart u).bind fun r1 =>
  (am_loop (f_X10_apart_L8 r1) 2000 ((0 : Int32), (0 : Int32))).bind fun y9 =>
  if y9 < (1000 : Int32) then
    some (y9, r1)
  else
  some ((-5 : Int32), r1)
set_option maxHeartbeats 4000000 in
set_option maxRecDepth 20000 in
theorem C_X10_apart {l : Launch}   {u : PM} {x : Int32 × PM} (hf : f_X10_apart u = some x) : Ev l mX10_apart 3 0 0 false [vR (40, 0, 0)] kM (en u) (some (vI x.1), kM, en x.2) := by
  refine Ev_of (by decide +kernel) (le_b rfl) ?_
  unfold f_X10_apart at hf
  show X l mX10_apart 3 0 0 false _ kM 0 0 0 [some (vR (40, 0, 0)), none, none, none] [] (en u)
  refine r_aload_n (x := (40, 0, 0)) dX10_apart_0 rfl ?_
  obtain ⟨r1, hr2, hf⟩ := am_bind hf
  refine r_callV (as := []) (st := []) (n := 0) mw_X10_396 mv_X10_layApart (C_X10_layApart (l := l) hr2) (le_b rfl) dX10_apart_1 (kM_mem (s := 40) (by decide)) rfl rfl rfl (le_b rfl) (le_b rfl) (le_b rfl) ?_
  show X l _ _ 0 0 false _ kM 0 0 4 [some (vR (40, 0, 0)), none, none, none] [] (en r1)
  refine r_iconst (v := 0) dX10_apart_4 rfl ?_
  refine r_istore_n (L' := [some (vR (40, 0, 0)), some (vI (0 : Int32)), none, none]) dX10_apart_5 (by decide) rfl ?_
  refine r_iconst (v := 0) dX10_apart_6 rfl ?_
  refine r_istore_n (L' := [some (vR (40, 0, 0)), some (vI (0 : Int32)), some (vI (0 : Int32)), none]) dX10_apart_7 (by decide) rfl ?_
  refine r_weak (L' := [some (vR (40, 0, 0)), some (vI (0 : Int32)), some (vI (0 : Int32)), none]) (And.intro rfl (And.intro rfl (And.intro rfl trivial))) ?_
  obtain ⟨e7, he8, hf⟩ := am_bind hf
  refine K_X10_apart_L8  2000 ((0 : Int32), (0 : Int32)) _ he8 ?_
  obtain ⟨y9, rfl⟩ : ∃ z, z = e7 := ⟨_, rfl⟩
  show X l _ _ 0 0 false _ kM 0 0 69 [none, some (vI y9), none, none] [] (en r1)
  refine r_iload_n (x := y9) dX10_apart_69 rfl ?_
  refine r_sipush (v := 1000) dX10_apart_70 rfl ?_
  refine r_icmp_lt (tgt := 81) dX10_apart_73 (by decide) (fun hc => ?_) (fun hc => ?_)
  · have hf := (am_if hf).1 hc
    refine r_iload_n (x := y9) dX10_apart_81 rfl ?_
    have hx := am_inj hf
    subst hx
    exact r_iret dX10_apart_82 rfl rfl (le_b rfl) (le_b rfl)
  · have hf := (am_if hf).2 hc
    refine r_bipush (v := -5) dX10_apart_76 rfl ?_
    refine r_goto (tgt := 82) dX10_apart_78 (by decide) ?_
    have hx := am_inj hf
    subst hx
    exact r_iret dX10_apart_82 rfl rfl (le_b rfl) (le_b rfl)
/-! FireFromFireModel.divisor -/
theorem dX10_divisor_0 : decode cX10_divisor 0 = .ok (.lload_n 1, 1) := by decide +kernel
theorem dX10_divisor_1 : decode cX10_divisor 1 = .ok (.lstore 5, 2) := by decide +kernel
theorem dX10_divisor_3 : decode cX10_divisor 3 = .ok (.lload_n 3, 1) := by decide +kernel
theorem dX10_divisor_4 : decode cX10_divisor 4 = .ok (.lstore 7, 2) := by decide +kernel
theorem dX10_divisor_6 : decode cX10_divisor 6 = .ok (.lload 7, 2) := by decide +kernel
theorem dX10_divisor_8 : decode cX10_divisor 8 = .ok (.lconst 0, 1) := by decide +kernel
theorem dX10_divisor_9 : decode cX10_divisor 9 = .ok (.lcmp, 1) := by decide +kernel
theorem dX10_divisor_10 : decode cX10_divisor 10 = .ok (.ifCond .eq 21, 3) := by decide +kernel
theorem dX10_divisor_13 : decode cX10_divisor 13 = .ok (.lload 5, 2) := by decide +kernel
theorem dX10_divisor_15 : decode cX10_divisor 15 = .ok (.lload 7, 2) := by decide +kernel
theorem dX10_divisor_17 : decode cX10_divisor 17 = .ok (.lrem, 1) := by decide +kernel
theorem dX10_divisor_18 : decode cX10_divisor 18 = .ok (.lstore 9, 2) := by decide +kernel
theorem dX10_divisor_20 : decode cX10_divisor 20 = .ok (.lload 7, 2) := by decide +kernel
theorem dX10_divisor_22 : decode cX10_divisor 22 = .ok (.lstore 5, 2) := by decide +kernel
theorem dX10_divisor_24 : decode cX10_divisor 24 = .ok (.lload 9, 2) := by decide +kernel
theorem dX10_divisor_26 : decode cX10_divisor 26 = .ok (.lstore 7, 2) := by decide +kernel
theorem dX10_divisor_28 : decode cX10_divisor 28 = .ok (.goto (-22), 3) := by decide +kernel
theorem dX10_divisor_31 : decode cX10_divisor 31 = .ok (.lload 5, 2) := by decide +kernel
theorem dX10_divisor_33 : decode cX10_divisor 33 = .ok (.lreturn, 1) := by decide +kernel
def f_X10_divisor_L6   (u : PM) : Int64 × Int64 → Option ((Int64 × Int64) ⊕ (Int64)) := fun (x5 , x7) =>
  if (lg_cmp x7 (0 : Int64)) = 0 then
    some (.inr (x5))
  else
  if x7 = 0 then none else
  some (.inl (x7, x5 - x5 / x7 * x7))
set_option maxHeartbeats 4000000 in
set_option maxRecDepth 20000 in
theorem K_X10_divisor_L6 {l : Launch} {T : Option AV × List Key × AM}   {u : PM} : ∀ (n : Nat) (s : Int64 × Int64) (e0 : Int64), am_loop (f_X10_divisor_L6 u) n s = some e0 → (fun e : Int64 => X l mX10_divisor 1 0 0 false T kM 0 0 31 [none, none, none, none, none, some (vJ e), none, none, none, none, none] [] (en u)) e0 → X l mX10_divisor 1 0 0 false T kM 0 0 6 [none, none, none, none, none, some (vJ s.1), none, some (vJ s.2), none, none, none] [] (en u) := by
  refine am_loop_of ?_
  intro s x hf k1 k2
  obtain ⟨x5 , x7⟩ := s
  unfold f_X10_divisor_L6 at hf
  show X l mX10_divisor 1 0 0 false T kM 0 0 6 [none, none, none, none, none, some (vJ x5), none, some (vJ x7), none, none, none] [] (en u)
  refine r_lload (x := x7) dX10_divisor_6 rfl ?_
  refine r_lconst (v := 0) dX10_divisor_8 rfl ?_
  refine r_lcmp dX10_divisor_9 ?_
  refine r_if_eq (tgt := 31) dX10_divisor_10 (by decide) (fun hc => ?_) (fun hc => ?_)
  · have hf := (am_if hf).1 hc
    refine r_weak (L' := [none, none, none, none, none, some (vJ x5), none, none, none, none, none]) (And.intro rfl trivial) ?_
    exact k2 (x5) (am_inj hf).symm
  · have hf := (am_if hf).2 hc
    refine r_lload (x := x5) dX10_divisor_13 rfl ?_
    refine r_lload (x := x7) dX10_divisor_15 rfl ?_
    obtain ⟨h1, hf⟩ := am_nchk hf
    refine r_lrem dX10_divisor_17 h1 ?_
    refine r_lstore (L' := [none, none, none, none, none, some (vJ x5), none, some (vJ x7), none, some (vJ (x5 - x5 / x7 * x7)), none]) dX10_divisor_18 (by decide) rfl ?_
    refine r_lload (x := x7) dX10_divisor_20 rfl ?_
    refine r_lstore (L' := [none, none, none, none, none, some (vJ x7), none, some (vJ x7), none, some (vJ (x5 - x5 / x7 * x7)), none]) dX10_divisor_22 (by decide) rfl ?_
    refine r_lload (x := x5 - x5 / x7 * x7) dX10_divisor_24 rfl ?_
    refine r_lstore (L' := [none, none, none, none, none, some (vJ x7), none, some (vJ (x5 - x5 / x7 * x7)), none, some (vJ (x5 - x5 / x7 * x7)), none]) dX10_divisor_26 (by decide) rfl ?_
    refine r_goto (tgt := 6) dX10_divisor_28 (by decide) ?_
    refine r_weak (L' := [none, none, none, none, none, some (vJ x7), none, some (vJ (x5 - x5 / x7 * x7)), none, none, none]) (And.intro rfl (And.intro rfl trivial)) ?_
    exact k1 (x7, x5 - x5 / x7 * x7) (am_inj hf).symm
def f_X10_divisor  (a0 : Int64) (a1 : Int64) (u : PM) : Option (Int64) :=
  (am_loop (f_X10_divisor_L6 u) 2000 (a0, a1)).bind fun y4 =>
  some y4
set_option maxHeartbeats 4000000 in
set_option maxRecDepth 20000 in
theorem C_X10_divisor {l : Launch}  {a0 : Int64} {a1 : Int64} {u : PM} {x : Int64} (hf : f_X10_divisor a0 a1 u = some x) : Ev l mX10_divisor 1 0 0 false [vR (40, 0, 0), vJ a0, vJ a1] kM (en u) (some (vJ x), kM, en u) := by
  refine Ev_of (by decide +kernel) (le_b rfl) ?_
  unfold f_X10_divisor at hf
  show X l mX10_divisor 1 0 0 false _ kM 0 0 0 [some (vR (40, 0, 0)), some (vJ a0), none, some (vJ a1), none, none, none, none, none, none, none] [] (en u)
  refine r_lload_n (x := a0) dX10_divisor_0 rfl ?_
  refine r_lstore (L' := [some (vR (40, 0, 0)), some (vJ a0), none, some (vJ a1), none, some (vJ a0), none, none, none, none, none]) dX10_divisor_1 (by decide) rfl ?_
  refine r_lload_n (x := a1) dX10_divisor_3 rfl ?_
  refine r_lstore (L' := [some (vR (40, 0, 0)), some (vJ a0), none, some (vJ a1), none, some (vJ a0), none, some (vJ a1), none, none, none]) dX10_divisor_4 (by decide) rfl ?_
  refine r_weak (L' := [none, none, none, none, none, some (vJ a0), none, some (vJ a1), none, none, none]) (And.intro rfl (And.intro rfl trivial)) ?_
  obtain ⟨e2, he3, hf⟩ := am_bind hf
  refine K_X10_divisor_L6  2000 (a0, a1) _ he3 ?_
  obtain ⟨y4, rfl⟩ : ∃ z, z = e2 := ⟨_, rfl⟩
  show X l _ _ 0 0 false _ kM 0 0 31 [none, none, none, none, none, some (vJ y4), none, none, none, none, none] [] (en u)
  refine r_lload (x := y4) dX10_divisor_31 rfl ?_
  have hx := am_inj hf
  subst hx
  exact r_lret dX10_divisor_33 rfl (le_b rfl) (le_b rfl)
/-! FireFromFireModel.keep -/
theorem dX10_keep_0 : decode cX10_keep 0 = .ok (.aload_n 0, 1) := by decide +kernel
theorem dX10_keep_1 : decode cX10_keep 1 = .ok (.aload_n 0, 1) := by decide +kernel
theorem dX10_keep_2 : decode cX10_keep 2 = .ok (.getfield 107, 3) := by decide +kernel
theorem dX10_keep_5 : decode cX10_keep 5 = .ok (.putfield 162, 3) := by decide +kernel
theorem dX10_keep_8 : decode cX10_keep 8 = .ok (.aload_n 0, 1) := by decide +kernel
theorem dX10_keep_9 : decode cX10_keep 9 = .ok (.aload_n 0, 1) := by decide +kernel
theorem dX10_keep_10 : decode cX10_keep 10 = .ok (.getfield 110, 3) := by decide +kernel
theorem dX10_keep_13 : decode cX10_keep 13 = .ok (.putfield 165, 3) := by decide +kernel
theorem dX10_keep_16 : decode cX10_keep 16 = .ok (.aload_n 0, 1) := by decide +kernel
theorem dX10_keep_17 : decode cX10_keep 17 = .ok (.aload_n 0, 1) := by decide +kernel
theorem dX10_keep_18 : decode cX10_keep 18 = .ok (.getfield 116, 3) := by decide +kernel
theorem dX10_keep_21 : decode cX10_keep 21 = .ok (.putfield 168, 3) := by decide +kernel
theorem dX10_keep_24 : decode cX10_keep 24 = .ok (.iconst 0, 1) := by decide +kernel
theorem dX10_keep_25 : decode cX10_keep 25 = .ok (.istore_n 1, 1) := by decide +kernel
theorem dX10_keep_26 : decode cX10_keep 26 = .ok (.iload_n 1, 1) := by decide +kernel
theorem dX10_keep_27 : decode cX10_keep 27 = .ok (.bipush 6, 2) := by decide +kernel
theorem dX10_keep_29 : decode cX10_keep 29 = .ok (.if_icmp .ge 69, 3) := by decide +kernel
theorem dX10_keep_32 : decode cX10_keep 32 = .ok (.aload_n 0, 1) := by decide +kernel
theorem dX10_keep_33 : decode cX10_keep 33 = .ok (.getfield 171, 3) := by decide +kernel
theorem dX10_keep_36 : decode cX10_keep 36 = .ok (.iload_n 1, 1) := by decide +kernel
theorem dX10_keep_37 : decode cX10_keep 37 = .ok (.aload_n 0, 1) := by decide +kernel
theorem dX10_keep_38 : decode cX10_keep 38 = .ok (.getfield 122, 3) := by decide +kernel
theorem dX10_keep_41 : decode cX10_keep 41 = .ok (.iload_n 1, 1) := by decide +kernel
theorem dX10_keep_42 : decode cX10_keep 42 = .ok (.iaload, 1) := by decide +kernel
theorem dX10_keep_43 : decode cX10_keep 43 = .ok (.iastore, 1) := by decide +kernel
theorem dX10_keep_44 : decode cX10_keep 44 = .ok (.aload_n 0, 1) := by decide +kernel
theorem dX10_keep_45 : decode cX10_keep 45 = .ok (.getfield 174, 3) := by decide +kernel
theorem dX10_keep_48 : decode cX10_keep 48 = .ok (.iload_n 1, 1) := by decide +kernel
theorem dX10_keep_49 : decode cX10_keep 49 = .ok (.aload_n 0, 1) := by decide +kernel
theorem dX10_keep_50 : decode cX10_keep 50 = .ok (.getfield 134, 3) := by decide +kernel
theorem dX10_keep_53 : decode cX10_keep 53 = .ok (.iload_n 1, 1) := by decide +kernel
theorem dX10_keep_54 : decode cX10_keep 54 = .ok (.iaload, 1) := by decide +kernel
theorem dX10_keep_55 : decode cX10_keep 55 = .ok (.iastore, 1) := by decide +kernel
theorem dX10_keep_56 : decode cX10_keep 56 = .ok (.aload_n 0, 1) := by decide +kernel
theorem dX10_keep_57 : decode cX10_keep 57 = .ok (.getfield 177, 3) := by decide +kernel
theorem dX10_keep_60 : decode cX10_keep 60 = .ok (.iload_n 1, 1) := by decide +kernel
theorem dX10_keep_61 : decode cX10_keep 61 = .ok (.aload_n 0, 1) := by decide +kernel
theorem dX10_keep_62 : decode cX10_keep 62 = .ok (.getfield 137, 3) := by decide +kernel
theorem dX10_keep_65 : decode cX10_keep 65 = .ok (.iload_n 1, 1) := by decide +kernel
theorem dX10_keep_66 : decode cX10_keep 66 = .ok (.iaload, 1) := by decide +kernel
theorem dX10_keep_67 : decode cX10_keep 67 = .ok (.iastore, 1) := by decide +kernel
theorem dX10_keep_68 : decode cX10_keep 68 = .ok (.aload_n 0, 1) := by decide +kernel
theorem dX10_keep_69 : decode cX10_keep 69 = .ok (.getfield 180, 3) := by decide +kernel
theorem dX10_keep_72 : decode cX10_keep 72 = .ok (.iload_n 1, 1) := by decide +kernel
theorem dX10_keep_73 : decode cX10_keep 73 = .ok (.aload_n 0, 1) := by decide +kernel
theorem dX10_keep_74 : decode cX10_keep 74 = .ok (.getfield 140, 3) := by decide +kernel
theorem dX10_keep_77 : decode cX10_keep 77 = .ok (.iload_n 1, 1) := by decide +kernel
theorem dX10_keep_78 : decode cX10_keep 78 = .ok (.iaload, 1) := by decide +kernel
theorem dX10_keep_79 : decode cX10_keep 79 = .ok (.iastore, 1) := by decide +kernel
theorem dX10_keep_80 : decode cX10_keep 80 = .ok (.aload_n 0, 1) := by decide +kernel
theorem dX10_keep_81 : decode cX10_keep 81 = .ok (.getfield 183, 3) := by decide +kernel
theorem dX10_keep_84 : decode cX10_keep 84 = .ok (.iload_n 1, 1) := by decide +kernel
theorem dX10_keep_85 : decode cX10_keep 85 = .ok (.aload_n 0, 1) := by decide +kernel
theorem dX10_keep_86 : decode cX10_keep 86 = .ok (.getfield 143, 3) := by decide +kernel
theorem dX10_keep_89 : decode cX10_keep 89 = .ok (.iload_n 1, 1) := by decide +kernel
theorem dX10_keep_90 : decode cX10_keep 90 = .ok (.iaload, 1) := by decide +kernel
theorem dX10_keep_91 : decode cX10_keep 91 = .ok (.iastore, 1) := by decide +kernel
theorem dX10_keep_92 : decode cX10_keep 92 = .ok (.iinc 1 1, 3) := by decide +kernel
theorem dX10_keep_95 : decode cX10_keep 95 = .ok (.goto (-69), 3) := by decide +kernel
theorem dX10_keep_98 : decode cX10_keep 98 = .ok (.return_, 1) := by decide +kernel
def f_X10_keep_L26   : Int32 × PM → Option ((Int32 × PM) ⊕ (PM)) := fun (x1 , u) =>
  if (6 : Int32) ≤ x1 then
    some (.inr (u))
  else
  if x1 < 0 ∨ 6 ≤ x1.toNatClampNeg then none else
  some (.inl (x1 + (1 : Int32), (pi (pi (pi (pi (pi u (73, 0, 0) x1.toNatClampNeg (u.1 (61, 0, 0) x1.toNatClampNeg)) (74, 0, 0) x1.toNatClampNeg (u.1 (65, 0, 0) x1.toNatClampNeg)) (75, 0, 0) x1.toNatClampNeg (u.1 (66, 0, 0) x1.toNatClampNeg)) (76, 0, 0) x1.toNatClampNeg (u.1 (67, 0, 0) x1.toNatClampNeg)) (77, 0, 0) x1.toNatClampNeg (u.1 (68, 0, 0) x1.toNatClampNeg))))
set_option maxHeartbeats 4000000 in
set_option maxRecDepth 20000 in
theorem K_X10_keep_L26 {l : Launch} {T : Option AV × List Key × AM}   : ∀ (n : Nat) (s : Int32 × PM) (e0 : PM), am_loop (f_X10_keep_L26) n s = some e0 → (fun e : PM => X l mX10_keep 1 0 0 false T kM 0 0 98 [none, none] [] (en e)) e0 → X l mX10_keep 1 0 0 false T kM 0 0 26 [some (vR (40, 0, 0)), some (vI s.1)] [] (en s.2) := by
  refine am_loop_of ?_
  intro s x hf k1 k2
  obtain ⟨x1 , u⟩ := s
  unfold f_X10_keep_L26 at hf
  show X l mX10_keep 1 0 0 false T kM 0 0 26 [some (vR (40, 0, 0)), some (vI x1)] [] (en u)
  refine r_iload_n (x := x1) dX10_keep_26 rfl ?_
  refine r_bipush (v := 6) dX10_keep_27 rfl ?_
  refine r_icmp_ge (tgt := 98) dX10_keep_29 (by decide) (fun hc => ?_) (fun hc => ?_)
  · have hf := (am_if hf).1 hc
    refine r_weak (L' := [none, none]) trivial ?_
    exact k2 (u) (am_inj hf).symm
  · have hf := (am_if hf).2 hc
    refine r_aload_n (x := (40, 0, 0)) dX10_keep_32 rfl ?_
    refine e_getr (z := some (73, 0, 0)) fw_X10_171 dX10_keep_33 (kM_mem (s := 40) (by decide)) rfl (lt_b rfl) rfl ?_
    refine r_iload_n (x := x1) dX10_keep_36 rfl ?_
    refine r_aload_n (x := (40, 0, 0)) dX10_keep_37 rfl ?_
    refine e_getr (z := some (61, 0, 0)) fw_X10_122 dX10_keep_38 (kM_mem (s := 40) (by decide)) rfl (lt_b rfl) rfl ?_
    refine r_iload_n (x := x1) dX10_keep_41 rfl ?_
    obtain ⟨h1, hf⟩ := am_nchk hf
    refine e_iald (n := x1.toNatClampNeg) dX10_keep_42 (kM_mem (s := 61) (by decide)) rfl h1 rfl rfl ?_
    refine e_iast (n := x1.toNatClampNeg) dX10_keep_43 (kM_mem (s := 73) (by decide)) rfl h1 rfl ?_
    refine r_aload_n (x := (40, 0, 0)) dX10_keep_44 rfl ?_
    refine e_getr (z := some (74, 0, 0)) fw_X10_174 dX10_keep_45 (kM_mem (s := 40) (by decide)) rfl (lt_b rfl) rfl ?_
    refine r_iload_n (x := x1) dX10_keep_48 rfl ?_
    refine r_aload_n (x := (40, 0, 0)) dX10_keep_49 rfl ?_
    refine e_getr (z := some (65, 0, 0)) fw_X10_134 dX10_keep_50 (kM_mem (s := 40) (by decide)) rfl (lt_b rfl) rfl ?_
    refine r_iload_n (x := x1) dX10_keep_53 rfl ?_
    refine e_iald (n := x1.toNatClampNeg) (x := u.1 (65, 0, 0) x1.toNatClampNeg) dX10_keep_54 (kM_mem (s := 65) (by decide)) rfl h1 rfl (by simp [pi, pl, pr, pci, pcl]) ?_
    refine e_iast (n := x1.toNatClampNeg) dX10_keep_55 (kM_mem (s := 74) (by decide)) rfl h1 rfl ?_
    refine r_aload_n (x := (40, 0, 0)) dX10_keep_56 rfl ?_
    refine e_getr (z := some (75, 0, 0)) fw_X10_177 dX10_keep_57 (kM_mem (s := 40) (by decide)) rfl (lt_b rfl) rfl ?_
    refine r_iload_n (x := x1) dX10_keep_60 rfl ?_
    refine r_aload_n (x := (40, 0, 0)) dX10_keep_61 rfl ?_
    refine e_getr (z := some (66, 0, 0)) fw_X10_137 dX10_keep_62 (kM_mem (s := 40) (by decide)) rfl (lt_b rfl) rfl ?_
    refine r_iload_n (x := x1) dX10_keep_65 rfl ?_
    refine e_iald (n := x1.toNatClampNeg) (x := u.1 (66, 0, 0) x1.toNatClampNeg) dX10_keep_66 (kM_mem (s := 66) (by decide)) rfl h1 rfl (by simp [pi, pl, pr, pci, pcl]) ?_
    refine e_iast (n := x1.toNatClampNeg) dX10_keep_67 (kM_mem (s := 75) (by decide)) rfl h1 rfl ?_
    refine r_aload_n (x := (40, 0, 0)) dX10_keep_68 rfl ?_
    refine e_getr (z := some (76, 0, 0)) fw_X10_180 dX10_keep_69 (kM_mem (s := 40) (by decide)) rfl (lt_b rfl) rfl ?_
    refine r_iload_n (x := x1) dX10_keep_72 rfl ?_
    refine r_aload_n (x := (40, 0, 0)) dX10_keep_73 rfl ?_
    refine e_getr (z := some (67, 0, 0)) fw_X10_140 dX10_keep_74 (kM_mem (s := 40) (by decide)) rfl (lt_b rfl) rfl ?_
    refine r_iload_n (x := x1) dX10_keep_77 rfl ?_
    refine e_iald (n := x1.toNatClampNeg) (x := u.1 (67, 0, 0) x1.toNatClampNeg) dX10_keep_78 (kM_mem (s := 67) (by decide)) rfl h1 rfl (by simp [pi, pl, pr, pci, pcl]) ?_
    refine e_iast (n := x1.toNatClampNeg) dX10_keep_79 (kM_mem (s := 76) (by decide)) rfl h1 rfl ?_
    refine r_aload_n (x := (40, 0, 0)) dX10_keep_80 rfl ?_
    refine e_getr (z := some (77, 0, 0)) fw_X10_183 dX10_keep_81 (kM_mem (s := 40) (by decide)) rfl (lt_b rfl) rfl ?_
    refine r_iload_n (x := x1) dX10_keep_84 rfl ?_
    refine r_aload_n (x := (40, 0, 0)) dX10_keep_85 rfl ?_
    refine e_getr (z := some (68, 0, 0)) fw_X10_143 dX10_keep_86 (kM_mem (s := 40) (by decide)) rfl (lt_b rfl) rfl ?_
    refine r_iload_n (x := x1) dX10_keep_89 rfl ?_
    refine e_iald (n := x1.toNatClampNeg) (x := u.1 (68, 0, 0) x1.toNatClampNeg) dX10_keep_90 (kM_mem (s := 68) (by decide)) rfl h1 rfl (by simp [pi, pl, pr, pci, pcl]) ?_
    refine e_iast (n := x1.toNatClampNeg) dX10_keep_91 (kM_mem (s := 77) (by decide)) rfl h1 rfl ?_
    refine r_iinc (x := x1) (v := x1 + (1 : Int32)) (L' := [some (vR (40, 0, 0)), some (vI (x1 + (1 : Int32)))]) dX10_keep_92 rfl rfl (lt_b rfl) rfl ?_
    refine r_goto (tgt := 26) dX10_keep_95 (by decide) ?_
    refine r_weak (L' := [some (vR (40, 0, 0)), some (vI (x1 + (1 : Int32)))]) (And.intro rfl (And.intro rfl trivial)) ?_
    exact k1 (x1 + (1 : Int32), (pi (pi (pi (pi (pi u (73, 0, 0) x1.toNatClampNeg (u.1 (61, 0, 0) x1.toNatClampNeg)) (74, 0, 0) x1.toNatClampNeg (u.1 (65, 0, 0) x1.toNatClampNeg)) (75, 0, 0) x1.toNatClampNeg (u.1 (66, 0, 0) x1.toNatClampNeg)) (76, 0, 0) x1.toNatClampNeg (u.1 (67, 0, 0) x1.toNatClampNeg)) (77, 0, 0) x1.toNatClampNeg (u.1 (68, 0, 0) x1.toNatClampNeg))) (am_inj hf).symm
def f_X10_keep   (u : PM) : Option (PM) :=
  (am_loop (f_X10_keep_L26) 2000 ((0 : Int32), (pi (pi (pi u (40, 0, 0) 50 (u.1 (40, 0, 0) 32)) (40, 0, 0) 51 (u.1 (40, 0, 0) 33)) (40, 0, 0) 52 (u.1 (40, 0, 0) 35)))).bind fun u4 =>
  some u4
set_option maxHeartbeats 4000000 in
set_option maxRecDepth 20000 in
theorem C_X10_keep {l : Launch}   {u : PM} {x : PM} (hf : f_X10_keep u = some x) : Ev l mX10_keep 1 0 0 false [vR (40, 0, 0)] kM (en u) (none, kM, en x) := by
  refine Ev_of (by decide +kernel) (le_b rfl) ?_
  unfold f_X10_keep at hf
  show X l mX10_keep 1 0 0 false _ kM 0 0 0 [some (vR (40, 0, 0)), none] [] (en u)
  refine r_aload_n (x := (40, 0, 0)) dX10_keep_0 rfl ?_
  refine r_aload_n (x := (40, 0, 0)) dX10_keep_1 rfl ?_
  refine e_geti fw_X10_107 dX10_keep_2 (kM_mem (s := 40) (by decide)) rfl (lt_b rfl) ?_
  refine e_puti fp_X10_162 dX10_keep_5 (kM_mem (s := 40) (by decide)) rfl (lt_b rfl) rfl rfl rfl ?_
  refine r_aload_n (x := (40, 0, 0)) dX10_keep_8 rfl ?_
  refine r_aload_n (x := (40, 0, 0)) dX10_keep_9 rfl ?_
  refine e_geti_ (x := u.1 (40, 0, 0) 33) fw_X10_110 dX10_keep_10 (kM_mem (s := 40) (by decide)) rfl (lt_b rfl) (by simp [pi, pl, pr, pci, pcl]) ?_
  refine e_puti fp_X10_165 dX10_keep_13 (kM_mem (s := 40) (by decide)) rfl (lt_b rfl) rfl rfl rfl ?_
  refine r_aload_n (x := (40, 0, 0)) dX10_keep_16 rfl ?_
  refine r_aload_n (x := (40, 0, 0)) dX10_keep_17 rfl ?_
  refine e_geti_ (x := u.1 (40, 0, 0) 35) fw_X10_116 dX10_keep_18 (kM_mem (s := 40) (by decide)) rfl (lt_b rfl) (by simp [pi, pl, pr, pci, pcl]) ?_
  refine e_puti fp_X10_168 dX10_keep_21 (kM_mem (s := 40) (by decide)) rfl (lt_b rfl) rfl rfl rfl ?_
  refine r_iconst (v := 0) dX10_keep_24 rfl ?_
  refine r_istore_n (L' := [some (vR (40, 0, 0)), some (vI (0 : Int32))]) dX10_keep_25 (by decide) rfl ?_
  refine r_weak (L' := [some (vR (40, 0, 0)), some (vI (0 : Int32))]) (And.intro rfl (And.intro rfl trivial)) ?_
  obtain ⟨e2, he3, hf⟩ := am_bind hf
  refine K_X10_keep_L26  2000 ((0 : Int32), (pi (pi (pi u (40, 0, 0) 50 (u.1 (40, 0, 0) 32)) (40, 0, 0) 51 (u.1 (40, 0, 0) 33)) (40, 0, 0) 52 (u.1 (40, 0, 0) 35))) _ he3 ?_
  obtain ⟨u4, rfl⟩ : ∃ z, z = e2 := ⟨_, rfl⟩
  show X l _ _ 0 0 false _ kM 0 0 98 [none, none] [] (en u4)
  have hx := am_inj hf
  subst hx
  exact r_vret dX10_keep_98 rfl (le_b rfl) (le_b rfl)
/-! FireFromFireModel.layBack -/
theorem dX10_layBack_0 : decode cX10_layBack 0 = .ok (.aload_n 0, 1) := by decide +kernel
theorem dX10_layBack_1 : decode cX10_layBack 1 = .ok (.aload_n 0, 1) := by decide +kernel
theorem dX10_layBack_2 : decode cX10_layBack 2 = .ok (.getfield 162, 3) := by decide +kernel
theorem dX10_layBack_5 : decode cX10_layBack 5 = .ok (.putfield 107, 3) := by decide +kernel
theorem dX10_layBack_8 : decode cX10_layBack 8 = .ok (.aload_n 0, 1) := by decide +kernel
theorem dX10_layBack_9 : decode cX10_layBack 9 = .ok (.aload_n 0, 1) := by decide +kernel
theorem dX10_layBack_10 : decode cX10_layBack 10 = .ok (.getfield 165, 3) := by decide +kernel
theorem dX10_layBack_13 : decode cX10_layBack 13 = .ok (.putfield 110, 3) := by decide +kernel
theorem dX10_layBack_16 : decode cX10_layBack 16 = .ok (.aload_n 0, 1) := by decide +kernel
theorem dX10_layBack_17 : decode cX10_layBack 17 = .ok (.aload_n 0, 1) := by decide +kernel
theorem dX10_layBack_18 : decode cX10_layBack 18 = .ok (.getfield 168, 3) := by decide +kernel
theorem dX10_layBack_21 : decode cX10_layBack 21 = .ok (.putfield 116, 3) := by decide +kernel
theorem dX10_layBack_24 : decode cX10_layBack 24 = .ok (.iconst 0, 1) := by decide +kernel
theorem dX10_layBack_25 : decode cX10_layBack 25 = .ok (.istore_n 1, 1) := by decide +kernel
theorem dX10_layBack_26 : decode cX10_layBack 26 = .ok (.iload_n 1, 1) := by decide +kernel
theorem dX10_layBack_27 : decode cX10_layBack 27 = .ok (.bipush 6, 2) := by decide +kernel
theorem dX10_layBack_29 : decode cX10_layBack 29 = .ok (.if_icmp .ge 69, 3) := by decide +kernel
theorem dX10_layBack_32 : decode cX10_layBack 32 = .ok (.aload_n 0, 1) := by decide +kernel
theorem dX10_layBack_33 : decode cX10_layBack 33 = .ok (.getfield 122, 3) := by decide +kernel
theorem dX10_layBack_36 : decode cX10_layBack 36 = .ok (.iload_n 1, 1) := by decide +kernel
theorem dX10_layBack_37 : decode cX10_layBack 37 = .ok (.aload_n 0, 1) := by decide +kernel
theorem dX10_layBack_38 : decode cX10_layBack 38 = .ok (.getfield 171, 3) := by decide +kernel
theorem dX10_layBack_41 : decode cX10_layBack 41 = .ok (.iload_n 1, 1) := by decide +kernel
theorem dX10_layBack_42 : decode cX10_layBack 42 = .ok (.iaload, 1) := by decide +kernel
theorem dX10_layBack_43 : decode cX10_layBack 43 = .ok (.iastore, 1) := by decide +kernel
theorem dX10_layBack_44 : decode cX10_layBack 44 = .ok (.aload_n 0, 1) := by decide +kernel
theorem dX10_layBack_45 : decode cX10_layBack 45 = .ok (.getfield 134, 3) := by decide +kernel
theorem dX10_layBack_48 : decode cX10_layBack 48 = .ok (.iload_n 1, 1) := by decide +kernel
theorem dX10_layBack_49 : decode cX10_layBack 49 = .ok (.aload_n 0, 1) := by decide +kernel
theorem dX10_layBack_50 : decode cX10_layBack 50 = .ok (.getfield 174, 3) := by decide +kernel
theorem dX10_layBack_53 : decode cX10_layBack 53 = .ok (.iload_n 1, 1) := by decide +kernel
theorem dX10_layBack_54 : decode cX10_layBack 54 = .ok (.iaload, 1) := by decide +kernel
theorem dX10_layBack_55 : decode cX10_layBack 55 = .ok (.iastore, 1) := by decide +kernel
theorem dX10_layBack_56 : decode cX10_layBack 56 = .ok (.aload_n 0, 1) := by decide +kernel
theorem dX10_layBack_57 : decode cX10_layBack 57 = .ok (.getfield 137, 3) := by decide +kernel
theorem dX10_layBack_60 : decode cX10_layBack 60 = .ok (.iload_n 1, 1) := by decide +kernel
theorem dX10_layBack_61 : decode cX10_layBack 61 = .ok (.aload_n 0, 1) := by decide +kernel
theorem dX10_layBack_62 : decode cX10_layBack 62 = .ok (.getfield 177, 3) := by decide +kernel
theorem dX10_layBack_65 : decode cX10_layBack 65 = .ok (.iload_n 1, 1) := by decide +kernel
theorem dX10_layBack_66 : decode cX10_layBack 66 = .ok (.iaload, 1) := by decide +kernel
theorem dX10_layBack_67 : decode cX10_layBack 67 = .ok (.iastore, 1) := by decide +kernel
theorem dX10_layBack_68 : decode cX10_layBack 68 = .ok (.aload_n 0, 1) := by decide +kernel
theorem dX10_layBack_69 : decode cX10_layBack 69 = .ok (.getfield 140, 3) := by decide +kernel
theorem dX10_layBack_72 : decode cX10_layBack 72 = .ok (.iload_n 1, 1) := by decide +kernel
theorem dX10_layBack_73 : decode cX10_layBack 73 = .ok (.aload_n 0, 1) := by decide +kernel
theorem dX10_layBack_74 : decode cX10_layBack 74 = .ok (.getfield 180, 3) := by decide +kernel
theorem dX10_layBack_77 : decode cX10_layBack 77 = .ok (.iload_n 1, 1) := by decide +kernel
theorem dX10_layBack_78 : decode cX10_layBack 78 = .ok (.iaload, 1) := by decide +kernel
theorem dX10_layBack_79 : decode cX10_layBack 79 = .ok (.iastore, 1) := by decide +kernel
theorem dX10_layBack_80 : decode cX10_layBack 80 = .ok (.aload_n 0, 1) := by decide +kernel
theorem dX10_layBack_81 : decode cX10_layBack 81 = .ok (.getfield 143, 3) := by decide +kernel
theorem dX10_layBack_84 : decode cX10_layBack 84 = .ok (.iload_n 1, 1) := by decide +kernel
theorem dX10_layBack_85 : decode cX10_layBack 85 = .ok (.aload_n 0, 1) := by decide +kernel
theorem dX10_layBack_86 : decode cX10_layBack 86 = .ok (.getfield 183, 3) := by decide +kernel
theorem dX10_layBack_89 : decode cX10_layBack 89 = .ok (.iload_n 1, 1) := by decide +kernel
theorem dX10_layBack_90 : decode cX10_layBack 90 = .ok (.iaload, 1) := by decide +kernel
theorem dX10_layBack_91 : decode cX10_layBack 91 = .ok (.iastore, 1) := by decide +kernel
theorem dX10_layBack_92 : decode cX10_layBack 92 = .ok (.iinc 1 1, 3) := by decide +kernel
theorem dX10_layBack_95 : decode cX10_layBack 95 = .ok (.goto (-69), 3) := by decide +kernel
theorem dX10_layBack_98 : decode cX10_layBack 98 = .ok (.aload_n 0, 1) := by decide +kernel
theorem dX10_layBack_99 : decode cX10_layBack 99 = .ok (.invokevirtual 348, 3) := by decide +kernel
theorem dX10_layBack_102 : decode cX10_layBack 102 = .ok (.return_, 1) := by decide +kernel
def f_X10_layBack_L26   : Int32 × PM → Option ((Int32 × PM) ⊕ (PM)) := fun (x1 , u) =>
  if (6 : Int32) ≤ x1 then
    some (.inr (u))
  else
  if x1 < 0 ∨ 6 ≤ x1.toNatClampNeg then none else
  some (.inl (x1 + (1 : Int32), (pi (pi (pi (pi (pi u (61, 0, 0) x1.toNatClampNeg (u.1 (73, 0, 0) x1.toNatClampNeg)) (65, 0, 0) x1.toNatClampNeg (u.1 (74, 0, 0) x1.toNatClampNeg)) (66, 0, 0) x1.toNatClampNeg (u.1 (75, 0, 0) x1.toNatClampNeg)) (67, 0, 0) x1.toNatClampNeg (u.1 (76, 0, 0) x1.toNatClampNeg)) (68, 0, 0) x1.toNatClampNeg (u.1 (77, 0, 0) x1.toNatClampNeg))))
set_option maxHeartbeats 4000000 in
set_option maxRecDepth 20000 in
theorem K_X10_layBack_L26 {l : Launch} {T : Option AV × List Key × AM}   : ∀ (n : Nat) (s : Int32 × PM) (e0 : PM), am_loop (f_X10_layBack_L26) n s = some e0 → (fun e : PM => X l mX10_layBack 2 0 0 false T kM 0 0 98 [some (vR (40, 0, 0)), none] [] (en e)) e0 → X l mX10_layBack 2 0 0 false T kM 0 0 26 [some (vR (40, 0, 0)), some (vI s.1)] [] (en s.2) := by
  refine am_loop_of ?_
  intro s x hf k1 k2
  obtain ⟨x1 , u⟩ := s
  unfold f_X10_layBack_L26 at hf
  show X l mX10_layBack 2 0 0 false T kM 0 0 26 [some (vR (40, 0, 0)), some (vI x1)] [] (en u)
  refine r_iload_n (x := x1) dX10_layBack_26 rfl ?_
  refine r_bipush (v := 6) dX10_layBack_27 rfl ?_
  refine r_icmp_ge (tgt := 98) dX10_layBack_29 (by decide) (fun hc => ?_) (fun hc => ?_)
  · have hf := (am_if hf).1 hc
    refine r_weak (L' := [some (vR (40, 0, 0)), none]) (And.intro rfl trivial) ?_
    exact k2 (u) (am_inj hf).symm
  · have hf := (am_if hf).2 hc
    refine r_aload_n (x := (40, 0, 0)) dX10_layBack_32 rfl ?_
    refine e_getr (z := some (61, 0, 0)) fw_X10_122 dX10_layBack_33 (kM_mem (s := 40) (by decide)) rfl (lt_b rfl) rfl ?_
    refine r_iload_n (x := x1) dX10_layBack_36 rfl ?_
    refine r_aload_n (x := (40, 0, 0)) dX10_layBack_37 rfl ?_
    refine e_getr (z := some (73, 0, 0)) fw_X10_171 dX10_layBack_38 (kM_mem (s := 40) (by decide)) rfl (lt_b rfl) rfl ?_
    refine r_iload_n (x := x1) dX10_layBack_41 rfl ?_
    obtain ⟨h1, hf⟩ := am_nchk hf
    refine e_iald (n := x1.toNatClampNeg) dX10_layBack_42 (kM_mem (s := 73) (by decide)) rfl h1 rfl rfl ?_
    refine e_iast (n := x1.toNatClampNeg) dX10_layBack_43 (kM_mem (s := 61) (by decide)) rfl h1 rfl ?_
    refine r_aload_n (x := (40, 0, 0)) dX10_layBack_44 rfl ?_
    refine e_getr (z := some (65, 0, 0)) fw_X10_134 dX10_layBack_45 (kM_mem (s := 40) (by decide)) rfl (lt_b rfl) rfl ?_
    refine r_iload_n (x := x1) dX10_layBack_48 rfl ?_
    refine r_aload_n (x := (40, 0, 0)) dX10_layBack_49 rfl ?_
    refine e_getr (z := some (74, 0, 0)) fw_X10_174 dX10_layBack_50 (kM_mem (s := 40) (by decide)) rfl (lt_b rfl) rfl ?_
    refine r_iload_n (x := x1) dX10_layBack_53 rfl ?_
    refine e_iald (n := x1.toNatClampNeg) (x := u.1 (74, 0, 0) x1.toNatClampNeg) dX10_layBack_54 (kM_mem (s := 74) (by decide)) rfl h1 rfl (by simp [pi, pl, pr, pci, pcl]) ?_
    refine e_iast (n := x1.toNatClampNeg) dX10_layBack_55 (kM_mem (s := 65) (by decide)) rfl h1 rfl ?_
    refine r_aload_n (x := (40, 0, 0)) dX10_layBack_56 rfl ?_
    refine e_getr (z := some (66, 0, 0)) fw_X10_137 dX10_layBack_57 (kM_mem (s := 40) (by decide)) rfl (lt_b rfl) rfl ?_
    refine r_iload_n (x := x1) dX10_layBack_60 rfl ?_
    refine r_aload_n (x := (40, 0, 0)) dX10_layBack_61 rfl ?_
    refine e_getr (z := some (75, 0, 0)) fw_X10_177 dX10_layBack_62 (kM_mem (s := 40) (by decide)) rfl (lt_b rfl) rfl ?_
    refine r_iload_n (x := x1) dX10_layBack_65 rfl ?_
    refine e_iald (n := x1.toNatClampNeg) (x := u.1 (75, 0, 0) x1.toNatClampNeg) dX10_layBack_66 (kM_mem (s := 75) (by decide)) rfl h1 rfl (by simp [pi, pl, pr, pci, pcl]) ?_
    refine e_iast (n := x1.toNatClampNeg) dX10_layBack_67 (kM_mem (s := 66) (by decide)) rfl h1 rfl ?_
    refine r_aload_n (x := (40, 0, 0)) dX10_layBack_68 rfl ?_
    refine e_getr (z := some (67, 0, 0)) fw_X10_140 dX10_layBack_69 (kM_mem (s := 40) (by decide)) rfl (lt_b rfl) rfl ?_
    refine r_iload_n (x := x1) dX10_layBack_72 rfl ?_
    refine r_aload_n (x := (40, 0, 0)) dX10_layBack_73 rfl ?_
    refine e_getr (z := some (76, 0, 0)) fw_X10_180 dX10_layBack_74 (kM_mem (s := 40) (by decide)) rfl (lt_b rfl) rfl ?_
    refine r_iload_n (x := x1) dX10_layBack_77 rfl ?_
    refine e_iald (n := x1.toNatClampNeg) (x := u.1 (76, 0, 0) x1.toNatClampNeg) dX10_layBack_78 (kM_mem (s := 76) (by decide)) rfl h1 rfl (by simp [pi, pl, pr, pci, pcl]) ?_
    refine e_iast (n := x1.toNatClampNeg) dX10_layBack_79 (kM_mem (s := 67) (by decide)) rfl h1 rfl ?_
    refine r_aload_n (x := (40, 0, 0)) dX10_layBack_80 rfl ?_
    refine e_getr (z := some (68, 0, 0)) fw_X10_143 dX10_layBack_81 (kM_mem (s := 40) (by decide)) rfl (lt_b rfl) rfl ?_
    refine r_iload_n (x := x1) dX10_layBack_84 rfl ?_
    refine r_aload_n (x := (40, 0, 0)) dX10_layBack_85 rfl ?_
    refine e_getr (z := some (77, 0, 0)) fw_X10_183 dX10_layBack_86 (kM_mem (s := 40) (by decide)) rfl (lt_b rfl) rfl ?_
    refine r_iload_n (x := x1) dX10_layBack_89 rfl ?_
    refine e_iald (n := x1.toNatClampNeg) (x := u.1 (77, 0, 0) x1.toNatClampNeg) dX10_layBack_90 (kM_mem (s := 77) (by decide)) rfl h1 rfl (by simp [pi, pl, pr, pci, pcl]) ?_
    refine e_iast (n := x1.toNatClampNeg) dX10_layBack_91 (kM_mem (s := 68) (by decide)) rfl h1 rfl ?_
    refine r_iinc (x := x1) (v := x1 + (1 : Int32)) (L' := [some (vR (40, 0, 0)), some (vI (x1 + (1 : Int32)))]) dX10_layBack_92 rfl rfl (lt_b rfl) rfl ?_
    refine r_goto (tgt := 26) dX10_layBack_95 (by decide) ?_
    refine r_weak (L' := [some (vR (40, 0, 0)), some (vI (x1 + (1 : Int32)))]) (And.intro rfl (And.intro rfl trivial)) ?_
    exact k1 (x1 + (1 : Int32), (pi (pi (pi (pi (pi u (61, 0, 0) x1.toNatClampNeg (u.1 (73, 0, 0) x1.toNatClampNeg)) (65, 0, 0) x1.toNatClampNeg (u.1 (74, 0, 0) x1.toNatClampNeg)) (66, 0, 0) x1.toNatClampNeg (u.1 (75, 0, 0) x1.toNatClampNeg)) (67, 0, 0) x1.toNatClampNeg (u.1 (76, 0, 0) x1.toNatClampNeg)) (68, 0, 0) x1.toNatClampNeg (u.1 (77, 0, 0) x1.toNatClampNeg))) (am_inj hf).symm
def f_X10_layBack   (u : PM) : Option (PM) :=
  (am_loop (f_X10_layBack_L26) 2000 ((0 : Int32), (pi (pi (pi u (40, 0, 0) 32 (u.1 (40, 0, 0) 50)) (40, 0, 0) 33 (u.1 (40, 0, 0) 51)) (40, 0, 0) 35 (u.1 (40, 0, 0) 52)))).bind fun u4 =>
  (f_X10_begin u4).bind fun r5 =>
  some r5
set_option maxHeartbeats 4000000 in
set_option maxRecDepth 20000 in
theorem C_X10_layBack {l : Launch}   {u : PM} {x : PM} (hf : f_X10_layBack u = some x) : Ev l mX10_layBack 2 0 0 false [vR (40, 0, 0)] kM (en u) (none, kM, en x) := by
  refine Ev_of (by decide +kernel) (le_b rfl) ?_
  unfold f_X10_layBack at hf
  show X l mX10_layBack 2 0 0 false _ kM 0 0 0 [some (vR (40, 0, 0)), none] [] (en u)
  refine r_aload_n (x := (40, 0, 0)) dX10_layBack_0 rfl ?_
  refine r_aload_n (x := (40, 0, 0)) dX10_layBack_1 rfl ?_
  refine e_geti fw_X10_162 dX10_layBack_2 (kM_mem (s := 40) (by decide)) rfl (lt_b rfl) ?_
  refine e_puti fp_X10_107 dX10_layBack_5 (kM_mem (s := 40) (by decide)) rfl (lt_b rfl) rfl rfl rfl ?_
  refine r_aload_n (x := (40, 0, 0)) dX10_layBack_8 rfl ?_
  refine r_aload_n (x := (40, 0, 0)) dX10_layBack_9 rfl ?_
  refine e_geti_ (x := u.1 (40, 0, 0) 51) fw_X10_165 dX10_layBack_10 (kM_mem (s := 40) (by decide)) rfl (lt_b rfl) (by simp [pi, pl, pr, pci, pcl]) ?_
  refine e_puti fp_X10_110 dX10_layBack_13 (kM_mem (s := 40) (by decide)) rfl (lt_b rfl) rfl rfl rfl ?_
  refine r_aload_n (x := (40, 0, 0)) dX10_layBack_16 rfl ?_
  refine r_aload_n (x := (40, 0, 0)) dX10_layBack_17 rfl ?_
  refine e_geti_ (x := u.1 (40, 0, 0) 52) fw_X10_168 dX10_layBack_18 (kM_mem (s := 40) (by decide)) rfl (lt_b rfl) (by simp [pi, pl, pr, pci, pcl]) ?_
  refine e_puti fp_X10_116 dX10_layBack_21 (kM_mem (s := 40) (by decide)) rfl (lt_b rfl) rfl rfl rfl ?_
  refine r_iconst (v := 0) dX10_layBack_24 rfl ?_
  refine r_istore_n (L' := [some (vR (40, 0, 0)), some (vI (0 : Int32))]) dX10_layBack_25 (by decide) rfl ?_
  refine r_weak (L' := [some (vR (40, 0, 0)), some (vI (0 : Int32))]) (And.intro rfl (And.intro rfl trivial)) ?_
  obtain ⟨e2, he3, hf⟩ := am_bind hf
  refine K_X10_layBack_L26  2000 ((0 : Int32), (pi (pi (pi u (40, 0, 0) 32 (u.1 (40, 0, 0) 50)) (40, 0, 0) 33 (u.1 (40, 0, 0) 51)) (40, 0, 0) 35 (u.1 (40, 0, 0) 52))) _ he3 ?_
  obtain ⟨u4, rfl⟩ : ∃ z, z = e2 := ⟨_, rfl⟩
  show X l _ _ 0 0 false _ kM 0 0 98 [some (vR (40, 0, 0)), none] [] (en u4)
  refine r_aload_n (x := (40, 0, 0)) dX10_layBack_98 rfl ?_
  obtain ⟨r5, hr6, hf⟩ := am_bind hf
  refine r_callV (as := []) (st := []) (n := 0) mw_X10_348 mv_X10_begin (C_X10_begin (l := l) hr6) (le_b rfl) dX10_layBack_99 (kM_mem (s := 40) (by decide)) rfl rfl rfl (le_b rfl) (le_b rfl) (le_b rfl) ?_
  show X l _ _ 0 0 false _ kM 0 0 102 [some (vR (40, 0, 0)), none] [] (en r5)
  have hx := am_inj hf
  subst hx
  exact r_vret dX10_layBack_102 rfl (le_b rfl) (le_b rfl)
/-! FireFromFireModel.mishapWeight -/
theorem dX10_mishapWeight_0 : decode cX10_mishapWeight 0 = .ok (.lconst 1, 1) := by decide +kernel
theorem dX10_mishapWeight_1 : decode cX10_mishapWeight 1 = .ok (.lstore_n 3, 1) := by decide +kernel
theorem dX10_mishapWeight_2 : decode cX10_mishapWeight 2 = .ok (.iconst 0, 1) := by decide +kernel
theorem dX10_mishapWeight_3 : decode cX10_mishapWeight 3 = .ok (.istore 5, 2) := by decide +kernel
theorem dX10_mishapWeight_5 : decode cX10_mishapWeight 5 = .ok (.iload 5, 2) := by decide +kernel
theorem dX10_mishapWeight_7 : decode cX10_mishapWeight 7 = .ok (.aload_n 0, 1) := by decide +kernel
theorem dX10_mishapWeight_8 : decode cX10_mishapWeight 8 = .ok (.getfield 7, 3) := by decide +kernel
theorem dX10_mishapWeight_11 : decode cX10_mishapWeight 11 = .ok (.if_icmp .ge 61, 3) := by decide +kernel
theorem dX10_mishapWeight_14 : decode cX10_mishapWeight 14 = .ok (.aload_n 0, 1) := by decide +kernel
theorem dX10_mishapWeight_15 : decode cX10_mishapWeight 15 = .ok (.aload_n 0, 1) := by decide +kernel
theorem dX10_mishapWeight_16 : decode cX10_mishapWeight 16 = .ok (.getfield 113, 3) := by decide +kernel
theorem dX10_mishapWeight_19 : decode cX10_mishapWeight 19 = .ok (.iload 5, 2) := by decide +kernel
theorem dX10_mishapWeight_21 : decode cX10_mishapWeight 21 = .ok (.invokevirtual 275, 3) := by decide +kernel
theorem dX10_mishapWeight_24 : decode cX10_mishapWeight 24 = .ok (.ifCond .eq 14, 3) := by decide +kernel
theorem dX10_mishapWeight_27 : decode cX10_mishapWeight 27 = .ok (.aload_n 0, 1) := by decide +kernel
theorem dX10_mishapWeight_28 : decode cX10_mishapWeight 28 = .ok (.iconst 0, 1) := by decide +kernel
theorem dX10_mishapWeight_29 : decode cX10_mishapWeight 29 = .ok (.iload 5, 2) := by decide +kernel
theorem dX10_mishapWeight_31 : decode cX10_mishapWeight 31 = .ok (.iload_n 2, 1) := by decide +kernel
theorem dX10_mishapWeight_32 : decode cX10_mishapWeight 32 = .ok (.invokevirtual 364, 3) := by decide +kernel
theorem dX10_mishapWeight_35 : decode cX10_mishapWeight 35 = .ok (.goto 4, 3) := by decide +kernel
theorem dX10_mishapWeight_38 : decode cX10_mishapWeight 38 = .ok (.iconst 0, 1) := by decide +kernel
theorem dX10_mishapWeight_39 : decode cX10_mishapWeight 39 = .ok (.istore 6, 2) := by decide +kernel
theorem dX10_mishapWeight_41 : decode cX10_mishapWeight 41 = .ok (.lload_n 3, 1) := by decide +kernel
theorem dX10_mishapWeight_42 : decode cX10_mishapWeight 42 = .ok (.aload_n 0, 1) := by decide +kernel
theorem dX10_mishapWeight_43 : decode cX10_mishapWeight 43 = .ok (.iload_n 1, 1) := by decide +kernel
theorem dX10_mishapWeight_44 : decode cX10_mishapWeight 44 = .ok (.iload 5, 2) := by decide +kernel
theorem dX10_mishapWeight_46 : decode cX10_mishapWeight 46 = .ok (.invokevirtual 275, 3) := by decide +kernel
theorem dX10_mishapWeight_49 : decode cX10_mishapWeight 49 = .ok (.ifCond .eq 9, 3) := by decide +kernel
theorem dX10_mishapWeight_52 : decode cX10_mishapWeight 52 = .ok (.iload 6, 2) := by decide +kernel
theorem dX10_mishapWeight_54 : decode cX10_mishapWeight 54 = .ok (.i2l, 1) := by decide +kernel
theorem dX10_mishapWeight_55 : decode cX10_mishapWeight 55 = .ok (.goto 9, 3) := by decide +kernel
theorem dX10_mishapWeight_58 : decode cX10_mishapWeight 58 = .ok (.bipush 100, 2) := by decide +kernel
theorem dX10_mishapWeight_60 : decode cX10_mishapWeight 60 = .ok (.iload 6, 2) := by decide +kernel
theorem dX10_mishapWeight_62 : decode cX10_mishapWeight 62 = .ok (.isub, 1) := by decide +kernel
theorem dX10_mishapWeight_63 : decode cX10_mishapWeight 63 = .ok (.i2l, 1) := by decide +kernel
theorem dX10_mishapWeight_64 : decode cX10_mishapWeight 64 = .ok (.lmul, 1) := by decide +kernel
theorem dX10_mishapWeight_65 : decode cX10_mishapWeight 65 = .ok (.lstore_n 3, 1) := by decide +kernel
theorem dX10_mishapWeight_66 : decode cX10_mishapWeight 66 = .ok (.iinc 5 1, 3) := by decide +kernel
theorem dX10_mishapWeight_69 : decode cX10_mishapWeight 69 = .ok (.goto (-64), 3) := by decide +kernel
theorem dX10_mishapWeight_72 : decode cX10_mishapWeight 72 = .ok (.lload_n 3, 1) := by decide +kernel
theorem dX10_mishapWeight_73 : decode cX10_mishapWeight 73 = .ok (.lreturn, 1) := by decide +kernel
def f_X10_mishapWeight_L5  (c1 : Int32) (c2 : Int32) : Int64 × Int32 × PM → Option ((Int64 × Int32 × PM) ⊕ (Int64 × PM)) := fun (x3 , x5 , u) =>
  if (u.1 (40, 0, 0) 0) ≤ x5 then
    some (.inr (x3, u))
  else
  (f_X10_has (u.1 (40, 0, 0) 34) x5 u).bind fun r1 =>
  if r1 = 0 then
    (f_X10_has c1 x5 u).bind fun r3 =>
    if r3 = 0 then
      some (.inl (x3 * (((100 : Int32) - (0 : Int32)).toInt64), x5 + (1 : Int32), u))
    else
    some (.inl (x3 * ((0 : Int32).toInt64), x5 + (1 : Int32), u))
  else
  (f_X10_sumOf (0 : Int32) x5 c2 u).bind fun (r5, u7) =>
  (f_X10_has c1 x5 u7).bind fun r8 =>
  if r8 = 0 then
    some (.inl (x3 * (((100 : Int32) - r5).toInt64), x5 + (1 : Int32), u7))
  else
  some (.inl (x3 * r5.toInt64, x5 + (1 : Int32), u7))
set_option maxHeartbeats 4000000 in
set_option maxRecDepth 20000 in
theorem K_X10_mishapWeight_L5 {l : Launch} {T : Option AV × List Key × AM}  {c1 : Int32} {c2 : Int32} : ∀ (n : Nat) (s : Int64 × Int32 × PM) (e0 : Int64 × PM), am_loop (f_X10_mishapWeight_L5 c1 c2) n s = some e0 → (fun e : Int64 × PM => X l mX10_mishapWeight 5 0 0 false T kM 0 0 72 [none, none, none, some (vJ e.1), none, none, none] [] (en e.2)) e0 → X l mX10_mishapWeight 5 0 0 false T kM 0 0 5 [some (vR (40, 0, 0)), some (vI c1), some (vI c2), some (vJ s.1), none, some (vI s.2.1), none] [] (en s.2.2) := by
  refine am_loop_of ?_
  intro s x hf k1 k2
  obtain ⟨x3 , x5 , u⟩ := s
  unfold f_X10_mishapWeight_L5 at hf
  show X l mX10_mishapWeight 5 0 0 false T kM 0 0 5 [some (vR (40, 0, 0)), some (vI c1), some (vI c2), some (vJ x3), none, some (vI x5), none] [] (en u)
  refine r_iload (x := x5) dX10_mishapWeight_5 rfl ?_
  refine r_aload_n (x := (40, 0, 0)) dX10_mishapWeight_7 rfl ?_
  refine e_geti fw_X10_7 dX10_mishapWeight_8 (kM_mem (s := 40) (by decide)) rfl (lt_b rfl) ?_
  refine r_icmp_ge (tgt := 72) dX10_mishapWeight_11 (by decide) (fun hc => ?_) (fun hc => ?_)
  · have hf := (am_if hf).1 hc
    refine r_weak (L' := [none, none, none, some (vJ x3), none, none, none]) (And.intro rfl trivial) ?_
    exact k2 (x3, u) (am_inj hf).symm
  · have hf := (am_if hf).2 hc
    refine r_aload_n (x := (40, 0, 0)) dX10_mishapWeight_14 rfl ?_
    refine r_aload_n (x := (40, 0, 0)) dX10_mishapWeight_15 rfl ?_
    refine e_geti fw_X10_113 dX10_mishapWeight_16 (kM_mem (s := 40) (by decide)) rfl (lt_b rfl) ?_
    refine r_iload (x := x5) dX10_mishapWeight_19 rfl ?_
    obtain ⟨r1, hr2, hf⟩ := am_bind hf
    refine r_callV (as := [vI (u.1 (40, 0, 0) 34), vI x5]) (st := []) (n := 2) mw_X10_275 mv_X10_has (C_X10_has (l := l) hr2) (le_b rfl) dX10_mishapWeight_21 (kM_mem (s := 40) (by decide)) rfl rfl rfl (le_b rfl) (le_b rfl) (le_b rfl) ?_
    show X l _ _ 0 0 false _ kM 0 0 24 [some (vR (40, 0, 0)), some (vI c1), some (vI c2), some (vJ x3), none, some (vI x5), none] [vI r1] (en u)
    refine r_if_eq (tgt := 38) dX10_mishapWeight_24 (by decide) (fun hc => ?_) (fun hc => ?_)
    · have hf := (am_if hf).1 hc
      refine r_iconst (v := 0) dX10_mishapWeight_38 rfl ?_
      refine r_istore (L' := [some (vR (40, 0, 0)), some (vI c1), some (vI c2), some (vJ x3), none, some (vI x5), some (vI (0 : Int32))]) dX10_mishapWeight_39 (by decide) rfl ?_
      refine r_lload_n (x := x3) dX10_mishapWeight_41 rfl ?_
      refine r_aload_n (x := (40, 0, 0)) dX10_mishapWeight_42 rfl ?_
      refine r_iload_n (x := c1) dX10_mishapWeight_43 rfl ?_
      refine r_iload (x := x5) dX10_mishapWeight_44 rfl ?_
      obtain ⟨r3, hr4, hf⟩ := am_bind hf
      refine r_callV (as := [vI c1, vI x5]) (st := [vJ x3]) (n := 2) mw_X10_275 mv_X10_has (C_X10_has (l := l) hr4) (le_b rfl) dX10_mishapWeight_46 (kM_mem (s := 40) (by decide)) rfl rfl rfl (le_b rfl) (le_b rfl) (le_b rfl) ?_
      show X l _ _ 0 0 false _ kM 0 0 49 [some (vR (40, 0, 0)), some (vI c1), some (vI c2), some (vJ x3), none, some (vI x5), some (vI (0 : Int32))] [vI r3, vJ x3] (en u)
      refine r_if_eq (tgt := 58) dX10_mishapWeight_49 (by decide) (fun hc => ?_) (fun hc => ?_)
      · have hf := (am_if hf).1 hc
        refine r_bipush (v := 100) dX10_mishapWeight_58 rfl ?_
        refine r_iload (x := (0 : Int32)) dX10_mishapWeight_60 rfl ?_
        refine r_isub dX10_mishapWeight_62 ?_
        refine r_i2l dX10_mishapWeight_63 ?_
        refine r_lmul dX10_mishapWeight_64 ?_
        refine r_lstore_n (L' := [some (vR (40, 0, 0)), some (vI c1), some (vI c2), some (vJ (x3 * (((100 : Int32) - (0 : Int32)).toInt64))), none, some (vI x5), some (vI (0 : Int32))]) dX10_mishapWeight_65 (by decide) rfl ?_
        refine r_iinc (x := x5) (v := x5 + (1 : Int32)) (L' := [some (vR (40, 0, 0)), some (vI c1), some (vI c2), some (vJ (x3 * (((100 : Int32) - (0 : Int32)).toInt64))), none, some (vI (x5 + (1 : Int32))), some (vI (0 : Int32))]) dX10_mishapWeight_66 rfl rfl (lt_b rfl) rfl ?_
        refine r_goto (tgt := 5) dX10_mishapWeight_69 (by decide) ?_
        refine r_weak (L' := [some (vR (40, 0, 0)), some (vI c1), some (vI c2), some (vJ (x3 * (((100 : Int32) - (0 : Int32)).toInt64))), none, some (vI (x5 + (1 : Int32))), none]) (And.intro rfl (And.intro rfl (And.intro rfl (And.intro rfl (And.intro rfl trivial))))) ?_
        exact k1 (x3 * (((100 : Int32) - (0 : Int32)).toInt64), x5 + (1 : Int32), u) (am_inj hf).symm
      · have hf := (am_if hf).2 hc
        refine r_iload (x := (0 : Int32)) dX10_mishapWeight_52 rfl ?_
        refine r_i2l dX10_mishapWeight_54 ?_
        refine r_goto (tgt := 64) dX10_mishapWeight_55 (by decide) ?_
        refine r_lmul dX10_mishapWeight_64 ?_
        refine r_lstore_n (L' := [some (vR (40, 0, 0)), some (vI c1), some (vI c2), some (vJ (x3 * ((0 : Int32).toInt64))), none, some (vI x5), some (vI (0 : Int32))]) dX10_mishapWeight_65 (by decide) rfl ?_
        refine r_iinc (x := x5) (v := x5 + (1 : Int32)) (L' := [some (vR (40, 0, 0)), some (vI c1), some (vI c2), some (vJ (x3 * ((0 : Int32).toInt64))), none, some (vI (x5 + (1 : Int32))), some (vI (0 : Int32))]) dX10_mishapWeight_66 rfl rfl (lt_b rfl) rfl ?_
        refine r_goto (tgt := 5) dX10_mishapWeight_69 (by decide) ?_
        refine r_weak (L' := [some (vR (40, 0, 0)), some (vI c1), some (vI c2), some (vJ (x3 * ((0 : Int32).toInt64))), none, some (vI (x5 + (1 : Int32))), none]) (And.intro rfl (And.intro rfl (And.intro rfl (And.intro rfl (And.intro rfl trivial))))) ?_
        exact k1 (x3 * ((0 : Int32).toInt64), x5 + (1 : Int32), u) (am_inj hf).symm
    · have hf := (am_if hf).2 hc
      refine r_aload_n (x := (40, 0, 0)) dX10_mishapWeight_27 rfl ?_
      refine r_iconst (v := 0) dX10_mishapWeight_28 rfl ?_
      refine r_iload (x := x5) dX10_mishapWeight_29 rfl ?_
      refine r_iload_n (x := c2) dX10_mishapWeight_31 rfl ?_
      obtain ⟨⟨r5, u7⟩, hr6, hf⟩ := am_bind hf
      refine r_callV (as := [vI (0 : Int32), vI x5, vI c2]) (st := []) (n := 3) mw_X10_364 mv_X10_sumOf (C_X10_sumOf (l := l) hr6) (le_b rfl) dX10_mishapWeight_32 (kM_mem (s := 40) (by decide)) rfl rfl rfl (le_b rfl) (le_b rfl) (le_b rfl) ?_
      show X l _ _ 0 0 false _ kM 0 0 35 [some (vR (40, 0, 0)), some (vI c1), some (vI c2), some (vJ x3), none, some (vI x5), none] [vI r5] (en u7)
      refine r_goto (tgt := 39) dX10_mishapWeight_35 (by decide) ?_
      refine r_istore (L' := [some (vR (40, 0, 0)), some (vI c1), some (vI c2), some (vJ x3), none, some (vI x5), some (vI r5)]) dX10_mishapWeight_39 (by decide) rfl ?_
      refine r_lload_n (x := x3) dX10_mishapWeight_41 rfl ?_
      refine r_aload_n (x := (40, 0, 0)) dX10_mishapWeight_42 rfl ?_
      refine r_iload_n (x := c1) dX10_mishapWeight_43 rfl ?_
      refine r_iload (x := x5) dX10_mishapWeight_44 rfl ?_
      obtain ⟨r8, hr9, hf⟩ := am_bind hf
      refine r_callV (as := [vI c1, vI x5]) (st := [vJ x3]) (n := 2) mw_X10_275 mv_X10_has (C_X10_has (l := l) hr9) (le_b rfl) dX10_mishapWeight_46 (kM_mem (s := 40) (by decide)) rfl rfl rfl (le_b rfl) (le_b rfl) (le_b rfl) ?_
      show X l _ _ 0 0 false _ kM 0 0 49 [some (vR (40, 0, 0)), some (vI c1), some (vI c2), some (vJ x3), none, some (vI x5), some (vI r5)] [vI r8, vJ x3] (en u7)
      refine r_if_eq (tgt := 58) dX10_mishapWeight_49 (by decide) (fun hc => ?_) (fun hc => ?_)
      · have hf := (am_if hf).1 hc
        refine r_bipush (v := 100) dX10_mishapWeight_58 rfl ?_
        refine r_iload (x := r5) dX10_mishapWeight_60 rfl ?_
        refine r_isub dX10_mishapWeight_62 ?_
        refine r_i2l dX10_mishapWeight_63 ?_
        refine r_lmul dX10_mishapWeight_64 ?_
        refine r_lstore_n (L' := [some (vR (40, 0, 0)), some (vI c1), some (vI c2), some (vJ (x3 * (((100 : Int32) - r5).toInt64))), none, some (vI x5), some (vI r5)]) dX10_mishapWeight_65 (by decide) rfl ?_
        refine r_iinc (x := x5) (v := x5 + (1 : Int32)) (L' := [some (vR (40, 0, 0)), some (vI c1), some (vI c2), some (vJ (x3 * (((100 : Int32) - r5).toInt64))), none, some (vI (x5 + (1 : Int32))), some (vI r5)]) dX10_mishapWeight_66 rfl rfl (lt_b rfl) rfl ?_
        refine r_goto (tgt := 5) dX10_mishapWeight_69 (by decide) ?_
        refine r_weak (L' := [some (vR (40, 0, 0)), some (vI c1), some (vI c2), some (vJ (x3 * (((100 : Int32) - r5).toInt64))), none, some (vI (x5 + (1 : Int32))), none]) (And.intro rfl (And.intro rfl (And.intro rfl (And.intro rfl (And.intro rfl trivial))))) ?_
        exact k1 (x3 * (((100 : Int32) - r5).toInt64), x5 + (1 : Int32), u7) (am_inj hf).symm
      · have hf := (am_if hf).2 hc
        refine r_iload (x := r5) dX10_mishapWeight_52 rfl ?_
        refine r_i2l dX10_mishapWeight_54 ?_
        refine r_goto (tgt := 64) dX10_mishapWeight_55 (by decide) ?_
        refine r_lmul dX10_mishapWeight_64 ?_
        refine r_lstore_n (L' := [some (vR (40, 0, 0)), some (vI c1), some (vI c2), some (vJ (x3 * r5.toInt64)), none, some (vI x5), some (vI r5)]) dX10_mishapWeight_65 (by decide) rfl ?_
        refine r_iinc (x := x5) (v := x5 + (1 : Int32)) (L' := [some (vR (40, 0, 0)), some (vI c1), some (vI c2), some (vJ (x3 * r5.toInt64)), none, some (vI (x5 + (1 : Int32))), some (vI r5)]) dX10_mishapWeight_66 rfl rfl (lt_b rfl) rfl ?_
        refine r_goto (tgt := 5) dX10_mishapWeight_69 (by decide) ?_
        refine r_weak (L' := [some (vR (40, 0, 0)), some (vI c1), some (vI c2), some (vJ (x3 * r5.toInt64)), none, some (vI (x5 + (1 : Int32))), none]) (And.intro rfl (And.intro rfl (And.intro rfl (And.intro rfl (And.intro rfl trivial))))) ?_
        exact k1 (x3 * r5.toInt64, x5 + (1 : Int32), u7) (am_inj hf).symm
def f_X10_mishapWeight  (a0 : Int32) (a1 : Int32) (u : PM) : Option (Int64 × PM) :=
  (am_loop (f_X10_mishapWeight_L5 a0 a1) 2000 ((1 : Int64), (0 : Int32), u)).bind fun (y12, u13) =>
  some (y12, u13)
set_option maxHeartbeats 4000000 in
set_option maxRecDepth 20000 in
theorem C_X10_mishapWeight {l : Launch}  {a0 : Int32} {a1 : Int32} {u : PM} {x : Int64 × PM} (hf : f_X10_mishapWeight a0 a1 u = some x) : Ev l mX10_mishapWeight 5 0 0 false [vR (40, 0, 0), vI a0, vI a1] kM (en u) (some (vJ x.1), kM, en x.2) := by
  refine Ev_of (by decide +kernel) (le_b rfl) ?_
  unfold f_X10_mishapWeight at hf
  show X l mX10_mishapWeight 5 0 0 false _ kM 0 0 0 [some (vR (40, 0, 0)), some (vI a0), some (vI a1), none, none, none, none] [] (en u)
  refine r_lconst (v := 1) dX10_mishapWeight_0 rfl ?_
  refine r_lstore_n (L' := [some (vR (40, 0, 0)), some (vI a0), some (vI a1), some (vJ (1 : Int64)), none, none, none]) dX10_mishapWeight_1 (by decide) rfl ?_
  refine r_iconst (v := 0) dX10_mishapWeight_2 rfl ?_
  refine r_istore (L' := [some (vR (40, 0, 0)), some (vI a0), some (vI a1), some (vJ (1 : Int64)), none, some (vI (0 : Int32)), none]) dX10_mishapWeight_3 (by decide) rfl ?_
  refine r_weak (L' := [some (vR (40, 0, 0)), some (vI a0), some (vI a1), some (vJ (1 : Int64)), none, some (vI (0 : Int32)), none]) (And.intro rfl (And.intro rfl (And.intro rfl (And.intro rfl (And.intro rfl trivial))))) ?_
  obtain ⟨e10, he11, hf⟩ := am_bind hf
  refine K_X10_mishapWeight_L5  2000 ((1 : Int64), (0 : Int32), u) _ he11 ?_
  obtain ⟨y12, u13⟩ := e10
  show X l _ _ 0 0 false _ kM 0 0 72 [none, none, none, some (vJ y12), none, none, none] [] (en u13)
  refine r_lload_n (x := y12) dX10_mishapWeight_72 rfl ?_
  have hx := am_inj hf
  subst hx
  exact r_lret dX10_mishapWeight_73 rfl (le_b rfl) (le_b rfl)
/-! FireFromFireModel.counts -/
theorem dX10_counts_0 : decode cX10_counts 0 = .ok (.aload_n 0, 1) := by decide +kernel
theorem dX10_counts_1 : decode cX10_counts 1 = .ok (.dup, 1) := by decide +kernel
theorem dX10_counts_2 : decode cX10_counts 2 = .ok (.getfield 186, 3) := by decide +kernel
theorem dX10_counts_5 : decode cX10_counts 5 = .ok (.aload_n 0, 1) := by decide +kernel
theorem dX10_counts_6 : decode cX10_counts 6 = .ok (.getfield 107, 3) := by decide +kernel
theorem dX10_counts_9 : decode cX10_counts 9 = .ok (.ifCond .ne 7, 3) := by decide +kernel
theorem dX10_counts_12 : decode cX10_counts 12 = .ok (.lload_n 1, 1) := by decide +kernel
theorem dX10_counts_13 : decode cX10_counts 13 = .ok (.goto 4, 3) := by decide +kernel
theorem dX10_counts_16 : decode cX10_counts 16 = .ok (.lconst 0, 1) := by decide +kernel
theorem dX10_counts_17 : decode cX10_counts 17 = .ok (.ladd, 1) := by decide +kernel
theorem dX10_counts_18 : decode cX10_counts 18 = .ok (.putfield 186, 3) := by decide +kernel
theorem dX10_counts_21 : decode cX10_counts 21 = .ok (.aload_n 0, 1) := by decide +kernel
theorem dX10_counts_22 : decode cX10_counts 22 = .ok (.dup, 1) := by decide +kernel
theorem dX10_counts_23 : decode cX10_counts 23 = .ok (.getfield 190, 3) := by decide +kernel
theorem dX10_counts_26 : decode cX10_counts 26 = .ok (.lload_n 1, 1) := by decide +kernel
theorem dX10_counts_27 : decode cX10_counts 27 = .ok (.aload_n 0, 1) := by decide +kernel
theorem dX10_counts_28 : decode cX10_counts 28 = .ok (.getfield 116, 3) := by decide +kernel
theorem dX10_counts_31 : decode cX10_counts 31 = .ok (.i2l, 1) := by decide +kernel
theorem dX10_counts_32 : decode cX10_counts 32 = .ok (.lmul, 1) := by decide +kernel
theorem dX10_counts_33 : decode cX10_counts 33 = .ok (.ladd, 1) := by decide +kernel
theorem dX10_counts_34 : decode cX10_counts 34 = .ok (.putfield 190, 3) := by decide +kernel
theorem dX10_counts_37 : decode cX10_counts 37 = .ok (.return_, 1) := by decide +kernel
def f_X10_counts  (a0 : Int64) (u : PM) : Option (PM) :=
  if (u.1 (40, 0, 0) 32) = 0 then
    some (pl (pl u (40, 0, 0) 58 ((u.2.1 (40, 0, 0) 58) + a0)) (40, 0, 0) 59 ((u.2.1 (40, 0, 0) 59) + (a0 * ((u.1 (40, 0, 0) 35).toInt64))))
  else
  some (pl (pl u (40, 0, 0) 58 ((u.2.1 (40, 0, 0) 58) + (0 : Int64))) (40, 0, 0) 59 ((u.2.1 (40, 0, 0) 59) + (a0 * ((u.1 (40, 0, 0) 35).toInt64))))
set_option maxHeartbeats 4000000 in
set_option maxRecDepth 20000 in
theorem C_X10_counts {l : Launch}  {a0 : Int64} {u : PM} {x : PM} (hf : f_X10_counts a0 u = some x) : Ev l mX10_counts 1 0 0 false [vR (40, 0, 0), vJ a0] kM (en u) (none, kM, en x) := by
  refine Ev_of (by decide +kernel) (le_b rfl) ?_
  unfold f_X10_counts at hf
  show X l mX10_counts 1 0 0 false _ kM 0 0 0 [some (vR (40, 0, 0)), some (vJ a0), none] [] (en u)
  refine r_aload_n (x := (40, 0, 0)) dX10_counts_0 rfl ?_
  refine r_dup dX10_counts_1 rfl ?_
  refine e_getl fw_X10_186 dX10_counts_2 (kM_mem (s := 40) (by decide)) rfl (lt_b rfl) ?_
  refine r_aload_n (x := (40, 0, 0)) dX10_counts_5 rfl ?_
  refine e_geti fw_X10_107 dX10_counts_6 (kM_mem (s := 40) (by decide)) rfl (lt_b rfl) ?_
  refine r_if_ne (tgt := 16) dX10_counts_9 (by decide) (fun hc => ?_) (fun hc => ?_)
  · have hf := (am_if hf).2 hc
    refine r_lconst (v := 0) dX10_counts_16 rfl ?_
    refine r_ladd dX10_counts_17 ?_
    refine e_putl fp_X10_186 dX10_counts_18 (kM_mem (s := 40) (by decide)) rfl (lt_b rfl) rfl ?_
    refine r_aload_n (x := (40, 0, 0)) dX10_counts_21 rfl ?_
    refine r_dup dX10_counts_22 rfl ?_
    refine e_getl_ (x := u.2.1 (40, 0, 0) 59) fw_X10_190 dX10_counts_23 (kM_mem (s := 40) (by decide)) rfl (lt_b rfl) (by simp [pi, pl, pr, pci, pcl]) ?_
    refine r_lload_n (x := a0) dX10_counts_26 rfl ?_
    refine r_aload_n (x := (40, 0, 0)) dX10_counts_27 rfl ?_
    refine e_geti_ (x := u.1 (40, 0, 0) 35) fw_X10_116 dX10_counts_28 (kM_mem (s := 40) (by decide)) rfl (lt_b rfl) (by simp [pi, pl, pr, pci, pcl]) ?_
    refine r_i2l dX10_counts_31 ?_
    refine r_lmul dX10_counts_32 ?_
    refine r_ladd dX10_counts_33 ?_
    refine e_putl fp_X10_190 dX10_counts_34 (kM_mem (s := 40) (by decide)) rfl (lt_b rfl) rfl ?_
    have hx := am_inj hf
    subst hx
    exact r_vret dX10_counts_37 rfl (le_b rfl) (le_b rfl)
  · have hf := (am_if hf).1 hc
    refine r_lload_n (x := a0) dX10_counts_12 rfl ?_
    refine r_goto (tgt := 17) dX10_counts_13 (by decide) ?_
    refine r_ladd dX10_counts_17 ?_
    refine e_putl fp_X10_186 dX10_counts_18 (kM_mem (s := 40) (by decide)) rfl (lt_b rfl) rfl ?_
    refine r_aload_n (x := (40, 0, 0)) dX10_counts_21 rfl ?_
    refine r_dup dX10_counts_22 rfl ?_
    refine e_getl_ (x := u.2.1 (40, 0, 0) 59) fw_X10_190 dX10_counts_23 (kM_mem (s := 40) (by decide)) rfl (lt_b rfl) (by simp [pi, pl, pr, pci, pcl]) ?_
    refine r_lload_n (x := a0) dX10_counts_26 rfl ?_
    refine r_aload_n (x := (40, 0, 0)) dX10_counts_27 rfl ?_
    refine e_geti_ (x := u.1 (40, 0, 0) 35) fw_X10_116 dX10_counts_28 (kM_mem (s := 40) (by decide)) rfl (lt_b rfl) (by simp [pi, pl, pr, pci, pcl]) ?_
    refine r_i2l dX10_counts_31 ?_
    refine r_lmul dX10_counts_32 ?_
    refine r_ladd dX10_counts_33 ?_
    refine e_putl fp_X10_190 dX10_counts_34 (kM_mem (s := 40) (by decide)) rfl (lt_b rfl) rfl ?_
    have hx := am_inj hf
    subst hx
    exact r_vret dX10_counts_37 rfl (le_b rfl) (le_b rfl)
/-! FireFromFireModel.lastHour -/
theorem dX10_lastHour_0 : decode cX10_lastHour 0 = .ok (.aload_n 0, 1) := by decide +kernel
theorem dX10_lastHour_1 : decode cX10_lastHour 1 = .ok (.invokevirtual 402, 3) := by decide +kernel
theorem dX10_lastHour_4 : decode cX10_lastHour 4 = .ok (.iconst 0, 1) := by decide +kernel
theorem dX10_lastHour_5 : decode cX10_lastHour 5 = .ok (.istore 4, 2) := by decide +kernel
theorem dX10_lastHour_7 : decode cX10_lastHour 7 = .ok (.iload 4, 2) := by decide +kernel
theorem dX10_lastHour_9 : decode cX10_lastHour 9 = .ok (.iconst 3, 1) := by decide +kernel
theorem dX10_lastHour_10 : decode cX10_lastHour 10 = .ok (.if_icmp .ge 82, 3) := by decide +kernel
theorem dX10_lastHour_13 : decode cX10_lastHour 13 = .ok (.iconst 0, 1) := by decide +kernel
theorem dX10_lastHour_14 : decode cX10_lastHour 14 = .ok (.istore 5, 2) := by decide +kernel
theorem dX10_lastHour_16 : decode cX10_lastHour 16 = .ok (.iload 5, 2) := by decide +kernel
theorem dX10_lastHour_18 : decode cX10_lastHour 18 = .ok (.iconst 1, 1) := by decide +kernel
theorem dX10_lastHour_19 : decode cX10_lastHour 19 = .ok (.aload_n 0, 1) := by decide +kernel
theorem dX10_lastHour_20 : decode cX10_lastHour 20 = .ok (.getfield 7, 3) := by decide +kernel
theorem dX10_lastHour_23 : decode cX10_lastHour 23 = .ok (.ishl, 1) := by decide +kernel
theorem dX10_lastHour_24 : decode cX10_lastHour 24 = .ok (.if_icmp .ge 62, 3) := by decide +kernel
theorem dX10_lastHour_27 : decode cX10_lastHour 27 = .ok (.aload_n 0, 1) := by decide +kernel
theorem dX10_lastHour_28 : decode cX10_lastHour 28 = .ok (.invokevirtual 405, 3) := by decide +kernel
theorem dX10_lastHour_31 : decode cX10_lastHour 31 = .ok (.aload_n 0, 1) := by decide +kernel
theorem dX10_lastHour_32 : decode cX10_lastHour 32 = .ok (.getfield 104, 3) := by decide +kernel
theorem dX10_lastHour_35 : decode cX10_lastHour 35 = .ok (.iconst 3, 1) := by decide +kernel
theorem dX10_lastHour_36 : decode cX10_lastHour 36 = .ok (.iload_n 1, 1) := by decide +kernel
theorem dX10_lastHour_37 : decode cX10_lastHour 37 = .ok (.imul, 1) := by decide +kernel
theorem dX10_lastHour_38 : decode cX10_lastHour 38 = .ok (.iload 4, 2) := by decide +kernel
theorem dX10_lastHour_40 : decode cX10_lastHour 40 = .ok (.iadd, 1) := by decide +kernel
theorem dX10_lastHour_41 : decode cX10_lastHour 41 = .ok (.iaload, 1) := by decide +kernel
theorem dX10_lastHour_42 : decode cX10_lastHour 42 = .ok (.i2l, 1) := by decide +kernel
theorem dX10_lastHour_43 : decode cX10_lastHour 43 = .ok (.aload_n 0, 1) := by decide +kernel
theorem dX10_lastHour_44 : decode cX10_lastHour 44 = .ok (.iload 5, 2) := by decide +kernel
theorem dX10_lastHour_46 : decode cX10_lastHour 46 = .ok (.iload 4, 2) := by decide +kernel
theorem dX10_lastHour_48 : decode cX10_lastHour 48 = .ok (.invokevirtual 408, 3) := by decide +kernel
theorem dX10_lastHour_51 : decode cX10_lastHour 51 = .ok (.lmul, 1) := by decide +kernel
theorem dX10_lastHour_52 : decode cX10_lastHour 52 = .ok (.lstore 6, 2) := by decide +kernel
theorem dX10_lastHour_54 : decode cX10_lastHour 54 = .ok (.lload 6, 2) := by decide +kernel
theorem dX10_lastHour_56 : decode cX10_lastHour 56 = .ok (.lconst 0, 1) := by decide +kernel
theorem dX10_lastHour_57 : decode cX10_lastHour 57 = .ok (.lcmp, 1) := by decide +kernel
theorem dX10_lastHour_58 : decode cX10_lastHour 58 = .ok (.ifCond .ne 6, 3) := by decide +kernel
theorem dX10_lastHour_61 : decode cX10_lastHour 61 = .ok (.goto 19, 3) := by decide +kernel
theorem dX10_lastHour_64 : decode cX10_lastHour 64 = .ok (.aload_n 0, 1) := by decide +kernel
theorem dX10_lastHour_65 : decode cX10_lastHour 65 = .ok (.iload 4, 2) := by decide +kernel
theorem dX10_lastHour_67 : decode cX10_lastHour 67 = .ok (.iload 5, 2) := by decide +kernel
theorem dX10_lastHour_69 : decode cX10_lastHour 69 = .ok (.invokevirtual 390, 3) := by decide +kernel
theorem dX10_lastHour_72 : decode cX10_lastHour 72 = .ok (.aload_n 0, 1) := by decide +kernel
theorem dX10_lastHour_73 : decode cX10_lastHour 73 = .ok (.lload_n 2, 1) := by decide +kernel
theorem dX10_lastHour_74 : decode cX10_lastHour 74 = .ok (.lload 6, 2) := by decide +kernel
theorem dX10_lastHour_76 : decode cX10_lastHour 76 = .ok (.lmul, 1) := by decide +kernel
theorem dX10_lastHour_77 : decode cX10_lastHour 77 = .ok (.invokevirtual 412, 3) := by decide +kernel
theorem dX10_lastHour_80 : decode cX10_lastHour 80 = .ok (.iinc 5 1, 3) := by decide +kernel
theorem dX10_lastHour_83 : decode cX10_lastHour 83 = .ok (.goto (-67), 3) := by decide +kernel
theorem dX10_lastHour_86 : decode cX10_lastHour 86 = .ok (.iinc 4 1, 3) := by decide +kernel
theorem dX10_lastHour_89 : decode cX10_lastHour 89 = .ok (.goto (-82), 3) := by decide +kernel
theorem dX10_lastHour_92 : decode cX10_lastHour 92 = .ok (.return_, 1) := by decide +kernel
def f_X10_lastHour_L16  (c1 : Int32) (c2 : Int64) (c4 : Int32) : Int32 × PM → Option ((Int32 × PM) ⊕ (PM)) := fun (x5 , u) =>
  if ((1 : Int32) <<< ((u.1 (40, 0, 0) 0) &&& 31)) ≤ x5 then
    some (.inr (u))
  else
  (f_X10_layBack u).bind fun r3 =>
  if (((3 : Int32) * c1) + c4) < 0 ∨ 9 ≤ (((3 : Int32) * c1) + c4).toNatClampNeg then none else
  (f_X10_mishapWeight x5 c4 r3).bind fun (r6, u8) =>
  if (lg_cmp (((r3.1 (60, 0, 0) ((((3 : Int32) * c1) + c4).toNatClampNeg)).toInt64) * r6) (0 : Int64)) = 0 then
    some (.inl (x5 + (1 : Int32), u8))
  else
  (f_X10_goHour c4 x5 u8).bind fun r9 =>
  (f_X10_counts (c2 * (((r3.1 (60, 0, 0) ((((3 : Int32) * c1) + c4).toNatClampNeg)).toInt64) * r6)) r9).bind fun r11 =>
  some (.inl (x5 + (1 : Int32), r11))
set_option maxHeartbeats 4000000 in
set_option maxRecDepth 20000 in
theorem K_X10_lastHour_L16 {l : Launch} {T : Option AV × List Key × AM}  {c1 : Int32} {c2 : Int64} {c4 : Int32} : ∀ (n : Nat) (s : Int32 × PM) (e0 : PM), am_loop (f_X10_lastHour_L16 c1 c2 c4) n s = some e0 → (fun e : PM => X l mX10_lastHour 8 0 0 false T kM 0 0 86 [some (vR (40, 0, 0)), some (vI c1), some (vJ c2), none, some (vI c4), none, none, none] [] (en e)) e0 → X l mX10_lastHour 8 0 0 false T kM 0 0 16 [some (vR (40, 0, 0)), some (vI c1), some (vJ c2), none, some (vI c4), some (vI s.1), none, none] [] (en s.2) := by
  refine am_loop_of ?_
  intro s x hf k1 k2
  obtain ⟨x5 , u⟩ := s
  unfold f_X10_lastHour_L16 at hf
  show X l mX10_lastHour 8 0 0 false T kM 0 0 16 [some (vR (40, 0, 0)), some (vI c1), some (vJ c2), none, some (vI c4), some (vI x5), none, none] [] (en u)
  refine r_iload (x := x5) dX10_lastHour_16 rfl ?_
  refine r_iconst (v := 1) dX10_lastHour_18 rfl ?_
  refine r_aload_n (x := (40, 0, 0)) dX10_lastHour_19 rfl ?_
  refine e_geti fw_X10_7 dX10_lastHour_20 (kM_mem (s := 40) (by decide)) rfl (lt_b rfl) ?_
  refine r_ishl dX10_lastHour_23 ?_
  refine r_icmp_ge (tgt := 86) dX10_lastHour_24 (by decide) (fun hc => ?_) (fun hc => ?_)
  · have hf := (am_if hf).1 hc
    refine r_weak (L' := [some (vR (40, 0, 0)), some (vI c1), some (vJ c2), none, some (vI c4), none, none, none]) (And.intro rfl (And.intro rfl (And.intro rfl (And.intro rfl trivial)))) ?_
    exact k2 (u) (am_inj hf).symm
  · have hf := (am_if hf).2 hc
    refine r_aload_n (x := (40, 0, 0)) dX10_lastHour_27 rfl ?_
    obtain ⟨r3, hr4, hf⟩ := am_bind hf
    refine r_callV (as := []) (st := []) (n := 0) mw_X10_405 mv_X10_layBack (C_X10_layBack (l := l) hr4) (le_b rfl) dX10_lastHour_28 (kM_mem (s := 40) (by decide)) rfl rfl rfl (le_b rfl) (le_b rfl) (le_b rfl) ?_
    show X l _ _ 0 0 false _ kM 0 0 31 [some (vR (40, 0, 0)), some (vI c1), some (vJ c2), none, some (vI c4), some (vI x5), none, none] [] (en r3)
    refine r_aload_n (x := (40, 0, 0)) dX10_lastHour_31 rfl ?_
    refine e_getr (z := some (60, 0, 0)) fw_X10_104 dX10_lastHour_32 (kM_mem (s := 40) (by decide)) rfl (lt_b rfl) rfl ?_
    refine r_iconst (v := 3) dX10_lastHour_35 rfl ?_
    refine r_iload_n (x := c1) dX10_lastHour_36 rfl ?_
    refine r_imul dX10_lastHour_37 ?_
    refine r_iload (x := c4) dX10_lastHour_38 rfl ?_
    refine r_iadd dX10_lastHour_40 ?_
    obtain ⟨h5, hf⟩ := am_nchk hf
    refine e_iald (n := (((3 : Int32) * c1) + c4).toNatClampNeg) dX10_lastHour_41 (kM_mem (s := 60) (by decide)) rfl h5 rfl rfl ?_
    refine r_i2l dX10_lastHour_42 ?_
    refine r_aload_n (x := (40, 0, 0)) dX10_lastHour_43 rfl ?_
    refine r_iload (x := x5) dX10_lastHour_44 rfl ?_
    refine r_iload (x := c4) dX10_lastHour_46 rfl ?_
    obtain ⟨⟨r6, u8⟩, hr7, hf⟩ := am_bind hf
    refine r_callV (as := [vI x5, vI c4]) (st := [vJ ((r3.1 (60, 0, 0) ((((3 : Int32) * c1) + c4).toNatClampNeg)).toInt64)]) (n := 2) mw_X10_408 mv_X10_mishapWeight (C_X10_mishapWeight (l := l) hr7) (le_b rfl) dX10_lastHour_48 (kM_mem (s := 40) (by decide)) rfl rfl rfl (le_b rfl) (le_b rfl) (le_b rfl) ?_
    show X l _ _ 0 0 false _ kM 0 0 51 [some (vR (40, 0, 0)), some (vI c1), some (vJ c2), none, some (vI c4), some (vI x5), none, none] [vJ r6, vJ ((r3.1 (60, 0, 0) ((((3 : Int32) * c1) + c4).toNatClampNeg)).toInt64)] (en u8)
    refine r_lmul dX10_lastHour_51 ?_
    refine r_lstore (L' := [some (vR (40, 0, 0)), some (vI c1), some (vJ c2), none, some (vI c4), some (vI x5), some (vJ (((r3.1 (60, 0, 0) ((((3 : Int32) * c1) + c4).toNatClampNeg)).toInt64) * r6)), none]) dX10_lastHour_52 (by decide) rfl ?_
    refine r_lload (x := ((r3.1 (60, 0, 0) ((((3 : Int32) * c1) + c4).toNatClampNeg)).toInt64) * r6) dX10_lastHour_54 rfl ?_
    refine r_lconst (v := 0) dX10_lastHour_56 rfl ?_
    refine r_lcmp dX10_lastHour_57 ?_
    refine r_if_ne (tgt := 64) dX10_lastHour_58 (by decide) (fun hc => ?_) (fun hc => ?_)
    · have hf := (am_if hf).2 hc
      refine r_aload_n (x := (40, 0, 0)) dX10_lastHour_64 rfl ?_
      refine r_iload (x := c4) dX10_lastHour_65 rfl ?_
      refine r_iload (x := x5) dX10_lastHour_67 rfl ?_
      obtain ⟨r9, hr10, hf⟩ := am_bind hf
      refine r_callV (as := [vI c4, vI x5]) (st := []) (n := 2) mw_X10_390 mv_X10_goHour (C_X10_goHour (l := l) hr10) (le_b rfl) dX10_lastHour_69 (kM_mem (s := 40) (by decide)) rfl rfl rfl (le_b rfl) (le_b rfl) (le_b rfl) ?_
      show X l _ _ 0 0 false _ kM 0 0 72 [some (vR (40, 0, 0)), some (vI c1), some (vJ c2), none, some (vI c4), some (vI x5), some (vJ (((r3.1 (60, 0, 0) ((((3 : Int32) * c1) + c4).toNatClampNeg)).toInt64) * r6)), none] [] (en r9)
      refine r_aload_n (x := (40, 0, 0)) dX10_lastHour_72 rfl ?_
      refine r_lload_n (x := c2) dX10_lastHour_73 rfl ?_
      refine r_lload (x := ((r3.1 (60, 0, 0) ((((3 : Int32) * c1) + c4).toNatClampNeg)).toInt64) * r6) dX10_lastHour_74 rfl ?_
      refine r_lmul dX10_lastHour_76 ?_
      obtain ⟨r11, hr12, hf⟩ := am_bind hf
      refine r_callV (as := [vJ (c2 * (((r3.1 (60, 0, 0) ((((3 : Int32) * c1) + c4).toNatClampNeg)).toInt64) * r6))]) (st := []) (n := 1) mw_X10_412 mv_X10_counts (C_X10_counts (l := l) hr12) (le_b rfl) dX10_lastHour_77 (kM_mem (s := 40) (by decide)) rfl rfl rfl (le_b rfl) (le_b rfl) (le_b rfl) ?_
      show X l _ _ 0 0 false _ kM 0 0 80 [some (vR (40, 0, 0)), some (vI c1), some (vJ c2), none, some (vI c4), some (vI x5), some (vJ (((r3.1 (60, 0, 0) ((((3 : Int32) * c1) + c4).toNatClampNeg)).toInt64) * r6)), none] [] (en r11)
      refine r_iinc (x := x5) (v := x5 + (1 : Int32)) (L' := [some (vR (40, 0, 0)), some (vI c1), some (vJ c2), none, some (vI c4), some (vI (x5 + (1 : Int32))), some (vJ (((r3.1 (60, 0, 0) ((((3 : Int32) * c1) + c4).toNatClampNeg)).toInt64) * r6)), none]) dX10_lastHour_80 rfl rfl (lt_b rfl) rfl ?_
      refine r_goto (tgt := 16) dX10_lastHour_83 (by decide) ?_
      refine r_weak (L' := [some (vR (40, 0, 0)), some (vI c1), some (vJ c2), none, some (vI c4), some (vI (x5 + (1 : Int32))), none, none]) (And.intro rfl (And.intro rfl (And.intro rfl (And.intro rfl (And.intro rfl trivial))))) ?_
      exact k1 (x5 + (1 : Int32), r11) (am_inj hf).symm
    · have hf := (am_if hf).1 hc
      refine r_goto (tgt := 80) dX10_lastHour_61 (by decide) ?_
      refine r_iinc (x := x5) (v := x5 + (1 : Int32)) (L' := [some (vR (40, 0, 0)), some (vI c1), some (vJ c2), none, some (vI c4), some (vI (x5 + (1 : Int32))), some (vJ (((r3.1 (60, 0, 0) ((((3 : Int32) * c1) + c4).toNatClampNeg)).toInt64) * r6)), none]) dX10_lastHour_80 rfl rfl (lt_b rfl) rfl ?_
      refine r_goto (tgt := 16) dX10_lastHour_83 (by decide) ?_
      refine r_weak (L' := [some (vR (40, 0, 0)), some (vI c1), some (vJ c2), none, some (vI c4), some (vI (x5 + (1 : Int32))), none, none]) (And.intro rfl (And.intro rfl (And.intro rfl (And.intro rfl (And.intro rfl trivial))))) ?_
      exact k1 (x5 + (1 : Int32), u8) (am_inj hf).symm
def f_X10_lastHour_L7  (c1 : Int32) (c2 : Int64) : Int32 × PM → Option ((Int32 × PM) ⊕ (PM)) := fun (x4 , u) =>
  if (3 : Int32) ≤ x4 then
    some (.inr (u))
  else
  (am_loop (f_X10_lastHour_L16 c1 c2 x4) 2000 ((0 : Int32), u)).bind fun u15 =>
  some (.inl (x4 + (1 : Int32), u15))
set_option maxHeartbeats 4000000 in
set_option maxRecDepth 20000 in
theorem K_X10_lastHour_L7 {l : Launch} {T : Option AV × List Key × AM}  {c1 : Int32} {c2 : Int64} : ∀ (n : Nat) (s : Int32 × PM) (e0 : PM), am_loop (f_X10_lastHour_L7 c1 c2) n s = some e0 → (fun e : PM => X l mX10_lastHour 8 0 0 false T kM 0 0 92 [none, none, none, none, none, none, none, none] [] (en e)) e0 → X l mX10_lastHour 8 0 0 false T kM 0 0 7 [some (vR (40, 0, 0)), some (vI c1), some (vJ c2), none, some (vI s.1), none, none, none] [] (en s.2) := by
  refine am_loop_of ?_
  intro s x hf k1 k2
  obtain ⟨x4 , u⟩ := s
  unfold f_X10_lastHour_L7 at hf
  show X l mX10_lastHour 8 0 0 false T kM 0 0 7 [some (vR (40, 0, 0)), some (vI c1), some (vJ c2), none, some (vI x4), none, none, none] [] (en u)
  refine r_iload (x := x4) dX10_lastHour_7 rfl ?_
  refine r_iconst (v := 3) dX10_lastHour_9 rfl ?_
  refine r_icmp_ge (tgt := 92) dX10_lastHour_10 (by decide) (fun hc => ?_) (fun hc => ?_)
  · have hf := (am_if hf).1 hc
    refine r_weak (L' := [none, none, none, none, none, none, none, none]) trivial ?_
    exact k2 (u) (am_inj hf).symm
  · have hf := (am_if hf).2 hc
    refine r_iconst (v := 0) dX10_lastHour_13 rfl ?_
    refine r_istore (L' := [some (vR (40, 0, 0)), some (vI c1), some (vJ c2), none, some (vI x4), some (vI (0 : Int32)), none, none]) dX10_lastHour_14 (by decide) rfl ?_
    refine r_weak (L' := [some (vR (40, 0, 0)), some (vI c1), some (vJ c2), none, some (vI x4), some (vI (0 : Int32)), none, none]) (And.intro rfl (And.intro rfl (And.intro rfl (And.intro rfl (And.intro rfl trivial))))) ?_
    obtain ⟨e13, he14, hf⟩ := am_bind hf
    refine K_X10_lastHour_L16  2000 ((0 : Int32), u) _ he14 ?_
    obtain ⟨u15, rfl⟩ : ∃ z, z = e13 := ⟨_, rfl⟩
    show X l _ _ 0 0 false _ kM 0 0 86 [some (vR (40, 0, 0)), some (vI c1), some (vJ c2), none, some (vI x4), none, none, none] [] (en u15)
    refine r_iinc (x := x4) (v := x4 + (1 : Int32)) (L' := [some (vR (40, 0, 0)), some (vI c1), some (vJ c2), none, some (vI (x4 + (1 : Int32))), none, none, none]) dX10_lastHour_86 rfl rfl (lt_b rfl) rfl ?_
    refine r_goto (tgt := 7) dX10_lastHour_89 (by decide) ?_
    refine r_weak (L' := [some (vR (40, 0, 0)), some (vI c1), some (vJ c2), none, some (vI (x4 + (1 : Int32))), none, none, none]) (And.intro rfl (And.intro rfl (And.intro rfl (And.intro rfl trivial)))) ?_
    exact k1 (x4 + (1 : Int32), u15) (am_inj hf).symm
def f_X10_lastHour  (a0 : Int32) (a1 : Int64) (u : PM) : Option (PM) :=
  (f_X10_keep u).bind fun r1 =>
  (am_loop (f_X10_lastHour_L7 a0 a1) 2000 ((0 : Int32), r1)).bind fun u18 =>
  some u18
set_option maxHeartbeats 4000000 in
set_option maxRecDepth 20000 in
theorem C_X10_lastHour {l : Launch}  {a0 : Int32} {a1 : Int64} {u : PM} {x : PM} (hf : f_X10_lastHour a0 a1 u = some x) : Ev l mX10_lastHour 8 0 0 false [vR (40, 0, 0), vI a0, vJ a1] kM (en u) (none, kM, en x) := by
  refine Ev_of (by decide +kernel) (le_b rfl) ?_
  unfold f_X10_lastHour at hf
  show X l mX10_lastHour 8 0 0 false _ kM 0 0 0 [some (vR (40, 0, 0)), some (vI a0), some (vJ a1), none, none, none, none, none] [] (en u)
  refine r_aload_n (x := (40, 0, 0)) dX10_lastHour_0 rfl ?_
  obtain ⟨r1, hr2, hf⟩ := am_bind hf
  refine r_callV (as := []) (st := []) (n := 0) mw_X10_402 mv_X10_keep (C_X10_keep (l := l) hr2) (le_b rfl) dX10_lastHour_1 (kM_mem (s := 40) (by decide)) rfl rfl rfl (le_b rfl) (le_b rfl) (le_b rfl) ?_
  show X l _ _ 0 0 false _ kM 0 0 4 [some (vR (40, 0, 0)), some (vI a0), some (vJ a1), none, none, none, none, none] [] (en r1)
  refine r_iconst (v := 0) dX10_lastHour_4 rfl ?_
  refine r_istore (L' := [some (vR (40, 0, 0)), some (vI a0), some (vJ a1), none, some (vI (0 : Int32)), none, none, none]) dX10_lastHour_5 (by decide) rfl ?_
  refine r_weak (L' := [some (vR (40, 0, 0)), some (vI a0), some (vJ a1), none, some (vI (0 : Int32)), none, none, none]) (And.intro rfl (And.intro rfl (And.intro rfl (And.intro rfl trivial)))) ?_
  obtain ⟨e16, he17, hf⟩ := am_bind hf
  refine K_X10_lastHour_L7  2000 ((0 : Int32), r1) _ he17 ?_
  obtain ⟨u18, rfl⟩ : ∃ z, z = e16 := ⟨_, rfl⟩
  show X l _ _ 0 0 false _ kM 0 0 92 [none, none, none, none, none, none, none, none] [] (en u18)
  have hx := am_inj hf
  subst hx
  exact r_vret dX10_lastHour_92 rfl (le_b rfl) (le_b rfl)
/-! FireFromFireModel.ends -/
theorem dX10_ends_0 : decode cX10_ends 0 = .ok (.aload_n 0, 1) := by decide +kernel
theorem dX10_ends_1 : decode cX10_ends 1 = .ok (.iload_n 1, 1) := by decide +kernel
theorem dX10_ends_2 : decode cX10_ends 2 = .ok (.iconst 1, 1) := by decide +kernel
theorem dX10_ends_3 : decode cX10_ends 3 = .ok (.iconst 2, 1) := by decide +kernel
theorem dX10_ends_4 : decode cX10_ends 4 = .ok (.invokevirtual 267, 3) := by decide +kernel
theorem dX10_ends_7 : decode cX10_ends 7 = .ok (.ifCond .eq 31, 3) := by decide +kernel
theorem dX10_ends_10 : decode cX10_ends 10 = .ok (.aload_n 0, 1) := by decide +kernel
theorem dX10_ends_11 : decode cX10_ends 11 = .ok (.iload_n 2, 1) := by decide +kernel
theorem dX10_ends_12 : decode cX10_ends 12 = .ok (.iconst 0, 1) := by decide +kernel
theorem dX10_ends_13 : decode cX10_ends 13 = .ok (.iconst 1, 1) := by decide +kernel
theorem dX10_ends_14 : decode cX10_ends 14 = .ok (.invokevirtual 267, 3) := by decide +kernel
theorem dX10_ends_17 : decode cX10_ends 17 = .ok (.ifCond .eq 21, 3) := by decide +kernel
theorem dX10_ends_20 : decode cX10_ends 20 = .ok (.aload_n 0, 1) := by decide +kernel
theorem dX10_ends_21 : decode cX10_ends 21 = .ok (.iload_n 3, 1) := by decide +kernel
theorem dX10_ends_22 : decode cX10_ends 22 = .ok (.iconst 0, 1) := by decide +kernel
theorem dX10_ends_23 : decode cX10_ends 23 = .ok (.iconst 1, 1) := by decide +kernel
theorem dX10_ends_24 : decode cX10_ends 24 = .ok (.invokevirtual 267, 3) := by decide +kernel
theorem dX10_ends_27 : decode cX10_ends 27 = .ok (.ifCond .eq 11, 3) := by decide +kernel
theorem dX10_ends_30 : decode cX10_ends 30 = .ok (.aload_n 0, 1) := by decide +kernel
theorem dX10_ends_31 : decode cX10_ends 31 = .ok (.getfield 7, 3) := by decide +kernel
theorem dX10_ends_34 : decode cX10_ends 34 = .ok (.iconst 3, 1) := by decide +kernel
theorem dX10_ends_35 : decode cX10_ends 35 = .ok (.if_icmp .le 7, 3) := by decide +kernel
theorem dX10_ends_38 : decode cX10_ends 38 = .ok (.ldc2_w 416, 3) := by decide +kernel
theorem dX10_ends_41 : decode cX10_ends 41 = .ok (.lreturn, 1) := by decide +kernel
theorem dX10_ends_42 : decode cX10_ends 42 = .ok (.aload_n 0, 1) := by decide +kernel
theorem dX10_ends_43 : decode cX10_ends 43 = .ok (.invokevirtual 345, 3) := by decide +kernel
theorem dX10_ends_46 : decode cX10_ends 46 = .ok (.lconst 1, 1) := by decide +kernel
theorem dX10_ends_47 : decode cX10_ends 47 = .ok (.lstore 4, 2) := by decide +kernel
theorem dX10_ends_49 : decode cX10_ends 49 = .ok (.iconst 0, 1) := by decide +kernel
theorem dX10_ends_50 : decode cX10_ends 50 = .ok (.istore 6, 2) := by decide +kernel
theorem dX10_ends_52 : decode cX10_ends 52 = .ok (.iload 6, 2) := by decide +kernel
theorem dX10_ends_54 : decode cX10_ends 54 = .ok (.iload_n 1, 1) := by decide +kernel
theorem dX10_ends_55 : decode cX10_ends 55 = .ok (.if_icmp .ge 43, 3) := by decide +kernel
theorem dX10_ends_58 : decode cX10_ends 58 = .ok (.lload 4, 2) := by decide +kernel
theorem dX10_ends_60 : decode cX10_ends 60 = .ok (.ldc2_w 418, 3) := by decide +kernel
theorem dX10_ends_63 : decode cX10_ends 63 = .ok (.lmul, 1) := by decide +kernel
theorem dX10_ends_64 : decode cX10_ends 64 = .ok (.lstore 4, 2) := by decide +kernel
theorem dX10_ends_66 : decode cX10_ends 66 = .ok (.iconst 0, 1) := by decide +kernel
theorem dX10_ends_67 : decode cX10_ends 67 = .ok (.istore 7, 2) := by decide +kernel
theorem dX10_ends_69 : decode cX10_ends 69 = .ok (.iload 7, 2) := by decide +kernel
theorem dX10_ends_71 : decode cX10_ends 71 = .ok (.aload_n 0, 1) := by decide +kernel
theorem dX10_ends_72 : decode cX10_ends 72 = .ok (.getfield 7, 3) := by decide +kernel
theorem dX10_ends_75 : decode cX10_ends 75 = .ok (.if_icmp .ge 17, 3) := by decide +kernel
theorem dX10_ends_78 : decode cX10_ends 78 = .ok (.lload 4, 2) := by decide +kernel
theorem dX10_ends_80 : decode cX10_ends 80 = .ok (.ldc2_w 420, 3) := by decide +kernel
theorem dX10_ends_83 : decode cX10_ends 83 = .ok (.lmul, 1) := by decide +kernel
theorem dX10_ends_84 : decode cX10_ends 84 = .ok (.lstore 4, 2) := by decide +kernel
theorem dX10_ends_86 : decode cX10_ends 86 = .ok (.iinc 7 1, 3) := by decide +kernel
theorem dX10_ends_89 : decode cX10_ends 89 = .ok (.goto (-20), 3) := by decide +kernel
theorem dX10_ends_92 : decode cX10_ends 92 = .ok (.iinc 6 1, 3) := by decide +kernel
theorem dX10_ends_95 : decode cX10_ends 95 = .ok (.goto (-43), 3) := by decide +kernel
theorem dX10_ends_98 : decode cX10_ends 98 = .ok (.aload_n 0, 1) := by decide +kernel
theorem dX10_ends_99 : decode cX10_ends 99 = .ok (.lconst 0, 1) := by decide +kernel
theorem dX10_ends_100 : decode cX10_ends 100 = .ok (.putfield 186, 3) := by decide +kernel
theorem dX10_ends_103 : decode cX10_ends 103 = .ok (.aload_n 0, 1) := by decide +kernel
theorem dX10_ends_104 : decode cX10_ends 104 = .ok (.lconst 0, 1) := by decide +kernel
theorem dX10_ends_105 : decode cX10_ends 105 = .ok (.putfield 190, 3) := by decide +kernel
theorem dX10_ends_108 : decode cX10_ends 108 = .ok (.iload_n 1, 1) := by decide +kernel
theorem dX10_ends_109 : decode cX10_ends 109 = .ok (.iconst 1, 1) := by decide +kernel
theorem dX10_ends_110 : decode cX10_ends 110 = .ok (.if_icmp .ne 19, 3) := by decide +kernel
theorem dX10_ends_113 : decode cX10_ends 113 = .ok (.aload_n 0, 1) := by decide +kernel
theorem dX10_ends_114 : decode cX10_ends 114 = .ok (.invokevirtual 361, 3) := by decide +kernel
theorem dX10_ends_117 : decode cX10_ends 117 = .ok (.aload_n 0, 1) := by decide +kernel
theorem dX10_ends_118 : decode cX10_ends 118 = .ok (.aload_n 0, 1) := by decide +kernel
theorem dX10_ends_119 : decode cX10_ends 119 = .ok (.getfield 19, 3) := by decide +kernel
theorem dX10_ends_122 : decode cX10_ends 122 = .ok (.lconst 1, 1) := by decide +kernel
theorem dX10_ends_123 : decode cX10_ends 123 = .ok (.invokevirtual 422, 3) := by decide +kernel
theorem dX10_ends_126 : decode cX10_ends 126 = .ok (.goto 94, 3) := by decide +kernel
theorem dX10_ends_129 : decode cX10_ends 129 = .ok (.iconst 0, 1) := by decide +kernel
theorem dX10_ends_130 : decode cX10_ends 130 = .ok (.istore 6, 2) := by decide +kernel
theorem dX10_ends_132 : decode cX10_ends 132 = .ok (.iload 6, 2) := by decide +kernel
theorem dX10_ends_134 : decode cX10_ends 134 = .ok (.iconst 3, 1) := by decide +kernel
theorem dX10_ends_135 : decode cX10_ends 135 = .ok (.if_icmp .ge 85, 3) := by decide +kernel
theorem dX10_ends_138 : decode cX10_ends 138 = .ok (.iconst 0, 1) := by decide +kernel
theorem dX10_ends_139 : decode cX10_ends 139 = .ok (.istore 7, 2) := by decide +kernel
theorem dX10_ends_141 : decode cX10_ends 141 = .ok (.iload 7, 2) := by decide +kernel
theorem dX10_ends_143 : decode cX10_ends 143 = .ok (.iconst 1, 1) := by decide +kernel
theorem dX10_ends_144 : decode cX10_ends 144 = .ok (.aload_n 0, 1) := by decide +kernel
theorem dX10_ends_145 : decode cX10_ends 145 = .ok (.getfield 7, 3) := by decide +kernel
theorem dX10_ends_148 : decode cX10_ends 148 = .ok (.ishl, 1) := by decide +kernel
theorem dX10_ends_149 : decode cX10_ends 149 = .ok (.if_icmp .ge 65, 3) := by decide +kernel
theorem dX10_ends_152 : decode cX10_ends 152 = .ok (.aload_n 0, 1) := by decide +kernel
theorem dX10_ends_153 : decode cX10_ends 153 = .ok (.invokevirtual 361, 3) := by decide +kernel
theorem dX10_ends_156 : decode cX10_ends 156 = .ok (.aload_n 0, 1) := by decide +kernel
theorem dX10_ends_157 : decode cX10_ends 157 = .ok (.getfield 104, 3) := by decide +kernel
theorem dX10_ends_160 : decode cX10_ends 160 = .ok (.iconst 3, 1) := by decide +kernel
theorem dX10_ends_161 : decode cX10_ends 161 = .ok (.aload_n 0, 1) := by decide +kernel
theorem dX10_ends_162 : decode cX10_ends 162 = .ok (.getfield 19, 3) := by decide +kernel
theorem dX10_ends_165 : decode cX10_ends 165 = .ok (.imul, 1) := by decide +kernel
theorem dX10_ends_166 : decode cX10_ends 166 = .ok (.iload 6, 2) := by decide +kernel
theorem dX10_ends_168 : decode cX10_ends 168 = .ok (.iadd, 1) := by decide +kernel
theorem dX10_ends_169 : decode cX10_ends 169 = .ok (.iaload, 1) := by decide +kernel
theorem dX10_ends_170 : decode cX10_ends 170 = .ok (.i2l, 1) := by decide +kernel
theorem dX10_ends_171 : decode cX10_ends 171 = .ok (.aload_n 0, 1) := by decide +kernel
theorem dX10_ends_172 : decode cX10_ends 172 = .ok (.iload 7, 2) := by decide +kernel
theorem dX10_ends_174 : decode cX10_ends 174 = .ok (.iload 6, 2) := by decide +kernel
theorem dX10_ends_176 : decode cX10_ends 176 = .ok (.invokevirtual 408, 3) := by decide +kernel
theorem dX10_ends_179 : decode cX10_ends 179 = .ok (.lmul, 1) := by decide +kernel
theorem dX10_ends_180 : decode cX10_ends 180 = .ok (.lstore 8, 2) := by decide +kernel
theorem dX10_ends_182 : decode cX10_ends 182 = .ok (.lload 8, 2) := by decide +kernel
theorem dX10_ends_184 : decode cX10_ends 184 = .ok (.lconst 0, 1) := by decide +kernel
theorem dX10_ends_185 : decode cX10_ends 185 = .ok (.lcmp, 1) := by decide +kernel
theorem dX10_ends_186 : decode cX10_ends 186 = .ok (.ifCond .ne 6, 3) := by decide +kernel
theorem dX10_ends_189 : decode cX10_ends 189 = .ok (.goto 19, 3) := by decide +kernel
theorem dX10_ends_192 : decode cX10_ends 192 = .ok (.aload_n 0, 1) := by decide +kernel
theorem dX10_ends_193 : decode cX10_ends 193 = .ok (.iload 6, 2) := by decide +kernel
theorem dX10_ends_195 : decode cX10_ends 195 = .ok (.iload 7, 2) := by decide +kernel
theorem dX10_ends_197 : decode cX10_ends 197 = .ok (.invokevirtual 390, 3) := by decide +kernel
theorem dX10_ends_200 : decode cX10_ends 200 = .ok (.aload_n 0, 1) := by decide +kernel
theorem dX10_ends_201 : decode cX10_ends 201 = .ok (.iload 6, 2) := by decide +kernel
theorem dX10_ends_203 : decode cX10_ends 203 = .ok (.lload 8, 2) := by decide +kernel
theorem dX10_ends_205 : decode cX10_ends 205 = .ok (.invokevirtual 422, 3) := by decide +kernel
theorem dX10_ends_208 : decode cX10_ends 208 = .ok (.iinc 7 1, 3) := by decide +kernel
theorem dX10_ends_211 : decode cX10_ends 211 = .ok (.goto (-70), 3) := by decide +kernel
theorem dX10_ends_214 : decode cX10_ends 214 = .ok (.iinc 6 1, 3) := by decide +kernel
theorem dX10_ends_217 : decode cX10_ends 217 = .ok (.goto (-85), 3) := by decide +kernel
theorem dX10_ends_220 : decode cX10_ends 220 = .ok (.iload_n 2, 1) := by decide +kernel
theorem dX10_ends_221 : decode cX10_ends 221 = .ok (.ifCond .ne 10, 3) := by decide +kernel
theorem dX10_ends_224 : decode cX10_ends 224 = .ok (.aload_n 0, 1) := by decide +kernel
theorem dX10_ends_225 : decode cX10_ends 225 = .ok (.getfield 186, 3) := by decide +kernel
theorem dX10_ends_228 : decode cX10_ends 228 = .ok (.goto 7, 3) := by decide +kernel
theorem dX10_ends_231 : decode cX10_ends 231 = .ok (.aload_n 0, 1) := by decide +kernel
theorem dX10_ends_232 : decode cX10_ends 232 = .ok (.getfield 190, 3) := by decide +kernel
theorem dX10_ends_235 : decode cX10_ends 235 = .ok (.lstore 6, 2) := by decide +kernel
theorem dX10_ends_237 : decode cX10_ends 237 = .ok (.aload_n 0, 1) := by decide +kernel
theorem dX10_ends_238 : decode cX10_ends 238 = .ok (.lload 6, 2) := by decide +kernel
theorem dX10_ends_240 : decode cX10_ends 240 = .ok (.lload 4, 2) := by decide +kernel
theorem dX10_ends_242 : decode cX10_ends 242 = .ok (.invokevirtual 426, 3) := by decide +kernel
theorem dX10_ends_245 : decode cX10_ends 245 = .ok (.lstore 8, 2) := by decide +kernel
theorem dX10_ends_247 : decode cX10_ends 247 = .ok (.iload_n 3, 1) := by decide +kernel
theorem dX10_ends_248 : decode cX10_ends 248 = .ok (.ifCond .ne 11, 3) := by decide +kernel
theorem dX10_ends_251 : decode cX10_ends 251 = .ok (.lload 6, 2) := by decide +kernel
theorem dX10_ends_253 : decode cX10_ends 253 = .ok (.lload 8, 2) := by decide +kernel
theorem dX10_ends_255 : decode cX10_ends 255 = .ok (.ldiv, 1) := by decide +kernel
theorem dX10_ends_256 : decode cX10_ends 256 = .ok (.goto 8, 3) := by decide +kernel
theorem dX10_ends_259 : decode cX10_ends 259 = .ok (.lload 4, 2) := by decide +kernel
theorem dX10_ends_261 : decode cX10_ends 261 = .ok (.lload 8, 2) := by decide +kernel
theorem dX10_ends_263 : decode cX10_ends 263 = .ok (.ldiv, 1) := by decide +kernel
theorem dX10_ends_264 : decode cX10_ends 264 = .ok (.lreturn, 1) := by decide +kernel
def f_X10_ends_L69  (c1 : Int32) (c2 : Int32) (c3 : Int32) (c6 : Int32) (u : PM) : Int64 × Int32 → Option ((Int64 × Int32) ⊕ (Int64)) := fun (x4 , x7) =>
  if (u.1 (40, 0, 0) 0) ≤ x7 then
    some (.inr (x4))
  else
  some (.inl (x4 * (100 : Int64), x7 + (1 : Int32)))
set_option maxHeartbeats 4000000 in
set_option maxRecDepth 20000 in
theorem K_X10_ends_L69 {l : Launch} {T : Option AV × List Key × AM}  {c1 : Int32} {c2 : Int32} {c3 : Int32} {c6 : Int32} {u : PM} : ∀ (n : Nat) (s : Int64 × Int32) (e0 : Int64), am_loop (f_X10_ends_L69 c1 c2 c3 c6 u) n s = some e0 → (fun e : Int64 => X l mX10_ends 9 0 0 false T kM 0 0 92 [some (vR (40, 0, 0)), some (vI c1), some (vI c2), some (vI c3), some (vJ e), none, some (vI c6), none, none, none] [] (en u)) e0 → X l mX10_ends 9 0 0 false T kM 0 0 69 [some (vR (40, 0, 0)), some (vI c1), some (vI c2), some (vI c3), some (vJ s.1), none, some (vI c6), some (vI s.2), none, none] [] (en u) := by
  refine am_loop_of ?_
  intro s x hf k1 k2
  obtain ⟨x4 , x7⟩ := s
  unfold f_X10_ends_L69 at hf
  show X l mX10_ends 9 0 0 false T kM 0 0 69 [some (vR (40, 0, 0)), some (vI c1), some (vI c2), some (vI c3), some (vJ x4), none, some (vI c6), some (vI x7), none, none] [] (en u)
  refine r_iload (x := x7) dX10_ends_69 rfl ?_
  refine r_aload_n (x := (40, 0, 0)) dX10_ends_71 rfl ?_
  refine e_geti fw_X10_7 dX10_ends_72 (kM_mem (s := 40) (by decide)) rfl (lt_b rfl) ?_
  refine r_icmp_ge (tgt := 92) dX10_ends_75 (by decide) (fun hc => ?_) (fun hc => ?_)
  · have hf := (am_if hf).1 hc
    refine r_weak (L' := [some (vR (40, 0, 0)), some (vI c1), some (vI c2), some (vI c3), some (vJ x4), none, some (vI c6), none, none, none]) (And.intro rfl (And.intro rfl (And.intro rfl (And.intro rfl (And.intro rfl (And.intro rfl trivial)))))) ?_
    exact k2 (x4) (am_inj hf).symm
  · have hf := (am_if hf).2 hc
    refine r_lload (x := x4) dX10_ends_78 rfl ?_
    refine r_ldc2 (v := 100) dX10_ends_80 cc_X10_420 ?_
    refine r_lmul dX10_ends_83 ?_
    refine r_lstore (L' := [some (vR (40, 0, 0)), some (vI c1), some (vI c2), some (vI c3), some (vJ (x4 * (100 : Int64))), none, some (vI c6), some (vI x7), none, none]) dX10_ends_84 (by decide) rfl ?_
    refine r_iinc (x := x7) (v := x7 + (1 : Int32)) (L' := [some (vR (40, 0, 0)), some (vI c1), some (vI c2), some (vI c3), some (vJ (x4 * (100 : Int64))), none, some (vI c6), some (vI (x7 + (1 : Int32))), none, none]) dX10_ends_86 rfl rfl (lt_b rfl) rfl ?_
    refine r_goto (tgt := 69) dX10_ends_89 (by decide) ?_
    refine r_weak (L' := [some (vR (40, 0, 0)), some (vI c1), some (vI c2), some (vI c3), some (vJ (x4 * (100 : Int64))), none, some (vI c6), some (vI (x7 + (1 : Int32))), none, none]) (And.intro rfl (And.intro rfl (And.intro rfl (And.intro rfl (And.intro rfl (And.intro rfl (And.intro rfl trivial))))))) ?_
    exact k1 (x4 * (100 : Int64), x7 + (1 : Int32)) (am_inj hf).symm
def f_X10_ends_L52  (c1 : Int32) (c2 : Int32) (c3 : Int32) (u : PM) : Int64 × Int32 → Option ((Int64 × Int32) ⊕ (Int64)) := fun (x4 , x6) =>
  if c1 ≤ x6 then
    some (.inr (x4))
  else
  (am_loop (f_X10_ends_L69 c1 c2 c3 x6 u) 2000 (x4 * (10 : Int64), (0 : Int32))).bind fun y11 =>
  some (.inl (y11, x6 + (1 : Int32)))
set_option maxHeartbeats 4000000 in
set_option maxRecDepth 20000 in
theorem K_X10_ends_L52 {l : Launch} {T : Option AV × List Key × AM}  {c1 : Int32} {c2 : Int32} {c3 : Int32} {u : PM} : ∀ (n : Nat) (s : Int64 × Int32) (e0 : Int64), am_loop (f_X10_ends_L52 c1 c2 c3 u) n s = some e0 → (fun e : Int64 => X l mX10_ends 9 0 0 false T kM 0 0 98 [some (vR (40, 0, 0)), some (vI c1), some (vI c2), some (vI c3), some (vJ e), none, none, none, none, none] [] (en u)) e0 → X l mX10_ends 9 0 0 false T kM 0 0 52 [some (vR (40, 0, 0)), some (vI c1), some (vI c2), some (vI c3), some (vJ s.1), none, some (vI s.2), none, none, none] [] (en u) := by
  refine am_loop_of ?_
  intro s x hf k1 k2
  obtain ⟨x4 , x6⟩ := s
  unfold f_X10_ends_L52 at hf
  show X l mX10_ends 9 0 0 false T kM 0 0 52 [some (vR (40, 0, 0)), some (vI c1), some (vI c2), some (vI c3), some (vJ x4), none, some (vI x6), none, none, none] [] (en u)
  refine r_iload (x := x6) dX10_ends_52 rfl ?_
  refine r_iload_n (x := c1) dX10_ends_54 rfl ?_
  refine r_icmp_ge (tgt := 98) dX10_ends_55 (by decide) (fun hc => ?_) (fun hc => ?_)
  · have hf := (am_if hf).1 hc
    refine r_weak (L' := [some (vR (40, 0, 0)), some (vI c1), some (vI c2), some (vI c3), some (vJ x4), none, none, none, none, none]) (And.intro rfl (And.intro rfl (And.intro rfl (And.intro rfl (And.intro rfl trivial))))) ?_
    exact k2 (x4) (am_inj hf).symm
  · have hf := (am_if hf).2 hc
    refine r_lload (x := x4) dX10_ends_58 rfl ?_
    refine r_ldc2 (v := 10) dX10_ends_60 cc_X10_418 ?_
    refine r_lmul dX10_ends_63 ?_
    refine r_lstore (L' := [some (vR (40, 0, 0)), some (vI c1), some (vI c2), some (vI c3), some (vJ (x4 * (10 : Int64))), none, some (vI x6), none, none, none]) dX10_ends_64 (by decide) rfl ?_
    refine r_iconst (v := 0) dX10_ends_66 rfl ?_
    refine r_istore (L' := [some (vR (40, 0, 0)), some (vI c1), some (vI c2), some (vI c3), some (vJ (x4 * (10 : Int64))), none, some (vI x6), some (vI (0 : Int32)), none, none]) dX10_ends_67 (by decide) rfl ?_
    refine r_weak (L' := [some (vR (40, 0, 0)), some (vI c1), some (vI c2), some (vI c3), some (vJ (x4 * (10 : Int64))), none, some (vI x6), some (vI (0 : Int32)), none, none]) (And.intro rfl (And.intro rfl (And.intro rfl (And.intro rfl (And.intro rfl (And.intro rfl (And.intro rfl trivial))))))) ?_
    obtain ⟨e9, he10, hf⟩ := am_bind hf
    refine K_X10_ends_L69  2000 (x4 * (10 : Int64), (0 : Int32)) _ he10 ?_
    obtain ⟨y11, rfl⟩ : ∃ z, z = e9 := ⟨_, rfl⟩
    show X l _ _ 0 0 false _ kM 0 0 92 [some (vR (40, 0, 0)), some (vI c1), some (vI c2), some (vI c3), some (vJ y11), none, some (vI x6), none, none, none] [] (en u)
    refine r_iinc (x := x6) (v := x6 + (1 : Int32)) (L' := [some (vR (40, 0, 0)), some (vI c1), some (vI c2), some (vI c3), some (vJ y11), none, some (vI (x6 + (1 : Int32))), none, none, none]) dX10_ends_92 rfl rfl (lt_b rfl) rfl ?_
    refine r_goto (tgt := 52) dX10_ends_95 (by decide) ?_
    refine r_weak (L' := [some (vR (40, 0, 0)), some (vI c1), some (vI c2), some (vI c3), some (vJ y11), none, some (vI (x6 + (1 : Int32))), none, none, none]) (And.intro rfl (And.intro rfl (And.intro rfl (And.intro rfl (And.intro rfl (And.intro rfl trivial)))))) ?_
    exact k1 (y11, x6 + (1 : Int32)) (am_inj hf).symm
def f_X10_ends_L141  (c2 : Int32) (c3 : Int32) (c4 : Int64) (c6 : Int32) : Int32 × PM → Option ((Int32 × PM) ⊕ (PM)) := fun (x7 , u) =>
  if ((1 : Int32) <<< ((u.1 (40, 0, 0) 0) &&& 31)) ≤ x7 then
    some (.inr (u))
  else
  (f_X10_asIs u).bind fun r15 =>
  if (((3 : Int32) * (r15.1 (40, 0, 0) 3)) + c6) < 0 ∨ 9 ≤ (((3 : Int32) * (r15.1 (40, 0, 0) 3)) + c6).toNatClampNeg then none else
  (f_X10_mishapWeight x7 c6 r15).bind fun (r18, u20) =>
  if (lg_cmp (((r15.1 (60, 0, 0) ((((3 : Int32) * (r15.1 (40, 0, 0) 3)) + c6).toNatClampNeg)).toInt64) * r18) (0 : Int64)) = 0 then
    some (.inl (x7 + (1 : Int32), u20))
  else
  (f_X10_goHour c6 x7 u20).bind fun r21 =>
  (f_X10_lastHour c6 (((r15.1 (60, 0, 0) ((((3 : Int32) * (r15.1 (40, 0, 0) 3)) + c6).toNatClampNeg)).toInt64) * r18) r21).bind fun r23 =>
  some (.inl (x7 + (1 : Int32), r23))
set_option maxHeartbeats 4000000 in
set_option maxRecDepth 20000 in
theorem K_X10_ends_L141 {l : Launch} {T : Option AV × List Key × AM}  {c2 : Int32} {c3 : Int32} {c4 : Int64} {c6 : Int32} : ∀ (n : Nat) (s : Int32 × PM) (e0 : PM), am_loop (f_X10_ends_L141 c2 c3 c4 c6) n s = some e0 → (fun e : PM => X l mX10_ends 9 0 0 false T kM 0 0 214 [some (vR (40, 0, 0)), none, some (vI c2), some (vI c3), some (vJ c4), none, some (vI c6), none, none, none] [] (en e)) e0 → X l mX10_ends 9 0 0 false T kM 0 0 141 [some (vR (40, 0, 0)), none, some (vI c2), some (vI c3), some (vJ c4), none, some (vI c6), some (vI s.1), none, none] [] (en s.2) := by
  refine am_loop_of ?_
  intro s x hf k1 k2
  obtain ⟨x7 , u⟩ := s
  unfold f_X10_ends_L141 at hf
  show X l mX10_ends 9 0 0 false T kM 0 0 141 [some (vR (40, 0, 0)), none, some (vI c2), some (vI c3), some (vJ c4), none, some (vI c6), some (vI x7), none, none] [] (en u)
  refine r_iload (x := x7) dX10_ends_141 rfl ?_
  refine r_iconst (v := 1) dX10_ends_143 rfl ?_
  refine r_aload_n (x := (40, 0, 0)) dX10_ends_144 rfl ?_
  refine e_geti fw_X10_7 dX10_ends_145 (kM_mem (s := 40) (by decide)) rfl (lt_b rfl) ?_
  refine r_ishl dX10_ends_148 ?_
  refine r_icmp_ge (tgt := 214) dX10_ends_149 (by decide) (fun hc => ?_) (fun hc => ?_)
  · have hf := (am_if hf).1 hc
    refine r_weak (L' := [some (vR (40, 0, 0)), none, some (vI c2), some (vI c3), some (vJ c4), none, some (vI c6), none, none, none]) (And.intro rfl (And.intro rfl (And.intro rfl (And.intro rfl (And.intro rfl trivial))))) ?_
    exact k2 (u) (am_inj hf).symm
  · have hf := (am_if hf).2 hc
    refine r_aload_n (x := (40, 0, 0)) dX10_ends_152 rfl ?_
    obtain ⟨r15, hr16, hf⟩ := am_bind hf
    refine r_callV (as := []) (st := []) (n := 0) mw_X10_361 mv_X10_asIs (C_X10_asIs (l := l) hr16) (le_b rfl) dX10_ends_153 (kM_mem (s := 40) (by decide)) rfl rfl rfl (le_b rfl) (le_b rfl) (le_b rfl) ?_
    show X l _ _ 0 0 false _ kM 0 0 156 [some (vR (40, 0, 0)), none, some (vI c2), some (vI c3), some (vJ c4), none, some (vI c6), some (vI x7), none, none] [] (en r15)
    refine r_aload_n (x := (40, 0, 0)) dX10_ends_156 rfl ?_
    refine e_getr (z := some (60, 0, 0)) fw_X10_104 dX10_ends_157 (kM_mem (s := 40) (by decide)) rfl (lt_b rfl) rfl ?_
    refine r_iconst (v := 3) dX10_ends_160 rfl ?_
    refine r_aload_n (x := (40, 0, 0)) dX10_ends_161 rfl ?_
    refine e_geti fw_X10_19 dX10_ends_162 (kM_mem (s := 40) (by decide)) rfl (lt_b rfl) ?_
    refine r_imul dX10_ends_165 ?_
    refine r_iload (x := c6) dX10_ends_166 rfl ?_
    refine r_iadd dX10_ends_168 ?_
    obtain ⟨h17, hf⟩ := am_nchk hf
    refine e_iald (n := (((3 : Int32) * (r15.1 (40, 0, 0) 3)) + c6).toNatClampNeg) dX10_ends_169 (kM_mem (s := 60) (by decide)) rfl h17 rfl rfl ?_
    refine r_i2l dX10_ends_170 ?_
    refine r_aload_n (x := (40, 0, 0)) dX10_ends_171 rfl ?_
    refine r_iload (x := x7) dX10_ends_172 rfl ?_
    refine r_iload (x := c6) dX10_ends_174 rfl ?_
    obtain ⟨⟨r18, u20⟩, hr19, hf⟩ := am_bind hf
    refine r_callV (as := [vI x7, vI c6]) (st := [vJ ((r15.1 (60, 0, 0) ((((3 : Int32) * (r15.1 (40, 0, 0) 3)) + c6).toNatClampNeg)).toInt64)]) (n := 2) mw_X10_408 mv_X10_mishapWeight (C_X10_mishapWeight (l := l) hr19) (le_b rfl) dX10_ends_176 (kM_mem (s := 40) (by decide)) rfl rfl rfl (le_b rfl) (le_b rfl) (le_b rfl) ?_
    show X l _ _ 0 0 false _ kM 0 0 179 [some (vR (40, 0, 0)), none, some (vI c2), some (vI c3), some (vJ c4), none, some (vI c6), some (vI x7), none, none] [vJ r18, vJ ((r15.1 (60, 0, 0) ((((3 : Int32) * (r15.1 (40, 0, 0) 3)) + c6).toNatClampNeg)).toInt64)] (en u20)
    refine r_lmul dX10_ends_179 ?_
    refine r_lstore (L' := [some (vR (40, 0, 0)), none, some (vI c2), some (vI c3), some (vJ c4), none, some (vI c6), some (vI x7), some (vJ (((r15.1 (60, 0, 0) ((((3 : Int32) * (r15.1 (40, 0, 0) 3)) + c6).toNatClampNeg)).toInt64) * r18)), none]) dX10_ends_180 (by decide) rfl ?_
    refine r_lload (x := ((r15.1 (60, 0, 0) ((((3 : Int32) * (r15.1 (40, 0, 0) 3)) + c6).toNatClampNeg)).toInt64) * r18) dX10_ends_182 rfl ?_
    refine r_lconst (v := 0) dX10_ends_184 rfl ?_
    refine r_lcmp dX10_ends_185 ?_
    refine r_if_ne (tgt := 192) dX10_ends_186 (by decide) (fun hc => ?_) (fun hc => ?_)
    · have hf := (am_if hf).2 hc
      refine r_aload_n (x := (40, 0, 0)) dX10_ends_192 rfl ?_
      refine r_iload (x := c6) dX10_ends_193 rfl ?_
      refine r_iload (x := x7) dX10_ends_195 rfl ?_
      obtain ⟨r21, hr22, hf⟩ := am_bind hf
      refine r_callV (as := [vI c6, vI x7]) (st := []) (n := 2) mw_X10_390 mv_X10_goHour (C_X10_goHour (l := l) hr22) (le_b rfl) dX10_ends_197 (kM_mem (s := 40) (by decide)) rfl rfl rfl (le_b rfl) (le_b rfl) (le_b rfl) ?_
      show X l _ _ 0 0 false _ kM 0 0 200 [some (vR (40, 0, 0)), none, some (vI c2), some (vI c3), some (vJ c4), none, some (vI c6), some (vI x7), some (vJ (((r15.1 (60, 0, 0) ((((3 : Int32) * (r15.1 (40, 0, 0) 3)) + c6).toNatClampNeg)).toInt64) * r18)), none] [] (en r21)
      refine r_aload_n (x := (40, 0, 0)) dX10_ends_200 rfl ?_
      refine r_iload (x := c6) dX10_ends_201 rfl ?_
      refine r_lload (x := ((r15.1 (60, 0, 0) ((((3 : Int32) * (r15.1 (40, 0, 0) 3)) + c6).toNatClampNeg)).toInt64) * r18) dX10_ends_203 rfl ?_
      obtain ⟨r23, hr24, hf⟩ := am_bind hf
      refine r_callV (as := [vI c6, vJ (((r15.1 (60, 0, 0) ((((3 : Int32) * (r15.1 (40, 0, 0) 3)) + c6).toNatClampNeg)).toInt64) * r18)]) (st := []) (n := 2) mw_X10_422 mv_X10_lastHour (C_X10_lastHour (l := l) hr24) (le_b rfl) dX10_ends_205 (kM_mem (s := 40) (by decide)) rfl rfl rfl (le_b rfl) (le_b rfl) (le_b rfl) ?_
      show X l _ _ 0 0 false _ kM 0 0 208 [some (vR (40, 0, 0)), none, some (vI c2), some (vI c3), some (vJ c4), none, some (vI c6), some (vI x7), some (vJ (((r15.1 (60, 0, 0) ((((3 : Int32) * (r15.1 (40, 0, 0) 3)) + c6).toNatClampNeg)).toInt64) * r18)), none] [] (en r23)
      refine r_iinc (x := x7) (v := x7 + (1 : Int32)) (L' := [some (vR (40, 0, 0)), none, some (vI c2), some (vI c3), some (vJ c4), none, some (vI c6), some (vI (x7 + (1 : Int32))), some (vJ (((r15.1 (60, 0, 0) ((((3 : Int32) * (r15.1 (40, 0, 0) 3)) + c6).toNatClampNeg)).toInt64) * r18)), none]) dX10_ends_208 rfl rfl (lt_b rfl) rfl ?_
      refine r_goto (tgt := 141) dX10_ends_211 (by decide) ?_
      refine r_weak (L' := [some (vR (40, 0, 0)), none, some (vI c2), some (vI c3), some (vJ c4), none, some (vI c6), some (vI (x7 + (1 : Int32))), none, none]) (And.intro rfl (And.intro rfl (And.intro rfl (And.intro rfl (And.intro rfl (And.intro rfl trivial)))))) ?_
      exact k1 (x7 + (1 : Int32), r23) (am_inj hf).symm
    · have hf := (am_if hf).1 hc
      refine r_goto (tgt := 208) dX10_ends_189 (by decide) ?_
      refine r_iinc (x := x7) (v := x7 + (1 : Int32)) (L' := [some (vR (40, 0, 0)), none, some (vI c2), some (vI c3), some (vJ c4), none, some (vI c6), some (vI (x7 + (1 : Int32))), some (vJ (((r15.1 (60, 0, 0) ((((3 : Int32) * (r15.1 (40, 0, 0) 3)) + c6).toNatClampNeg)).toInt64) * r18)), none]) dX10_ends_208 rfl rfl (lt_b rfl) rfl ?_
      refine r_goto (tgt := 141) dX10_ends_211 (by decide) ?_
      refine r_weak (L' := [some (vR (40, 0, 0)), none, some (vI c2), some (vI c3), some (vJ c4), none, some (vI c6), some (vI (x7 + (1 : Int32))), none, none]) (And.intro rfl (And.intro rfl (And.intro rfl (And.intro rfl (And.intro rfl (And.intro rfl trivial)))))) ?_
      exact k1 (x7 + (1 : Int32), u20) (am_inj hf).symm
def f_X10_ends_L132  (c2 : Int32) (c3 : Int32) (c4 : Int64) : Int32 × PM → Option ((Int32 × PM) ⊕ (PM)) := fun (x6 , u) =>
  if (3 : Int32) ≤ x6 then
    some (.inr (u))
  else
  (am_loop (f_X10_ends_L141 c2 c3 c4 x6) 2000 ((0 : Int32), u)).bind fun u27 =>
  some (.inl (x6 + (1 : Int32), u27))
set_option maxHeartbeats 4000000 in
set_option maxRecDepth 20000 in
theorem K_X10_ends_L132 {l : Launch} {T : Option AV × List Key × AM}  {c2 : Int32} {c3 : Int32} {c4 : Int64} : ∀ (n : Nat) (s : Int32 × PM) (e0 : PM), am_loop (f_X10_ends_L132 c2 c3 c4) n s = some e0 → (fun e : PM => X l mX10_ends 9 0 0 false T kM 0 0 220 [some (vR (40, 0, 0)), none, some (vI c2), some (vI c3), some (vJ c4), none, none, none, none, none] [] (en e)) e0 → X l mX10_ends 9 0 0 false T kM 0 0 132 [some (vR (40, 0, 0)), none, some (vI c2), some (vI c3), some (vJ c4), none, some (vI s.1), none, none, none] [] (en s.2) := by
  refine am_loop_of ?_
  intro s x hf k1 k2
  obtain ⟨x6 , u⟩ := s
  unfold f_X10_ends_L132 at hf
  show X l mX10_ends 9 0 0 false T kM 0 0 132 [some (vR (40, 0, 0)), none, some (vI c2), some (vI c3), some (vJ c4), none, some (vI x6), none, none, none] [] (en u)
  refine r_iload (x := x6) dX10_ends_132 rfl ?_
  refine r_iconst (v := 3) dX10_ends_134 rfl ?_
  refine r_icmp_ge (tgt := 220) dX10_ends_135 (by decide) (fun hc => ?_) (fun hc => ?_)
  · have hf := (am_if hf).1 hc
    refine r_weak (L' := [some (vR (40, 0, 0)), none, some (vI c2), some (vI c3), some (vJ c4), none, none, none, none, none]) (And.intro rfl (And.intro rfl (And.intro rfl (And.intro rfl trivial)))) ?_
    exact k2 (u) (am_inj hf).symm
  · have hf := (am_if hf).2 hc
    refine r_iconst (v := 0) dX10_ends_138 rfl ?_
    refine r_istore (L' := [some (vR (40, 0, 0)), none, some (vI c2), some (vI c3), some (vJ c4), none, some (vI x6), some (vI (0 : Int32)), none, none]) dX10_ends_139 (by decide) rfl ?_
    refine r_weak (L' := [some (vR (40, 0, 0)), none, some (vI c2), some (vI c3), some (vJ c4), none, some (vI x6), some (vI (0 : Int32)), none, none]) (And.intro rfl (And.intro rfl (And.intro rfl (And.intro rfl (And.intro rfl (And.intro rfl trivial)))))) ?_
    obtain ⟨e25, he26, hf⟩ := am_bind hf
    refine K_X10_ends_L141  2000 ((0 : Int32), u) _ he26 ?_
    obtain ⟨u27, rfl⟩ : ∃ z, z = e25 := ⟨_, rfl⟩
    show X l _ _ 0 0 false _ kM 0 0 214 [some (vR (40, 0, 0)), none, some (vI c2), some (vI c3), some (vJ c4), none, some (vI x6), none, none, none] [] (en u27)
    refine r_iinc (x := x6) (v := x6 + (1 : Int32)) (L' := [some (vR (40, 0, 0)), none, some (vI c2), some (vI c3), some (vJ c4), none, some (vI (x6 + (1 : Int32))), none, none, none]) dX10_ends_214 rfl rfl (lt_b rfl) rfl ?_
    refine r_goto (tgt := 132) dX10_ends_217 (by decide) ?_
    refine r_weak (L' := [some (vR (40, 0, 0)), none, some (vI c2), some (vI c3), some (vJ c4), none, some (vI (x6 + (1 : Int32))), none, none, none]) (And.intro rfl (And.intro rfl (And.intro rfl (And.intro rfl (And.intro rfl trivial))))) ?_
    exact k1 (x6 + (1 : Int32), u27) (am_inj hf).symm
def f_X10_ends  (a0 : Int32) (a1 : Int32) (a2 : Int32) (u : PM) : Option (Int64 × PM) :=
  (f_X10_in a0 (1 : Int32) (2 : Int32) u).bind fun r1 =>
  if r1 = 0 then
    some ((-9223372036854775808 : Int64), u)
  else
  (f_X10_in a1 (0 : Int32) (1 : Int32) u).bind fun r3 =>
  if r3 = 0 then
    some ((-9223372036854775808 : Int64), u)
  else
  (f_X10_in a2 (0 : Int32) (1 : Int32) u).bind fun r5 =>
  if r5 = 0 then
    some ((-9223372036854775808 : Int64), u)
  else
  if (u.1 (40, 0, 0) 0) ≤ (3 : Int32) then
    (f_X10_layFollows u).bind fun r7 =>
    (am_loop (f_X10_ends_L52 a0 a1 a2 r7) 2000 ((1 : Int64), (0 : Int32))).bind fun y14 =>
    if a0 = (1 : Int32) then
      (f_X10_asIs (pl (pl r7 (40, 0, 0) 58 (0 : Int64)) (40, 0, 0) 59 (0 : Int64))).bind fun r39 =>
      (f_X10_lastHour (r39.1 (40, 0, 0) 3) (1 : Int64) r39).bind fun r41 =>
      if a1 = 0 then
        (f_X10_divisor (r41.2.1 (40, 0, 0) 58) y14 r41).bind fun r47 =>
        if a2 = 0 then
          if r47 = 0 then none else
          some ((r41.2.1 (40, 0, 0) 58) / r47, r41)
        else
        if r47 = 0 then none else
        some (y14 / r47, r41)
      else
      (f_X10_divisor (r41.2.1 (40, 0, 0) 59) y14 r41).bind fun r43 =>
      if a2 = 0 then
        if r43 = 0 then none else
        some ((r41.2.1 (40, 0, 0) 59) / r43, r41)
      else
      if r43 = 0 then none else
      some (y14 / r43, r41)
    else
    (am_loop (f_X10_ends_L132 a1 a2 y14) 2000 ((0 : Int32), (pl (pl r7 (40, 0, 0) 58 (0 : Int64)) (40, 0, 0) 59 (0 : Int64)))).bind fun u30 =>
    if a1 = 0 then
      (f_X10_divisor (u30.2.1 (40, 0, 0) 58) y14 u30).bind fun r35 =>
      if a2 = 0 then
        if r35 = 0 then none else
        some ((u30.2.1 (40, 0, 0) 58) / r35, u30)
      else
      if r35 = 0 then none else
      some (y14 / r35, u30)
    else
    (f_X10_divisor (u30.2.1 (40, 0, 0) 59) y14 u30).bind fun r31 =>
    if a2 = 0 then
      if r31 = 0 then none else
      some ((u30.2.1 (40, 0, 0) 59) / r31, u30)
    else
    if r31 = 0 then none else
    some (y14 / r31, u30)
  else
  some ((-9223372036854775808 : Int64), u)
set_option maxHeartbeats 4000000 in
set_option maxRecDepth 20000 in
theorem C_X10_ends {l : Launch}  {a0 : Int32} {a1 : Int32} {a2 : Int32} {u : PM} {x : Int64 × PM} (hf : f_X10_ends a0 a1 a2 u = some x) : Ev l mX10_ends 9 0 0 false [vR (40, 0, 0), vI a0, vI a1, vI a2] kM (en u) (some (vJ x.1), kM, en x.2) := by
  refine Ev_of (by decide +kernel) (le_b rfl) ?_
  unfold f_X10_ends at hf
  show X l mX10_ends 9 0 0 false _ kM 0 0 0 [some (vR (40, 0, 0)), some (vI a0), some (vI a1), some (vI a2), none, none, none, none, none, none] [] (en u)
  refine r_aload_n (x := (40, 0, 0)) dX10_ends_0 rfl ?_
  refine r_iload_n (x := a0) dX10_ends_1 rfl ?_
  refine r_iconst (v := 1) dX10_ends_2 rfl ?_
  refine r_iconst (v := 2) dX10_ends_3 rfl ?_
  obtain ⟨r1, hr2, hf⟩ := am_bind hf
  refine r_callV (as := [vI a0, vI (1 : Int32), vI (2 : Int32)]) (st := []) (n := 3) mw_X10_267 mv_X10_in (C_X10_in (l := l) hr2) (le_b rfl) dX10_ends_4 (kM_mem (s := 40) (by decide)) rfl rfl rfl (le_b rfl) (le_b rfl) (le_b rfl) ?_
  show X l _ _ 0 0 false _ kM 0 0 7 [some (vR (40, 0, 0)), some (vI a0), some (vI a1), some (vI a2), none, none, none, none, none, none] [vI r1] (en u)
  refine r_if_eq (tgt := 38) dX10_ends_7 (by decide) (fun hc => ?_) (fun hc => ?_)
  · have hf := (am_if hf).1 hc
    refine r_ldc2 (v := -9223372036854775808) dX10_ends_38 cc_X10_416 ?_
    have hx := am_inj hf
    subst hx
    exact r_lret dX10_ends_41 rfl (le_b rfl) (le_b rfl)
  · have hf := (am_if hf).2 hc
    refine r_aload_n (x := (40, 0, 0)) dX10_ends_10 rfl ?_
    refine r_iload_n (x := a1) dX10_ends_11 rfl ?_
    refine r_iconst (v := 0) dX10_ends_12 rfl ?_
    refine r_iconst (v := 1) dX10_ends_13 rfl ?_
    obtain ⟨r3, hr4, hf⟩ := am_bind hf
    refine r_callV (as := [vI a1, vI (0 : Int32), vI (1 : Int32)]) (st := []) (n := 3) mw_X10_267 mv_X10_in (C_X10_in (l := l) hr4) (le_b rfl) dX10_ends_14 (kM_mem (s := 40) (by decide)) rfl rfl rfl (le_b rfl) (le_b rfl) (le_b rfl) ?_
    show X l _ _ 0 0 false _ kM 0 0 17 [some (vR (40, 0, 0)), some (vI a0), some (vI a1), some (vI a2), none, none, none, none, none, none] [vI r3] (en u)
    refine r_if_eq (tgt := 38) dX10_ends_17 (by decide) (fun hc => ?_) (fun hc => ?_)
    · have hf := (am_if hf).1 hc
      refine r_ldc2 (v := -9223372036854775808) dX10_ends_38 cc_X10_416 ?_
      have hx := am_inj hf
      subst hx
      exact r_lret dX10_ends_41 rfl (le_b rfl) (le_b rfl)
    · have hf := (am_if hf).2 hc
      refine r_aload_n (x := (40, 0, 0)) dX10_ends_20 rfl ?_
      refine r_iload_n (x := a2) dX10_ends_21 rfl ?_
      refine r_iconst (v := 0) dX10_ends_22 rfl ?_
      refine r_iconst (v := 1) dX10_ends_23 rfl ?_
      obtain ⟨r5, hr6, hf⟩ := am_bind hf
      refine r_callV (as := [vI a2, vI (0 : Int32), vI (1 : Int32)]) (st := []) (n := 3) mw_X10_267 mv_X10_in (C_X10_in (l := l) hr6) (le_b rfl) dX10_ends_24 (kM_mem (s := 40) (by decide)) rfl rfl rfl (le_b rfl) (le_b rfl) (le_b rfl) ?_
      show X l _ _ 0 0 false _ kM 0 0 27 [some (vR (40, 0, 0)), some (vI a0), some (vI a1), some (vI a2), none, none, none, none, none, none] [vI r5] (en u)
      refine r_if_eq (tgt := 38) dX10_ends_27 (by decide) (fun hc => ?_) (fun hc => ?_)
      · have hf := (am_if hf).1 hc
        refine r_ldc2 (v := -9223372036854775808) dX10_ends_38 cc_X10_416 ?_
        have hx := am_inj hf
        subst hx
        exact r_lret dX10_ends_41 rfl (le_b rfl) (le_b rfl)
      · have hf := (am_if hf).2 hc
        refine r_aload_n (x := (40, 0, 0)) dX10_ends_30 rfl ?_
        refine e_geti fw_X10_7 dX10_ends_31 (kM_mem (s := 40) (by decide)) rfl (lt_b rfl) ?_
        refine r_iconst (v := 3) dX10_ends_34 rfl ?_
        refine r_icmp_le (tgt := 42) dX10_ends_35 (by decide) (fun hc => ?_) (fun hc => ?_)
        · have hf := (am_if hf).1 hc
          refine r_aload_n (x := (40, 0, 0)) dX10_ends_42 rfl ?_
          obtain ⟨r7, hr8, hf⟩ := am_bind hf
          refine r_callV (as := []) (st := []) (n := 0) mw_X10_345 mv_X10_layFollows (C_X10_layFollows (l := l) hr8) (le_b rfl) dX10_ends_43 (kM_mem (s := 40) (by decide)) rfl rfl rfl (le_b rfl) (le_b rfl) (le_b rfl) ?_
          show X l _ _ 0 0 false _ kM 0 0 46 [some (vR (40, 0, 0)), some (vI a0), some (vI a1), some (vI a2), none, none, none, none, none, none] [] (en r7)
          refine r_lconst (v := 1) dX10_ends_46 rfl ?_
          refine r_lstore (L' := [some (vR (40, 0, 0)), some (vI a0), some (vI a1), some (vI a2), some (vJ (1 : Int64)), none, none, none, none, none]) dX10_ends_47 (by decide) rfl ?_
          refine r_iconst (v := 0) dX10_ends_49 rfl ?_
          refine r_istore (L' := [some (vR (40, 0, 0)), some (vI a0), some (vI a1), some (vI a2), some (vJ (1 : Int64)), none, some (vI (0 : Int32)), none, none, none]) dX10_ends_50 (by decide) rfl ?_
          refine r_weak (L' := [some (vR (40, 0, 0)), some (vI a0), some (vI a1), some (vI a2), some (vJ (1 : Int64)), none, some (vI (0 : Int32)), none, none, none]) (And.intro rfl (And.intro rfl (And.intro rfl (And.intro rfl (And.intro rfl (And.intro rfl trivial)))))) ?_
          obtain ⟨e12, he13, hf⟩ := am_bind hf
          refine K_X10_ends_L52  2000 ((1 : Int64), (0 : Int32)) _ he13 ?_
          obtain ⟨y14, rfl⟩ : ∃ z, z = e12 := ⟨_, rfl⟩
          show X l _ _ 0 0 false _ kM 0 0 98 [some (vR (40, 0, 0)), some (vI a0), some (vI a1), some (vI a2), some (vJ y14), none, none, none, none, none] [] (en r7)
          refine r_aload_n (x := (40, 0, 0)) dX10_ends_98 rfl ?_
          refine r_lconst (v := 0) dX10_ends_99 rfl ?_
          refine e_putl fp_X10_186 dX10_ends_100 (kM_mem (s := 40) (by decide)) rfl (lt_b rfl) rfl ?_
          refine r_aload_n (x := (40, 0, 0)) dX10_ends_103 rfl ?_
          refine r_lconst (v := 0) dX10_ends_104 rfl ?_
          refine e_putl fp_X10_190 dX10_ends_105 (kM_mem (s := 40) (by decide)) rfl (lt_b rfl) rfl ?_
          refine r_iload_n (x := a0) dX10_ends_108 rfl ?_
          refine r_iconst (v := 1) dX10_ends_109 rfl ?_
          refine r_icmp_ne (tgt := 129) dX10_ends_110 (by decide) (fun hc => ?_) (fun hc => ?_)
          · have hf := (am_if hf).2 hc
            refine r_iconst (v := 0) dX10_ends_129 rfl ?_
            refine r_istore (L' := [some (vR (40, 0, 0)), some (vI a0), some (vI a1), some (vI a2), some (vJ y14), none, some (vI (0 : Int32)), none, none, none]) dX10_ends_130 (by decide) rfl ?_
            refine r_weak (L' := [some (vR (40, 0, 0)), none, some (vI a1), some (vI a2), some (vJ y14), none, some (vI (0 : Int32)), none, none, none]) (And.intro rfl (And.intro rfl (And.intro rfl (And.intro rfl (And.intro rfl trivial))))) ?_
            obtain ⟨e28, he29, hf⟩ := am_bind hf
            refine K_X10_ends_L132  2000 ((0 : Int32), (pl (pl r7 (40, 0, 0) 58 (0 : Int64)) (40, 0, 0) 59 (0 : Int64))) _ he29 ?_
            obtain ⟨u30, rfl⟩ : ∃ z, z = e28 := ⟨_, rfl⟩
            show X l _ _ 0 0 false _ kM 0 0 220 [some (vR (40, 0, 0)), none, some (vI a1), some (vI a2), some (vJ y14), none, none, none, none, none] [] (en u30)
            refine r_iload_n (x := a1) dX10_ends_220 rfl ?_
            refine r_if_ne (tgt := 231) dX10_ends_221 (by decide) (fun hc => ?_) (fun hc => ?_)
            · have hf := (am_if hf).2 hc
              refine r_aload_n (x := (40, 0, 0)) dX10_ends_231 rfl ?_
              refine e_getl fw_X10_190 dX10_ends_232 (kM_mem (s := 40) (by decide)) rfl (lt_b rfl) ?_
              refine r_lstore (L' := [some (vR (40, 0, 0)), none, some (vI a1), some (vI a2), some (vJ y14), none, some (vJ (u30.2.1 (40, 0, 0) 59)), none, none, none]) dX10_ends_235 (by decide) rfl ?_
              refine r_aload_n (x := (40, 0, 0)) dX10_ends_237 rfl ?_
              refine r_lload (x := u30.2.1 (40, 0, 0) 59) dX10_ends_238 rfl ?_
              refine r_lload (x := y14) dX10_ends_240 rfl ?_
              obtain ⟨r31, hr32, hf⟩ := am_bind hf
              refine r_callV (as := [vJ (u30.2.1 (40, 0, 0) 59), vJ y14]) (st := []) (n := 2) mw_X10_426 mv_X10_divisor (C_X10_divisor (l := l) hr32) (le_b rfl) dX10_ends_242 (kM_mem (s := 40) (by decide)) rfl rfl rfl (le_b rfl) (le_b rfl) (le_b rfl) ?_
              show X l _ _ 0 0 false _ kM 0 0 245 [some (vR (40, 0, 0)), none, some (vI a1), some (vI a2), some (vJ y14), none, some (vJ (u30.2.1 (40, 0, 0) 59)), none, none, none] [vJ r31] (en u30)
              refine r_lstore (L' := [some (vR (40, 0, 0)), none, some (vI a1), some (vI a2), some (vJ y14), none, some (vJ (u30.2.1 (40, 0, 0) 59)), none, some (vJ r31), none]) dX10_ends_245 (by decide) rfl ?_
              refine r_iload_n (x := a2) dX10_ends_247 rfl ?_
              refine r_if_ne (tgt := 259) dX10_ends_248 (by decide) (fun hc => ?_) (fun hc => ?_)
              · have hf := (am_if hf).2 hc
                refine r_lload (x := y14) dX10_ends_259 rfl ?_
                refine r_lload (x := r31) dX10_ends_261 rfl ?_
                obtain ⟨h33, hf⟩ := am_nchk hf
                refine r_ldiv dX10_ends_263 h33 ?_
                have hx := am_inj hf
                subst hx
                exact r_lret dX10_ends_264 rfl (le_b rfl) (le_b rfl)
              · have hf := (am_if hf).1 hc
                refine r_lload (x := u30.2.1 (40, 0, 0) 59) dX10_ends_251 rfl ?_
                refine r_lload (x := r31) dX10_ends_253 rfl ?_
                obtain ⟨h34, hf⟩ := am_nchk hf
                refine r_ldiv dX10_ends_255 h34 ?_
                refine r_goto (tgt := 264) dX10_ends_256 (by decide) ?_
                have hx := am_inj hf
                subst hx
                exact r_lret dX10_ends_264 rfl (le_b rfl) (le_b rfl)
            · have hf := (am_if hf).1 hc
              refine r_aload_n (x := (40, 0, 0)) dX10_ends_224 rfl ?_
              refine e_getl fw_X10_186 dX10_ends_225 (kM_mem (s := 40) (by decide)) rfl (lt_b rfl) ?_
              refine r_goto (tgt := 235) dX10_ends_228 (by decide) ?_
              refine r_lstore (L' := [some (vR (40, 0, 0)), none, some (vI a1), some (vI a2), some (vJ y14), none, some (vJ (u30.2.1 (40, 0, 0) 58)), none, none, none]) dX10_ends_235 (by decide) rfl ?_
              refine r_aload_n (x := (40, 0, 0)) dX10_ends_237 rfl ?_
              refine r_lload (x := u30.2.1 (40, 0, 0) 58) dX10_ends_238 rfl ?_
              refine r_lload (x := y14) dX10_ends_240 rfl ?_
              obtain ⟨r35, hr36, hf⟩ := am_bind hf
              refine r_callV (as := [vJ (u30.2.1 (40, 0, 0) 58), vJ y14]) (st := []) (n := 2) mw_X10_426 mv_X10_divisor (C_X10_divisor (l := l) hr36) (le_b rfl) dX10_ends_242 (kM_mem (s := 40) (by decide)) rfl rfl rfl (le_b rfl) (le_b rfl) (le_b rfl) ?_
              show X l _ _ 0 0 false _ kM 0 0 245 [some (vR (40, 0, 0)), none, some (vI a1), some (vI a2), some (vJ y14), none, some (vJ (u30.2.1 (40, 0, 0) 58)), none, none, none] [vJ r35] (en u30)
              refine r_lstore (L' := [some (vR (40, 0, 0)), none, some (vI a1), some (vI a2), some (vJ y14), none, some (vJ (u30.2.1 (40, 0, 0) 58)), none, some (vJ r35), none]) dX10_ends_245 (by decide) rfl ?_
              refine r_iload_n (x := a2) dX10_ends_247 rfl ?_
              refine r_if_ne (tgt := 259) dX10_ends_248 (by decide) (fun hc => ?_) (fun hc => ?_)
              · have hf := (am_if hf).2 hc
                refine r_lload (x := y14) dX10_ends_259 rfl ?_
                refine r_lload (x := r35) dX10_ends_261 rfl ?_
                obtain ⟨h37, hf⟩ := am_nchk hf
                refine r_ldiv dX10_ends_263 h37 ?_
                have hx := am_inj hf
                subst hx
                exact r_lret dX10_ends_264 rfl (le_b rfl) (le_b rfl)
              · have hf := (am_if hf).1 hc
                refine r_lload (x := u30.2.1 (40, 0, 0) 58) dX10_ends_251 rfl ?_
                refine r_lload (x := r35) dX10_ends_253 rfl ?_
                obtain ⟨h38, hf⟩ := am_nchk hf
                refine r_ldiv dX10_ends_255 h38 ?_
                refine r_goto (tgt := 264) dX10_ends_256 (by decide) ?_
                have hx := am_inj hf
                subst hx
                exact r_lret dX10_ends_264 rfl (le_b rfl) (le_b rfl)
          · have hf := (am_if hf).1 hc
            refine r_aload_n (x := (40, 0, 0)) dX10_ends_113 rfl ?_
            obtain ⟨r39, hr40, hf⟩ := am_bind hf
            refine r_callV (as := []) (st := []) (n := 0) mw_X10_361 mv_X10_asIs (C_X10_asIs (l := l) hr40) (le_b rfl) dX10_ends_114 (kM_mem (s := 40) (by decide)) rfl rfl rfl (le_b rfl) (le_b rfl) (le_b rfl) ?_
            show X l _ _ 0 0 false _ kM 0 0 117 [some (vR (40, 0, 0)), some (vI a0), some (vI a1), some (vI a2), some (vJ y14), none, none, none, none, none] [] (en r39)
            refine r_aload_n (x := (40, 0, 0)) dX10_ends_117 rfl ?_
            refine r_aload_n (x := (40, 0, 0)) dX10_ends_118 rfl ?_
            refine e_geti fw_X10_19 dX10_ends_119 (kM_mem (s := 40) (by decide)) rfl (lt_b rfl) ?_
            refine r_lconst (v := 1) dX10_ends_122 rfl ?_
            obtain ⟨r41, hr42, hf⟩ := am_bind hf
            refine r_callV (as := [vI (r39.1 (40, 0, 0) 3), vJ (1 : Int64)]) (st := []) (n := 2) mw_X10_422 mv_X10_lastHour (C_X10_lastHour (l := l) hr42) (le_b rfl) dX10_ends_123 (kM_mem (s := 40) (by decide)) rfl rfl rfl (le_b rfl) (le_b rfl) (le_b rfl) ?_
            show X l _ _ 0 0 false _ kM 0 0 126 [some (vR (40, 0, 0)), some (vI a0), some (vI a1), some (vI a2), some (vJ y14), none, none, none, none, none] [] (en r41)
            refine r_goto (tgt := 220) dX10_ends_126 (by decide) ?_
            refine r_iload_n (x := a1) dX10_ends_220 rfl ?_
            refine r_if_ne (tgt := 231) dX10_ends_221 (by decide) (fun hc => ?_) (fun hc => ?_)
            · have hf := (am_if hf).2 hc
              refine r_aload_n (x := (40, 0, 0)) dX10_ends_231 rfl ?_
              refine e_getl fw_X10_190 dX10_ends_232 (kM_mem (s := 40) (by decide)) rfl (lt_b rfl) ?_
              refine r_lstore (L' := [some (vR (40, 0, 0)), some (vI a0), some (vI a1), some (vI a2), some (vJ y14), none, some (vJ (r41.2.1 (40, 0, 0) 59)), none, none, none]) dX10_ends_235 (by decide) rfl ?_
              refine r_aload_n (x := (40, 0, 0)) dX10_ends_237 rfl ?_
              refine r_lload (x := r41.2.1 (40, 0, 0) 59) dX10_ends_238 rfl ?_
              refine r_lload (x := y14) dX10_ends_240 rfl ?_
              obtain ⟨r43, hr44, hf⟩ := am_bind hf
              refine r_callV (as := [vJ (r41.2.1 (40, 0, 0) 59), vJ y14]) (st := []) (n := 2) mw_X10_426 mv_X10_divisor (C_X10_divisor (l := l) hr44) (le_b rfl) dX10_ends_242 (kM_mem (s := 40) (by decide)) rfl rfl rfl (le_b rfl) (le_b rfl) (le_b rfl) ?_
              show X l _ _ 0 0 false _ kM 0 0 245 [some (vR (40, 0, 0)), some (vI a0), some (vI a1), some (vI a2), some (vJ y14), none, some (vJ (r41.2.1 (40, 0, 0) 59)), none, none, none] [vJ r43] (en r41)
              refine r_lstore (L' := [some (vR (40, 0, 0)), some (vI a0), some (vI a1), some (vI a2), some (vJ y14), none, some (vJ (r41.2.1 (40, 0, 0) 59)), none, some (vJ r43), none]) dX10_ends_245 (by decide) rfl ?_
              refine r_iload_n (x := a2) dX10_ends_247 rfl ?_
              refine r_if_ne (tgt := 259) dX10_ends_248 (by decide) (fun hc => ?_) (fun hc => ?_)
              · have hf := (am_if hf).2 hc
                refine r_lload (x := y14) dX10_ends_259 rfl ?_
                refine r_lload (x := r43) dX10_ends_261 rfl ?_
                obtain ⟨h45, hf⟩ := am_nchk hf
                refine r_ldiv dX10_ends_263 h45 ?_
                have hx := am_inj hf
                subst hx
                exact r_lret dX10_ends_264 rfl (le_b rfl) (le_b rfl)
              · have hf := (am_if hf).1 hc
                refine r_lload (x := r41.2.1 (40, 0, 0) 59) dX10_ends_251 rfl ?_
                refine r_lload (x := r43) dX10_ends_253 rfl ?_
                obtain ⟨h46, hf⟩ := am_nchk hf
                refine r_ldiv dX10_ends_255 h46 ?_
                refine r_goto (tgt := 264) dX10_ends_256 (by decide) ?_
                have hx := am_inj hf
                subst hx
                exact r_lret dX10_ends_264 rfl (le_b rfl) (le_b rfl)
            · have hf := (am_if hf).1 hc
              refine r_aload_n (x := (40, 0, 0)) dX10_ends_224 rfl ?_
              refine e_getl fw_X10_186 dX10_ends_225 (kM_mem (s := 40) (by decide)) rfl (lt_b rfl) ?_
              refine r_goto (tgt := 235) dX10_ends_228 (by decide) ?_
              refine r_lstore (L' := [some (vR (40, 0, 0)), some (vI a0), some (vI a1), some (vI a2), some (vJ y14), none, some (vJ (r41.2.1 (40, 0, 0) 58)), none, none, none]) dX10_ends_235 (by decide) rfl ?_
              refine r_aload_n (x := (40, 0, 0)) dX10_ends_237 rfl ?_
              refine r_lload (x := r41.2.1 (40, 0, 0) 58) dX10_ends_238 rfl ?_
              refine r_lload (x := y14) dX10_ends_240 rfl ?_
              obtain ⟨r47, hr48, hf⟩ := am_bind hf
              refine r_callV (as := [vJ (r41.2.1 (40, 0, 0) 58), vJ y14]) (st := []) (n := 2) mw_X10_426 mv_X10_divisor (C_X10_divisor (l := l) hr48) (le_b rfl) dX10_ends_242 (kM_mem (s := 40) (by decide)) rfl rfl rfl (le_b rfl) (le_b rfl) (le_b rfl) ?_
              show X l _ _ 0 0 false _ kM 0 0 245 [some (vR (40, 0, 0)), some (vI a0), some (vI a1), some (vI a2), some (vJ y14), none, some (vJ (r41.2.1 (40, 0, 0) 58)), none, none, none] [vJ r47] (en r41)
              refine r_lstore (L' := [some (vR (40, 0, 0)), some (vI a0), some (vI a1), some (vI a2), some (vJ y14), none, some (vJ (r41.2.1 (40, 0, 0) 58)), none, some (vJ r47), none]) dX10_ends_245 (by decide) rfl ?_
              refine r_iload_n (x := a2) dX10_ends_247 rfl ?_
              refine r_if_ne (tgt := 259) dX10_ends_248 (by decide) (fun hc => ?_) (fun hc => ?_)
              · have hf := (am_if hf).2 hc
                refine r_lload (x := y14) dX10_ends_259 rfl ?_
                refine r_lload (x := r47) dX10_ends_261 rfl ?_
                obtain ⟨h49, hf⟩ := am_nchk hf
                refine r_ldiv dX10_ends_263 h49 ?_
                have hx := am_inj hf
                subst hx
                exact r_lret dX10_ends_264 rfl (le_b rfl) (le_b rfl)
              · have hf := (am_if hf).1 hc
                refine r_lload (x := r41.2.1 (40, 0, 0) 58) dX10_ends_251 rfl ?_
                refine r_lload (x := r47) dX10_ends_253 rfl ?_
                obtain ⟨h50, hf⟩ := am_nchk hf
                refine r_ldiv dX10_ends_255 h50 ?_
                refine r_goto (tgt := 264) dX10_ends_256 (by decide) ?_
                have hx := am_inj hf
                subst hx
                exact r_lret dX10_ends_264 rfl (le_b rfl) (le_b rfl)
        · have hf := (am_if hf).2 hc
          refine r_ldc2 (v := -9223372036854775808) dX10_ends_38 cc_X10_416 ?_
          have hx := am_inj hf
          subst hx
          exact r_lret dX10_ends_41 rfl (le_b rfl) (le_b rfl)
