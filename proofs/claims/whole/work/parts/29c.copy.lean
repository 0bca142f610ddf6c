abbrev mX10_copy : MD := (yX10_copy, cX10_copy, 4, none)
theorem dX10_copy_0 : decode cX10_copy 0 = .ok (.iconst 0, 1) := by decide +kernel
theorem dX10_copy_1 : decode cX10_copy 1 = .ok (.istore_n 3, 1) := by decide +kernel
theorem dX10_copy_2 : decode cX10_copy 2 = .ok (.iload_n 3, 1) := by decide +kernel
theorem dX10_copy_3 : decode cX10_copy 3 = .ok (.aload_n 2, 1) := by decide +kernel
theorem dX10_copy_4 : decode cX10_copy 4 = .ok (.arraylength, 1) := by decide +kernel
theorem dX10_copy_5 : decode cX10_copy 5 = .ok (.if_icmp .ge 15, 3) := by decide +kernel
theorem dX10_copy_8 : decode cX10_copy 8 = .ok (.aload_n 2, 1) := by decide +kernel
theorem dX10_copy_9 : decode cX10_copy 9 = .ok (.iload_n 3, 1) := by decide +kernel
theorem dX10_copy_10 : decode cX10_copy 10 = .ok (.aload_n 1, 1) := by decide +kernel
theorem dX10_copy_11 : decode cX10_copy 11 = .ok (.iload_n 3, 1) := by decide +kernel
theorem dX10_copy_12 : decode cX10_copy 12 = .ok (.iaload, 1) := by decide +kernel
theorem dX10_copy_13 : decode cX10_copy 13 = .ok (.iastore, 1) := by decide +kernel
theorem dX10_copy_14 : decode cX10_copy 14 = .ok (.iinc 3 1, 3) := by decide +kernel
theorem dX10_copy_17 : decode cX10_copy 17 = .ok (.goto (-15), 3) := by decide +kernel
theorem dX10_copy_20 : decode cX10_copy 20 = .ok (.return_, 1) := by decide +kernel
/-! FireFromFireModel.copy: by hand -/
theorem am_ln_le : (List.range 94).all (fun s => decide (am_ln s ≤ 500)) = true := by decide +kernel
def pcp (u : PM) (a b n : Nat) : PM := (fun q k => if k < n ∧ q = (b, 0, 0) then u.1 (a, 0, 0) k else u.1 q k, u.2)
def f_X10_copy (a b : Nat) (u : PM) : Option PM := some (pcp u a b (am_ln b))
theorem pcp_0 (u : PM) (a b : Nat) : pcp u a b 0 = u := by
  obtain ⟨u1, u2⟩ := u
  unfold pcp
  refine congrArg (fun f => (f, u2)) (funext fun q => funext fun k => ?_)
  exact if_neg (fun h => by omega)
theorem pcp_s (u : PM) (a b i : Nat) : pi (pcp u a b i) (b, 0, 0) i (u.1 (a, 0, 0) i) = pcp u a b (i + 1) := by
  obtain ⟨u1, u2⟩ := u
  unfold pcp pi
  refine congrArg (fun f => (f, u2)) (funext fun q => funext fun k => ?_)
  dsimp only
  by_cases hq : q = (b, 0, 0)
  · by_cases hk : k = i
    · subst hk
      rw [if_pos ⟨rfl, hq⟩, if_pos ⟨by omega, hq⟩]
    · rw [if_neg (fun h => hk h.1)]
      by_cases hk2 : k < i
      · rw [if_pos ⟨hk2, hq⟩, if_pos ⟨by omega, hq⟩]
      · rw [if_neg (fun h => hk2 h.1), if_neg (fun h => by omega)]
  · rw [if_neg (fun h => hq h.2), if_neg (fun h => hq h.2), if_neg (fun h => hq h.2)]
theorem pcp_rd (u : PM) (a b i : Nat) : (pcp u a b i).1 (a, 0, 0) i = u.1 (a, 0, 0) i := if_neg (fun h => by omega)
set_option maxHeartbeats 1000000 in
theorem C_X10_copy {l : Launch} {a b : Nat} (ha : a < 94 ∧ 40 ≤ a) (hb : b < 94 ∧ 40 ≤ b) (hka : am_kd a = 11) (hkb : am_kd b = 11) (hl : am_ln a = am_ln b) {u x : PM} (hf : f_X10_copy a b u = some x) : Ev l mX10_copy 1 0 0 false [vR (40, 0, 0), vR (a, 0, 0), vR (b, 0, 0)] kM (en u) (none, kM, en x) := by
  have hln : am_ln b ≤ 500 := by
    have := List.all_eq_true.mp am_ln_le b (List.mem_range.mpr hb.1)
    simpa using this
  have hx := am_inj hf
  subst hx
  refine Ev_of (by decide +kernel) (le_b rfl) ?_
  refine r_iconst (v := 0) dX10_copy_0 rfl ?_
  refine r_istore_n (L' := [some (vR (40, 0, 0)), some (vR (a, 0, 0)), some (vR (b, 0, 0)), some (vI 0)]) dX10_copy_1 (by decide) rfl ?_
  have main : ∀ (j i : Nat), i + j = am_ln b → X l mX10_copy 1 0 0 false (none, kM, en (pcp u a b (am_ln b))) kM 0 0 2 [some (vR (40, 0, 0)), some (vR (a, 0, 0)), some (vR (b, 0, 0)), some (vI (nI i))] [] (en (pcp u a b i)) := by
    intro j
    induction j with
    | zero =>
      intro i hi
      have hi : i = am_ln b := by omega
      subst hi
      refine r_iload_n (x := nI (am_ln b)) dX10_copy_2 rfl ?_
      refine r_aload_n (x := (b, 0, 0)) dX10_copy_3 rfl ?_
      refine r_alen (v := nI (am_ln b)) dX10_copy_4 (kM_mem hb) hkb rfl ?_
      refine r_icmp_ge (tgt := 20) dX10_copy_5 (by decide) (fun hc => ?_) (fun hc => absurd (nI_le (Nat.le_refl _) (by omega)) hc)
      exact r_vret dX10_copy_20 rfl (le_b rfl) (le_b rfl)
    | succ j ih =>
      intro i hi
      have hil : i < am_ln b := by omega
      refine r_iload_n (x := nI i) dX10_copy_2 rfl ?_
      refine r_aload_n (x := (b, 0, 0)) dX10_copy_3 rfl ?_
      refine r_alen (v := nI (am_ln b)) dX10_copy_4 (kM_mem hb) hkb rfl ?_
      refine r_icmp_ge (tgt := 20) dX10_copy_5 (by decide) (fun hc => absurd hc (nI_ge hil (by omega))) (fun hc => ?_)
      refine r_aload_n (x := (b, 0, 0)) dX10_copy_8 rfl ?_
      refine r_iload_n (x := nI i) dX10_copy_9 rfl ?_
      refine r_aload_n (x := (a, 0, 0)) dX10_copy_10 rfl ?_
      refine r_iload_n (x := nI i) dX10_copy_11 rfl ?_
      refine e_iald (n := i) (x := u.1 (a, 0, 0) i) dX10_copy_12 (kM_mem ha) hka (by show vp_in (nI i) (am_ln a); exact vp_in_nI (by omega) (by omega)) (nI_clamp (by omega)) (pcp_rd u a b i) ?_
      refine e_iast (n := i) dX10_copy_13 (kM_mem hb) hkb (by show vp_in (nI i) (am_ln b); exact vp_in_nI hil (by omega)) (nI_clamp (by omega)) ?_
      rw [pcp_s]
      refine r_iinc (x := nI i) (v := nI (i + 1)) (L' := [some (vR (40, 0, 0)), some (vR (a, 0, 0)), some (vR (b, 0, 0)), some (vI (nI (i + 1)))]) dX10_copy_14 rfl (nI_succ i).symm (by decide) rfl ?_
      refine r_goto (tgt := 2) dX10_copy_17 (by decide) ?_
      exact ih (i + 1) (by omega)
  have h0 := main (am_ln b) 0 (by omega)
  rw [pcp_0] at h0
  exact h0
