/-! THE LAW: from its entry to its loop -/
section LE
variable {E : BA → (Nat → Prop) → State → Prop} {l : Launch} {md md2 : MD} {d d2 mc ms mc2 ms2 : Nat} {al : Bool} {T T2 : Option AV × List Key × AM} {ks : List Key} {kc kn pc n m : Nat} {L L' : List (Option AV)} {st as : List AV} {M M' : AM} {q : Key}
set_option maxHeartbeats 1000000 in
theorem s_newo {idx ci N : Nat} (hw : NW md.1.cls idx ci) (hk : kA[n]? = some q) (hA : AL[n]? = some m) (hkd : am_kd q.1 = ci) (hN : am_ln q.1 = N) (hlc : (vwCl[ci]?.map fun r => r.2.2) = some N) (hd : decode md.2.1 pc = .ok (.new idx, 3)) (hcm : kc + 1 ≤ mc) (hsm : kn + N ≤ ms)
    (kk : XS E l md d mc ms true T (kA.take (n + 1)) (kc + 1) (kn + N) (pc + 3) L (vR q :: st) (am_W m)) : XS E l md d mc ms true T (kA.take n) kc kn pc L st (am_W m) := by
  intro p e s mm args below meth c H locs b D cT A ls h0 h1 hE9 hl
  obtain ⟨C, F, N', hc, w1, w2, w3, hin, hty, hfd⟩ := hw
  rw [hc] at hlc
  have e9 : N' = N := Option.some.inj hlc
  subst e9
  have hKn := h1.2.2.1.1 ci _ hc
  refine W.newcK h0.1 h0.2.1 h0.2.2.2.2.1 (h0.2.2.2.1 _ w1) (h0.2.2.2.1 _ w2) (h0.2.2.2.1 _ w3) rfl hd hcm hsm hKn.2.1 rfl fun H1 kC hkC e1 z1 o1 => ?_
  have hci := am_ci hc
  have had : H.size = am_ad b q := by
    have hsz := h1.2.2.2.2.2 rfl
    rw [kA_tlen hk] at hsz
    have hix := kA_at hk
    rw [am_ad_of hix.2, hix.1]; exact hsz
  have hnew : va_at D vwCl (am_ad b q, am_ce b cT (am_W m) q) H1 := by
    rw [am_ce_obj b cT _ (by rw [hkd]; exact hci), hkd, hN]
    refine ⟨_, hc, ?_⟩
    refine t_OB.to ?_ (V := fun j => defaultValue (am_ty ci j)) ?_
    · rw [← had]
      exact u_born (am_ty ci) h0.2.2.2.1 hin hKn hkC e1 hty
    · intro j hj
      have hf := W_fresh hA hk j
      rw [am_dv (b := b) (hfd j hj) hkd hf.1 hf.2.1 hf.2.2]
      unfold vp_V
      rw [List.getD_eq_getElem?_getD, List.getElem?_map, List.getElem?_range hj]
      rfl
  obtain ⟨h2, -⟩ := c_grow h1 hk hnew z1 o1
  have k2 := kk p e s mm args below meth c H1 locs b D cT A ls h0 h2 hE9 hl
  rw [had]
  exact k2
set_option maxHeartbeats 1000000 in
theorem s_callI {idx n : Nat} (hw : MW md.1.cls idx md2 n) (hv : Cond.instanceMethod md2.1 ∈ Wd) (hy : md2.1.name = "<init>") (hvoid : md2.2.2.2 = none) (hE : Ev l md2 d2 mc2 ms2 al (vR q :: as) ks M T2) (hdd : d2 + 1 ≤ d) (hd : decode md.2.1 pc = .ok (.invokespecial idx, 3)) (hn : as.length = n) (hst : (st.map am_cat).sum ≤ 8) (hcm : kc + mc2 ≤ mc) (hsm : kn + ms2 ≤ ms)
    (kk : XS E l md d mc ms al T T2.2.1 (kc + mc2) (kn + ms2) (pc + 3) L (T2.1.toList ++ st) T2.2.2) : XS E l md d mc ms al T ks kc kn pc L (as.reverse ++ vR q :: st) M := by
  intro p e s m args below meth c H locs b D cT A ls h0 h1 hE9 hl9
  obtain ⟨w1, w2, w3, w4, w5⟩ := hw
  have hE2 := hE b D cT H.size
  rw [hvoid] at hE2 w3
  rw [am_mapA]
  have hG : GoodIn Wd (Cond.code md2.1 md2.2.1 md2.2.2.1 none :: Wd) := fun w hw => by
    rcases List.mem_cons.mp hw with rfl | hw
    · exact ⟨w3, Wd_good w3⟩
    · exact ⟨hw, Wd_good hw⟩
  refine am_call (A1 := va_A (am_w b cT ks M) H.size) h1 (am_freeA h1) (va_runI (Ts := Wd) (own := md.1.cls) (As := as.map (am_cv b)) ⟨h0.1, h0.2.1, h0.2.2.2.2.2.2.1, h0.2.2.2.2.1, h0.2.2.2.1⟩ hE2
    (cwI n h0.2.2.2.1 hG rfl rfl rfl (h0.2.2.2.1 _ w2) (h0.2.2.2.1 _ w1) (h0.2.2.2.1 _ hv) hy w4 ⟨?_, ?_⟩) ⟨am_blind, fun U hU hW => am_pre h1 _ U hU hW⟩ rfl (by rw [List.length_map]; exact hn) hl9.1 rfl (lv_room (by rw [am_cat_sum]; exact hst)) hd ⟨hcm, hsm⟩) (fun H1 locs1 h2 => ?_)
  · show d2 + 1 ≤ d
    exact hdd
  · show 8 + (md2.2.2.1 + 11) + 40 * d2 ≤ 40 * d
    omega
  · rw [am_mapR]
    exact kk p e s m args below meth c H1 locs1 b D cT A ls h0 h2 hE9 hl9
theorem s_first {p9 : Nat} (hp : pc = p9) (kk : XS E l md d mc ms false T kA kc kn p9 L st (mg u0 u0)) : XS E l md d mc ms true T (kA.take 199) kc kn pc L st (am_W 526) := by
  subst hp
  have e : kA.take 199 = kA := List.take_of_length_le (by rw [kA_len]; exact Nat.le_refl _)
  rw [e]
  have k2 := s_al kk
  exact fun p e s m args below meth c H locs b D cT A ls h0 h1 hE hl => k2 p e s m args below meth c H locs b D cT A ls h0 (X1_swap mg_W h1) hE hl
end LE
theorem nw_L_7 : NW RL 7 9 := ⟨RX9, TX9, 12, rfl, Wd_of (List.mem_of_getElem? (i := 101) (by decide +kernel)) rfl, Wd_of (List.mem_of_getElem? (i := 102) (by decide +kernel)) rfl, Wd_of (List.mem_of_getElem? (i := 82) (by decide +kernel)) rfl, inWd9, tyX9_ok, by decide⟩
theorem nw_L_10 : NW RL 10 10 := ⟨RX10, TX10, 84, rfl, Wd_of (List.mem_of_getElem? (i := 1000) (by decide +kernel)) rfl, Wd_of (List.mem_of_getElem? (i := 1001) (by decide +kernel)) rfl, Wd_of (List.mem_of_getElem? (i := 92) (by decide +kernel)) rfl, inWd10, tyX10_ok, by decide⟩
theorem mw_L_9 : MW RL 9 mX9_init 0 := ⟨Wd_of (List.mem_of_getElem? (i := 103) (by decide +kernel)) rfl, Wd_of (List.mem_of_getElem? (i := 82) (by decide +kernel)) rfl, Wd_of (List.mem_of_getElem? (i := 105) (by decide +kernel)) rfl, ⟨by decide, by decide, by decide +kernel⟩, by decide⟩
set_option maxRecDepth 100000 in
theorem cw_12 : lw_tbl[1004]? = some (Cond.code yX10_init prog_12_method_1_code 1 none) := by rfl
theorem mw_L_12 : MW RL 12 mX10_init 0 := ⟨Wd_of (List.mem_of_getElem? (i := 1002) (by decide +kernel)) rfl, Wd_of (List.mem_of_getElem? (i := 92) (by decide +kernel)) rfl, Wd_of (List.mem_of_getElem? (i := 1004) cw_12) rfl, ⟨by decide, by decide, by decide +kernel⟩, by decide⟩
theorem mi_X9_init : Cond.instanceMethod mX9_init.1 ∈ Wd := Wd_of (List.mem_of_getElem? (i := 104) (by decide +kernel)) rfl
theorem mi_X10_init : Cond.instanceMethod mX10_init.1 ∈ Wd := Wd_of (List.mem_of_getElem? (i := 1003) (by decide +kernel)) rfl
set_option maxHeartbeats 4000000 in
set_option maxRecDepth 20000 in
theorem law_walk {l : Launch} {nm : String} {N : Nat} {xs : Nat → Int32} {T : Option AV × List Key × AM} (hN : N ≤ 3072) (hT1 : T.1 = some (vI 1)) (hT2 : T.2.1 = kA) : XS (sE N xs) l (mL nm) 2048 600000 7302250 true T (kA.take 0) 0 0 0 [some (vR (95, 100, 0)), none, none, none] [] (am_W 0) := by
  refine s_newo (q := (0, 0, 0)) (N := 12) nw_L_7 rfl rfl rfl rfl rfl dL_law_0 (le_b rfl) (le_b rfl) ?_
  refine s_dup dL_law_3 rfl ?_
  refine s_callI (as := []) (st := [vR (0, 0, 0)]) (q := (0, 0, 0)) mw_L_9 mi_X9_init rfl rfl (I_X9_init (l := l) (n := 0) (m := 0) rfl rfl rfl) (le_b rfl) dL_law_4 rfl (le_b rfl) (le_b rfl) (le_b rfl) ?_
  refine s_astore_n (x := (0, 0, 0)) (L' := [some (vR (95, 100, 0)), some (vR (0, 0, 0)), none, none]) dL_law_7 (show 1 < 4 by omega) rfl ?_
  show XS (sE N xs) l (mL nm) 2048 600000 7302250 true T (kA.take 145) 145 2921 8 [some (vR (95, 100, 0)), some (vR (0, 0, 0)), none, none] [] (am_W 417)
  refine s_newo (q := (40, 0, 0)) (N := 84) nw_L_10 rfl rfl rfl rfl rfl dL_law_8 (le_b rfl) (le_b rfl) ?_
  refine s_dup dL_law_11 rfl ?_
  refine s_callI (as := []) (st := [vR (40, 0, 0)]) (q := (40, 0, 0)) mw_L_12 mi_X10_init rfl rfl (I_X10_init (l := l) (n := 145) (m := 417) rfl rfl rfl) (le_b rfl) dL_law_12 rfl (le_b rfl) (le_b rfl) (le_b rfl) ?_
  refine s_astore_n (x := (40, 0, 0)) (L' := [some (vR (95, 100, 0)), some (vR (0, 0, 0)), some (vR (40, 0, 0)), none]) dL_law_15 (show 2 < 4 by omega) rfl ?_
  show XS (sE N xs) l (mL nm) 2048 600000 7302250 true T (kA.take 199) 199 4871 16 [some (vR (95, 100, 0)), some (vR (0, 0, 0)), some (vR (40, 0, 0)), none] [] (am_W 526)
  refine s_first rfl ?_
  refine s_iconst (v := nI 0) dL_law_16 rfl ?_
  refine s_istore_n (x := nI 0) (L' := [some (vR (95, 100, 0)), some (vR (0, 0, 0)), some (vR (40, 0, 0)), some (vI (nI 0))]) dL_law_17 (show 3 < 4 by omega) rfl ?_
  exact law_loop hN (le_b rfl) (le_b rfl) hT1 hT2 (N + 1) 0 u0 u0 (Nat.zero_le N) (by omega) Rel_start
