/-! THE LAW: its loop -/
theorem P_0 : OP_0 Rel := fun u w a0 a1 h hb => O_0 h a0 a1 hb
theorem P_1 : OP_1 Rel := fun u w a0 a1 h => by
  obtain ⟨r, e1, e2⟩ := O_1 h a0 a1
  exact ⟨r, u, w, e1, e2, h, rfl, rfl⟩
theorem P_2 : OP_2 Rel := fun u w a0 a1 h => O_2 h a0 a1
theorem P_3 : OP_3 Rel := fun u w a0 a1 h hb => O_3 h a0 a1 hb
theorem P_4 : OP_4 Rel := fun u w a0 a1 a2 h => O_4 h a0 a1 a2
theorem P_5 : OP_5 Rel := fun u w a0 a1 h => O_5 h a0 a1
theorem P_6 : OP_6 Rel := fun u w  h => O_6 h 
theorem P_7 : OP_7 Rel := fun u w a0 a1 a2 h => O_7 h a0 a1 a2
theorem P_8 : OP_8 Rel := fun u w a0 a1 h => by
  obtain ⟨r, w', e1, e2, h'⟩ := O_8 h a0 a1
  exact ⟨r, u, w', e1, e2, h', rfl⟩
theorem P_9 : OP_9 Rel := fun u w a0 a1 a2 a3 h => O_9 h a0 a1 a2 a3
theorem P_10 : OP_10 Rel := fun u w a0 a1 h => O_10 h a0 a1
theorem P_11 : OP_11 Rel := fun u w a0 a1 h => O_11 h a0 a1
theorem P_12 : OP_12 Rel := fun u w a0 a1 h => O_12 h a0 a1
theorem P_13 : OP_13 Rel := fun u w a0 a1 h => O_13 h a0 a1
theorem P_14 : OP_14 Rel := fun u w a0 a1 h => O_14 h a0 a1
theorem P_15 : OP_15 Rel := fun u w a0 h => O_15 h a0
theorem P_16 : OP_16 Rel := fun u w  h => O_16 h 
theorem P_17 : OP_17 Rel := fun u w a0 a1 a2 h => O_17 h a0 a1 a2
theorem P_18 : OP_18 Rel := fun u w  h => O_18 h 
theorem P_19 : OP_19 Rel := fun u w a0 a1 h => O_19 h a0 a1
theorem P_20 : OP_20 Rel := fun u w a0 h => O_20 h a0
theorem P_21 : OP_21 Rel := fun u w a0 h => O_21 h a0
theorem P_22 : OP_22 Rel := fun u w  h => O_22 h 
theorem P_23 : OP_23 Rel := fun u w a0 a1 a2 h => O_23 h a0 a1 a2
theorem P_24 : OP_24 Rel := fun u w  h => O_24 h 
theorem P_25 : OP_25 Rel := fun u w  h => O_25 h 
theorem P_26 : OP_26 Rel := fun u w a0 a1 a2 h => O_26 h a0 a1 a2
theorem P_27 : OP_27 Rel := fun u w a0 h => by
  obtain ⟨r, e1, e2⟩ := O_27 h a0
  exact ⟨r, u, w, e1, e2, h, rfl, rfl⟩
theorem P_28 : OP_28 Rel := fun u w a0 a1 h => by
  obtain ⟨r, e1, e2⟩ := O_28 h a0 a1
  exact ⟨r, u, w, e1, e2, h, rfl, rfl⟩
theorem P_29 : OP_29 Rel := fun u w a0 h => by
  obtain ⟨r, e1, e2⟩ := O_29 h a0
  exact ⟨r, u, w, e1, e2, h, rfl, rfl⟩
theorem P_30 : OP_30 Rel := fun u w a0 a1 a2 h => O_30 h a0 a1 a2
theorem P_31 : OP_31 Rel := fun u w a0 a1 a2 h => O_31 h a0 a1 a2
theorem P_32 : OP_32 Rel := fun u w a0 a1 h => by
  obtain ⟨r, e1, e2⟩ := O_32 h a0 a1
  exact ⟨r, u, w, e1, e2, h, rfl, rfl⟩
theorem P_33 : OP_33 Rel := fun u w a0 a1 a2 a3 a4 h => O_33 h a0 a1 a2 a3 a4
theorem tsw_x (x : Int32) : (∃ k, k < 34 ∧ x = nI k) ∨ (x.toInt < 0 ∨ 33 < x.toInt) := by
  by_cases h : 0 ≤ x.toInt ∧ x.toInt ≤ 33
  · refine Or.inl ⟨x.toInt.toNat, by omega, Int32.toInt_inj.mp ?_⟩
    rw [nI_toInt (by omega)]
    omega
  · exact Or.inr (by omega)
theorem gt_x {N i : Nat} (hi : i ≤ N) (hN : N ≤ 3072) (h : ¬ nI N - 6 < nI i) : i + 6 ≤ N := by
  by_cases g : i + 6 ≤ N
  · exact g
  · refine absurd ?_ h
    by_cases h6 : 6 ≤ N
    · obtain ⟨z, rfl⟩ := Nat.exists_eq_add_of_le h6
      rw [show nI (6 + z) - 6 = nI z by rw [Nat.add_comm, ← nI_add]; exact Int32.add_sub_cancel _ _]
      exact nI_lt (by omega) (by omega)
    · exact (by decide : ∀ N, N < 6 → ∀ i, i < 6 → nI N - 6 < nI i) N (by omega) i (by omega)
set_option maxHeartbeats 4000000 in
set_option maxRecDepth 20000 in
theorem law_sw {l : Launch} {nm : String} {N i kc kn mc ms : Nat} {xs : Nat → Int32} {T : Option AV × List Key × AM} (hi : i + 6 ≤ N ∧ N ≤ 3072) (hkc : kc ≤ mc) (hkn : kn ≤ ms) {u w : PM} (hrel : Rel u w) (cont : ∀ u' w', Rel u' w' → XS (sE N xs) l (mL nm) 2048 mc ms false T kA kc kn 1320 [some (vR (95, 100, 0)), some (vR (0, 0, 0)), some (vR (40, 0, 0)), some (vI (nI i))] [] (mg u' w')) (x : Int32) : XS (sE N xs) l (mL nm) 2048 mc ms false T kA kc kn 33 [some (vR (95, 100, 0)), some (vR (0, 0, 0)), some (vR (40, 0, 0)), some (vI (nI i))] [vI x] (mg u w) := by
  rcases tsw_x x with ⟨k, hk, e⟩ | h
  · rcases (by omega : k = 0 ∨ k = 1 ∨ k = 2 ∨ k = 3 ∨ k = 4 ∨ k = 5 ∨ k = 6 ∨ k = 7 ∨ k = 8 ∨ k = 9 ∨ k = 10 ∨ k = 11 ∨ k = 12 ∨ k = 13 ∨ k = 14 ∨ k = 15 ∨ k = 16 ∨ k = 17 ∨ k = 18 ∨ k = 19 ∨ k = 20 ∨ k = 21 ∨ k = 22 ∨ k = 23 ∨ k = 24 ∨ k = 25 ∨ k = 26 ∨ k = 27 ∨ k = 28 ∨ k = 29 ∨ k = 30 ∨ k = 31 ∨ k = 32 ∨ k = 33) with rfl | rfl | rfl | rfl | rfl | rfl | rfl | rfl | rfl | rfl | rfl | rfl | rfl | rfl | rfl | rfl | rfl | rfl | rfl | rfl | rfl | rfl | rfl | rfl | rfl | rfl | rfl | rfl | rfl | rfl | rfl | rfl | rfl | rfl
    · exact s_tswIn (kx := nI 0) (tgt := 184) dL_law_33 e (by decide) (by decide) (off := 151) (by decide +kernel) (by decide) (law_case_0 P_0 hi hkc hkn hrel cont)
    · exact s_tswIn (kx := nI 1) (tgt := 233) dL_law_33 e (by decide) (by decide) (off := 200) (by decide +kernel) (by decide) (law_case_1 P_1 hi hkc hkn hrel cont)
    · exact s_tswIn (kx := nI 2) (tgt := 266) dL_law_33 e (by decide) (by decide) (off := 233) (by decide +kernel) (by decide) (law_case_2 P_2 hi hkc hkn hrel cont)
    · exact s_tswIn (kx := nI 3) (tgt := 299) dL_law_33 e (by decide) (by decide) (off := 266) (by decide +kernel) (by decide) (law_case_3 P_3 hi hkc hkn hrel cont)
    · exact s_tswIn (kx := nI 4) (tgt := 348) dL_law_33 e (by decide) (by decide) (off := 315) (by decide +kernel) (by decide) (law_case_4 P_4 hi hkc hkn hrel cont)
    · exact s_tswIn (kx := nI 5) (tgt := 391) dL_law_33 e (by decide) (by decide) (off := 358) (by decide +kernel) (by decide) (law_case_5 P_5 hi hkc hkn hrel cont)
    · exact s_tswIn (kx := nI 6) (tgt := 424) dL_law_33 e (by decide) (by decide) (off := 391) (by decide +kernel) (by decide) (law_case_6 P_6 hi hkc hkn hrel cont)
    · exact s_tswIn (kx := nI 7) (tgt := 437) dL_law_33 e (by decide) (by decide) (off := 404) (by decide +kernel) (by decide) (law_case_7 P_7 hi hkc hkn hrel cont)
    · exact s_tswIn (kx := nI 8) (tgt := 480) dL_law_33 e (by decide) (by decide) (off := 447) (by decide +kernel) (by decide) (law_case_8 P_8 hi hkc hkn hrel cont)
    · exact s_tswIn (kx := nI 9) (tgt := 513) dL_law_33 e (by decide) (by decide) (off := 480) (by decide +kernel) (by decide) (law_case_9 P_9 hi hkc hkn hrel cont)
    · exact s_tswIn (kx := nI 10) (tgt := 566) dL_law_33 e (by decide) (by decide) (off := 533) (by decide +kernel) (by decide) (law_case_10 P_10 hi hkc hkn hrel cont)
    · exact s_tswIn (kx := nI 11) (tgt := 599) dL_law_33 e (by decide) (by decide) (off := 566) (by decide +kernel) (by decide) (law_case_11 P_11 hi hkc hkn hrel cont)
    · exact s_tswIn (kx := nI 12) (tgt := 632) dL_law_33 e (by decide) (by decide) (off := 599) (by decide +kernel) (by decide) (law_case_12 P_12 hi hkc hkn hrel cont)
    · exact s_tswIn (kx := nI 13) (tgt := 665) dL_law_33 e (by decide) (by decide) (off := 632) (by decide +kernel) (by decide) (law_case_13 P_13 hi hkc hkn hrel cont)
    · exact s_tswIn (kx := nI 14) (tgt := 698) dL_law_33 e (by decide) (by decide) (off := 665) (by decide +kernel) (by decide) (law_case_14 P_14 hi hkc hkn hrel cont)
    · exact s_tswIn (kx := nI 15) (tgt := 731) dL_law_33 e (by decide) (by decide) (off := 698) (by decide +kernel) (by decide) (law_case_15 P_15 hi hkc hkn hrel cont)
    · exact s_tswIn (kx := nI 16) (tgt := 754) dL_law_33 e (by decide) (by decide) (off := 721) (by decide +kernel) (by decide) (law_case_16 P_16 hi hkc hkn hrel cont)
    · exact s_tswIn (kx := nI 17) (tgt := 767) dL_law_33 e (by decide) (by decide) (off := 734) (by decide +kernel) (by decide) (law_case_17 P_17 hi hkc hkn hrel cont)
    · exact s_tswIn (kx := nI 18) (tgt := 811) dL_law_33 e (by decide) (by decide) (off := 778) (by decide +kernel) (by decide) (law_case_18 P_18 hi hkc hkn hrel cont)
    · exact s_tswIn (kx := nI 19) (tgt := 824) dL_law_33 e (by decide) (by decide) (off := 791) (by decide +kernel) (by decide) (law_case_19 P_19 hi hkc hkn hrel cont)
    · exact s_tswIn (kx := nI 20) (tgt := 857) dL_law_33 e (by decide) (by decide) (off := 824) (by decide +kernel) (by decide) (law_case_20 P_20 hi hkc hkn hrel cont)
    · exact s_tswIn (kx := nI 21) (tgt := 880) dL_law_33 e (by decide) (by decide) (off := 847) (by decide +kernel) (by decide) (law_case_21 P_21 hi hkc hkn hrel cont)
    · exact s_tswIn (kx := nI 22) (tgt := 903) dL_law_33 e (by decide) (by decide) (off := 870) (by decide +kernel) (by decide) (law_case_22 P_22 hi hkc hkn hrel cont)
    · exact s_tswIn (kx := nI 23) (tgt := 916) dL_law_33 e (by decide) (by decide) (off := 883) (by decide +kernel) (by decide) (law_case_23 P_23 hi hkc hkn hrel cont)
    · exact s_tswIn (kx := nI 24) (tgt := 959) dL_law_33 e (by decide) (by decide) (off := 926) (by decide +kernel) (by decide) (law_case_24 P_24 hi hkc hkn hrel cont)
    · exact s_tswIn (kx := nI 25) (tgt := 972) dL_law_33 e (by decide) (by decide) (off := 939) (by decide +kernel) (by decide) (law_case_25 P_25 hi hkc hkn hrel cont)
    · exact s_tswIn (kx := nI 26) (tgt := 985) dL_law_33 e (by decide) (by decide) (off := 952) (by decide +kernel) (by decide) (law_case_26 P_26 hi hkc hkn hrel cont)
    · exact s_tswIn (kx := nI 27) (tgt := 1028) dL_law_33 e (by decide) (by decide) (off := 995) (by decide +kernel) (by decide) (law_case_27 P_27 hi hkc hkn hrel cont)
    · exact s_tswIn (kx := nI 28) (tgt := 1051) dL_law_33 e (by decide) (by decide) (off := 1018) (by decide +kernel) (by decide) (law_case_28 P_28 hi hkc hkn hrel cont)
    · exact s_tswIn (kx := nI 29) (tgt := 1084) dL_law_33 e (by decide) (by decide) (off := 1051) (by decide +kernel) (by decide) (law_case_29 P_29 hi hkc hkn hrel cont)
    · exact s_tswIn (kx := nI 30) (tgt := 1107) dL_law_33 e (by decide) (by decide) (off := 1074) (by decide +kernel) (by decide) (law_case_30 P_30 hi hkc hkn hrel cont)
    · exact s_tswIn (kx := nI 31) (tgt := 1150) dL_law_33 e (by decide) (by decide) (off := 1117) (by decide +kernel) (by decide) (law_case_31 P_31 hi hkc hkn hrel cont)
    · exact s_tswIn (kx := nI 32) (tgt := 1223) dL_law_33 e (by decide) (by decide) (off := 1190) (by decide +kernel) (by decide) (law_case_32 P_32 hi hkc hkn hrel cont)
    · exact s_tswIn (kx := nI 33) (tgt := 1257) dL_law_33 e (by decide) (by decide) (off := 1224) (by decide +kernel) (by decide) (law_case_33 P_33 hi hkc hkn hrel cont)
  · exact s_tswOut (tgt := 1320) dL_law_33 h (by decide) (cont u w hrel)
theorem law_loop {l : Launch} {nm : String} {N kc kn mc ms : Nat} {xs : Nat → Int32} {T : Option AV × List Key × AM} (hN : N ≤ 3072) (hkc : kc ≤ mc) (hkn : kn ≤ ms) (hT1 : T.1 = some (vI 1)) (hT2 : T.2.1 = kA) : ∀ (n i : Nat) (u w : PM), i ≤ N → N + 1 ≤ i + n → Rel u w → XS (sE N xs) l (mL nm) 2048 mc ms false T kA kc kn 18 [some (vR (95, 100, 0)), some (vR (0, 0, 0)), some (vR (40, 0, 0)), some (vI (nI i))] [] (mg u w) := by
  intro n
  induction n with
  | zero => intro i u w h1 h2; exact absurd h2 (by omega)
  | succ n ih =>
    intro i u w hi hn hrel
    refine s_iload_n (x := nI i) dL_law_18 rfl ?_
    refine s_aload_n (x := (95, 100, 0)) dL_law_19 rfl ?_
    refine s_slen dL_law_20 ?_
    refine s_bipush (v := 6) dL_law_21 rfl ?_
    refine s_isub dL_law_23 ?_
    refine s_icmp_gt (tgt := 1326) dL_law_24 (by decide) (fun _ => ?_) (fun hc => ?_)
    · refine s_iconst (v := 1) dL_law_1326 rfl ?_
      exact s_iret (ty := .boolean) dL_law_1327 rfl rfl hkc hkn hT1 hT2
    · have h6 : i + 6 ≤ N := gt_x hi hN hc
      refine s_aload_n (x := (95, 100, 0)) dL_law_27 rfl ?_
      refine s_iload_n (x := nI i) dL_law_28 rfl ?_
      refine s_sld (n := i) dL_law_29 (nI_clamp (by omega)) (vp_in_nI (by omega) (by omega)) ?_
      refine s_bipush (v := 63) dL_law_30 rfl ?_
      refine s_iand dL_law_32 ?_
      refine law_sw ⟨h6, hN⟩ hkc hkn hrel (fun u' w' hrel' => ?_) _
      refine s_iinc (v := nI (i + 6)) (L' := [some (vR (95, 100, 0)), some (vR (0, 0, 0)), some (vR (40, 0, 0)), some (vI (nI (i + 6)))]) dL_law_1320 rfl (nI_add i 6) (show 3 < 4 by omega) rfl ?_
      refine s_goto (tgt := 18) dL_law_1323 (by decide) ?_
      exact ih (i + 6) u' w' (by omega) (by omega) hrel'
