/-! the constructors, by program -/
theorem dX2_init_0 : decode cX2_init 0 = .ok (.aload_n 0, 1) := by decide +kernel
theorem dX2_init_1 : decode cX2_init 1 = .ok (.invokespecial 3, 3) := by decide +kernel
theorem dX2_init_4 : decode cX2_init 4 = .ok (.aload_n 0, 1) := by decide +kernel
theorem dX2_init_5 : decode cX2_init 5 = .ok (.iconst 0, 1) := by decide +kernel
theorem dX2_init_6 : decode cX2_init 6 = .ok (.putfield 9, 3) := by decide +kernel
theorem dX2_init_9 : decode cX2_init 9 = .ok (.aload_n 0, 1) := by decide +kernel
theorem dX2_init_10 : decode cX2_init 10 = .ok (.iconst 0, 1) := by decide +kernel
theorem dX2_init_11 : decode cX2_init 11 = .ok (.putfield 15, 3) := by decide +kernel
theorem dX2_init_14 : decode cX2_init 14 = .ok (.aload_n 0, 1) := by decide +kernel
theorem dX2_init_15 : decode cX2_init 15 = .ok (.iconst 0, 1) := by decide +kernel
theorem dX2_init_16 : decode cX2_init 16 = .ok (.putfield 19, 3) := by decide +kernel
theorem dX2_init_19 : decode cX2_init 19 = .ok (.aload_n 0, 1) := by decide +kernel
theorem dX2_init_20 : decode cX2_init 20 = .ok (.iconst 0, 1) := by decide +kernel
theorem dX2_init_21 : decode cX2_init 21 = .ok (.putfield 22, 3) := by decide +kernel
theorem dX2_init_24 : decode cX2_init 24 = .ok (.aload_n 0, 1) := by decide +kernel
theorem dX2_init_25 : decode cX2_init 25 = .ok (.iconst 0, 1) := by decide +kernel
theorem dX2_init_26 : decode cX2_init 26 = .ok (.putfield 25, 3) := by decide +kernel
theorem dX2_init_29 : decode cX2_init 29 = .ok (.aload_n 0, 1) := by decide +kernel
theorem dX2_init_30 : decode cX2_init 30 = .ok (.iconst 0, 1) := by decide +kernel
theorem dX2_init_31 : decode cX2_init 31 = .ok (.putfield 28, 3) := by decide +kernel
theorem dX2_init_34 : decode cX2_init 34 = .ok (.aload_n 0, 1) := by decide +kernel
theorem dX2_init_35 : decode cX2_init 35 = .ok (.iconst 0, 1) := by decide +kernel
theorem dX2_init_36 : decode cX2_init 36 = .ok (.putfield 31, 3) := by decide +kernel
theorem dX2_init_39 : decode cX2_init 39 = .ok (.aload_n 0, 1) := by decide +kernel
theorem dX2_init_40 : decode cX2_init 40 = .ok (.iconst 0, 1) := by decide +kernel
theorem dX2_init_41 : decode cX2_init 41 = .ok (.putfield 34, 3) := by decide +kernel
theorem dX2_init_44 : decode cX2_init 44 = .ok (.aload_n 0, 1) := by decide +kernel
theorem dX2_init_45 : decode cX2_init 45 = .ok (.iconst 0, 1) := by decide +kernel
theorem dX2_init_46 : decode cX2_init 46 = .ok (.putfield 37, 3) := by decide +kernel
theorem dX2_init_49 : decode cX2_init 49 = .ok (.return_, 1) := by decide +kernel
set_option maxHeartbeats 4000000 in
set_option maxRecDepth 20000 in
theorem I_X2_init {l : Launch} {v : Nat} {h : Nat} {n m : Nat} (hk : (kA.drop n).take 1 = [(3, v, h)]) (hA : (AL.drop (n + 1)).take 0 = []) (hw : (WL.drop m).take 9 = [((3, v, h), 0), ((3, v, h), 1), ((3, v, h), 2), ((3, v, h), 3), ((3, v, h), 4), ((3, v, h), 5), ((3, v, h), 6), ((3, v, h), 7), ((3, v, h), 8)]) : Ev l mX2_init 1 0 0 true [vR (3, v, h)] (kA.take (n + 1)) (am_W m) (none, kA.take (n + 1), am_W (m + 9)) := by
  refine Ev_of (by decide +kernel) (le_b rfl) ?_
  show X l mX2_init 1 0 0 true _ (kA.take (n + 1)) 0 0 0 [some (vR (3, v, h))] [] (am_W m)
  refine r_aload_n (x := (3, v, h)) dX2_init_0 rfl ?_
  refine r_objInit oi_X2_3 oi_b.1 oi_b.2 dX2_init_1 (le_b rfl) (le_b rfl) ?_
  refine r_aload_n (x := (3, v, h)) dX2_init_4 rfl ?_
  refine r_iconst (v := 0) dX2_init_5 rfl ?_
  refine r_puti fp_X2_9 (fun h => by cases h) dX2_init_6 (kA_mem (tk_get hk (i := 0) rfl) (by omega)) rfl (lt_b rfl) rfl rfl rfl ?_
  refine X_W (W_ui (tk_get hw (i := 0) rfl) rfl rfl rfl) ?_
  show X l mX2_init 1 0 0 true _ (kA.take (n + 1)) 0 0 9 [some (vR (3, v, h))] [] (am_W (m + 1))
  refine r_aload_n (x := (3, v, h)) dX2_init_9 rfl ?_
  refine r_iconst (v := 0) dX2_init_10 rfl ?_
  refine r_puti fp_X2_15 (fun h => by cases h) dX2_init_11 (kA_mem (tk_get hk (i := 0) rfl) (by omega)) rfl (lt_b rfl) rfl rfl rfl ?_
  refine X_W (W_ui (tk_get hw (i := 1) rfl) rfl rfl rfl) ?_
  show X l mX2_init 1 0 0 true _ (kA.take (n + 1)) 0 0 14 [some (vR (3, v, h))] [] (am_W (m + 2))
  refine r_aload_n (x := (3, v, h)) dX2_init_14 rfl ?_
  refine r_iconst (v := 0) dX2_init_15 rfl ?_
  refine r_puti fp_X2_19 (fun h => by cases h) dX2_init_16 (kA_mem (tk_get hk (i := 0) rfl) (by omega)) rfl (lt_b rfl) rfl rfl rfl ?_
  refine X_W (W_ui (tk_get hw (i := 2) rfl) rfl rfl rfl) ?_
  show X l mX2_init 1 0 0 true _ (kA.take (n + 1)) 0 0 19 [some (vR (3, v, h))] [] (am_W (m + 3))
  refine r_aload_n (x := (3, v, h)) dX2_init_19 rfl ?_
  refine r_iconst (v := 0) dX2_init_20 rfl ?_
  refine r_puti fp_X2_22 (fun h => by cases h) dX2_init_21 (kA_mem (tk_get hk (i := 0) rfl) (by omega)) rfl (lt_b rfl) rfl rfl rfl ?_
  refine X_W (W_ui (tk_get hw (i := 3) rfl) rfl rfl rfl) ?_
  show X l mX2_init 1 0 0 true _ (kA.take (n + 1)) 0 0 24 [some (vR (3, v, h))] [] (am_W (m + 4))
  refine r_aload_n (x := (3, v, h)) dX2_init_24 rfl ?_
  refine r_iconst (v := 0) dX2_init_25 rfl ?_
  refine r_puti fp_X2_25 (fun h => by cases h) dX2_init_26 (kA_mem (tk_get hk (i := 0) rfl) (by omega)) rfl (lt_b rfl) rfl rfl rfl ?_
  refine X_W (W_ui (tk_get hw (i := 4) rfl) rfl rfl rfl) ?_
  show X l mX2_init 1 0 0 true _ (kA.take (n + 1)) 0 0 29 [some (vR (3, v, h))] [] (am_W (m + 5))
  refine r_aload_n (x := (3, v, h)) dX2_init_29 rfl ?_
  refine r_iconst (v := 0) dX2_init_30 rfl ?_
  refine r_puti fp_X2_28 (fun h => by cases h) dX2_init_31 (kA_mem (tk_get hk (i := 0) rfl) (by omega)) rfl (lt_b rfl) rfl rfl rfl ?_
  refine X_W (W_ui (tk_get hw (i := 5) rfl) rfl rfl rfl) ?_
  show X l mX2_init 1 0 0 true _ (kA.take (n + 1)) 0 0 34 [some (vR (3, v, h))] [] (am_W (m + 6))
  refine r_aload_n (x := (3, v, h)) dX2_init_34 rfl ?_
  refine r_iconst (v := 0) dX2_init_35 rfl ?_
  refine r_puti fp_X2_31 (fun h => by cases h) dX2_init_36 (kA_mem (tk_get hk (i := 0) rfl) (by omega)) rfl (lt_b rfl) rfl rfl rfl ?_
  refine X_W (W_ui (tk_get hw (i := 6) rfl) rfl rfl rfl) ?_
  show X l mX2_init 1 0 0 true _ (kA.take (n + 1)) 0 0 39 [some (vR (3, v, h))] [] (am_W (m + 7))
  refine r_aload_n (x := (3, v, h)) dX2_init_39 rfl ?_
  refine r_iconst (v := 0) dX2_init_40 rfl ?_
  refine r_puti fp_X2_34 (fun h => by cases h) dX2_init_41 (kA_mem (tk_get hk (i := 0) rfl) (by omega)) rfl (lt_b rfl) rfl rfl rfl ?_
  refine X_W (W_ui (tk_get hw (i := 7) rfl) rfl rfl rfl) ?_
  show X l mX2_init 1 0 0 true _ (kA.take (n + 1)) 0 0 44 [some (vR (3, v, h))] [] (am_W (m + 8))
  refine r_aload_n (x := (3, v, h)) dX2_init_44 rfl ?_
  refine r_iconst (v := 0) dX2_init_45 rfl ?_
  refine r_puti fp_X2_37 (fun h => by cases h) dX2_init_46 (kA_mem (tk_get hk (i := 0) rfl) (by omega)) rfl (lt_b rfl) rfl rfl rfl ?_
  refine X_W (W_ui (tk_get hw (i := 8) rfl) rfl rfl rfl) ?_
  show X l mX2_init 1 0 0 true _ (kA.take (n + 1)) 0 0 49 [some (vR (3, v, h))] [] (am_W (m + 9))
  exact r_vret dX2_init_49 rfl (le_b rfl) (le_b rfl)

theorem dX8_init_0 : decode cX8_init 0 = .ok (.aload_n 0, 1) := by decide +kernel
theorem dX8_init_1 : decode cX8_init 1 = .ok (.invokespecial 3, 3) := by decide +kernel
theorem dX8_init_4 : decode cX8_init 4 = .ok (.aload_n 0, 1) := by decide +kernel
theorem dX8_init_5 : decode cX8_init 5 = .ok (.iconst 0, 1) := by decide +kernel
theorem dX8_init_6 : decode cX8_init 6 = .ok (.putfield 9, 3) := by decide +kernel
theorem dX8_init_9 : decode cX8_init 9 = .ok (.aload_n 0, 1) := by decide +kernel
theorem dX8_init_10 : decode cX8_init 10 = .ok (.bipush 6, 2) := by decide +kernel
theorem dX8_init_12 : decode cX8_init 12 = .ok (.anewarray 15, 3) := by decide +kernel
theorem dX8_init_15 : decode cX8_init 15 = .ok (.putfield 17, 3) := by decide +kernel
theorem dX8_init_18 : decode cX8_init 18 = .ok (.aload_n 0, 1) := by decide +kernel
theorem dX8_init_19 : decode cX8_init 19 = .ok (.bipush 6, 2) := by decide +kernel
theorem dX8_init_21 : decode cX8_init 21 = .ok (.bipush 6, 2) := by decide +kernel
theorem dX8_init_23 : decode cX8_init 23 = .ok (.multianewarray 21 2, 4) := by decide +kernel
theorem dX8_init_27 : decode cX8_init 27 = .ok (.putfield 23, 3) := by decide +kernel
theorem dX8_init_30 : decode cX8_init 30 = .ok (.aload_n 0, 1) := by decide +kernel
theorem dX8_init_31 : decode cX8_init 31 = .ok (.iconst 0, 1) := by decide +kernel
theorem dX8_init_32 : decode cX8_init 32 = .ok (.putfield 26, 3) := by decide +kernel
theorem dX8_init_35 : decode cX8_init 35 = .ok (.aload_n 0, 1) := by decide +kernel
theorem dX8_init_36 : decode cX8_init 36 = .ok (.iconst 0, 1) := by decide +kernel
theorem dX8_init_37 : decode cX8_init 37 = .ok (.putfield 29, 3) := by decide +kernel
theorem dX8_init_40 : decode cX8_init 40 = .ok (.aload_n 0, 1) := by decide +kernel
theorem dX8_init_41 : decode cX8_init 41 = .ok (.aconst_null, 1) := by decide +kernel
theorem dX8_init_42 : decode cX8_init 42 = .ok (.putfield 32, 3) := by decide +kernel
theorem dX8_init_45 : decode cX8_init 45 = .ok (.aload_n 0, 1) := by decide +kernel
theorem dX8_init_46 : decode cX8_init 46 = .ok (.iconst 0, 1) := by decide +kernel
theorem dX8_init_47 : decode cX8_init 47 = .ok (.putfield 36, 3) := by decide +kernel
theorem dX8_init_50 : decode cX8_init 50 = .ok (.aload_n 0, 1) := by decide +kernel
theorem dX8_init_51 : decode cX8_init 51 = .ok (.bipush 12, 2) := by decide +kernel
theorem dX8_init_53 : decode cX8_init 53 = .ok (.newarray .int, 2) := by decide +kernel
theorem dX8_init_55 : decode cX8_init 55 = .ok (.putfield 39, 3) := by decide +kernel
theorem dX8_init_58 : decode cX8_init 58 = .ok (.aload_n 0, 1) := by decide +kernel
theorem dX8_init_59 : decode cX8_init 59 = .ok (.bipush 12, 2) := by decide +kernel
theorem dX8_init_61 : decode cX8_init 61 = .ok (.newarray .int, 2) := by decide +kernel
theorem dX8_init_63 : decode cX8_init 63 = .ok (.putfield 43, 3) := by decide +kernel
theorem dX8_init_66 : decode cX8_init 66 = .ok (.aload_n 0, 1) := by decide +kernel
theorem dX8_init_67 : decode cX8_init 67 = .ok (.bipush 6, 2) := by decide +kernel
theorem dX8_init_69 : decode cX8_init 69 = .ok (.newarray .int, 2) := by decide +kernel
theorem dX8_init_71 : decode cX8_init 71 = .ok (.putfield 46, 3) := by decide +kernel
theorem dX8_init_74 : decode cX8_init 74 = .ok (.iconst 0, 1) := by decide +kernel
theorem dX8_init_75 : decode cX8_init 75 = .ok (.istore_n 1, 1) := by decide +kernel
theorem dX8_init_76 : decode cX8_init 76 = .ok (.iload_n 1, 1) := by decide +kernel
theorem dX8_init_77 : decode cX8_init 77 = .ok (.bipush 6, 2) := by decide +kernel
theorem dX8_init_79 : decode cX8_init 79 = .ok (.if_icmp .ge 22, 3) := by decide +kernel
theorem dX8_init_82 : decode cX8_init 82 = .ok (.aload_n 0, 1) := by decide +kernel
theorem dX8_init_83 : decode cX8_init 83 = .ok (.getfield 17, 3) := by decide +kernel
theorem dX8_init_86 : decode cX8_init 86 = .ok (.iload_n 1, 1) := by decide +kernel
theorem dX8_init_87 : decode cX8_init 87 = .ok (.new 15, 3) := by decide +kernel
theorem dX8_init_90 : decode cX8_init 90 = .ok (.dup, 1) := by decide +kernel
theorem dX8_init_91 : decode cX8_init 91 = .ok (.invokespecial 49, 3) := by decide +kernel
theorem dX8_init_94 : decode cX8_init 94 = .ok (.aastore, 1) := by decide +kernel
theorem dX8_init_95 : decode cX8_init 95 = .ok (.iinc 1 1, 3) := by decide +kernel
theorem dX8_init_98 : decode cX8_init 98 = .ok (.goto (-22), 3) := by decide +kernel
theorem dX8_init_101 : decode cX8_init 101 = .ok (.return_, 1) := by decide +kernel
set_option maxHeartbeats 4000000 in
set_option maxRecDepth 20000 in
theorem I_X8_init {l : Launch} {v : Nat} {n m : Nat} (hk : (kA.drop n).take 18 = [(1, v, 0), (2, v, 0), (4, v, 0), (5, v, 0), (5, v, 1), (5, v, 2), (5, v, 3), (5, v, 4), (5, v, 5), (6, v, 0), (7, v, 0), (8, v, 0), (3, v, 0), (3, v, 1), (3, v, 2), (3, v, 3), (3, v, 4), (3, v, 5)]) (hA : (AL.drop (n + 1)).take 17 = [m + 1, m + 2, m + 2, m + 2, m + 2, m + 2, m + 2, m + 2, m + 13, m + 14, m + 15, m + 16, m + 26, m + 36, m + 46, m + 56, m + 66]) (hw : (WL.drop m).take 76 = [((1, v, 0), 0), ((1, v, 0), 1), ((4, v, 0), 0), ((4, v, 0), 1), ((4, v, 0), 2), ((4, v, 0), 3), ((4, v, 0), 4), ((4, v, 0), 5), ((1, v, 0), 2), ((1, v, 0), 3), ((1, v, 0), 4), ((1, v, 0), 5), ((1, v, 0), 6), ((1, v, 0), 7), ((1, v, 0), 8), ((1, v, 0), 9), ((3, v, 0), 0), ((3, v, 0), 1), ((3, v, 0), 2), ((3, v, 0), 3), ((3, v, 0), 4), ((3, v, 0), 5), ((3, v, 0), 6), ((3, v, 0), 7), ((3, v, 0), 8), ((2, v, 0), 0), ((3, v, 1), 0), ((3, v, 1), 1), ((3, v, 1), 2), ((3, v, 1), 3), ((3, v, 1), 4), ((3, v, 1), 5), ((3, v, 1), 6), ((3, v, 1), 7), ((3, v, 1), 8), ((2, v, 0), 1), ((3, v, 2), 0), ((3, v, 2), 1), ((3, v, 2), 2), ((3, v, 2), 3), ((3, v, 2), 4), ((3, v, 2), 5), ((3, v, 2), 6), ((3, v, 2), 7), ((3, v, 2), 8), ((2, v, 0), 2), ((3, v, 3), 0), ((3, v, 3), 1), ((3, v, 3), 2), ((3, v, 3), 3), ((3, v, 3), 4), ((3, v, 3), 5), ((3, v, 3), 6), ((3, v, 3), 7), ((3, v, 3), 8), ((2, v, 0), 3), ((3, v, 4), 0), ((3, v, 4), 1), ((3, v, 4), 2), ((3, v, 4), 3), ((3, v, 4), 4), ((3, v, 4), 5), ((3, v, 4), 6), ((3, v, 4), 7), ((3, v, 4), 8), ((2, v, 0), 4), ((3, v, 5), 0), ((3, v, 5), 1), ((3, v, 5), 2), ((3, v, 5), 3), ((3, v, 5), 4), ((3, v, 5), 5), ((3, v, 5), 6), ((3, v, 5), 7), ((3, v, 5), 8), ((2, v, 0), 5)]) : Ev l mX8_init 2 17 132 true [vR (1, v, 0)] (kA.take (n + 1)) (am_W m) (none, kA.take (n + 18), am_W (m + 76)) := by
  refine Ev_of (by decide +kernel) (le_b rfl) ?_
  show X l mX8_init 2 17 132 true _ (kA.take (n + 1)) 0 0 0 [some (vR (1, v, 0)), none] [] (am_W m)
  refine r_aload_n (x := (1, v, 0)) dX8_init_0 rfl ?_
  refine r_objInit oi_X8_3 oi_b.1 oi_b.2 dX8_init_1 (le_b rfl) (le_b rfl) ?_
  refine r_aload_n (x := (1, v, 0)) dX8_init_4 rfl ?_
  refine r_iconst (v := 0) dX8_init_5 rfl ?_
  refine r_puti fp_X8_9 (fun h => by cases h) dX8_init_6 (kA_mem (tk_get hk (i := 0) rfl) (by omega)) rfl (lt_b rfl) rfl rfl rfl ?_
  refine X_W (W_ui (tk_get hw (i := 0) rfl) rfl rfl rfl) ?_
  show X l mX8_init 2 17 132 true _ (kA.take (n + 1)) 0 0 9 [some (vR (1, v, 0)), none] [] (am_W (m + 1))
  refine r_aload_n (x := (1, v, 0)) dX8_init_9 rfl ?_
  refine r_bipush (v := 6) dX8_init_10 rfl ?_
  refine c_anewHouse (N := 6) cl_X8_15 ao_House (tk_get hk (i := 1) rfl) (tk_get hA (i := 0) rfl) rfl rfl (by decide) rfl (by decide) dX8_init_12 (le_b rfl) (le_b rfl) ?_
  show X l mX8_init 2 17 132 true _ (kA.take (n + 2)) 1 6 15 [some (vR (1, v, 0)), none] [vR (2, v, 0), vR (1, v, 0)] (am_W (m + 1))
  refine r_putr (x := some (2, v, 0)) fp_X8_17 (fun _ => rfl) dX8_init_15 (kA_mem (tk_get hk (i := 0) rfl) (by omega)) rfl (lt_b rfl) rfl (fun v => by cases v <;> exact ⟨rfl, rfl⟩) ?_
  refine X_W (W_ur (tk_get hw (i := 1) rfl) rfl rfl rfl) ?_
  show X l mX8_init 2 17 132 true _ (kA.take (n + 2)) 1 6 18 [some (vR (1, v, 0)), none] [] (am_W (m + 2))
  refine r_aload_n (x := (1, v, 0)) dX8_init_18 rfl ?_
  refine r_bipush (v := 6) dX8_init_19 rfl ?_
  refine r_bipush (v := 6) dX8_init_21 rfl ?_
  refine c_mna (r := (fun j => (5, v, j))) cl_X8_21 ao_int na_int rfl rfl (tk_get hk (i := 2) rfl) (fun j hj => by rcases (show j = 0 ∨ j = 1 ∨ j = 2 ∨ j = 3 ∨ j = 4 ∨ j = 5 by omega) with rfl | rfl | rfl | rfl | rfl | rfl; exact (tk_get hk (i := 3) rfl); exact (tk_get hk (i := 4) rfl); exact (tk_get hk (i := 5) rfl); exact (tk_get hk (i := 6) rfl); exact (tk_get hk (i := 7) rfl); exact (tk_get hk (i := 8) rfl)) (tk_get hA (i := 1) rfl) (fun j hj => by rcases (show j = 0 ∨ j = 1 ∨ j = 2 ∨ j = 3 ∨ j = 4 ∨ j = 5 by omega) with rfl | rfl | rfl | rfl | rfl | rfl; exact (tk_get hA (i := 2) rfl); exact (tk_get hA (i := 3) rfl); exact (tk_get hA (i := 4) rfl); exact (tk_get hA (i := 5) rfl); exact (tk_get hA (i := 6) rfl); exact (tk_get hA (i := 7) rfl)) rfl rfl (fun j hj => by rcases (show j = 0 ∨ j = 1 ∨ j = 2 ∨ j = 3 ∨ j = 4 ∨ j = 5 by omega) with rfl | rfl | rfl | rfl | rfl | rfl <;> exact ⟨rfl, rfl⟩) (fun j hj => by rcases (show j = 0 ∨ j = 1 ∨ j = 2 ∨ j = 3 ∨ j = 4 ∨ j = 5 by omega) with rfl | rfl | rfl | rfl | rfl | rfl; exact (tk_get hw (i := 2) rfl); exact (tk_get hw (i := 3) rfl); exact (tk_get hw (i := 4) rfl); exact (tk_get hw (i := 5) rfl); exact (tk_get hw (i := 6) rfl); exact (tk_get hw (i := 7) rfl)) (fun j hj => rfl) dX8_init_23 (le_b rfl) (le_b rfl) ?_
  show X l mX8_init 2 17 132 true _ (kA.take (n + 9)) 8 48 27 [some (vR (1, v, 0)), none] [vR (4, v, 0), vR (1, v, 0)] (am_W (m + 8))
  refine r_putr (x := some (4, v, 0)) fp_X8_23 (fun _ => rfl) dX8_init_27 (kA_mem (tk_get hk (i := 0) rfl) (by omega)) rfl (lt_b rfl) rfl (fun v => by cases v <;> exact ⟨rfl, rfl⟩) ?_
  refine X_W (W_ur (tk_get hw (i := 8) rfl) rfl rfl rfl) ?_
  show X l mX8_init 2 17 132 true _ (kA.take (n + 9)) 8 48 30 [some (vR (1, v, 0)), none] [] (am_W (m + 9))
  refine r_aload_n (x := (1, v, 0)) dX8_init_30 rfl ?_
  refine r_iconst (v := 0) dX8_init_31 rfl ?_
  refine r_puti fp_X8_26 (fun h => by cases h) dX8_init_32 (kA_mem (tk_get hk (i := 0) rfl) (by omega)) rfl (lt_b rfl) rfl rfl rfl ?_
  refine X_W (W_ui (tk_get hw (i := 9) rfl) rfl rfl rfl) ?_
  show X l mX8_init 2 17 132 true _ (kA.take (n + 9)) 8 48 35 [some (vR (1, v, 0)), none] [] (am_W (m + 10))
  refine r_aload_n (x := (1, v, 0)) dX8_init_35 rfl ?_
  refine r_iconst (v := 0) dX8_init_36 rfl ?_
  refine r_puti fp_X8_29 (fun h => by cases h) dX8_init_37 (kA_mem (tk_get hk (i := 0) rfl) (by omega)) rfl (lt_b rfl) rfl rfl rfl ?_
  refine X_W (W_ui (tk_get hw (i := 10) rfl) rfl rfl rfl) ?_
  show X l mX8_init 2 17 132 true _ (kA.take (n + 9)) 8 48 40 [some (vR (1, v, 0)), none] [] (am_W (m + 11))
  refine r_aload_n (x := (1, v, 0)) dX8_init_40 rfl ?_
  refine r_anull dX8_init_41 ?_
  refine r_putr (x := none) fp_X8_32 (fun h => by cases h) dX8_init_42 (kA_mem (tk_get hk (i := 0) rfl) (by omega)) rfl (lt_b rfl) rfl (fun v => by cases v <;> exact ⟨rfl, rfl⟩) ?_
  refine X_W (W_ur (tk_get hw (i := 11) rfl) rfl rfl rfl) ?_
  show X l mX8_init 2 17 132 true _ (kA.take (n + 9)) 8 48 45 [some (vR (1, v, 0)), none] [] (am_W (m + 12))
  refine r_aload_n (x := (1, v, 0)) dX8_init_45 rfl ?_
  refine r_iconst (v := 0) dX8_init_46 rfl ?_
  refine r_puti fp_X8_36 (fun h => by cases h) dX8_init_47 (kA_mem (tk_get hk (i := 0) rfl) (by omega)) rfl (lt_b rfl) rfl rfl rfl ?_
  refine X_W (W_ui (tk_get hw (i := 12) rfl) rfl rfl rfl) ?_
  show X l mX8_init 2 17 132 true _ (kA.take (n + 9)) 8 48 50 [some (vR (1, v, 0)), none] [] (am_W (m + 13))
  refine r_aload_n (x := (1, v, 0)) dX8_init_50 rfl ?_
  refine r_bipush (v := 12) dX8_init_51 rfl ?_
  refine c_newai (N := 12) na_int (tk_get hk (i := 9) rfl) (tk_get hA (i := 8) rfl) rfl rfl (by decide) rfl (by decide) dX8_init_53 (le_b rfl) (le_b rfl) ?_
  show X l mX8_init 2 17 132 true _ (kA.take (n + 10)) 9 60 55 [some (vR (1, v, 0)), none] [vR (6, v, 0), vR (1, v, 0)] (am_W (m + 13))
  refine r_putr (x := some (6, v, 0)) fp_X8_39 (fun _ => rfl) dX8_init_55 (kA_mem (tk_get hk (i := 0) rfl) (by omega)) rfl (lt_b rfl) rfl (fun v => by cases v <;> exact ⟨rfl, rfl⟩) ?_
  refine X_W (W_ur (tk_get hw (i := 13) rfl) rfl rfl rfl) ?_
  show X l mX8_init 2 17 132 true _ (kA.take (n + 10)) 9 60 58 [some (vR (1, v, 0)), none] [] (am_W (m + 14))
  refine r_aload_n (x := (1, v, 0)) dX8_init_58 rfl ?_
  refine r_bipush (v := 12) dX8_init_59 rfl ?_
  refine c_newai (N := 12) na_int (tk_get hk (i := 10) rfl) (tk_get hA (i := 9) rfl) rfl rfl (by decide) rfl (by decide) dX8_init_61 (le_b rfl) (le_b rfl) ?_
  show X l mX8_init 2 17 132 true _ (kA.take (n + 11)) 10 72 63 [some (vR (1, v, 0)), none] [vR (7, v, 0), vR (1, v, 0)] (am_W (m + 14))
  refine r_putr (x := some (7, v, 0)) fp_X8_43 (fun _ => rfl) dX8_init_63 (kA_mem (tk_get hk (i := 0) rfl) (by omega)) rfl (lt_b rfl) rfl (fun v => by cases v <;> exact ⟨rfl, rfl⟩) ?_
  refine X_W (W_ur (tk_get hw (i := 14) rfl) rfl rfl rfl) ?_
  show X l mX8_init 2 17 132 true _ (kA.take (n + 11)) 10 72 66 [some (vR (1, v, 0)), none] [] (am_W (m + 15))
  refine r_aload_n (x := (1, v, 0)) dX8_init_66 rfl ?_
  refine r_bipush (v := 6) dX8_init_67 rfl ?_
  refine c_newai (N := 6) na_int (tk_get hk (i := 11) rfl) (tk_get hA (i := 10) rfl) rfl rfl (by decide) rfl (by decide) dX8_init_69 (le_b rfl) (le_b rfl) ?_
  show X l mX8_init 2 17 132 true _ (kA.take (n + 12)) 11 78 71 [some (vR (1, v, 0)), none] [vR (8, v, 0), vR (1, v, 0)] (am_W (m + 15))
  refine r_putr (x := some (8, v, 0)) fp_X8_46 (fun _ => rfl) dX8_init_71 (kA_mem (tk_get hk (i := 0) rfl) (by omega)) rfl (lt_b rfl) rfl (fun v => by cases v <;> exact ⟨rfl, rfl⟩) ?_
  refine X_W (W_ur (tk_get hw (i := 15) rfl) rfl rfl rfl) ?_
  show X l mX8_init 2 17 132 true _ (kA.take (n + 12)) 11 78 74 [some (vR (1, v, 0)), none] [] (am_W (m + 16))
  refine r_iconst (v := 0) dX8_init_74 rfl ?_
  refine r_istore_n (L' := [some (vR (1, v, 0)), some (vI (0))]) dX8_init_75 (by decide) rfl ?_
  refine r_iload_n (x := 0) dX8_init_76 rfl ?_
  refine r_bipush (v := 6) dX8_init_77 rfl ?_
  refine r_icmp_ge (tgt := 101) dX8_init_79 (by decide) (fun hc => absurd hc (by decide)) (fun hc => ?_)
  refine r_aload_n (x := (1, v, 0)) dX8_init_82 rfl ?_
  refine r_getr (z := some (2, v, 0)) fw_X8_17 dX8_init_83 (kA_mem (tk_get hk (i := 0) rfl) (by omega)) rfl (lt_b rfl) (W_rd (tk_get hw (i := 1) rfl) (by omega)) ?_
  refine r_iload_n (x := 0) dX8_init_86 rfl ?_
  refine c_newo (N := 9) nw_X8_15 (tk_get hk (i := 12) rfl) (tk_get hA (i := 11) rfl) rfl rfl rfl dX8_init_87 (le_b rfl) (le_b rfl) ?_
  show X l mX8_init 2 17 132 true _ (kA.take (n + 13)) 12 87 90 [some (vR (1, v, 0)), some (vI (0))] [vR (3, v, 0), vI (0), vR (2, v, 0)] (am_W (m + 16))
  refine r_dup dX8_init_90 rfl ?_
  refine c_callIN (as := []) (st := [vR (3, v, 0), vI (0), vR (2, v, 0)]) mn_X8_49 mi_X2_init rfl rfl (I_X2_init (l := l) (v := v) (h := 0) (n := n + 12) (m := m + 16) (tk_sub hk 12 1 (by decide) rfl) (tk_sub hA 12 0 (by decide) rfl) (tk_sub hw 16 9 (by decide) rfl)) (le_b rfl) dX8_init_91 rfl (le_b rfl) (le_b rfl) (le_b rfl) ?_
  show X l mX8_init 2 17 132 true _ (kA.take (n + 13)) 12 87 94 [some (vR (1, v, 0)), some (vI (0))] [vR (3, v, 0), vI (0), vR (2, v, 0)] (am_W (m + 25))
  refine c_aast (j := 0) (ci := 2) (t0 := 3) (r := (RX2, TX2, 9)) dX8_init_94 (kA_mem (tk_get hk (i := 1) rfl) (by omega)) (kA_mem (tk_get hk (i := 12) rfl) (by omega)) (le_b rfl) (fun _ => rfl) rfl rfl (vp_lit (i := 0) (n := 6) rfl) rfl (W_ur (tk_get hw (i := 25) rfl) rfl rfl rfl) ?_
  show X l mX8_init 2 17 132 true _ (kA.take (n + 13)) 12 87 95 [some (vR (1, v, 0)), some (vI (0))] [] (am_W (m + 26))
  refine r_iinc (x := 0) (v := 1) (L' := [some (vR (1, v, 0)), some (vI (1))]) dX8_init_95 rfl rfl (lt_b rfl) rfl ?_
  refine r_goto (tgt := 76) dX8_init_98 (by decide) ?_
  refine r_iload_n (x := 1) dX8_init_76 rfl ?_
  refine r_bipush (v := 6) dX8_init_77 rfl ?_
  refine r_icmp_ge (tgt := 101) dX8_init_79 (by decide) (fun hc => absurd hc (by decide)) (fun hc => ?_)
  refine r_aload_n (x := (1, v, 0)) dX8_init_82 rfl ?_
  refine r_getr (z := some (2, v, 0)) fw_X8_17 dX8_init_83 (kA_mem (tk_get hk (i := 0) rfl) (by omega)) rfl (lt_b rfl) (W_rd (tk_get hw (i := 1) rfl) (by omega)) ?_
  refine r_iload_n (x := 1) dX8_init_86 rfl ?_
  refine c_newo (N := 9) nw_X8_15 (tk_get hk (i := 13) rfl) (tk_get hA (i := 12) rfl) rfl rfl rfl dX8_init_87 (le_b rfl) (le_b rfl) ?_
  show X l mX8_init 2 17 132 true _ (kA.take (n + 14)) 13 96 90 [some (vR (1, v, 0)), some (vI (1))] [vR (3, v, 1), vI (1), vR (2, v, 0)] (am_W (m + 26))
  refine r_dup dX8_init_90 rfl ?_
  refine c_callIN (as := []) (st := [vR (3, v, 1), vI (1), vR (2, v, 0)]) mn_X8_49 mi_X2_init rfl rfl (I_X2_init (l := l) (v := v) (h := 1) (n := n + 13) (m := m + 26) (tk_sub hk 13 1 (by decide) rfl) (tk_sub hA 13 0 (by decide) rfl) (tk_sub hw 26 9 (by decide) rfl)) (le_b rfl) dX8_init_91 rfl (le_b rfl) (le_b rfl) (le_b rfl) ?_
  show X l mX8_init 2 17 132 true _ (kA.take (n + 14)) 13 96 94 [some (vR (1, v, 0)), some (vI (1))] [vR (3, v, 1), vI (1), vR (2, v, 0)] (am_W (m + 35))
  refine c_aast (j := 1) (ci := 2) (t0 := 3) (r := (RX2, TX2, 9)) dX8_init_94 (kA_mem (tk_get hk (i := 1) rfl) (by omega)) (kA_mem (tk_get hk (i := 13) rfl) (by omega)) (le_b rfl) (fun _ => rfl) rfl rfl (vp_lit (i := 1) (n := 6) rfl) rfl (W_ur (tk_get hw (i := 35) rfl) rfl rfl rfl) ?_
  show X l mX8_init 2 17 132 true _ (kA.take (n + 14)) 13 96 95 [some (vR (1, v, 0)), some (vI (1))] [] (am_W (m + 36))
  refine r_iinc (x := 1) (v := 2) (L' := [some (vR (1, v, 0)), some (vI (2))]) dX8_init_95 rfl rfl (lt_b rfl) rfl ?_
  refine r_goto (tgt := 76) dX8_init_98 (by decide) ?_
  refine r_iload_n (x := 2) dX8_init_76 rfl ?_
  refine r_bipush (v := 6) dX8_init_77 rfl ?_
  refine r_icmp_ge (tgt := 101) dX8_init_79 (by decide) (fun hc => absurd hc (by decide)) (fun hc => ?_)
  refine r_aload_n (x := (1, v, 0)) dX8_init_82 rfl ?_
  refine r_getr (z := some (2, v, 0)) fw_X8_17 dX8_init_83 (kA_mem (tk_get hk (i := 0) rfl) (by omega)) rfl (lt_b rfl) (W_rd (tk_get hw (i := 1) rfl) (by omega)) ?_
  refine r_iload_n (x := 2) dX8_init_86 rfl ?_
  refine c_newo (N := 9) nw_X8_15 (tk_get hk (i := 14) rfl) (tk_get hA (i := 13) rfl) rfl rfl rfl dX8_init_87 (le_b rfl) (le_b rfl) ?_
  show X l mX8_init 2 17 132 true _ (kA.take (n + 15)) 14 105 90 [some (vR (1, v, 0)), some (vI (2))] [vR (3, v, 2), vI (2), vR (2, v, 0)] (am_W (m + 36))
  refine r_dup dX8_init_90 rfl ?_
  refine c_callIN (as := []) (st := [vR (3, v, 2), vI (2), vR (2, v, 0)]) mn_X8_49 mi_X2_init rfl rfl (I_X2_init (l := l) (v := v) (h := 2) (n := n + 14) (m := m + 36) (tk_sub hk 14 1 (by decide) rfl) (tk_sub hA 14 0 (by decide) rfl) (tk_sub hw 36 9 (by decide) rfl)) (le_b rfl) dX8_init_91 rfl (le_b rfl) (le_b rfl) (le_b rfl) ?_
  show X l mX8_init 2 17 132 true _ (kA.take (n + 15)) 14 105 94 [some (vR (1, v, 0)), some (vI (2))] [vR (3, v, 2), vI (2), vR (2, v, 0)] (am_W (m + 45))
  refine c_aast (j := 2) (ci := 2) (t0 := 3) (r := (RX2, TX2, 9)) dX8_init_94 (kA_mem (tk_get hk (i := 1) rfl) (by omega)) (kA_mem (tk_get hk (i := 14) rfl) (by omega)) (le_b rfl) (fun _ => rfl) rfl rfl (vp_lit (i := 2) (n := 6) rfl) rfl (W_ur (tk_get hw (i := 45) rfl) rfl rfl rfl) ?_
  show X l mX8_init 2 17 132 true _ (kA.take (n + 15)) 14 105 95 [some (vR (1, v, 0)), some (vI (2))] [] (am_W (m + 46))
  refine r_iinc (x := 2) (v := 3) (L' := [some (vR (1, v, 0)), some (vI (3))]) dX8_init_95 rfl rfl (lt_b rfl) rfl ?_
  refine r_goto (tgt := 76) dX8_init_98 (by decide) ?_
  refine r_iload_n (x := 3) dX8_init_76 rfl ?_
  refine r_bipush (v := 6) dX8_init_77 rfl ?_
  refine r_icmp_ge (tgt := 101) dX8_init_79 (by decide) (fun hc => absurd hc (by decide)) (fun hc => ?_)
  refine r_aload_n (x := (1, v, 0)) dX8_init_82 rfl ?_
  refine r_getr (z := some (2, v, 0)) fw_X8_17 dX8_init_83 (kA_mem (tk_get hk (i := 0) rfl) (by omega)) rfl (lt_b rfl) (W_rd (tk_get hw (i := 1) rfl) (by omega)) ?_
  refine r_iload_n (x := 3) dX8_init_86 rfl ?_
  refine c_newo (N := 9) nw_X8_15 (tk_get hk (i := 15) rfl) (tk_get hA (i := 14) rfl) rfl rfl rfl dX8_init_87 (le_b rfl) (le_b rfl) ?_
  show X l mX8_init 2 17 132 true _ (kA.take (n + 16)) 15 114 90 [some (vR (1, v, 0)), some (vI (3))] [vR (3, v, 3), vI (3), vR (2, v, 0)] (am_W (m + 46))
  refine r_dup dX8_init_90 rfl ?_
  refine c_callIN (as := []) (st := [vR (3, v, 3), vI (3), vR (2, v, 0)]) mn_X8_49 mi_X2_init rfl rfl (I_X2_init (l := l) (v := v) (h := 3) (n := n + 15) (m := m + 46) (tk_sub hk 15 1 (by decide) rfl) (tk_sub hA 15 0 (by decide) rfl) (tk_sub hw 46 9 (by decide) rfl)) (le_b rfl) dX8_init_91 rfl (le_b rfl) (le_b rfl) (le_b rfl) ?_
  show X l mX8_init 2 17 132 true _ (kA.take (n + 16)) 15 114 94 [some (vR (1, v, 0)), some (vI (3))] [vR (3, v, 3), vI (3), vR (2, v, 0)] (am_W (m + 55))
  refine c_aast (j := 3) (ci := 2) (t0 := 3) (r := (RX2, TX2, 9)) dX8_init_94 (kA_mem (tk_get hk (i := 1) rfl) (by omega)) (kA_mem (tk_get hk (i := 15) rfl) (by omega)) (le_b rfl) (fun _ => rfl) rfl rfl (vp_lit (i := 3) (n := 6) rfl) rfl (W_ur (tk_get hw (i := 55) rfl) rfl rfl rfl) ?_
  show X l mX8_init 2 17 132 true _ (kA.take (n + 16)) 15 114 95 [some (vR (1, v, 0)), some (vI (3))] [] (am_W (m + 56))
  refine r_iinc (x := 3) (v := 4) (L' := [some (vR (1, v, 0)), some (vI (4))]) dX8_init_95 rfl rfl (lt_b rfl) rfl ?_
  refine r_goto (tgt := 76) dX8_init_98 (by decide) ?_
  refine r_iload_n (x := 4) dX8_init_76 rfl ?_
  refine r_bipush (v := 6) dX8_init_77 rfl ?_
  refine r_icmp_ge (tgt := 101) dX8_init_79 (by decide) (fun hc => absurd hc (by decide)) (fun hc => ?_)
  refine r_aload_n (x := (1, v, 0)) dX8_init_82 rfl ?_
  refine r_getr (z := some (2, v, 0)) fw_X8_17 dX8_init_83 (kA_mem (tk_get hk (i := 0) rfl) (by omega)) rfl (lt_b rfl) (W_rd (tk_get hw (i := 1) rfl) (by omega)) ?_
  refine r_iload_n (x := 4) dX8_init_86 rfl ?_
  refine c_newo (N := 9) nw_X8_15 (tk_get hk (i := 16) rfl) (tk_get hA (i := 15) rfl) rfl rfl rfl dX8_init_87 (le_b rfl) (le_b rfl) ?_
  show X l mX8_init 2 17 132 true _ (kA.take (n + 17)) 16 123 90 [some (vR (1, v, 0)), some (vI (4))] [vR (3, v, 4), vI (4), vR (2, v, 0)] (am_W (m + 56))
  refine r_dup dX8_init_90 rfl ?_
  refine c_callIN (as := []) (st := [vR (3, v, 4), vI (4), vR (2, v, 0)]) mn_X8_49 mi_X2_init rfl rfl (I_X2_init (l := l) (v := v) (h := 4) (n := n + 16) (m := m + 56) (tk_sub hk 16 1 (by decide) rfl) (tk_sub hA 16 0 (by decide) rfl) (tk_sub hw 56 9 (by decide) rfl)) (le_b rfl) dX8_init_91 rfl (le_b rfl) (le_b rfl) (le_b rfl) ?_
  show X l mX8_init 2 17 132 true _ (kA.take (n + 17)) 16 123 94 [some (vR (1, v, 0)), some (vI (4))] [vR (3, v, 4), vI (4), vR (2, v, 0)] (am_W (m + 65))
  refine c_aast (j := 4) (ci := 2) (t0 := 3) (r := (RX2, TX2, 9)) dX8_init_94 (kA_mem (tk_get hk (i := 1) rfl) (by omega)) (kA_mem (tk_get hk (i := 16) rfl) (by omega)) (le_b rfl) (fun _ => rfl) rfl rfl (vp_lit (i := 4) (n := 6) rfl) rfl (W_ur (tk_get hw (i := 65) rfl) rfl rfl rfl) ?_
  show X l mX8_init 2 17 132 true _ (kA.take (n + 17)) 16 123 95 [some (vR (1, v, 0)), some (vI (4))] [] (am_W (m + 66))
  refine r_iinc (x := 4) (v := 5) (L' := [some (vR (1, v, 0)), some (vI (5))]) dX8_init_95 rfl rfl (lt_b rfl) rfl ?_
  refine r_goto (tgt := 76) dX8_init_98 (by decide) ?_
  refine r_iload_n (x := 5) dX8_init_76 rfl ?_
  refine r_bipush (v := 6) dX8_init_77 rfl ?_
  refine r_icmp_ge (tgt := 101) dX8_init_79 (by decide) (fun hc => absurd hc (by decide)) (fun hc => ?_)
  refine r_aload_n (x := (1, v, 0)) dX8_init_82 rfl ?_
  refine r_getr (z := some (2, v, 0)) fw_X8_17 dX8_init_83 (kA_mem (tk_get hk (i := 0) rfl) (by omega)) rfl (lt_b rfl) (W_rd (tk_get hw (i := 1) rfl) (by omega)) ?_
  refine r_iload_n (x := 5) dX8_init_86 rfl ?_
  refine c_newo (N := 9) nw_X8_15 (tk_get hk (i := 17) rfl) (tk_get hA (i := 16) rfl) rfl rfl rfl dX8_init_87 (le_b rfl) (le_b rfl) ?_
  show X l mX8_init 2 17 132 true _ (kA.take (n + 18)) 17 132 90 [some (vR (1, v, 0)), some (vI (5))] [vR (3, v, 5), vI (5), vR (2, v, 0)] (am_W (m + 66))
  refine r_dup dX8_init_90 rfl ?_
  refine c_callIN (as := []) (st := [vR (3, v, 5), vI (5), vR (2, v, 0)]) mn_X8_49 mi_X2_init rfl rfl (I_X2_init (l := l) (v := v) (h := 5) (n := n + 17) (m := m + 66) (tk_sub hk 17 1 (by decide) rfl) (tk_sub hA 17 0 (by decide) rfl) (tk_sub hw 66 9 (by decide) rfl)) (le_b rfl) dX8_init_91 rfl (le_b rfl) (le_b rfl) (le_b rfl) ?_
  show X l mX8_init 2 17 132 true _ (kA.take (n + 18)) 17 132 94 [some (vR (1, v, 0)), some (vI (5))] [vR (3, v, 5), vI (5), vR (2, v, 0)] (am_W (m + 75))
  refine c_aast (j := 5) (ci := 2) (t0 := 3) (r := (RX2, TX2, 9)) dX8_init_94 (kA_mem (tk_get hk (i := 1) rfl) (by omega)) (kA_mem (tk_get hk (i := 17) rfl) (by omega)) (le_b rfl) (fun _ => rfl) rfl rfl (vp_lit (i := 5) (n := 6) rfl) rfl (W_ur (tk_get hw (i := 75) rfl) rfl rfl rfl) ?_
  show X l mX8_init 2 17 132 true _ (kA.take (n + 18)) 17 132 95 [some (vR (1, v, 0)), some (vI (5))] [] (am_W (m + 76))
  refine r_iinc (x := 5) (v := 6) (L' := [some (vR (1, v, 0)), some (vI (6))]) dX8_init_95 rfl rfl (lt_b rfl) rfl ?_
  refine r_goto (tgt := 76) dX8_init_98 (by decide) ?_
  refine r_iload_n (x := 6) dX8_init_76 rfl ?_
  refine r_bipush (v := 6) dX8_init_77 rfl ?_
  refine r_icmp_ge (tgt := 101) dX8_init_79 (by decide) (fun hc => ?_) (fun hc => absurd hc (by decide))
  exact r_vret dX8_init_101 rfl (le_b rfl) (le_b rfl)

theorem dX6_init_0 : decode cX6_init 0 = .ok (.aload_n 0, 1) := by decide +kernel
theorem dX6_init_1 : decode cX6_init 1 = .ok (.invokespecial 3, 3) := by decide +kernel
theorem dX6_init_4 : decode cX6_init 4 = .ok (.aload_n 0, 1) := by decide +kernel
theorem dX6_init_5 : decode cX6_init 5 = .ok (.bipush 100, 2) := by decide +kernel
theorem dX6_init_7 : decode cX6_init 7 = .ok (.newarray .int, 2) := by decide +kernel
theorem dX6_init_9 : decode cX6_init 9 = .ok (.putfield 9, 3) := by decide +kernel
theorem dX6_init_12 : decode cX6_init 12 = .ok (.aload_n 0, 1) := by decide +kernel
theorem dX6_init_13 : decode cX6_init 13 = .ok (.iconst 0, 1) := by decide +kernel
theorem dX6_init_14 : decode cX6_init 14 = .ok (.putfield 15, 3) := by decide +kernel
theorem dX6_init_17 : decode cX6_init 17 = .ok (.aload_n 0, 1) := by decide +kernel
theorem dX6_init_18 : decode cX6_init 18 = .ok (.iconst 0, 1) := by decide +kernel
theorem dX6_init_19 : decode cX6_init 19 = .ok (.putfield 19, 3) := by decide +kernel
theorem dX6_init_22 : decode cX6_init 22 = .ok (.aload_n 0, 1) := by decide +kernel
theorem dX6_init_23 : decode cX6_init 23 = .ok (.aconst_null, 1) := by decide +kernel
theorem dX6_init_24 : decode cX6_init 24 = .ok (.putfield 22, 3) := by decide +kernel
theorem dX6_init_27 : decode cX6_init 27 = .ok (.return_, 1) := by decide +kernel
set_option maxHeartbeats 4000000 in
set_option maxRecDepth 20000 in
theorem I_X6_init {l : Launch}  {n m : Nat} (hk : (kA.drop n).take 2 = [(9, 0, 0), (10, 0, 0)]) (hA : (AL.drop (n + 1)).take 1 = [m]) (hw : (WL.drop m).take 4 = [((9, 0, 0), 0), ((9, 0, 0), 1), ((9, 0, 0), 2), ((9, 0, 0), 3)]) : Ev l mX6_init 1 1 100 true [vR (9, 0, 0)] (kA.take (n + 1)) (am_W m) (none, kA.take (n + 2), am_W (m + 4)) := by
  refine Ev_of (by decide +kernel) (le_b rfl) ?_
  show X l mX6_init 1 1 100 true _ (kA.take (n + 1)) 0 0 0 [some (vR (9, 0, 0))] [] (am_W m)
  refine r_aload_n (x := (9, 0, 0)) dX6_init_0 rfl ?_
  refine r_objInit oi_X6_3 oi_b.1 oi_b.2 dX6_init_1 (le_b rfl) (le_b rfl) ?_
  refine r_aload_n (x := (9, 0, 0)) dX6_init_4 rfl ?_
  refine r_bipush (v := 100) dX6_init_5 rfl ?_
  refine c_newai (N := 100) na_int (tk_get hk (i := 1) rfl) (tk_get hA (i := 0) rfl) rfl rfl (by decide) rfl (by decide) dX6_init_7 (le_b rfl) (le_b rfl) ?_
  show X l mX6_init 1 1 100 true _ (kA.take (n + 2)) 1 100 9 [some (vR (9, 0, 0))] [vR (10, 0, 0), vR (9, 0, 0)] (am_W m)
  refine r_putr (x := some (10, 0, 0)) fp_X6_9 (fun _ => rfl) dX6_init_9 (kA_mem (tk_get hk (i := 0) rfl) (by omega)) rfl (lt_b rfl) rfl (fun v => by cases v <;> exact ⟨rfl, rfl⟩) ?_
  refine X_W (W_ur (tk_get hw (i := 0) rfl) rfl rfl rfl) ?_
  show X l mX6_init 1 1 100 true _ (kA.take (n + 2)) 1 100 12 [some (vR (9, 0, 0))] [] (am_W (m + 1))
  refine r_aload_n (x := (9, 0, 0)) dX6_init_12 rfl ?_
  refine r_iconst (v := 0) dX6_init_13 rfl ?_
  refine r_puti fp_X6_15 (fun h => by cases h) dX6_init_14 (kA_mem (tk_get hk (i := 0) rfl) (by omega)) rfl (lt_b rfl) rfl rfl rfl ?_
  refine X_W (W_ui (tk_get hw (i := 1) rfl) rfl rfl rfl) ?_
  show X l mX6_init 1 1 100 true _ (kA.take (n + 2)) 1 100 17 [some (vR (9, 0, 0))] [] (am_W (m + 2))
  refine r_aload_n (x := (9, 0, 0)) dX6_init_17 rfl ?_
  refine r_iconst (v := 0) dX6_init_18 rfl ?_
  refine r_puti fp_X6_19 (fun h => by cases h) dX6_init_19 (kA_mem (tk_get hk (i := 0) rfl) (by omega)) rfl (lt_b rfl) rfl rfl rfl ?_
  refine X_W (W_ui (tk_get hw (i := 2) rfl) rfl rfl rfl) ?_
  show X l mX6_init 1 1 100 true _ (kA.take (n + 2)) 1 100 22 [some (vR (9, 0, 0))] [] (am_W (m + 3))
  refine r_aload_n (x := (9, 0, 0)) dX6_init_22 rfl ?_
  refine r_anull dX6_init_23 ?_
  refine r_putr (x := none) fp_X6_22 (fun h => by cases h) dX6_init_24 (kA_mem (tk_get hk (i := 0) rfl) (by omega)) rfl (lt_b rfl) rfl (fun v => by cases v <;> exact ⟨rfl, rfl⟩) ?_
  refine X_W (W_ur (tk_get hw (i := 3) rfl) rfl rfl rfl) ?_
  show X l mX6_init 1 1 100 true _ (kA.take (n + 2)) 1 100 27 [some (vR (9, 0, 0))] [] (am_W (m + 4))
  exact r_vret dX6_init_27 rfl (le_b rfl) (le_b rfl)

theorem dX1_init_0 : decode cX1_init 0 = .ok (.aload_n 0, 1) := by decide +kernel
theorem dX1_init_1 : decode cX1_init 1 = .ok (.invokespecial 3, 3) := by decide +kernel
theorem dX1_init_4 : decode cX1_init 4 = .ok (.aload_n 0, 1) := by decide +kernel
theorem dX1_init_5 : decode cX1_init 5 = .ok (.iconst 0, 1) := by decide +kernel
theorem dX1_init_6 : decode cX1_init 6 = .ok (.putfield 9, 3) := by decide +kernel
theorem dX1_init_9 : decode cX1_init 9 = .ok (.aload_n 0, 1) := by decide +kernel
theorem dX1_init_10 : decode cX1_init 10 = .ok (.iconst 0, 1) := by decide +kernel
theorem dX1_init_11 : decode cX1_init 11 = .ok (.putfield 15, 3) := by decide +kernel
theorem dX1_init_14 : decode cX1_init 14 = .ok (.aload_n 0, 1) := by decide +kernel
theorem dX1_init_15 : decode cX1_init 15 = .ok (.bipush 6, 2) := by decide +kernel
theorem dX1_init_17 : decode cX1_init 17 = .ok (.newarray .int, 2) := by decide +kernel
theorem dX1_init_19 : decode cX1_init 19 = .ok (.putfield 18, 3) := by decide +kernel
theorem dX1_init_22 : decode cX1_init 22 = .ok (.aload_n 0, 1) := by decide +kernel
theorem dX1_init_23 : decode cX1_init 23 = .ok (.bipush 6, 2) := by decide +kernel
theorem dX1_init_25 : decode cX1_init 25 = .ok (.newarray .int, 2) := by decide +kernel
theorem dX1_init_27 : decode cX1_init 27 = .ok (.putfield 22, 3) := by decide +kernel
theorem dX1_init_30 : decode cX1_init 30 = .ok (.aload_n 0, 1) := by decide +kernel
theorem dX1_init_31 : decode cX1_init 31 = .ok (.bipush 6, 2) := by decide +kernel
theorem dX1_init_33 : decode cX1_init 33 = .ok (.newarray .int, 2) := by decide +kernel
theorem dX1_init_35 : decode cX1_init 35 = .ok (.putfield 25, 3) := by decide +kernel
theorem dX1_init_38 : decode cX1_init 38 = .ok (.aload_n 0, 1) := by decide +kernel
theorem dX1_init_39 : decode cX1_init 39 = .ok (.bipush 6, 2) := by decide +kernel
theorem dX1_init_41 : decode cX1_init 41 = .ok (.newarray .int, 2) := by decide +kernel
theorem dX1_init_43 : decode cX1_init 43 = .ok (.putfield 28, 3) := by decide +kernel
theorem dX1_init_46 : decode cX1_init 46 = .ok (.return_, 1) := by decide +kernel
set_option maxHeartbeats 4000000 in
set_option maxRecDepth 20000 in
theorem I_X1_init {l : Launch}  {n m : Nat} (hk : (kA.drop n).take 5 = [(20, 0, 0), (21, 0, 0), (22, 0, 0), (23, 0, 0), (24, 0, 0)]) (hA : (AL.drop (n + 1)).take 4 = [m + 2, m + 3, m + 4, m + 5]) (hw : (WL.drop m).take 6 = [((20, 0, 0), 0), ((20, 0, 0), 1), ((20, 0, 0), 2), ((20, 0, 0), 3), ((20, 0, 0), 4), ((20, 0, 0), 5)]) : Ev l mX1_init 1 4 24 true [vR (20, 0, 0)] (kA.take (n + 1)) (am_W m) (none, kA.take (n + 5), am_W (m + 6)) := by
  refine Ev_of (by decide +kernel) (le_b rfl) ?_
  show X l mX1_init 1 4 24 true _ (kA.take (n + 1)) 0 0 0 [some (vR (20, 0, 0))] [] (am_W m)
  refine r_aload_n (x := (20, 0, 0)) dX1_init_0 rfl ?_
  refine r_objInit oi_X1_3 oi_b.1 oi_b.2 dX1_init_1 (le_b rfl) (le_b rfl) ?_
  refine r_aload_n (x := (20, 0, 0)) dX1_init_4 rfl ?_
  refine r_iconst (v := 0) dX1_init_5 rfl ?_
  refine r_puti fp_X1_9 (fun h => by cases h) dX1_init_6 (kA_mem (tk_get hk (i := 0) rfl) (by omega)) rfl (lt_b rfl) rfl rfl rfl ?_
  refine X_W (W_ui (tk_get hw (i := 0) rfl) rfl rfl rfl) ?_
  show X l mX1_init 1 4 24 true _ (kA.take (n + 1)) 0 0 9 [some (vR (20, 0, 0))] [] (am_W (m + 1))
  refine r_aload_n (x := (20, 0, 0)) dX1_init_9 rfl ?_
  refine r_iconst (v := 0) dX1_init_10 rfl ?_
  refine r_puti fp_X1_15 (fun h => by cases h) dX1_init_11 (kA_mem (tk_get hk (i := 0) rfl) (by omega)) rfl (lt_b rfl) rfl rfl rfl ?_
  refine X_W (W_ui (tk_get hw (i := 1) rfl) rfl rfl rfl) ?_
  show X l mX1_init 1 4 24 true _ (kA.take (n + 1)) 0 0 14 [some (vR (20, 0, 0))] [] (am_W (m + 2))
  refine r_aload_n (x := (20, 0, 0)) dX1_init_14 rfl ?_
  refine r_bipush (v := 6) dX1_init_15 rfl ?_
  refine c_newai (N := 6) na_int (tk_get hk (i := 1) rfl) (tk_get hA (i := 0) rfl) rfl rfl (by decide) rfl (by decide) dX1_init_17 (le_b rfl) (le_b rfl) ?_
  show X l mX1_init 1 4 24 true _ (kA.take (n + 2)) 1 6 19 [some (vR (20, 0, 0))] [vR (21, 0, 0), vR (20, 0, 0)] (am_W (m + 2))
  refine r_putr (x := some (21, 0, 0)) fp_X1_18 (fun _ => rfl) dX1_init_19 (kA_mem (tk_get hk (i := 0) rfl) (by omega)) rfl (lt_b rfl) rfl (fun v => by cases v <;> exact ⟨rfl, rfl⟩) ?_
  refine X_W (W_ur (tk_get hw (i := 2) rfl) rfl rfl rfl) ?_
  show X l mX1_init 1 4 24 true _ (kA.take (n + 2)) 1 6 22 [some (vR (20, 0, 0))] [] (am_W (m + 3))
  refine r_aload_n (x := (20, 0, 0)) dX1_init_22 rfl ?_
  refine r_bipush (v := 6) dX1_init_23 rfl ?_
  refine c_newai (N := 6) na_int (tk_get hk (i := 2) rfl) (tk_get hA (i := 1) rfl) rfl rfl (by decide) rfl (by decide) dX1_init_25 (le_b rfl) (le_b rfl) ?_
  show X l mX1_init 1 4 24 true _ (kA.take (n + 3)) 2 12 27 [some (vR (20, 0, 0))] [vR (22, 0, 0), vR (20, 0, 0)] (am_W (m + 3))
  refine r_putr (x := some (22, 0, 0)) fp_X1_22 (fun _ => rfl) dX1_init_27 (kA_mem (tk_get hk (i := 0) rfl) (by omega)) rfl (lt_b rfl) rfl (fun v => by cases v <;> exact ⟨rfl, rfl⟩) ?_
  refine X_W (W_ur (tk_get hw (i := 3) rfl) rfl rfl rfl) ?_
  show X l mX1_init 1 4 24 true _ (kA.take (n + 3)) 2 12 30 [some (vR (20, 0, 0))] [] (am_W (m + 4))
  refine r_aload_n (x := (20, 0, 0)) dX1_init_30 rfl ?_
  refine r_bipush (v := 6) dX1_init_31 rfl ?_
  refine c_newai (N := 6) na_int (tk_get hk (i := 3) rfl) (tk_get hA (i := 2) rfl) rfl rfl (by decide) rfl (by decide) dX1_init_33 (le_b rfl) (le_b rfl) ?_
  show X l mX1_init 1 4 24 true _ (kA.take (n + 4)) 3 18 35 [some (vR (20, 0, 0))] [vR (23, 0, 0), vR (20, 0, 0)] (am_W (m + 4))
  refine r_putr (x := some (23, 0, 0)) fp_X1_25 (fun _ => rfl) dX1_init_35 (kA_mem (tk_get hk (i := 0) rfl) (by omega)) rfl (lt_b rfl) rfl (fun v => by cases v <;> exact ⟨rfl, rfl⟩) ?_
  refine X_W (W_ur (tk_get hw (i := 4) rfl) rfl rfl rfl) ?_
  show X l mX1_init 1 4 24 true _ (kA.take (n + 4)) 3 18 38 [some (vR (20, 0, 0))] [] (am_W (m + 5))
  refine r_aload_n (x := (20, 0, 0)) dX1_init_38 rfl ?_
  refine r_bipush (v := 6) dX1_init_39 rfl ?_
  refine c_newai (N := 6) na_int (tk_get hk (i := 4) rfl) (tk_get hA (i := 3) rfl) rfl rfl (by decide) rfl (by decide) dX1_init_41 (le_b rfl) (le_b rfl) ?_
  show X l mX1_init 1 4 24 true _ (kA.take (n + 5)) 4 24 43 [some (vR (20, 0, 0))] [vR (24, 0, 0), vR (20, 0, 0)] (am_W (m + 5))
  refine r_putr (x := some (24, 0, 0)) fp_X1_28 (fun _ => rfl) dX1_init_43 (kA_mem (tk_get hk (i := 0) rfl) (by omega)) rfl (lt_b rfl) rfl (fun v => by cases v <;> exact ⟨rfl, rfl⟩) ?_
  refine X_W (W_ur (tk_get hw (i := 5) rfl) rfl rfl rfl) ?_
  show X l mX1_init 1 4 24 true _ (kA.take (n + 5)) 4 24 46 [some (vR (20, 0, 0))] [] (am_W (m + 6))
  exact r_vret dX1_init_46 rfl (le_b rfl) (le_b rfl)

theorem dX5_init_0 : decode cX5_init 0 = .ok (.aload_n 0, 1) := by decide +kernel
theorem dX5_init_1 : decode cX5_init 1 = .ok (.invokespecial 3, 3) := by decide +kernel
theorem dX5_init_4 : decode cX5_init 4 = .ok (.aload_n 0, 1) := by decide +kernel
theorem dX5_init_5 : decode cX5_init 5 = .ok (.bipush 6, 2) := by decide +kernel
theorem dX5_init_7 : decode cX5_init 7 = .ok (.bipush 6, 2) := by decide +kernel
theorem dX5_init_9 : decode cX5_init 9 = .ok (.multianewarray 9 2, 4) := by decide +kernel
theorem dX5_init_13 : decode cX5_init 13 = .ok (.putfield 11, 3) := by decide +kernel
theorem dX5_init_16 : decode cX5_init 16 = .ok (.aload_n 0, 1) := by decide +kernel
theorem dX5_init_17 : decode cX5_init 17 = .ok (.iconst 0, 1) := by decide +kernel
theorem dX5_init_18 : decode cX5_init 18 = .ok (.putfield 16, 3) := by decide +kernel
theorem dX5_init_21 : decode cX5_init 21 = .ok (.return_, 1) := by decide +kernel
set_option maxHeartbeats 4000000 in
set_option maxRecDepth 20000 in
theorem I_X5_init {l : Launch}  {n m : Nat} (hk : (kA.drop n).take 8 = [(25, 0, 0), (26, 0, 0), (27, 0, 0), (27, 0, 1), (27, 0, 2), (27, 0, 3), (27, 0, 4), (27, 0, 5)]) (hA : (AL.drop (n + 1)).take 7 = [m, m, m, m, m, m, m]) (hw : (WL.drop m).take 8 = [((26, 0, 0), 0), ((26, 0, 0), 1), ((26, 0, 0), 2), ((26, 0, 0), 3), ((26, 0, 0), 4), ((26, 0, 0), 5), ((25, 0, 0), 0), ((25, 0, 0), 1)]) : Ev l mX5_init 1 7 42 true [vR (25, 0, 0)] (kA.take (n + 1)) (am_W m) (none, kA.take (n + 8), am_W (m + 8)) := by
  refine Ev_of (by decide +kernel) (le_b rfl) ?_
  show X l mX5_init 1 7 42 true _ (kA.take (n + 1)) 0 0 0 [some (vR (25, 0, 0))] [] (am_W m)
  refine r_aload_n (x := (25, 0, 0)) dX5_init_0 rfl ?_
  refine r_objInit oi_X5_3 oi_b.1 oi_b.2 dX5_init_1 (le_b rfl) (le_b rfl) ?_
  refine r_aload_n (x := (25, 0, 0)) dX5_init_4 rfl ?_
  refine r_bipush (v := 6) dX5_init_5 rfl ?_
  refine r_bipush (v := 6) dX5_init_7 rfl ?_
  refine c_mna (r := (fun j => (27, 0, j))) cl_X5_9 ao_int na_int rfl rfl (tk_get hk (i := 1) rfl) (fun j hj => by rcases (show j = 0 ∨ j = 1 ∨ j = 2 ∨ j = 3 ∨ j = 4 ∨ j = 5 by omega) with rfl | rfl | rfl | rfl | rfl | rfl; exact (tk_get hk (i := 2) rfl); exact (tk_get hk (i := 3) rfl); exact (tk_get hk (i := 4) rfl); exact (tk_get hk (i := 5) rfl); exact (tk_get hk (i := 6) rfl); exact (tk_get hk (i := 7) rfl)) (tk_get hA (i := 0) rfl) (fun j hj => by rcases (show j = 0 ∨ j = 1 ∨ j = 2 ∨ j = 3 ∨ j = 4 ∨ j = 5 by omega) with rfl | rfl | rfl | rfl | rfl | rfl; exact (tk_get hA (i := 1) rfl); exact (tk_get hA (i := 2) rfl); exact (tk_get hA (i := 3) rfl); exact (tk_get hA (i := 4) rfl); exact (tk_get hA (i := 5) rfl); exact (tk_get hA (i := 6) rfl)) rfl rfl (fun j hj => by rcases (show j = 0 ∨ j = 1 ∨ j = 2 ∨ j = 3 ∨ j = 4 ∨ j = 5 by omega) with rfl | rfl | rfl | rfl | rfl | rfl <;> exact ⟨rfl, rfl⟩) (fun j hj => by rcases (show j = 0 ∨ j = 1 ∨ j = 2 ∨ j = 3 ∨ j = 4 ∨ j = 5 by omega) with rfl | rfl | rfl | rfl | rfl | rfl; exact (tk_get hw (i := 0) rfl); exact (tk_get hw (i := 1) rfl); exact (tk_get hw (i := 2) rfl); exact (tk_get hw (i := 3) rfl); exact (tk_get hw (i := 4) rfl); exact (tk_get hw (i := 5) rfl)) (fun j hj => rfl) dX5_init_9 (le_b rfl) (le_b rfl) ?_
  show X l mX5_init 1 7 42 true _ (kA.take (n + 8)) 7 42 13 [some (vR (25, 0, 0))] [vR (26, 0, 0), vR (25, 0, 0)] (am_W (m + 6))
  refine r_putr (x := some (26, 0, 0)) fp_X5_11 (fun _ => rfl) dX5_init_13 (kA_mem (tk_get hk (i := 0) rfl) (by omega)) rfl (lt_b rfl) rfl (fun v => by cases v <;> exact ⟨rfl, rfl⟩) ?_
  refine X_W (W_ur (tk_get hw (i := 6) rfl) rfl rfl rfl) ?_
  show X l mX5_init 1 7 42 true _ (kA.take (n + 8)) 7 42 16 [some (vR (25, 0, 0))] [] (am_W (m + 7))
  refine r_aload_n (x := (25, 0, 0)) dX5_init_16 rfl ?_
  refine r_iconst (v := 0) dX5_init_17 rfl ?_
  refine r_puti fp_X5_16 (fun h => by cases h) dX5_init_18 (kA_mem (tk_get hk (i := 0) rfl) (by omega)) rfl (lt_b rfl) rfl rfl rfl ?_
  refine X_W (W_ui (tk_get hw (i := 7) rfl) rfl rfl rfl) ?_
  show X l mX5_init 1 7 42 true _ (kA.take (n + 8)) 7 42 21 [some (vR (25, 0, 0))] [] (am_W (m + 8))
  exact r_vret dX5_init_21 rfl (le_b rfl) (le_b rfl)

theorem dX4_init_0 : decode cX4_init 0 = .ok (.aload_n 0, 1) := by decide +kernel
theorem dX4_init_1 : decode cX4_init 1 = .ok (.invokespecial 5, 3) := by decide +kernel
theorem dX4_init_4 : decode cX4_init 4 = .ok (.aload_n 0, 1) := by decide +kernel
theorem dX4_init_5 : decode cX4_init 5 = .ok (.lconst 0, 1) := by decide +kernel
theorem dX4_init_6 : decode cX4_init 6 = .ok (.putfield 11, 3) := by decide +kernel
theorem dX4_init_9 : decode cX4_init 9 = .ok (.aload_n 0, 1) := by decide +kernel
theorem dX4_init_10 : decode cX4_init 10 = .ok (.lconst 0, 1) := by decide +kernel
theorem dX4_init_11 : decode cX4_init 11 = .ok (.putfield 15, 3) := by decide +kernel
theorem dX4_init_14 : decode cX4_init 14 = .ok (.aload_n 0, 1) := by decide +kernel
theorem dX4_init_15 : decode cX4_init 15 = .ok (.lconst 1, 1) := by decide +kernel
theorem dX4_init_16 : decode cX4_init 16 = .ok (.putfield 18, 3) := by decide +kernel
theorem dX4_init_19 : decode cX4_init 19 = .ok (.aload_n 0, 1) := by decide +kernel
theorem dX4_init_20 : decode cX4_init 20 = .ok (.new 21, 3) := by decide +kernel
theorem dX4_init_23 : decode cX4_init 23 = .ok (.dup, 1) := by decide +kernel
theorem dX4_init_24 : decode cX4_init 24 = .ok (.invokespecial 23, 3) := by decide +kernel
theorem dX4_init_27 : decode cX4_init 27 = .ok (.putfield 24, 3) := by decide +kernel
theorem dX4_init_30 : decode cX4_init 30 = .ok (.return_, 1) := by decide +kernel
set_option maxHeartbeats 4000000 in
set_option maxRecDepth 20000 in
theorem I_X4_init {l : Launch}  {n m : Nat} (hk : (kA.drop n).take 19 = [(28, 0, 0), (1, 3, 0), (2, 3, 0), (4, 3, 0), (5, 3, 0), (5, 3, 1), (5, 3, 2), (5, 3, 3), (5, 3, 4), (5, 3, 5), (6, 3, 0), (7, 3, 0), (8, 3, 0), (3, 3, 0), (3, 3, 1), (3, 3, 2), (3, 3, 3), (3, 3, 4), (3, 3, 5)]) (hA : (AL.drop (n + 1)).take 18 = [m + 3, m + 4, m + 5, m + 5, m + 5, m + 5, m + 5, m + 5, m + 5, m + 16, m + 17, m + 18, m + 19, m + 29, m + 39, m + 49, m + 59, m + 69]) (hw : (WL.drop m).take 80 = [((28, 0, 0), 0), ((28, 0, 0), 1), ((28, 0, 0), 2), ((1, 3, 0), 0), ((1, 3, 0), 1), ((4, 3, 0), 0), ((4, 3, 0), 1), ((4, 3, 0), 2), ((4, 3, 0), 3), ((4, 3, 0), 4), ((4, 3, 0), 5), ((1, 3, 0), 2), ((1, 3, 0), 3), ((1, 3, 0), 4), ((1, 3, 0), 5), ((1, 3, 0), 6), ((1, 3, 0), 7), ((1, 3, 0), 8), ((1, 3, 0), 9), ((3, 3, 0), 0), ((3, 3, 0), 1), ((3, 3, 0), 2), ((3, 3, 0), 3), ((3, 3, 0), 4), ((3, 3, 0), 5), ((3, 3, 0), 6), ((3, 3, 0), 7), ((3, 3, 0), 8), ((2, 3, 0), 0), ((3, 3, 1), 0), ((3, 3, 1), 1), ((3, 3, 1), 2), ((3, 3, 1), 3), ((3, 3, 1), 4), ((3, 3, 1), 5), ((3, 3, 1), 6), ((3, 3, 1), 7), ((3, 3, 1), 8), ((2, 3, 0), 1), ((3, 3, 2), 0), ((3, 3, 2), 1), ((3, 3, 2), 2), ((3, 3, 2), 3), ((3, 3, 2), 4), ((3, 3, 2), 5), ((3, 3, 2), 6), ((3, 3, 2), 7), ((3, 3, 2), 8), ((2, 3, 0), 2), ((3, 3, 3), 0), ((3, 3, 3), 1), ((3, 3, 3), 2), ((3, 3, 3), 3), ((3, 3, 3), 4), ((3, 3, 3), 5), ((3, 3, 3), 6), ((3, 3, 3), 7), ((3, 3, 3), 8), ((2, 3, 0), 3), ((3, 3, 4), 0), ((3, 3, 4), 1), ((3, 3, 4), 2), ((3, 3, 4), 3), ((3, 3, 4), 4), ((3, 3, 4), 5), ((3, 3, 4), 6), ((3, 3, 4), 7), ((3, 3, 4), 8), ((2, 3, 0), 4), ((3, 3, 5), 0), ((3, 3, 5), 1), ((3, 3, 5), 2), ((3, 3, 5), 3), ((3, 3, 5), 4), ((3, 3, 5), 5), ((3, 3, 5), 6), ((3, 3, 5), 7), ((3, 3, 5), 8), ((2, 3, 0), 5), ((28, 0, 0), 3)]) : Ev l mX4_init 3 18 142 true [vR (28, 0, 0)] (kA.take (n + 1)) (am_W m) (none, kA.take (n + 19), am_W (m + 80)) := by
  refine Ev_of (by decide +kernel) (le_b rfl) ?_
  show X l mX4_init 3 18 142 true _ (kA.take (n + 1)) 0 0 0 [some (vR (28, 0, 0))] [] (am_W m)
  refine r_aload_n (x := (28, 0, 0)) dX4_init_0 rfl ?_
  refine r_objInit oi_X4_5 oi_b.1 oi_b.2 dX4_init_1 (le_b rfl) (le_b rfl) ?_
  refine r_aload_n (x := (28, 0, 0)) dX4_init_4 rfl ?_
  refine r_lconst (v := 0) dX4_init_5 rfl ?_
  refine r_putl fp_X4_11 (fun h => by cases h) dX4_init_6 (kA_mem (tk_get hk (i := 0) rfl) (by omega)) rfl (lt_b rfl) rfl ?_
  refine X_W (W_ul (tk_get hw (i := 0) rfl) rfl rfl rfl) ?_
  show X l mX4_init 3 18 142 true _ (kA.take (n + 1)) 0 0 9 [some (vR (28, 0, 0))] [] (am_W (m + 1))
  refine r_aload_n (x := (28, 0, 0)) dX4_init_9 rfl ?_
  refine r_lconst (v := 0) dX4_init_10 rfl ?_
  refine r_putl fp_X4_15 (fun h => by cases h) dX4_init_11 (kA_mem (tk_get hk (i := 0) rfl) (by omega)) rfl (lt_b rfl) rfl ?_
  refine X_W (W_ul (tk_get hw (i := 1) rfl) rfl rfl rfl) ?_
  show X l mX4_init 3 18 142 true _ (kA.take (n + 1)) 0 0 14 [some (vR (28, 0, 0))] [] (am_W (m + 2))
  refine r_aload_n (x := (28, 0, 0)) dX4_init_14 rfl ?_
  refine r_lconst (v := 1) dX4_init_15 rfl ?_
  refine r_putl fp_X4_18 (fun h => by cases h) dX4_init_16 (kA_mem (tk_get hk (i := 0) rfl) (by omega)) rfl (lt_b rfl) rfl ?_
  refine X_W (W_ul (tk_get hw (i := 2) rfl) rfl rfl rfl) ?_
  show X l mX4_init 3 18 142 true _ (kA.take (n + 1)) 0 0 19 [some (vR (28, 0, 0))] [] (am_W (m + 3))
  refine r_aload_n (x := (28, 0, 0)) dX4_init_19 rfl ?_
  refine c_newo (N := 10) nw_X4_21 (tk_get hk (i := 1) rfl) (tk_get hA (i := 0) rfl) rfl rfl rfl dX4_init_20 (le_b rfl) (le_b rfl) ?_
  show X l mX4_init 3 18 142 true _ (kA.take (n + 2)) 1 10 23 [some (vR (28, 0, 0))] [vR (1, 3, 0), vR (28, 0, 0)] (am_W (m + 3))
  refine r_dup dX4_init_23 rfl ?_
  refine r_callI (as := []) (st := [vR (1, 3, 0), vR (28, 0, 0)]) mw_X4_23 mi_X8_init rfl rfl (I_X8_init (l := l) (v := 3) (n := n + 1) (m := m + 3) (tk_sub hk 1 18 (by decide) rfl) (tk_sub hA 1 17 (by decide) rfl) (tk_sub hw 3 76 (by decide) rfl)) (le_b rfl) dX4_init_24 rfl (le_b rfl) (le_b rfl) (le_b rfl) ?_
  show X l mX4_init 3 18 142 true _ (kA.take (n + 19)) 18 142 27 [some (vR (28, 0, 0))] [vR (1, 3, 0), vR (28, 0, 0)] (am_W (m + 79))
  refine r_putr (x := some (1, 3, 0)) fp_X4_24 (fun _ => rfl) dX4_init_27 (kA_mem (tk_get hk (i := 0) rfl) (by omega)) rfl (lt_b rfl) rfl (fun v => by cases v <;> exact ⟨rfl, rfl⟩) ?_
  refine X_W (W_ur (tk_get hw (i := 79) rfl) rfl rfl rfl) ?_
  show X l mX4_init 3 18 142 true _ (kA.take (n + 19)) 18 142 30 [some (vR (28, 0, 0))] [] (am_W (m + 80))
  exact r_vret dX4_init_30 rfl (le_b rfl) (le_b rfl)

theorem dX0_init_0 : decode cX0_init 0 = .ok (.aload_n 0, 1) := by decide +kernel
theorem dX0_init_1 : decode cX0_init 1 = .ok (.invokespecial 3, 3) := by decide +kernel
theorem dX0_init_4 : decode cX0_init 4 = .ok (.aload_n 0, 1) := by decide +kernel
theorem dX0_init_5 : decode cX0_init 5 = .ok (.iconst 0, 1) := by decide +kernel
theorem dX0_init_6 : decode cX0_init 6 = .ok (.putfield 9, 3) := by decide +kernel
theorem dX0_init_9 : decode cX0_init 9 = .ok (.aload_n 0, 1) := by decide +kernel
theorem dX0_init_10 : decode cX0_init 10 = .ok (.bipush 20, 2) := by decide +kernel
theorem dX0_init_12 : decode cX0_init 12 = .ok (.newarray .int, 2) := by decide +kernel
theorem dX0_init_14 : decode cX0_init 14 = .ok (.putfield 15, 3) := by decide +kernel
theorem dX0_init_17 : decode cX0_init 17 = .ok (.aload_n 0, 1) := by decide +kernel
theorem dX0_init_18 : decode cX0_init 18 = .ok (.iconst 0, 1) := by decide +kernel
theorem dX0_init_19 : decode cX0_init 19 = .ok (.putfield 19, 3) := by decide +kernel
theorem dX0_init_22 : decode cX0_init 22 = .ok (.aload_n 0, 1) := by decide +kernel
theorem dX0_init_23 : decode cX0_init 23 = .ok (.iconst 0, 1) := by decide +kernel
theorem dX0_init_24 : decode cX0_init 24 = .ok (.putfield 22, 3) := by decide +kernel
theorem dX0_init_27 : decode cX0_init 27 = .ok (.aload_n 0, 1) := by decide +kernel
theorem dX0_init_28 : decode cX0_init 28 = .ok (.iconst 0, 1) := by decide +kernel
theorem dX0_init_29 : decode cX0_init 29 = .ok (.putfield 25, 3) := by decide +kernel
theorem dX0_init_32 : decode cX0_init 32 = .ok (.return_, 1) := by decide +kernel
set_option maxHeartbeats 4000000 in
set_option maxRecDepth 20000 in
theorem I_X0_init {l : Launch}  {n m : Nat} (hk : (kA.drop n).take 2 = [(29, 0, 0), (30, 0, 0)]) (hA : (AL.drop (n + 1)).take 1 = [m + 1]) (hw : (WL.drop m).take 5 = [((29, 0, 0), 0), ((29, 0, 0), 1), ((29, 0, 0), 2), ((29, 0, 0), 3), ((29, 0, 0), 4)]) : Ev l mX0_init 1 1 20 true [vR (29, 0, 0)] (kA.take (n + 1)) (am_W m) (none, kA.take (n + 2), am_W (m + 5)) := by
  refine Ev_of (by decide +kernel) (le_b rfl) ?_
  show X l mX0_init 1 1 20 true _ (kA.take (n + 1)) 0 0 0 [some (vR (29, 0, 0))] [] (am_W m)
  refine r_aload_n (x := (29, 0, 0)) dX0_init_0 rfl ?_
  refine r_objInit oi_X0_3 oi_b.1 oi_b.2 dX0_init_1 (le_b rfl) (le_b rfl) ?_
  refine r_aload_n (x := (29, 0, 0)) dX0_init_4 rfl ?_
  refine r_iconst (v := 0) dX0_init_5 rfl ?_
  refine r_puti fp_X0_9 (fun h => by cases h) dX0_init_6 (kA_mem (tk_get hk (i := 0) rfl) (by omega)) rfl (lt_b rfl) rfl rfl rfl ?_
  refine X_W (W_ui (tk_get hw (i := 0) rfl) rfl rfl rfl) ?_
  show X l mX0_init 1 1 20 true _ (kA.take (n + 1)) 0 0 9 [some (vR (29, 0, 0))] [] (am_W (m + 1))
  refine r_aload_n (x := (29, 0, 0)) dX0_init_9 rfl ?_
  refine r_bipush (v := 20) dX0_init_10 rfl ?_
  refine c_newai (N := 20) na_int (tk_get hk (i := 1) rfl) (tk_get hA (i := 0) rfl) rfl rfl (by decide) rfl (by decide) dX0_init_12 (le_b rfl) (le_b rfl) ?_
  show X l mX0_init 1 1 20 true _ (kA.take (n + 2)) 1 20 14 [some (vR (29, 0, 0))] [vR (30, 0, 0), vR (29, 0, 0)] (am_W (m + 1))
  refine r_putr (x := some (30, 0, 0)) fp_X0_15 (fun _ => rfl) dX0_init_14 (kA_mem (tk_get hk (i := 0) rfl) (by omega)) rfl (lt_b rfl) rfl (fun v => by cases v <;> exact ⟨rfl, rfl⟩) ?_
  refine X_W (W_ur (tk_get hw (i := 1) rfl) rfl rfl rfl) ?_
  show X l mX0_init 1 1 20 true _ (kA.take (n + 2)) 1 20 17 [some (vR (29, 0, 0))] [] (am_W (m + 2))
  refine r_aload_n (x := (29, 0, 0)) dX0_init_17 rfl ?_
  refine r_iconst (v := 0) dX0_init_18 rfl ?_
  refine r_puti fp_X0_19 (fun h => by cases h) dX0_init_19 (kA_mem (tk_get hk (i := 0) rfl) (by omega)) rfl (lt_b rfl) rfl rfl rfl ?_
  refine X_W (W_ui (tk_get hw (i := 2) rfl) rfl rfl rfl) ?_
  show X l mX0_init 1 1 20 true _ (kA.take (n + 2)) 1 20 22 [some (vR (29, 0, 0))] [] (am_W (m + 3))
  refine r_aload_n (x := (29, 0, 0)) dX0_init_22 rfl ?_
  refine r_iconst (v := 0) dX0_init_23 rfl ?_
  refine r_puti fp_X0_22 (fun h => by cases h) dX0_init_24 (kA_mem (tk_get hk (i := 0) rfl) (by omega)) rfl (lt_b rfl) rfl rfl rfl ?_
  refine X_W (W_ui (tk_get hw (i := 3) rfl) rfl rfl rfl) ?_
  show X l mX0_init 1 1 20 true _ (kA.take (n + 2)) 1 20 27 [some (vR (29, 0, 0))] [] (am_W (m + 4))
  refine r_aload_n (x := (29, 0, 0)) dX0_init_27 rfl ?_
  refine r_iconst (v := 0) dX0_init_28 rfl ?_
  refine r_puti fp_X0_25 (fun h => by cases h) dX0_init_29 (kA_mem (tk_get hk (i := 0) rfl) (by omega)) rfl (lt_b rfl) rfl rfl rfl ?_
  refine X_W (W_ui (tk_get hw (i := 4) rfl) rfl rfl rfl) ?_
  show X l mX0_init 1 1 20 true _ (kA.take (n + 2)) 1 20 32 [some (vR (29, 0, 0))] [] (am_W (m + 5))
  exact r_vret dX0_init_32 rfl (le_b rfl) (le_b rfl)

theorem dX3_init_0 : decode cX3_init 0 = .ok (.aload_n 0, 1) := by decide +kernel
theorem dX3_init_1 : decode cX3_init 1 = .ok (.invokespecial 3, 3) := by decide +kernel
theorem dX3_init_4 : decode cX3_init 4 = .ok (.aload_n 0, 1) := by decide +kernel
theorem dX3_init_5 : decode cX3_init 5 = .ok (.iconst 0, 1) := by decide +kernel
theorem dX3_init_6 : decode cX3_init 6 = .ok (.putfield 9, 3) := by decide +kernel
theorem dX3_init_9 : decode cX3_init 9 = .ok (.aload_n 0, 1) := by decide +kernel
theorem dX3_init_10 : decode cX3_init 10 = .ok (.iconst 0, 1) := by decide +kernel
theorem dX3_init_11 : decode cX3_init 11 = .ok (.putfield 15, 3) := by decide +kernel
theorem dX3_init_14 : decode cX3_init 14 = .ok (.aload_n 0, 1) := by decide +kernel
theorem dX3_init_15 : decode cX3_init 15 = .ok (.bipush 10, 2) := by decide +kernel
theorem dX3_init_17 : decode cX3_init 17 = .ok (.newarray .int, 2) := by decide +kernel
theorem dX3_init_19 : decode cX3_init 19 = .ok (.putfield 18, 3) := by decide +kernel
theorem dX3_init_22 : decode cX3_init 22 = .ok (.aload_n 0, 1) := by decide +kernel
theorem dX3_init_23 : decode cX3_init 23 = .ok (.bipush 10, 2) := by decide +kernel
theorem dX3_init_25 : decode cX3_init 25 = .ok (.newarray .int, 2) := by decide +kernel
theorem dX3_init_27 : decode cX3_init 27 = .ok (.putfield 22, 3) := by decide +kernel
theorem dX3_init_30 : decode cX3_init 30 = .ok (.aload_n 0, 1) := by decide +kernel
theorem dX3_init_31 : decode cX3_init 31 = .ok (.bipush 10, 2) := by decide +kernel
theorem dX3_init_33 : decode cX3_init 33 = .ok (.newarray .int, 2) := by decide +kernel
theorem dX3_init_35 : decode cX3_init 35 = .ok (.putfield 25, 3) := by decide +kernel
theorem dX3_init_38 : decode cX3_init 38 = .ok (.aload_n 0, 1) := by decide +kernel
theorem dX3_init_39 : decode cX3_init 39 = .ok (.bipush 10, 2) := by decide +kernel
theorem dX3_init_41 : decode cX3_init 41 = .ok (.newarray .int, 2) := by decide +kernel
theorem dX3_init_43 : decode cX3_init 43 = .ok (.putfield 28, 3) := by decide +kernel
theorem dX3_init_46 : decode cX3_init 46 = .ok (.aload_n 0, 1) := by decide +kernel
theorem dX3_init_47 : decode cX3_init 47 = .ok (.bipush 100, 2) := by decide +kernel
theorem dX3_init_49 : decode cX3_init 49 = .ok (.newarray .int, 2) := by decide +kernel
theorem dX3_init_51 : decode cX3_init 51 = .ok (.putfield 31, 3) := by decide +kernel
theorem dX3_init_54 : decode cX3_init 54 = .ok (.aload_n 0, 1) := by decide +kernel
theorem dX3_init_55 : decode cX3_init 55 = .ok (.bipush 100, 2) := by decide +kernel
theorem dX3_init_57 : decode cX3_init 57 = .ok (.newarray .int, 2) := by decide +kernel
theorem dX3_init_59 : decode cX3_init 59 = .ok (.putfield 34, 3) := by decide +kernel
theorem dX3_init_62 : decode cX3_init 62 = .ok (.aload_n 0, 1) := by decide +kernel
theorem dX3_init_63 : decode cX3_init 63 = .ok (.bipush 100, 2) := by decide +kernel
theorem dX3_init_65 : decode cX3_init 65 = .ok (.newarray .int, 2) := by decide +kernel
theorem dX3_init_67 : decode cX3_init 67 = .ok (.putfield 37, 3) := by decide +kernel
theorem dX3_init_70 : decode cX3_init 70 = .ok (.return_, 1) := by decide +kernel
set_option maxHeartbeats 4000000 in
set_option maxRecDepth 20000 in
theorem I_X3_init {l : Launch} {v : Nat} {n m : Nat} (hk : (kA.drop n).take 8 = [(11, v, 0), (12, v, 0), (13, v, 0), (14, v, 0), (15, v, 0), (16, v, 0), (17, v, 0), (18, v, 0)]) (hA : (AL.drop (n + 1)).take 7 = [m + 2, m + 3, m + 4, m + 5, m + 6, m + 7, m + 8]) (hw : (WL.drop m).take 9 = [((11, v, 0), 0), ((11, v, 0), 1), ((11, v, 0), 2), ((11, v, 0), 3), ((11, v, 0), 4), ((11, v, 0), 5), ((11, v, 0), 6), ((11, v, 0), 7), ((11, v, 0), 8)]) : Ev l mX3_init 1 7 340 true [vR (11, v, 0)] (kA.take (n + 1)) (am_W m) (none, kA.take (n + 8), am_W (m + 9)) := by
  refine Ev_of (by decide +kernel) (le_b rfl) ?_
  show X l mX3_init 1 7 340 true _ (kA.take (n + 1)) 0 0 0 [some (vR (11, v, 0))] [] (am_W m)
  refine r_aload_n (x := (11, v, 0)) dX3_init_0 rfl ?_
  refine r_objInit oi_X3_3 oi_b.1 oi_b.2 dX3_init_1 (le_b rfl) (le_b rfl) ?_
  refine r_aload_n (x := (11, v, 0)) dX3_init_4 rfl ?_
  refine r_iconst (v := 0) dX3_init_5 rfl ?_
  refine r_puti fp_X3_9 (fun h => by cases h) dX3_init_6 (kA_mem (tk_get hk (i := 0) rfl) (by omega)) rfl (lt_b rfl) rfl rfl rfl ?_
  refine X_W (W_ui (tk_get hw (i := 0) rfl) rfl rfl rfl) ?_
  show X l mX3_init 1 7 340 true _ (kA.take (n + 1)) 0 0 9 [some (vR (11, v, 0))] [] (am_W (m + 1))
  refine r_aload_n (x := (11, v, 0)) dX3_init_9 rfl ?_
  refine r_iconst (v := 0) dX3_init_10 rfl ?_
  refine r_puti fp_X3_15 (fun h => by cases h) dX3_init_11 (kA_mem (tk_get hk (i := 0) rfl) (by omega)) rfl (lt_b rfl) rfl rfl rfl ?_
  refine X_W (W_ui (tk_get hw (i := 1) rfl) rfl rfl rfl) ?_
  show X l mX3_init 1 7 340 true _ (kA.take (n + 1)) 0 0 14 [some (vR (11, v, 0))] [] (am_W (m + 2))
  refine r_aload_n (x := (11, v, 0)) dX3_init_14 rfl ?_
  refine r_bipush (v := 10) dX3_init_15 rfl ?_
  refine c_newai (N := 10) na_int (tk_get hk (i := 1) rfl) (tk_get hA (i := 0) rfl) rfl rfl (by decide) rfl (by decide) dX3_init_17 (le_b rfl) (le_b rfl) ?_
  show X l mX3_init 1 7 340 true _ (kA.take (n + 2)) 1 10 19 [some (vR (11, v, 0))] [vR (12, v, 0), vR (11, v, 0)] (am_W (m + 2))
  refine r_putr (x := some (12, v, 0)) fp_X3_18 (fun _ => rfl) dX3_init_19 (kA_mem (tk_get hk (i := 0) rfl) (by omega)) rfl (lt_b rfl) rfl (fun v => by cases v <;> exact ⟨rfl, rfl⟩) ?_
  refine X_W (W_ur (tk_get hw (i := 2) rfl) rfl rfl rfl) ?_
  show X l mX3_init 1 7 340 true _ (kA.take (n + 2)) 1 10 22 [some (vR (11, v, 0))] [] (am_W (m + 3))
  refine r_aload_n (x := (11, v, 0)) dX3_init_22 rfl ?_
  refine r_bipush (v := 10) dX3_init_23 rfl ?_
  refine c_newai (N := 10) na_int (tk_get hk (i := 2) rfl) (tk_get hA (i := 1) rfl) rfl rfl (by decide) rfl (by decide) dX3_init_25 (le_b rfl) (le_b rfl) ?_
  show X l mX3_init 1 7 340 true _ (kA.take (n + 3)) 2 20 27 [some (vR (11, v, 0))] [vR (13, v, 0), vR (11, v, 0)] (am_W (m + 3))
  refine r_putr (x := some (13, v, 0)) fp_X3_22 (fun _ => rfl) dX3_init_27 (kA_mem (tk_get hk (i := 0) rfl) (by omega)) rfl (lt_b rfl) rfl (fun v => by cases v <;> exact ⟨rfl, rfl⟩) ?_
  refine X_W (W_ur (tk_get hw (i := 3) rfl) rfl rfl rfl) ?_
  show X l mX3_init 1 7 340 true _ (kA.take (n + 3)) 2 20 30 [some (vR (11, v, 0))] [] (am_W (m + 4))
  refine r_aload_n (x := (11, v, 0)) dX3_init_30 rfl ?_
  refine r_bipush (v := 10) dX3_init_31 rfl ?_
  refine c_newai (N := 10) na_int (tk_get hk (i := 3) rfl) (tk_get hA (i := 2) rfl) rfl rfl (by decide) rfl (by decide) dX3_init_33 (le_b rfl) (le_b rfl) ?_
  show X l mX3_init 1 7 340 true _ (kA.take (n + 4)) 3 30 35 [some (vR (11, v, 0))] [vR (14, v, 0), vR (11, v, 0)] (am_W (m + 4))
  refine r_putr (x := some (14, v, 0)) fp_X3_25 (fun _ => rfl) dX3_init_35 (kA_mem (tk_get hk (i := 0) rfl) (by omega)) rfl (lt_b rfl) rfl (fun v => by cases v <;> exact ⟨rfl, rfl⟩) ?_
  refine X_W (W_ur (tk_get hw (i := 4) rfl) rfl rfl rfl) ?_
  show X l mX3_init 1 7 340 true _ (kA.take (n + 4)) 3 30 38 [some (vR (11, v, 0))] [] (am_W (m + 5))
  refine r_aload_n (x := (11, v, 0)) dX3_init_38 rfl ?_
  refine r_bipush (v := 10) dX3_init_39 rfl ?_
  refine c_newai (N := 10) na_int (tk_get hk (i := 4) rfl) (tk_get hA (i := 3) rfl) rfl rfl (by decide) rfl (by decide) dX3_init_41 (le_b rfl) (le_b rfl) ?_
  show X l mX3_init 1 7 340 true _ (kA.take (n + 5)) 4 40 43 [some (vR (11, v, 0))] [vR (15, v, 0), vR (11, v, 0)] (am_W (m + 5))
  refine r_putr (x := some (15, v, 0)) fp_X3_28 (fun _ => rfl) dX3_init_43 (kA_mem (tk_get hk (i := 0) rfl) (by omega)) rfl (lt_b rfl) rfl (fun v => by cases v <;> exact ⟨rfl, rfl⟩) ?_
  refine X_W (W_ur (tk_get hw (i := 5) rfl) rfl rfl rfl) ?_
  show X l mX3_init 1 7 340 true _ (kA.take (n + 5)) 4 40 46 [some (vR (11, v, 0))] [] (am_W (m + 6))
  refine r_aload_n (x := (11, v, 0)) dX3_init_46 rfl ?_
  refine r_bipush (v := 100) dX3_init_47 rfl ?_
  refine c_newai (N := 100) na_int (tk_get hk (i := 5) rfl) (tk_get hA (i := 4) rfl) rfl rfl (by decide) rfl (by decide) dX3_init_49 (le_b rfl) (le_b rfl) ?_
  show X l mX3_init 1 7 340 true _ (kA.take (n + 6)) 5 140 51 [some (vR (11, v, 0))] [vR (16, v, 0), vR (11, v, 0)] (am_W (m + 6))
  refine r_putr (x := some (16, v, 0)) fp_X3_31 (fun _ => rfl) dX3_init_51 (kA_mem (tk_get hk (i := 0) rfl) (by omega)) rfl (lt_b rfl) rfl (fun v => by cases v <;> exact ⟨rfl, rfl⟩) ?_
  refine X_W (W_ur (tk_get hw (i := 6) rfl) rfl rfl rfl) ?_
  show X l mX3_init 1 7 340 true _ (kA.take (n + 6)) 5 140 54 [some (vR (11, v, 0))] [] (am_W (m + 7))
  refine r_aload_n (x := (11, v, 0)) dX3_init_54 rfl ?_
  refine r_bipush (v := 100) dX3_init_55 rfl ?_
  refine c_newai (N := 100) na_int (tk_get hk (i := 6) rfl) (tk_get hA (i := 5) rfl) rfl rfl (by decide) rfl (by decide) dX3_init_57 (le_b rfl) (le_b rfl) ?_
  show X l mX3_init 1 7 340 true _ (kA.take (n + 7)) 6 240 59 [some (vR (11, v, 0))] [vR (17, v, 0), vR (11, v, 0)] (am_W (m + 7))
  refine r_putr (x := some (17, v, 0)) fp_X3_34 (fun _ => rfl) dX3_init_59 (kA_mem (tk_get hk (i := 0) rfl) (by omega)) rfl (lt_b rfl) rfl (fun v => by cases v <;> exact ⟨rfl, rfl⟩) ?_
  refine X_W (W_ur (tk_get hw (i := 7) rfl) rfl rfl rfl) ?_
  show X l mX3_init 1 7 340 true _ (kA.take (n + 7)) 6 240 62 [some (vR (11, v, 0))] [] (am_W (m + 8))
  refine r_aload_n (x := (11, v, 0)) dX3_init_62 rfl ?_
  refine r_bipush (v := 100) dX3_init_63 rfl ?_
  refine c_newai (N := 100) na_int (tk_get hk (i := 7) rfl) (tk_get hA (i := 6) rfl) rfl rfl (by decide) rfl (by decide) dX3_init_65 (le_b rfl) (le_b rfl) ?_
  show X l mX3_init 1 7 340 true _ (kA.take (n + 8)) 7 340 67 [some (vR (11, v, 0))] [vR (18, v, 0), vR (11, v, 0)] (am_W (m + 8))
  refine r_putr (x := some (18, v, 0)) fp_X3_37 (fun _ => rfl) dX3_init_67 (kA_mem (tk_get hk (i := 0) rfl) (by omega)) rfl (lt_b rfl) rfl (fun v => by cases v <;> exact ⟨rfl, rfl⟩) ?_
  refine X_W (W_ur (tk_get hw (i := 8) rfl) rfl rfl rfl) ?_
  show X l mX3_init 1 7 340 true _ (kA.take (n + 8)) 7 340 70 [some (vR (11, v, 0))] [] (am_W (m + 9))
  exact r_vret dX3_init_70 rfl (le_b rfl) (le_b rfl)

theorem dX7_init_0 : decode cX7_init 0 = .ok (.aload_n 0, 1) := by decide +kernel
theorem dX7_init_1 : decode cX7_init 1 = .ok (.invokespecial 3, 3) := by decide +kernel
theorem dX7_init_4 : decode cX7_init 4 = .ok (.aload_n 0, 1) := by decide +kernel
theorem dX7_init_5 : decode cX7_init 5 = .ok (.iconst (-1), 1) := by decide +kernel
theorem dX7_init_6 : decode cX7_init 6 = .ok (.putfield 9, 3) := by decide +kernel
theorem dX7_init_9 : decode cX7_init 9 = .ok (.aload_n 0, 1) := by decide +kernel
theorem dX7_init_10 : decode cX7_init 10 = .ok (.iconst 0, 1) := by decide +kernel
theorem dX7_init_11 : decode cX7_init 11 = .ok (.putfield 15, 3) := by decide +kernel
theorem dX7_init_14 : decode cX7_init 14 = .ok (.aload_n 0, 1) := by decide +kernel
theorem dX7_init_15 : decode cX7_init 15 = .ok (.bipush 60, 2) := by decide +kernel
theorem dX7_init_17 : decode cX7_init 17 = .ok (.newarray .long, 2) := by decide +kernel
theorem dX7_init_19 : decode cX7_init 19 = .ok (.putfield 18, 3) := by decide +kernel
theorem dX7_init_22 : decode cX7_init 22 = .ok (.return_, 1) := by decide +kernel
set_option maxHeartbeats 4000000 in
set_option maxRecDepth 20000 in
theorem I_X7_init {l : Launch} {v : Nat} {n m : Nat} (hk : (kA.drop n).take 2 = [(32, v, 0), (33, v, 0)]) (hA : (AL.drop (n + 1)).take 1 = [m + 2]) (hw : (WL.drop m).take 3 = [((32, v, 0), 0), ((32, v, 0), 1), ((32, v, 0), 2)]) : Ev l mX7_init 1 1 60 true [vR (32, v, 0)] (kA.take (n + 1)) (am_W m) (none, kA.take (n + 2), am_W (m + 3)) := by
  refine Ev_of (by decide +kernel) (le_b rfl) ?_
  show X l mX7_init 1 1 60 true _ (kA.take (n + 1)) 0 0 0 [some (vR (32, v, 0))] [] (am_W m)
  refine r_aload_n (x := (32, v, 0)) dX7_init_0 rfl ?_
  refine r_objInit oi_X7_3 oi_b.1 oi_b.2 dX7_init_1 (le_b rfl) (le_b rfl) ?_
  refine r_aload_n (x := (32, v, 0)) dX7_init_4 rfl ?_
  refine r_iconst (v := -1) dX7_init_5 rfl ?_
  refine r_puti fp_X7_9 (fun h => by cases h) dX7_init_6 (kA_mem (tk_get hk (i := 0) rfl) (by omega)) rfl (lt_b rfl) rfl rfl rfl ?_
  refine X_W (W_ui (tk_get hw (i := 0) rfl) rfl rfl rfl) ?_
  show X l mX7_init 1 1 60 true _ (kA.take (n + 1)) 0 0 9 [some (vR (32, v, 0))] [] (am_W (m + 1))
  refine r_aload_n (x := (32, v, 0)) dX7_init_9 rfl ?_
  refine r_iconst (v := 0) dX7_init_10 rfl ?_
  refine r_puti fp_X7_15 (fun h => by cases h) dX7_init_11 (kA_mem (tk_get hk (i := 0) rfl) (by omega)) rfl (lt_b rfl) rfl rfl rfl ?_
  refine X_W (W_ui (tk_get hw (i := 1) rfl) rfl rfl rfl) ?_
  show X l mX7_init 1 1 60 true _ (kA.take (n + 1)) 0 0 14 [some (vR (32, v, 0))] [] (am_W (m + 2))
  refine r_aload_n (x := (32, v, 0)) dX7_init_14 rfl ?_
  refine r_bipush (v := 60) dX7_init_15 rfl ?_
  refine c_newal (N := 60) na_long (tk_get hk (i := 1) rfl) (tk_get hA (i := 0) rfl) rfl rfl (by decide) rfl (by decide) dX7_init_17 (le_b rfl) (le_b rfl) ?_
  show X l mX7_init 1 1 60 true _ (kA.take (n + 2)) 1 60 19 [some (vR (32, v, 0))] [vR (33, v, 0), vR (32, v, 0)] (am_W (m + 2))
  refine r_putr (x := some (33, v, 0)) fp_X7_18 (fun _ => rfl) dX7_init_19 (kA_mem (tk_get hk (i := 0) rfl) (by omega)) rfl (lt_b rfl) rfl (fun v => by cases v <;> exact ⟨rfl, rfl⟩) ?_
  refine X_W (W_ur (tk_get hw (i := 2) rfl) rfl rfl rfl) ?_
  show X l mX7_init 1 1 60 true _ (kA.take (n + 2)) 1 60 22 [some (vR (32, v, 0))] [] (am_W (m + 3))
  exact r_vret dX7_init_22 rfl (le_b rfl) (le_b rfl)

theorem dX9_init_0 : decode cX9_init 0 = .ok (.aload_n 0, 1) := by decide +kernel
theorem dX9_init_1 : decode cX9_init 1 = .ok (.invokespecial 5, 3) := by decide +kernel
theorem dX9_init_4 : decode cX9_init 4 = .ok (.aload_n 0, 1) := by decide +kernel
theorem dX9_init_5 : decode cX9_init 5 = .ok (.new 11, 3) := by decide +kernel
theorem dX9_init_8 : decode cX9_init 8 = .ok (.dup, 1) := by decide +kernel
theorem dX9_init_9 : decode cX9_init 9 = .ok (.invokespecial 13, 3) := by decide +kernel
theorem dX9_init_12 : decode cX9_init 12 = .ok (.putfield 14, 3) := by decide +kernel
theorem dX9_init_15 : decode cX9_init 15 = .ok (.aload_n 0, 1) := by decide +kernel
theorem dX9_init_16 : decode cX9_init 16 = .ok (.new 11, 3) := by decide +kernel
theorem dX9_init_19 : decode cX9_init 19 = .ok (.dup, 1) := by decide +kernel
theorem dX9_init_20 : decode cX9_init 20 = .ok (.invokespecial 13, 3) := by decide +kernel
theorem dX9_init_23 : decode cX9_init 23 = .ok (.putfield 18, 3) := by decide +kernel
theorem dX9_init_26 : decode cX9_init 26 = .ok (.aload_n 0, 1) := by decide +kernel
theorem dX9_init_27 : decode cX9_init 27 = .ok (.new 11, 3) := by decide +kernel
theorem dX9_init_30 : decode cX9_init 30 = .ok (.dup, 1) := by decide +kernel
theorem dX9_init_31 : decode cX9_init 31 = .ok (.invokespecial 13, 3) := by decide +kernel
theorem dX9_init_34 : decode cX9_init 34 = .ok (.putfield 21, 3) := by decide +kernel
theorem dX9_init_37 : decode cX9_init 37 = .ok (.aload_n 0, 1) := by decide +kernel
theorem dX9_init_38 : decode cX9_init 38 = .ok (.iconst 0, 1) := by decide +kernel
theorem dX9_init_39 : decode cX9_init 39 = .ok (.putfield 24, 3) := by decide +kernel
theorem dX9_init_42 : decode cX9_init 42 = .ok (.aload_n 0, 1) := by decide +kernel
theorem dX9_init_43 : decode cX9_init 43 = .ok (.new 28, 3) := by decide +kernel
theorem dX9_init_46 : decode cX9_init 46 = .ok (.dup, 1) := by decide +kernel
theorem dX9_init_47 : decode cX9_init 47 = .ok (.invokespecial 30, 3) := by decide +kernel
theorem dX9_init_50 : decode cX9_init 50 = .ok (.putfield 31, 3) := by decide +kernel
theorem dX9_init_53 : decode cX9_init 53 = .ok (.aload_n 0, 1) := by decide +kernel
theorem dX9_init_54 : decode cX9_init 54 = .ok (.iconst 5, 1) := by decide +kernel
theorem dX9_init_55 : decode cX9_init 55 = .ok (.anewarray 35, 3) := by decide +kernel
theorem dX9_init_58 : decode cX9_init 58 = .ok (.putfield 37, 3) := by decide +kernel
theorem dX9_init_61 : decode cX9_init 61 = .ok (.aload_n 0, 1) := by decide +kernel
theorem dX9_init_62 : decode cX9_init 62 = .ok (.iconst 0, 1) := by decide +kernel
theorem dX9_init_63 : decode cX9_init 63 = .ok (.putfield 41, 3) := by decide +kernel
theorem dX9_init_66 : decode cX9_init 66 = .ok (.aload_n 0, 1) := by decide +kernel
theorem dX9_init_67 : decode cX9_init 67 = .ok (.new 45, 3) := by decide +kernel
theorem dX9_init_70 : decode cX9_init 70 = .ok (.dup, 1) := by decide +kernel
theorem dX9_init_71 : decode cX9_init 71 = .ok (.invokespecial 47, 3) := by decide +kernel
theorem dX9_init_74 : decode cX9_init 74 = .ok (.putfield 48, 3) := by decide +kernel
theorem dX9_init_77 : decode cX9_init 77 = .ok (.aload_n 0, 1) := by decide +kernel
theorem dX9_init_78 : decode cX9_init 78 = .ok (.new 52, 3) := by decide +kernel
theorem dX9_init_81 : decode cX9_init 81 = .ok (.dup, 1) := by decide +kernel
theorem dX9_init_82 : decode cX9_init 82 = .ok (.invokespecial 54, 3) := by decide +kernel
theorem dX9_init_85 : decode cX9_init 85 = .ok (.putfield 55, 3) := by decide +kernel
theorem dX9_init_88 : decode cX9_init 88 = .ok (.aload_n 0, 1) := by decide +kernel
theorem dX9_init_89 : decode cX9_init 89 = .ok (.new 59, 3) := by decide +kernel
theorem dX9_init_92 : decode cX9_init 92 = .ok (.dup, 1) := by decide +kernel
theorem dX9_init_93 : decode cX9_init 93 = .ok (.invokespecial 61, 3) := by decide +kernel
theorem dX9_init_96 : decode cX9_init 96 = .ok (.putfield 62, 3) := by decide +kernel
theorem dX9_init_99 : decode cX9_init 99 = .ok (.aload_n 0, 1) := by decide +kernel
theorem dX9_init_100 : decode cX9_init 100 = .ok (.new 66, 3) := by decide +kernel
theorem dX9_init_103 : decode cX9_init 103 = .ok (.dup, 1) := by decide +kernel
theorem dX9_init_104 : decode cX9_init 104 = .ok (.invokespecial 68, 3) := by decide +kernel
theorem dX9_init_107 : decode cX9_init 107 = .ok (.putfield 69, 3) := by decide +kernel
theorem dX9_init_110 : decode cX9_init 110 = .ok (.aload_n 0, 1) := by decide +kernel
theorem dX9_init_111 : decode cX9_init 111 = .ok (.bipush 6, 2) := by decide +kernel
theorem dX9_init_113 : decode cX9_init 113 = .ok (.anewarray 73, 3) := by decide +kernel
theorem dX9_init_116 : decode cX9_init 116 = .ok (.putfield 75, 3) := by decide +kernel
theorem dX9_init_119 : decode cX9_init 119 = .ok (.iconst 0, 1) := by decide +kernel
theorem dX9_init_120 : decode cX9_init 120 = .ok (.istore_n 1, 1) := by decide +kernel
theorem dX9_init_121 : decode cX9_init 121 = .ok (.iload_n 1, 1) := by decide +kernel
theorem dX9_init_122 : decode cX9_init 122 = .ok (.iconst 5, 1) := by decide +kernel
theorem dX9_init_123 : decode cX9_init 123 = .ok (.if_icmp .ge 22, 3) := by decide +kernel
theorem dX9_init_126 : decode cX9_init 126 = .ok (.aload_n 0, 1) := by decide +kernel
theorem dX9_init_127 : decode cX9_init 127 = .ok (.getfield 37, 3) := by decide +kernel
theorem dX9_init_130 : decode cX9_init 130 = .ok (.iload_n 1, 1) := by decide +kernel
theorem dX9_init_131 : decode cX9_init 131 = .ok (.new 35, 3) := by decide +kernel
theorem dX9_init_134 : decode cX9_init 134 = .ok (.dup, 1) := by decide +kernel
theorem dX9_init_135 : decode cX9_init 135 = .ok (.invokespecial 79, 3) := by decide +kernel
theorem dX9_init_138 : decode cX9_init 138 = .ok (.aastore, 1) := by decide +kernel
theorem dX9_init_139 : decode cX9_init 139 = .ok (.iinc 1 1, 3) := by decide +kernel
theorem dX9_init_142 : decode cX9_init 142 = .ok (.goto (-21), 3) := by decide +kernel
theorem dX9_init_145 : decode cX9_init 145 = .ok (.iconst 0, 1) := by decide +kernel
theorem dX9_init_146 : decode cX9_init 146 = .ok (.istore_n 1, 1) := by decide +kernel
theorem dX9_init_147 : decode cX9_init 147 = .ok (.iload_n 1, 1) := by decide +kernel
theorem dX9_init_148 : decode cX9_init 148 = .ok (.bipush 6, 2) := by decide +kernel
theorem dX9_init_150 : decode cX9_init 150 = .ok (.if_icmp .ge 22, 3) := by decide +kernel
theorem dX9_init_153 : decode cX9_init 153 = .ok (.aload_n 0, 1) := by decide +kernel
theorem dX9_init_154 : decode cX9_init 154 = .ok (.getfield 75, 3) := by decide +kernel
theorem dX9_init_157 : decode cX9_init 157 = .ok (.iload_n 1, 1) := by decide +kernel
theorem dX9_init_158 : decode cX9_init 158 = .ok (.new 73, 3) := by decide +kernel
theorem dX9_init_161 : decode cX9_init 161 = .ok (.dup, 1) := by decide +kernel
theorem dX9_init_162 : decode cX9_init 162 = .ok (.invokespecial 80, 3) := by decide +kernel
theorem dX9_init_165 : decode cX9_init 165 = .ok (.aastore, 1) := by decide +kernel
theorem dX9_init_166 : decode cX9_init 166 = .ok (.iinc 1 1, 3) := by decide +kernel
theorem dX9_init_169 : decode cX9_init 169 = .ok (.goto (-22), 3) := by decide +kernel
theorem dX9_init_172 : decode cX9_init 172 = .ok (.return_, 1) := by decide +kernel
set_option maxHeartbeats 4000000 in
set_option maxRecDepth 20000 in
theorem I_X9_init {l : Launch}  {n m : Nat} (hk : (kA.drop n).take 145 = [(0, 0, 0), (1, 0, 0), (2, 0, 0), (4, 0, 0), (5, 0, 0), (5, 0, 1), (5, 0, 2), (5, 0, 3), (5, 0, 4), (5, 0, 5), (6, 0, 0), (7, 0, 0), (8, 0, 0), (3, 0, 0), (3, 0, 1), (3, 0, 2), (3, 0, 3), (3, 0, 4), (3, 0, 5), (1, 1, 0), (2, 1, 0), (4, 1, 0), (5, 1, 0), (5, 1, 1), (5, 1, 2), (5, 1, 3), (5, 1, 4), (5, 1, 5), (6, 1, 0), (7, 1, 0), (8, 1, 0), (3, 1, 0), (3, 1, 1), (3, 1, 2), (3, 1, 3), (3, 1, 4), (3, 1, 5), (1, 2, 0), (2, 2, 0), (4, 2, 0), (5, 2, 0), (5, 2, 1), (5, 2, 2), (5, 2, 3), (5, 2, 4), (5, 2, 5), (6, 2, 0), (7, 2, 0), (8, 2, 0), (3, 2, 0), (3, 2, 1), (3, 2, 2), (3, 2, 3), (3, 2, 4), (3, 2, 5), (9, 0, 0), (10, 0, 0), (19, 0, 0), (20, 0, 0), (21, 0, 0), (22, 0, 0), (23, 0, 0), (24, 0, 0), (25, 0, 0), (26, 0, 0), (27, 0, 0), (27, 0, 1), (27, 0, 2), (27, 0, 3), (27, 0, 4), (27, 0, 5), (28, 0, 0), (1, 3, 0), (2, 3, 0), (4, 3, 0), (5, 3, 0), (5, 3, 1), (5, 3, 2), (5, 3, 3), (5, 3, 4), (5, 3, 5), (6, 3, 0), (7, 3, 0), (8, 3, 0), (3, 3, 0), (3, 3, 1), (3, 3, 2), (3, 3, 3), (3, 3, 4), (3, 3, 5), (29, 0, 0), (30, 0, 0), (31, 0, 0), (11, 0, 0), (12, 0, 0), (13, 0, 0), (14, 0, 0), (15, 0, 0), (16, 0, 0), (17, 0, 0), (18, 0, 0), (11, 1, 0), (12, 1, 0), (13, 1, 0), (14, 1, 0), (15, 1, 0), (16, 1, 0), (17, 1, 0), (18, 1, 0), (11, 2, 0), (12, 2, 0), (13, 2, 0), (14, 2, 0), (15, 2, 0), (16, 2, 0), (17, 2, 0), (18, 2, 0), (11, 3, 0), (12, 3, 0), (13, 3, 0), (14, 3, 0), (15, 3, 0), (16, 3, 0), (17, 3, 0), (18, 3, 0), (11, 4, 0), (12, 4, 0), (13, 4, 0), (14, 4, 0), (15, 4, 0), (16, 4, 0), (17, 4, 0), (18, 4, 0), (32, 0, 0), (33, 0, 0), (32, 1, 0), (33, 1, 0), (32, 2, 0), (33, 2, 0), (32, 3, 0), (33, 3, 0), (32, 4, 0), (33, 4, 0), (32, 5, 0), (33, 5, 0)]) (hA : (AL.drop (n + 1)).take 144 = [m, m + 1, m + 2, m + 2, m + 2, m + 2, m + 2, m + 2, m + 2, m + 13, m + 14, m + 15, m + 16, m + 26, m + 36, m + 46, m + 56, m + 66, m + 77, m + 78, m + 79, m + 79, m + 79, m + 79, m + 79, m + 79, m + 79, m + 90, m + 91, m + 92, m + 93, m + 103, m + 113, m + 123, m + 133, m + 143, m + 154, m + 155, m + 156, m + 156, m + 156, m + 156, m + 156, m + 156, m + 156, m + 167, m + 168, m + 169, m + 170, m + 180, m + 190, m + 200, m + 210, m + 220, m + 232, m + 232, m + 237, m + 239, m + 241, m + 242, m + 243, m + 244, m + 246, m + 246, m + 246, m + 246, m + 246, m + 246, m + 246, m + 246, m + 255, m + 258, m + 259, m + 260, m + 260, m + 260, m + 260, m + 260, m + 260, m + 260, m + 271, m + 272, m + 273, m + 274, m + 284, m + 294, m + 304, m + 314, m + 324, m + 336, m + 337, m + 342, m + 343, m + 345, m + 346, m + 347, m + 348, m + 349, m + 350, m + 351, m + 353, m + 355, m + 356, m + 357, m + 358, m + 359, m + 360, m + 361, m + 363, m + 365, m + 366, m + 367, m + 368, m + 369, m + 370, m + 371, m + 373, m + 375, m + 376, m + 377, m + 378, m + 379, m + 380, m + 381, m + 383, m + 385, m + 386, m + 387, m + 388, m + 389, m + 390, m + 391, m + 393, m + 395, m + 397, m + 399, m + 401, m + 403, m + 405, m + 407, m + 409, m + 411, m + 413, m + 415]) (hw : (WL.drop m).take 417 = [((1, 0, 0), 0), ((1, 0, 0), 1), ((4, 0, 0), 0), ((4, 0, 0), 1), ((4, 0, 0), 2), ((4, 0, 0), 3), ((4, 0, 0), 4), ((4, 0, 0), 5), ((1, 0, 0), 2), ((1, 0, 0), 3), ((1, 0, 0), 4), ((1, 0, 0), 5), ((1, 0, 0), 6), ((1, 0, 0), 7), ((1, 0, 0), 8), ((1, 0, 0), 9), ((3, 0, 0), 0), ((3, 0, 0), 1), ((3, 0, 0), 2), ((3, 0, 0), 3), ((3, 0, 0), 4), ((3, 0, 0), 5), ((3, 0, 0), 6), ((3, 0, 0), 7), ((3, 0, 0), 8), ((2, 0, 0), 0), ((3, 0, 1), 0), ((3, 0, 1), 1), ((3, 0, 1), 2), ((3, 0, 1), 3), ((3, 0, 1), 4), ((3, 0, 1), 5), ((3, 0, 1), 6), ((3, 0, 1), 7), ((3, 0, 1), 8), ((2, 0, 0), 1), ((3, 0, 2), 0), ((3, 0, 2), 1), ((3, 0, 2), 2), ((3, 0, 2), 3), ((3, 0, 2), 4), ((3, 0, 2), 5), ((3, 0, 2), 6), ((3, 0, 2), 7), ((3, 0, 2), 8), ((2, 0, 0), 2), ((3, 0, 3), 0), ((3, 0, 3), 1), ((3, 0, 3), 2), ((3, 0, 3), 3), ((3, 0, 3), 4), ((3, 0, 3), 5), ((3, 0, 3), 6), ((3, 0, 3), 7), ((3, 0, 3), 8), ((2, 0, 0), 3), ((3, 0, 4), 0), ((3, 0, 4), 1), ((3, 0, 4), 2), ((3, 0, 4), 3), ((3, 0, 4), 4), ((3, 0, 4), 5), ((3, 0, 4), 6), ((3, 0, 4), 7), ((3, 0, 4), 8), ((2, 0, 0), 4), ((3, 0, 5), 0), ((3, 0, 5), 1), ((3, 0, 5), 2), ((3, 0, 5), 3), ((3, 0, 5), 4), ((3, 0, 5), 5), ((3, 0, 5), 6), ((3, 0, 5), 7), ((3, 0, 5), 8), ((2, 0, 0), 5), ((0, 0, 0), 0), ((1, 1, 0), 0), ((1, 1, 0), 1), ((4, 1, 0), 0), ((4, 1, 0), 1), ((4, 1, 0), 2), ((4, 1, 0), 3), ((4, 1, 0), 4), ((4, 1, 0), 5), ((1, 1, 0), 2), ((1, 1, 0), 3), ((1, 1, 0), 4), ((1, 1, 0), 5), ((1, 1, 0), 6), ((1, 1, 0), 7), ((1, 1, 0), 8), ((1, 1, 0), 9), ((3, 1, 0), 0), ((3, 1, 0), 1), ((3, 1, 0), 2), ((3, 1, 0), 3), ((3, 1, 0), 4), ((3, 1, 0), 5), ((3, 1, 0), 6), ((3, 1, 0), 7), ((3, 1, 0), 8), ((2, 1, 0), 0), ((3, 1, 1), 0), ((3, 1, 1), 1), ((3, 1, 1), 2), ((3, 1, 1), 3), ((3, 1, 1), 4), ((3, 1, 1), 5), ((3, 1, 1), 6), ((3, 1, 1), 7), ((3, 1, 1), 8), ((2, 1, 0), 1), ((3, 1, 2), 0), ((3, 1, 2), 1), ((3, 1, 2), 2), ((3, 1, 2), 3), ((3, 1, 2), 4), ((3, 1, 2), 5), ((3, 1, 2), 6), ((3, 1, 2), 7), ((3, 1, 2), 8), ((2, 1, 0), 2), ((3, 1, 3), 0), ((3, 1, 3), 1), ((3, 1, 3), 2), ((3, 1, 3), 3), ((3, 1, 3), 4), ((3, 1, 3), 5), ((3, 1, 3), 6), ((3, 1, 3), 7), ((3, 1, 3), 8), ((2, 1, 0), 3), ((3, 1, 4), 0), ((3, 1, 4), 1), ((3, 1, 4), 2), ((3, 1, 4), 3), ((3, 1, 4), 4), ((3, 1, 4), 5), ((3, 1, 4), 6), ((3, 1, 4), 7), ((3, 1, 4), 8), ((2, 1, 0), 4), ((3, 1, 5), 0), ((3, 1, 5), 1), ((3, 1, 5), 2), ((3, 1, 5), 3), ((3, 1, 5), 4), ((3, 1, 5), 5), ((3, 1, 5), 6), ((3, 1, 5), 7), ((3, 1, 5), 8), ((2, 1, 0), 5), ((0, 0, 0), 1), ((1, 2, 0), 0), ((1, 2, 0), 1), ((4, 2, 0), 0), ((4, 2, 0), 1), ((4, 2, 0), 2), ((4, 2, 0), 3), ((4, 2, 0), 4), ((4, 2, 0), 5), ((1, 2, 0), 2), ((1, 2, 0), 3), ((1, 2, 0), 4), ((1, 2, 0), 5), ((1, 2, 0), 6), ((1, 2, 0), 7), ((1, 2, 0), 8), ((1, 2, 0), 9), ((3, 2, 0), 0), ((3, 2, 0), 1), ((3, 2, 0), 2), ((3, 2, 0), 3), ((3, 2, 0), 4), ((3, 2, 0), 5), ((3, 2, 0), 6), ((3, 2, 0), 7), ((3, 2, 0), 8), ((2, 2, 0), 0), ((3, 2, 1), 0), ((3, 2, 1), 1), ((3, 2, 1), 2), ((3, 2, 1), 3), ((3, 2, 1), 4), ((3, 2, 1), 5), ((3, 2, 1), 6), ((3, 2, 1), 7), ((3, 2, 1), 8), ((2, 2, 0), 1), ((3, 2, 2), 0), ((3, 2, 2), 1), ((3, 2, 2), 2), ((3, 2, 2), 3), ((3, 2, 2), 4), ((3, 2, 2), 5), ((3, 2, 2), 6), ((3, 2, 2), 7), ((3, 2, 2), 8), ((2, 2, 0), 2), ((3, 2, 3), 0), ((3, 2, 3), 1), ((3, 2, 3), 2), ((3, 2, 3), 3), ((3, 2, 3), 4), ((3, 2, 3), 5), ((3, 2, 3), 6), ((3, 2, 3), 7), ((3, 2, 3), 8), ((2, 2, 0), 3), ((3, 2, 4), 0), ((3, 2, 4), 1), ((3, 2, 4), 2), ((3, 2, 4), 3), ((3, 2, 4), 4), ((3, 2, 4), 5), ((3, 2, 4), 6), ((3, 2, 4), 7), ((3, 2, 4), 8), ((2, 2, 0), 4), ((3, 2, 5), 0), ((3, 2, 5), 1), ((3, 2, 5), 2), ((3, 2, 5), 3), ((3, 2, 5), 4), ((3, 2, 5), 5), ((3, 2, 5), 6), ((3, 2, 5), 7), ((3, 2, 5), 8), ((2, 2, 0), 5), ((0, 0, 0), 2), ((0, 0, 0), 3), ((9, 0, 0), 0), ((9, 0, 0), 1), ((9, 0, 0), 2), ((9, 0, 0), 3), ((0, 0, 0), 4), ((0, 0, 0), 5), ((0, 0, 0), 6), ((20, 0, 0), 0), ((20, 0, 0), 1), ((20, 0, 0), 2), ((20, 0, 0), 3), ((20, 0, 0), 4), ((20, 0, 0), 5), ((0, 0, 0), 7), ((26, 0, 0), 0), ((26, 0, 0), 1), ((26, 0, 0), 2), ((26, 0, 0), 3), ((26, 0, 0), 4), ((26, 0, 0), 5), ((25, 0, 0), 0), ((25, 0, 0), 1), ((0, 0, 0), 8), ((28, 0, 0), 0), ((28, 0, 0), 1), ((28, 0, 0), 2), ((1, 3, 0), 0), ((1, 3, 0), 1), ((4, 3, 0), 0), ((4, 3, 0), 1), ((4, 3, 0), 2), ((4, 3, 0), 3), ((4, 3, 0), 4), ((4, 3, 0), 5), ((1, 3, 0), 2), ((1, 3, 0), 3), ((1, 3, 0), 4), ((1, 3, 0), 5), ((1, 3, 0), 6), ((1, 3, 0), 7), ((1, 3, 0), 8), ((1, 3, 0), 9), ((3, 3, 0), 0), ((3, 3, 0), 1), ((3, 3, 0), 2), ((3, 3, 0), 3), ((3, 3, 0), 4), ((3, 3, 0), 5), ((3, 3, 0), 6), ((3, 3, 0), 7), ((3, 3, 0), 8), ((2, 3, 0), 0), ((3, 3, 1), 0), ((3, 3, 1), 1), ((3, 3, 1), 2), ((3, 3, 1), 3), ((3, 3, 1), 4), ((3, 3, 1), 5), ((3, 3, 1), 6), ((3, 3, 1), 7), ((3, 3, 1), 8), ((2, 3, 0), 1), ((3, 3, 2), 0), ((3, 3, 2), 1), ((3, 3, 2), 2), ((3, 3, 2), 3), ((3, 3, 2), 4), ((3, 3, 2), 5), ((3, 3, 2), 6), ((3, 3, 2), 7), ((3, 3, 2), 8), ((2, 3, 0), 2), ((3, 3, 3), 0), ((3, 3, 3), 1), ((3, 3, 3), 2), ((3, 3, 3), 3), ((3, 3, 3), 4), ((3, 3, 3), 5), ((3, 3, 3), 6), ((3, 3, 3), 7), ((3, 3, 3), 8), ((2, 3, 0), 3), ((3, 3, 4), 0), ((3, 3, 4), 1), ((3, 3, 4), 2), ((3, 3, 4), 3), ((3, 3, 4), 4), ((3, 3, 4), 5), ((3, 3, 4), 6), ((3, 3, 4), 7), ((3, 3, 4), 8), ((2, 3, 0), 4), ((3, 3, 5), 0), ((3, 3, 5), 1), ((3, 3, 5), 2), ((3, 3, 5), 3), ((3, 3, 5), 4), ((3, 3, 5), 5), ((3, 3, 5), 6), ((3, 3, 5), 7), ((3, 3, 5), 8), ((2, 3, 0), 5), ((28, 0, 0), 3), ((0, 0, 0), 9), ((29, 0, 0), 0), ((29, 0, 0), 1), ((29, 0, 0), 2), ((29, 0, 0), 3), ((29, 0, 0), 4), ((0, 0, 0), 10), ((0, 0, 0), 11), ((11, 0, 0), 0), ((11, 0, 0), 1), ((11, 0, 0), 2), ((11, 0, 0), 3), ((11, 0, 0), 4), ((11, 0, 0), 5), ((11, 0, 0), 6), ((11, 0, 0), 7), ((11, 0, 0), 8), ((19, 0, 0), 0), ((11, 1, 0), 0), ((11, 1, 0), 1), ((11, 1, 0), 2), ((11, 1, 0), 3), ((11, 1, 0), 4), ((11, 1, 0), 5), ((11, 1, 0), 6), ((11, 1, 0), 7), ((11, 1, 0), 8), ((19, 0, 0), 1), ((11, 2, 0), 0), ((11, 2, 0), 1), ((11, 2, 0), 2), ((11, 2, 0), 3), ((11, 2, 0), 4), ((11, 2, 0), 5), ((11, 2, 0), 6), ((11, 2, 0), 7), ((11, 2, 0), 8), ((19, 0, 0), 2), ((11, 3, 0), 0), ((11, 3, 0), 1), ((11, 3, 0), 2), ((11, 3, 0), 3), ((11, 3, 0), 4), ((11, 3, 0), 5), ((11, 3, 0), 6), ((11, 3, 0), 7), ((11, 3, 0), 8), ((19, 0, 0), 3), ((11, 4, 0), 0), ((11, 4, 0), 1), ((11, 4, 0), 2), ((11, 4, 0), 3), ((11, 4, 0), 4), ((11, 4, 0), 5), ((11, 4, 0), 6), ((11, 4, 0), 7), ((11, 4, 0), 8), ((19, 0, 0), 4), ((32, 0, 0), 0), ((32, 0, 0), 1), ((32, 0, 0), 2), ((31, 0, 0), 0), ((32, 1, 0), 0), ((32, 1, 0), 1), ((32, 1, 0), 2), ((31, 0, 0), 1), ((32, 2, 0), 0), ((32, 2, 0), 1), ((32, 2, 0), 2), ((31, 0, 0), 2), ((32, 3, 0), 0), ((32, 3, 0), 1), ((32, 3, 0), 2), ((31, 0, 0), 3), ((32, 4, 0), 0), ((32, 4, 0), 1), ((32, 4, 0), 2), ((31, 0, 0), 4), ((32, 5, 0), 0), ((32, 5, 0), 1), ((32, 5, 0), 2), ((31, 0, 0), 5)]) : Ev l mX9_init 4 144 2909 true [vR (0, 0, 0)] (kA.take (n + 1)) (am_W m) (none, kA.take (n + 145), am_W (m + 417)) := by
  refine Ev_of (by decide +kernel) (le_b rfl) ?_
  show X l mX9_init 4 144 2909 true _ (kA.take (n + 1)) 0 0 0 [some (vR (0, 0, 0)), none] [] (am_W m)
  refine r_aload_n (x := (0, 0, 0)) dX9_init_0 rfl ?_
  refine r_objInit oi_X9_5 oi_b.1 oi_b.2 dX9_init_1 (le_b rfl) (le_b rfl) ?_
  refine r_aload_n (x := (0, 0, 0)) dX9_init_4 rfl ?_
  refine c_newo (N := 10) nw_X9_11 (tk_get hk (i := 1) rfl) (tk_get hA (i := 0) rfl) rfl rfl rfl dX9_init_5 (le_b rfl) (le_b rfl) ?_
  show X l mX9_init 4 144 2909 true _ (kA.take (n + 2)) 1 10 8 [some (vR (0, 0, 0)), none] [vR (1, 0, 0), vR (0, 0, 0)] (am_W m)
  refine r_dup dX9_init_8 rfl ?_
  refine r_callI (as := []) (st := [vR (1, 0, 0), vR (0, 0, 0)]) mw_X9_13 mi_X8_init rfl rfl (I_X8_init (l := l) (v := 0) (n := n + 1) (m := m) (tk_sub hk 1 18 (by decide) rfl) (tk_sub hA 1 17 (by decide) rfl) (tk_sub hw 0 76 (by decide) rfl)) (le_b rfl) dX9_init_9 rfl (le_b rfl) (le_b rfl) (le_b rfl) ?_
  show X l mX9_init 4 144 2909 true _ (kA.take (n + 19)) 18 142 12 [some (vR (0, 0, 0)), none] [vR (1, 0, 0), vR (0, 0, 0)] (am_W (m + 76))
  refine r_putr (x := some (1, 0, 0)) fp_X9_14 (fun _ => rfl) dX9_init_12 (kA_mem (tk_get hk (i := 0) rfl) (by omega)) rfl (lt_b rfl) rfl (fun v => by cases v <;> exact ⟨rfl, rfl⟩) ?_
  refine X_W (W_ur (tk_get hw (i := 76) rfl) rfl rfl rfl) ?_
  show X l mX9_init 4 144 2909 true _ (kA.take (n + 19)) 18 142 15 [some (vR (0, 0, 0)), none] [] (am_W (m + 77))
  refine r_aload_n (x := (0, 0, 0)) dX9_init_15 rfl ?_
  refine c_newo (N := 10) nw_X9_11 (tk_get hk (i := 19) rfl) (tk_get hA (i := 18) rfl) rfl rfl rfl dX9_init_16 (le_b rfl) (le_b rfl) ?_
  show X l mX9_init 4 144 2909 true _ (kA.take (n + 20)) 19 152 19 [some (vR (0, 0, 0)), none] [vR (1, 1, 0), vR (0, 0, 0)] (am_W (m + 77))
  refine r_dup dX9_init_19 rfl ?_
  refine r_callI (as := []) (st := [vR (1, 1, 0), vR (0, 0, 0)]) mw_X9_13 mi_X8_init rfl rfl (I_X8_init (l := l) (v := 1) (n := n + 19) (m := m + 77) (tk_sub hk 19 18 (by decide) rfl) (tk_sub hA 19 17 (by decide) rfl) (tk_sub hw 77 76 (by decide) rfl)) (le_b rfl) dX9_init_20 rfl (le_b rfl) (le_b rfl) (le_b rfl) ?_
  show X l mX9_init 4 144 2909 true _ (kA.take (n + 37)) 36 284 23 [some (vR (0, 0, 0)), none] [vR (1, 1, 0), vR (0, 0, 0)] (am_W (m + 153))
  refine r_putr (x := some (1, 1, 0)) fp_X9_18 (fun _ => rfl) dX9_init_23 (kA_mem (tk_get hk (i := 0) rfl) (by omega)) rfl (lt_b rfl) rfl (fun v => by cases v <;> exact ⟨rfl, rfl⟩) ?_
  refine X_W (W_ur (tk_get hw (i := 153) rfl) rfl rfl rfl) ?_
  show X l mX9_init 4 144 2909 true _ (kA.take (n + 37)) 36 284 26 [some (vR (0, 0, 0)), none] [] (am_W (m + 154))
  refine r_aload_n (x := (0, 0, 0)) dX9_init_26 rfl ?_
  refine c_newo (N := 10) nw_X9_11 (tk_get hk (i := 37) rfl) (tk_get hA (i := 36) rfl) rfl rfl rfl dX9_init_27 (le_b rfl) (le_b rfl) ?_
  show X l mX9_init 4 144 2909 true _ (kA.take (n + 38)) 37 294 30 [some (vR (0, 0, 0)), none] [vR (1, 2, 0), vR (0, 0, 0)] (am_W (m + 154))
  refine r_dup dX9_init_30 rfl ?_
  refine r_callI (as := []) (st := [vR (1, 2, 0), vR (0, 0, 0)]) mw_X9_13 mi_X8_init rfl rfl (I_X8_init (l := l) (v := 2) (n := n + 37) (m := m + 154) (tk_sub hk 37 18 (by decide) rfl) (tk_sub hA 37 17 (by decide) rfl) (tk_sub hw 154 76 (by decide) rfl)) (le_b rfl) dX9_init_31 rfl (le_b rfl) (le_b rfl) (le_b rfl) ?_
  show X l mX9_init 4 144 2909 true _ (kA.take (n + 55)) 54 426 34 [some (vR (0, 0, 0)), none] [vR (1, 2, 0), vR (0, 0, 0)] (am_W (m + 230))
  refine r_putr (x := some (1, 2, 0)) fp_X9_21 (fun _ => rfl) dX9_init_34 (kA_mem (tk_get hk (i := 0) rfl) (by omega)) rfl (lt_b rfl) rfl (fun v => by cases v <;> exact ⟨rfl, rfl⟩) ?_
  refine X_W (W_ur (tk_get hw (i := 230) rfl) rfl rfl rfl) ?_
  show X l mX9_init 4 144 2909 true _ (kA.take (n + 55)) 54 426 37 [some (vR (0, 0, 0)), none] [] (am_W (m + 231))
  refine r_aload_n (x := (0, 0, 0)) dX9_init_37 rfl ?_
  refine r_iconst (v := 0) dX9_init_38 rfl ?_
  refine r_puti fp_X9_24 (fun h => by cases h) dX9_init_39 (kA_mem (tk_get hk (i := 0) rfl) (by omega)) rfl (lt_b rfl) rfl rfl rfl ?_
  refine X_W (W_ui (tk_get hw (i := 231) rfl) rfl rfl rfl) ?_
  show X l mX9_init 4 144 2909 true _ (kA.take (n + 55)) 54 426 42 [some (vR (0, 0, 0)), none] [] (am_W (m + 232))
  refine r_aload_n (x := (0, 0, 0)) dX9_init_42 rfl ?_
  refine c_newo (N := 4) nw_X9_28 (tk_get hk (i := 55) rfl) (tk_get hA (i := 54) rfl) rfl rfl rfl dX9_init_43 (le_b rfl) (le_b rfl) ?_
  show X l mX9_init 4 144 2909 true _ (kA.take (n + 56)) 55 430 46 [some (vR (0, 0, 0)), none] [vR (9, 0, 0), vR (0, 0, 0)] (am_W (m + 232))
  refine r_dup dX9_init_46 rfl ?_
  refine c_callIN (as := []) (st := [vR (9, 0, 0), vR (0, 0, 0)]) mn_X9_30 mi_X6_init rfl rfl (I_X6_init (l := l) (n := n + 55) (m := m + 232) (tk_sub hk 55 2 (by decide) rfl) (tk_sub hA 55 1 (by decide) rfl) (tk_sub hw 232 4 (by decide) rfl)) (le_b rfl) dX9_init_47 rfl (le_b rfl) (le_b rfl) (le_b rfl) ?_
  show X l mX9_init 4 144 2909 true _ (kA.take (n + 57)) 56 530 50 [some (vR (0, 0, 0)), none] [vR (9, 0, 0), vR (0, 0, 0)] (am_W (m + 236))
  refine r_putr (x := some (9, 0, 0)) fp_X9_31 (fun _ => rfl) dX9_init_50 (kA_mem (tk_get hk (i := 0) rfl) (by omega)) rfl (lt_b rfl) rfl (fun v => by cases v <;> exact ⟨rfl, rfl⟩) ?_
  refine X_W (W_ur (tk_get hw (i := 236) rfl) rfl rfl rfl) ?_
  show X l mX9_init 4 144 2909 true _ (kA.take (n + 57)) 56 530 53 [some (vR (0, 0, 0)), none] [] (am_W (m + 237))
  refine r_aload_n (x := (0, 0, 0)) dX9_init_53 rfl ?_
  refine r_iconst (v := 5) dX9_init_54 rfl ?_
  refine c_anewLand (N := 5) cl_X9_35 ao_Land (tk_get hk (i := 57) rfl) (tk_get hA (i := 56) rfl) rfl rfl (by decide) rfl (by decide) dX9_init_55 (le_b rfl) (le_b rfl) ?_
  show X l mX9_init 4 144 2909 true _ (kA.take (n + 58)) 57 535 58 [some (vR (0, 0, 0)), none] [vR (19, 0, 0), vR (0, 0, 0)] (am_W (m + 237))
  refine r_putr (x := some (19, 0, 0)) fp_X9_37 (fun _ => rfl) dX9_init_58 (kA_mem (tk_get hk (i := 0) rfl) (by omega)) rfl (lt_b rfl) rfl (fun v => by cases v <;> exact ⟨rfl, rfl⟩) ?_
  refine X_W (W_ur (tk_get hw (i := 237) rfl) rfl rfl rfl) ?_
  show X l mX9_init 4 144 2909 true _ (kA.take (n + 58)) 57 535 61 [some (vR (0, 0, 0)), none] [] (am_W (m + 238))
  refine r_aload_n (x := (0, 0, 0)) dX9_init_61 rfl ?_
  refine r_iconst (v := 0) dX9_init_62 rfl ?_
  refine r_puti fp_X9_41 (fun h => by cases h) dX9_init_63 (kA_mem (tk_get hk (i := 0) rfl) (by omega)) rfl (lt_b rfl) rfl rfl rfl ?_
  refine X_W (W_ui (tk_get hw (i := 238) rfl) rfl rfl rfl) ?_
  show X l mX9_init 4 144 2909 true _ (kA.take (n + 58)) 57 535 66 [some (vR (0, 0, 0)), none] [] (am_W (m + 239))
  refine r_aload_n (x := (0, 0, 0)) dX9_init_66 rfl ?_
  refine c_newo (N := 6) nw_X9_45 (tk_get hk (i := 58) rfl) (tk_get hA (i := 57) rfl) rfl rfl rfl dX9_init_67 (le_b rfl) (le_b rfl) ?_
  show X l mX9_init 4 144 2909 true _ (kA.take (n + 59)) 58 541 70 [some (vR (0, 0, 0)), none] [vR (20, 0, 0), vR (0, 0, 0)] (am_W (m + 239))
  refine r_dup dX9_init_70 rfl ?_
  refine c_callIN (as := []) (st := [vR (20, 0, 0), vR (0, 0, 0)]) mn_X9_47 mi_X1_init rfl rfl (I_X1_init (l := l) (n := n + 58) (m := m + 239) (tk_sub hk 58 5 (by decide) rfl) (tk_sub hA 58 4 (by decide) rfl) (tk_sub hw 239 6 (by decide) rfl)) (le_b rfl) dX9_init_71 rfl (le_b rfl) (le_b rfl) (le_b rfl) ?_
  show X l mX9_init 4 144 2909 true _ (kA.take (n + 63)) 62 565 74 [some (vR (0, 0, 0)), none] [vR (20, 0, 0), vR (0, 0, 0)] (am_W (m + 245))
  refine r_putr (x := some (20, 0, 0)) fp_X9_48 (fun _ => rfl) dX9_init_74 (kA_mem (tk_get hk (i := 0) rfl) (by omega)) rfl (lt_b rfl) rfl (fun v => by cases v <;> exact ⟨rfl, rfl⟩) ?_
  refine X_W (W_ur (tk_get hw (i := 245) rfl) rfl rfl rfl) ?_
  show X l mX9_init 4 144 2909 true _ (kA.take (n + 63)) 62 565 77 [some (vR (0, 0, 0)), none] [] (am_W (m + 246))
  refine r_aload_n (x := (0, 0, 0)) dX9_init_77 rfl ?_
  refine c_newo (N := 2) nw_X9_52 (tk_get hk (i := 63) rfl) (tk_get hA (i := 62) rfl) rfl rfl rfl dX9_init_78 (le_b rfl) (le_b rfl) ?_
  show X l mX9_init 4 144 2909 true _ (kA.take (n + 64)) 63 567 81 [some (vR (0, 0, 0)), none] [vR (25, 0, 0), vR (0, 0, 0)] (am_W (m + 246))
  refine r_dup dX9_init_81 rfl ?_
  refine c_callIN (as := []) (st := [vR (25, 0, 0), vR (0, 0, 0)]) mn_X9_54 mi_X5_init rfl rfl (I_X5_init (l := l) (n := n + 63) (m := m + 246) (tk_sub hk 63 8 (by decide) rfl) (tk_sub hA 63 7 (by decide) rfl) (tk_sub hw 246 8 (by decide) rfl)) (le_b rfl) dX9_init_82 rfl (le_b rfl) (le_b rfl) (le_b rfl) ?_
  show X l mX9_init 4 144 2909 true _ (kA.take (n + 71)) 70 609 85 [some (vR (0, 0, 0)), none] [vR (25, 0, 0), vR (0, 0, 0)] (am_W (m + 254))
  refine r_putr (x := some (25, 0, 0)) fp_X9_55 (fun _ => rfl) dX9_init_85 (kA_mem (tk_get hk (i := 0) rfl) (by omega)) rfl (lt_b rfl) rfl (fun v => by cases v <;> exact ⟨rfl, rfl⟩) ?_
  refine X_W (W_ur (tk_get hw (i := 254) rfl) rfl rfl rfl) ?_
  show X l mX9_init 4 144 2909 true _ (kA.take (n + 71)) 70 609 88 [some (vR (0, 0, 0)), none] [] (am_W (m + 255))
  refine r_aload_n (x := (0, 0, 0)) dX9_init_88 rfl ?_
  refine c_newo (N := 4) nw_X9_59 (tk_get hk (i := 71) rfl) (tk_get hA (i := 70) rfl) rfl rfl rfl dX9_init_89 (le_b rfl) (le_b rfl) ?_
  show X l mX9_init 4 144 2909 true _ (kA.take (n + 72)) 71 613 92 [some (vR (0, 0, 0)), none] [vR (28, 0, 0), vR (0, 0, 0)] (am_W (m + 255))
  refine r_dup dX9_init_92 rfl ?_
  refine c_callIN (as := []) (st := [vR (28, 0, 0), vR (0, 0, 0)]) mn_X9_61 mi_X4_init rfl rfl (I_X4_init (l := l) (n := n + 71) (m := m + 255) (tk_sub hk 71 19 (by decide) rfl) (tk_sub hA 71 18 (by decide) rfl) (tk_sub hw 255 80 (by decide) rfl)) (le_b rfl) dX9_init_93 rfl (le_b rfl) (le_b rfl) (le_b rfl) ?_
  show X l mX9_init 4 144 2909 true _ (kA.take (n + 90)) 89 755 96 [some (vR (0, 0, 0)), none] [vR (28, 0, 0), vR (0, 0, 0)] (am_W (m + 335))
  refine r_putr (x := some (28, 0, 0)) fp_X9_62 (fun _ => rfl) dX9_init_96 (kA_mem (tk_get hk (i := 0) rfl) (by omega)) rfl (lt_b rfl) rfl (fun v => by cases v <;> exact ⟨rfl, rfl⟩) ?_
  refine X_W (W_ur (tk_get hw (i := 335) rfl) rfl rfl rfl) ?_
  show X l mX9_init 4 144 2909 true _ (kA.take (n + 90)) 89 755 99 [some (vR (0, 0, 0)), none] [] (am_W (m + 336))
  refine r_aload_n (x := (0, 0, 0)) dX9_init_99 rfl ?_
  refine c_newo (N := 5) nw_X9_66 (tk_get hk (i := 90) rfl) (tk_get hA (i := 89) rfl) rfl rfl rfl dX9_init_100 (le_b rfl) (le_b rfl) ?_
  show X l mX9_init 4 144 2909 true _ (kA.take (n + 91)) 90 760 103 [some (vR (0, 0, 0)), none] [vR (29, 0, 0), vR (0, 0, 0)] (am_W (m + 336))
  refine r_dup dX9_init_103 rfl ?_
  refine c_callIN (as := []) (st := [vR (29, 0, 0), vR (0, 0, 0)]) mn_X9_68 mi_X0_init rfl rfl (I_X0_init (l := l) (n := n + 90) (m := m + 336) (tk_sub hk 90 2 (by decide) rfl) (tk_sub hA 90 1 (by decide) rfl) (tk_sub hw 336 5 (by decide) rfl)) (le_b rfl) dX9_init_104 rfl (le_b rfl) (le_b rfl) (le_b rfl) ?_
  show X l mX9_init 4 144 2909 true _ (kA.take (n + 92)) 91 780 107 [some (vR (0, 0, 0)), none] [vR (29, 0, 0), vR (0, 0, 0)] (am_W (m + 341))
  refine r_putr (x := some (29, 0, 0)) fp_X9_69 (fun _ => rfl) dX9_init_107 (kA_mem (tk_get hk (i := 0) rfl) (by omega)) rfl (lt_b rfl) rfl (fun v => by cases v <;> exact ⟨rfl, rfl⟩) ?_
  refine X_W (W_ur (tk_get hw (i := 341) rfl) rfl rfl rfl) ?_
  show X l mX9_init 4 144 2909 true _ (kA.take (n + 92)) 91 780 110 [some (vR (0, 0, 0)), none] [] (am_W (m + 342))
  refine r_aload_n (x := (0, 0, 0)) dX9_init_110 rfl ?_
  refine r_bipush (v := 6) dX9_init_111 rfl ?_
  refine c_anewTape (N := 6) cl_X9_73 ao_Tape (tk_get hk (i := 92) rfl) (tk_get hA (i := 91) rfl) rfl rfl (by decide) rfl (by decide) dX9_init_113 (le_b rfl) (le_b rfl) ?_
  show X l mX9_init 4 144 2909 true _ (kA.take (n + 93)) 92 786 116 [some (vR (0, 0, 0)), none] [vR (31, 0, 0), vR (0, 0, 0)] (am_W (m + 342))
  refine r_putr (x := some (31, 0, 0)) fp_X9_75 (fun _ => rfl) dX9_init_116 (kA_mem (tk_get hk (i := 0) rfl) (by omega)) rfl (lt_b rfl) rfl (fun v => by cases v <;> exact ⟨rfl, rfl⟩) ?_
  refine X_W (W_ur (tk_get hw (i := 342) rfl) rfl rfl rfl) ?_
  show X l mX9_init 4 144 2909 true _ (kA.take (n + 93)) 92 786 119 [some (vR (0, 0, 0)), none] [] (am_W (m + 343))
  refine r_iconst (v := 0) dX9_init_119 rfl ?_
  refine r_istore_n (L' := [some (vR (0, 0, 0)), some (vI (0))]) dX9_init_120 (by decide) rfl ?_
  refine r_iload_n (x := 0) dX9_init_121 rfl ?_
  refine r_iconst (v := 5) dX9_init_122 rfl ?_
  refine r_icmp_ge (tgt := 145) dX9_init_123 (by decide) (fun hc => absurd hc (by decide)) (fun hc => ?_)
  refine r_aload_n (x := (0, 0, 0)) dX9_init_126 rfl ?_
  refine r_getr (z := some (19, 0, 0)) fw_X9_37 dX9_init_127 (kA_mem (tk_get hk (i := 0) rfl) (by omega)) rfl (lt_b rfl) (W_rd (tk_get hw (i := 237) rfl) (by omega)) ?_
  refine r_iload_n (x := 0) dX9_init_130 rfl ?_
  refine c_newo (N := 9) nw_X9_35 (tk_get hk (i := 93) rfl) (tk_get hA (i := 92) rfl) rfl rfl rfl dX9_init_131 (le_b rfl) (le_b rfl) ?_
  show X l mX9_init 4 144 2909 true _ (kA.take (n + 94)) 93 795 134 [some (vR (0, 0, 0)), some (vI (0))] [vR (11, 0, 0), vI (0), vR (19, 0, 0)] (am_W (m + 343))
  refine r_dup dX9_init_134 rfl ?_
  refine c_callIN (as := []) (st := [vR (11, 0, 0), vI (0), vR (19, 0, 0)]) mn_X9_79 mi_X3_init rfl rfl (I_X3_init (l := l) (v := 0) (n := n + 93) (m := m + 343) (tk_sub hk 93 8 (by decide) rfl) (tk_sub hA 93 7 (by decide) rfl) (tk_sub hw 343 9 (by decide) rfl)) (le_b rfl) dX9_init_135 rfl (le_b rfl) (le_b rfl) (le_b rfl) ?_
  show X l mX9_init 4 144 2909 true _ (kA.take (n + 101)) 100 1135 138 [some (vR (0, 0, 0)), some (vI (0))] [vR (11, 0, 0), vI (0), vR (19, 0, 0)] (am_W (m + 352))
  refine c_aast (j := 0) (ci := 3) (t0 := 4) (r := (RX3, TX3, 9)) dX9_init_138 (kA_mem (tk_get hk (i := 57) rfl) (by omega)) (kA_mem (tk_get hk (i := 93) rfl) (by omega)) (le_b rfl) (fun _ => rfl) rfl rfl (vp_lit (i := 0) (n := 5) rfl) rfl (W_ur (tk_get hw (i := 352) rfl) rfl rfl rfl) ?_
  show X l mX9_init 4 144 2909 true _ (kA.take (n + 101)) 100 1135 139 [some (vR (0, 0, 0)), some (vI (0))] [] (am_W (m + 353))
  refine r_iinc (x := 0) (v := 1) (L' := [some (vR (0, 0, 0)), some (vI (1))]) dX9_init_139 rfl rfl (lt_b rfl) rfl ?_
  refine r_goto (tgt := 121) dX9_init_142 (by decide) ?_
  refine r_iload_n (x := 1) dX9_init_121 rfl ?_
  refine r_iconst (v := 5) dX9_init_122 rfl ?_
  refine r_icmp_ge (tgt := 145) dX9_init_123 (by decide) (fun hc => absurd hc (by decide)) (fun hc => ?_)
  refine r_aload_n (x := (0, 0, 0)) dX9_init_126 rfl ?_
  refine r_getr (z := some (19, 0, 0)) fw_X9_37 dX9_init_127 (kA_mem (tk_get hk (i := 0) rfl) (by omega)) rfl (lt_b rfl) (W_rd (tk_get hw (i := 237) rfl) (by omega)) ?_
  refine r_iload_n (x := 1) dX9_init_130 rfl ?_
  refine c_newo (N := 9) nw_X9_35 (tk_get hk (i := 101) rfl) (tk_get hA (i := 100) rfl) rfl rfl rfl dX9_init_131 (le_b rfl) (le_b rfl) ?_
  show X l mX9_init 4 144 2909 true _ (kA.take (n + 102)) 101 1144 134 [some (vR (0, 0, 0)), some (vI (1))] [vR (11, 1, 0), vI (1), vR (19, 0, 0)] (am_W (m + 353))
  refine r_dup dX9_init_134 rfl ?_
  refine c_callIN (as := []) (st := [vR (11, 1, 0), vI (1), vR (19, 0, 0)]) mn_X9_79 mi_X3_init rfl rfl (I_X3_init (l := l) (v := 1) (n := n + 101) (m := m + 353) (tk_sub hk 101 8 (by decide) rfl) (tk_sub hA 101 7 (by decide) rfl) (tk_sub hw 353 9 (by decide) rfl)) (le_b rfl) dX9_init_135 rfl (le_b rfl) (le_b rfl) (le_b rfl) ?_
  show X l mX9_init 4 144 2909 true _ (kA.take (n + 109)) 108 1484 138 [some (vR (0, 0, 0)), some (vI (1))] [vR (11, 1, 0), vI (1), vR (19, 0, 0)] (am_W (m + 362))
  refine c_aast (j := 1) (ci := 3) (t0 := 4) (r := (RX3, TX3, 9)) dX9_init_138 (kA_mem (tk_get hk (i := 57) rfl) (by omega)) (kA_mem (tk_get hk (i := 101) rfl) (by omega)) (le_b rfl) (fun _ => rfl) rfl rfl (vp_lit (i := 1) (n := 5) rfl) rfl (W_ur (tk_get hw (i := 362) rfl) rfl rfl rfl) ?_
  show X l mX9_init 4 144 2909 true _ (kA.take (n + 109)) 108 1484 139 [some (vR (0, 0, 0)), some (vI (1))] [] (am_W (m + 363))
  refine r_iinc (x := 1) (v := 2) (L' := [some (vR (0, 0, 0)), some (vI (2))]) dX9_init_139 rfl rfl (lt_b rfl) rfl ?_
  refine r_goto (tgt := 121) dX9_init_142 (by decide) ?_
  refine r_iload_n (x := 2) dX9_init_121 rfl ?_
  refine r_iconst (v := 5) dX9_init_122 rfl ?_
  refine r_icmp_ge (tgt := 145) dX9_init_123 (by decide) (fun hc => absurd hc (by decide)) (fun hc => ?_)
  refine r_aload_n (x := (0, 0, 0)) dX9_init_126 rfl ?_
  refine r_getr (z := some (19, 0, 0)) fw_X9_37 dX9_init_127 (kA_mem (tk_get hk (i := 0) rfl) (by omega)) rfl (lt_b rfl) (W_rd (tk_get hw (i := 237) rfl) (by omega)) ?_
  refine r_iload_n (x := 2) dX9_init_130 rfl ?_
  refine c_newo (N := 9) nw_X9_35 (tk_get hk (i := 109) rfl) (tk_get hA (i := 108) rfl) rfl rfl rfl dX9_init_131 (le_b rfl) (le_b rfl) ?_
  show X l mX9_init 4 144 2909 true _ (kA.take (n + 110)) 109 1493 134 [some (vR (0, 0, 0)), some (vI (2))] [vR (11, 2, 0), vI (2), vR (19, 0, 0)] (am_W (m + 363))
  refine r_dup dX9_init_134 rfl ?_
  refine c_callIN (as := []) (st := [vR (11, 2, 0), vI (2), vR (19, 0, 0)]) mn_X9_79 mi_X3_init rfl rfl (I_X3_init (l := l) (v := 2) (n := n + 109) (m := m + 363) (tk_sub hk 109 8 (by decide) rfl) (tk_sub hA 109 7 (by decide) rfl) (tk_sub hw 363 9 (by decide) rfl)) (le_b rfl) dX9_init_135 rfl (le_b rfl) (le_b rfl) (le_b rfl) ?_
  show X l mX9_init 4 144 2909 true _ (kA.take (n + 117)) 116 1833 138 [some (vR (0, 0, 0)), some (vI (2))] [vR (11, 2, 0), vI (2), vR (19, 0, 0)] (am_W (m + 372))
  refine c_aast (j := 2) (ci := 3) (t0 := 4) (r := (RX3, TX3, 9)) dX9_init_138 (kA_mem (tk_get hk (i := 57) rfl) (by omega)) (kA_mem (tk_get hk (i := 109) rfl) (by omega)) (le_b rfl) (fun _ => rfl) rfl rfl (vp_lit (i := 2) (n := 5) rfl) rfl (W_ur (tk_get hw (i := 372) rfl) rfl rfl rfl) ?_
  show X l mX9_init 4 144 2909 true _ (kA.take (n + 117)) 116 1833 139 [some (vR (0, 0, 0)), some (vI (2))] [] (am_W (m + 373))
  refine r_iinc (x := 2) (v := 3) (L' := [some (vR (0, 0, 0)), some (vI (3))]) dX9_init_139 rfl rfl (lt_b rfl) rfl ?_
  refine r_goto (tgt := 121) dX9_init_142 (by decide) ?_
  refine r_iload_n (x := 3) dX9_init_121 rfl ?_
  refine r_iconst (v := 5) dX9_init_122 rfl ?_
  refine r_icmp_ge (tgt := 145) dX9_init_123 (by decide) (fun hc => absurd hc (by decide)) (fun hc => ?_)
  refine r_aload_n (x := (0, 0, 0)) dX9_init_126 rfl ?_
  refine r_getr (z := some (19, 0, 0)) fw_X9_37 dX9_init_127 (kA_mem (tk_get hk (i := 0) rfl) (by omega)) rfl (lt_b rfl) (W_rd (tk_get hw (i := 237) rfl) (by omega)) ?_
  refine r_iload_n (x := 3) dX9_init_130 rfl ?_
  refine c_newo (N := 9) nw_X9_35 (tk_get hk (i := 117) rfl) (tk_get hA (i := 116) rfl) rfl rfl rfl dX9_init_131 (le_b rfl) (le_b rfl) ?_
  show X l mX9_init 4 144 2909 true _ (kA.take (n + 118)) 117 1842 134 [some (vR (0, 0, 0)), some (vI (3))] [vR (11, 3, 0), vI (3), vR (19, 0, 0)] (am_W (m + 373))
  refine r_dup dX9_init_134 rfl ?_
  refine c_callIN (as := []) (st := [vR (11, 3, 0), vI (3), vR (19, 0, 0)]) mn_X9_79 mi_X3_init rfl rfl (I_X3_init (l := l) (v := 3) (n := n + 117) (m := m + 373) (tk_sub hk 117 8 (by decide) rfl) (tk_sub hA 117 7 (by decide) rfl) (tk_sub hw 373 9 (by decide) rfl)) (le_b rfl) dX9_init_135 rfl (le_b rfl) (le_b rfl) (le_b rfl) ?_
  show X l mX9_init 4 144 2909 true _ (kA.take (n + 125)) 124 2182 138 [some (vR (0, 0, 0)), some (vI (3))] [vR (11, 3, 0), vI (3), vR (19, 0, 0)] (am_W (m + 382))
  refine c_aast (j := 3) (ci := 3) (t0 := 4) (r := (RX3, TX3, 9)) dX9_init_138 (kA_mem (tk_get hk (i := 57) rfl) (by omega)) (kA_mem (tk_get hk (i := 117) rfl) (by omega)) (le_b rfl) (fun _ => rfl) rfl rfl (vp_lit (i := 3) (n := 5) rfl) rfl (W_ur (tk_get hw (i := 382) rfl) rfl rfl rfl) ?_
  show X l mX9_init 4 144 2909 true _ (kA.take (n + 125)) 124 2182 139 [some (vR (0, 0, 0)), some (vI (3))] [] (am_W (m + 383))
  refine r_iinc (x := 3) (v := 4) (L' := [some (vR (0, 0, 0)), some (vI (4))]) dX9_init_139 rfl rfl (lt_b rfl) rfl ?_
  refine r_goto (tgt := 121) dX9_init_142 (by decide) ?_
  refine r_iload_n (x := 4) dX9_init_121 rfl ?_
  refine r_iconst (v := 5) dX9_init_122 rfl ?_
  refine r_icmp_ge (tgt := 145) dX9_init_123 (by decide) (fun hc => absurd hc (by decide)) (fun hc => ?_)
  refine r_aload_n (x := (0, 0, 0)) dX9_init_126 rfl ?_
  refine r_getr (z := some (19, 0, 0)) fw_X9_37 dX9_init_127 (kA_mem (tk_get hk (i := 0) rfl) (by omega)) rfl (lt_b rfl) (W_rd (tk_get hw (i := 237) rfl) (by omega)) ?_
  refine r_iload_n (x := 4) dX9_init_130 rfl ?_
  refine c_newo (N := 9) nw_X9_35 (tk_get hk (i := 125) rfl) (tk_get hA (i := 124) rfl) rfl rfl rfl dX9_init_131 (le_b rfl) (le_b rfl) ?_
  show X l mX9_init 4 144 2909 true _ (kA.take (n + 126)) 125 2191 134 [some (vR (0, 0, 0)), some (vI (4))] [vR (11, 4, 0), vI (4), vR (19, 0, 0)] (am_W (m + 383))
  refine r_dup dX9_init_134 rfl ?_
  refine c_callIN (as := []) (st := [vR (11, 4, 0), vI (4), vR (19, 0, 0)]) mn_X9_79 mi_X3_init rfl rfl (I_X3_init (l := l) (v := 4) (n := n + 125) (m := m + 383) (tk_sub hk 125 8 (by decide) rfl) (tk_sub hA 125 7 (by decide) rfl) (tk_sub hw 383 9 (by decide) rfl)) (le_b rfl) dX9_init_135 rfl (le_b rfl) (le_b rfl) (le_b rfl) ?_
  show X l mX9_init 4 144 2909 true _ (kA.take (n + 133)) 132 2531 138 [some (vR (0, 0, 0)), some (vI (4))] [vR (11, 4, 0), vI (4), vR (19, 0, 0)] (am_W (m + 392))
  refine c_aast (j := 4) (ci := 3) (t0 := 4) (r := (RX3, TX3, 9)) dX9_init_138 (kA_mem (tk_get hk (i := 57) rfl) (by omega)) (kA_mem (tk_get hk (i := 125) rfl) (by omega)) (le_b rfl) (fun _ => rfl) rfl rfl (vp_lit (i := 4) (n := 5) rfl) rfl (W_ur (tk_get hw (i := 392) rfl) rfl rfl rfl) ?_
  show X l mX9_init 4 144 2909 true _ (kA.take (n + 133)) 132 2531 139 [some (vR (0, 0, 0)), some (vI (4))] [] (am_W (m + 393))
  refine r_iinc (x := 4) (v := 5) (L' := [some (vR (0, 0, 0)), some (vI (5))]) dX9_init_139 rfl rfl (lt_b rfl) rfl ?_
  refine r_goto (tgt := 121) dX9_init_142 (by decide) ?_
  refine r_iload_n (x := 5) dX9_init_121 rfl ?_
  refine r_iconst (v := 5) dX9_init_122 rfl ?_
  refine r_icmp_ge (tgt := 145) dX9_init_123 (by decide) (fun hc => ?_) (fun hc => absurd hc (by decide))
  refine r_iconst (v := 0) dX9_init_145 rfl ?_
  refine r_istore_n (L' := [some (vR (0, 0, 0)), some (vI (0))]) dX9_init_146 (by decide) rfl ?_
  refine r_iload_n (x := 0) dX9_init_147 rfl ?_
  refine r_bipush (v := 6) dX9_init_148 rfl ?_
  refine r_icmp_ge (tgt := 172) dX9_init_150 (by decide) (fun hc => absurd hc (by decide)) (fun hc => ?_)
  refine r_aload_n (x := (0, 0, 0)) dX9_init_153 rfl ?_
  refine r_getr (z := some (31, 0, 0)) fw_X9_75 dX9_init_154 (kA_mem (tk_get hk (i := 0) rfl) (by omega)) rfl (lt_b rfl) (W_rd (tk_get hw (i := 342) rfl) (by omega)) ?_
  refine r_iload_n (x := 0) dX9_init_157 rfl ?_
  refine c_newo (N := 3) nw_X9_73 (tk_get hk (i := 133) rfl) (tk_get hA (i := 132) rfl) rfl rfl rfl dX9_init_158 (le_b rfl) (le_b rfl) ?_
  show X l mX9_init 4 144 2909 true _ (kA.take (n + 134)) 133 2534 161 [some (vR (0, 0, 0)), some (vI (0))] [vR (32, 0, 0), vI (0), vR (31, 0, 0)] (am_W (m + 393))
  refine r_dup dX9_init_161 rfl ?_
  refine c_callIN (as := []) (st := [vR (32, 0, 0), vI (0), vR (31, 0, 0)]) mn_X9_80 mi_X7_init rfl rfl (I_X7_init (l := l) (v := 0) (n := n + 133) (m := m + 393) (tk_sub hk 133 2 (by decide) rfl) (tk_sub hA 133 1 (by decide) rfl) (tk_sub hw 393 3 (by decide) rfl)) (le_b rfl) dX9_init_162 rfl (le_b rfl) (le_b rfl) (le_b rfl) ?_
  show X l mX9_init 4 144 2909 true _ (kA.take (n + 135)) 134 2594 165 [some (vR (0, 0, 0)), some (vI (0))] [vR (32, 0, 0), vI (0), vR (31, 0, 0)] (am_W (m + 396))
  refine c_aast (j := 0) (ci := 7) (t0 := 5) (r := (RX7, TX7, 3)) dX9_init_165 (kA_mem (tk_get hk (i := 92) rfl) (by omega)) (kA_mem (tk_get hk (i := 133) rfl) (by omega)) (le_b rfl) (fun _ => rfl) rfl rfl (vp_lit (i := 0) (n := 6) rfl) rfl (W_ur (tk_get hw (i := 396) rfl) rfl rfl rfl) ?_
  show X l mX9_init 4 144 2909 true _ (kA.take (n + 135)) 134 2594 166 [some (vR (0, 0, 0)), some (vI (0))] [] (am_W (m + 397))
  refine r_iinc (x := 0) (v := 1) (L' := [some (vR (0, 0, 0)), some (vI (1))]) dX9_init_166 rfl rfl (lt_b rfl) rfl ?_
  refine r_goto (tgt := 147) dX9_init_169 (by decide) ?_
  refine r_iload_n (x := 1) dX9_init_147 rfl ?_
  refine r_bipush (v := 6) dX9_init_148 rfl ?_
  refine r_icmp_ge (tgt := 172) dX9_init_150 (by decide) (fun hc => absurd hc (by decide)) (fun hc => ?_)
  refine r_aload_n (x := (0, 0, 0)) dX9_init_153 rfl ?_
  refine r_getr (z := some (31, 0, 0)) fw_X9_75 dX9_init_154 (kA_mem (tk_get hk (i := 0) rfl) (by omega)) rfl (lt_b rfl) (W_rd (tk_get hw (i := 342) rfl) (by omega)) ?_
  refine r_iload_n (x := 1) dX9_init_157 rfl ?_
  refine c_newo (N := 3) nw_X9_73 (tk_get hk (i := 135) rfl) (tk_get hA (i := 134) rfl) rfl rfl rfl dX9_init_158 (le_b rfl) (le_b rfl) ?_
  show X l mX9_init 4 144 2909 true _ (kA.take (n + 136)) 135 2597 161 [some (vR (0, 0, 0)), some (vI (1))] [vR (32, 1, 0), vI (1), vR (31, 0, 0)] (am_W (m + 397))
  refine r_dup dX9_init_161 rfl ?_
  refine c_callIN (as := []) (st := [vR (32, 1, 0), vI (1), vR (31, 0, 0)]) mn_X9_80 mi_X7_init rfl rfl (I_X7_init (l := l) (v := 1) (n := n + 135) (m := m + 397) (tk_sub hk 135 2 (by decide) rfl) (tk_sub hA 135 1 (by decide) rfl) (tk_sub hw 397 3 (by decide) rfl)) (le_b rfl) dX9_init_162 rfl (le_b rfl) (le_b rfl) (le_b rfl) ?_
  show X l mX9_init 4 144 2909 true _ (kA.take (n + 137)) 136 2657 165 [some (vR (0, 0, 0)), some (vI (1))] [vR (32, 1, 0), vI (1), vR (31, 0, 0)] (am_W (m + 400))
  refine c_aast (j := 1) (ci := 7) (t0 := 5) (r := (RX7, TX7, 3)) dX9_init_165 (kA_mem (tk_get hk (i := 92) rfl) (by omega)) (kA_mem (tk_get hk (i := 135) rfl) (by omega)) (le_b rfl) (fun _ => rfl) rfl rfl (vp_lit (i := 1) (n := 6) rfl) rfl (W_ur (tk_get hw (i := 400) rfl) rfl rfl rfl) ?_
  show X l mX9_init 4 144 2909 true _ (kA.take (n + 137)) 136 2657 166 [some (vR (0, 0, 0)), some (vI (1))] [] (am_W (m + 401))
  refine r_iinc (x := 1) (v := 2) (L' := [some (vR (0, 0, 0)), some (vI (2))]) dX9_init_166 rfl rfl (lt_b rfl) rfl ?_
  refine r_goto (tgt := 147) dX9_init_169 (by decide) ?_
  refine r_iload_n (x := 2) dX9_init_147 rfl ?_
  refine r_bipush (v := 6) dX9_init_148 rfl ?_
  refine r_icmp_ge (tgt := 172) dX9_init_150 (by decide) (fun hc => absurd hc (by decide)) (fun hc => ?_)
  refine r_aload_n (x := (0, 0, 0)) dX9_init_153 rfl ?_
  refine r_getr (z := some (31, 0, 0)) fw_X9_75 dX9_init_154 (kA_mem (tk_get hk (i := 0) rfl) (by omega)) rfl (lt_b rfl) (W_rd (tk_get hw (i := 342) rfl) (by omega)) ?_
  refine r_iload_n (x := 2) dX9_init_157 rfl ?_
  refine c_newo (N := 3) nw_X9_73 (tk_get hk (i := 137) rfl) (tk_get hA (i := 136) rfl) rfl rfl rfl dX9_init_158 (le_b rfl) (le_b rfl) ?_
  show X l mX9_init 4 144 2909 true _ (kA.take (n + 138)) 137 2660 161 [some (vR (0, 0, 0)), some (vI (2))] [vR (32, 2, 0), vI (2), vR (31, 0, 0)] (am_W (m + 401))
  refine r_dup dX9_init_161 rfl ?_
  refine c_callIN (as := []) (st := [vR (32, 2, 0), vI (2), vR (31, 0, 0)]) mn_X9_80 mi_X7_init rfl rfl (I_X7_init (l := l) (v := 2) (n := n + 137) (m := m + 401) (tk_sub hk 137 2 (by decide) rfl) (tk_sub hA 137 1 (by decide) rfl) (tk_sub hw 401 3 (by decide) rfl)) (le_b rfl) dX9_init_162 rfl (le_b rfl) (le_b rfl) (le_b rfl) ?_
  show X l mX9_init 4 144 2909 true _ (kA.take (n + 139)) 138 2720 165 [some (vR (0, 0, 0)), some (vI (2))] [vR (32, 2, 0), vI (2), vR (31, 0, 0)] (am_W (m + 404))
  refine c_aast (j := 2) (ci := 7) (t0 := 5) (r := (RX7, TX7, 3)) dX9_init_165 (kA_mem (tk_get hk (i := 92) rfl) (by omega)) (kA_mem (tk_get hk (i := 137) rfl) (by omega)) (le_b rfl) (fun _ => rfl) rfl rfl (vp_lit (i := 2) (n := 6) rfl) rfl (W_ur (tk_get hw (i := 404) rfl) rfl rfl rfl) ?_
  show X l mX9_init 4 144 2909 true _ (kA.take (n + 139)) 138 2720 166 [some (vR (0, 0, 0)), some (vI (2))] [] (am_W (m + 405))
  refine r_iinc (x := 2) (v := 3) (L' := [some (vR (0, 0, 0)), some (vI (3))]) dX9_init_166 rfl rfl (lt_b rfl) rfl ?_
  refine r_goto (tgt := 147) dX9_init_169 (by decide) ?_
  refine r_iload_n (x := 3) dX9_init_147 rfl ?_
  refine r_bipush (v := 6) dX9_init_148 rfl ?_
  refine r_icmp_ge (tgt := 172) dX9_init_150 (by decide) (fun hc => absurd hc (by decide)) (fun hc => ?_)
  refine r_aload_n (x := (0, 0, 0)) dX9_init_153 rfl ?_
  refine r_getr (z := some (31, 0, 0)) fw_X9_75 dX9_init_154 (kA_mem (tk_get hk (i := 0) rfl) (by omega)) rfl (lt_b rfl) (W_rd (tk_get hw (i := 342) rfl) (by omega)) ?_
  refine r_iload_n (x := 3) dX9_init_157 rfl ?_
  refine c_newo (N := 3) nw_X9_73 (tk_get hk (i := 139) rfl) (tk_get hA (i := 138) rfl) rfl rfl rfl dX9_init_158 (le_b rfl) (le_b rfl) ?_
  show X l mX9_init 4 144 2909 true _ (kA.take (n + 140)) 139 2723 161 [some (vR (0, 0, 0)), some (vI (3))] [vR (32, 3, 0), vI (3), vR (31, 0, 0)] (am_W (m + 405))
  refine r_dup dX9_init_161 rfl ?_
  refine c_callIN (as := []) (st := [vR (32, 3, 0), vI (3), vR (31, 0, 0)]) mn_X9_80 mi_X7_init rfl rfl (I_X7_init (l := l) (v := 3) (n := n + 139) (m := m + 405) (tk_sub hk 139 2 (by decide) rfl) (tk_sub hA 139 1 (by decide) rfl) (tk_sub hw 405 3 (by decide) rfl)) (le_b rfl) dX9_init_162 rfl (le_b rfl) (le_b rfl) (le_b rfl) ?_
  show X l mX9_init 4 144 2909 true _ (kA.take (n + 141)) 140 2783 165 [some (vR (0, 0, 0)), some (vI (3))] [vR (32, 3, 0), vI (3), vR (31, 0, 0)] (am_W (m + 408))
  refine c_aast (j := 3) (ci := 7) (t0 := 5) (r := (RX7, TX7, 3)) dX9_init_165 (kA_mem (tk_get hk (i := 92) rfl) (by omega)) (kA_mem (tk_get hk (i := 139) rfl) (by omega)) (le_b rfl) (fun _ => rfl) rfl rfl (vp_lit (i := 3) (n := 6) rfl) rfl (W_ur (tk_get hw (i := 408) rfl) rfl rfl rfl) ?_
  show X l mX9_init 4 144 2909 true _ (kA.take (n + 141)) 140 2783 166 [some (vR (0, 0, 0)), some (vI (3))] [] (am_W (m + 409))
  refine r_iinc (x := 3) (v := 4) (L' := [some (vR (0, 0, 0)), some (vI (4))]) dX9_init_166 rfl rfl (lt_b rfl) rfl ?_
  refine r_goto (tgt := 147) dX9_init_169 (by decide) ?_
  refine r_iload_n (x := 4) dX9_init_147 rfl ?_
  refine r_bipush (v := 6) dX9_init_148 rfl ?_
  refine r_icmp_ge (tgt := 172) dX9_init_150 (by decide) (fun hc => absurd hc (by decide)) (fun hc => ?_)
  refine r_aload_n (x := (0, 0, 0)) dX9_init_153 rfl ?_
  refine r_getr (z := some (31, 0, 0)) fw_X9_75 dX9_init_154 (kA_mem (tk_get hk (i := 0) rfl) (by omega)) rfl (lt_b rfl) (W_rd (tk_get hw (i := 342) rfl) (by omega)) ?_
  refine r_iload_n (x := 4) dX9_init_157 rfl ?_
  refine c_newo (N := 3) nw_X9_73 (tk_get hk (i := 141) rfl) (tk_get hA (i := 140) rfl) rfl rfl rfl dX9_init_158 (le_b rfl) (le_b rfl) ?_
  show X l mX9_init 4 144 2909 true _ (kA.take (n + 142)) 141 2786 161 [some (vR (0, 0, 0)), some (vI (4))] [vR (32, 4, 0), vI (4), vR (31, 0, 0)] (am_W (m + 409))
  refine r_dup dX9_init_161 rfl ?_
  refine c_callIN (as := []) (st := [vR (32, 4, 0), vI (4), vR (31, 0, 0)]) mn_X9_80 mi_X7_init rfl rfl (I_X7_init (l := l) (v := 4) (n := n + 141) (m := m + 409) (tk_sub hk 141 2 (by decide) rfl) (tk_sub hA 141 1 (by decide) rfl) (tk_sub hw 409 3 (by decide) rfl)) (le_b rfl) dX9_init_162 rfl (le_b rfl) (le_b rfl) (le_b rfl) ?_
  show X l mX9_init 4 144 2909 true _ (kA.take (n + 143)) 142 2846 165 [some (vR (0, 0, 0)), some (vI (4))] [vR (32, 4, 0), vI (4), vR (31, 0, 0)] (am_W (m + 412))
  refine c_aast (j := 4) (ci := 7) (t0 := 5) (r := (RX7, TX7, 3)) dX9_init_165 (kA_mem (tk_get hk (i := 92) rfl) (by omega)) (kA_mem (tk_get hk (i := 141) rfl) (by omega)) (le_b rfl) (fun _ => rfl) rfl rfl (vp_lit (i := 4) (n := 6) rfl) rfl (W_ur (tk_get hw (i := 412) rfl) rfl rfl rfl) ?_
  show X l mX9_init 4 144 2909 true _ (kA.take (n + 143)) 142 2846 166 [some (vR (0, 0, 0)), some (vI (4))] [] (am_W (m + 413))
  refine r_iinc (x := 4) (v := 5) (L' := [some (vR (0, 0, 0)), some (vI (5))]) dX9_init_166 rfl rfl (lt_b rfl) rfl ?_
  refine r_goto (tgt := 147) dX9_init_169 (by decide) ?_
  refine r_iload_n (x := 5) dX9_init_147 rfl ?_
  refine r_bipush (v := 6) dX9_init_148 rfl ?_
  refine r_icmp_ge (tgt := 172) dX9_init_150 (by decide) (fun hc => absurd hc (by decide)) (fun hc => ?_)
  refine r_aload_n (x := (0, 0, 0)) dX9_init_153 rfl ?_
  refine r_getr (z := some (31, 0, 0)) fw_X9_75 dX9_init_154 (kA_mem (tk_get hk (i := 0) rfl) (by omega)) rfl (lt_b rfl) (W_rd (tk_get hw (i := 342) rfl) (by omega)) ?_
  refine r_iload_n (x := 5) dX9_init_157 rfl ?_
  refine c_newo (N := 3) nw_X9_73 (tk_get hk (i := 143) rfl) (tk_get hA (i := 142) rfl) rfl rfl rfl dX9_init_158 (le_b rfl) (le_b rfl) ?_
  show X l mX9_init 4 144 2909 true _ (kA.take (n + 144)) 143 2849 161 [some (vR (0, 0, 0)), some (vI (5))] [vR (32, 5, 0), vI (5), vR (31, 0, 0)] (am_W (m + 413))
  refine r_dup dX9_init_161 rfl ?_
  refine c_callIN (as := []) (st := [vR (32, 5, 0), vI (5), vR (31, 0, 0)]) mn_X9_80 mi_X7_init rfl rfl (I_X7_init (l := l) (v := 5) (n := n + 143) (m := m + 413) (tk_sub hk 143 2 (by decide) rfl) (tk_sub hA 143 1 (by decide) rfl) (tk_sub hw 413 3 (by decide) rfl)) (le_b rfl) dX9_init_162 rfl (le_b rfl) (le_b rfl) (le_b rfl) ?_
  show X l mX9_init 4 144 2909 true _ (kA.take (n + 145)) 144 2909 165 [some (vR (0, 0, 0)), some (vI (5))] [vR (32, 5, 0), vI (5), vR (31, 0, 0)] (am_W (m + 416))
  refine c_aast (j := 5) (ci := 7) (t0 := 5) (r := (RX7, TX7, 3)) dX9_init_165 (kA_mem (tk_get hk (i := 92) rfl) (by omega)) (kA_mem (tk_get hk (i := 143) rfl) (by omega)) (le_b rfl) (fun _ => rfl) rfl rfl (vp_lit (i := 5) (n := 6) rfl) rfl (W_ur (tk_get hw (i := 416) rfl) rfl rfl rfl) ?_
  show X l mX9_init 4 144 2909 true _ (kA.take (n + 145)) 144 2909 166 [some (vR (0, 0, 0)), some (vI (5))] [] (am_W (m + 417))
  refine r_iinc (x := 5) (v := 6) (L' := [some (vR (0, 0, 0)), some (vI (6))]) dX9_init_166 rfl rfl (lt_b rfl) rfl ?_
  refine r_goto (tgt := 147) dX9_init_169 (by decide) ?_
  refine r_iload_n (x := 6) dX9_init_147 rfl ?_
  refine r_bipush (v := 6) dX9_init_148 rfl ?_
  refine r_icmp_ge (tgt := 172) dX9_init_150 (by decide) (fun hc => ?_) (fun hc => absurd hc (by decide))
  exact r_vret dX9_init_172 rfl (le_b rfl) (le_b rfl)

theorem dX10_init_0 : decode cX10_init 0 = .ok (.aload_n 0, 1) := by decide +kernel
theorem dX10_init_1 : decode cX10_init 1 = .ok (.invokespecial 1, 3) := by decide +kernel
theorem dX10_init_4 : decode cX10_init 4 = .ok (.aload_n 0, 1) := by decide +kernel
theorem dX10_init_5 : decode cX10_init 5 = .ok (.iconst 0, 1) := by decide +kernel
theorem dX10_init_6 : decode cX10_init 6 = .ok (.putfield 7, 3) := by decide +kernel
theorem dX10_init_9 : decode cX10_init 9 = .ok (.aload_n 0, 1) := by decide +kernel
theorem dX10_init_10 : decode cX10_init 10 = .ok (.iconst 0, 1) := by decide +kernel
theorem dX10_init_11 : decode cX10_init 11 = .ok (.putfield 13, 3) := by decide +kernel
theorem dX10_init_14 : decode cX10_init 14 = .ok (.aload_n 0, 1) := by decide +kernel
theorem dX10_init_15 : decode cX10_init 15 = .ok (.iconst 0, 1) := by decide +kernel
theorem dX10_init_16 : decode cX10_init 16 = .ok (.putfield 16, 3) := by decide +kernel
theorem dX10_init_19 : decode cX10_init 19 = .ok (.aload_n 0, 1) := by decide +kernel
theorem dX10_init_20 : decode cX10_init 20 = .ok (.iconst 0, 1) := by decide +kernel
theorem dX10_init_21 : decode cX10_init 21 = .ok (.putfield 19, 3) := by decide +kernel
theorem dX10_init_24 : decode cX10_init 24 = .ok (.aload_n 0, 1) := by decide +kernel
theorem dX10_init_25 : decode cX10_init 25 = .ok (.bipush 6, 2) := by decide +kernel
theorem dX10_init_27 : decode cX10_init 27 = .ok (.newarray .int, 2) := by decide +kernel
theorem dX10_init_29 : decode cX10_init 29 = .ok (.putfield 22, 3) := by decide +kernel
theorem dX10_init_32 : decode cX10_init 32 = .ok (.aload_n 0, 1) := by decide +kernel
theorem dX10_init_33 : decode cX10_init 33 = .ok (.bipush 6, 2) := by decide +kernel
theorem dX10_init_35 : decode cX10_init 35 = .ok (.newarray .int, 2) := by decide +kernel
theorem dX10_init_37 : decode cX10_init 37 = .ok (.putfield 26, 3) := by decide +kernel
theorem dX10_init_40 : decode cX10_init 40 = .ok (.aload_n 0, 1) := by decide +kernel
theorem dX10_init_41 : decode cX10_init 41 = .ok (.bipush 6, 2) := by decide +kernel
theorem dX10_init_43 : decode cX10_init 43 = .ok (.newarray .int, 2) := by decide +kernel
theorem dX10_init_45 : decode cX10_init 45 = .ok (.putfield 29, 3) := by decide +kernel
theorem dX10_init_48 : decode cX10_init 48 = .ok (.aload_n 0, 1) := by decide +kernel
theorem dX10_init_49 : decode cX10_init 49 = .ok (.bipush 6, 2) := by decide +kernel
theorem dX10_init_51 : decode cX10_init 51 = .ok (.newarray .int, 2) := by decide +kernel
theorem dX10_init_53 : decode cX10_init 53 = .ok (.putfield 32, 3) := by decide +kernel
theorem dX10_init_56 : decode cX10_init 56 = .ok (.aload_n 0, 1) := by decide +kernel
theorem dX10_init_57 : decode cX10_init 57 = .ok (.bipush 6, 2) := by decide +kernel
theorem dX10_init_59 : decode cX10_init 59 = .ok (.newarray .int, 2) := by decide +kernel
theorem dX10_init_61 : decode cX10_init 61 = .ok (.putfield 35, 3) := by decide +kernel
theorem dX10_init_64 : decode cX10_init 64 = .ok (.aload_n 0, 1) := by decide +kernel
theorem dX10_init_65 : decode cX10_init 65 = .ok (.bipush 6, 2) := by decide +kernel
theorem dX10_init_67 : decode cX10_init 67 = .ok (.newarray .int, 2) := by decide +kernel
theorem dX10_init_69 : decode cX10_init 69 = .ok (.putfield 38, 3) := by decide +kernel
theorem dX10_init_72 : decode cX10_init 72 = .ok (.aload_n 0, 1) := by decide +kernel
theorem dX10_init_73 : decode cX10_init 73 = .ok (.bipush 6, 2) := by decide +kernel
theorem dX10_init_75 : decode cX10_init 75 = .ok (.newarray .int, 2) := by decide +kernel
theorem dX10_init_77 : decode cX10_init 77 = .ok (.putfield 41, 3) := by decide +kernel
theorem dX10_init_80 : decode cX10_init 80 = .ok (.aload_n 0, 1) := by decide +kernel
theorem dX10_init_81 : decode cX10_init 81 = .ok (.bipush 6, 2) := by decide +kernel
theorem dX10_init_83 : decode cX10_init 83 = .ok (.newarray .int, 2) := by decide +kernel
theorem dX10_init_85 : decode cX10_init 85 = .ok (.putfield 44, 3) := by decide +kernel
theorem dX10_init_88 : decode cX10_init 88 = .ok (.aload_n 0, 1) := by decide +kernel
theorem dX10_init_89 : decode cX10_init 89 = .ok (.bipush 36, 2) := by decide +kernel
theorem dX10_init_91 : decode cX10_init 91 = .ok (.newarray .int, 2) := by decide +kernel
theorem dX10_init_93 : decode cX10_init 93 = .ok (.putfield 47, 3) := by decide +kernel
theorem dX10_init_96 : decode cX10_init 96 = .ok (.aload_n 0, 1) := by decide +kernel
theorem dX10_init_97 : decode cX10_init 97 = .ok (.iconst 0, 1) := by decide +kernel
theorem dX10_init_98 : decode cX10_init 98 = .ok (.putfield 50, 3) := by decide +kernel
theorem dX10_init_101 : decode cX10_init 101 = .ok (.aload_n 0, 1) := by decide +kernel
theorem dX10_init_102 : decode cX10_init 102 = .ok (.iconst (-1), 1) := by decide +kernel
theorem dX10_init_103 : decode cX10_init 103 = .ok (.putfield 53, 3) := by decide +kernel
theorem dX10_init_106 : decode cX10_init 106 = .ok (.aload_n 0, 1) := by decide +kernel
theorem dX10_init_107 : decode cX10_init 107 = .ok (.iconst 0, 1) := by decide +kernel
theorem dX10_init_108 : decode cX10_init 108 = .ok (.putfield 56, 3) := by decide +kernel
theorem dX10_init_111 : decode cX10_init 111 = .ok (.aload_n 0, 1) := by decide +kernel
theorem dX10_init_112 : decode cX10_init 112 = .ok (.iconst 0, 1) := by decide +kernel
theorem dX10_init_113 : decode cX10_init 113 = .ok (.putfield 59, 3) := by decide +kernel
theorem dX10_init_116 : decode cX10_init 116 = .ok (.aload_n 0, 1) := by decide +kernel
theorem dX10_init_117 : decode cX10_init 117 = .ok (.iconst 0, 1) := by decide +kernel
theorem dX10_init_118 : decode cX10_init 118 = .ok (.putfield 62, 3) := by decide +kernel
theorem dX10_init_121 : decode cX10_init 121 = .ok (.aload_n 0, 1) := by decide +kernel
theorem dX10_init_122 : decode cX10_init 122 = .ok (.bipush 100, 2) := by decide +kernel
theorem dX10_init_124 : decode cX10_init 124 = .ok (.newarray .int, 2) := by decide +kernel
theorem dX10_init_126 : decode cX10_init 126 = .ok (.putfield 65, 3) := by decide +kernel
theorem dX10_init_129 : decode cX10_init 129 = .ok (.aload_n 0, 1) := by decide +kernel
theorem dX10_init_130 : decode cX10_init 130 = .ok (.iconst 5, 1) := by decide +kernel
theorem dX10_init_131 : decode cX10_init 131 = .ok (.newarray .int, 2) := by decide +kernel
theorem dX10_init_133 : decode cX10_init 133 = .ok (.putfield 68, 3) := by decide +kernel
theorem dX10_init_136 : decode cX10_init 136 = .ok (.aload_n 0, 1) := by decide +kernel
theorem dX10_init_137 : decode cX10_init 137 = .ok (.bipush 50, 2) := by decide +kernel
theorem dX10_init_139 : decode cX10_init 139 = .ok (.newarray .int, 2) := by decide +kernel
theorem dX10_init_141 : decode cX10_init 141 = .ok (.putfield 71, 3) := by decide +kernel
theorem dX10_init_144 : decode cX10_init 144 = .ok (.aload_n 0, 1) := by decide +kernel
theorem dX10_init_145 : decode cX10_init 145 = .ok (.bipush 50, 2) := by decide +kernel
theorem dX10_init_147 : decode cX10_init 147 = .ok (.newarray .int, 2) := by decide +kernel
theorem dX10_init_149 : decode cX10_init 149 = .ok (.putfield 74, 3) := by decide +kernel
theorem dX10_init_152 : decode cX10_init 152 = .ok (.aload_n 0, 1) := by decide +kernel
theorem dX10_init_153 : decode cX10_init 153 = .ok (.bipush 50, 2) := by decide +kernel
theorem dX10_init_155 : decode cX10_init 155 = .ok (.newarray .int, 2) := by decide +kernel
theorem dX10_init_157 : decode cX10_init 157 = .ok (.putfield 77, 3) := by decide +kernel
theorem dX10_init_160 : decode cX10_init 160 = .ok (.aload_n 0, 1) := by decide +kernel
theorem dX10_init_161 : decode cX10_init 161 = .ok (.bipush 50, 2) := by decide +kernel
theorem dX10_init_163 : decode cX10_init 163 = .ok (.newarray .int, 2) := by decide +kernel
theorem dX10_init_165 : decode cX10_init 165 = .ok (.putfield 80, 3) := by decide +kernel
theorem dX10_init_168 : decode cX10_init 168 = .ok (.aload_n 0, 1) := by decide +kernel
theorem dX10_init_169 : decode cX10_init 169 = .ok (.bipush 50, 2) := by decide +kernel
theorem dX10_init_171 : decode cX10_init 171 = .ok (.newarray .int, 2) := by decide +kernel
theorem dX10_init_173 : decode cX10_init 173 = .ok (.putfield 83, 3) := by decide +kernel
theorem dX10_init_176 : decode cX10_init 176 = .ok (.aload_n 0, 1) := by decide +kernel
theorem dX10_init_177 : decode cX10_init 177 = .ok (.sipush 500, 3) := by decide +kernel
theorem dX10_init_180 : decode cX10_init 180 = .ok (.newarray .int, 2) := by decide +kernel
theorem dX10_init_182 : decode cX10_init 182 = .ok (.putfield 86, 3) := by decide +kernel
theorem dX10_init_185 : decode cX10_init 185 = .ok (.aload_n 0, 1) := by decide +kernel
theorem dX10_init_186 : decode cX10_init 186 = .ok (.bipush 101, 2) := by decide +kernel
theorem dX10_init_188 : decode cX10_init 188 = .ok (.newarray .int, 2) := by decide +kernel
theorem dX10_init_190 : decode cX10_init 190 = .ok (.putfield 89, 3) := by decide +kernel
theorem dX10_init_193 : decode cX10_init 193 = .ok (.aload_n 0, 1) := by decide +kernel
theorem dX10_init_194 : decode cX10_init 194 = .ok (.iconst 0, 1) := by decide +kernel
theorem dX10_init_195 : decode cX10_init 195 = .ok (.putfield 92, 3) := by decide +kernel
theorem dX10_init_198 : decode cX10_init 198 = .ok (.aload_n 0, 1) := by decide +kernel
theorem dX10_init_199 : decode cX10_init 199 = .ok (.iconst 0, 1) := by decide +kernel
theorem dX10_init_200 : decode cX10_init 200 = .ok (.putfield 95, 3) := by decide +kernel
theorem dX10_init_203 : decode cX10_init 203 = .ok (.aload_n 0, 1) := by decide +kernel
theorem dX10_init_204 : decode cX10_init 204 = .ok (.iconst 0, 1) := by decide +kernel
theorem dX10_init_205 : decode cX10_init 205 = .ok (.putfield 98, 3) := by decide +kernel
theorem dX10_init_208 : decode cX10_init 208 = .ok (.aload_n 0, 1) := by decide +kernel
theorem dX10_init_209 : decode cX10_init 209 = .ok (.bipush 19, 2) := by decide +kernel
theorem dX10_init_211 : decode cX10_init 211 = .ok (.newarray .int, 2) := by decide +kernel
theorem dX10_init_213 : decode cX10_init 213 = .ok (.dup, 1) := by decide +kernel
theorem dX10_init_214 : decode cX10_init 214 = .ok (.iconst 0, 1) := by decide +kernel
theorem dX10_init_215 : decode cX10_init 215 = .ok (.bipush 111, 2) := by decide +kernel
theorem dX10_init_217 : decode cX10_init 217 = .ok (.iastore, 1) := by decide +kernel
theorem dX10_init_218 : decode cX10_init 218 = .ok (.dup, 1) := by decide +kernel
theorem dX10_init_219 : decode cX10_init 219 = .ok (.iconst 1, 1) := by decide +kernel
theorem dX10_init_220 : decode cX10_init 220 = .ok (.bipush 117, 2) := by decide +kernel
theorem dX10_init_222 : decode cX10_init 222 = .ok (.iastore, 1) := by decide +kernel
theorem dX10_init_223 : decode cX10_init 223 = .ok (.dup, 1) := by decide +kernel
theorem dX10_init_224 : decode cX10_init 224 = .ok (.iconst 2, 1) := by decide +kernel
theorem dX10_init_225 : decode cX10_init 225 = .ok (.bipush 116, 2) := by decide +kernel
theorem dX10_init_227 : decode cX10_init 227 = .ok (.iastore, 1) := by decide +kernel
theorem dX10_init_228 : decode cX10_init 228 = .ok (.dup, 1) := by decide +kernel
theorem dX10_init_229 : decode cX10_init 229 = .ok (.iconst 3, 1) := by decide +kernel
theorem dX10_init_230 : decode cX10_init 230 = .ok (.bipush 98, 2) := by decide +kernel
theorem dX10_init_232 : decode cX10_init 232 = .ok (.iastore, 1) := by decide +kernel
theorem dX10_init_233 : decode cX10_init 233 = .ok (.dup, 1) := by decide +kernel
theorem dX10_init_234 : decode cX10_init 234 = .ok (.iconst 4, 1) := by decide +kernel
theorem dX10_init_235 : decode cX10_init 235 = .ok (.bipush 117, 2) := by decide +kernel
theorem dX10_init_237 : decode cX10_init 237 = .ok (.iastore, 1) := by decide +kernel
theorem dX10_init_238 : decode cX10_init 238 = .ok (.dup, 1) := by decide +kernel
theorem dX10_init_239 : decode cX10_init 239 = .ok (.iconst 5, 1) := by decide +kernel
theorem dX10_init_240 : decode cX10_init 240 = .ok (.bipush 114, 2) := by decide +kernel
theorem dX10_init_242 : decode cX10_init 242 = .ok (.iastore, 1) := by decide +kernel
theorem dX10_init_243 : decode cX10_init 243 = .ok (.dup, 1) := by decide +kernel
theorem dX10_init_244 : decode cX10_init 244 = .ok (.bipush 6, 2) := by decide +kernel
theorem dX10_init_246 : decode cX10_init 246 = .ok (.bipush 110, 2) := by decide +kernel
theorem dX10_init_248 : decode cX10_init 248 = .ok (.iastore, 1) := by decide +kernel
theorem dX10_init_249 : decode cX10_init 249 = .ok (.dup, 1) := by decide +kernel
theorem dX10_init_250 : decode cX10_init 250 = .ok (.bipush 7, 2) := by decide +kernel
theorem dX10_init_252 : decode cX10_init 252 = .ok (.bipush 104, 2) := by decide +kernel
theorem dX10_init_254 : decode cX10_init 254 = .ok (.iastore, 1) := by decide +kernel
theorem dX10_init_255 : decode cX10_init 255 = .ok (.dup, 1) := by decide +kernel
theorem dX10_init_256 : decode cX10_init 256 = .ok (.bipush 8, 2) := by decide +kernel
theorem dX10_init_258 : decode cX10_init 258 = .ok (.bipush 111, 2) := by decide +kernel
theorem dX10_init_260 : decode cX10_init 260 = .ok (.iastore, 1) := by decide +kernel
theorem dX10_init_261 : decode cX10_init 261 = .ok (.dup, 1) := by decide +kernel
theorem dX10_init_262 : decode cX10_init 262 = .ok (.bipush 9, 2) := by decide +kernel
theorem dX10_init_264 : decode cX10_init 264 = .ok (.bipush 114, 2) := by decide +kernel
theorem dX10_init_266 : decode cX10_init 266 = .ok (.iastore, 1) := by decide +kernel
theorem dX10_init_267 : decode cX10_init 267 = .ok (.dup, 1) := by decide +kernel
theorem dX10_init_268 : decode cX10_init 268 = .ok (.bipush 10, 2) := by decide +kernel
theorem dX10_init_270 : decode cX10_init 270 = .ok (.bipush 110, 2) := by decide +kernel
theorem dX10_init_272 : decode cX10_init 272 = .ok (.iastore, 1) := by decide +kernel
theorem dX10_init_273 : decode cX10_init 273 = .ok (.dup, 1) := by decide +kernel
theorem dX10_init_274 : decode cX10_init 274 = .ok (.bipush 11, 2) := by decide +kernel
theorem dX10_init_276 : decode cX10_init 276 = .ok (.bipush 110, 2) := by decide +kernel
theorem dX10_init_278 : decode cX10_init 278 = .ok (.iastore, 1) := by decide +kernel
theorem dX10_init_279 : decode cX10_init 279 = .ok (.dup, 1) := by decide +kernel
theorem dX10_init_280 : decode cX10_init 280 = .ok (.bipush 12, 2) := by decide +kernel
theorem dX10_init_282 : decode cX10_init 282 = .ok (.bipush 101, 2) := by decide +kernel
theorem dX10_init_284 : decode cX10_init 284 = .ok (.iastore, 1) := by decide +kernel
theorem dX10_init_285 : decode cX10_init 285 = .ok (.dup, 1) := by decide +kernel
theorem dX10_init_286 : decode cX10_init 286 = .ok (.bipush 13, 2) := by decide +kernel
theorem dX10_init_288 : decode cX10_init 288 = .ok (.bipush 120, 2) := by decide +kernel
theorem dX10_init_290 : decode cX10_init 290 = .ok (.iastore, 1) := by decide +kernel
theorem dX10_init_291 : decode cX10_init 291 = .ok (.dup, 1) := by decide +kernel
theorem dX10_init_292 : decode cX10_init 292 = .ok (.bipush 14, 2) := by decide +kernel
theorem dX10_init_294 : decode cX10_init 294 = .ok (.bipush 116, 2) := by decide +kernel
theorem dX10_init_296 : decode cX10_init 296 = .ok (.iastore, 1) := by decide +kernel
theorem dX10_init_297 : decode cX10_init 297 = .ok (.dup, 1) := by decide +kernel
theorem dX10_init_298 : decode cX10_init 298 = .ok (.bipush 15, 2) := by decide +kernel
theorem dX10_init_300 : decode cX10_init 300 = .ok (.bipush 110, 2) := by decide +kernel
theorem dX10_init_302 : decode cX10_init 302 = .ok (.iastore, 1) := by decide +kernel
theorem dX10_init_303 : decode cX10_init 303 = .ok (.dup, 1) := by decide +kernel
theorem dX10_init_304 : decode cX10_init 304 = .ok (.bipush 16, 2) := by decide +kernel
theorem dX10_init_306 : decode cX10_init 306 = .ok (.bipush 101, 2) := by decide +kernel
theorem dX10_init_308 : decode cX10_init 308 = .ok (.iastore, 1) := by decide +kernel
theorem dX10_init_309 : decode cX10_init 309 = .ok (.dup, 1) := by decide +kernel
theorem dX10_init_310 : decode cX10_init 310 = .ok (.bipush 17, 2) := by decide +kernel
theorem dX10_init_312 : decode cX10_init 312 = .ok (.bipush 101, 2) := by decide +kernel
theorem dX10_init_314 : decode cX10_init 314 = .ok (.iastore, 1) := by decide +kernel
theorem dX10_init_315 : decode cX10_init 315 = .ok (.dup, 1) := by decide +kernel
theorem dX10_init_316 : decode cX10_init 316 = .ok (.bipush 18, 2) := by decide +kernel
theorem dX10_init_318 : decode cX10_init 318 = .ok (.bipush 100, 2) := by decide +kernel
theorem dX10_init_320 : decode cX10_init 320 = .ok (.iastore, 1) := by decide +kernel
theorem dX10_init_321 : decode cX10_init 321 = .ok (.putfield 101, 3) := by decide +kernel
theorem dX10_init_324 : decode cX10_init 324 = .ok (.aload_n 0, 1) := by decide +kernel
theorem dX10_init_325 : decode cX10_init 325 = .ok (.bipush 9, 2) := by decide +kernel
theorem dX10_init_327 : decode cX10_init 327 = .ok (.newarray .int, 2) := by decide +kernel
theorem dX10_init_329 : decode cX10_init 329 = .ok (.putfield 104, 3) := by decide +kernel
theorem dX10_init_332 : decode cX10_init 332 = .ok (.aload_n 0, 1) := by decide +kernel
theorem dX10_init_333 : decode cX10_init 333 = .ok (.iconst 0, 1) := by decide +kernel
theorem dX10_init_334 : decode cX10_init 334 = .ok (.putfield 107, 3) := by decide +kernel
theorem dX10_init_337 : decode cX10_init 337 = .ok (.aload_n 0, 1) := by decide +kernel
theorem dX10_init_338 : decode cX10_init 338 = .ok (.iconst 0, 1) := by decide +kernel
theorem dX10_init_339 : decode cX10_init 339 = .ok (.putfield 110, 3) := by decide +kernel
theorem dX10_init_342 : decode cX10_init 342 = .ok (.aload_n 0, 1) := by decide +kernel
theorem dX10_init_343 : decode cX10_init 343 = .ok (.iconst 0, 1) := by decide +kernel
theorem dX10_init_344 : decode cX10_init 344 = .ok (.putfield 113, 3) := by decide +kernel
theorem dX10_init_347 : decode cX10_init 347 = .ok (.aload_n 0, 1) := by decide +kernel
theorem dX10_init_348 : decode cX10_init 348 = .ok (.iconst 0, 1) := by decide +kernel
theorem dX10_init_349 : decode cX10_init 349 = .ok (.putfield 116, 3) := by decide +kernel
theorem dX10_init_352 : decode cX10_init 352 = .ok (.aload_n 0, 1) := by decide +kernel
theorem dX10_init_353 : decode cX10_init 353 = .ok (.iconst 0, 1) := by decide +kernel
theorem dX10_init_354 : decode cX10_init 354 = .ok (.putfield 119, 3) := by decide +kernel
theorem dX10_init_357 : decode cX10_init 357 = .ok (.aload_n 0, 1) := by decide +kernel
theorem dX10_init_358 : decode cX10_init 358 = .ok (.bipush 6, 2) := by decide +kernel
theorem dX10_init_360 : decode cX10_init 360 = .ok (.newarray .int, 2) := by decide +kernel
theorem dX10_init_362 : decode cX10_init 362 = .ok (.putfield 122, 3) := by decide +kernel
theorem dX10_init_365 : decode cX10_init 365 = .ok (.aload_n 0, 1) := by decide +kernel
theorem dX10_init_366 : decode cX10_init 366 = .ok (.bipush 6, 2) := by decide +kernel
theorem dX10_init_368 : decode cX10_init 368 = .ok (.newarray .int, 2) := by decide +kernel
theorem dX10_init_370 : decode cX10_init 370 = .ok (.putfield 125, 3) := by decide +kernel
theorem dX10_init_373 : decode cX10_init 373 = .ok (.aload_n 0, 1) := by decide +kernel
theorem dX10_init_374 : decode cX10_init 374 = .ok (.bipush 6, 2) := by decide +kernel
theorem dX10_init_376 : decode cX10_init 376 = .ok (.newarray .int, 2) := by decide +kernel
theorem dX10_init_378 : decode cX10_init 378 = .ok (.putfield 128, 3) := by decide +kernel
theorem dX10_init_381 : decode cX10_init 381 = .ok (.aload_n 0, 1) := by decide +kernel
theorem dX10_init_382 : decode cX10_init 382 = .ok (.bipush 6, 2) := by decide +kernel
theorem dX10_init_384 : decode cX10_init 384 = .ok (.newarray .int, 2) := by decide +kernel
theorem dX10_init_386 : decode cX10_init 386 = .ok (.putfield 131, 3) := by decide +kernel
theorem dX10_init_389 : decode cX10_init 389 = .ok (.aload_n 0, 1) := by decide +kernel
theorem dX10_init_390 : decode cX10_init 390 = .ok (.bipush 6, 2) := by decide +kernel
theorem dX10_init_392 : decode cX10_init 392 = .ok (.newarray .int, 2) := by decide +kernel
theorem dX10_init_394 : decode cX10_init 394 = .ok (.putfield 134, 3) := by decide +kernel
theorem dX10_init_397 : decode cX10_init 397 = .ok (.aload_n 0, 1) := by decide +kernel
theorem dX10_init_398 : decode cX10_init 398 = .ok (.bipush 6, 2) := by decide +kernel
theorem dX10_init_400 : decode cX10_init 400 = .ok (.newarray .int, 2) := by decide +kernel
theorem dX10_init_402 : decode cX10_init 402 = .ok (.putfield 137, 3) := by decide +kernel
theorem dX10_init_405 : decode cX10_init 405 = .ok (.aload_n 0, 1) := by decide +kernel
theorem dX10_init_406 : decode cX10_init 406 = .ok (.bipush 6, 2) := by decide +kernel
theorem dX10_init_408 : decode cX10_init 408 = .ok (.newarray .int, 2) := by decide +kernel
theorem dX10_init_410 : decode cX10_init 410 = .ok (.putfield 140, 3) := by decide +kernel
theorem dX10_init_413 : decode cX10_init 413 = .ok (.aload_n 0, 1) := by decide +kernel
theorem dX10_init_414 : decode cX10_init 414 = .ok (.bipush 6, 2) := by decide +kernel
theorem dX10_init_416 : decode cX10_init 416 = .ok (.newarray .int, 2) := by decide +kernel
theorem dX10_init_418 : decode cX10_init 418 = .ok (.putfield 143, 3) := by decide +kernel
theorem dX10_init_421 : decode cX10_init 421 = .ok (.aload_n 0, 1) := by decide +kernel
theorem dX10_init_422 : decode cX10_init 422 = .ok (.bipush 100, 2) := by decide +kernel
theorem dX10_init_424 : decode cX10_init 424 = .ok (.newarray .boolean, 2) := by decide +kernel
theorem dX10_init_426 : decode cX10_init 426 = .ok (.putfield 146, 3) := by decide +kernel
theorem dX10_init_429 : decode cX10_init 429 = .ok (.aload_n 0, 1) := by decide +kernel
theorem dX10_init_430 : decode cX10_init 430 = .ok (.iconst 0, 1) := by decide +kernel
theorem dX10_init_431 : decode cX10_init 431 = .ok (.putfield 150, 3) := by decide +kernel
theorem dX10_init_434 : decode cX10_init 434 = .ok (.aload_n 0, 1) := by decide +kernel
theorem dX10_init_435 : decode cX10_init 435 = .ok (.bipush 12, 2) := by decide +kernel
theorem dX10_init_437 : decode cX10_init 437 = .ok (.newarray .int, 2) := by decide +kernel
theorem dX10_init_439 : decode cX10_init 439 = .ok (.putfield 153, 3) := by decide +kernel
theorem dX10_init_442 : decode cX10_init 442 = .ok (.aload_n 0, 1) := by decide +kernel
theorem dX10_init_443 : decode cX10_init 443 = .ok (.bipush 12, 2) := by decide +kernel
theorem dX10_init_445 : decode cX10_init 445 = .ok (.newarray .int, 2) := by decide +kernel
theorem dX10_init_447 : decode cX10_init 447 = .ok (.putfield 156, 3) := by decide +kernel
theorem dX10_init_450 : decode cX10_init 450 = .ok (.aload_n 0, 1) := by decide +kernel
theorem dX10_init_451 : decode cX10_init 451 = .ok (.bipush 36, 2) := by decide +kernel
theorem dX10_init_453 : decode cX10_init 453 = .ok (.newarray .int, 2) := by decide +kernel
theorem dX10_init_455 : decode cX10_init 455 = .ok (.putfield 159, 3) := by decide +kernel
theorem dX10_init_458 : decode cX10_init 458 = .ok (.aload_n 0, 1) := by decide +kernel
theorem dX10_init_459 : decode cX10_init 459 = .ok (.iconst 0, 1) := by decide +kernel
theorem dX10_init_460 : decode cX10_init 460 = .ok (.putfield 162, 3) := by decide +kernel
theorem dX10_init_463 : decode cX10_init 463 = .ok (.aload_n 0, 1) := by decide +kernel
theorem dX10_init_464 : decode cX10_init 464 = .ok (.iconst 0, 1) := by decide +kernel
theorem dX10_init_465 : decode cX10_init 465 = .ok (.putfield 165, 3) := by decide +kernel
theorem dX10_init_468 : decode cX10_init 468 = .ok (.aload_n 0, 1) := by decide +kernel
theorem dX10_init_469 : decode cX10_init 469 = .ok (.iconst 0, 1) := by decide +kernel
theorem dX10_init_470 : decode cX10_init 470 = .ok (.putfield 168, 3) := by decide +kernel
theorem dX10_init_473 : decode cX10_init 473 = .ok (.aload_n 0, 1) := by decide +kernel
theorem dX10_init_474 : decode cX10_init 474 = .ok (.bipush 6, 2) := by decide +kernel
theorem dX10_init_476 : decode cX10_init 476 = .ok (.newarray .int, 2) := by decide +kernel
theorem dX10_init_478 : decode cX10_init 478 = .ok (.putfield 171, 3) := by decide +kernel
theorem dX10_init_481 : decode cX10_init 481 = .ok (.aload_n 0, 1) := by decide +kernel
theorem dX10_init_482 : decode cX10_init 482 = .ok (.bipush 6, 2) := by decide +kernel
theorem dX10_init_484 : decode cX10_init 484 = .ok (.newarray .int, 2) := by decide +kernel
theorem dX10_init_486 : decode cX10_init 486 = .ok (.putfield 174, 3) := by decide +kernel
theorem dX10_init_489 : decode cX10_init 489 = .ok (.aload_n 0, 1) := by decide +kernel
theorem dX10_init_490 : decode cX10_init 490 = .ok (.bipush 6, 2) := by decide +kernel
theorem dX10_init_492 : decode cX10_init 492 = .ok (.newarray .int, 2) := by decide +kernel
theorem dX10_init_494 : decode cX10_init 494 = .ok (.putfield 177, 3) := by decide +kernel
theorem dX10_init_497 : decode cX10_init 497 = .ok (.aload_n 0, 1) := by decide +kernel
theorem dX10_init_498 : decode cX10_init 498 = .ok (.bipush 6, 2) := by decide +kernel
theorem dX10_init_500 : decode cX10_init 500 = .ok (.newarray .int, 2) := by decide +kernel
theorem dX10_init_502 : decode cX10_init 502 = .ok (.putfield 180, 3) := by decide +kernel
theorem dX10_init_505 : decode cX10_init 505 = .ok (.aload_n 0, 1) := by decide +kernel
theorem dX10_init_506 : decode cX10_init 506 = .ok (.bipush 6, 2) := by decide +kernel
theorem dX10_init_508 : decode cX10_init 508 = .ok (.newarray .int, 2) := by decide +kernel
theorem dX10_init_510 : decode cX10_init 510 = .ok (.putfield 183, 3) := by decide +kernel
theorem dX10_init_513 : decode cX10_init 513 = .ok (.aload_n 0, 1) := by decide +kernel
theorem dX10_init_514 : decode cX10_init 514 = .ok (.lconst 0, 1) := by decide +kernel
theorem dX10_init_515 : decode cX10_init 515 = .ok (.putfield 186, 3) := by decide +kernel
theorem dX10_init_518 : decode cX10_init 518 = .ok (.aload_n 0, 1) := by decide +kernel
theorem dX10_init_519 : decode cX10_init 519 = .ok (.lconst 0, 1) := by decide +kernel
theorem dX10_init_520 : decode cX10_init 520 = .ok (.putfield 190, 3) := by decide +kernel
theorem dX10_init_523 : decode cX10_init 523 = .ok (.aload_n 0, 1) := by decide +kernel
theorem dX10_init_524 : decode cX10_init 524 = .ok (.iconst 0, 1) := by decide +kernel
theorem dX10_init_525 : decode cX10_init 525 = .ok (.putfield 193, 3) := by decide +kernel
theorem dX10_init_528 : decode cX10_init 528 = .ok (.aload_n 0, 1) := by decide +kernel
theorem dX10_init_529 : decode cX10_init 529 = .ok (.iconst (-1), 1) := by decide +kernel
theorem dX10_init_530 : decode cX10_init 530 = .ok (.putfield 197, 3) := by decide +kernel
theorem dX10_init_533 : decode cX10_init 533 = .ok (.aload_n 0, 1) := by decide +kernel
theorem dX10_init_534 : decode cX10_init 534 = .ok (.iconst 0, 1) := by decide +kernel
theorem dX10_init_535 : decode cX10_init 535 = .ok (.putfield 200, 3) := by decide +kernel
theorem dX10_init_538 : decode cX10_init 538 = .ok (.aload_n 0, 1) := by decide +kernel
theorem dX10_init_539 : decode cX10_init 539 = .ok (.iconst 0, 1) := by decide +kernel
theorem dX10_init_540 : decode cX10_init 540 = .ok (.putfield 203, 3) := by decide +kernel
theorem dX10_init_543 : decode cX10_init 543 = .ok (.aload_n 0, 1) := by decide +kernel
theorem dX10_init_544 : decode cX10_init 544 = .ok (.iconst 0, 1) := by decide +kernel
theorem dX10_init_545 : decode cX10_init 545 = .ok (.putfield 206, 3) := by decide +kernel
theorem dX10_init_548 : decode cX10_init 548 = .ok (.aload_n 0, 1) := by decide +kernel
theorem dX10_init_549 : decode cX10_init 549 = .ok (.iconst 0, 1) := by decide +kernel
theorem dX10_init_550 : decode cX10_init 550 = .ok (.putfield 209, 3) := by decide +kernel
theorem dX10_init_553 : decode cX10_init 553 = .ok (.aload_n 0, 1) := by decide +kernel
theorem dX10_init_554 : decode cX10_init 554 = .ok (.iconst 0, 1) := by decide +kernel
theorem dX10_init_555 : decode cX10_init 555 = .ok (.putfield 212, 3) := by decide +kernel
theorem dX10_init_558 : decode cX10_init 558 = .ok (.aload_n 0, 1) := by decide +kernel
theorem dX10_init_559 : decode cX10_init 559 = .ok (.bipush 6, 2) := by decide +kernel
theorem dX10_init_561 : decode cX10_init 561 = .ok (.newarray .int, 2) := by decide +kernel
theorem dX10_init_563 : decode cX10_init 563 = .ok (.putfield 215, 3) := by decide +kernel
theorem dX10_init_566 : decode cX10_init 566 = .ok (.aload_n 0, 1) := by decide +kernel
theorem dX10_init_567 : decode cX10_init 567 = .ok (.bipush 6, 2) := by decide +kernel
theorem dX10_init_569 : decode cX10_init 569 = .ok (.newarray .int, 2) := by decide +kernel
theorem dX10_init_571 : decode cX10_init 571 = .ok (.putfield 218, 3) := by decide +kernel
theorem dX10_init_574 : decode cX10_init 574 = .ok (.aload_n 0, 1) := by decide +kernel
theorem dX10_init_575 : decode cX10_init 575 = .ok (.bipush 6, 2) := by decide +kernel
theorem dX10_init_577 : decode cX10_init 577 = .ok (.newarray .int, 2) := by decide +kernel
theorem dX10_init_579 : decode cX10_init 579 = .ok (.putfield 221, 3) := by decide +kernel
theorem dX10_init_582 : decode cX10_init 582 = .ok (.aload_n 0, 1) := by decide +kernel
theorem dX10_init_583 : decode cX10_init 583 = .ok (.bipush 6, 2) := by decide +kernel
theorem dX10_init_585 : decode cX10_init 585 = .ok (.newarray .int, 2) := by decide +kernel
theorem dX10_init_587 : decode cX10_init 587 = .ok (.putfield 224, 3) := by decide +kernel
theorem dX10_init_590 : decode cX10_init 590 = .ok (.aload_n 0, 1) := by decide +kernel
theorem dX10_init_591 : decode cX10_init 591 = .ok (.bipush 6, 2) := by decide +kernel
theorem dX10_init_593 : decode cX10_init 593 = .ok (.newarray .int, 2) := by decide +kernel
theorem dX10_init_595 : decode cX10_init 595 = .ok (.putfield 227, 3) := by decide +kernel
theorem dX10_init_598 : decode cX10_init 598 = .ok (.aload_n 0, 1) := by decide +kernel
theorem dX10_init_599 : decode cX10_init 599 = .ok (.bipush 6, 2) := by decide +kernel
theorem dX10_init_601 : decode cX10_init 601 = .ok (.newarray .int, 2) := by decide +kernel
theorem dX10_init_603 : decode cX10_init 603 = .ok (.putfield 230, 3) := by decide +kernel
theorem dX10_init_606 : decode cX10_init 606 = .ok (.aload_n 0, 1) := by decide +kernel
theorem dX10_init_607 : decode cX10_init 607 = .ok (.bipush 6, 2) := by decide +kernel
theorem dX10_init_609 : decode cX10_init 609 = .ok (.newarray .int, 2) := by decide +kernel
theorem dX10_init_611 : decode cX10_init 611 = .ok (.putfield 233, 3) := by decide +kernel
theorem dX10_init_614 : decode cX10_init 614 = .ok (.aload_n 0, 1) := by decide +kernel
theorem dX10_init_615 : decode cX10_init 615 = .ok (.bipush 6, 2) := by decide +kernel
theorem dX10_init_617 : decode cX10_init 617 = .ok (.newarray .int, 2) := by decide +kernel
theorem dX10_init_619 : decode cX10_init 619 = .ok (.putfield 236, 3) := by decide +kernel
theorem dX10_init_622 : decode cX10_init 622 = .ok (.aload_n 0, 1) := by decide +kernel
theorem dX10_init_623 : decode cX10_init 623 = .ok (.bipush 36, 2) := by decide +kernel
theorem dX10_init_625 : decode cX10_init 625 = .ok (.newarray .int, 2) := by decide +kernel
theorem dX10_init_627 : decode cX10_init 627 = .ok (.putfield 239, 3) := by decide +kernel
theorem dX10_init_630 : decode cX10_init 630 = .ok (.aload_n 0, 1) := by decide +kernel
theorem dX10_init_631 : decode cX10_init 631 = .ok (.bipush 12, 2) := by decide +kernel
theorem dX10_init_633 : decode cX10_init 633 = .ok (.newarray .int, 2) := by decide +kernel
theorem dX10_init_635 : decode cX10_init 635 = .ok (.putfield 242, 3) := by decide +kernel
theorem dX10_init_638 : decode cX10_init 638 = .ok (.aload_n 0, 1) := by decide +kernel
theorem dX10_init_639 : decode cX10_init 639 = .ok (.bipush 12, 2) := by decide +kernel
theorem dX10_init_641 : decode cX10_init 641 = .ok (.newarray .int, 2) := by decide +kernel
theorem dX10_init_643 : decode cX10_init 643 = .ok (.putfield 245, 3) := by decide +kernel
theorem dX10_init_646 : decode cX10_init 646 = .ok (.aload_n 0, 1) := by decide +kernel
theorem dX10_init_647 : decode cX10_init 647 = .ok (.iconst 0, 1) := by decide +kernel
theorem dX10_init_648 : decode cX10_init 648 = .ok (.putfield 248, 3) := by decide +kernel
theorem dX10_init_651 : decode cX10_init 651 = .ok (.aload_n 0, 1) := by decide +kernel
theorem dX10_init_652 : decode cX10_init 652 = .ok (.bipush 20, 2) := by decide +kernel
theorem dX10_init_654 : decode cX10_init 654 = .ok (.newarray .int, 2) := by decide +kernel
theorem dX10_init_656 : decode cX10_init 656 = .ok (.putfield 251, 3) := by decide +kernel
theorem dX10_init_659 : decode cX10_init 659 = .ok (.aload_n 0, 1) := by decide +kernel
theorem dX10_init_660 : decode cX10_init 660 = .ok (.bipush 6, 2) := by decide +kernel
theorem dX10_init_662 : decode cX10_init 662 = .ok (.newarray .int, 2) := by decide +kernel
theorem dX10_init_664 : decode cX10_init 664 = .ok (.dup, 1) := by decide +kernel
theorem dX10_init_665 : decode cX10_init 665 = .ok (.iconst 0, 1) := by decide +kernel
theorem dX10_init_666 : decode cX10_init 666 = .ok (.iconst (-1), 1) := by decide +kernel
theorem dX10_init_667 : decode cX10_init 667 = .ok (.iastore, 1) := by decide +kernel
theorem dX10_init_668 : decode cX10_init 668 = .ok (.dup, 1) := by decide +kernel
theorem dX10_init_669 : decode cX10_init 669 = .ok (.iconst 1, 1) := by decide +kernel
theorem dX10_init_670 : decode cX10_init 670 = .ok (.iconst (-1), 1) := by decide +kernel
theorem dX10_init_671 : decode cX10_init 671 = .ok (.iastore, 1) := by decide +kernel
theorem dX10_init_672 : decode cX10_init 672 = .ok (.dup, 1) := by decide +kernel
theorem dX10_init_673 : decode cX10_init 673 = .ok (.iconst 2, 1) := by decide +kernel
theorem dX10_init_674 : decode cX10_init 674 = .ok (.iconst (-1), 1) := by decide +kernel
theorem dX10_init_675 : decode cX10_init 675 = .ok (.iastore, 1) := by decide +kernel
theorem dX10_init_676 : decode cX10_init 676 = .ok (.dup, 1) := by decide +kernel
theorem dX10_init_677 : decode cX10_init 677 = .ok (.iconst 3, 1) := by decide +kernel
theorem dX10_init_678 : decode cX10_init 678 = .ok (.iconst (-1), 1) := by decide +kernel
theorem dX10_init_679 : decode cX10_init 679 = .ok (.iastore, 1) := by decide +kernel
theorem dX10_init_680 : decode cX10_init 680 = .ok (.dup, 1) := by decide +kernel
theorem dX10_init_681 : decode cX10_init 681 = .ok (.iconst 4, 1) := by decide +kernel
theorem dX10_init_682 : decode cX10_init 682 = .ok (.iconst (-1), 1) := by decide +kernel
theorem dX10_init_683 : decode cX10_init 683 = .ok (.iastore, 1) := by decide +kernel
theorem dX10_init_684 : decode cX10_init 684 = .ok (.dup, 1) := by decide +kernel
theorem dX10_init_685 : decode cX10_init 685 = .ok (.iconst 5, 1) := by decide +kernel
theorem dX10_init_686 : decode cX10_init 686 = .ok (.iconst (-1), 1) := by decide +kernel
theorem dX10_init_687 : decode cX10_init 687 = .ok (.iastore, 1) := by decide +kernel
theorem dX10_init_688 : decode cX10_init 688 = .ok (.putfield 254, 3) := by decide +kernel
theorem dX10_init_691 : decode cX10_init 691 = .ok (.aload_n 0, 1) := by decide +kernel
theorem dX10_init_692 : decode cX10_init 692 = .ok (.bipush 6, 2) := by decide +kernel
theorem dX10_init_694 : decode cX10_init 694 = .ok (.newarray .int, 2) := by decide +kernel
theorem dX10_init_696 : decode cX10_init 696 = .ok (.putfield 257, 3) := by decide +kernel
theorem dX10_init_699 : decode cX10_init 699 = .ok (.aload_n 0, 1) := by decide +kernel
theorem dX10_init_700 : decode cX10_init 700 = .ok (.sipush 360, 3) := by decide +kernel
theorem dX10_init_703 : decode cX10_init 703 = .ok (.newarray .long, 2) := by decide +kernel
theorem dX10_init_705 : decode cX10_init 705 = .ok (.putfield 260, 3) := by decide +kernel
theorem dX10_init_708 : decode cX10_init 708 = .ok (.aload_n 0, 1) := by decide +kernel
theorem dX10_init_709 : decode cX10_init 709 = .ok (.bipush 60, 2) := by decide +kernel
theorem dX10_init_711 : decode cX10_init 711 = .ok (.newarray .long, 2) := by decide +kernel
theorem dX10_init_713 : decode cX10_init 713 = .ok (.putfield 264, 3) := by decide +kernel
theorem dX10_init_716 : decode cX10_init 716 = .ok (.return_, 1) := by decide +kernel
set_option maxHeartbeats 4000000 in
set_option maxRecDepth 20000 in
theorem I_X10_init {l : Launch}  {n m : Nat} (hk : (kA.drop n).take 54 = [(40, 0, 0), (41, 0, 0), (42, 0, 0), (43, 0, 0), (44, 0, 0), (45, 0, 0), (46, 0, 0), (47, 0, 0), (48, 0, 0), (49, 0, 0), (50, 0, 0), (51, 0, 0), (52, 0, 0), (53, 0, 0), (54, 0, 0), (55, 0, 0), (56, 0, 0), (57, 0, 0), (58, 0, 0), (59, 0, 0), (60, 0, 0), (61, 0, 0), (62, 0, 0), (63, 0, 0), (64, 0, 0), (65, 0, 0), (66, 0, 0), (67, 0, 0), (68, 0, 0), (69, 0, 0), (70, 0, 0), (71, 0, 0), (72, 0, 0), (73, 0, 0), (74, 0, 0), (75, 0, 0), (76, 0, 0), (77, 0, 0), (78, 0, 0), (79, 0, 0), (80, 0, 0), (81, 0, 0), (82, 0, 0), (83, 0, 0), (84, 0, 0), (85, 0, 0), (86, 0, 0), (87, 0, 0), (88, 0, 0), (89, 0, 0), (90, 0, 0), (91, 0, 0), (92, 0, 0), (93, 0, 0)]) (hA : (AL.drop (n + 1)).take 53 = [m + 4, m + 5, m + 6, m + 7, m + 8, m + 9, m + 10, m + 11, m + 12, m + 18, m + 19, m + 20, m + 21, m + 22, m + 23, m + 24, m + 25, m + 26, m + 30, m + 50, m + 56, m + 57, m + 58, m + 59, m + 60, m + 61, m + 62, m + 63, m + 64, m + 66, m + 67, m + 68, m + 72, m + 73, m + 74, m + 75, m + 76, m + 86, m + 87, m + 88, m + 89, m + 90, m + 91, m + 92, m + 93, m + 94, m + 95, m + 96, m + 98, m + 99, m + 106, m + 107, m + 108]) (hw : (WL.drop m).take 109 = [((40, 0, 0), 0), ((40, 0, 0), 1), ((40, 0, 0), 2), ((40, 0, 0), 3), ((40, 0, 0), 4), ((40, 0, 0), 5), ((40, 0, 0), 6), ((40, 0, 0), 7), ((40, 0, 0), 8), ((40, 0, 0), 9), ((40, 0, 0), 10), ((40, 0, 0), 11), ((40, 0, 0), 12), ((40, 0, 0), 13), ((40, 0, 0), 14), ((40, 0, 0), 15), ((40, 0, 0), 16), ((40, 0, 0), 17), ((40, 0, 0), 18), ((40, 0, 0), 19), ((40, 0, 0), 20), ((40, 0, 0), 21), ((40, 0, 0), 22), ((40, 0, 0), 23), ((40, 0, 0), 24), ((40, 0, 0), 25), ((40, 0, 0), 26), ((40, 0, 0), 27), ((40, 0, 0), 28), ((40, 0, 0), 29), ((59, 0, 0), 0), ((59, 0, 0), 1), ((59, 0, 0), 2), ((59, 0, 0), 3), ((59, 0, 0), 4), ((59, 0, 0), 5), ((59, 0, 0), 6), ((59, 0, 0), 7), ((59, 0, 0), 8), ((59, 0, 0), 9), ((59, 0, 0), 10), ((59, 0, 0), 11), ((59, 0, 0), 12), ((59, 0, 0), 13), ((59, 0, 0), 14), ((59, 0, 0), 15), ((59, 0, 0), 16), ((59, 0, 0), 17), ((59, 0, 0), 18), ((40, 0, 0), 30), ((40, 0, 0), 31), ((40, 0, 0), 32), ((40, 0, 0), 33), ((40, 0, 0), 34), ((40, 0, 0), 35), ((40, 0, 0), 36), ((40, 0, 0), 37), ((40, 0, 0), 38), ((40, 0, 0), 39), ((40, 0, 0), 40), ((40, 0, 0), 41), ((40, 0, 0), 42), ((40, 0, 0), 43), ((40, 0, 0), 44), ((40, 0, 0), 45), ((40, 0, 0), 46), ((40, 0, 0), 47), ((40, 0, 0), 48), ((40, 0, 0), 49), ((40, 0, 0), 50), ((40, 0, 0), 51), ((40, 0, 0), 52), ((40, 0, 0), 53), ((40, 0, 0), 54), ((40, 0, 0), 55), ((40, 0, 0), 56), ((40, 0, 0), 57), ((40, 0, 0), 58), ((40, 0, 0), 59), ((40, 0, 0), 60), ((40, 0, 0), 61), ((40, 0, 0), 62), ((40, 0, 0), 63), ((40, 0, 0), 64), ((40, 0, 0), 65), ((40, 0, 0), 66), ((40, 0, 0), 67), ((40, 0, 0), 68), ((40, 0, 0), 69), ((40, 0, 0), 70), ((40, 0, 0), 71), ((40, 0, 0), 72), ((40, 0, 0), 73), ((40, 0, 0), 74), ((40, 0, 0), 75), ((40, 0, 0), 76), ((40, 0, 0), 77), ((40, 0, 0), 78), ((40, 0, 0), 79), ((90, 0, 0), 0), ((90, 0, 0), 1), ((90, 0, 0), 2), ((90, 0, 0), 3), ((90, 0, 0), 4), ((90, 0, 0), 5), ((40, 0, 0), 80), ((40, 0, 0), 81), ((40, 0, 0), 82), ((40, 0, 0), 83)]) : Ev l mX10_init 1 53 1866 true [vR (40, 0, 0)] (kA.take (n + 1)) (am_W m) (none, kA.take (n + 54), am_W (m + 109)) := by
  refine Ev_of (by decide +kernel) (le_b rfl) ?_
  show X l mX10_init 1 53 1866 true _ (kA.take (n + 1)) 0 0 0 [some (vR (40, 0, 0))] [] (am_W m)
  refine r_aload_n (x := (40, 0, 0)) dX10_init_0 rfl ?_
  refine r_objInit oi_X10_1 oi_b.1 oi_b.2 dX10_init_1 (le_b rfl) (le_b rfl) ?_
  refine r_aload_n (x := (40, 0, 0)) dX10_init_4 rfl ?_
  refine r_iconst (v := 0) dX10_init_5 rfl ?_
  refine r_puti fp_X10_7 (fun h => by cases h) dX10_init_6 (kA_mem (tk_get hk (i := 0) rfl) (by omega)) rfl (lt_b rfl) rfl rfl rfl ?_
  refine X_W (W_ui (tk_get hw (i := 0) rfl) rfl rfl rfl) ?_
  show X l mX10_init 1 53 1866 true _ (kA.take (n + 1)) 0 0 9 [some (vR (40, 0, 0))] [] (am_W (m + 1))
  refine r_aload_n (x := (40, 0, 0)) dX10_init_9 rfl ?_
  refine r_iconst (v := 0) dX10_init_10 rfl ?_
  refine r_puti fp_X10_13 (fun h => by cases h) dX10_init_11 (kA_mem (tk_get hk (i := 0) rfl) (by omega)) rfl (lt_b rfl) rfl rfl rfl ?_
  refine X_W (W_ui (tk_get hw (i := 1) rfl) rfl rfl rfl) ?_
  show X l mX10_init 1 53 1866 true _ (kA.take (n + 1)) 0 0 14 [some (vR (40, 0, 0))] [] (am_W (m + 2))
  refine r_aload_n (x := (40, 0, 0)) dX10_init_14 rfl ?_
  refine r_iconst (v := 0) dX10_init_15 rfl ?_
  refine r_puti fp_X10_16 (fun h => by cases h) dX10_init_16 (kA_mem (tk_get hk (i := 0) rfl) (by omega)) rfl (lt_b rfl) rfl rfl rfl ?_
  refine X_W (W_ui (tk_get hw (i := 2) rfl) rfl rfl rfl) ?_
  show X l mX10_init 1 53 1866 true _ (kA.take (n + 1)) 0 0 19 [some (vR (40, 0, 0))] [] (am_W (m + 3))
  refine r_aload_n (x := (40, 0, 0)) dX10_init_19 rfl ?_
  refine r_iconst (v := 0) dX10_init_20 rfl ?_
  refine r_puti fp_X10_19 (fun h => by cases h) dX10_init_21 (kA_mem (tk_get hk (i := 0) rfl) (by omega)) rfl (lt_b rfl) rfl rfl rfl ?_
  refine X_W (W_ui (tk_get hw (i := 3) rfl) rfl rfl rfl) ?_
  show X l mX10_init 1 53 1866 true _ (kA.take (n + 1)) 0 0 24 [some (vR (40, 0, 0))] [] (am_W (m + 4))
  refine r_aload_n (x := (40, 0, 0)) dX10_init_24 rfl ?_
  refine r_bipush (v := 6) dX10_init_25 rfl ?_
  refine c_newai (N := 6) na_int (tk_get hk (i := 1) rfl) (tk_get hA (i := 0) rfl) rfl rfl (by decide) rfl (by decide) dX10_init_27 (le_b rfl) (le_b rfl) ?_
  show X l mX10_init 1 53 1866 true _ (kA.take (n + 2)) 1 6 29 [some (vR (40, 0, 0))] [vR (41, 0, 0), vR (40, 0, 0)] (am_W (m + 4))
  refine r_putr (x := some (41, 0, 0)) fp_X10_22 (fun _ => rfl) dX10_init_29 (kA_mem (tk_get hk (i := 0) rfl) (by omega)) rfl (lt_b rfl) rfl (fun v => by cases v <;> exact ⟨rfl, rfl⟩) ?_
  refine X_W (W_ur (tk_get hw (i := 4) rfl) rfl rfl rfl) ?_
  show X l mX10_init 1 53 1866 true _ (kA.take (n + 2)) 1 6 32 [some (vR (40, 0, 0))] [] (am_W (m + 5))
  refine r_aload_n (x := (40, 0, 0)) dX10_init_32 rfl ?_
  refine r_bipush (v := 6) dX10_init_33 rfl ?_
  refine c_newai (N := 6) na_int (tk_get hk (i := 2) rfl) (tk_get hA (i := 1) rfl) rfl rfl (by decide) rfl (by decide) dX10_init_35 (le_b rfl) (le_b rfl) ?_
  show X l mX10_init 1 53 1866 true _ (kA.take (n + 3)) 2 12 37 [some (vR (40, 0, 0))] [vR (42, 0, 0), vR (40, 0, 0)] (am_W (m + 5))
  refine r_putr (x := some (42, 0, 0)) fp_X10_26 (fun _ => rfl) dX10_init_37 (kA_mem (tk_get hk (i := 0) rfl) (by omega)) rfl (lt_b rfl) rfl (fun v => by cases v <;> exact ⟨rfl, rfl⟩) ?_
  refine X_W (W_ur (tk_get hw (i := 5) rfl) rfl rfl rfl) ?_
  show X l mX10_init 1 53 1866 true _ (kA.take (n + 3)) 2 12 40 [some (vR (40, 0, 0))] [] (am_W (m + 6))
  refine r_aload_n (x := (40, 0, 0)) dX10_init_40 rfl ?_
  refine r_bipush (v := 6) dX10_init_41 rfl ?_
  refine c_newai (N := 6) na_int (tk_get hk (i := 3) rfl) (tk_get hA (i := 2) rfl) rfl rfl (by decide) rfl (by decide) dX10_init_43 (le_b rfl) (le_b rfl) ?_
  show X l mX10_init 1 53 1866 true _ (kA.take (n + 4)) 3 18 45 [some (vR (40, 0, 0))] [vR (43, 0, 0), vR (40, 0, 0)] (am_W (m + 6))
  refine r_putr (x := some (43, 0, 0)) fp_X10_29 (fun _ => rfl) dX10_init_45 (kA_mem (tk_get hk (i := 0) rfl) (by omega)) rfl (lt_b rfl) rfl (fun v => by cases v <;> exact ⟨rfl, rfl⟩) ?_
  refine X_W (W_ur (tk_get hw (i := 6) rfl) rfl rfl rfl) ?_
  show X l mX10_init 1 53 1866 true _ (kA.take (n + 4)) 3 18 48 [some (vR (40, 0, 0))] [] (am_W (m + 7))
  refine r_aload_n (x := (40, 0, 0)) dX10_init_48 rfl ?_
  refine r_bipush (v := 6) dX10_init_49 rfl ?_
  refine c_newai (N := 6) na_int (tk_get hk (i := 4) rfl) (tk_get hA (i := 3) rfl) rfl rfl (by decide) rfl (by decide) dX10_init_51 (le_b rfl) (le_b rfl) ?_
  show X l mX10_init 1 53 1866 true _ (kA.take (n + 5)) 4 24 53 [some (vR (40, 0, 0))] [vR (44, 0, 0), vR (40, 0, 0)] (am_W (m + 7))
  refine r_putr (x := some (44, 0, 0)) fp_X10_32 (fun _ => rfl) dX10_init_53 (kA_mem (tk_get hk (i := 0) rfl) (by omega)) rfl (lt_b rfl) rfl (fun v => by cases v <;> exact ⟨rfl, rfl⟩) ?_
  refine X_W (W_ur (tk_get hw (i := 7) rfl) rfl rfl rfl) ?_
  show X l mX10_init 1 53 1866 true _ (kA.take (n + 5)) 4 24 56 [some (vR (40, 0, 0))] [] (am_W (m + 8))
  refine r_aload_n (x := (40, 0, 0)) dX10_init_56 rfl ?_
  refine r_bipush (v := 6) dX10_init_57 rfl ?_
  refine c_newai (N := 6) na_int (tk_get hk (i := 5) rfl) (tk_get hA (i := 4) rfl) rfl rfl (by decide) rfl (by decide) dX10_init_59 (le_b rfl) (le_b rfl) ?_
  show X l mX10_init 1 53 1866 true _ (kA.take (n + 6)) 5 30 61 [some (vR (40, 0, 0))] [vR (45, 0, 0), vR (40, 0, 0)] (am_W (m + 8))
  refine r_putr (x := some (45, 0, 0)) fp_X10_35 (fun _ => rfl) dX10_init_61 (kA_mem (tk_get hk (i := 0) rfl) (by omega)) rfl (lt_b rfl) rfl (fun v => by cases v <;> exact ⟨rfl, rfl⟩) ?_
  refine X_W (W_ur (tk_get hw (i := 8) rfl) rfl rfl rfl) ?_
  show X l mX10_init 1 53 1866 true _ (kA.take (n + 6)) 5 30 64 [some (vR (40, 0, 0))] [] (am_W (m + 9))
  refine r_aload_n (x := (40, 0, 0)) dX10_init_64 rfl ?_
  refine r_bipush (v := 6) dX10_init_65 rfl ?_
  refine c_newai (N := 6) na_int (tk_get hk (i := 6) rfl) (tk_get hA (i := 5) rfl) rfl rfl (by decide) rfl (by decide) dX10_init_67 (le_b rfl) (le_b rfl) ?_
  show X l mX10_init 1 53 1866 true _ (kA.take (n + 7)) 6 36 69 [some (vR (40, 0, 0))] [vR (46, 0, 0), vR (40, 0, 0)] (am_W (m + 9))
  refine r_putr (x := some (46, 0, 0)) fp_X10_38 (fun _ => rfl) dX10_init_69 (kA_mem (tk_get hk (i := 0) rfl) (by omega)) rfl (lt_b rfl) rfl (fun v => by cases v <;> exact ⟨rfl, rfl⟩) ?_
  refine X_W (W_ur (tk_get hw (i := 9) rfl) rfl rfl rfl) ?_
  show X l mX10_init 1 53 1866 true _ (kA.take (n + 7)) 6 36 72 [some (vR (40, 0, 0))] [] (am_W (m + 10))
  refine r_aload_n (x := (40, 0, 0)) dX10_init_72 rfl ?_
  refine r_bipush (v := 6) dX10_init_73 rfl ?_
  refine c_newai (N := 6) na_int (tk_get hk (i := 7) rfl) (tk_get hA (i := 6) rfl) rfl rfl (by decide) rfl (by decide) dX10_init_75 (le_b rfl) (le_b rfl) ?_
  show X l mX10_init 1 53 1866 true _ (kA.take (n + 8)) 7 42 77 [some (vR (40, 0, 0))] [vR (47, 0, 0), vR (40, 0, 0)] (am_W (m + 10))
  refine r_putr (x := some (47, 0, 0)) fp_X10_41 (fun _ => rfl) dX10_init_77 (kA_mem (tk_get hk (i := 0) rfl) (by omega)) rfl (lt_b rfl) rfl (fun v => by cases v <;> exact ⟨rfl, rfl⟩) ?_
  refine X_W (W_ur (tk_get hw (i := 10) rfl) rfl rfl rfl) ?_
  show X l mX10_init 1 53 1866 true _ (kA.take (n + 8)) 7 42 80 [some (vR (40, 0, 0))] [] (am_W (m + 11))
  refine r_aload_n (x := (40, 0, 0)) dX10_init_80 rfl ?_
  refine r_bipush (v := 6) dX10_init_81 rfl ?_
  refine c_newai (N := 6) na_int (tk_get hk (i := 8) rfl) (tk_get hA (i := 7) rfl) rfl rfl (by decide) rfl (by decide) dX10_init_83 (le_b rfl) (le_b rfl) ?_
  show X l mX10_init 1 53 1866 true _ (kA.take (n + 9)) 8 48 85 [some (vR (40, 0, 0))] [vR (48, 0, 0), vR (40, 0, 0)] (am_W (m + 11))
  refine r_putr (x := some (48, 0, 0)) fp_X10_44 (fun _ => rfl) dX10_init_85 (kA_mem (tk_get hk (i := 0) rfl) (by omega)) rfl (lt_b rfl) rfl (fun v => by cases v <;> exact ⟨rfl, rfl⟩) ?_
  refine X_W (W_ur (tk_get hw (i := 11) rfl) rfl rfl rfl) ?_
  show X l mX10_init 1 53 1866 true _ (kA.take (n + 9)) 8 48 88 [some (vR (40, 0, 0))] [] (am_W (m + 12))
  refine r_aload_n (x := (40, 0, 0)) dX10_init_88 rfl ?_
  refine r_bipush (v := 36) dX10_init_89 rfl ?_
  refine c_newai (N := 36) na_int (tk_get hk (i := 9) rfl) (tk_get hA (i := 8) rfl) rfl rfl (by decide) rfl (by decide) dX10_init_91 (le_b rfl) (le_b rfl) ?_
  show X l mX10_init 1 53 1866 true _ (kA.take (n + 10)) 9 84 93 [some (vR (40, 0, 0))] [vR (49, 0, 0), vR (40, 0, 0)] (am_W (m + 12))
  refine r_putr (x := some (49, 0, 0)) fp_X10_47 (fun _ => rfl) dX10_init_93 (kA_mem (tk_get hk (i := 0) rfl) (by omega)) rfl (lt_b rfl) rfl (fun v => by cases v <;> exact ⟨rfl, rfl⟩) ?_
  refine X_W (W_ur (tk_get hw (i := 12) rfl) rfl rfl rfl) ?_
  show X l mX10_init 1 53 1866 true _ (kA.take (n + 10)) 9 84 96 [some (vR (40, 0, 0))] [] (am_W (m + 13))
  refine r_aload_n (x := (40, 0, 0)) dX10_init_96 rfl ?_
  refine r_iconst (v := 0) dX10_init_97 rfl ?_
  refine r_puti fp_X10_50 (fun h => by cases h) dX10_init_98 (kA_mem (tk_get hk (i := 0) rfl) (by omega)) rfl (lt_b rfl) rfl rfl rfl ?_
  refine X_W (W_ui (tk_get hw (i := 13) rfl) rfl rfl rfl) ?_
  show X l mX10_init 1 53 1866 true _ (kA.take (n + 10)) 9 84 101 [some (vR (40, 0, 0))] [] (am_W (m + 14))
  refine r_aload_n (x := (40, 0, 0)) dX10_init_101 rfl ?_
  refine r_iconst (v := -1) dX10_init_102 rfl ?_
  refine r_puti fp_X10_53 (fun h => by cases h) dX10_init_103 (kA_mem (tk_get hk (i := 0) rfl) (by omega)) rfl (lt_b rfl) rfl rfl rfl ?_
  refine X_W (W_ui (tk_get hw (i := 14) rfl) rfl rfl rfl) ?_
  show X l mX10_init 1 53 1866 true _ (kA.take (n + 10)) 9 84 106 [some (vR (40, 0, 0))] [] (am_W (m + 15))
  refine r_aload_n (x := (40, 0, 0)) dX10_init_106 rfl ?_
  refine r_iconst (v := 0) dX10_init_107 rfl ?_
  refine r_puti fp_X10_56 (fun h => by cases h) dX10_init_108 (kA_mem (tk_get hk (i := 0) rfl) (by omega)) rfl (lt_b rfl) rfl rfl rfl ?_
  refine X_W (W_ui (tk_get hw (i := 15) rfl) rfl rfl rfl) ?_
  show X l mX10_init 1 53 1866 true _ (kA.take (n + 10)) 9 84 111 [some (vR (40, 0, 0))] [] (am_W (m + 16))
  refine r_aload_n (x := (40, 0, 0)) dX10_init_111 rfl ?_
  refine r_iconst (v := 0) dX10_init_112 rfl ?_
  refine r_puti fp_X10_59 (fun h => by cases h) dX10_init_113 (kA_mem (tk_get hk (i := 0) rfl) (by omega)) rfl (lt_b rfl) rfl rfl rfl ?_
  refine X_W (W_ui (tk_get hw (i := 16) rfl) rfl rfl rfl) ?_
  show X l mX10_init 1 53 1866 true _ (kA.take (n + 10)) 9 84 116 [some (vR (40, 0, 0))] [] (am_W (m + 17))
  refine r_aload_n (x := (40, 0, 0)) dX10_init_116 rfl ?_
  refine r_iconst (v := 0) dX10_init_117 rfl ?_
  refine r_puti fp_X10_62 (fun h => by cases h) dX10_init_118 (kA_mem (tk_get hk (i := 0) rfl) (by omega)) rfl (lt_b rfl) rfl rfl rfl ?_
  refine X_W (W_ui (tk_get hw (i := 17) rfl) rfl rfl rfl) ?_
  show X l mX10_init 1 53 1866 true _ (kA.take (n + 10)) 9 84 121 [some (vR (40, 0, 0))] [] (am_W (m + 18))
  refine r_aload_n (x := (40, 0, 0)) dX10_init_121 rfl ?_
  refine r_bipush (v := 100) dX10_init_122 rfl ?_
  refine c_newai (N := 100) na_int (tk_get hk (i := 10) rfl) (tk_get hA (i := 9) rfl) rfl rfl (by decide) rfl (by decide) dX10_init_124 (le_b rfl) (le_b rfl) ?_
  show X l mX10_init 1 53 1866 true _ (kA.take (n + 11)) 10 184 126 [some (vR (40, 0, 0))] [vR (50, 0, 0), vR (40, 0, 0)] (am_W (m + 18))
  refine r_putr (x := some (50, 0, 0)) fp_X10_65 (fun _ => rfl) dX10_init_126 (kA_mem (tk_get hk (i := 0) rfl) (by omega)) rfl (lt_b rfl) rfl (fun v => by cases v <;> exact ⟨rfl, rfl⟩) ?_
  refine X_W (W_ur (tk_get hw (i := 18) rfl) rfl rfl rfl) ?_
  show X l mX10_init 1 53 1866 true _ (kA.take (n + 11)) 10 184 129 [some (vR (40, 0, 0))] [] (am_W (m + 19))
  refine r_aload_n (x := (40, 0, 0)) dX10_init_129 rfl ?_
  refine r_iconst (v := 5) dX10_init_130 rfl ?_
  refine c_newai (N := 5) na_int (tk_get hk (i := 11) rfl) (tk_get hA (i := 10) rfl) rfl rfl (by decide) rfl (by decide) dX10_init_131 (le_b rfl) (le_b rfl) ?_
  show X l mX10_init 1 53 1866 true _ (kA.take (n + 12)) 11 189 133 [some (vR (40, 0, 0))] [vR (51, 0, 0), vR (40, 0, 0)] (am_W (m + 19))
  refine r_putr (x := some (51, 0, 0)) fp_X10_68 (fun _ => rfl) dX10_init_133 (kA_mem (tk_get hk (i := 0) rfl) (by omega)) rfl (lt_b rfl) rfl (fun v => by cases v <;> exact ⟨rfl, rfl⟩) ?_
  refine X_W (W_ur (tk_get hw (i := 19) rfl) rfl rfl rfl) ?_
  show X l mX10_init 1 53 1866 true _ (kA.take (n + 12)) 11 189 136 [some (vR (40, 0, 0))] [] (am_W (m + 20))
  refine r_aload_n (x := (40, 0, 0)) dX10_init_136 rfl ?_
  refine r_bipush (v := 50) dX10_init_137 rfl ?_
  refine c_newai (N := 50) na_int (tk_get hk (i := 12) rfl) (tk_get hA (i := 11) rfl) rfl rfl (by decide) rfl (by decide) dX10_init_139 (le_b rfl) (le_b rfl) ?_
  show X l mX10_init 1 53 1866 true _ (kA.take (n + 13)) 12 239 141 [some (vR (40, 0, 0))] [vR (52, 0, 0), vR (40, 0, 0)] (am_W (m + 20))
  refine r_putr (x := some (52, 0, 0)) fp_X10_71 (fun _ => rfl) dX10_init_141 (kA_mem (tk_get hk (i := 0) rfl) (by omega)) rfl (lt_b rfl) rfl (fun v => by cases v <;> exact ⟨rfl, rfl⟩) ?_
  refine X_W (W_ur (tk_get hw (i := 20) rfl) rfl rfl rfl) ?_
  show X l mX10_init 1 53 1866 true _ (kA.take (n + 13)) 12 239 144 [some (vR (40, 0, 0))] [] (am_W (m + 21))
  refine r_aload_n (x := (40, 0, 0)) dX10_init_144 rfl ?_
  refine r_bipush (v := 50) dX10_init_145 rfl ?_
  refine c_newai (N := 50) na_int (tk_get hk (i := 13) rfl) (tk_get hA (i := 12) rfl) rfl rfl (by decide) rfl (by decide) dX10_init_147 (le_b rfl) (le_b rfl) ?_
  show X l mX10_init 1 53 1866 true _ (kA.take (n + 14)) 13 289 149 [some (vR (40, 0, 0))] [vR (53, 0, 0), vR (40, 0, 0)] (am_W (m + 21))
  refine r_putr (x := some (53, 0, 0)) fp_X10_74 (fun _ => rfl) dX10_init_149 (kA_mem (tk_get hk (i := 0) rfl) (by omega)) rfl (lt_b rfl) rfl (fun v => by cases v <;> exact ⟨rfl, rfl⟩) ?_
  refine X_W (W_ur (tk_get hw (i := 21) rfl) rfl rfl rfl) ?_
  show X l mX10_init 1 53 1866 true _ (kA.take (n + 14)) 13 289 152 [some (vR (40, 0, 0))] [] (am_W (m + 22))
  refine r_aload_n (x := (40, 0, 0)) dX10_init_152 rfl ?_
  refine r_bipush (v := 50) dX10_init_153 rfl ?_
  refine c_newai (N := 50) na_int (tk_get hk (i := 14) rfl) (tk_get hA (i := 13) rfl) rfl rfl (by decide) rfl (by decide) dX10_init_155 (le_b rfl) (le_b rfl) ?_
  show X l mX10_init 1 53 1866 true _ (kA.take (n + 15)) 14 339 157 [some (vR (40, 0, 0))] [vR (54, 0, 0), vR (40, 0, 0)] (am_W (m + 22))
  refine r_putr (x := some (54, 0, 0)) fp_X10_77 (fun _ => rfl) dX10_init_157 (kA_mem (tk_get hk (i := 0) rfl) (by omega)) rfl (lt_b rfl) rfl (fun v => by cases v <;> exact ⟨rfl, rfl⟩) ?_
  refine X_W (W_ur (tk_get hw (i := 22) rfl) rfl rfl rfl) ?_
  show X l mX10_init 1 53 1866 true _ (kA.take (n + 15)) 14 339 160 [some (vR (40, 0, 0))] [] (am_W (m + 23))
  refine r_aload_n (x := (40, 0, 0)) dX10_init_160 rfl ?_
  refine r_bipush (v := 50) dX10_init_161 rfl ?_
  refine c_newai (N := 50) na_int (tk_get hk (i := 15) rfl) (tk_get hA (i := 14) rfl) rfl rfl (by decide) rfl (by decide) dX10_init_163 (le_b rfl) (le_b rfl) ?_
  show X l mX10_init 1 53 1866 true _ (kA.take (n + 16)) 15 389 165 [some (vR (40, 0, 0))] [vR (55, 0, 0), vR (40, 0, 0)] (am_W (m + 23))
  refine r_putr (x := some (55, 0, 0)) fp_X10_80 (fun _ => rfl) dX10_init_165 (kA_mem (tk_get hk (i := 0) rfl) (by omega)) rfl (lt_b rfl) rfl (fun v => by cases v <;> exact ⟨rfl, rfl⟩) ?_
  refine X_W (W_ur (tk_get hw (i := 23) rfl) rfl rfl rfl) ?_
  show X l mX10_init 1 53 1866 true _ (kA.take (n + 16)) 15 389 168 [some (vR (40, 0, 0))] [] (am_W (m + 24))
  refine r_aload_n (x := (40, 0, 0)) dX10_init_168 rfl ?_
  refine r_bipush (v := 50) dX10_init_169 rfl ?_
  refine c_newai (N := 50) na_int (tk_get hk (i := 16) rfl) (tk_get hA (i := 15) rfl) rfl rfl (by decide) rfl (by decide) dX10_init_171 (le_b rfl) (le_b rfl) ?_
  show X l mX10_init 1 53 1866 true _ (kA.take (n + 17)) 16 439 173 [some (vR (40, 0, 0))] [vR (56, 0, 0), vR (40, 0, 0)] (am_W (m + 24))
  refine r_putr (x := some (56, 0, 0)) fp_X10_83 (fun _ => rfl) dX10_init_173 (kA_mem (tk_get hk (i := 0) rfl) (by omega)) rfl (lt_b rfl) rfl (fun v => by cases v <;> exact ⟨rfl, rfl⟩) ?_
  refine X_W (W_ur (tk_get hw (i := 24) rfl) rfl rfl rfl) ?_
  show X l mX10_init 1 53 1866 true _ (kA.take (n + 17)) 16 439 176 [some (vR (40, 0, 0))] [] (am_W (m + 25))
  refine r_aload_n (x := (40, 0, 0)) dX10_init_176 rfl ?_
  refine r_sipush (v := 500) dX10_init_177 rfl ?_
  refine c_newai (N := 500) na_int (tk_get hk (i := 17) rfl) (tk_get hA (i := 16) rfl) rfl rfl (by decide) rfl (by decide) dX10_init_180 (le_b rfl) (le_b rfl) ?_
  show X l mX10_init 1 53 1866 true _ (kA.take (n + 18)) 17 939 182 [some (vR (40, 0, 0))] [vR (57, 0, 0), vR (40, 0, 0)] (am_W (m + 25))
  refine r_putr (x := some (57, 0, 0)) fp_X10_86 (fun _ => rfl) dX10_init_182 (kA_mem (tk_get hk (i := 0) rfl) (by omega)) rfl (lt_b rfl) rfl (fun v => by cases v <;> exact ⟨rfl, rfl⟩) ?_
  refine X_W (W_ur (tk_get hw (i := 25) rfl) rfl rfl rfl) ?_
  show X l mX10_init 1 53 1866 true _ (kA.take (n + 18)) 17 939 185 [some (vR (40, 0, 0))] [] (am_W (m + 26))
  refine r_aload_n (x := (40, 0, 0)) dX10_init_185 rfl ?_
  refine r_bipush (v := 101) dX10_init_186 rfl ?_
  refine c_newai (N := 101) na_int (tk_get hk (i := 18) rfl) (tk_get hA (i := 17) rfl) rfl rfl (by decide) rfl (by decide) dX10_init_188 (le_b rfl) (le_b rfl) ?_
  show X l mX10_init 1 53 1866 true _ (kA.take (n + 19)) 18 1040 190 [some (vR (40, 0, 0))] [vR (58, 0, 0), vR (40, 0, 0)] (am_W (m + 26))
  refine r_putr (x := some (58, 0, 0)) fp_X10_89 (fun _ => rfl) dX10_init_190 (kA_mem (tk_get hk (i := 0) rfl) (by omega)) rfl (lt_b rfl) rfl (fun v => by cases v <;> exact ⟨rfl, rfl⟩) ?_
  refine X_W (W_ur (tk_get hw (i := 26) rfl) rfl rfl rfl) ?_
  show X l mX10_init 1 53 1866 true _ (kA.take (n + 19)) 18 1040 193 [some (vR (40, 0, 0))] [] (am_W (m + 27))
  refine r_aload_n (x := (40, 0, 0)) dX10_init_193 rfl ?_
  refine r_iconst (v := 0) dX10_init_194 rfl ?_
  refine r_puti fp_X10_92 (fun h => by cases h) dX10_init_195 (kA_mem (tk_get hk (i := 0) rfl) (by omega)) rfl (lt_b rfl) rfl rfl rfl ?_
  refine X_W (W_ui (tk_get hw (i := 27) rfl) rfl rfl rfl) ?_
  show X l mX10_init 1 53 1866 true _ (kA.take (n + 19)) 18 1040 198 [some (vR (40, 0, 0))] [] (am_W (m + 28))
  refine r_aload_n (x := (40, 0, 0)) dX10_init_198 rfl ?_
  refine r_iconst (v := 0) dX10_init_199 rfl ?_
  refine r_puti fp_X10_95 (fun h => by cases h) dX10_init_200 (kA_mem (tk_get hk (i := 0) rfl) (by omega)) rfl (lt_b rfl) rfl rfl rfl ?_
  refine X_W (W_ui (tk_get hw (i := 28) rfl) rfl rfl rfl) ?_
  show X l mX10_init 1 53 1866 true _ (kA.take (n + 19)) 18 1040 203 [some (vR (40, 0, 0))] [] (am_W (m + 29))
  refine r_aload_n (x := (40, 0, 0)) dX10_init_203 rfl ?_
  refine r_iconst (v := 0) dX10_init_204 rfl ?_
  refine r_puti fp_X10_98 (fun h => by cases h) dX10_init_205 (kA_mem (tk_get hk (i := 0) rfl) (by omega)) rfl (lt_b rfl) rfl rfl rfl ?_
  refine X_W (W_ui (tk_get hw (i := 29) rfl) rfl rfl rfl) ?_
  show X l mX10_init 1 53 1866 true _ (kA.take (n + 19)) 18 1040 208 [some (vR (40, 0, 0))] [] (am_W (m + 30))
  refine r_aload_n (x := (40, 0, 0)) dX10_init_208 rfl ?_
  refine r_bipush (v := 19) dX10_init_209 rfl ?_
  refine c_newai (N := 19) na_int (tk_get hk (i := 19) rfl) (tk_get hA (i := 18) rfl) rfl rfl (by decide) rfl (by decide) dX10_init_211 (le_b rfl) (le_b rfl) ?_
  show X l mX10_init 1 53 1866 true _ (kA.take (n + 20)) 19 1059 213 [some (vR (40, 0, 0))] [vR (59, 0, 0), vR (40, 0, 0)] (am_W (m + 30))
  refine r_dup dX10_init_213 rfl ?_
  refine r_iconst (v := 0) dX10_init_214 rfl ?_
  refine r_bipush (v := 111) dX10_init_215 rfl ?_
  refine r_iast dX10_init_217 (kA_mem (tk_get hk (i := 19) rfl) (by omega)) rfl (vp_lit (i := 0) (n := 19) rfl) ?_
  show X l mX10_init 1 53 1866 true _ (kA.take (n + 20)) 19 1059 218 [some (vR (40, 0, 0))] [vR (59, 0, 0), vR (40, 0, 0)] (am_ui (am_W (m + 30)) (59, 0, 0) 0 (111))
  refine X_W (W_ui (tk_get hw (i := 30) rfl) rfl rfl rfl) ?_
  show X l mX10_init 1 53 1866 true _ (kA.take (n + 20)) 19 1059 218 [some (vR (40, 0, 0))] [vR (59, 0, 0), vR (40, 0, 0)] (am_W (m + 31))
  refine r_dup dX10_init_218 rfl ?_
  refine r_iconst (v := 1) dX10_init_219 rfl ?_
  refine r_bipush (v := 117) dX10_init_220 rfl ?_
  refine r_iast dX10_init_222 (kA_mem (tk_get hk (i := 19) rfl) (by omega)) rfl (vp_lit (i := 1) (n := 19) rfl) ?_
  show X l mX10_init 1 53 1866 true _ (kA.take (n + 20)) 19 1059 223 [some (vR (40, 0, 0))] [vR (59, 0, 0), vR (40, 0, 0)] (am_ui (am_W (m + 31)) (59, 0, 0) 1 (117))
  refine X_W (W_ui (tk_get hw (i := 31) rfl) rfl rfl rfl) ?_
  show X l mX10_init 1 53 1866 true _ (kA.take (n + 20)) 19 1059 223 [some (vR (40, 0, 0))] [vR (59, 0, 0), vR (40, 0, 0)] (am_W (m + 32))
  refine r_dup dX10_init_223 rfl ?_
  refine r_iconst (v := 2) dX10_init_224 rfl ?_
  refine r_bipush (v := 116) dX10_init_225 rfl ?_
  refine r_iast dX10_init_227 (kA_mem (tk_get hk (i := 19) rfl) (by omega)) rfl (vp_lit (i := 2) (n := 19) rfl) ?_
  show X l mX10_init 1 53 1866 true _ (kA.take (n + 20)) 19 1059 228 [some (vR (40, 0, 0))] [vR (59, 0, 0), vR (40, 0, 0)] (am_ui (am_W (m + 32)) (59, 0, 0) 2 (116))
  refine X_W (W_ui (tk_get hw (i := 32) rfl) rfl rfl rfl) ?_
  show X l mX10_init 1 53 1866 true _ (kA.take (n + 20)) 19 1059 228 [some (vR (40, 0, 0))] [vR (59, 0, 0), vR (40, 0, 0)] (am_W (m + 33))
  refine r_dup dX10_init_228 rfl ?_
  refine r_iconst (v := 3) dX10_init_229 rfl ?_
  refine r_bipush (v := 98) dX10_init_230 rfl ?_
  refine r_iast dX10_init_232 (kA_mem (tk_get hk (i := 19) rfl) (by omega)) rfl (vp_lit (i := 3) (n := 19) rfl) ?_
  show X l mX10_init 1 53 1866 true _ (kA.take (n + 20)) 19 1059 233 [some (vR (40, 0, 0))] [vR (59, 0, 0), vR (40, 0, 0)] (am_ui (am_W (m + 33)) (59, 0, 0) 3 (98))
  refine X_W (W_ui (tk_get hw (i := 33) rfl) rfl rfl rfl) ?_
  show X l mX10_init 1 53 1866 true _ (kA.take (n + 20)) 19 1059 233 [some (vR (40, 0, 0))] [vR (59, 0, 0), vR (40, 0, 0)] (am_W (m + 34))
  refine r_dup dX10_init_233 rfl ?_
  refine r_iconst (v := 4) dX10_init_234 rfl ?_
  refine r_bipush (v := 117) dX10_init_235 rfl ?_
  refine r_iast dX10_init_237 (kA_mem (tk_get hk (i := 19) rfl) (by omega)) rfl (vp_lit (i := 4) (n := 19) rfl) ?_
  show X l mX10_init 1 53 1866 true _ (kA.take (n + 20)) 19 1059 238 [some (vR (40, 0, 0))] [vR (59, 0, 0), vR (40, 0, 0)] (am_ui (am_W (m + 34)) (59, 0, 0) 4 (117))
  refine X_W (W_ui (tk_get hw (i := 34) rfl) rfl rfl rfl) ?_
  show X l mX10_init 1 53 1866 true _ (kA.take (n + 20)) 19 1059 238 [some (vR (40, 0, 0))] [vR (59, 0, 0), vR (40, 0, 0)] (am_W (m + 35))
  refine r_dup dX10_init_238 rfl ?_
  refine r_iconst (v := 5) dX10_init_239 rfl ?_
  refine r_bipush (v := 114) dX10_init_240 rfl ?_
  refine r_iast dX10_init_242 (kA_mem (tk_get hk (i := 19) rfl) (by omega)) rfl (vp_lit (i := 5) (n := 19) rfl) ?_
  show X l mX10_init 1 53 1866 true _ (kA.take (n + 20)) 19 1059 243 [some (vR (40, 0, 0))] [vR (59, 0, 0), vR (40, 0, 0)] (am_ui (am_W (m + 35)) (59, 0, 0) 5 (114))
  refine X_W (W_ui (tk_get hw (i := 35) rfl) rfl rfl rfl) ?_
  show X l mX10_init 1 53 1866 true _ (kA.take (n + 20)) 19 1059 243 [some (vR (40, 0, 0))] [vR (59, 0, 0), vR (40, 0, 0)] (am_W (m + 36))
  refine r_dup dX10_init_243 rfl ?_
  refine r_bipush (v := 6) dX10_init_244 rfl ?_
  refine r_bipush (v := 110) dX10_init_246 rfl ?_
  refine r_iast dX10_init_248 (kA_mem (tk_get hk (i := 19) rfl) (by omega)) rfl (vp_lit (i := 6) (n := 19) rfl) ?_
  show X l mX10_init 1 53 1866 true _ (kA.take (n + 20)) 19 1059 249 [some (vR (40, 0, 0))] [vR (59, 0, 0), vR (40, 0, 0)] (am_ui (am_W (m + 36)) (59, 0, 0) 6 (110))
  refine X_W (W_ui (tk_get hw (i := 36) rfl) rfl rfl rfl) ?_
  show X l mX10_init 1 53 1866 true _ (kA.take (n + 20)) 19 1059 249 [some (vR (40, 0, 0))] [vR (59, 0, 0), vR (40, 0, 0)] (am_W (m + 37))
  refine r_dup dX10_init_249 rfl ?_
  refine r_bipush (v := 7) dX10_init_250 rfl ?_
  refine r_bipush (v := 104) dX10_init_252 rfl ?_
  refine r_iast dX10_init_254 (kA_mem (tk_get hk (i := 19) rfl) (by omega)) rfl (vp_lit (i := 7) (n := 19) rfl) ?_
  show X l mX10_init 1 53 1866 true _ (kA.take (n + 20)) 19 1059 255 [some (vR (40, 0, 0))] [vR (59, 0, 0), vR (40, 0, 0)] (am_ui (am_W (m + 37)) (59, 0, 0) 7 (104))
  refine X_W (W_ui (tk_get hw (i := 37) rfl) rfl rfl rfl) ?_
  show X l mX10_init 1 53 1866 true _ (kA.take (n + 20)) 19 1059 255 [some (vR (40, 0, 0))] [vR (59, 0, 0), vR (40, 0, 0)] (am_W (m + 38))
  refine r_dup dX10_init_255 rfl ?_
  refine r_bipush (v := 8) dX10_init_256 rfl ?_
  refine r_bipush (v := 111) dX10_init_258 rfl ?_
  refine r_iast dX10_init_260 (kA_mem (tk_get hk (i := 19) rfl) (by omega)) rfl (vp_lit (i := 8) (n := 19) rfl) ?_
  show X l mX10_init 1 53 1866 true _ (kA.take (n + 20)) 19 1059 261 [some (vR (40, 0, 0))] [vR (59, 0, 0), vR (40, 0, 0)] (am_ui (am_W (m + 38)) (59, 0, 0) 8 (111))
  refine X_W (W_ui (tk_get hw (i := 38) rfl) rfl rfl rfl) ?_
  show X l mX10_init 1 53 1866 true _ (kA.take (n + 20)) 19 1059 261 [some (vR (40, 0, 0))] [vR (59, 0, 0), vR (40, 0, 0)] (am_W (m + 39))
  refine r_dup dX10_init_261 rfl ?_
  refine r_bipush (v := 9) dX10_init_262 rfl ?_
  refine r_bipush (v := 114) dX10_init_264 rfl ?_
  refine r_iast dX10_init_266 (kA_mem (tk_get hk (i := 19) rfl) (by omega)) rfl (vp_lit (i := 9) (n := 19) rfl) ?_
  show X l mX10_init 1 53 1866 true _ (kA.take (n + 20)) 19 1059 267 [some (vR (40, 0, 0))] [vR (59, 0, 0), vR (40, 0, 0)] (am_ui (am_W (m + 39)) (59, 0, 0) 9 (114))
  refine X_W (W_ui (tk_get hw (i := 39) rfl) rfl rfl rfl) ?_
  show X l mX10_init 1 53 1866 true _ (kA.take (n + 20)) 19 1059 267 [some (vR (40, 0, 0))] [vR (59, 0, 0), vR (40, 0, 0)] (am_W (m + 40))
  refine r_dup dX10_init_267 rfl ?_
  refine r_bipush (v := 10) dX10_init_268 rfl ?_
  refine r_bipush (v := 110) dX10_init_270 rfl ?_
  refine r_iast dX10_init_272 (kA_mem (tk_get hk (i := 19) rfl) (by omega)) rfl (vp_lit (i := 10) (n := 19) rfl) ?_
  show X l mX10_init 1 53 1866 true _ (kA.take (n + 20)) 19 1059 273 [some (vR (40, 0, 0))] [vR (59, 0, 0), vR (40, 0, 0)] (am_ui (am_W (m + 40)) (59, 0, 0) 10 (110))
  refine X_W (W_ui (tk_get hw (i := 40) rfl) rfl rfl rfl) ?_
  show X l mX10_init 1 53 1866 true _ (kA.take (n + 20)) 19 1059 273 [some (vR (40, 0, 0))] [vR (59, 0, 0), vR (40, 0, 0)] (am_W (m + 41))
  refine r_dup dX10_init_273 rfl ?_
  refine r_bipush (v := 11) dX10_init_274 rfl ?_
  refine r_bipush (v := 110) dX10_init_276 rfl ?_
  refine r_iast dX10_init_278 (kA_mem (tk_get hk (i := 19) rfl) (by omega)) rfl (vp_lit (i := 11) (n := 19) rfl) ?_
  show X l mX10_init 1 53 1866 true _ (kA.take (n + 20)) 19 1059 279 [some (vR (40, 0, 0))] [vR (59, 0, 0), vR (40, 0, 0)] (am_ui (am_W (m + 41)) (59, 0, 0) 11 (110))
  refine X_W (W_ui (tk_get hw (i := 41) rfl) rfl rfl rfl) ?_
  show X l mX10_init 1 53 1866 true _ (kA.take (n + 20)) 19 1059 279 [some (vR (40, 0, 0))] [vR (59, 0, 0), vR (40, 0, 0)] (am_W (m + 42))
  refine r_dup dX10_init_279 rfl ?_
  refine r_bipush (v := 12) dX10_init_280 rfl ?_
  refine r_bipush (v := 101) dX10_init_282 rfl ?_
  refine r_iast dX10_init_284 (kA_mem (tk_get hk (i := 19) rfl) (by omega)) rfl (vp_lit (i := 12) (n := 19) rfl) ?_
  show X l mX10_init 1 53 1866 true _ (kA.take (n + 20)) 19 1059 285 [some (vR (40, 0, 0))] [vR (59, 0, 0), vR (40, 0, 0)] (am_ui (am_W (m + 42)) (59, 0, 0) 12 (101))
  refine X_W (W_ui (tk_get hw (i := 42) rfl) rfl rfl rfl) ?_
  show X l mX10_init 1 53 1866 true _ (kA.take (n + 20)) 19 1059 285 [some (vR (40, 0, 0))] [vR (59, 0, 0), vR (40, 0, 0)] (am_W (m + 43))
  refine r_dup dX10_init_285 rfl ?_
  refine r_bipush (v := 13) dX10_init_286 rfl ?_
  refine r_bipush (v := 120) dX10_init_288 rfl ?_
  refine r_iast dX10_init_290 (kA_mem (tk_get hk (i := 19) rfl) (by omega)) rfl (vp_lit (i := 13) (n := 19) rfl) ?_
  show X l mX10_init 1 53 1866 true _ (kA.take (n + 20)) 19 1059 291 [some (vR (40, 0, 0))] [vR (59, 0, 0), vR (40, 0, 0)] (am_ui (am_W (m + 43)) (59, 0, 0) 13 (120))
  refine X_W (W_ui (tk_get hw (i := 43) rfl) rfl rfl rfl) ?_
  show X l mX10_init 1 53 1866 true _ (kA.take (n + 20)) 19 1059 291 [some (vR (40, 0, 0))] [vR (59, 0, 0), vR (40, 0, 0)] (am_W (m + 44))
  refine r_dup dX10_init_291 rfl ?_
  refine r_bipush (v := 14) dX10_init_292 rfl ?_
  refine r_bipush (v := 116) dX10_init_294 rfl ?_
  refine r_iast dX10_init_296 (kA_mem (tk_get hk (i := 19) rfl) (by omega)) rfl (vp_lit (i := 14) (n := 19) rfl) ?_
  show X l mX10_init 1 53 1866 true _ (kA.take (n + 20)) 19 1059 297 [some (vR (40, 0, 0))] [vR (59, 0, 0), vR (40, 0, 0)] (am_ui (am_W (m + 44)) (59, 0, 0) 14 (116))
  refine X_W (W_ui (tk_get hw (i := 44) rfl) rfl rfl rfl) ?_
  show X l mX10_init 1 53 1866 true _ (kA.take (n + 20)) 19 1059 297 [some (vR (40, 0, 0))] [vR (59, 0, 0), vR (40, 0, 0)] (am_W (m + 45))
  refine r_dup dX10_init_297 rfl ?_
  refine r_bipush (v := 15) dX10_init_298 rfl ?_
  refine r_bipush (v := 110) dX10_init_300 rfl ?_
  refine r_iast dX10_init_302 (kA_mem (tk_get hk (i := 19) rfl) (by omega)) rfl (vp_lit (i := 15) (n := 19) rfl) ?_
  show X l mX10_init 1 53 1866 true _ (kA.take (n + 20)) 19 1059 303 [some (vR (40, 0, 0))] [vR (59, 0, 0), vR (40, 0, 0)] (am_ui (am_W (m + 45)) (59, 0, 0) 15 (110))
  refine X_W (W_ui (tk_get hw (i := 45) rfl) rfl rfl rfl) ?_
  show X l mX10_init 1 53 1866 true _ (kA.take (n + 20)) 19 1059 303 [some (vR (40, 0, 0))] [vR (59, 0, 0), vR (40, 0, 0)] (am_W (m + 46))
  refine r_dup dX10_init_303 rfl ?_
  refine r_bipush (v := 16) dX10_init_304 rfl ?_
  refine r_bipush (v := 101) dX10_init_306 rfl ?_
  refine r_iast dX10_init_308 (kA_mem (tk_get hk (i := 19) rfl) (by omega)) rfl (vp_lit (i := 16) (n := 19) rfl) ?_
  show X l mX10_init 1 53 1866 true _ (kA.take (n + 20)) 19 1059 309 [some (vR (40, 0, 0))] [vR (59, 0, 0), vR (40, 0, 0)] (am_ui (am_W (m + 46)) (59, 0, 0) 16 (101))
  refine X_W (W_ui (tk_get hw (i := 46) rfl) rfl rfl rfl) ?_
  show X l mX10_init 1 53 1866 true _ (kA.take (n + 20)) 19 1059 309 [some (vR (40, 0, 0))] [vR (59, 0, 0), vR (40, 0, 0)] (am_W (m + 47))
  refine r_dup dX10_init_309 rfl ?_
  refine r_bipush (v := 17) dX10_init_310 rfl ?_
  refine r_bipush (v := 101) dX10_init_312 rfl ?_
  refine r_iast dX10_init_314 (kA_mem (tk_get hk (i := 19) rfl) (by omega)) rfl (vp_lit (i := 17) (n := 19) rfl) ?_
  show X l mX10_init 1 53 1866 true _ (kA.take (n + 20)) 19 1059 315 [some (vR (40, 0, 0))] [vR (59, 0, 0), vR (40, 0, 0)] (am_ui (am_W (m + 47)) (59, 0, 0) 17 (101))
  refine X_W (W_ui (tk_get hw (i := 47) rfl) rfl rfl rfl) ?_
  show X l mX10_init 1 53 1866 true _ (kA.take (n + 20)) 19 1059 315 [some (vR (40, 0, 0))] [vR (59, 0, 0), vR (40, 0, 0)] (am_W (m + 48))
  refine r_dup dX10_init_315 rfl ?_
  refine r_bipush (v := 18) dX10_init_316 rfl ?_
  refine r_bipush (v := 100) dX10_init_318 rfl ?_
  refine r_iast dX10_init_320 (kA_mem (tk_get hk (i := 19) rfl) (by omega)) rfl (vp_lit (i := 18) (n := 19) rfl) ?_
  show X l mX10_init 1 53 1866 true _ (kA.take (n + 20)) 19 1059 321 [some (vR (40, 0, 0))] [vR (59, 0, 0), vR (40, 0, 0)] (am_ui (am_W (m + 48)) (59, 0, 0) 18 (100))
  refine X_W (W_ui (tk_get hw (i := 48) rfl) rfl rfl rfl) ?_
  show X l mX10_init 1 53 1866 true _ (kA.take (n + 20)) 19 1059 321 [some (vR (40, 0, 0))] [vR (59, 0, 0), vR (40, 0, 0)] (am_W (m + 49))
  refine r_putr (x := some (59, 0, 0)) fp_X10_101 (fun _ => rfl) dX10_init_321 (kA_mem (tk_get hk (i := 0) rfl) (by omega)) rfl (lt_b rfl) rfl (fun v => by cases v <;> exact ⟨rfl, rfl⟩) ?_
  refine X_W (W_ur (tk_get hw (i := 49) rfl) rfl rfl rfl) ?_
  show X l mX10_init 1 53 1866 true _ (kA.take (n + 20)) 19 1059 324 [some (vR (40, 0, 0))] [] (am_W (m + 50))
  refine r_aload_n (x := (40, 0, 0)) dX10_init_324 rfl ?_
  refine r_bipush (v := 9) dX10_init_325 rfl ?_
  refine c_newai (N := 9) na_int (tk_get hk (i := 20) rfl) (tk_get hA (i := 19) rfl) rfl rfl (by decide) rfl (by decide) dX10_init_327 (le_b rfl) (le_b rfl) ?_
  show X l mX10_init 1 53 1866 true _ (kA.take (n + 21)) 20 1068 329 [some (vR (40, 0, 0))] [vR (60, 0, 0), vR (40, 0, 0)] (am_W (m + 50))
  refine r_putr (x := some (60, 0, 0)) fp_X10_104 (fun _ => rfl) dX10_init_329 (kA_mem (tk_get hk (i := 0) rfl) (by omega)) rfl (lt_b rfl) rfl (fun v => by cases v <;> exact ⟨rfl, rfl⟩) ?_
  refine X_W (W_ur (tk_get hw (i := 50) rfl) rfl rfl rfl) ?_
  show X l mX10_init 1 53 1866 true _ (kA.take (n + 21)) 20 1068 332 [some (vR (40, 0, 0))] [] (am_W (m + 51))
  refine r_aload_n (x := (40, 0, 0)) dX10_init_332 rfl ?_
  refine r_iconst (v := 0) dX10_init_333 rfl ?_
  refine r_puti fp_X10_107 (fun h => by cases h) dX10_init_334 (kA_mem (tk_get hk (i := 0) rfl) (by omega)) rfl (lt_b rfl) rfl rfl rfl ?_
  refine X_W (W_ui (tk_get hw (i := 51) rfl) rfl rfl rfl) ?_
  show X l mX10_init 1 53 1866 true _ (kA.take (n + 21)) 20 1068 337 [some (vR (40, 0, 0))] [] (am_W (m + 52))
  refine r_aload_n (x := (40, 0, 0)) dX10_init_337 rfl ?_
  refine r_iconst (v := 0) dX10_init_338 rfl ?_
  refine r_puti fp_X10_110 (fun h => by cases h) dX10_init_339 (kA_mem (tk_get hk (i := 0) rfl) (by omega)) rfl (lt_b rfl) rfl rfl rfl ?_
  refine X_W (W_ui (tk_get hw (i := 52) rfl) rfl rfl rfl) ?_
  show X l mX10_init 1 53 1866 true _ (kA.take (n + 21)) 20 1068 342 [some (vR (40, 0, 0))] [] (am_W (m + 53))
  refine r_aload_n (x := (40, 0, 0)) dX10_init_342 rfl ?_
  refine r_iconst (v := 0) dX10_init_343 rfl ?_
  refine r_puti fp_X10_113 (fun h => by cases h) dX10_init_344 (kA_mem (tk_get hk (i := 0) rfl) (by omega)) rfl (lt_b rfl) rfl rfl rfl ?_
  refine X_W (W_ui (tk_get hw (i := 53) rfl) rfl rfl rfl) ?_
  show X l mX10_init 1 53 1866 true _ (kA.take (n + 21)) 20 1068 347 [some (vR (40, 0, 0))] [] (am_W (m + 54))
  refine r_aload_n (x := (40, 0, 0)) dX10_init_347 rfl ?_
  refine r_iconst (v := 0) dX10_init_348 rfl ?_
  refine r_puti fp_X10_116 (fun h => by cases h) dX10_init_349 (kA_mem (tk_get hk (i := 0) rfl) (by omega)) rfl (lt_b rfl) rfl rfl rfl ?_
  refine X_W (W_ui (tk_get hw (i := 54) rfl) rfl rfl rfl) ?_
  show X l mX10_init 1 53 1866 true _ (kA.take (n + 21)) 20 1068 352 [some (vR (40, 0, 0))] [] (am_W (m + 55))
  refine r_aload_n (x := (40, 0, 0)) dX10_init_352 rfl ?_
  refine r_iconst (v := 0) dX10_init_353 rfl ?_
  refine r_puti fp_X10_119 (fun h => by cases h) dX10_init_354 (kA_mem (tk_get hk (i := 0) rfl) (by omega)) rfl (lt_b rfl) rfl rfl rfl ?_
  refine X_W (W_ui (tk_get hw (i := 55) rfl) rfl rfl rfl) ?_
  show X l mX10_init 1 53 1866 true _ (kA.take (n + 21)) 20 1068 357 [some (vR (40, 0, 0))] [] (am_W (m + 56))
  refine r_aload_n (x := (40, 0, 0)) dX10_init_357 rfl ?_
  refine r_bipush (v := 6) dX10_init_358 rfl ?_
  refine c_newai (N := 6) na_int (tk_get hk (i := 21) rfl) (tk_get hA (i := 20) rfl) rfl rfl (by decide) rfl (by decide) dX10_init_360 (le_b rfl) (le_b rfl) ?_
  show X l mX10_init 1 53 1866 true _ (kA.take (n + 22)) 21 1074 362 [some (vR (40, 0, 0))] [vR (61, 0, 0), vR (40, 0, 0)] (am_W (m + 56))
  refine r_putr (x := some (61, 0, 0)) fp_X10_122 (fun _ => rfl) dX10_init_362 (kA_mem (tk_get hk (i := 0) rfl) (by omega)) rfl (lt_b rfl) rfl (fun v => by cases v <;> exact ⟨rfl, rfl⟩) ?_
  refine X_W (W_ur (tk_get hw (i := 56) rfl) rfl rfl rfl) ?_
  show X l mX10_init 1 53 1866 true _ (kA.take (n + 22)) 21 1074 365 [some (vR (40, 0, 0))] [] (am_W (m + 57))
  refine r_aload_n (x := (40, 0, 0)) dX10_init_365 rfl ?_
  refine r_bipush (v := 6) dX10_init_366 rfl ?_
  refine c_newai (N := 6) na_int (tk_get hk (i := 22) rfl) (tk_get hA (i := 21) rfl) rfl rfl (by decide) rfl (by decide) dX10_init_368 (le_b rfl) (le_b rfl) ?_
  show X l mX10_init 1 53 1866 true _ (kA.take (n + 23)) 22 1080 370 [some (vR (40, 0, 0))] [vR (62, 0, 0), vR (40, 0, 0)] (am_W (m + 57))
  refine r_putr (x := some (62, 0, 0)) fp_X10_125 (fun _ => rfl) dX10_init_370 (kA_mem (tk_get hk (i := 0) rfl) (by omega)) rfl (lt_b rfl) rfl (fun v => by cases v <;> exact ⟨rfl, rfl⟩) ?_
  refine X_W (W_ur (tk_get hw (i := 57) rfl) rfl rfl rfl) ?_
  show X l mX10_init 1 53 1866 true _ (kA.take (n + 23)) 22 1080 373 [some (vR (40, 0, 0))] [] (am_W (m + 58))
  refine r_aload_n (x := (40, 0, 0)) dX10_init_373 rfl ?_
  refine r_bipush (v := 6) dX10_init_374 rfl ?_
  refine c_newai (N := 6) na_int (tk_get hk (i := 23) rfl) (tk_get hA (i := 22) rfl) rfl rfl (by decide) rfl (by decide) dX10_init_376 (le_b rfl) (le_b rfl) ?_
  show X l mX10_init 1 53 1866 true _ (kA.take (n + 24)) 23 1086 378 [some (vR (40, 0, 0))] [vR (63, 0, 0), vR (40, 0, 0)] (am_W (m + 58))
  refine r_putr (x := some (63, 0, 0)) fp_X10_128 (fun _ => rfl) dX10_init_378 (kA_mem (tk_get hk (i := 0) rfl) (by omega)) rfl (lt_b rfl) rfl (fun v => by cases v <;> exact ⟨rfl, rfl⟩) ?_
  refine X_W (W_ur (tk_get hw (i := 58) rfl) rfl rfl rfl) ?_
  show X l mX10_init 1 53 1866 true _ (kA.take (n + 24)) 23 1086 381 [some (vR (40, 0, 0))] [] (am_W (m + 59))
  refine r_aload_n (x := (40, 0, 0)) dX10_init_381 rfl ?_
  refine r_bipush (v := 6) dX10_init_382 rfl ?_
  refine c_newai (N := 6) na_int (tk_get hk (i := 24) rfl) (tk_get hA (i := 23) rfl) rfl rfl (by decide) rfl (by decide) dX10_init_384 (le_b rfl) (le_b rfl) ?_
  show X l mX10_init 1 53 1866 true _ (kA.take (n + 25)) 24 1092 386 [some (vR (40, 0, 0))] [vR (64, 0, 0), vR (40, 0, 0)] (am_W (m + 59))
  refine r_putr (x := some (64, 0, 0)) fp_X10_131 (fun _ => rfl) dX10_init_386 (kA_mem (tk_get hk (i := 0) rfl) (by omega)) rfl (lt_b rfl) rfl (fun v => by cases v <;> exact ⟨rfl, rfl⟩) ?_
  refine X_W (W_ur (tk_get hw (i := 59) rfl) rfl rfl rfl) ?_
  show X l mX10_init 1 53 1866 true _ (kA.take (n + 25)) 24 1092 389 [some (vR (40, 0, 0))] [] (am_W (m + 60))
  refine r_aload_n (x := (40, 0, 0)) dX10_init_389 rfl ?_
  refine r_bipush (v := 6) dX10_init_390 rfl ?_
  refine c_newai (N := 6) na_int (tk_get hk (i := 25) rfl) (tk_get hA (i := 24) rfl) rfl rfl (by decide) rfl (by decide) dX10_init_392 (le_b rfl) (le_b rfl) ?_
  show X l mX10_init 1 53 1866 true _ (kA.take (n + 26)) 25 1098 394 [some (vR (40, 0, 0))] [vR (65, 0, 0), vR (40, 0, 0)] (am_W (m + 60))
  refine r_putr (x := some (65, 0, 0)) fp_X10_134 (fun _ => rfl) dX10_init_394 (kA_mem (tk_get hk (i := 0) rfl) (by omega)) rfl (lt_b rfl) rfl (fun v => by cases v <;> exact ⟨rfl, rfl⟩) ?_
  refine X_W (W_ur (tk_get hw (i := 60) rfl) rfl rfl rfl) ?_
  show X l mX10_init 1 53 1866 true _ (kA.take (n + 26)) 25 1098 397 [some (vR (40, 0, 0))] [] (am_W (m + 61))
  refine r_aload_n (x := (40, 0, 0)) dX10_init_397 rfl ?_
  refine r_bipush (v := 6) dX10_init_398 rfl ?_
  refine c_newai (N := 6) na_int (tk_get hk (i := 26) rfl) (tk_get hA (i := 25) rfl) rfl rfl (by decide) rfl (by decide) dX10_init_400 (le_b rfl) (le_b rfl) ?_
  show X l mX10_init 1 53 1866 true _ (kA.take (n + 27)) 26 1104 402 [some (vR (40, 0, 0))] [vR (66, 0, 0), vR (40, 0, 0)] (am_W (m + 61))
  refine r_putr (x := some (66, 0, 0)) fp_X10_137 (fun _ => rfl) dX10_init_402 (kA_mem (tk_get hk (i := 0) rfl) (by omega)) rfl (lt_b rfl) rfl (fun v => by cases v <;> exact ⟨rfl, rfl⟩) ?_
  refine X_W (W_ur (tk_get hw (i := 61) rfl) rfl rfl rfl) ?_
  show X l mX10_init 1 53 1866 true _ (kA.take (n + 27)) 26 1104 405 [some (vR (40, 0, 0))] [] (am_W (m + 62))
  refine r_aload_n (x := (40, 0, 0)) dX10_init_405 rfl ?_
  refine r_bipush (v := 6) dX10_init_406 rfl ?_
  refine c_newai (N := 6) na_int (tk_get hk (i := 27) rfl) (tk_get hA (i := 26) rfl) rfl rfl (by decide) rfl (by decide) dX10_init_408 (le_b rfl) (le_b rfl) ?_
  show X l mX10_init 1 53 1866 true _ (kA.take (n + 28)) 27 1110 410 [some (vR (40, 0, 0))] [vR (67, 0, 0), vR (40, 0, 0)] (am_W (m + 62))
  refine r_putr (x := some (67, 0, 0)) fp_X10_140 (fun _ => rfl) dX10_init_410 (kA_mem (tk_get hk (i := 0) rfl) (by omega)) rfl (lt_b rfl) rfl (fun v => by cases v <;> exact ⟨rfl, rfl⟩) ?_
  refine X_W (W_ur (tk_get hw (i := 62) rfl) rfl rfl rfl) ?_
  show X l mX10_init 1 53 1866 true _ (kA.take (n + 28)) 27 1110 413 [some (vR (40, 0, 0))] [] (am_W (m + 63))
  refine r_aload_n (x := (40, 0, 0)) dX10_init_413 rfl ?_
  refine r_bipush (v := 6) dX10_init_414 rfl ?_
  refine c_newai (N := 6) na_int (tk_get hk (i := 28) rfl) (tk_get hA (i := 27) rfl) rfl rfl (by decide) rfl (by decide) dX10_init_416 (le_b rfl) (le_b rfl) ?_
  show X l mX10_init 1 53 1866 true _ (kA.take (n + 29)) 28 1116 418 [some (vR (40, 0, 0))] [vR (68, 0, 0), vR (40, 0, 0)] (am_W (m + 63))
  refine r_putr (x := some (68, 0, 0)) fp_X10_143 (fun _ => rfl) dX10_init_418 (kA_mem (tk_get hk (i := 0) rfl) (by omega)) rfl (lt_b rfl) rfl (fun v => by cases v <;> exact ⟨rfl, rfl⟩) ?_
  refine X_W (W_ur (tk_get hw (i := 63) rfl) rfl rfl rfl) ?_
  show X l mX10_init 1 53 1866 true _ (kA.take (n + 29)) 28 1116 421 [some (vR (40, 0, 0))] [] (am_W (m + 64))
  refine r_aload_n (x := (40, 0, 0)) dX10_init_421 rfl ?_
  refine r_bipush (v := 100) dX10_init_422 rfl ?_
  refine c_newaz (N := 100) na_boolean (tk_get hk (i := 29) rfl) (tk_get hA (i := 28) rfl) rfl rfl (by decide) rfl (by decide) dX10_init_424 (le_b rfl) (le_b rfl) ?_
  show X l mX10_init 1 53 1866 true _ (kA.take (n + 30)) 29 1216 426 [some (vR (40, 0, 0))] [vR (69, 0, 0), vR (40, 0, 0)] (am_W (m + 64))
  refine r_putr (x := some (69, 0, 0)) fp_X10_146 (fun _ => rfl) dX10_init_426 (kA_mem (tk_get hk (i := 0) rfl) (by omega)) rfl (lt_b rfl) rfl (fun v => by cases v <;> exact ⟨rfl, rfl⟩) ?_
  refine X_W (W_ur (tk_get hw (i := 64) rfl) rfl rfl rfl) ?_
  show X l mX10_init 1 53 1866 true _ (kA.take (n + 30)) 29 1216 429 [some (vR (40, 0, 0))] [] (am_W (m + 65))
  refine r_aload_n (x := (40, 0, 0)) dX10_init_429 rfl ?_
  refine r_iconst (v := 0) dX10_init_430 rfl ?_
  refine r_puti fp_X10_150 (fun h => by cases h) dX10_init_431 (kA_mem (tk_get hk (i := 0) rfl) (by omega)) rfl (lt_b rfl) rfl rfl rfl ?_
  refine X_W (W_ui (tk_get hw (i := 65) rfl) rfl rfl rfl) ?_
  show X l mX10_init 1 53 1866 true _ (kA.take (n + 30)) 29 1216 434 [some (vR (40, 0, 0))] [] (am_W (m + 66))
  refine r_aload_n (x := (40, 0, 0)) dX10_init_434 rfl ?_
  refine r_bipush (v := 12) dX10_init_435 rfl ?_
  refine c_newai (N := 12) na_int (tk_get hk (i := 30) rfl) (tk_get hA (i := 29) rfl) rfl rfl (by decide) rfl (by decide) dX10_init_437 (le_b rfl) (le_b rfl) ?_
  show X l mX10_init 1 53 1866 true _ (kA.take (n + 31)) 30 1228 439 [some (vR (40, 0, 0))] [vR (70, 0, 0), vR (40, 0, 0)] (am_W (m + 66))
  refine r_putr (x := some (70, 0, 0)) fp_X10_153 (fun _ => rfl) dX10_init_439 (kA_mem (tk_get hk (i := 0) rfl) (by omega)) rfl (lt_b rfl) rfl (fun v => by cases v <;> exact ⟨rfl, rfl⟩) ?_
  refine X_W (W_ur (tk_get hw (i := 66) rfl) rfl rfl rfl) ?_
  show X l mX10_init 1 53 1866 true _ (kA.take (n + 31)) 30 1228 442 [some (vR (40, 0, 0))] [] (am_W (m + 67))
  refine r_aload_n (x := (40, 0, 0)) dX10_init_442 rfl ?_
  refine r_bipush (v := 12) dX10_init_443 rfl ?_
  refine c_newai (N := 12) na_int (tk_get hk (i := 31) rfl) (tk_get hA (i := 30) rfl) rfl rfl (by decide) rfl (by decide) dX10_init_445 (le_b rfl) (le_b rfl) ?_
  show X l mX10_init 1 53 1866 true _ (kA.take (n + 32)) 31 1240 447 [some (vR (40, 0, 0))] [vR (71, 0, 0), vR (40, 0, 0)] (am_W (m + 67))
  refine r_putr (x := some (71, 0, 0)) fp_X10_156 (fun _ => rfl) dX10_init_447 (kA_mem (tk_get hk (i := 0) rfl) (by omega)) rfl (lt_b rfl) rfl (fun v => by cases v <;> exact ⟨rfl, rfl⟩) ?_
  refine X_W (W_ur (tk_get hw (i := 67) rfl) rfl rfl rfl) ?_
  show X l mX10_init 1 53 1866 true _ (kA.take (n + 32)) 31 1240 450 [some (vR (40, 0, 0))] [] (am_W (m + 68))
  refine r_aload_n (x := (40, 0, 0)) dX10_init_450 rfl ?_
  refine r_bipush (v := 36) dX10_init_451 rfl ?_
  refine c_newai (N := 36) na_int (tk_get hk (i := 32) rfl) (tk_get hA (i := 31) rfl) rfl rfl (by decide) rfl (by decide) dX10_init_453 (le_b rfl) (le_b rfl) ?_
  show X l mX10_init 1 53 1866 true _ (kA.take (n + 33)) 32 1276 455 [some (vR (40, 0, 0))] [vR (72, 0, 0), vR (40, 0, 0)] (am_W (m + 68))
  refine r_putr (x := some (72, 0, 0)) fp_X10_159 (fun _ => rfl) dX10_init_455 (kA_mem (tk_get hk (i := 0) rfl) (by omega)) rfl (lt_b rfl) rfl (fun v => by cases v <;> exact ⟨rfl, rfl⟩) ?_
  refine X_W (W_ur (tk_get hw (i := 68) rfl) rfl rfl rfl) ?_
  show X l mX10_init 1 53 1866 true _ (kA.take (n + 33)) 32 1276 458 [some (vR (40, 0, 0))] [] (am_W (m + 69))
  refine r_aload_n (x := (40, 0, 0)) dX10_init_458 rfl ?_
  refine r_iconst (v := 0) dX10_init_459 rfl ?_
  refine r_puti fp_X10_162 (fun h => by cases h) dX10_init_460 (kA_mem (tk_get hk (i := 0) rfl) (by omega)) rfl (lt_b rfl) rfl rfl rfl ?_
  refine X_W (W_ui (tk_get hw (i := 69) rfl) rfl rfl rfl) ?_
  show X l mX10_init 1 53 1866 true _ (kA.take (n + 33)) 32 1276 463 [some (vR (40, 0, 0))] [] (am_W (m + 70))
  refine r_aload_n (x := (40, 0, 0)) dX10_init_463 rfl ?_
  refine r_iconst (v := 0) dX10_init_464 rfl ?_
  refine r_puti fp_X10_165 (fun h => by cases h) dX10_init_465 (kA_mem (tk_get hk (i := 0) rfl) (by omega)) rfl (lt_b rfl) rfl rfl rfl ?_
  refine X_W (W_ui (tk_get hw (i := 70) rfl) rfl rfl rfl) ?_
  show X l mX10_init 1 53 1866 true _ (kA.take (n + 33)) 32 1276 468 [some (vR (40, 0, 0))] [] (am_W (m + 71))
  refine r_aload_n (x := (40, 0, 0)) dX10_init_468 rfl ?_
  refine r_iconst (v := 0) dX10_init_469 rfl ?_
  refine r_puti fp_X10_168 (fun h => by cases h) dX10_init_470 (kA_mem (tk_get hk (i := 0) rfl) (by omega)) rfl (lt_b rfl) rfl rfl rfl ?_
  refine X_W (W_ui (tk_get hw (i := 71) rfl) rfl rfl rfl) ?_
  show X l mX10_init 1 53 1866 true _ (kA.take (n + 33)) 32 1276 473 [some (vR (40, 0, 0))] [] (am_W (m + 72))
  refine r_aload_n (x := (40, 0, 0)) dX10_init_473 rfl ?_
  refine r_bipush (v := 6) dX10_init_474 rfl ?_
  refine c_newai (N := 6) na_int (tk_get hk (i := 33) rfl) (tk_get hA (i := 32) rfl) rfl rfl (by decide) rfl (by decide) dX10_init_476 (le_b rfl) (le_b rfl) ?_
  show X l mX10_init 1 53 1866 true _ (kA.take (n + 34)) 33 1282 478 [some (vR (40, 0, 0))] [vR (73, 0, 0), vR (40, 0, 0)] (am_W (m + 72))
  refine r_putr (x := some (73, 0, 0)) fp_X10_171 (fun _ => rfl) dX10_init_478 (kA_mem (tk_get hk (i := 0) rfl) (by omega)) rfl (lt_b rfl) rfl (fun v => by cases v <;> exact ⟨rfl, rfl⟩) ?_
  refine X_W (W_ur (tk_get hw (i := 72) rfl) rfl rfl rfl) ?_
  show X l mX10_init 1 53 1866 true _ (kA.take (n + 34)) 33 1282 481 [some (vR (40, 0, 0))] [] (am_W (m + 73))
  refine r_aload_n (x := (40, 0, 0)) dX10_init_481 rfl ?_
  refine r_bipush (v := 6) dX10_init_482 rfl ?_
  refine c_newai (N := 6) na_int (tk_get hk (i := 34) rfl) (tk_get hA (i := 33) rfl) rfl rfl (by decide) rfl (by decide) dX10_init_484 (le_b rfl) (le_b rfl) ?_
  show X l mX10_init 1 53 1866 true _ (kA.take (n + 35)) 34 1288 486 [some (vR (40, 0, 0))] [vR (74, 0, 0), vR (40, 0, 0)] (am_W (m + 73))
  refine r_putr (x := some (74, 0, 0)) fp_X10_174 (fun _ => rfl) dX10_init_486 (kA_mem (tk_get hk (i := 0) rfl) (by omega)) rfl (lt_b rfl) rfl (fun v => by cases v <;> exact ⟨rfl, rfl⟩) ?_
  refine X_W (W_ur (tk_get hw (i := 73) rfl) rfl rfl rfl) ?_
  show X l mX10_init 1 53 1866 true _ (kA.take (n + 35)) 34 1288 489 [some (vR (40, 0, 0))] [] (am_W (m + 74))
  refine r_aload_n (x := (40, 0, 0)) dX10_init_489 rfl ?_
  refine r_bipush (v := 6) dX10_init_490 rfl ?_
  refine c_newai (N := 6) na_int (tk_get hk (i := 35) rfl) (tk_get hA (i := 34) rfl) rfl rfl (by decide) rfl (by decide) dX10_init_492 (le_b rfl) (le_b rfl) ?_
  show X l mX10_init 1 53 1866 true _ (kA.take (n + 36)) 35 1294 494 [some (vR (40, 0, 0))] [vR (75, 0, 0), vR (40, 0, 0)] (am_W (m + 74))
  refine r_putr (x := some (75, 0, 0)) fp_X10_177 (fun _ => rfl) dX10_init_494 (kA_mem (tk_get hk (i := 0) rfl) (by omega)) rfl (lt_b rfl) rfl (fun v => by cases v <;> exact ⟨rfl, rfl⟩) ?_
  refine X_W (W_ur (tk_get hw (i := 74) rfl) rfl rfl rfl) ?_
  show X l mX10_init 1 53 1866 true _ (kA.take (n + 36)) 35 1294 497 [some (vR (40, 0, 0))] [] (am_W (m + 75))
  refine r_aload_n (x := (40, 0, 0)) dX10_init_497 rfl ?_
  refine r_bipush (v := 6) dX10_init_498 rfl ?_
  refine c_newai (N := 6) na_int (tk_get hk (i := 36) rfl) (tk_get hA (i := 35) rfl) rfl rfl (by decide) rfl (by decide) dX10_init_500 (le_b rfl) (le_b rfl) ?_
  show X l mX10_init 1 53 1866 true _ (kA.take (n + 37)) 36 1300 502 [some (vR (40, 0, 0))] [vR (76, 0, 0), vR (40, 0, 0)] (am_W (m + 75))
  refine r_putr (x := some (76, 0, 0)) fp_X10_180 (fun _ => rfl) dX10_init_502 (kA_mem (tk_get hk (i := 0) rfl) (by omega)) rfl (lt_b rfl) rfl (fun v => by cases v <;> exact ⟨rfl, rfl⟩) ?_
  refine X_W (W_ur (tk_get hw (i := 75) rfl) rfl rfl rfl) ?_
  show X l mX10_init 1 53 1866 true _ (kA.take (n + 37)) 36 1300 505 [some (vR (40, 0, 0))] [] (am_W (m + 76))
  refine r_aload_n (x := (40, 0, 0)) dX10_init_505 rfl ?_
  refine r_bipush (v := 6) dX10_init_506 rfl ?_
  refine c_newai (N := 6) na_int (tk_get hk (i := 37) rfl) (tk_get hA (i := 36) rfl) rfl rfl (by decide) rfl (by decide) dX10_init_508 (le_b rfl) (le_b rfl) ?_
  show X l mX10_init 1 53 1866 true _ (kA.take (n + 38)) 37 1306 510 [some (vR (40, 0, 0))] [vR (77, 0, 0), vR (40, 0, 0)] (am_W (m + 76))
  refine r_putr (x := some (77, 0, 0)) fp_X10_183 (fun _ => rfl) dX10_init_510 (kA_mem (tk_get hk (i := 0) rfl) (by omega)) rfl (lt_b rfl) rfl (fun v => by cases v <;> exact ⟨rfl, rfl⟩) ?_
  refine X_W (W_ur (tk_get hw (i := 76) rfl) rfl rfl rfl) ?_
  show X l mX10_init 1 53 1866 true _ (kA.take (n + 38)) 37 1306 513 [some (vR (40, 0, 0))] [] (am_W (m + 77))
  refine r_aload_n (x := (40, 0, 0)) dX10_init_513 rfl ?_
  refine r_lconst (v := 0) dX10_init_514 rfl ?_
  refine r_putl fp_X10_186 (fun h => by cases h) dX10_init_515 (kA_mem (tk_get hk (i := 0) rfl) (by omega)) rfl (lt_b rfl) rfl ?_
  refine X_W (W_ul (tk_get hw (i := 77) rfl) rfl rfl rfl) ?_
  show X l mX10_init 1 53 1866 true _ (kA.take (n + 38)) 37 1306 518 [some (vR (40, 0, 0))] [] (am_W (m + 78))
  refine r_aload_n (x := (40, 0, 0)) dX10_init_518 rfl ?_
  refine r_lconst (v := 0) dX10_init_519 rfl ?_
  refine r_putl fp_X10_190 (fun h => by cases h) dX10_init_520 (kA_mem (tk_get hk (i := 0) rfl) (by omega)) rfl (lt_b rfl) rfl ?_
  refine X_W (W_ul (tk_get hw (i := 78) rfl) rfl rfl rfl) ?_
  show X l mX10_init 1 53 1866 true _ (kA.take (n + 38)) 37 1306 523 [some (vR (40, 0, 0))] [] (am_W (m + 79))
  refine r_aload_n (x := (40, 0, 0)) dX10_init_523 rfl ?_
  refine r_iconst (v := 0) dX10_init_524 rfl ?_
  refine r_puti fp_X10_193 (fun h => by cases h) dX10_init_525 (kA_mem (tk_get hk (i := 0) rfl) (by omega)) rfl (lt_b rfl) rfl rfl rfl ?_
  refine X_W (W_ui (tk_get hw (i := 79) rfl) rfl rfl rfl) ?_
  show X l mX10_init 1 53 1866 true _ (kA.take (n + 38)) 37 1306 528 [some (vR (40, 0, 0))] [] (am_W (m + 80))
  refine r_aload_n (x := (40, 0, 0)) dX10_init_528 rfl ?_
  refine r_iconst (v := -1) dX10_init_529 rfl ?_
  refine r_puti fp_X10_197 (fun h => by cases h) dX10_init_530 (kA_mem (tk_get hk (i := 0) rfl) (by omega)) rfl (lt_b rfl) rfl rfl rfl ?_
  refine X_W (W_ui (tk_get hw (i := 80) rfl) rfl rfl rfl) ?_
  show X l mX10_init 1 53 1866 true _ (kA.take (n + 38)) 37 1306 533 [some (vR (40, 0, 0))] [] (am_W (m + 81))
  refine r_aload_n (x := (40, 0, 0)) dX10_init_533 rfl ?_
  refine r_iconst (v := 0) dX10_init_534 rfl ?_
  refine r_puti fp_X10_200 (fun h => by cases h) dX10_init_535 (kA_mem (tk_get hk (i := 0) rfl) (by omega)) rfl (lt_b rfl) rfl rfl rfl ?_
  refine X_W (W_ui (tk_get hw (i := 81) rfl) rfl rfl rfl) ?_
  show X l mX10_init 1 53 1866 true _ (kA.take (n + 38)) 37 1306 538 [some (vR (40, 0, 0))] [] (am_W (m + 82))
  refine r_aload_n (x := (40, 0, 0)) dX10_init_538 rfl ?_
  refine r_iconst (v := 0) dX10_init_539 rfl ?_
  refine r_puti fp_X10_203 (fun h => by cases h) dX10_init_540 (kA_mem (tk_get hk (i := 0) rfl) (by omega)) rfl (lt_b rfl) rfl rfl rfl ?_
  refine X_W (W_ui (tk_get hw (i := 82) rfl) rfl rfl rfl) ?_
  show X l mX10_init 1 53 1866 true _ (kA.take (n + 38)) 37 1306 543 [some (vR (40, 0, 0))] [] (am_W (m + 83))
  refine r_aload_n (x := (40, 0, 0)) dX10_init_543 rfl ?_
  refine r_iconst (v := 0) dX10_init_544 rfl ?_
  refine r_puti fp_X10_206 (fun h => by cases h) dX10_init_545 (kA_mem (tk_get hk (i := 0) rfl) (by omega)) rfl (lt_b rfl) rfl rfl rfl ?_
  refine X_W (W_ui (tk_get hw (i := 83) rfl) rfl rfl rfl) ?_
  show X l mX10_init 1 53 1866 true _ (kA.take (n + 38)) 37 1306 548 [some (vR (40, 0, 0))] [] (am_W (m + 84))
  refine r_aload_n (x := (40, 0, 0)) dX10_init_548 rfl ?_
  refine r_iconst (v := 0) dX10_init_549 rfl ?_
  refine r_puti fp_X10_209 (fun h => by cases h) dX10_init_550 (kA_mem (tk_get hk (i := 0) rfl) (by omega)) rfl (lt_b rfl) rfl rfl rfl ?_
  refine X_W (W_ui (tk_get hw (i := 84) rfl) rfl rfl rfl) ?_
  show X l mX10_init 1 53 1866 true _ (kA.take (n + 38)) 37 1306 553 [some (vR (40, 0, 0))] [] (am_W (m + 85))
  refine r_aload_n (x := (40, 0, 0)) dX10_init_553 rfl ?_
  refine r_iconst (v := 0) dX10_init_554 rfl ?_
  refine r_puti fp_X10_212 (fun h => by cases h) dX10_init_555 (kA_mem (tk_get hk (i := 0) rfl) (by omega)) rfl (lt_b rfl) rfl rfl rfl ?_
  refine X_W (W_ui (tk_get hw (i := 85) rfl) rfl rfl rfl) ?_
  show X l mX10_init 1 53 1866 true _ (kA.take (n + 38)) 37 1306 558 [some (vR (40, 0, 0))] [] (am_W (m + 86))
  refine r_aload_n (x := (40, 0, 0)) dX10_init_558 rfl ?_
  refine r_bipush (v := 6) dX10_init_559 rfl ?_
  refine c_newai (N := 6) na_int (tk_get hk (i := 38) rfl) (tk_get hA (i := 37) rfl) rfl rfl (by decide) rfl (by decide) dX10_init_561 (le_b rfl) (le_b rfl) ?_
  show X l mX10_init 1 53 1866 true _ (kA.take (n + 39)) 38 1312 563 [some (vR (40, 0, 0))] [vR (78, 0, 0), vR (40, 0, 0)] (am_W (m + 86))
  refine r_putr (x := some (78, 0, 0)) fp_X10_215 (fun _ => rfl) dX10_init_563 (kA_mem (tk_get hk (i := 0) rfl) (by omega)) rfl (lt_b rfl) rfl (fun v => by cases v <;> exact ⟨rfl, rfl⟩) ?_
  refine X_W (W_ur (tk_get hw (i := 86) rfl) rfl rfl rfl) ?_
  show X l mX10_init 1 53 1866 true _ (kA.take (n + 39)) 38 1312 566 [some (vR (40, 0, 0))] [] (am_W (m + 87))
  refine r_aload_n (x := (40, 0, 0)) dX10_init_566 rfl ?_
  refine r_bipush (v := 6) dX10_init_567 rfl ?_
  refine c_newai (N := 6) na_int (tk_get hk (i := 39) rfl) (tk_get hA (i := 38) rfl) rfl rfl (by decide) rfl (by decide) dX10_init_569 (le_b rfl) (le_b rfl) ?_
  show X l mX10_init 1 53 1866 true _ (kA.take (n + 40)) 39 1318 571 [some (vR (40, 0, 0))] [vR (79, 0, 0), vR (40, 0, 0)] (am_W (m + 87))
  refine r_putr (x := some (79, 0, 0)) fp_X10_218 (fun _ => rfl) dX10_init_571 (kA_mem (tk_get hk (i := 0) rfl) (by omega)) rfl (lt_b rfl) rfl (fun v => by cases v <;> exact ⟨rfl, rfl⟩) ?_
  refine X_W (W_ur (tk_get hw (i := 87) rfl) rfl rfl rfl) ?_
  show X l mX10_init 1 53 1866 true _ (kA.take (n + 40)) 39 1318 574 [some (vR (40, 0, 0))] [] (am_W (m + 88))
  refine r_aload_n (x := (40, 0, 0)) dX10_init_574 rfl ?_
  refine r_bipush (v := 6) dX10_init_575 rfl ?_
  refine c_newai (N := 6) na_int (tk_get hk (i := 40) rfl) (tk_get hA (i := 39) rfl) rfl rfl (by decide) rfl (by decide) dX10_init_577 (le_b rfl) (le_b rfl) ?_
  show X l mX10_init 1 53 1866 true _ (kA.take (n + 41)) 40 1324 579 [some (vR (40, 0, 0))] [vR (80, 0, 0), vR (40, 0, 0)] (am_W (m + 88))
  refine r_putr (x := some (80, 0, 0)) fp_X10_221 (fun _ => rfl) dX10_init_579 (kA_mem (tk_get hk (i := 0) rfl) (by omega)) rfl (lt_b rfl) rfl (fun v => by cases v <;> exact ⟨rfl, rfl⟩) ?_
  refine X_W (W_ur (tk_get hw (i := 88) rfl) rfl rfl rfl) ?_
  show X l mX10_init 1 53 1866 true _ (kA.take (n + 41)) 40 1324 582 [some (vR (40, 0, 0))] [] (am_W (m + 89))
  refine r_aload_n (x := (40, 0, 0)) dX10_init_582 rfl ?_
  refine r_bipush (v := 6) dX10_init_583 rfl ?_
  refine c_newai (N := 6) na_int (tk_get hk (i := 41) rfl) (tk_get hA (i := 40) rfl) rfl rfl (by decide) rfl (by decide) dX10_init_585 (le_b rfl) (le_b rfl) ?_
  show X l mX10_init 1 53 1866 true _ (kA.take (n + 42)) 41 1330 587 [some (vR (40, 0, 0))] [vR (81, 0, 0), vR (40, 0, 0)] (am_W (m + 89))
  refine r_putr (x := some (81, 0, 0)) fp_X10_224 (fun _ => rfl) dX10_init_587 (kA_mem (tk_get hk (i := 0) rfl) (by omega)) rfl (lt_b rfl) rfl (fun v => by cases v <;> exact ⟨rfl, rfl⟩) ?_
  refine X_W (W_ur (tk_get hw (i := 89) rfl) rfl rfl rfl) ?_
  show X l mX10_init 1 53 1866 true _ (kA.take (n + 42)) 41 1330 590 [some (vR (40, 0, 0))] [] (am_W (m + 90))
  refine r_aload_n (x := (40, 0, 0)) dX10_init_590 rfl ?_
  refine r_bipush (v := 6) dX10_init_591 rfl ?_
  refine c_newai (N := 6) na_int (tk_get hk (i := 42) rfl) (tk_get hA (i := 41) rfl) rfl rfl (by decide) rfl (by decide) dX10_init_593 (le_b rfl) (le_b rfl) ?_
  show X l mX10_init 1 53 1866 true _ (kA.take (n + 43)) 42 1336 595 [some (vR (40, 0, 0))] [vR (82, 0, 0), vR (40, 0, 0)] (am_W (m + 90))
  refine r_putr (x := some (82, 0, 0)) fp_X10_227 (fun _ => rfl) dX10_init_595 (kA_mem (tk_get hk (i := 0) rfl) (by omega)) rfl (lt_b rfl) rfl (fun v => by cases v <;> exact ⟨rfl, rfl⟩) ?_
  refine X_W (W_ur (tk_get hw (i := 90) rfl) rfl rfl rfl) ?_
  show X l mX10_init 1 53 1866 true _ (kA.take (n + 43)) 42 1336 598 [some (vR (40, 0, 0))] [] (am_W (m + 91))
  refine r_aload_n (x := (40, 0, 0)) dX10_init_598 rfl ?_
  refine r_bipush (v := 6) dX10_init_599 rfl ?_
  refine c_newai (N := 6) na_int (tk_get hk (i := 43) rfl) (tk_get hA (i := 42) rfl) rfl rfl (by decide) rfl (by decide) dX10_init_601 (le_b rfl) (le_b rfl) ?_
  show X l mX10_init 1 53 1866 true _ (kA.take (n + 44)) 43 1342 603 [some (vR (40, 0, 0))] [vR (83, 0, 0), vR (40, 0, 0)] (am_W (m + 91))
  refine r_putr (x := some (83, 0, 0)) fp_X10_230 (fun _ => rfl) dX10_init_603 (kA_mem (tk_get hk (i := 0) rfl) (by omega)) rfl (lt_b rfl) rfl (fun v => by cases v <;> exact ⟨rfl, rfl⟩) ?_
  refine X_W (W_ur (tk_get hw (i := 91) rfl) rfl rfl rfl) ?_
  show X l mX10_init 1 53 1866 true _ (kA.take (n + 44)) 43 1342 606 [some (vR (40, 0, 0))] [] (am_W (m + 92))
  refine r_aload_n (x := (40, 0, 0)) dX10_init_606 rfl ?_
  refine r_bipush (v := 6) dX10_init_607 rfl ?_
  refine c_newai (N := 6) na_int (tk_get hk (i := 44) rfl) (tk_get hA (i := 43) rfl) rfl rfl (by decide) rfl (by decide) dX10_init_609 (le_b rfl) (le_b rfl) ?_
  show X l mX10_init 1 53 1866 true _ (kA.take (n + 45)) 44 1348 611 [some (vR (40, 0, 0))] [vR (84, 0, 0), vR (40, 0, 0)] (am_W (m + 92))
  refine r_putr (x := some (84, 0, 0)) fp_X10_233 (fun _ => rfl) dX10_init_611 (kA_mem (tk_get hk (i := 0) rfl) (by omega)) rfl (lt_b rfl) rfl (fun v => by cases v <;> exact ⟨rfl, rfl⟩) ?_
  refine X_W (W_ur (tk_get hw (i := 92) rfl) rfl rfl rfl) ?_
  show X l mX10_init 1 53 1866 true _ (kA.take (n + 45)) 44 1348 614 [some (vR (40, 0, 0))] [] (am_W (m + 93))
  refine r_aload_n (x := (40, 0, 0)) dX10_init_614 rfl ?_
  refine r_bipush (v := 6) dX10_init_615 rfl ?_
  refine c_newai (N := 6) na_int (tk_get hk (i := 45) rfl) (tk_get hA (i := 44) rfl) rfl rfl (by decide) rfl (by decide) dX10_init_617 (le_b rfl) (le_b rfl) ?_
  show X l mX10_init 1 53 1866 true _ (kA.take (n + 46)) 45 1354 619 [some (vR (40, 0, 0))] [vR (85, 0, 0), vR (40, 0, 0)] (am_W (m + 93))
  refine r_putr (x := some (85, 0, 0)) fp_X10_236 (fun _ => rfl) dX10_init_619 (kA_mem (tk_get hk (i := 0) rfl) (by omega)) rfl (lt_b rfl) rfl (fun v => by cases v <;> exact ⟨rfl, rfl⟩) ?_
  refine X_W (W_ur (tk_get hw (i := 93) rfl) rfl rfl rfl) ?_
  show X l mX10_init 1 53 1866 true _ (kA.take (n + 46)) 45 1354 622 [some (vR (40, 0, 0))] [] (am_W (m + 94))
  refine r_aload_n (x := (40, 0, 0)) dX10_init_622 rfl ?_
  refine r_bipush (v := 36) dX10_init_623 rfl ?_
  refine c_newai (N := 36) na_int (tk_get hk (i := 46) rfl) (tk_get hA (i := 45) rfl) rfl rfl (by decide) rfl (by decide) dX10_init_625 (le_b rfl) (le_b rfl) ?_
  show X l mX10_init 1 53 1866 true _ (kA.take (n + 47)) 46 1390 627 [some (vR (40, 0, 0))] [vR (86, 0, 0), vR (40, 0, 0)] (am_W (m + 94))
  refine r_putr (x := some (86, 0, 0)) fp_X10_239 (fun _ => rfl) dX10_init_627 (kA_mem (tk_get hk (i := 0) rfl) (by omega)) rfl (lt_b rfl) rfl (fun v => by cases v <;> exact ⟨rfl, rfl⟩) ?_
  refine X_W (W_ur (tk_get hw (i := 94) rfl) rfl rfl rfl) ?_
  show X l mX10_init 1 53 1866 true _ (kA.take (n + 47)) 46 1390 630 [some (vR (40, 0, 0))] [] (am_W (m + 95))
  refine r_aload_n (x := (40, 0, 0)) dX10_init_630 rfl ?_
  refine r_bipush (v := 12) dX10_init_631 rfl ?_
  refine c_newai (N := 12) na_int (tk_get hk (i := 47) rfl) (tk_get hA (i := 46) rfl) rfl rfl (by decide) rfl (by decide) dX10_init_633 (le_b rfl) (le_b rfl) ?_
  show X l mX10_init 1 53 1866 true _ (kA.take (n + 48)) 47 1402 635 [some (vR (40, 0, 0))] [vR (87, 0, 0), vR (40, 0, 0)] (am_W (m + 95))
  refine r_putr (x := some (87, 0, 0)) fp_X10_242 (fun _ => rfl) dX10_init_635 (kA_mem (tk_get hk (i := 0) rfl) (by omega)) rfl (lt_b rfl) rfl (fun v => by cases v <;> exact ⟨rfl, rfl⟩) ?_
  refine X_W (W_ur (tk_get hw (i := 95) rfl) rfl rfl rfl) ?_
  show X l mX10_init 1 53 1866 true _ (kA.take (n + 48)) 47 1402 638 [some (vR (40, 0, 0))] [] (am_W (m + 96))
  refine r_aload_n (x := (40, 0, 0)) dX10_init_638 rfl ?_
  refine r_bipush (v := 12) dX10_init_639 rfl ?_
  refine c_newai (N := 12) na_int (tk_get hk (i := 48) rfl) (tk_get hA (i := 47) rfl) rfl rfl (by decide) rfl (by decide) dX10_init_641 (le_b rfl) (le_b rfl) ?_
  show X l mX10_init 1 53 1866 true _ (kA.take (n + 49)) 48 1414 643 [some (vR (40, 0, 0))] [vR (88, 0, 0), vR (40, 0, 0)] (am_W (m + 96))
  refine r_putr (x := some (88, 0, 0)) fp_X10_245 (fun _ => rfl) dX10_init_643 (kA_mem (tk_get hk (i := 0) rfl) (by omega)) rfl (lt_b rfl) rfl (fun v => by cases v <;> exact ⟨rfl, rfl⟩) ?_
  refine X_W (W_ur (tk_get hw (i := 96) rfl) rfl rfl rfl) ?_
  show X l mX10_init 1 53 1866 true _ (kA.take (n + 49)) 48 1414 646 [some (vR (40, 0, 0))] [] (am_W (m + 97))
  refine r_aload_n (x := (40, 0, 0)) dX10_init_646 rfl ?_
  refine r_iconst (v := 0) dX10_init_647 rfl ?_
  refine r_puti fp_X10_248 (fun h => by cases h) dX10_init_648 (kA_mem (tk_get hk (i := 0) rfl) (by omega)) rfl (lt_b rfl) rfl rfl rfl ?_
  refine X_W (W_ui (tk_get hw (i := 97) rfl) rfl rfl rfl) ?_
  show X l mX10_init 1 53 1866 true _ (kA.take (n + 49)) 48 1414 651 [some (vR (40, 0, 0))] [] (am_W (m + 98))
  refine r_aload_n (x := (40, 0, 0)) dX10_init_651 rfl ?_
  refine r_bipush (v := 20) dX10_init_652 rfl ?_
  refine c_newai (N := 20) na_int (tk_get hk (i := 49) rfl) (tk_get hA (i := 48) rfl) rfl rfl (by decide) rfl (by decide) dX10_init_654 (le_b rfl) (le_b rfl) ?_
  show X l mX10_init 1 53 1866 true _ (kA.take (n + 50)) 49 1434 656 [some (vR (40, 0, 0))] [vR (89, 0, 0), vR (40, 0, 0)] (am_W (m + 98))
  refine r_putr (x := some (89, 0, 0)) fp_X10_251 (fun _ => rfl) dX10_init_656 (kA_mem (tk_get hk (i := 0) rfl) (by omega)) rfl (lt_b rfl) rfl (fun v => by cases v <;> exact ⟨rfl, rfl⟩) ?_
  refine X_W (W_ur (tk_get hw (i := 98) rfl) rfl rfl rfl) ?_
  show X l mX10_init 1 53 1866 true _ (kA.take (n + 50)) 49 1434 659 [some (vR (40, 0, 0))] [] (am_W (m + 99))
  refine r_aload_n (x := (40, 0, 0)) dX10_init_659 rfl ?_
  refine r_bipush (v := 6) dX10_init_660 rfl ?_
  refine c_newai (N := 6) na_int (tk_get hk (i := 50) rfl) (tk_get hA (i := 49) rfl) rfl rfl (by decide) rfl (by decide) dX10_init_662 (le_b rfl) (le_b rfl) ?_
  show X l mX10_init 1 53 1866 true _ (kA.take (n + 51)) 50 1440 664 [some (vR (40, 0, 0))] [vR (90, 0, 0), vR (40, 0, 0)] (am_W (m + 99))
  refine r_dup dX10_init_664 rfl ?_
  refine r_iconst (v := 0) dX10_init_665 rfl ?_
  refine r_iconst (v := -1) dX10_init_666 rfl ?_
  refine r_iast dX10_init_667 (kA_mem (tk_get hk (i := 50) rfl) (by omega)) rfl (vp_lit (i := 0) (n := 6) rfl) ?_
  show X l mX10_init 1 53 1866 true _ (kA.take (n + 51)) 50 1440 668 [some (vR (40, 0, 0))] [vR (90, 0, 0), vR (40, 0, 0)] (am_ui (am_W (m + 99)) (90, 0, 0) 0 (-1))
  refine X_W (W_ui (tk_get hw (i := 99) rfl) rfl rfl rfl) ?_
  show X l mX10_init 1 53 1866 true _ (kA.take (n + 51)) 50 1440 668 [some (vR (40, 0, 0))] [vR (90, 0, 0), vR (40, 0, 0)] (am_W (m + 100))
  refine r_dup dX10_init_668 rfl ?_
  refine r_iconst (v := 1) dX10_init_669 rfl ?_
  refine r_iconst (v := -1) dX10_init_670 rfl ?_
  refine r_iast dX10_init_671 (kA_mem (tk_get hk (i := 50) rfl) (by omega)) rfl (vp_lit (i := 1) (n := 6) rfl) ?_
  show X l mX10_init 1 53 1866 true _ (kA.take (n + 51)) 50 1440 672 [some (vR (40, 0, 0))] [vR (90, 0, 0), vR (40, 0, 0)] (am_ui (am_W (m + 100)) (90, 0, 0) 1 (-1))
  refine X_W (W_ui (tk_get hw (i := 100) rfl) rfl rfl rfl) ?_
  show X l mX10_init 1 53 1866 true _ (kA.take (n + 51)) 50 1440 672 [some (vR (40, 0, 0))] [vR (90, 0, 0), vR (40, 0, 0)] (am_W (m + 101))
  refine r_dup dX10_init_672 rfl ?_
  refine r_iconst (v := 2) dX10_init_673 rfl ?_
  refine r_iconst (v := -1) dX10_init_674 rfl ?_
  refine r_iast dX10_init_675 (kA_mem (tk_get hk (i := 50) rfl) (by omega)) rfl (vp_lit (i := 2) (n := 6) rfl) ?_
  show X l mX10_init 1 53 1866 true _ (kA.take (n + 51)) 50 1440 676 [some (vR (40, 0, 0))] [vR (90, 0, 0), vR (40, 0, 0)] (am_ui (am_W (m + 101)) (90, 0, 0) 2 (-1))
  refine X_W (W_ui (tk_get hw (i := 101) rfl) rfl rfl rfl) ?_
  show X l mX10_init 1 53 1866 true _ (kA.take (n + 51)) 50 1440 676 [some (vR (40, 0, 0))] [vR (90, 0, 0), vR (40, 0, 0)] (am_W (m + 102))
  refine r_dup dX10_init_676 rfl ?_
  refine r_iconst (v := 3) dX10_init_677 rfl ?_
  refine r_iconst (v := -1) dX10_init_678 rfl ?_
  refine r_iast dX10_init_679 (kA_mem (tk_get hk (i := 50) rfl) (by omega)) rfl (vp_lit (i := 3) (n := 6) rfl) ?_
  show X l mX10_init 1 53 1866 true _ (kA.take (n + 51)) 50 1440 680 [some (vR (40, 0, 0))] [vR (90, 0, 0), vR (40, 0, 0)] (am_ui (am_W (m + 102)) (90, 0, 0) 3 (-1))
  refine X_W (W_ui (tk_get hw (i := 102) rfl) rfl rfl rfl) ?_
  show X l mX10_init 1 53 1866 true _ (kA.take (n + 51)) 50 1440 680 [some (vR (40, 0, 0))] [vR (90, 0, 0), vR (40, 0, 0)] (am_W (m + 103))
  refine r_dup dX10_init_680 rfl ?_
  refine r_iconst (v := 4) dX10_init_681 rfl ?_
  refine r_iconst (v := -1) dX10_init_682 rfl ?_
  refine r_iast dX10_init_683 (kA_mem (tk_get hk (i := 50) rfl) (by omega)) rfl (vp_lit (i := 4) (n := 6) rfl) ?_
  show X l mX10_init 1 53 1866 true _ (kA.take (n + 51)) 50 1440 684 [some (vR (40, 0, 0))] [vR (90, 0, 0), vR (40, 0, 0)] (am_ui (am_W (m + 103)) (90, 0, 0) 4 (-1))
  refine X_W (W_ui (tk_get hw (i := 103) rfl) rfl rfl rfl) ?_
  show X l mX10_init 1 53 1866 true _ (kA.take (n + 51)) 50 1440 684 [some (vR (40, 0, 0))] [vR (90, 0, 0), vR (40, 0, 0)] (am_W (m + 104))
  refine r_dup dX10_init_684 rfl ?_
  refine r_iconst (v := 5) dX10_init_685 rfl ?_
  refine r_iconst (v := -1) dX10_init_686 rfl ?_
  refine r_iast dX10_init_687 (kA_mem (tk_get hk (i := 50) rfl) (by omega)) rfl (vp_lit (i := 5) (n := 6) rfl) ?_
  show X l mX10_init 1 53 1866 true _ (kA.take (n + 51)) 50 1440 688 [some (vR (40, 0, 0))] [vR (90, 0, 0), vR (40, 0, 0)] (am_ui (am_W (m + 104)) (90, 0, 0) 5 (-1))
  refine X_W (W_ui (tk_get hw (i := 104) rfl) rfl rfl rfl) ?_
  show X l mX10_init 1 53 1866 true _ (kA.take (n + 51)) 50 1440 688 [some (vR (40, 0, 0))] [vR (90, 0, 0), vR (40, 0, 0)] (am_W (m + 105))
  refine r_putr (x := some (90, 0, 0)) fp_X10_254 (fun _ => rfl) dX10_init_688 (kA_mem (tk_get hk (i := 0) rfl) (by omega)) rfl (lt_b rfl) rfl (fun v => by cases v <;> exact ⟨rfl, rfl⟩) ?_
  refine X_W (W_ur (tk_get hw (i := 105) rfl) rfl rfl rfl) ?_
  show X l mX10_init 1 53 1866 true _ (kA.take (n + 51)) 50 1440 691 [some (vR (40, 0, 0))] [] (am_W (m + 106))
  refine r_aload_n (x := (40, 0, 0)) dX10_init_691 rfl ?_
  refine r_bipush (v := 6) dX10_init_692 rfl ?_
  refine c_newai (N := 6) na_int (tk_get hk (i := 51) rfl) (tk_get hA (i := 50) rfl) rfl rfl (by decide) rfl (by decide) dX10_init_694 (le_b rfl) (le_b rfl) ?_
  show X l mX10_init 1 53 1866 true _ (kA.take (n + 52)) 51 1446 696 [some (vR (40, 0, 0))] [vR (91, 0, 0), vR (40, 0, 0)] (am_W (m + 106))
  refine r_putr (x := some (91, 0, 0)) fp_X10_257 (fun _ => rfl) dX10_init_696 (kA_mem (tk_get hk (i := 0) rfl) (by omega)) rfl (lt_b rfl) rfl (fun v => by cases v <;> exact ⟨rfl, rfl⟩) ?_
  refine X_W (W_ur (tk_get hw (i := 106) rfl) rfl rfl rfl) ?_
  show X l mX10_init 1 53 1866 true _ (kA.take (n + 52)) 51 1446 699 [some (vR (40, 0, 0))] [] (am_W (m + 107))
  refine r_aload_n (x := (40, 0, 0)) dX10_init_699 rfl ?_
  refine r_sipush (v := 360) dX10_init_700 rfl ?_
  refine c_newal (N := 360) na_long (tk_get hk (i := 52) rfl) (tk_get hA (i := 51) rfl) rfl rfl (by decide) rfl (by decide) dX10_init_703 (le_b rfl) (le_b rfl) ?_
  show X l mX10_init 1 53 1866 true _ (kA.take (n + 53)) 52 1806 705 [some (vR (40, 0, 0))] [vR (92, 0, 0), vR (40, 0, 0)] (am_W (m + 107))
  refine r_putr (x := some (92, 0, 0)) fp_X10_260 (fun _ => rfl) dX10_init_705 (kA_mem (tk_get hk (i := 0) rfl) (by omega)) rfl (lt_b rfl) rfl (fun v => by cases v <;> exact ⟨rfl, rfl⟩) ?_
  refine X_W (W_ur (tk_get hw (i := 107) rfl) rfl rfl rfl) ?_
  show X l mX10_init 1 53 1866 true _ (kA.take (n + 53)) 52 1806 708 [some (vR (40, 0, 0))] [] (am_W (m + 108))
  refine r_aload_n (x := (40, 0, 0)) dX10_init_708 rfl ?_
  refine r_bipush (v := 60) dX10_init_709 rfl ?_
  refine c_newal (N := 60) na_long (tk_get hk (i := 53) rfl) (tk_get hA (i := 52) rfl) rfl rfl (by decide) rfl (by decide) dX10_init_711 (le_b rfl) (le_b rfl) ?_
  show X l mX10_init 1 53 1866 true _ (kA.take (n + 54)) 53 1866 713 [some (vR (40, 0, 0))] [vR (93, 0, 0), vR (40, 0, 0)] (am_W (m + 108))
  refine r_putr (x := some (93, 0, 0)) fp_X10_264 (fun _ => rfl) dX10_init_713 (kA_mem (tk_get hk (i := 0) rfl) (by omega)) rfl (lt_b rfl) rfl (fun v => by cases v <;> exact ⟨rfl, rfl⟩) ?_
  refine X_W (W_ur (tk_get hw (i := 108) rfl) rfl rfl rfl) ?_
  show X l mX10_init 1 53 1866 true _ (kA.take (n + 54)) 53 1866 716 [some (vR (40, 0, 0))] [] (am_W (m + 109))
  exact r_vret dX10_init_716 rfl (le_b rfl) (le_b rfl)

