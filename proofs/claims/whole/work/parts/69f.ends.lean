/-! ends -/
theorem sm_576 (G : Nat → Nat → Nat → Nat → Nat) {k : Nat} (hk : k ≤ 8) (z1 : ∀ w s w' s', k ≤ s → G w s w' s' = 0) (z2 : ∀ w s w' s', k ≤ s' → G w s w' s' = 0) : sm (fun c => G (c % 24 / 8) (c % 8) (c / 24 % 24 / 8) (c / 24 % 8)) (24 * 24) = sm (fun w => sm (fun s => sm (fun w' => sm (fun s' => G w s w' s') k) 3) k) 3 := by
  rw [sm_mul]
  have e1 : sm (fun d => sm (fun b => G ((24 * d + b) % 24 / 8) ((24 * d + b) % 8) ((24 * d + b) / 24 % 24 / 8) ((24 * d + b) / 24 % 8)) 24) 24 = sm (fun d => sm (fun b => G (b / 8) (b % 8) (d / 8) (d % 8)) 24) 24 := by
    refine sm_congr 24 (fun d hd => sm_congr 24 (fun b hb => ?_))
    rw [show (24 * d + b) % 24 / 8 = b / 8 by omega, show (24 * d + b) % 8 = b % 8 by omega, show (24 * d + b) / 24 % 24 / 8 = d / 8 by omega, show (24 * d + b) / 24 % 8 = d % 8 by omega]
  refine e1.trans ?_
  refine (sm_swap (fun b d => G (b / 8) (b % 8) (d / 8) (d % 8)) 24 24).trans ?_
  have e2 : ∀ b, sm (fun d => G (b / 8) (b % 8) (d / 8) (d % 8)) 24 = sm (fun w' => sm (fun s' => G (b / 8) (b % 8) w' s') k) 3 := fun b => sm_24 (fun w' s' => G (b / 8) (b % 8) w' s') hk (fun w s h _ => z2 _ _ _ _ h)
  refine (sm_congr 24 (fun b _ => e2 b)).trans ?_
  exact sm_24 (fun w s => sm (fun w' => sm (fun s' => G w s w' s') k) 3) hk (fun w s h _ => sm_z 3 (fun w' _ => sm_z k (fun s' _ => z1 _ _ _ _ h)))
theorem t1N_0 {V : Vil} {a w s : Nat} (h : 2 ^ V.2.2.1 ≤ s) : t1N V a w s = 0 := if_neg (by omega)
theorem eT_0 {V : Vil} {a p w s : Nat} (h : 2 ^ V.2.2.1 ≤ s) : eT V a p w s = 0 := by
  unfold eT
  rw [t1N_0 h, Nat.mul_zero]
  split <;> rfl
theorem wT_0 {V : Vil} {a p wo w s : Nat} (h : 2 ^ V.2.2.1 ≤ s) : wT V a p wo w s = 0 := by
  unfold wT
  rw [t1N_0 h, Nat.mul_zero, Nat.zero_mul]
theorem eT_p0 (V : Vil) (a w s : Nat) : eT V a 0 w s = 0 := by
  unfold eT
  rw [Nat.zero_mul]
  split <;> rfl
theorem wT_p0 (V : Vil) (a wo w s : Nat) : wT V a 0 wo w s = 0 := by
  unfold wT
  rw [Nat.zero_mul, Nat.zero_mul]
theorem sumE1 {V : Vil} (h3 : V.2.2.1 ≤ 3) (a : Nat) : sm (fun c => eC V a c 1) (24 ^ 1) = lastE V a 1 := by
  refine Eq.trans (sm_congr (g := fun c => eT V a 1 (c / 8) (c % 8)) 24 (fun c hc => ?_)) (sm_24 (fun w s => eT V a 1 w s) (p2_8 _ h3) (fun w s h _ => eT_0 h))
  show eT V a 1 (c % 24 / 8) (c % 8) = eT V a 1 (c / 8) (c % 8)
  rw [show c % 24 / 8 = c / 8 by omega]
theorem sumW1 {V : Vil} (h3 : V.2.2.1 ≤ 3) (a : Nat) : sm (fun c => wC V a c 1) (24 ^ 1) = lastW V a 1 0 := by
  refine Eq.trans (sm_congr (g := fun c => wT V a 1 0 (c / 8) (c % 8)) 24 (fun c hc => ?_)) (sm_24 (fun w s => wT V a 1 0 w s) (p2_8 _ h3) (fun w s h _ => wT_0 h))
  show wT V a 1 0 (c % 24 / 8) (c % 8) = wT V a 1 0 (c / 8) (c % 8)
  rw [show c % 24 / 8 = c / 8 by omega]
theorem sumE2 {V : Vil} (h3 : V.2.2.1 ≤ 3) (a : Nat) : sm (fun c => eC V a c 2) (24 ^ 2) = sm (fun w => sm (fun s => allE V a w s) (2 ^ V.2.2.1)) 3 := by
  refine Eq.trans ?_ (sm_576 (fun w s w' s' => eT (hourA V (nI w) (nI s)) w (t1N V a w s) w' s') (k := 2 ^ V.2.2.1) (p2_8 _ h3) (fun w s w' s' h => by rw [t1N_0 h]; exact eT_p0 _ _ _ _) (fun w s w' s' h => eT_0 (V := hourA V (nI w) (nI s)) h))
  refine sm_congr (24 * 24) (fun c hc => ?_)
  show eT (hourA V (nI (c % 24 / 8)) (nI (c % 8))) (c % 24 / 8) (1 * t1N V a (c % 24 / 8) (c % 8)) (c / 24 % 24 / 8) (c / 24 % 8) = _
  rw [Nat.one_mul]
theorem sumW2 {V : Vil} (h3 : V.2.2.1 ≤ 3) (a : Nat) : sm (fun c => wC V a c 2) (24 ^ 2) = sm (fun w => sm (fun s => allW V a w s) (2 ^ V.2.2.1)) 3 := by
  refine Eq.trans ?_ (sm_576 (fun w s w' s' => wT (hourA V (nI w) (nI s)) w (t1N V a w s) (wN V w V.2.2.1) w' s') (k := 2 ^ V.2.2.1) (p2_8 _ h3) (fun w s w' s' h => by rw [t1N_0 h]; exact wT_p0 _ _ _ _ _) (fun w s w' s' h => wT_0 (V := hourA V (nI w) (nI s)) h))
  refine sm_congr (24 * 24) (fun c hc => ?_)
  show wT (hourA V (nI (c % 24 / 8)) (nI (c % 8))) (c % 24 / 8) (1 * t1N V a (c % 24 / 8) (c % 8)) (0 + wN V (c % 24 / 8) V.2.2.1) (c / 24 % 24 / 8) (c / 24 % 8) = _
  rw [Nat.one_mul, Nat.zero_add]
theorem allE_le {V : Vil} (hA : okA V) (h3 : V.2.2.1 ≤ 3) {a : Nat} (ha : a < 3) : sm (fun w => sm (fun s => allE V a w s) (2 ^ V.2.2.1)) 3 ≤ 80000000 * 80000000 := by
  refine Nat.le_trans (sm2_mono (g := fun w s => 80000000 * t1N V a w s) _ _ (fun w s hw _ => ?_)) ?_
  · rw [Nat.mul_comm]
    exact lastE_le (V := hourA V (nI w) (nI s)) (okA_h hA _ _) h3 hw _
  · rw [sm2_cm]
    exact Nat.mul_le_mul (Nat.le_refl _) (t1N_sum hA h3 ha)
theorem allW_le {V : Vil} (hA : okA V) (h3 : V.2.2.1 ≤ 3) {a : Nat} (ha : a < 3) : sm (fun w => sm (fun s => allW V a w s) (2 ^ V.2.2.1)) 3 ≤ (594 * 80000000) * 80000000 := by
  refine Nat.le_trans (sm2_mono (g := fun w s => (594 * 80000000) * t1N V a w s) _ _ (fun w s hw _ => ?_)) ?_
  · have h1 := wN_le hA w V.2.2.1
    refine Nat.le_trans (lastW_le (V := hourA V (nI w) (nI s)) (okA_h hA _ _) h3 hw (t1N V a w s) (show wN V w V.2.2.1 ≤ 297 by omega)) ?_
    omega
  · rw [sm2_cm]
    exact Nat.mul_le_mul (Nat.le_refl _) (t1N_sum hA h3 ha)
theorem fin_e {u8 w8 : PM} {e v b : Nat} (he : e < 2 ^ 63) (hv : v < 2 ^ 63) (hb0 : 0 < b) (hb : b < 2 ^ 63) (u0 : u8.2.1 (28, 0, 0) 0 = lN e) (u1 : u8.2.1 (28, 0, 0) 1 = lN v) (u2 : u8.2.1 (28, 0, 0) 2 = lN b) (w0 : w8.2.1 (40, 0, 0) 58 = lN e) (w1 : w8.2.1 (40, 0, 0) 59 = lN v) (a1 a2 : Int32) : ∃ r,
    (if a1 = 0 then
      (f_X4_commonDivisor (u8.2.1 (28, 0, 0) 0) (u8.2.1 (28, 0, 0) 2) u8).bind fun r13 =>
      if 0 ≤ (lg_cmp r13 (1 : Int64)) then
        if a2 = 0 then
          if r13 = 0 then none else
          some ((u8.2.1 (28, 0, 0) 0) / r13, u8)
        else
        if r13 = 0 then none else
        some ((u8.2.1 (28, 0, 0) 2) / r13, u8)
      else
      some ((-9223372036854775808 : Int64), u8)
    else
    (f_X4_commonDivisor (u8.2.1 (28, 0, 0) 1) (u8.2.1 (28, 0, 0) 2) u8).bind fun r9 =>
    if 0 ≤ (lg_cmp r9 (1 : Int64)) then
      if a2 = 0 then
        if r9 = 0 then none else
        some ((u8.2.1 (28, 0, 0) 1) / r9, u8)
      else
      if r9 = 0 then none else
      some ((u8.2.1 (28, 0, 0) 2) / r9, u8)
    else
    some ((-9223372036854775808 : Int64), u8)) = some (r, u8) ∧
    (if a1 = 0 then
        (f_X10_divisor (w8.2.1 (40, 0, 0) 58) (lN b) w8).bind fun r47 =>
        if a2 = 0 then
          if r47 = 0 then none else
          some ((w8.2.1 (40, 0, 0) 58) / r47, w8)
        else
        if r47 = 0 then none else
        some (lN b / r47, w8)
      else
      (f_X10_divisor (w8.2.1 (40, 0, 0) 59) (lN b) w8).bind fun r43 =>
      if a2 = 0 then
        if r43 = 0 then none else
        some ((w8.2.1 (40, 0, 0) 59) / r43, w8)
      else
      if r43 = 0 then none else
      some (lN b / r43, w8)) = some (r, w8) := by
  have gc : ∀ x, x < 2 ^ 63 → f_X4_commonDivisor (lN x) (lN b) u8 = some (lN (Nat.gcd x b)) := fun x hx => by
    unfold f_X4_commonDivisor
    rw [show am_loop (f_X4_commonDivisor_L9 u8) 2000 (lN x, lN b, (0 : Int32)) = _ from c_gcd u8 63 x b 2000 0 (by omega) hx hb (by omega) (by omega)]
    rfl
  have gm : ∀ x, x < 2 ^ 63 → f_X10_divisor (lN x) (lN b) w8 = some (lN (Nat.gcd x b)) := fun x hx => by
    unfold f_X10_divisor
    rw [m_gcd w8 63 x b 2000 hx hb (by omega) (by omega)]
    rfl
  have g0 : ∀ x, ¬ lN (Nat.gcd x b) = 0 := fun x => l_ne0 (Nat.lt_of_le_of_lt (Nat.gcd_le_right x hb0) hb) (by have := Nat.gcd_pos_of_pos_right x hb0; omega)
  have g1 : ∀ x, 0 ≤ lg_cmp (lN (Nat.gcd x b)) (1 : Int64) := fun x => (lg_cmp_ge _ _).mpr ((pk_lLE (a := 1) (by omega) (Nat.lt_of_le_of_lt (Nat.gcd_le_right x hb0) hb)).mpr (Nat.gcd_pos_of_pos_right x hb0))
  rw [u0, u1, u2, w0, w1, gc e he, gc v hv, gm e he, gm v hv]
  simp only [Option.bind_some]
  by_cases z1 : a1 = 0
  · rw [if_pos z1, if_pos z1, if_pos (g1 e), if_neg (g0 e), if_neg (g0 e)]
    by_cases z2 : a2 = 0
    · rw [if_pos z2, if_pos z2, if_neg (g0 e)]
      exact ⟨_, rfl, rfl⟩
    · rw [if_neg z2, if_neg z2, if_neg (g0 e)]
      exact ⟨_, rfl, rfl⟩
  · rw [if_neg z1, if_neg z1, if_pos (g1 v), if_neg (g0 v), if_neg (g0 v)]
    by_cases z2 : a2 = 0
    · rw [if_pos z2, if_pos z2, if_neg (g0 v)]
      exact ⟨_, rfl, rfl⟩
    · rw [if_neg z2, if_neg z2, if_neg (g0 v)]
      exact ⟨_, rfl, rfl⟩
theorem k_28 {u u' : PM} (h : eqx (fun q _ => q.1 == 28) u u') : chC [0] u u' := toC h (fun q k z => cC_8 (by
  simp only [beq_iff_eq] at z
  omega))
theorem okA_V {u : PM} {V : Vil} {n : Nat} (hR : RepC u 0 V) (hk : okV V n) : okA V := fun y hy => by
  have hL := hR.2.2.2.2.2
  rw [hy] at hL
  refine ⟨?_, (hk.2.2.2 y hy).2⟩
  cases ho : u.2.2 (0 + 1) with
  | none => rw [ho] at hL; exact hL.elim
  | some p => rw [ho] at hL; exact hL.2.2.2.1
theorem O_17 {u w : PM} (h : Rel u w) (a0 a1 a2 : Int32) : ∃ r u' w', f_X9_ends a0 a1 a2 u = some (r, u') ∧ f_X10_ends a0 a1 a2 w = some (r, w') ∧ Rel u' w' := by
  obtain ⟨n, V, N, hn, hC, hN, hk, hP, hQ⟩ := Rel_V h
  have h6 := hk.1.1
  have hA := okA_V hC hk
  obtain ⟨a, ha, hwt⟩ := hk.2.2.1
  unfold f_X9_ends f_X10_ends
  rw [m_in]
  by_cases z0 : a0 < 1 ∨ 2 < a0
  · rw [if_pos z0, Option.bind_some, if_pos rfl]
    refine ⟨_, u, w, ?_, rfl, h⟩
    by_cases y : a0 < 1
    · rw [if_pos y]
    · rw [if_neg y, if_pos (z0.resolve_left y)]
  rw [if_neg z0, Option.bind_some, if_neg one_ne, m_in, if_neg (fun y => z0 (Or.inl y)), if_neg (fun y => z0 (Or.inr y))]
  by_cases z1 : a1 < 0 ∨ 1 < a1
  · rw [if_pos z1, Option.bind_some, if_pos rfl]
    refine ⟨_, u, w, ?_, rfl, h⟩
    by_cases y : a1 < 0
    · rw [if_pos y]
    · rw [if_neg y, if_pos (z1.resolve_left y)]
  rw [if_neg z1, Option.bind_some, if_neg one_ne, m_in, if_neg (fun y => z1 (Or.inl y)), if_neg (fun y => z1 (Or.inr y))]
  by_cases z2 : a2 < 0 ∨ 1 < a2
  · rw [if_pos z2, Option.bind_some, if_pos rfl]
    refine ⟨_, u, w, ?_, rfl, h⟩
    by_cases y : a2 < 0
    · rw [if_pos y]
    · rw [if_neg y, if_pos (z2.resolve_left y)]
  rw [if_neg z2, Option.bind_some, if_neg one_ne, if_neg (fun y => z2 (Or.inl y)), if_neg (fun y => z2 (Or.inr y)), show u.1 (1, 0, 0) 0 = nI V.2.2.1 from hC.2.2.1, show w.1 (40, 0, 0) 0 = nI V.2.2.1 from RP_H hP]
  by_cases h3 : V.2.2.1 ≤ 3
  · rw [if_pos (show nI V.2.2.1 ≤ (3 : Int32) from nI_le (b := 3) h3 (by omega)), if_pos (show nI V.2.2.1 ≤ (3 : Int32) from nI_le (b := 3) h3 (by omega))]
    obtain ⟨j, hj, rfl⟩ := nI_of2 (x := a0) (M := 2) (n := 2) (by decide) (fun y => z0 (Or.inl (Int32.lt_trans y (by decide)))) (Int32.not_lt.mp (fun y => z0 (Or.inr y)))
    have j0 : j ≠ 0 := fun y => z0 (Or.inl (by rw [y]; decide))
    obtain ⟨u3, q1, q2, q3, q4, q5⟩ := c_beg (u := u) (n := j) h3 hj
    obtain ⟨u8, r1, r2, r3, r4⟩ := c_all a1 a2 (RepC_k (k_28 q2) rfl rfl hC) (RepN_k (k_28 q2) rfl hN) hk.1 hA h3 ha hwt hj q3 q4
    have r5 : u8.2.1 (28, 0, 0) 2 = lN (bel V.2.2.1 j) := (r2.2.1 _ _ rfl).trans q5
    obtain ⟨w7, s1, s2, s3⟩ := m_follow (V := V) (w := w) hP.2.2.2
    have hP7 := RP_k (k_g60 s2) rfl rfl hP
    have ez : eqx gEn w7 (pl (pl w7 (40, 0, 0) 58 (0 : Int64)) (40, 0, 0) 59 (0 : Int64)) := (eqx.rf.pl rfl).pl rfl
    have hPz := RP_k (k_gEn ez) rfl rfl hP7
    have v58 : (pl (pl w7 (40, 0, 0) 58 (0 : Int64)) (40, 0, 0) 59 (0 : Int64)).2.1 (40, 0, 0) 58 = lN 0 := by
      rw [p_l, if_neg (by simp), p_l, if_pos ⟨rfl, rfl⟩]
      rfl
    have v59 : (pl (pl w7 (40, 0, 0) 58 (0 : Int64)) (40, 0, 0) 59 (0 : Int64)).2.1 (40, 0, 0) 59 = lN 0 := by
      rw [p_l, if_pos ⟨rfl, rfl⟩]
      rfl
    have fz : FwR (pl (pl w7 (40, 0, 0) 58 (0 : Int64)) (40, 0, 0) 59 (0 : Int64)) V := fun x y hx hy => (ez.1 _ _ rfl).trans (s3 x y hx hy)
    obtain ⟨bp, bb⟩ := bel_ok V.2.2.1 h3 j hj
    rw [q1, s1, Option.bind_some, Option.bind_some, m_bel a1 a2 h3 hj (RP_H hP7), Option.bind_some]
    dsimp only
    rw [r1, Option.bind_some]
    have er : chC [0] u u8 := chC_tr (k_28 q2) (k_gV8 r2)
    generalize pl (pl w7 (40, 0, 0) 58 (0 : Int64)) (40, 0, 0) 59 (0 : Int64) = wz at ez hPz v58 v59 fz
    have ew : chM [0] w wz := chM_tr (k_g60 s2) (k_gEn ez)
    have : j = 1 ∨ j = 2 := by omega
    rcases this with rfl | rfl
    · rw [if_pos (show nI 1 = 1 from rfl)]
      obtain ⟨w2, t1, t2, t3, t4, t5, t6⟩ := m_asIs hPz hk.1
      obtain ⟨w8, o1, o2, o3, o4⟩ := m_last (p := 1) (wo := 0) t3 t5 hk.1 hA h3 ha (by omega) (fun x y hx hy => (t2.1 _ _ rfl).trans (fz x y hx hy)) ((t2.2.1 _ _ rfl).trans v58) ((t2.2.1 _ _ rfl).trans v59)
      rw [t1, Option.bind_some, show w2.1 (40, 0, 0) 3 = nI a from (t2.1 _ _ rfl).trans (hPz.1.2.2.2.trans hwt), show f_X10_lastHour (nI a) (1 : Int64) w2 = some w8 from o1, Option.bind_some]
      have l1 := lastE_le hA h3 ha 1
      have l2 := lastW_le hA h3 ha 1 (wo := 0) (by omega)
      rw [Nat.zero_add] at o3 o4
      rw [sumE1 h3] at r3
      rw [sumW1 h3] at r4
      obtain ⟨r, f1, f2⟩ := fin_e (u8 := u8) (w8 := w8) (show lastE V a 1 < 2 ^ 63 by omega) (show lastW V a 1 0 < 2 ^ 63 by omega) bp bb r3 r4 r5 o3 o4 a1 a2
      exact ⟨r, u8, w8, f1, f2, Rel_0 h er (chM_tr ew (chM_tr (k_gAs t2) (k_gEn (o2.mono (fun _ _ => gLk_En)))))⟩
    · rw [if_neg (show ¬ nI 2 = 1 by decide)]
      obtain ⟨w8, o1, o2, o3, o4⟩ := m_two a1 a2 (lN (bel V.2.2.1 2)) hPz hwt hk.1 hA h3 ha fz v58 v59
      rw [o1, Option.bind_some]
      have l1 := allE_le hA h3 ha
      have l2 := allW_le hA h3 ha
      rw [sumE2 h3] at r3
      rw [sumW2 h3] at r4
      obtain ⟨r, f1, f2⟩ := fin_e (u8 := u8) (w8 := w8) (Nat.lt_of_le_of_lt l1 (by decide)) (Nat.lt_of_le_of_lt l2 (by decide)) bp bb r3 r4 r5 o3 o4 a1 a2
      exact ⟨r, u8, w8, f1, f2, Rel_0 h er (chM_tr ew (k_gEn o2))⟩
  · rw [if_neg (show ¬ nI V.2.2.1 ≤ (3 : Int32) from nI_ge (a := 3) (by omega) (by omega)), if_neg (show ¬ nI V.2.2.1 ≤ (3 : Int32) from nI_ge (a := 3) (by omega) (by omega))]
    exact ⟨_, _, _, rfl, rfl, h⟩
