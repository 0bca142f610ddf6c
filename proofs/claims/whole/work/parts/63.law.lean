/-! law, judge -/
def payF (F : Nat → Nat → Int32) (k : Int32) (n : Nat) : Nat → Nat → Int32 := fun h f => if h < n ∧ f = 2 then 4 else if h < n ∧ f = 3 then k else F h f
theorem payF_0 (F : Nat → Nat → Int32) (k : Int32) : payF F k 0 = F := by
  funext h f
  unfold payF
  rw [if_neg (by omega), if_neg (by omega)]
theorem payF_o (F : Nat → Nat → Int32) (k : Int32) (n h f : Nat) (h2 : f ≠ 2) (h3 : f ≠ 3) : payF F k n h f = F h f := by
  unfold payF
  rw [if_neg (by omega), if_neg (by omega)]
theorem lit_cong {F F' : Nat → Nat → Int32} (h : ∀ i, F i 1 = F' i 1) : ∀ n, lit F n = lit F' n
  | 0 => rfl
  | n + 1 => by
    unfold lit
    rw [h n, lit_cong h n]
def payV (V : Vil) (k : Int32) : Vil := (payF V.1 k V.2.2.1, V.2)
theorem WF_pay {V : Vil} (hW : WF V) (k : Int32) : WF (payV V k) := by
  obtain ⟨a1, a2, a3, a4, a5⟩ := hW
  refine ⟨a1, fun h hh => ?_, fun h hh => ?_, fun h hh => ?_, a5⟩
  · show payF V.1 k V.2.2.1 h 1 = 0 ∨ payF V.1 k V.2.2.1 h 1 = 1
    rw [payF_o _ _ _ _ _ (by omega) (by omega)]
    exact a2 h hh
  · have hh : h < V.2.2.1 := hh
    refine ⟨4, by omega, ?_⟩
    show payF V.1 k V.2.2.1 h 2 = _
    unfold payF
    rw [if_pos ⟨hh, rfl⟩]
    rfl
  · show payF V.1 k V.2.2.1 h 5 = 0 ∨ ((payF V.1 k V.2.2.1 h 5 = 1 ∨ payF V.1 k V.2.2.1 h 5 = 2) ∧ ∃ g, g < V.2.2.1 ∧ payF V.1 k V.2.2.1 h 7 = nI g)
    rw [payF_o _ _ _ _ _ (by omega) (by omega), payF_o _ _ _ _ _ (by omega) (by omega)]
    exact a4 h hh
theorem c_pay {u : PM} {V : Vil} (hR : RepC u 2 V) (h6 : V.2.2.1 ≤ 6) (k : Int32) : ∃ u', f_X8_payAll 2 k u = some u' ∧ eqx (gH 2) u u' ∧ RepC u' 2 (payV V k) := by
  obtain ⟨a1, a2, a3, a4, a5, a6⟩ := hR
  have key := am_cnt (f := f_X8_payAll_L2 2 k) (s := ((0 : Int32), u)) (fun j t => t.1 = nI j ∧ eqx (gH 2) u t.2 ∧ cF t.2 2 = payF V.1 k j) (fun e => eqx (gH 2) u e ∧ cF e 2 = payF V.1 k V.2.2.1) V.2.2.1 ⟨rfl, eqx.rf, by rw [payF_0, a1]⟩ (by omega) ?_ ?_
  · obtain ⟨e, k1, k2, k3⟩ := key
    unfold f_X8_payAll
    rw [k1, Option.bind_some]
    exact ⟨e, rfl, k2, k3.symm, a2.trans (cW_kept k2 (fun _ _ => rfl)).symm, (k2.1 _ _ rfl).trans a3, (k2.1 _ _ rfl).trans a4, (k2.1 _ _ rfl).trans a5, by
      rw [k2.2.2 _ rfl]
      exact LdC_kept k2 (fun s p k g1 g2 => gH_l 2 s p k g1 g2) a6⟩
  · rintro j ⟨x, t⟩ hj ⟨rfl, h1, h2⟩
    dsimp only at h1 h2
    unfold f_X8_payAll_L2
    dsimp only
    rw [(h1.1 _ _ rfl).trans a3, if_neg (nI_ge hj (by omega)), if_neg (show ¬ (6 : Int32) ≤ nI j from nI_ge (b := 6) (by omega) (by omega)), if_neg (nI_in (show j < 6 by omega) (by omega)), nI_clamp (show j < 2 ^ 31 by omega), nI_1]
    refine ⟨_, rfl, rfl, (h1.pi (gH_t _ _ _)).pi (gH_t _ _ _), ?_⟩
    dsimp only
    rw [c_row (by omega) (by omega), c_row (by omega) (by omega), h2]
    funext h f
    by_cases e : h = j
    · subst e
      simp only [updR_2, updR_at]
      unfold put1 payF
      by_cases f3 : f = 3
      · subst f3
        rw [if_pos rfl, if_neg (by omega), if_pos ⟨by omega, rfl⟩]
      · rw [if_neg f3]
        by_cases f2 : f = 2
        · subst f2
          rw [if_pos rfl, if_pos ⟨by omega, rfl⟩]
        · rw [if_neg f2, if_neg (by omega), if_neg (by omega), if_neg (by omega), if_neg (by omega)]
    · rw [updR_ne _ _ e, updR_ne _ _ e]
      unfold payF
      by_cases c : h < j
      · simp only [c, show h < j + 1 by omega, true_and]
      · simp only [c, show ¬ h < j + 1 by omega, false_and]
  · rintro ⟨x, t⟩ ⟨rfl, h1, h2⟩
    dsimp only at h1 h2
    unfold f_X8_payAll_L2
    dsimp only
    rw [(h1.1 _ _ rfl).trans a3, if_pos (Int32.le_refl _)]
    exact ⟨t, rfl, h1, h2⟩
theorem m_pay {w : PM} {V : Vil} (hR : RA w V) (h6 : V.2.2.1 ≤ 6) (c1 k : Int32) : ∃ w', am_loop (f_X10_law_L28 c1 k) 2000 ((0 : Int32), w) = some w' ∧ eqx (fun q _ => q.1 == 63 || q.1 == 64) w w' ∧ RA w' (payV V k) := by
  obtain ⟨a1, a2, a3, a4, a5, a6⟩ := hR
  have key := am_cnt (f := f_X10_law_L28 c1 k) (s := ((0 : Int32), w)) (fun j t => t.1 = nI j ∧ eqx (fun q _ => q.1 == 63 || q.1 == 64) w t.2 ∧ ∀ h, h < V.2.2.1 → t.2.1 (63, 0, 0) h = payF V.1 k j h 2 ∧ t.2.1 (64, 0, 0) h = payF V.1 k j h 3) (fun e => eqx (fun q _ => q.1 == 63 || q.1 == 64) w e ∧ ∀ h, h < V.2.2.1 → e.1 (63, 0, 0) h = payF V.1 k V.2.2.1 h 2 ∧ e.1 (64, 0, 0) h = payF V.1 k V.2.2.1 h 3) V.2.2.1 ⟨rfl, eqx.rf, fun h hh => by rw [payF_0]; exact ⟨(a4 h hh).1, (a4 h hh).2.1⟩⟩ (by omega) ?_ ?_
  · obtain ⟨e, k1, k2, k3⟩ := key
    rw [k1]
    refine ⟨e, rfl, k2, (k2.1 _ _ rfl).trans a1, (k2.1 _ _ rfl).trans a2, ?_, fun h hh => ⟨(k3 h hh).1, (k3 h hh).2, ?_⟩, fun a b ha hb => (k2.1 _ _ rfl).trans (a5 a b ha hb), LdM_the (k2.mono (fun q k z => ?_)) a6⟩
    · refine ⟨?_, fun h hh => ?_⟩
      · rw [k2.1 _ _ rfl, a3.1]
        exact congrArg nI (lit_cong (fun i => (payF_o V.1 k V.2.2.1 i 1 (by omega) (by omega)).symm) _)
      · obtain ⟨c1, c2, c3, c4⟩ := a3.2 h hh
        show e.1 (61, 0, 0) h = payF V.1 k V.2.2.1 h 0 ∧ rowM e (payF V.1 k V.2.2.1 h) h
        unfold rowM
        rw [payF_o _ _ _ _ 0 (by omega) (by omega), payF_o _ _ _ _ 5 (by omega) (by omega), payF_o _ _ _ _ 6 (by omega) (by omega), payF_o _ _ _ _ 7 (by omega) (by omega), payF_o _ _ _ _ 8 (by omega) (by omega)]
        exact ⟨(k2.1 _ _ rfl).trans c1, (k2.1 _ _ rfl).trans c2, fun z => ⟨(k2.1 _ _ rfl).trans (c3 z).1, (k2.1 _ _ rfl).trans (c3 z).2⟩, fun z => (k2.1 _ _ rfl).trans (c4 z)⟩
    · show e.1 (44, 0, 0) h = payF V.1 k V.2.2.1 h 4
      rw [payF_o _ _ _ _ 4 (by omega) (by omega)]
      exact (k2.1 _ _ rfl).trans (a4 h hh).2.2
    · unfold gL at z
      simp only [Bool.not_eq_false', Bool.or_eq_true, Bool.and_eq_true, beq_iff_eq, decide_eq_true_eq] at z
      simp only [beq_eq_false_iff_ne, Bool.or_eq_false_iff]
      omega
  · rintro j ⟨x, t⟩ hj ⟨rfl, h1, h2⟩
    dsimp only at h1 h2
    unfold f_X10_law_L28
    dsimp only
    rw [(h1.1 _ _ rfl).trans a1, if_neg (nI_ge hj (by omega)), if_neg (nI_in (show j < 6 by omega) (by omega)), nI_clamp (show j < 2 ^ 31 by omega), nI_1]
    refine ⟨_, rfl, rfl, (h1.pi rfl).pi rfl, fun h hh => ?_⟩
    dsimp only
    obtain ⟨b1, b2⟩ := h2 h hh
    by_cases e : h = j
    · subst e
      unfold payF
      rw [if_pos ⟨by omega, rfl⟩, if_neg (by omega), if_pos ⟨by omega, rfl⟩]
      simp [p_i]
    · simp only [p_i, e, false_and, if_false]
      rw [b1, b2]
      unfold payF
      by_cases c : h < j
      · simp only [c, show h < j + 1 by omega, true_and]
      · simp only [c, show ¬ h < j + 1 by omega, false_and]
        exact ⟨trivial, trivial⟩
  · rintro ⟨x, t⟩ ⟨rfl, h1, h2⟩
    dsimp only at h1 h2
    unfold f_X10_law_L28
    dsimp only
    rw [(h1.1 _ _ rfl).trans a1, if_pos (Int32.le_refl _)]
    exact ⟨t, rfl, h1, h2⟩
theorem c_hrs2 {u0 t0 : PM} {V0 : Vil} {wt : Int32} {n : Nat} (c2 : Int32) (hn : n < 1000) (hw : u0.1 (1, 0, 0) 3 = wt) (h0 : chC [0] u0 t0) (hR : RepC t0 2 V0) (hW : WF V0) : ∃ t, am_loop (f_X9_law_L43 (nI n) c2) 2000 ((0 : Int32), t0) = some t ∧ chC [0] u0 t ∧ RepC t 2 (hwA wt V0 n).1 := by
  refine am_cnt (f := f_X9_law_L43 (nI n) c2) (s := ((0 : Int32), t0)) (fun j t => t.1 = nI j ∧ chC [0] u0 t.2 ∧ RepC t.2 2 (hwA wt V0 j).1) (fun e => chC [0] u0 e ∧ RepC e 2 (hwA wt V0 n).1) n ⟨rfl, h0, hR⟩ (by omega) ?_ ?_
  · rintro j ⟨x, t⟩ hj ⟨rfl, h1, h2⟩
    dsimp only at h1 h2
    have t3 : t.1 (1, 0, 0) 3 = wt := (chC_1 h1 (c := 1) rfl (by rfl)).trans hw
    obtain ⟨s', p1, p2, p3⟩ := c_pass h2 (hwA_WF hW j) wt 0
    unfold f_X9_law_L43
    dsimp only
    rw [if_neg (nI_ge (show j < n by omega) (by omega)), nI_1, t3, p1, Option.bind_some]
    exact ⟨_, rfl, rfl, chC_tr h1 (k_gPs (by omega) p2), p3⟩
  · rintro ⟨x, t⟩ ⟨rfl, h1, h2⟩
    unfold f_X9_law_L43
    dsimp only
    rw [if_pos (Int32.le_refl _)]
    exact ⟨t, rfl, h1, h2⟩
theorem nI_pop' {a : Nat} (h : a < 64) : (nI (pop a) ≤ 0) = (nI a = 0) := by
  have := pop7 a h
  rw [i_le0 (by omega), i_eq0 (by omega), pop0 a h]
theorem k_gH2 {u u' : PM} (h : eqx (gH 2) u u') : chC [0] u u' := toC h (fun q k z => by
  unfold gH at z
  simp only [Bool.and_eq_true, beq_iff_eq] at z
  exact cC_v (by omega) (by omega))
theorem O_21 {u w : PM} (h : Rel u w) (a0 : Int32) : ∃ r u' w', f_X9_law a0 u = some (r, u') ∧ f_X10_law a0 w = some (r, w') ∧ Rel u' w' := by
  obtain ⟨n, V, N, hn, hC, hN, hk, hP, hQ⟩ := Rel_V h
  have h6 := hk.1.1
  unfold f_X9_law f_X10_law
  rw [m_in]
  by_cases c1 : a0 < 1
  · rw [if_pos c1, if_pos (Or.inl c1), Option.bind_some, if_pos rfl]
    exact ⟨_, _, _, rfl, rfl, h⟩
  by_cases c2 : a0 ≤ 99
  · rw [if_neg c1, if_pos c2, if_neg (fun z => z.elim c1 (Int32.not_lt.mpr c2)), Option.bind_some, if_neg one_ne]
    obtain ⟨m, hm, rfl⟩ := nI_of2 (n := 99) (by decide) (fun z => c1 (Int32.lt_trans z (by decide))) c2
    have key := am_two (f := f_X9_law_L16 (nI m)) (g := f_X10_law_L16 (nI m)) (s := ((0 : Int32), u)) (t := ((0 : Int32), w)) (fun j s t => s.1 = nI j ∧ t.1 = nI j ∧ chC [0] u s.2 ∧ chM [0] w t.2) (fun e e' => (∃ r u' w', e = .inl (r, u') ∧ e' = .inl (r, w') ∧ chC [0] u u' ∧ chM [0] w w') ∨ ∃ u' w', e = .inr u' ∧ e' = .inr w' ∧ chC [0] u u' ∧ chM [0] w w') 10 ⟨rfl, rfl, eqx.rf, eqx.rf⟩ (by omega) ?_ ?_
    · obtain ⟨e, e', k1, k2, ⟨r, u', w', rfl, rfl, k4, k5⟩ | ⟨u', w', rfl, rfl, k4, k5⟩⟩ := key
      · rw [k1, k2, Option.bind_some, Option.bind_some]
        exact ⟨_, _, _, rfl, rfl, Rel_0 h k4 k5⟩
      · rw [k1, k2, Option.bind_some, Option.bind_some]
        exact ⟨_, _, _, rfl, rfl, Rel_0 h k4 k5⟩
    · rintro j ⟨x, s⟩ ⟨x', t⟩ hj ⟨rfl, rfl, h1, h2⟩
      dsimp only at h1 h2
      have hC1 : RepC s 0 V := RepC_k h1 rfl rfl hC
      have hN1 : RepN s 0 N := RepN_k h1 rfl hN
      have hP1 : RP t kP V := RP_k h2 rfl rfl hP
      obtain ⟨s1, q1, q2, q3, _⟩ := c_copy (v := 2) (w := 0) (by decide) hC1 hk.1 hN1
      obtain ⟨s2, p1, p2, p3⟩ := c_pay q3 h6 (nI j)
      have e2 : chC [0] u s2 := chC_tr (chC_tr h1 (k_gCp (by omega) q2)) (k_gH2 p2)
      obtain ⟨s3, o1, o2, o3⟩ := c_hrs2 (n := m) (nI j) (by omega) hC.2.2.2.1 e2 p3 (WF_pay hk.1 _)
      obtain ⟨t1, r1, r2, r3, _, r5, _⟩ := m_asIs hP1 hk.1
      obtain ⟨t2, l1, l2, l3⟩ := m_pay r3 h6 (nI m) (nI j)
      have e3 : chM [0] w t2 := chM_tr (chM_tr h2 (k_gAs r2)) (toM l2 (fun q k z => cM_0 (by
        simp only [Bool.or_eq_true, beq_iff_eq] at z
        omega)))
      obtain ⟨t3, y1, y2, y3, _⟩ := m_hrs (f := f_X10_law_L58 (nI m) (nI j)) (w0 := w) (fun _ _ => rfl) (n := m) (by omega) (wt := V.2.2.2.1) hP.1.2.2.2 e3 l3 (WF_pay hk.1 _) ((l2.1 _ _ rfl).trans r5)
      have hW3 : WF (hwA V.2.2.2.1 (payV V (nI j)) m).1 := hwA_WF (WF_pay hk.1 _) m
      have l64 := lit_64 (hwA V.2.2.2.1 (payV V (nI j)) m).1.1 hW3.1
      have p7 := pop7 _ l64
      unfold f_X9_law_L16 f_X10_law_L16
      dsimp only
      rw [if_neg (show ¬ (9 : Int32) < nI j from nI_nlt (a := 9) (by omega) (by omega)), if_neg (show ¬ (10 : Int32) ≤ nI j from nI_ge (b := 10) (by omega) (by omega)), q1, Option.bind_some, p1, Option.bind_some, o1, Option.bind_some, c_litV o3 hW3.1, Option.bind_some, r1, Option.bind_some, l1, Option.bind_some, y1, Option.bind_some, show t3.1 (40, 0, 0) 32 = nI (lit (hwA V.2.2.2.1 (payV V (nI j)) m).1.1 (hwA V.2.2.2.1 (payV V (nI j)) m).1.2.2.1) from y3.2.2.1.1, nI_1]
      simp only [nI_pop' l64]
      by_cases hz : nI (lit (hwA V.2.2.2.1 (payV V (nI j)) m).1.1 (hwA V.2.2.2.1 (payV V (nI j)) m).1.2.2.1) = 0
      · rw [if_pos hz, if_pos hz]
        exact Or.inl ⟨_, _, rfl, rfl, rfl, rfl, o2, y2⟩
      · rw [if_neg hz, if_neg hz]
        exact Or.inr ⟨_, _, rfl, rfl, Or.inl ⟨_, _, _, rfl, rfl, o2, y2⟩⟩
    · rintro ⟨x, s⟩ ⟨x', t⟩ ⟨rfl, rfl, h1, h2⟩
      unfold f_X9_law_L16 f_X10_law_L16
      dsimp only
      rw [if_pos (show (9 : Int32) < nI 10 by decide), if_pos (show (10 : Int32) ≤ nI 10 by decide)]
      exact ⟨_, _, rfl, rfl, Or.inr ⟨_, _, rfl, rfl, h1, h2⟩⟩
  · rw [if_neg c1, if_neg c2, if_pos (Or.inr (Int32.not_le.mp c2)), Option.bind_some, if_pos rfl]
    exact ⟨_, _, _, rfl, rfl, h⟩
theorem tape_ix (a : Int32) (u w : PM) : (∃ t, t < 6 ∧ a = nI t ∧ f_X9_findTape a u = some (some t) ∧ f_X10_isTape a w = some 1) ∨ (f_X9_findTape a u = some none ∧ f_X10_isTape a w = some 0) := by
  unfold f_X9_findTape f_X10_isTape
  rw [m_in]
  rcases pk_ix a (n := 6) (by omega) with h | h | ⟨k, hk, rfl⟩
  · right
    rw [if_pos h, if_pos (Or.inl h), Option.bind_some, if_pos (Or.inl rfl)]
    exact ⟨rfl, rfl⟩
  · right
    have h0 : ¬ a < 0 := fun z => absurd (Int32.lt_of_le_of_lt h z) (by decide)
    rw [if_neg h0, if_pos (show (6 : Int32) ≤ a from h), if_pos (Or.inr (Int32.lt_of_lt_of_le (show (5 : Int32) < nI 6 by decide) h)), Option.bind_some, if_pos (Or.inl rfl)]
    exact ⟨rfl, rfl⟩
  · left
    refine ⟨k, hk, rfl, ?_, ?_⟩
    · rw [if_neg (nI_pos (by omega)), if_neg (show ¬ (6 : Int32) ≤ nI k from nI_ge (b := 6) hk (by omega)), if_neg (nI_in hk (by omega)), nI_clamp (show k < 2 ^ 31 by omega)]
    · rw [if_neg (by
        rintro (z | z)
        · exact nI_pos (by omega) z
        · rw [L_5, nI_ltI (by omega) (by omega)] at z; omega), Option.bind_some, if_pos (Or.inr rfl)]
theorem zj_neg : ∀ z, z ≤ 60 → ∀ j, j < 6 → z ≤ j → nI z - nI j ≤ 0 ∧ nI z - nI j - 1 < 0 := by decide +kernel
theorem lg_zz : lg_cmp (0 : Int64) (0 : Int64) = 0 := by decide
theorem lg_oo : lg_cmp (1 : Int64) (1 : Int64) = 0 := by decide
theorem lg_oz : ¬ lg_cmp (1 : Int64) (0 : Int64) = 0 := by decide
theorem lg_zo : ¬ lg_cmp (0 : Int64) (1 : Int64) = 0 := by decide
theorem m_hasA {w : PM} {V : Vil} {i : Nat} (hA : RA w V) (h6 : V.2.2.1 ≤ 6) (hi : i < V.2.2.1) (x : PM) : f_X10_has (w.1 (40, 0, 0) 32) (nI i) x = some (if V.1 i 1 = 0 then 0 else 1) := by
  rw [show w.1 (40, 0, 0) 32 = nI (lit V.1 V.2.2.1) from hA.2.2.1.1, m_has (lit_64 _ h6) (by omega), lit_tb, decide_eq_true hi, Bool.true_and]
  by_cases hz : V.1 i 1 = 0
  · rw [if_pos hz, if_neg (by simp [hz])]
  · rw [if_neg hz, if_pos (by simp [hz])]
theorem judge_l {u w : PM} {V : Vil} {t : Nat} (ht : t < 6) (hT : TpR1 u w t) (hR : RepC u 2 V) (hA : RA w V) (hW : WF V) (a1 : Int32) (hs : u.1 (32, t, 0) 0 < 0 ∨ u.1 (32, t, 0) 0 = 4) : ∃ e e', am_loop (f_X9_judge_L71 t a1 u) 2000 (0 : Int32) = some e ∧ am_loop (f_X10_judge_L56 (nI t) a1 w) 2000 (0 : Int32) = some e' ∧ ((∃ r, e = .inl (r, u) ∧ e' = .inl (r, w)) ∨ (e = .inr () ∧ e' = .inr ())) := by
  have h6 := hW.1
  obtain ⟨s, z, c1, c2, c3, c4, c5, c6, c7⟩ := hT
  have hs4 : s < 0 ∨ s = 4 := by rw [c3] at hs; exact hs
  refine am_two (f := f_X9_judge_L71 t a1 u) (g := f_X10_judge_L56 (nI t) a1 w) (s := (0 : Int32)) (t := (0 : Int32)) (fun j x y => x = nI j ∧ y = nI j) (fun e e' => (∃ r, e = .inl (r, u) ∧ e' = .inl (r, w)) ∨ (e = .inr () ∧ e' = .inr ())) V.2.2.1 ⟨rfl, rfl⟩ (by omega) ?_ ?_
  · rintro j x y hj ⟨rfl, rfl⟩
    unfold f_X9_judge_L71 f_X10_judge_L56 f_X7_isRow f_X7_get
    rw [hR.2.2.1, hA.1, if_neg (nI_ge hj (by omega)), if_neg (nI_ge hj (by omega)), if_neg (nI_in ht (by omega)), nI_clamp (show t < 2 ^ 31 by omega), c3, c4, c5, c6]
    by_cases s0 : s < 0
    · rw [if_pos s0, if_pos s0, Option.bind_some, if_pos rfl]
      exact Or.inr ⟨_, _, rfl, rfl, Or.inl ⟨_, rfl, rfl⟩⟩
    · have s4 : s = 4 := hs4.resolve_left s0
      rw [if_neg s0, if_neg s0, Option.bind_some, if_neg one_ne]
      by_cases a0 : a1 < 0
      · rw [if_pos a0, if_pos a0]
        exact Or.inr ⟨_, _, rfl, rfl, Or.inl ⟨_, rfl, rfl⟩⟩
      · rw [if_neg a0, if_neg a0]
        obtain ⟨i, hi, rfl⟩ := nI_of a0
        by_cases hz : i + j < z
        · rw [show nI z - nI j = nI (z - j) from i_sub (by omega), show nI (z - j) - 1 = nI (z - j - 1) from i_sub (b := 1) (by omega), if_pos (nI_lt (show i < z - j by omega) (by omega)), if_pos (nI_le (show i ≤ z - j - 1 by omega) (by omega)), L_60, pk_mul, nI_add (60 * t) i, nI_add (60 * t + i) j, nI_add i j, nI_1, if_neg (nI_in (show 60 * t + i + j < 360 by omega) (by omega)), nI_clamp (show 60 * t + i + j < 2 ^ 31 by omega), c_find hR.2.2.1 h6 hj, Option.bind_some]
          dsimp only
          rw [if_pos (show j < 6 by omega), if_neg (nI_pos (show i + j < 2 ^ 31 by omega)), if_neg (nI_ge (show i + j < z by omega) (by omega)), if_neg (nI_ge (show i + j < 60 by omega) (by omega)), if_neg (nI_in (show i + j < 60 by omega) (by omega)), nI_clamp (show i + j < 2 ^ 31 by omega), Option.bind_some]
          have cf : u.1 (3, 2, j) 1 = V.1 j 1 := by rw [hR.1]; exact cF_at (by omega) (by omega)
          obtain ⟨d1, d2⟩ := c7 (i + j) (by omega)
          have d1 : u.2.1 (33, t, 0) (i + j) = w.2.1 (92, 0, 0) (60 * t + i + j) := by rw [d1, Nat.add_assoc]
          rw [m_hasA hA h6 hj, Option.bind_some, ← d1, cf]
          rcases d2 s4 with d | d
          · rw [d, if_pos lg_zz]
            rcases hW.2.1 j (by omega) with f | f
            · rw [f, if_pos rfl, if_pos rfl, if_pos rfl, if_pos lg_zz]
              exact Or.inl ⟨_, _, rfl, rfl, rfl, rfl⟩
            · rw [f, if_neg one_ne, if_neg one_ne, if_neg one_ne, if_neg lg_zo]
              exact Or.inr ⟨_, _, rfl, rfl, Or.inl ⟨_, rfl, rfl⟩⟩
          · rw [d, if_neg lg_oz]
            rcases hW.2.1 j (by omega) with f | f
            · rw [f, if_neg (show ¬ (0 : Int32) = 1 by decide), if_pos rfl, if_pos rfl, if_neg lg_oz]
              exact Or.inr ⟨_, _, rfl, rfl, Or.inl ⟨_, rfl, rfl⟩⟩
            · rw [f, if_pos rfl, if_neg one_ne, if_neg one_ne, if_pos lg_oo]
              exact Or.inl ⟨_, _, rfl, rfl, rfl, rfl⟩
        · have n1 : ¬ nI i < nI z - nI j := by
            by_cases y : j ≤ z
            · rw [i_sub y, nI_ltI hi (by omega)]; omega
            · exact fun q => nI_pos hi (Int32.lt_of_lt_of_le q (zj_neg z c2 j (by omega) (by omega)).1)
          have n2 : ¬ nI i ≤ nI z - nI j - 1 := by
            by_cases y : j + 1 ≤ z
            · rw [i_sub (show j ≤ z by omega), show nI (z - j) - 1 = nI (z - j - 1) from i_sub (b := 1) (by omega), nI_leI hi (by omega)]; omega
            · exact fun q => nI_pos hi (Int32.lt_of_le_of_lt q (zj_neg z c2 j (by omega) (by omega)).2)
          rw [if_neg n1, if_neg n2]
          exact Or.inr ⟨_, _, rfl, rfl, Or.inl ⟨_, rfl, rfl⟩⟩
  · rintro x y ⟨rfl, rfl⟩
    unfold f_X9_judge_L71 f_X10_judge_L56
    rw [hR.2.2.1, hA.1, if_pos (Int32.le_refl _), if_pos (Int32.le_refl _)]
    exact ⟨_, _, rfl, rfl, Or.inr ⟨rfl, rfl⟩⟩
theorem Rel_T {u w : PM} (h : Rel u w) : TpR u w := by
  obtain ⟨n, _, _, _, _, a5, _⟩ := h
  exact a5
theorem O_23 {u w : PM} (h : Rel u w) (a0 a1 a2 : Int32) : ∃ r u' w', f_X9_judge a0 a1 a2 u = some (r, u') ∧ f_X10_judge a0 a1 a2 w = some (r, w') ∧ Rel u' w' := by
  obtain ⟨n, V, N, hn, hC, hN, hk, hP, hQ⟩ := Rel_V h
  have h6 := hk.1.1
  have n1 : u.1 (1, 0, 0) 6 = nI N.1 := hN.1
  have n2 : w.1 (40, 0, 0) 46 = nI N.1 := hQ.1
  have n3 : N.1 ≤ 12 := hN.2.1
  unfold f_X9_judge f_X10_judge f_X7_isRow
  rcases tape_ix a0 u w with ⟨t, ht, rfl, e1, e2⟩ | ⟨e1, e2⟩
  · have hT := Rel_T h t ht
    obtain ⟨s, z, c1, c2, c3, c4, c5, c6, c7⟩ := id hT
    rw [e1, e2, Option.bind_some, Option.bind_some, n1, n2, if_neg one_ne, if_neg (nI_in ht (by omega)), nI_clamp (show t < 2 ^ 31 by omega)]
    dsimp only
    rw [if_pos ht, c3, c4]
    rcases m_inN (n := N.1) (by omega) a2 w with ⟨k, hk', rfl, e3⟩ | ⟨hk', e3⟩
    · rw [e3, Option.bind_some, if_neg one_ne, if_neg (nI_pos (by omega)), if_pos (nI_le hk' (by omega))]
      have fin : (s < 0 ∨ s = 4) → ∃ r u' w', ((f_X1_passNights 0 2 (nI k) u).bind fun r7 => (am_loop (f_X9_judge_L71 t a1 r7) 2000 ((0 : Int32))).bind fun e17 =>
          match e17 with
          | .inl q19 => some q19
          | .inr _ =>
            some ((-5 : Int32), r7)) = some (r, u') ∧ ((f_X10_goNights (nI k) w).bind fun r6 =>
    (am_loop (f_X10_judge_L56 (nI t) a1 r6) 2000 ((0 : Int32))).bind fun e12 =>
    match e12 with
    | .inl q14 => some q14
    | .inr _ =>
      some ((-5 : Int32), r6)) = some (r, w') ∧ Rel u' w' := by
        intro hs
        obtain ⟨u', q1, q2, q3, q4, q5⟩ := c_nights hC hk.1 hN hk'
        obtain ⟨w', r1, r2, r3, r4, r5⟩ := m_nights (n := k) hP hk.1 hQ (by omega)
        have er := Rel_0 h q2 r2
        have hT' : TpR1 u' w' t := TpR_k q2 r2 rfl (Rel_T h) t ht
        obtain ⟨e, e', k1, k2, k3⟩ := judge_l ht hT' q3 r3 (hsA_WF hk.1 k) a1 (by rw [chC_1 q2 (c := 4) rfl (by rfl), c3]; exact hs)
        rw [q1, r1, Option.bind_some, Option.bind_some, k1, k2, Option.bind_some, Option.bind_some]
        rcases k3 with ⟨r, rfl, rfl⟩ | ⟨rfl, rfl⟩
        · exact ⟨_, _, _, rfl, rfl, er⟩
        · exact ⟨_, _, _, rfl, rfl, er⟩
      by_cases s0 : s < 0
      · rw [if_pos s0, if_pos s0, Option.bind_some, if_pos rfl]
        exact fin (Or.inl s0)
      · rw [if_neg s0, if_neg s0, Option.bind_some, if_neg one_ne]
        by_cases s4 : s = 4
        · rw [if_pos s4, if_pos s4]
          exact fin (Or.inr s4)
        · rw [if_neg s4, if_neg s4]
          exact ⟨_, _, _, rfl, rfl, h⟩
    · rw [e3, Option.bind_some, if_pos rfl]
      refine ⟨-2, u, w, ?_, rfl, h⟩
      rcases hk' with z | z
      · rw [if_pos z]
      · rw [if_neg (Int32.not_le.mpr z)]
        split <;> rfl
  · rw [e1, e2, Option.bind_some, Option.bind_some]
    exact ⟨_, _, _, rfl, rfl, h⟩
