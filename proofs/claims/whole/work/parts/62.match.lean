/-! hours with the weather staying: match, asked, lasts, law, freed -/
def hwA (wt : Int32) (V : Vil) (n : Nat) : Vil × Int32 × Int32 := hsA (fun _ => wt) (fun _ => (0 : Int32)) V n
theorem hwA_H (wt : Int32) (V : Vil) (n : Nat) : (hwA wt V n).1.2.2.1 = V.2.2.1 := hsA_H _ _ V n
theorem hwA_WF {wt : Int32} {V : Vil} (hW : WF V) (n : Nat) : WF (hwA wt V n).1 := hsA_WF hW n
theorem c_hrs {u0 t0 : PM} {V0 : Vil} {wt : Int32} {n : Nat} (c3 c5 c6 : Int32) (hn : n < 1000) (hw : u0.1 (1, 0, 0) 3 = wt) (h0 : chC [0] u0 t0) (hR : RepC t0 2 V0) (hW : WF V0) (hs : t0.1 (20, 0, 0) 0 = 0) : ∃ t, am_loop (f_X1_gain_L48 0 2 c3 (nI n) c5 c6) 2000 ((0 : Int32), t0) = some t ∧ chC [0] u0 t ∧ RepC t 2 (hwA wt V0 n).1 ∧ t.1 (20, 0, 0) 0 = (hwA wt V0 n).2.1 := by
  refine am_cnt (f := f_X1_gain_L48 0 2 c3 (nI n) c5 c6) (s := ((0 : Int32), t0)) (fun j t => t.1 = nI j ∧ chC [0] u0 t.2 ∧ RepC t.2 2 (hwA wt V0 j).1 ∧ t.2.1 (20, 0, 0) 0 = (hwA wt V0 j).2.1) (fun e => chC [0] u0 e ∧ RepC e 2 (hwA wt V0 n).1 ∧ e.1 (20, 0, 0) 0 = (hwA wt V0 n).2.1) n ⟨rfl, h0, hR, hs⟩ (by omega) ?_ ?_
  · rintro j ⟨x, t⟩ hj ⟨rfl, h1, h2, h3⟩
    dsimp only at h1 h2 h3
    have t3 : t.1 (1, 0, 0) 3 = wt := (chC_1 h1 (c := 1) rfl (by rfl)).trans hw
    obtain ⟨t1, t2, r1, r2, r3, r4, r5, r6, r7⟩ := c_wp (by omega) h2 (hwA_WF hW j) wt 0
    have y3 : t1.1 (1, 0, 0) 3 = wt := (chC_1 (chC_tr h1 r2) (c := 1) rfl (by rfl)).trans hw
    unfold f_X1_gain_L48
    dsimp only
    rw [if_neg (nI_ge (show j < n by omega) (by omega)), nI_1, t3, r1, Option.bind_some, y3, r3, Option.bind_some]
    exact ⟨_, rfl, rfl, chC_tr h1 r4, r5, by rw [r6, h3]; rfl⟩
  · rintro ⟨x, t⟩ ⟨rfl, h1, h2, h3⟩
    unfold f_X1_gain_L48
    dsimp only
    rw [if_pos (Int32.le_refl _)]
    exact ⟨t, rfl, h1, h2, h3⟩
def upV (V : Vil) (i : Nat) : Vil := (updR V.1 i (put1 (V.1 i) 1 1), V.2)
def gnA (V : Vil) (i n : Nat) : Int32 := (hwA V.2.2.2.1 (upV V i) n).2.1 - (hwA V.2.2.2.1 V n).2.1
theorem WF_up {V : Vil} (hW : WF V) {i : Nat} (hi : i < V.2.2.1) : WF (upV V i) := by
  obtain ⟨F, X⟩ := V
  exact WF_upd hW (WR_put (WF_row hW hi) (Or.inr (Or.inr (Or.inr ⟨rfl, Or.inr rfl⟩))))
theorem gH_l (v s p k : Nat) (g1 : 11 ≤ s) (g2 : s ≤ 18) : gH v (s, p, 0) k = false := by
  unfold gH
  simp only [Bool.and_eq_false_iff, beq_eq_false_iff_ne]
  left
  omega
theorem RepC_up {u : PM} {v i : Nat} {V : Vil} (hR : RepC u v V) (h6 : V.2.2.1 ≤ 6) (hi : i < V.2.2.1) : RepC (pi u (3, v, i) 1 (1 : Int32)) v (upV V i) := by
  obtain ⟨a1, a2, a3, a4, a5, a6⟩ := hR
  have e : eqx (gH v) u (pi u (3, v, i) 1 (1 : Int32)) := eqx.rf.pi (gH_t _ _ _)
  refine ⟨?_, a2.trans (cW_kept e (fun _ _ => rfl)).symm, (e.1 _ _ rfl).trans a3, (e.1 _ _ rfl).trans a4, (e.1 _ _ rfl).trans a5, ?_⟩
  · show updR V.1 i _ = _
    rw [c_row (by omega) (by omega), ← a1]
  · exact LdC_kept e (fun s p k g1 g2 => gH_l v s p k g1 g2) a6
theorem c_gain {u : PM} {V : Vil} {N : Nig} {i n : Nat} (hR : RepC u 0 V) (hW : WF V) (hN : RepN u 0 N) (hi : i < V.2.2.1) (hn : n < 1000) : ∃ u', f_X1_gain 0 2 (nI i) (nI n) u = some (gnA V i n, u') ∧ chC [0] u u' := by
  have h6 := hW.1
  obtain ⟨u1, q1, q2, q3, q4⟩ := c_copy (v := 2) (w := 0) (by decide) hR hW hN
  have k1 : chC [0] u u1 := k_gCp (by omega) q2
  have eb : eqx gWx u1 (pi (pi u1 (20, 0, 0) 0 (0 : Int32)) (20, 0, 0) 1 (0 : Int32)) := (eqx.rf.pi rfl).pi rfl
  obtain ⟨t1, r1, r2, r3, r4⟩ := c_hrs (u0 := u) (t0 := pi (pi u1 (20, 0, 0) 0 (0 : Int32)) (20, 0, 0) 1 (0 : Int32)) (wt := V.2.2.2.1) (n := n) (nI i) (0 : Int32) (0 : Int32) hn hR.2.2.2.1 (eqx.pi (eqx.pi k1 rfl) rfl) (RepC_gWx eb q3) hW (by simp [p_i])
  have hR1 : RepC t1 0 V := RepC_k r2 rfl rfl hR
  have hN1 : RepN t1 0 N := RepN_k r2 rfl hN
  obtain ⟨v1, s1, s2, s3, s4⟩ := c_copy (v := 2) (w := 0) (by decide) hR1 hW hN1
  have k2 : chC [0] u v1 := chC_tr r2 (k_gCp (by omega) s2)
  have eb2 : eqx gWx (pi v1 (3, 2, i) 1 (1 : Int32)) (pi (pi (pi v1 (3, 2, i) 1 (1 : Int32)) (20, 0, 0) 0 (0 : Int32)) (20, 0, 0) 1 (0 : Int32)) := (eqx.rf.pi rfl).pi rfl
  obtain ⟨t2, z1, z2, z3, z4⟩ := c_hrs (u0 := u) (t0 := pi (pi (pi v1 (3, 2, i) 1 (1 : Int32)) (20, 0, 0) 0 (0 : Int32)) (20, 0, 0) 1 (0 : Int32)) (wt := V.2.2.2.1) (n := n) (nI i) (t1.1 (20, 0, 0) 0) (1 : Int32) hn hR.2.2.2.1 (eqx.pi (eqx.pi (eqx.pi k2 rfl) rfl) rfl) (RepC_gWx eb2 (RepC_up s3 h6 hi)) (WF_up hW hi) (by simp [p_i])
  have i1 : f_X1_gain_L6 0 2 (nI i) (nI n) ((0 : Int32), (0 : Int32), u) = some (.inl (t1.1 (20, 0, 0) 0, (1 : Int32), t1)) := by
    unfold f_X1_gain_L6 f_X1_begin
    dsimp only
    rw [if_neg (show ¬ (2 : Int32) ≤ 0 by decide), q1, Option.bind_some, c_find q3.2.2.1 h6 hi, Option.bind_some]
    dsimp only
    rw [if_pos (show i < 6 by omega), if_neg (show ¬ (0 : Int32) = 1 by decide), Option.bind_some, r1, Option.bind_some, if_pos rfl]
    rfl
  have i2 : f_X1_gain_L6 0 2 (nI i) (nI n) (t1.1 (20, 0, 0) 0, (1 : Int32), t1) = some (.inl (t1.1 (20, 0, 0) 0, (2 : Int32), t2)) := by
    unfold f_X1_gain_L6 f_X1_begin
    dsimp only
    rw [if_neg (show ¬ (2 : Int32) ≤ 1 by decide), s1, Option.bind_some, c_find s3.2.2.1 h6 hi, Option.bind_some]
    dsimp only
    rw [if_pos (show i < 6 by omega), if_pos rfl, Option.bind_some, z1, Option.bind_some, if_neg one_ne]
    rfl
  have i3 : f_X1_gain_L6 0 2 (nI i) (nI n) (t1.1 (20, 0, 0) 0, (2 : Int32), t2) = some (.inr (t1.1 (20, 0, 0) 0, t2)) := by
    unfold f_X1_gain_L6
    dsimp only
    rw [if_pos (Int32.le_refl _)]
  have L : am_loop (f_X1_gain_L6 0 2 (nI i) (nI n)) (1997 + 1 + 1 + 1) ((0 : Int32), (0 : Int32), u) = some (t1.1 (20, 0, 0) 0, t2) := by
    rw [am_loop_s i1, am_loop_s i2, am_loop_e i3]
  unfold f_X1_gain
  rw [show am_loop (f_X1_gain_L6 0 2 (nI i) (nI n)) 2000 ((0 : Int32), (0 : Int32), u) = some (t1.1 (20, 0, 0) 0, t2) from L, Option.bind_some]
  refine ⟨t2, ?_, z2⟩
  show some (t2.1 (20, 0, 0) 0 - t1.1 (20, 0, 0) 0, t2) = _
  rw [z4, r4]
  rfl
theorem m_hrs {w0 t0 : PM} {V0 : Vil} {wt : Int32} {n : Nat} {f : Int32 × PM → Option ((Int32 × PM) ⊕ PM)} (hf : ∀ x u, f (x, u) = if nI n ≤ x then some (.inr u) else (f_X10_goHour (u.1 (40, 0, 0) 3) (0 : Int32) u).bind fun r => some (.inl (x + (1 : Int32), r))) (hn : n < 1000) (hw : w0.1 (40, 0, 0) 3 = wt) (h0 : chM [0] w0 t0) (hR : RA t0 V0) (hW : WF V0) (hs : t0.1 (40, 0, 0) 35 = 0) : ∃ t, am_loop f 2000 ((0 : Int32), t0) = some t ∧ chM [0] w0 t ∧ RA t (hwA wt V0 n).1 ∧ t.1 (40, 0, 0) 35 = (hwA wt V0 n).2.1 := by
  refine am_cnt (f := f) (s := ((0 : Int32), t0)) (fun j t => t.1 = nI j ∧ chM [0] w0 t.2 ∧ RA t.2 (hwA wt V0 j).1 ∧ t.2.1 (40, 0, 0) 35 = (hwA wt V0 j).2.1) (fun e => chM [0] w0 e ∧ RA e (hwA wt V0 n).1 ∧ e.1 (40, 0, 0) 35 = (hwA wt V0 n).2.1) n ⟨rfl, h0, hR, hs⟩ (by omega) ?_ ?_
  · rintro j ⟨x, t⟩ hj ⟨rfl, h1, h2, h3⟩
    dsimp only at h1 h2 h3
    have t3 : t.1 (40, 0, 0) 3 = wt := (chM_1 h1 (c := 1) rfl (by rfl)).trans hw
    obtain ⟨t1, r1, r2, r3, r4, r5⟩ := m_hour h2 (hwA_WF hW j) wt 0
    rw [hf, if_neg (nI_ge (show j < n by omega) (by omega)), nI_1, t3, r1, Option.bind_some]
    exact ⟨_, rfl, rfl, chM_tr h1 (k_gMh r2), r3, by rw [r4, h3]; rfl⟩
  · rintro ⟨x, t⟩ ⟨rfl, h1, h2, h3⟩
    rw [hf, if_pos (Int32.le_refl _)]
    exact ⟨t, rfl, h1, h2, h3⟩
theorem m_up {t : PM} {V : Vil} {i : Nat} (hR : RA t V) (hW : WF V) (hi : i < V.2.2.1) : RA (pi t (40, 0, 0) 32 ((t.1 (40, 0, 0) 32) ||| ((1 : Int32) <<< (nI i &&& 31)))) (upV V i) := by
  have h6 := hW.1
  obtain ⟨a1, a2, a3, a4, a5, a6⟩ := hR
  have e : eqx (fun q k => q.1 == 40 && k == 32) t (pi t (40, 0, 0) 32 ((t.1 (40, 0, 0) 32) ||| ((1 : Int32) <<< (nI i &&& 31)))) := eqx.rf.pi rfl
  have up : ∀ h f, f ≠ 1 → (upV V i).1 h f = V.1 h f := fun h f hf => by
    show updR V.1 i (put1 (V.1 i) 1 1) h f = _
    by_cases eh : h = i
    · subst eh
      rw [updR_at]
      exact if_neg hf
    · rw [updR_ne _ _ eh]
  refine ⟨(e.1 _ _ rfl).trans a1, (e.1 _ _ rfl).trans a2, ?_, fun h hh => ?_, fun a b ha hb => (e.1 _ _ rfl).trans (a5 a b ha hb), LdM_the (e.mono (fun q k z => ?_)) a6⟩
  · refine RMa_upd a3 ?_ (fun s h g1 g2 _ => e.1 _ _ ?_) ?_
    · show _ = nI (lit (updR V.1 i (put1 (V.1 i) 1 1)) V.2.2.1)
      rw [p_i, if_pos ⟨rfl, rfl⟩, a3.1, b_or0 _ (lit_64 _ h6) _ (by omega), lit_upd _ hi h6, if_neg (show ¬ put1 (V.1 i) 1 1 1 = 0 from one_ne)]
    · simp only [Bool.and_eq_false_iff, beq_eq_false_iff_ne]
      omega
    · obtain ⟨c1, c2, c3, c4⟩ := a3.2 i hi
      exact ⟨(e.1 _ _ rfl).trans c1, (e.1 _ _ rfl).trans c2, fun z => ⟨(e.1 _ _ rfl).trans (c3 z).1, (e.1 _ _ rfl).trans (c3 z).2⟩, fun z => (e.1 _ _ rfl).trans (c4 z)⟩
  · obtain ⟨c1, c2, c3⟩ := a4 h hh
    rw [up h 2 (by omega), up h 3 (by omega), up h 4 (by omega)]
    exact ⟨(e.1 _ _ rfl).trans c1, (e.1 _ _ rfl).trans c2, (e.1 _ _ rfl).trans c3⟩
  · unfold gL at z
    simp only [Bool.not_eq_false', Bool.or_eq_true, Bool.and_eq_true, beq_iff_eq, decide_eq_true_eq] at z
    simp only [beq_eq_false_iff_ne, Bool.and_eq_false_iff]
    omega
theorem m_gain {w : PM} {V : Vil} {i n : Nat} (hP : RP w kP V) (hW : WF V) (hi : i < V.2.2.1) (hn : n < 1000) : ∃ w', f_X10_matchOf (nI i) (nI n) w = some (gnA V i n, w') ∧ chM [0] w w' := by
  obtain ⟨w1, q1, q2, q3, _, q5, q6⟩ := m_asIs hP hW
  obtain ⟨t1, r1, r2, r3, r4⟩ := m_hrs (f := f_X10_matchOf_L6 (nI i) (nI n)) (w0 := w) (fun _ _ => rfl) hn (wt := V.2.2.2.1) hP.1.2.2.2 (k_gAs q2) q3 hW q5
  have hP1 : RP t1 kP V := RP_k r2 rfl rfl hP
  obtain ⟨w2, s1, s2, s3, _, s5, s6⟩ := m_asIs hP1 hW
  obtain ⟨t2, z1, z2, z3, z4⟩ := m_hrs (f := f_X10_matchOf_L50 (nI n) (t1.1 (40, 0, 0) 35)) (w0 := w) (t0 := pi w2 (40, 0, 0) 32 ((w2.1 (40, 0, 0) 32) ||| ((1 : Int32) <<< (nI i &&& 31)))) (fun _ _ => rfl) hn (wt := V.2.2.2.1) hP.1.2.2.2 (eqx.pi (chM_tr r2 (k_gAs s2)) rfl) (m_up s3 hW hi) (WF_up hW hi) (by simp [p_i]; exact s5)
  unfold f_X10_matchOf
  rw [q1, Option.bind_some, r1, Option.bind_some, s1, Option.bind_some, z1, Option.bind_some, z4, r4]
  exact ⟨t2, rfl, z2⟩
theorem O_19 {u w : PM} (h : Rel u w) (a0 a1 : Int32) : ∃ r u' w', f_X9_match a0 a1 u = some (r, u') ∧ f_X10_match a0 a1 w = some (r, w') ∧ Rel u' w' := by
  obtain ⟨n, V, N, hn, hC, hN, hk, hP, hQ⟩ := Rel_V h
  have h6 := hk.1.1
  obtain ⟨a1', a2', a3, a4, a5, a6⟩ := id hC
  unfold f_X9_match f_X10_match
  rcases m_isH (RP_H hP) h6 a0 with ⟨i, hi, rfl, e⟩ | ⟨hi, e⟩
  · rw [c_find a3 h6 hi, Option.bind_some, e, Option.bind_some]
    dsimp only
    rw [if_pos (show i < 6 by omega), if_neg one_ne, m_in]
    by_cases c1 : a1 < 1
    · rw [if_pos c1, if_pos (Or.inl c1), Option.bind_some, if_pos rfl]
      exact ⟨_, _, _, rfl, rfl, h⟩
    · by_cases c2 : a1 ≤ 48
      · rw [if_neg c1, if_pos c2, if_neg (fun z => z.elim c1 (Int32.not_lt.mpr c2)), Option.bind_some, if_neg one_ne]
        obtain ⟨k, hk', rfl⟩ := nI_of2 (n := 48) (by decide) (fun z => c1 (Int32.lt_trans z (by decide))) c2
        obtain ⟨u', q1, q2⟩ := c_gain hC hk.1 hN hi (show k < 1000 by omega)
        obtain ⟨w', r1, r2⟩ := m_gain hP hk.1 hi (show k < 1000 by omega)
        rw [q1, r1, Option.bind_some, Option.bind_some]
        exact ⟨_, _, _, rfl, rfl, Rel_0 h q2 r2⟩
      · rw [if_neg c1, if_neg c2, if_pos (Or.inr (Int32.not_le.mp c2)), Option.bind_some, if_pos rfl]
        exact ⟨_, _, _, rfl, rfl, h⟩
  · rw [c_find0 a3 h6 hi, Option.bind_some, e, Option.bind_some]
    exact ⟨_, _, _, rfl, rfl, h⟩
theorem O_20 {u w : PM} (h : Rel u w) (a0 : Int32) : ∃ r u' w', f_X9_asked a0 u = some (r, u') ∧ f_X10_asked a0 w = some (r, w') ∧ Rel u' w' := by
  obtain ⟨n, V, N, hn, hC, hN, hk, hP, hQ⟩ := Rel_V h
  have h6 := hk.1.1
  obtain ⟨a1', a2', a3, a4, a5, a6⟩ := id hC
  unfold f_X9_asked f_X10_asked
  rcases m_isH (RP_H hP) h6 a0 with ⟨g, hg, rfl, e⟩ | ⟨hi, e⟩
  · rw [c_find a3 h6 hg, Option.bind_some, e, Option.bind_some]
    dsimp only
    have cf : u.1 (3, 0, g) 1 = V.1 g 1 := by rw [a1']; exact cF_at (by omega) (by omega)
    rw [if_pos (show g < 6 by omega), if_neg one_ne, m_hasP hP h6 hg, Option.bind_some, cf]
    by_cases hz : V.1 g 1 = 0
    · rw [if_pos hz, if_pos hz, if_pos rfl]
      exact ⟨_, _, _, rfl, rfl, h⟩
    · rw [if_neg hz, if_neg hz, if_neg one_ne]
      have key := am_two (f := f_X9_asked_L30 (nI g)) (g := f_X10_asked_L29 (nI g)) (s := ((0 : Int32), (0 : Int32), u)) (t := ((0 : Int32), (0 : Int32), w)) (fun j s t => s.1 = t.1 ∧ s.2.1 = nI j ∧ t.2.1 = nI j ∧ chC [0] u s.2.2 ∧ chM [0] w t.2.2) (fun e e' => e.1 = e'.1 ∧ chC [0] u e.2 ∧ chM [0] w e'.2) V.2.2.1 ⟨rfl, rfl, rfl, eqx.rf, eqx.rf⟩ (by omega) ?_ ?_
      · obtain ⟨⟨r, u'⟩, ⟨r', w'⟩, k1, k2, k3, k4, k5⟩ := key
        dsimp only at k3 k4 k5
        subst k3
        rw [k1, k2, Option.bind_some, Option.bind_some]
        dsimp only
        rw [m_min100, Option.bind_some]
        refine ⟨_, _, _, rfl, ?_, Rel_0 h k4 k5⟩
        by_cases z : r < 99
        · rw [if_pos z, if_neg (Int32.not_lt.mpr (Int32.le_of_lt z))]
        · by_cases z2 : 99 < r
          · rw [if_neg z, if_pos z2]
          · rw [if_neg z, if_neg z2, Int32.le_antisymm (Int32.not_lt.mp z2) (Int32.not_lt.mp z)]
      · rintro j ⟨x, y, s⟩ ⟨x', y', t⟩ hj ⟨rfl, rfl, rfl, h1, h2⟩
        dsimp only at h1 h2
        left
        have hC1 : RepC s 0 V := RepC_k h1 rfl rfl hC
        have hP1 : RP t kP V := RP_k h2 rfl rfl hP
        have cf1 : s.1 (3, 0, j) 1 = V.1 j 1 := by rw [hC1.1]; exact cF_at (by omega) (by omega)
        unfold f_X9_asked_L30 f_X10_asked_L29
        dsimp only
        rw [show s.1 (1, 0, 0) 0 = nI V.2.2.1 from hC1.2.2.1, show t.1 (40, 0, 0) 0 = nI V.2.2.1 from hP1.1.1, if_neg (nI_ge hj (by omega)), if_neg (nI_ge hj (by omega)), c_find hC1.2.2.1 h6 hj, Option.bind_some, m_hasP hP1 h6 hj, Option.bind_some, nI_1]
        dsimp only
        rw [if_pos (show j < 6 by omega), cf1]
        by_cases hz : V.1 j 1 = 0
        · rw [if_pos hz, if_pos hz, if_pos rfl]
          obtain ⟨w1, r1, r2, _, r4, _⟩ := m_asIs hP1 hk.1
          rw [c_nearV hC1 hk.1 hj, Option.bind_some, r1, Option.bind_some, m_where r4 hk.1 hj, Option.bind_some]
          by_cases hn' : oI (nearA V j) = nI g
          · rw [if_pos hn', if_pos hn']
            obtain ⟨s', q1, q2⟩ := c_gain (n := 24) hC1 hk.1 (RepN_k h1 rfl hN) hj (by omega)
            obtain ⟨t', p1, p2⟩ := m_gain (n := 24) (RP_k (k_gAs r2) rfl rfl hP1) hk.1 hj (by omega)
            rw [show (24 : Int32) = nI 24 from rfl, q1, p1, Option.bind_some, Option.bind_some]
            dsimp only
            by_cases hx : gnA V j 24 ≤ x
            · rw [if_pos hx]
              exact ⟨_, _, rfl, rfl, if_neg (Int32.not_lt.mpr hx), rfl, rfl, chC_tr h1 q2, chM_tr (chM_tr h2 (k_gAs r2)) p2⟩
            · rw [if_neg hx]
              exact ⟨_, _, rfl, rfl, if_pos (Int32.not_le.mp hx), rfl, rfl, chC_tr h1 q2, chM_tr (chM_tr h2 (k_gAs r2)) p2⟩
          · rw [if_neg hn', if_neg hn']
            exact ⟨_, _, rfl, rfl, rfl, rfl, rfl, h1, chM_tr h2 (k_gAs r2)⟩
        · rw [if_neg hz, if_neg hz, if_neg one_ne]
          exact ⟨_, _, rfl, rfl, rfl, rfl, rfl, h1, h2⟩
      · rintro ⟨x, y, s⟩ ⟨x', y', t⟩ ⟨rfl, rfl, rfl, h1, h2⟩
        dsimp only at h1 h2
        have hC1 : RepC s 0 V := RepC_k h1 rfl rfl hC
        have hP1 : RP t kP V := RP_k h2 rfl rfl hP
        unfold f_X9_asked_L30 f_X10_asked_L29
        dsimp only
        rw [show s.1 (1, 0, 0) 0 = nI V.2.2.1 from hC1.2.2.1, show t.1 (40, 0, 0) 0 = nI V.2.2.1 from hP1.1.1, if_pos (Int32.le_refl _), if_pos (Int32.le_refl _)]
        exact ⟨_, _, rfl, rfl, rfl, h1, h2⟩
  · rw [c_find0 a3 h6 hi, Option.bind_some, e, Option.bind_some]
    exact ⟨_, _, _, rfl, rfl, h⟩
theorem choA_0 {V : Vil} {h : Nat} {wt : Int32} (hz : V.1 h 1 = 0) : choA V h wt = 0 ∨ choA V h wt = 3 := by
  unfold choA
  rw [if_pos hz]
  split
  · split
    · exact Or.inl rfl
    · split
      · exact Or.inr rfl
      · exact Or.inl rfl
  · exact Or.inl rfl
theorem O_22 {u w : PM} (h : Rel u w) : ∃ r u' w', f_X9_freed u = some (r, u') ∧ f_X10_freed w = some (r, w') ∧ Rel u' w' := by
  obtain ⟨n, V, N, hn, hC, hN, hk, hP, hQ⟩ := Rel_V h
  have h6 := hk.1.1
  obtain ⟨w1, r1, r2, _, r4, _⟩ := m_asIs hP hk.1
  have hP1 : RP w1 kP V := RP_k (k_gAs r2) rfl rfl hP
  unfold f_X9_freed f_X10_freed
  rw [r1, Option.bind_some]
  have key := am_two (f := f_X9_freed_L4) (g := f_X10_freed_L8) (s := ((0 : Int32), (0 : Int32), u)) (t := ((0 : Int32), (0 : Int32), w1)) (fun j s t => s.1 = t.1 ∧ s.2.1 = nI j ∧ t.2.1 = nI j ∧ eqx gF u s.2.2 ∧ eqx gP w1 t.2.2) (fun e e' => e.1 = e'.1 ∧ eqx gF u e.2 ∧ eqx gP w1 e'.2) V.2.2.1 ⟨rfl, rfl, rfl, eqx.rf, eqx.rf⟩ (by omega) ?_ ?_
  · obtain ⟨⟨r, u'⟩, ⟨r', w'⟩, k1, k2, k3, k4, k5⟩ := key
    dsimp only at k3 k4 k5
    subst k3
    rw [k1, k2, Option.bind_some, Option.bind_some]
    exact ⟨_, _, _, rfl, rfl, Rel_0 h (k_gF k4) (chM_tr (k_gAs r2) (k_gP k5))⟩
  · rintro j ⟨x, y, s⟩ ⟨x', y', t⟩ hj ⟨rfl, rfl, rfl, h1, h2⟩
    dsimp only at h1 h2
    left
    have hC1 : RepC s 0 V := RepC_gF h1 hC
    have hP2 : RP t kP V := RP_k (k_gP h2) rfl rfl hP1
    have hM2 : RMw t V := RMw_kept (h2.mono (fun _ _ => gP_W)) r4
    obtain ⟨s', q1, q2⟩ := c_cho hC1 hk.1 hj V.2.2.2.1
    unfold f_X9_freed_L4 f_X10_freed_L8
    dsimp only
    rw [show s.1 (1, 0, 0) 0 = nI V.2.2.1 from hC1.2.2.1, show t.1 (40, 0, 0) 0 = nI V.2.2.1 from hP2.1.1, if_neg (nI_ge hj (by omega)), if_neg (nI_ge hj (by omega)), show s.1 (1, 0, 0) 3 = V.2.2.2.1 from hC1.2.2.2.1, show t.1 (40, 0, 0) 3 = V.2.2.2.1 from hP2.1.2.2.2, q1, Option.bind_some, m_hasP hP2 h6 hj, Option.bind_some, nI_1]
    dsimp only
    by_cases hz : V.1 j 1 = 0
    · rw [if_pos hz, if_pos rfl, if_neg]
      · exact ⟨_, _, rfl, rfl, (Int32.or_zero).symm, rfl, rfl, h1.tr q2, h2⟩
      · rcases choA_0 (wt := V.2.2.2.1) hz with z | z
        · rw [z]; decide
        · rw [z]; decide
    · rw [if_neg hz, if_neg one_ne]
      obtain ⟨t', p1, p2⟩ := m_keep hM2 hk.1 hj V.2.2.2.1
      rw [p1, Option.bind_some]
      unfold choA
      rw [if_neg hz]
      dsimp only
      cases keepA V j V.2.2.2.1
      · rw [if_pos (show nI (if false = true then 1 else 2) = 2 by decide), if_pos (show b2i false = 0 by decide)]
        exact ⟨_, _, rfl, rfl, rfl, rfl, rfl, h1.tr q2, h2.tr p2⟩
      · rw [if_neg (show ¬ nI (if true = true then 1 else 2) = 2 by decide), if_neg (show ¬ b2i true = 0 by decide)]
        exact ⟨_, _, rfl, rfl, (Int32.or_zero).symm, rfl, rfl, h1.tr q2, h2.tr p2⟩
  · rintro ⟨x, y, s⟩ ⟨x', y', t⟩ ⟨rfl, rfl, rfl, h1, h2⟩
    dsimp only at h1 h2
    have hC1 : RepC s 0 V := RepC_gF h1 hC
    have hP2 : RP t kP V := RP_k (k_gP h2) rfl rfl hP1
    unfold f_X9_freed_L4 f_X10_freed_L8
    dsimp only
    rw [show s.1 (1, 0, 0) 0 = nI V.2.2.1 from hC1.2.2.1, show t.1 (40, 0, 0) 0 = nI V.2.2.1 from hP2.1.1, if_pos (Int32.le_refl _), if_pos (Int32.le_refl _)]
    exact ⟨_, _, rfl, rfl, rfl, h1, h2⟩
theorem pop0 : ∀ a, a < 64 → (pop a = 0 ↔ a = 0) := by decide +kernel
theorem pop7 : ∀ a, a < 64 → pop a < 7 := by decide +kernel
theorem nI_pop {a : Nat} (h : a < 64) : (nI (pop a) = 0) = (nI a = 0) := by
  have := pop7 a h
  rw [i_eq0 (by omega), i_eq0 (by omega), pop0 a h]
theorem c_litV {u : PM} {v : Nat} {V : Vil} (hR : RepC u v V) (h6 : V.2.2.1 ≤ 6) : f_X8_litCount v u = some (nI (pop (lit V.1 V.2.2.1))) := by
  rw [c_litCount hR.2.2.1 h6, hR.1]
theorem O_18 {u w : PM} (h : Rel u w) : ∃ r u' w', f_X9_lasts u = some (r, u') ∧ f_X10_lasts w = some (r, w') ∧ Rel u' w' := by
  obtain ⟨n, V, N, hn, hC, hN, hk, hP, hQ⟩ := Rel_V h
  have h6 := hk.1.1
  obtain ⟨u1, q1, q2, q3, q4⟩ := c_copy (v := 2) (w := 0) (by decide) hC hk.1 hN
  obtain ⟨w1, r1, r2, r3, _⟩ := m_asIs hP hk.1
  unfold f_X9_lasts f_X10_lasts
  rw [q1, Option.bind_some, r1, Option.bind_some]
  have key := am_two (f := f_X9_lasts_L13) (g := f_X10_lasts_L6) (s := ((0 : Int32), u1)) (t := ((0 : Int32), w1)) (fun j s t => s.1 = nI j ∧ t.1 = nI j ∧ chC [0] u s.2 ∧ chM [0] w t.2 ∧ RepC s.2 2 (hwA V.2.2.2.1 V j).1 ∧ RA t.2 (hwA V.2.2.2.1 V j).1) (fun e e' => (∃ r u' w', e = .inl (r, u') ∧ e' = .inl (r, w') ∧ chC [0] u u' ∧ chM [0] w w') ∨ ∃ u' w', e = .inr u' ∧ e' = .inr w' ∧ chC [0] u u' ∧ chM [0] w w') 201 ⟨rfl, rfl, k_gCp (by omega) q2, k_gAs r2, q3, r3⟩ (by omega) ?_ ?_
  · obtain ⟨e, e', k1, k2, ⟨r, u', w', rfl, rfl, k4, k5⟩ | ⟨u', w', rfl, rfl, k4, k5⟩⟩ := key
    · rw [k1, k2, Option.bind_some, Option.bind_some]
      exact ⟨_, _, _, rfl, rfl, Rel_0 h k4 k5⟩
    · rw [k1, k2, Option.bind_some, Option.bind_some]
      exact ⟨_, _, _, rfl, rfl, Rel_0 h k4 k5⟩
  · rintro j ⟨x, s⟩ ⟨x', t⟩ hj ⟨rfl, rfl, h1, h2, h3, h4⟩
    dsimp only at h1 h2 h3 h4
    have hW : WF (hwA V.2.2.2.1 V j).1 := hwA_WF hk.1 j
    have l64 := lit_64 (hwA V.2.2.2.1 V j).1.1 hW.1
    have c3 : s.1 (1, 0, 0) 3 = V.2.2.2.1 := (chC_1 h1 (c := 1) rfl (by rfl)).trans hC.2.2.2.1
    have m3 : t.1 (40, 0, 0) 3 = V.2.2.2.1 := (chM_1 h2 (c := 1) rfl (by rfl)).trans hP.1.2.2.2
    unfold f_X9_lasts_L13 f_X10_lasts_L6
    dsimp only
    rw [if_neg (show ¬ (200 : Int32) < nI j from nI_nlt (a := 200) (by omega) (by omega)), if_neg (show ¬ (201 : Int32) ≤ nI j from nI_ge (b := 201) (by omega) (by omega)), c_litV h3 hW.1, Option.bind_some, show t.1 (40, 0, 0) 32 = nI (lit (hwA V.2.2.2.1 V j).1.1 (hwA V.2.2.2.1 V j).1.2.2.1) from h4.2.2.1.1, c3, m3, nI_1]
    simp only [nI_pop l64]
    by_cases hz : nI (lit (hwA V.2.2.2.1 V j).1.1 (hwA V.2.2.2.1 V j).1.2.2.1) = 0
    · rw [if_pos hz, if_pos hz]
      exact Or.inr ⟨_, _, rfl, rfl, Or.inl ⟨_, _, _, rfl, rfl, h1, h2⟩⟩
    · rw [if_neg hz, if_neg hz]
      obtain ⟨s', p1, p2, p3⟩ := c_pass h3 hW V.2.2.2.1 0
      obtain ⟨t', o1, o2, o3, _⟩ := m_hour h4 hW V.2.2.2.1 0
      rw [p1, o1, Option.bind_some, Option.bind_some]
      exact Or.inl ⟨_, _, rfl, rfl, rfl, rfl, chC_tr h1 (k_gPs (by omega) p2), chM_tr h2 (k_gMh o2), p3, o3⟩
  · rintro ⟨x, s⟩ ⟨x', t⟩ ⟨rfl, rfl, h1, h2, h3, h4⟩
    unfold f_X9_lasts_L13 f_X10_lasts_L6
    dsimp only
    rw [if_pos (show (200 : Int32) < nI 201 by decide), if_pos (show (201 : Int32) ≤ nI 201 by decide)]
    exact ⟨_, _, rfl, rfl, Or.inr ⟨_, _, rfl, rfl, h1, h2⟩⟩
