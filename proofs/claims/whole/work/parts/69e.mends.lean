/-! ends on the reference's side -/
theorem m_share {t : PM} {V : Vil} {w s : Nat} (hR : RMw t V) (hW : WF V) (hA : okA V) (hs : s < 64) : ∃ t', f_X10_mishapWeight (nI s) (nI w) t = some (lN (shN V w s V.2.2.1), t') ∧ eqx gP t t' := by
  have h6 := hW.1
  obtain ⟨e, k1, k2, k3⟩ := am_cnt (f := f_X10_mishapWeight_L5 (nI s) (nI w)) (s := ((1 : Int64), (0 : Int32), t)) (fun j x => x.1 = lN (shN V w s j) ∧ x.2.1 = nI j ∧ eqx gP t x.2.2) (fun e => e.1 = lN (shN V w s V.2.2.1) ∧ eqx gP t e.2) V.2.2.1 ⟨rfl, rfl, eqx.rf⟩ (by omega) (by
    rintro j ⟨x, y, s'⟩ hj ⟨rfl, rfl, he⟩
    dsimp only at he
    have hR' := RMw_kept (he.mono (fun _ _ => gP_W)) hR
    have hsh : shN V w s (j + 1) = shN V w s j * facN V w s j := rfl
    unfold f_X10_mishapWeight_L5
    dsimp only
    rw [hR'.1, if_neg (nI_ge hj (by omega)), m_hasV hR' hW hj, Option.bind_some, nI_1]
    by_cases z : V.1 j 1 = 0
    · rw [if_pos z, if_pos rfl, m_has hs (by omega), Option.bind_some]
      by_cases b : s.testBit j = true
      · rw [if_pos b, if_neg one_ne]
        refine ⟨_, rfl, ?_, rfl, he⟩
        show lN (shN V w s j) * lN 0 = _
        rw [lN_mul, hsh, facN, if_pos z, if_pos b]
      · rw [if_neg b, if_pos rfl]
        refine ⟨_, rfl, ?_, rfl, he⟩
        show lN (shN V w s j) * lN 100 = _
        rw [lN_mul, hsh, facN, if_pos z, if_neg b]
    · obtain ⟨u', q1, q2⟩ := m_sum hR' hW (show 0 < 4 by omega) hj (nI w)
      obtain ⟨e2, e3, -⟩ := sN_e hA 0 j (nI w)
      rw [if_neg z, if_neg one_ne, show f_X10_sumOf (0 : Int32) (nI j) (nI w) s' = some (sumA V 0 j (nI w), u') from q1, Option.bind_some]
      dsimp only
      rw [e2, m_has hs (by omega), Option.bind_some]
      by_cases b : s.testBit j = true
      · rw [if_pos b, if_neg one_ne, nI_l (by omega)]
        refine ⟨_, rfl, ?_, rfl, he.tr q2⟩
        show lN (shN V w s j) * lN (sN V 0 j (nI w)) = _
        rw [lN_mul, hsh, facN, if_neg z, if_pos b]
      · rw [if_neg b, if_pos rfl, L_100, i_sub e3, nI_l (by omega)]
        refine ⟨_, rfl, ?_, rfl, he.tr q2⟩
        show lN (shN V w s j) * lN (100 - sN V 0 j (nI w)) = _
        rw [lN_mul, hsh, facN, if_neg z, if_neg b]) (by
    rintro ⟨x, y, s'⟩ ⟨rfl, rfl, he⟩
    dsimp only at he
    have hR' := RMw_kept (he.mono (fun _ _ => gP_W)) hR
    unfold f_X10_mishapWeight_L5
    dsimp only
    rw [hR'.1, if_pos (Int32.le_refl _)]
    exact ⟨_, rfl, rfl, he⟩)
  obtain ⟨e1, e2⟩ := e
  dsimp only at k2 k3
  subst k2
  unfold f_X10_mishapWeight
  rw [k1, Option.bind_some]
  exact ⟨e2, rfl, k3⟩
/-- what does not change while hours are tried -/
def SA (w : PM) (V : Vil) : Prop := w.1 (40, 0, 0) 0 = nI V.2.2.1 ∧ (∀ h, h < V.2.2.1 → w.1 (63, 0, 0) h = V.1 h 2 ∧ w.1 (64, 0, 0) h = V.1 h 3 ∧ w.1 (44, 0, 0) h = V.1 h 4) ∧ (∀ a b, a < V.2.2.1 → b < V.2.2.1 → w.1 (49, 0, 0) (6 * a + b) = V.2.1 a b) ∧ LdM w (w.1 (40, 0, 0) 14) V.2.2.2.2.2
/-- what was kept aside -/
def KA (w : PM) (V : Vil) (wo : Nat) : Prop := (w.1 (40, 0, 0) 50 = nI (lit V.1 V.2.2.1) ∧ w.1 (40, 0, 0) 51 = V.2.2.2.2.1 ∧ w.1 (40, 0, 0) 52 = nI wo) ∧ ∀ h, h < V.2.2.1 → w.1 (73, 0, 0) h = V.1 h 0 ∧ w.1 (74, 0, 0) h = V.1 h 5 ∧ (V.1 h 5 ≠ 0 → w.1 (75, 0, 0) h = V.1 h 6 ∧ w.1 (76, 0, 0) h = V.1 h 7) ∧ (V.1 h 5 = 2 → w.1 (77, 0, 0) h = V.1 h 8)
def gLh (q : Key) (k : Nat) : Bool := q.1 == 61 || q.1 == 62 || (65 ≤ q.1 && q.1 ≤ 69) || (q.1 == 40 && ((32 ≤ k && k ≤ 36) || k == 58 || k == 59))
def gLb (q : Key) (k : Nat) : Bool := q.1 == 61 || q.1 == 62 || (65 ≤ q.1 && q.1 ≤ 69) || (q.1 == 40 && (32 ≤ k && k ≤ 36))
theorem gLb_Lh {q : Key} {k : Nat} (h : gLh q k = false) : gLb q k = false := by
  unfold gLh at h
  unfold gLb
  simp only [Bool.or_eq_false_iff, beq_eq_false_iff_ne, Bool.and_eq_false_iff, decide_eq_false_iff_not] at h ⊢
  omega
def gKp (q : Key) (k : Nat) : Bool := (73 ≤ q.1 && q.1 ≤ 77) || (q.1 == 40 && (50 ≤ k && k ≤ 52))
theorem SA_kept {g : Key → Nat → Bool} {w w' : PM} {V : Vil} (he : eqx g w w') (h0 : g (40, 0, 0) 0 = false) (h14 : g (40, 0, 0) 14 = false) (hg : ∀ s i, s = 63 ∨ s = 64 ∨ s = 44 ∨ s = 49 ∨ (51 ≤ s ∧ s ≤ 57) → g (s, 0, 0) i = false) (h : SA w V) : SA w' V := by
  obtain ⟨a1, a2, a3, a4⟩ := h
  refine ⟨(he.1 _ _ h0).trans a1, fun i hi => ?_, fun a b ha hb => (he.1 _ _ (hg _ _ (by simp))).trans (a3 a b ha hb), LdM_L he (fun s i g1 g2 => hg s i (by omega)) (he.1 _ _ h14) a4⟩
  obtain ⟨b1, b2, b3⟩ := a2 i hi
  exact ⟨(he.1 _ _ (hg _ _ (by simp))).trans b1, (he.1 _ _ (hg _ _ (by simp))).trans b2, (he.1 _ _ (hg _ _ (by simp))).trans b3⟩
theorem SA_Lh {w w' : PM} {V : Vil} (he : eqx gLh w w') (h : SA w V) : SA w' V := SA_kept he rfl rfl (fun s i hs => by
  unfold gLh
  simp only [Bool.or_eq_false_iff, beq_eq_false_iff_ne, Bool.and_eq_false_iff, decide_eq_false_iff_not]
  omega) h
theorem SA_Kp {w w' : PM} {V : Vil} (he : eqx gKp w w') (h : SA w V) : SA w' V := SA_kept he rfl rfl (fun s i hs => by
  unfold gKp
  simp only [Bool.or_eq_false_iff, beq_eq_false_iff_ne, Bool.and_eq_false_iff, decide_eq_false_iff_not]
  omega) h
theorem KA_Lh {w w' : PM} {V : Vil} {wo : Nat} (he : eqx gLh w w') (h : KA w V wo) : KA w' V wo := by
  obtain ⟨⟨a1, a2, a3⟩, a4⟩ := h
  refine ⟨⟨(he.1 _ _ rfl).trans a1, (he.1 _ _ rfl).trans a2, (he.1 _ _ rfl).trans a3⟩, fun i hi => ?_⟩
  obtain ⟨b1, b2, b3, b4⟩ := a4 i hi
  exact ⟨(he.1 _ _ rfl).trans b1, (he.1 _ _ rfl).trans b2, fun z => ⟨(he.1 _ _ rfl).trans (b3 z).1, (he.1 _ _ rfl).trans (b3 z).2⟩, fun z => (he.1 _ _ rfl).trans (b4 z)⟩
theorem RA_SA {w : PM} {V : Vil} (h : RA w V) : SA w V := ⟨h.1, h.2.2.2.1, h.2.2.2.2.1, h.2.2.2.2.2⟩
theorem m_keep_l (t0 : PM) : ∃ t, am_loop f_X10_keep_L26 2000 ((0 : Int32), t0) = some t ∧ eqx (fun q _ => 73 ≤ q.1 && q.1 ≤ 77) t0 t ∧ ∀ i, i < 6 → t.1 (73, 0, 0) i = t0.1 (61, 0, 0) i ∧ t.1 (74, 0, 0) i = t0.1 (65, 0, 0) i ∧ t.1 (75, 0, 0) i = t0.1 (66, 0, 0) i ∧ t.1 (76, 0, 0) i = t0.1 (67, 0, 0) i ∧ t.1 (77, 0, 0) i = t0.1 (68, 0, 0) i := by
  refine am_cnt (f := f_X10_keep_L26) (s := ((0 : Int32), t0)) (fun j t => t.1 = nI j ∧ eqx (fun q _ => 73 ≤ q.1 && q.1 ≤ 77) t0 t.2 ∧ ∀ i, i < j → t.2.1 (73, 0, 0) i = t0.1 (61, 0, 0) i ∧ t.2.1 (74, 0, 0) i = t0.1 (65, 0, 0) i ∧ t.2.1 (75, 0, 0) i = t0.1 (66, 0, 0) i ∧ t.2.1 (76, 0, 0) i = t0.1 (67, 0, 0) i ∧ t.2.1 (77, 0, 0) i = t0.1 (68, 0, 0) i) (fun t => eqx (fun q _ => 73 ≤ q.1 && q.1 ≤ 77) t0 t ∧ ∀ i, i < 6 → t.1 (73, 0, 0) i = t0.1 (61, 0, 0) i ∧ t.1 (74, 0, 0) i = t0.1 (65, 0, 0) i ∧ t.1 (75, 0, 0) i = t0.1 (66, 0, 0) i ∧ t.1 (76, 0, 0) i = t0.1 (67, 0, 0) i ∧ t.1 (77, 0, 0) i = t0.1 (68, 0, 0) i) 6 ⟨rfl, eqx.rf, fun i hi => by omega⟩ (by omega) ?_ ?_
  · rintro j ⟨x, t⟩ hj ⟨rfl, h1, h2⟩
    dsimp only at h1 h2
    unfold f_X10_keep_L26
    dsimp only
    rw [if_neg (show ¬ (6 : Int32) ≤ nI j from nI_ge (b := 6) (by omega) (by omega)), if_neg (nI_in (show j < 6 by omega) (by omega)), nI_clamp (show j < 2 ^ 31 by omega), nI_1]
    refine ⟨_, rfl, rfl, ((((h1.pi rfl).pi rfl).pi rfl).pi rfl).pi rfl, fun i hi => ?_⟩
    by_cases e : i = j
    · subst e
      simp [p_i]
      rw [h1.1 _ _ rfl, h1.1 _ _ rfl, h1.1 _ _ rfl, h1.1 _ _ rfl, h1.1 _ _ rfl]
      exact ⟨rfl, rfl, rfl, rfl, rfl⟩
    · simp only [p_i, e, false_and, if_false]
      exact h2 i (by omega)
  · rintro ⟨x, t⟩ ⟨rfl, h1, h2⟩
    unfold f_X10_keep_L26
    dsimp only
    rw [if_pos (show (6 : Int32) ≤ nI 6 by decide)]
    exact ⟨t, rfl, h1, h2⟩
theorem m_keepS {w : PM} {V : Vil} {wo : Nat} (hA : RA w V) (hW : WF V) (hw : w.1 (40, 0, 0) 35 = nI wo) : ∃ w', f_X10_keep w = some w' ∧ eqx gKp w w' ∧ KA w' V wo := by
  have h6 := hW.1
  obtain ⟨a1, a2, ⟨a3, a4⟩, a5, a6, a7⟩ := hA
  obtain ⟨t, q1, q2, q3⟩ := m_keep_l (pi (pi (pi w (40, 0, 0) 50 (w.1 (40, 0, 0) 32)) (40, 0, 0) 51 (w.1 (40, 0, 0) 33)) (40, 0, 0) 52 (w.1 (40, 0, 0) 35))
  unfold f_X10_keep
  rw [q1, Option.bind_some]
  refine ⟨t, rfl, (((eqx.rf.pi rfl).pi rfl).pi rfl).tr (q2.mono (fun q k z => by unfold gKp at z; simp only [Bool.or_eq_false_iff] at z; exact z.1)), ⟨?_, ?_, ?_⟩, fun h hh => ?_⟩
  · rw [q2.1 _ _ rfl]; simp [p_i]; exact a3
  · rw [q2.1 _ _ rfl]; simp [p_i]; exact a2
  · rw [q2.1 _ _ rfl]; simp [p_i]; exact hw
  · obtain ⟨d1, d2, d3, d4, d5⟩ := q3 h (by omega)
    obtain ⟨b1, b2, b3, b4⟩ := a4 h hh
    refine ⟨?_, ?_, fun z => ⟨?_, ?_⟩, fun z => ?_⟩
    · rw [d1]; simp [p_i]; exact b1
    · rw [d2]; simp [p_i]; exact b2
    · rw [d3]; simp [p_i]; exact (b3 z).1
    · rw [d4]; simp [p_i]; exact (b3 z).2
    · rw [d5]; simp [p_i]; exact b4 z
theorem m_lay_l (t0 : PM) : ∃ t, am_loop f_X10_layBack_L26 2000 ((0 : Int32), t0) = some t ∧ eqx (fun q _ => q.1 == 61 || (65 ≤ q.1 && q.1 ≤ 68)) t0 t ∧ ∀ i, i < 6 → t.1 (61, 0, 0) i = t0.1 (73, 0, 0) i ∧ t.1 (65, 0, 0) i = t0.1 (74, 0, 0) i ∧ t.1 (66, 0, 0) i = t0.1 (75, 0, 0) i ∧ t.1 (67, 0, 0) i = t0.1 (76, 0, 0) i ∧ t.1 (68, 0, 0) i = t0.1 (77, 0, 0) i := by
  refine am_cnt (f := f_X10_layBack_L26) (s := ((0 : Int32), t0)) (fun j t => t.1 = nI j ∧ eqx (fun q _ => q.1 == 61 || (65 ≤ q.1 && q.1 ≤ 68)) t0 t.2 ∧ ∀ i, i < j → t.2.1 (61, 0, 0) i = t0.1 (73, 0, 0) i ∧ t.2.1 (65, 0, 0) i = t0.1 (74, 0, 0) i ∧ t.2.1 (66, 0, 0) i = t0.1 (75, 0, 0) i ∧ t.2.1 (67, 0, 0) i = t0.1 (76, 0, 0) i ∧ t.2.1 (68, 0, 0) i = t0.1 (77, 0, 0) i) (fun t => eqx (fun q _ => q.1 == 61 || (65 ≤ q.1 && q.1 ≤ 68)) t0 t ∧ ∀ i, i < 6 → t.1 (61, 0, 0) i = t0.1 (73, 0, 0) i ∧ t.1 (65, 0, 0) i = t0.1 (74, 0, 0) i ∧ t.1 (66, 0, 0) i = t0.1 (75, 0, 0) i ∧ t.1 (67, 0, 0) i = t0.1 (76, 0, 0) i ∧ t.1 (68, 0, 0) i = t0.1 (77, 0, 0) i) 6 ⟨rfl, eqx.rf, fun i hi => by omega⟩ (by omega) ?_ ?_
  · rintro j ⟨x, t⟩ hj ⟨rfl, h1, h2⟩
    dsimp only at h1 h2
    unfold f_X10_layBack_L26
    dsimp only
    rw [if_neg (show ¬ (6 : Int32) ≤ nI j from nI_ge (b := 6) (by omega) (by omega)), if_neg (nI_in (show j < 6 by omega) (by omega)), nI_clamp (show j < 2 ^ 31 by omega), nI_1]
    refine ⟨_, rfl, rfl, ((((h1.pi rfl).pi rfl).pi rfl).pi rfl).pi rfl, fun i hi => ?_⟩
    by_cases e : i = j
    · subst e
      simp [p_i]
      rw [h1.1 _ _ rfl, h1.1 _ _ rfl, h1.1 _ _ rfl, h1.1 _ _ rfl, h1.1 _ _ rfl]
      exact ⟨rfl, rfl, rfl, rfl, rfl⟩
    · simp only [p_i, e, false_and, if_false]
      exact h2 i (by omega)
  · rintro ⟨x, t⟩ ⟨rfl, h1, h2⟩
    unfold f_X10_layBack_L26
    dsimp only
    rw [if_pos (show (6 : Int32) ≤ nI 6 by decide)]
    exact ⟨t, rfl, h1, h2⟩
theorem m_layS {w : PM} {V : Vil} {wo : Nat} (hS : SA w V) (hK : KA w V wo) (hW : WF V) : ∃ w', f_X10_layBack w = some w' ∧ eqx gLb w w' ∧ RA w' V ∧ RMw w' V ∧ w'.1 (40, 0, 0) 35 = nI wo := by
  have h6 := hW.1
  obtain ⟨⟨k1, k2, k3⟩, k4⟩ := hK
  obtain ⟨t, q1, q2, q3⟩ := m_lay_l (pi (pi (pi w (40, 0, 0) 32 (w.1 (40, 0, 0) 50)) (40, 0, 0) 33 (w.1 (40, 0, 0) 51)) (40, 0, 0) 35 (w.1 (40, 0, 0) 52))
  obtain ⟨w', r1, r2, r3, r4⟩ := m_begin t
  have e1 : eqx gLb w t := (((eqx.rf.pi rfl).pi rfl).pi rfl).tr (q2.mono (fun q k z => by
    unfold gLb at z
    simp only [Bool.or_eq_false_iff, beq_eq_false_iff_ne, Bool.and_eq_false_iff, decide_eq_false_iff_not] at z ⊢
    omega))
  have e2 : eqx gLb w w' := e1.tr (r2.mono (fun q k z => by
    unfold gLb at z
    unfold gBe
    simp only [Bool.or_eq_false_iff, beq_eq_false_iff_ne, Bool.and_eq_false_iff, decide_eq_false_iff_not] at z ⊢
    omega))
  obtain ⟨s1, s2, s3, s4⟩ := SA_Lh (e2.mono (fun _ _ => gLb_Lh)) hS
  have t32 : t.1 (40, 0, 0) 32 = nI (lit V.1 V.2.2.1) := by rw [q2.1 _ _ rfl]; simp [p_i]; exact k1
  have t33 : t.1 (40, 0, 0) 33 = V.2.2.2.2.1 := by rw [q2.1 _ _ rfl]; simp [p_i]; exact k2
  have t35 : t.1 (40, 0, 0) 35 = nI wo := by rw [q2.1 _ _ rfl]; simp [p_i]; exact k3
  have row : ∀ h, h < V.2.2.1 → t.1 (61, 0, 0) h = V.1 h 0 ∧ rowM t (V.1 h) h := fun h hh => by
    obtain ⟨c1, c2, c3, c4⟩ := k4 h hh
    obtain ⟨d1, d2, d3, d4, d5⟩ := q3 h (by omega)
    refine ⟨?_, ?_, fun z => ⟨?_, ?_⟩, fun z => ?_⟩
    · rw [d1]; simp [p_i]; exact c1
    · rw [d2]; simp [p_i]; exact c2
    · rw [d3]; simp [p_i]; exact (c3 z).1
    · rw [d4]; simp [p_i]; exact (c3 z).2
    · rw [d5]; simp [p_i]; exact c4 z
  have ra : RMa w' V.1 V.2.2.1 := by
    refine RMa_kept (w := t) ⟨t32, fun h hh => row h hh⟩ r2 rfl (fun s i h1 h2 h3 h4 h5 => by unfold gBe; simp only [Bool.or_eq_false_iff, beq_eq_false_iff_ne, Bool.and_eq_false_iff]; omega)
  unfold f_X10_layBack
  rw [q1, Option.bind_some, r1]
  refine ⟨w', rfl, e2, ⟨s1, (r2.1 _ _ rfl).trans t33, ra, s2, s3, s4⟩, ⟨s1, r3.trans t32, (r2.1 _ _ rfl).trans t33, fun h hh => ?_, s3, s4⟩, (r2.1 _ _ rfl).trans t35⟩
  obtain ⟨b1, b2, b3⟩ := s2 h hh
  exact ⟨(r4 h (by omega)).trans (row h hh).1, b1, b2, b3⟩
theorem gP_Lh {q : Key} {k : Nat} (h : gLh q k = false) : gP q k = false := by
  unfold gLh at h
  unfold gP
  simp only [Bool.or_eq_false_iff, beq_eq_false_iff_ne, Bool.and_eq_false_iff, decide_eq_false_iff_not] at h ⊢
  omega
theorem gMh_Lh {q : Key} {k : Nat} (h : gLh q k = false) : gMh q k = false := by
  unfold gLh at h
  unfold gMh gBe gM6 gM8
  simp only [Bool.or_eq_false_iff, beq_eq_false_iff_ne, Bool.and_eq_false_iff, decide_eq_false_iff_not] at h ⊢
  omega
theorem RA_gP {w w' : PM} {V : Vil} (he : eqx gP w w') (h : RA w V) : RA w' V := by
  have s := SA_kept he rfl rfl (fun s i hs => beq_eq_false_iff_ne.mpr (by show s ≠ 69; omega)) (RA_SA h)
  exact ⟨s.1, (he.1 _ _ rfl).trans h.2.1, RMa_gP h.2.2.1 he, s.2.1, s.2.2.1, s.2.2.2⟩
theorem m_counts {t : PM} {l x wo E W : Nat} (hl : l < 64) (h32 : t.1 (40, 0, 0) 32 = nI l) (hw : t.1 (40, 0, 0) 35 = nI wo) (hwo : wo < 2 ^ 31) (hE : t.2.1 (40, 0, 0) 58 = lN E) (hW : t.2.1 (40, 0, 0) 59 = lN W) : ∃ t', f_X10_counts (lN x) t = some t' ∧ eqx gLh t t' ∧ t'.2.1 (40, 0, 0) 58 = lN (E + if l = 0 then x else 0) ∧ t'.2.1 (40, 0, 0) 59 = lN (W + x * wo) := by
  unfold f_X10_counts
  rw [h32, hw, hE, hW, nI_l hwo, lN_mul, lN_add, lN_add]
  simp only [i_eq0 (show l < 2147483648 by omega)]
  by_cases z : l = 0
  · rw [if_pos z, if_pos z]
    refine ⟨_, rfl, (eqx.rf.pl rfl).pl rfl, ?_, pl_at _ _ _ _⟩
    rw [p_l, if_neg (by simp), p_l, if_pos ⟨rfl, rfl⟩]
  · rw [if_neg z, if_neg z]
    refine ⟨_, rfl, (eqx.rf.pl rfl).pl rfl, ?_, pl_at _ _ _ _⟩
    rw [p_l, if_neg (by simp), p_l, if_pos ⟨rfl, rfl⟩]
    exact lN_add E 0
def FwR (w : PM) (V : Vil) : Prop := ∀ a b, a < 3 → b < 3 → w.1 (60, 0, 0) (3 * a + b) = fwA V a b
theorem m_last1 {t0 : PM} {V : Vil} {a p wo w E W : Nat} (hS : SA t0 V) (hK : KA t0 V wo) (hW : WF V) (hA : okA V) (h3 : V.2.2.1 ≤ 3) (ha : a < 3) (hw : w < 3) (hwo : wo ≤ 297) (hf : FwR t0 V) (hE : t0.2.1 (40, 0, 0) 58 = lN E) (hWW : t0.2.1 (40, 0, 0) 59 = lN W) : ∃ t, am_loop (f_X10_lastHour_L16 (nI a) (lN p) (nI w)) 2000 ((0 : Int32), t0) = some t ∧ eqx gLh t0 t ∧ t.2.1 (40, 0, 0) 58 = lN (E + sm (fun s => eT V a p w s) (2 ^ V.2.2.1)) ∧ t.2.1 (40, 0, 0) 59 = lN (W + sm (fun s => wT V a p wo w s) (2 ^ V.2.2.1)) := by
  have p8 := p2_8 _ h3
  refine am_cnt (f := f_X10_lastHour_L16 (nI a) (lN p) (nI w)) (s := ((0 : Int32), t0)) (fun j x => x.1 = nI j ∧ eqx gLh t0 x.2 ∧ x.2.2.1 (40, 0, 0) 58 = lN (E + sm (fun s => eT V a p w s) j) ∧ x.2.2.1 (40, 0, 0) 59 = lN (W + sm (fun s => wT V a p wo w s) j)) (fun t => eqx gLh t0 t ∧ t.2.1 (40, 0, 0) 58 = lN (E + sm (fun s => eT V a p w s) (2 ^ V.2.2.1)) ∧ t.2.1 (40, 0, 0) 59 = lN (W + sm (fun s => wT V a p wo w s) (2 ^ V.2.2.1))) (2 ^ V.2.2.1) ⟨rfl, eqx.rf, hE, hWW⟩ (by omega) ?_ ?_
  · rintro j ⟨x, t⟩ hj ⟨rfl, h1, h2, h2'⟩
    dsimp only at h1 h2 h2'
    obtain ⟨t1, a1, a2, a3, a4, a5⟩ := m_layS (SA_Lh h1 hS) (KA_Lh h1 hK) hW
    obtain ⟨t2, b1, b2⟩ := m_share (w := w) (s := j) a4 hW hA (by omega)
    obtain ⟨t3, c1, c2, c3, c4, c5⟩ := m_hour (RA_gP b2 a3) hW (nI w) (nI j)
    have f60 : t1.1 (60, 0, 0) (3 * a + w) = fwA V a w := (a2.1 _ _ rfl).trans ((h1.1 _ _ rfl).trans (hf a w ha hw))
    have f1 := fN_e hA a w
    have t7 := t1N_le7 hA h3 a w j
    have et : fN V a w * shN V w j V.2.2.1 = t1N V a w j := (if_pos hj).symm
    unfold f_X10_lastHour_L16
    dsimp only
    rw [show t.1 (40, 0, 0) 0 = nI V.2.2.1 from (h1.1 _ _ rfl).trans hS.1, b_shl _ hW.1, if_neg (nI_ge hj (by omega)), a1, Option.bind_some, L_3, pk_mul, nI_add, if_neg (nI_in (show 3 * a + w < 9 by omega) (by omega)), nI_clamp (show 3 * a + w < 2 ^ 31 by omega), b1, Option.bind_some]
    dsimp only
    rw [f60, f1.1, nI_l (by omega), lN_mul, et, nI_1]
    simp only [l_eq0 (show t1N V a w j < 2 ^ 63 by omega)]
    have g2 : eqx gLh t t2 := (a2.mono (fun _ _ => gLb_Lh)).tr (b2.mono (fun _ _ => gP_Lh))
    have v58 : t2.2.1 (40, 0, 0) 58 = lN (E + sm (fun s => eT V a p w s) j) := (b2.2.1 _ _ rfl).trans ((a2.2.1 _ _ rfl).trans h2)
    have v59 : t2.2.1 (40, 0, 0) 59 = lN (W + sm (fun s => wT V a p wo w s) j) := (b2.2.1 _ _ rfl).trans ((a2.2.1 _ _ rfl).trans h2')
    have sE : sm (fun s => eT V a p w s) (j + 1) = sm (fun s => eT V a p w s) j + eT V a p w j := rfl
    have sW : sm (fun s => wT V a p wo w s) (j + 1) = sm (fun s => wT V a p wo w s) j + wT V a p wo w j := rfl
    by_cases z : t1N V a w j = 0
    · rw [if_pos z]
      refine ⟨_, rfl, rfl, h1.tr g2, ?_, ?_⟩
      · refine v58.trans ?_
        rw [sE]
        unfold eT
        rw [z, Nat.mul_zero]
        congr 2
        split <;> rfl
      · refine v59.trans ?_
        rw [sW]
        unfold wT
        rw [z, Nat.mul_zero, Nat.zero_mul]
        rfl
    · have w3 : t3.1 (40, 0, 0) 35 = nI (wo + wN V w V.2.2.1) := by
        rw [c4, show t2.1 (40, 0, 0) 35 = nI wo from (b2.1 _ _ rfl).trans a5, wS_n hA]
      have wl := wN_le hA w V.2.2.1
      have l64 : lit (hourA V (nI w) (nI j)).1 V.2.2.1 < 64 := lit_64 _ hW.1
      obtain ⟨t4, d1, d2, d3, d4⟩ := m_counts (x := p * t1N V a w j) l64 c3.2.2.1.1 w3 (by omega) ((c2.2.1 _ _ rfl).trans v58) ((c2.2.1 _ _ rfl).trans v59)
      rw [if_neg z, c1, Option.bind_some, lN_mul, d1, Option.bind_some]
      refine ⟨_, rfl, rfl, h1.tr (g2.tr ((c2.mono (fun _ _ => gMh_Lh)).tr d2)), ?_, ?_⟩
      · refine d3.trans ?_
        rw [sE, Nat.add_assoc]
        rfl
      · refine d4.trans ?_
        rw [sW, Nat.add_assoc]
        rfl
  · rintro ⟨x, t⟩ ⟨rfl, h1, h2, h2'⟩
    unfold f_X10_lastHour_L16
    dsimp only
    rw [show t.1 (40, 0, 0) 0 = nI V.2.2.1 from (h1.1 _ _ rfl).trans hS.1, b_shl _ hW.1, if_pos (Int32.le_refl _)]
    exact ⟨_, rfl, h1, h2, h2'⟩

def gLk (q : Key) (k : Nat) : Bool := gLh q k || gKp q k
theorem gLh_Lk {q : Key} {k : Nat} (h : gLk q k = false) : gLh q k = false := by
  unfold gLk at h
  simp only [Bool.or_eq_false_iff] at h
  exact h.1
theorem gKp_Lk {q : Key} {k : Nat} (h : gLk q k = false) : gKp q k = false := by
  unfold gLk at h
  simp only [Bool.or_eq_false_iff] at h
  exact h.2
theorem m_last {t : PM} {V : Vil} {a p wo E W : Nat} (hR : RA t V) (hwt : t.1 (40, 0, 0) 35 = nI wo) (hW : WF V) (hA : okA V) (h3 : V.2.2.1 ≤ 3) (ha : a < 3) (hwo : wo ≤ 297) (hf : FwR t V) (hE : t.2.1 (40, 0, 0) 58 = lN E) (hWW : t.2.1 (40, 0, 0) 59 = lN W) : ∃ t', f_X10_lastHour (nI a) (lN p) t = some t' ∧ eqx gLk t t' ∧ t'.2.1 (40, 0, 0) 58 = lN (E + lastE V a p) ∧ t'.2.1 (40, 0, 0) 59 = lN (W + lastW V a p wo) := by
  obtain ⟨t1, a1, a2, a3⟩ := m_keepS hR hW hwt
  have s1 : SA t1 V := SA_Kp a2 (RA_SA hR)
  obtain ⟨t', k1, k2, k3, k4⟩ := am_cnt (f := f_X10_lastHour_L7 (nI a) (lN p)) (s := ((0 : Int32), t1)) (fun w x => x.1 = nI w ∧ eqx gLh t1 x.2 ∧ x.2.2.1 (40, 0, 0) 58 = lN (E + sm (fun w => sm (fun s => eT V a p w s) (2 ^ V.2.2.1)) w) ∧ x.2.2.1 (40, 0, 0) 59 = lN (W + sm (fun w => sm (fun s => wT V a p wo w s) (2 ^ V.2.2.1)) w)) (fun t => eqx gLh t1 t ∧ t.2.1 (40, 0, 0) 58 = lN (E + lastE V a p) ∧ t.2.1 (40, 0, 0) 59 = lN (W + lastW V a p wo)) 3 ⟨rfl, eqx.rf, (a2.2.1 _ _ rfl).trans hE, (a2.2.1 _ _ rfl).trans hWW⟩ (by omega) (by
    rintro w ⟨x, s⟩ hw ⟨rfl, h1, h2, h3'⟩
    dsimp only at h1 h2 h3'
    obtain ⟨t2, b1, b2, b3, b4⟩ := m_last1 (p := p) (SA_Lh h1 s1) (KA_Lh h1 a3) hW hA h3 ha hw hwo (fun a b ha hb => (h1.1 _ _ rfl).trans ((a2.1 _ _ rfl).trans (hf a b ha hb))) h2 h3'
    unfold f_X10_lastHour_L7
    dsimp only
    rw [if_neg (show ¬ (3 : Int32) ≤ nI w from nI_ge (b := 3) hw (by omega)), b1, Option.bind_some, nI_1]
    refine ⟨_, rfl, rfl, h1.tr b2, ?_, ?_⟩
    · refine b3.trans ?_
      rw [Nat.add_assoc]
      rfl
    · refine b4.trans ?_
      rw [Nat.add_assoc]
      rfl) (by
    rintro ⟨x, s⟩ ⟨rfl, h1, h2, h3'⟩
    unfold f_X10_lastHour_L7
    dsimp only
    rw [if_pos (show (3 : Int32) ≤ nI 3 by decide)]
    exact ⟨_, rfl, h1, h2, h3'⟩)
  unfold f_X10_lastHour
  rw [a1, Option.bind_some, k1, Option.bind_some]
  exact ⟨t', rfl, (a2.mono (fun _ _ => gKp_Lk)).tr (k2.mono (fun _ _ => gLh_Lk)), k3, k4⟩
def gEn (q : Key) (k : Nat) : Bool := (61 ≤ q.1 && q.1 ≤ 69) || (73 ≤ q.1 && q.1 ≤ 77) || (q.1 == 40 && ((32 ≤ k && k ≤ 36) || (50 ≤ k && k ≤ 52) || k == 58 || k == 59))
theorem gLk_En {q : Key} {k : Nat} (h : gEn q k = false) : gLk q k = false := by
  unfold gEn at h
  unfold gLk gLh gKp
  simp only [Bool.or_eq_false_iff, beq_eq_false_iff_ne, Bool.and_eq_false_iff, decide_eq_false_iff_not] at h ⊢
  omega
theorem gAs_En {q : Key} {k : Nat} (h : gEn q k = false) : gAs q k = false := by
  unfold gEn at h
  unfold gAs
  simp only [Bool.or_eq_false_iff, beq_eq_false_iff_ne, Bool.and_eq_false_iff, decide_eq_false_iff_not] at h ⊢
  omega
theorem k_gEn {w w' : PM} (h : eqx gEn w w') : chM [0] w w' := toM h (fun q k z => cM_0 (by
  unfold gEn at z
  simp only [Bool.or_eq_true, Bool.and_eq_true, beq_iff_eq, decide_eq_true_eq] at z
  omega))
theorem lastE_0 (V : Vil) (a : Nat) : lastE V a 0 = 0 := sm_z 3 (fun w _ => sm_z _ (fun s _ => by
  unfold eT
  rw [Nat.zero_mul]
  split <;> rfl))
theorem lastW_0 (V : Vil) (a wo : Nat) : lastW V a 0 wo = 0 := sm_z 3 (fun w _ => sm_z _ (fun s _ => by
  unfold wT
  rw [Nat.zero_mul, Nat.zero_mul]))
def allE (V : Vil) (a w s : Nat) : Nat := lastE (hourA V (nI w) (nI s)) w (t1N V a w s)
def allW (V : Vil) (a w s : Nat) : Nat := lastW (hourA V (nI w) (nI s)) w (t1N V a w s) (wN V w V.2.2.1)
theorem m_two1 {t0 : PM} {V : Vil} {a w E W : Nat} (c2 c3 : Int32) (c4 : Int64) (hP : RP t0 kP V) (hwt : V.2.2.2.1 = nI a) (hW : WF V) (hA : okA V) (h3 : V.2.2.1 ≤ 3) (ha : a < 3) (hw : w < 3) (hf : FwR t0 V) (hE : t0.2.1 (40, 0, 0) 58 = lN E) (hWW : t0.2.1 (40, 0, 0) 59 = lN W) : ∃ t, am_loop (f_X10_ends_L141 c2 c3 c4 (nI w)) 2000 ((0 : Int32), t0) = some t ∧ eqx gEn t0 t ∧ t.2.1 (40, 0, 0) 58 = lN (E + sm (fun s => allE V a w s) (2 ^ V.2.2.1)) ∧ t.2.1 (40, 0, 0) 59 = lN (W + sm (fun s => allW V a w s) (2 ^ V.2.2.1)) := by
  have p8 := p2_8 _ h3
  refine am_cnt (f := f_X10_ends_L141 c2 c3 c4 (nI w)) (s := ((0 : Int32), t0)) (fun j x => x.1 = nI j ∧ eqx gEn t0 x.2 ∧ x.2.2.1 (40, 0, 0) 58 = lN (E + sm (fun s => allE V a w s) j) ∧ x.2.2.1 (40, 0, 0) 59 = lN (W + sm (fun s => allW V a w s) j)) (fun t => eqx gEn t0 t ∧ t.2.1 (40, 0, 0) 58 = lN (E + sm (fun s => allE V a w s) (2 ^ V.2.2.1)) ∧ t.2.1 (40, 0, 0) 59 = lN (W + sm (fun s => allW V a w s) (2 ^ V.2.2.1))) (2 ^ V.2.2.1) ⟨rfl, eqx.rf, hE, hWW⟩ (by omega) ?_ ?_
  · rintro j ⟨x, t⟩ hj ⟨rfl, h1, h2, h2'⟩
    dsimp only at h1 h2 h2'
    have hP' := RP_k (k_gEn h1) rfl rfl hP
    obtain ⟨t1, a1, a2, a3, a4, a5, a6⟩ := m_asIs hP' hW
    obtain ⟨t2, b1, b2⟩ := m_share (w := w) (s := j) a4 hW hA (by omega)
    obtain ⟨t3, c1, c2', c3', c4', c5⟩ := m_hour (RA_gP b2 a3) hW (nI w) (nI j)
    have wt1 : t1.1 (40, 0, 0) 3 = nI a := (a2.1 _ _ rfl).trans (hP'.1.2.2.2.trans hwt)
    have f60 : ∀ a b, a < 3 → b < 3 → t1.1 (60, 0, 0) (3 * a + b) = fwA V a b := fun a b ha hb => (a2.1 _ _ rfl).trans ((h1.1 _ _ rfl).trans (hf a b ha hb))
    have f1 := fN_e hA a w
    have t7 := t1N_le7 hA h3 a w j
    have et : fN V a w * shN V w j V.2.2.1 = t1N V a w j := (if_pos hj).symm
    unfold f_X10_ends_L141
    dsimp only
    rw [show t.1 (40, 0, 0) 0 = nI V.2.2.1 from RP_H hP', b_shl _ hW.1, if_neg (nI_ge hj (by omega)), a1, Option.bind_some, wt1, L_3, pk_mul, nI_add, if_neg (nI_in (show 3 * a + w < 9 by omega) (by omega)), nI_clamp (show 3 * a + w < 2 ^ 31 by omega), b1, Option.bind_some]
    dsimp only
    rw [f60 a w ha hw, f1.1, nI_l (by omega), lN_mul, et, nI_1]
    simp only [l_eq0 (show t1N V a w j < 2 ^ 63 by omega)]
    have g2 : eqx gEn t t2 := (a2.mono (fun _ _ => gAs_En)).tr (b2.mono (fun _ _ z => gP_Lh (gLh_Lk (gLk_En z))))
    have v58 : t2.2.1 (40, 0, 0) 58 = lN (E + sm (fun s => allE V a w s) j) := (b2.2.1 _ _ rfl).trans ((a2.2.1 _ _ rfl).trans h2)
    have v59 : t2.2.1 (40, 0, 0) 59 = lN (W + sm (fun s => allW V a w s) j) := (b2.2.1 _ _ rfl).trans ((a2.2.1 _ _ rfl).trans h2')
    have sE : sm (fun s => allE V a w s) (j + 1) = sm (fun s => allE V a w s) j + allE V a w j := rfl
    have sW : sm (fun s => allW V a w s) (j + 1) = sm (fun s => allW V a w s) j + allW V a w j := rfl
    by_cases z : t1N V a w j = 0
    · rw [if_pos z]
      refine ⟨_, rfl, rfl, h1.tr g2, ?_, ?_⟩
      · refine v58.trans ?_
        rw [sE]
        unfold allE
        rw [z, lastE_0]
        rfl
      · refine v59.trans ?_
        rw [sW]
        unfold allW
        rw [z, lastW_0]
        rfl
    · have wl := wN_le hA w V.2.2.1
      have w3 : t3.1 (40, 0, 0) 35 = nI (wN V w V.2.2.1) := by
        rw [c4', show t2.1 (40, 0, 0) 35 = nI 0 from (b2.1 _ _ rfl).trans a5, wS_n hA, Nat.zero_add]
      have f3 : FwR t3 (hourA V (nI w) (nI j)) := fun a b ha hb => by
        rw [fwA_c (V := V) (V' := hourA V (nI w) (nI j)) rfl]
        exact (c2'.1 _ _ rfl).trans ((b2.1 _ _ rfl).trans (f60 a b ha hb))
      obtain ⟨t4, d1, d2, d3, d4⟩ := m_last (p := t1N V a w j) c3' w3 (WF_hour hW _ _) (okA_h hA _ _) h3 hw (show wN V w V.2.2.1 ≤ 297 by omega) f3 ((c2'.2.1 _ _ rfl).trans v58) ((c2'.2.1 _ _ rfl).trans v59)
      rw [if_neg z, c1, Option.bind_some, d1, Option.bind_some]
      refine ⟨_, rfl, rfl, h1.tr (g2.tr ((c2'.mono (fun _ _ z => gMh_Lh (gLh_Lk (gLk_En z)))).tr (d2.mono (fun _ _ => gLk_En)))), ?_, ?_⟩
      · refine d3.trans ?_
        rw [sE, Nat.add_assoc]
        rfl
      · refine d4.trans ?_
        rw [sW, Nat.add_assoc]
        rfl
  · rintro ⟨x, t⟩ ⟨rfl, h1, h2, h2'⟩
    unfold f_X10_ends_L141
    dsimp only
    rw [show t.1 (40, 0, 0) 0 = nI V.2.2.1 from RP_H (RP_k (k_gEn h1) rfl rfl hP), b_shl _ hW.1, if_pos (Int32.le_refl _)]
    exact ⟨_, rfl, h1, h2, h2'⟩
theorem m_two {t0 : PM} {V : Vil} {a : Nat} (c2 c3 : Int32) (c4 : Int64) (hP : RP t0 kP V) (hwt : V.2.2.2.1 = nI a) (hW : WF V) (hA : okA V) (h3 : V.2.2.1 ≤ 3) (ha : a < 3) (hf : FwR t0 V) (hE : t0.2.1 (40, 0, 0) 58 = lN 0) (hWW : t0.2.1 (40, 0, 0) 59 = lN 0) : ∃ t, am_loop (f_X10_ends_L132 c2 c3 c4) 2000 ((0 : Int32), t0) = some t ∧ eqx gEn t0 t ∧ t.2.1 (40, 0, 0) 58 = lN (sm (fun w => sm (fun s => allE V a w s) (2 ^ V.2.2.1)) 3) ∧ t.2.1 (40, 0, 0) 59 = lN (sm (fun w => sm (fun s => allW V a w s) (2 ^ V.2.2.1)) 3) := by
  refine am_cnt (f := f_X10_ends_L132 c2 c3 c4) (s := ((0 : Int32), t0)) (fun j x => x.1 = nI j ∧ eqx gEn t0 x.2 ∧ x.2.2.1 (40, 0, 0) 58 = lN (sm (fun w => sm (fun s => allE V a w s) (2 ^ V.2.2.1)) j) ∧ x.2.2.1 (40, 0, 0) 59 = lN (sm (fun w => sm (fun s => allW V a w s) (2 ^ V.2.2.1)) j)) (fun t => eqx gEn t0 t ∧ t.2.1 (40, 0, 0) 58 = lN (sm (fun w => sm (fun s => allE V a w s) (2 ^ V.2.2.1)) 3) ∧ t.2.1 (40, 0, 0) 59 = lN (sm (fun w => sm (fun s => allW V a w s) (2 ^ V.2.2.1)) 3)) 3 ⟨rfl, eqx.rf, hE, hWW⟩ (by omega) ?_ ?_
  · rintro w ⟨x, t⟩ hw ⟨rfl, h1, h2, h2'⟩
    dsimp only at h1 h2 h2'
    obtain ⟨t2, b1, b2, b3, b4⟩ := m_two1 c2 c3 c4 (RP_k (k_gEn h1) rfl rfl hP) hwt hW hA h3 ha hw (fun a b ha hb => (h1.1 _ _ rfl).trans (hf a b ha hb)) h2 h2'
    unfold f_X10_ends_L132
    dsimp only
    rw [if_neg (show ¬ (3 : Int32) ≤ nI w from nI_ge (b := 3) hw (by omega)), b1, Option.bind_some, nI_1]
    exact ⟨_, rfl, rfl, h1.tr b2, b3, b4⟩
  · rintro ⟨x, t⟩ ⟨rfl, h1, h2, h2'⟩
    unfold f_X10_ends_L132
    dsimp only
    rw [if_pos (show (3 : Int32) ≤ nI 3 by decide)]
    exact ⟨_, rfl, h1, h2, h2'⟩
theorem m_bel {w : PM} {H n : Nat} (c2 c3 : Int32) (h3 : H ≤ 3) (hn : n ≤ 2) (hH : w.1 (40, 0, 0) 0 = nI H) : am_loop (f_X10_ends_L52 (nI n) c2 c3 w) 2000 ((1 : Int64), (0 : Int32)) = some (lN (bel H n)) := by
  have inner : ∀ (c6 : Int32) (b : Nat), am_loop (f_X10_ends_L69 (nI n) c2 c3 c6 w) 2000 (lN b, (0 : Int32)) = some (lN (b * 100 ^ H)) := fun c6 b => by
    have e0 : (lN b, (0 : Int32)) = (lN (b * 100 ^ 0), nI 0) := by rw [Nat.pow_zero, Nat.mul_one]; rfl
    rw [e0]
    refine am_seq (fun j => (lN (b * 100 ^ j), nI j)) _ H (fun j hj => ?_) ?_ (by omega)
    · unfold f_X10_ends_L69
      dsimp only
      rw [hH, if_neg (nI_ge hj (by omega)), nI_1, show (100 : Int64) = lN 100 from rfl, lN_mul, Nat.mul_assoc, ← Nat.pow_succ]
    · unfold f_X10_ends_L69
      dsimp only
      rw [hH, if_pos (Int32.le_refl _)]
  refine am_seq (fun j => (lN (bel H j), nI j)) _ n (fun j hj => ?_) ?_ (by omega)
  · unfold f_X10_ends_L52
    dsimp only
    rw [if_neg (nI_ge hj (by omega)), show (10 : Int64) = lN 10 from rfl, lN_mul, inner, Option.bind_some, nI_1]
    rfl
  · unfold f_X10_ends_L52
    dsimp only
    rw [if_pos (Int32.le_refl _)]
