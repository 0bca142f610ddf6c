/-! the reference's own state, and as it is -/
abbrev Ks : Type := (Nat × Nat × Nat × Nat × Nat) × (Nat × Nat × Nat × Nat × Nat × Nat × Nat × Nat × Nat)
/-- where the state stands: houses, alight, hour, weather, land; wood, kind, v, hours, phase, yet, to, horn, ways -/
def kP : Ks := ((0, 1, 2, 3, 14), (41, 42, 43, 44, 45, 46, 47, 48, 49))
def kI : Ks := ((62, 63, 64, 65, 61), (78, 79, 80, 81, 82, 83, 84, 85, 86))
def rowP (w : PM) (ks : Ks) (R : Nat → Int32) (h : Nat) : Prop := w.1 (ks.2.1, 0, 0) h = R 0 ∧ w.1 (ks.2.2.1, 0, 0) h = R 2 ∧ w.1 (ks.2.2.2.1, 0, 0) h = R 3 ∧ w.1 (ks.2.2.2.2.1, 0, 0) h = R 4 ∧ w.1 (ks.2.2.2.2.2.1, 0, 0) h = R 5 ∧ (R 5 ≠ 0 → w.1 (ks.2.2.2.2.2.2.1, 0, 0) h = R 6 ∧ w.1 (ks.2.2.2.2.2.2.2.1, 0, 0) h = R 7) ∧ (R 5 = 2 → w.1 (ks.2.2.2.2.2.2.2.2.1, 0, 0) h = R 8)
def RP (w : PM) (ks : Ks) (V : Vil) : Prop := (w.1 (40, 0, 0) ks.1.1 = nI V.2.2.1 ∧ w.1 (40, 0, 0) ks.1.2.1 = nI (lit V.1 V.2.2.1) ∧ w.1 (40, 0, 0) ks.1.2.2.1 = V.2.2.2.2.1 ∧ w.1 (40, 0, 0) ks.1.2.2.2.1 = V.2.2.2.1) ∧ (∀ h, h < V.2.2.1 → rowP w ks (V.1 h) h) ∧ (∀ a b, a < V.2.2.1 → b < V.2.2.1 → w.1 (ks.2.2.2.2.2.2.2.2.2, 0, 0) (6 * a + b) = V.2.1 a b) ∧ LdM w (w.1 (40, 0, 0) ks.1.2.2.2.2) V.2.2.2.2.2
def gAs (q : Key) (k : Nat) : Bool := (61 ≤ q.1 && q.1 ≤ 68) || (q.1 == 40 && (k == 32 || k == 33 || k == 34 || k == 35 || k == 36))
theorem gAs_gL {q : Key} {k : Nat} (h : gL q k = false) : gAs q k = false := by
  unfold gL at h
  unfold gAs
  simp only [Bool.not_eq_false', Bool.or_eq_true, Bool.and_eq_true, beq_iff_eq, decide_eq_true_eq] at h
  simp only [Bool.or_eq_false_iff, beq_eq_false_iff_ne, Bool.and_eq_false_iff, decide_eq_false_iff_not]
  omega
theorem gBe_As {q : Key} {k : Nat} (h : gAs q k = false) : gBe q k = false := by
  unfold gAs at h
  unfold gBe
  simp only [Bool.or_eq_false_iff, beq_eq_false_iff_ne, Bool.and_eq_false_iff, decide_eq_false_iff_not] at h ⊢
  omega
theorem m_asIs_l (w : PM) (t0 : PM) : ∃ t, am_loop f_X10_asIs_L28 2000 ((0 : Int32), t0) = some t ∧ eqx (fun q _ => 61 ≤ q.1 && q.1 ≤ 68 && q.1 != 62) t0 t ∧ ∀ i, i < 6 → t.1 (61, 0, 0) i = t0.1 (41, 0, 0) i ∧ t.1 (63, 0, 0) i = t0.1 (42, 0, 0) i ∧ t.1 (64, 0, 0) i = t0.1 (43, 0, 0) i ∧ t.1 (65, 0, 0) i = t0.1 (45, 0, 0) i ∧ t.1 (66, 0, 0) i = t0.1 (46, 0, 0) i ∧ t.1 (67, 0, 0) i = t0.1 (47, 0, 0) i ∧ t.1 (68, 0, 0) i = t0.1 (48, 0, 0) i := by
  refine am_cnt (f := f_X10_asIs_L28) (s := ((0 : Int32), t0)) (fun j t => t.1 = nI j ∧ eqx (fun q _ => 61 ≤ q.1 && q.1 ≤ 68 && q.1 != 62) t0 t.2 ∧ ∀ i, i < j → t.2.1 (61, 0, 0) i = t0.1 (41, 0, 0) i ∧ t.2.1 (63, 0, 0) i = t0.1 (42, 0, 0) i ∧ t.2.1 (64, 0, 0) i = t0.1 (43, 0, 0) i ∧ t.2.1 (65, 0, 0) i = t0.1 (45, 0, 0) i ∧ t.2.1 (66, 0, 0) i = t0.1 (46, 0, 0) i ∧ t.2.1 (67, 0, 0) i = t0.1 (47, 0, 0) i ∧ t.2.1 (68, 0, 0) i = t0.1 (48, 0, 0) i) (fun t => eqx (fun q _ => 61 ≤ q.1 && q.1 ≤ 68 && q.1 != 62) t0 t ∧ ∀ i, i < 6 → t.1 (61, 0, 0) i = t0.1 (41, 0, 0) i ∧ t.1 (63, 0, 0) i = t0.1 (42, 0, 0) i ∧ t.1 (64, 0, 0) i = t0.1 (43, 0, 0) i ∧ t.1 (65, 0, 0) i = t0.1 (45, 0, 0) i ∧ t.1 (66, 0, 0) i = t0.1 (46, 0, 0) i ∧ t.1 (67, 0, 0) i = t0.1 (47, 0, 0) i ∧ t.1 (68, 0, 0) i = t0.1 (48, 0, 0) i) 6 ⟨rfl, eqx.rf, fun i hi => by omega⟩ (by omega) ?_ ?_
  · rintro j ⟨x, t⟩ hj ⟨rfl, h1, h2⟩
    dsimp only at h1 h2
    unfold f_X10_asIs_L28
    dsimp only
    rw [if_neg (show ¬ (6 : Int32) ≤ nI j from nI_ge (b := 6) (by omega) (by omega)), if_neg (nI_in (show j < 6 by omega) (by omega)), nI_clamp (show j < 2 ^ 31 by omega), nI_1]
    refine ⟨_, rfl, rfl, ((((((h1.pi rfl).pi rfl).pi rfl).pi rfl).pi rfl).pi rfl).pi rfl, fun i hi => ?_⟩
    by_cases e : i = j
    · subst e
      simp [p_i]
      rw [h1.1 _ _ rfl, h1.1 _ _ rfl, h1.1 _ _ rfl, h1.1 _ _ rfl, h1.1 _ _ rfl, h1.1 _ _ rfl, h1.1 _ _ rfl]
      exact ⟨rfl, rfl, rfl, rfl, rfl, rfl, rfl⟩
    · simp only [p_i, e, false_and, if_false]
      exact h2 i (by omega)
  · rintro ⟨x, t⟩ ⟨rfl, h1, h2⟩
    unfold f_X10_asIs_L28
    dsimp only
    rw [if_pos (show (6 : Int32) ≤ nI 6 by decide)]
    exact ⟨t, rfl, h1, h2⟩
theorem m_asIs {w : PM} {V : Vil} (hR : RP w kP V) (hW : WF V) : ∃ w', f_X10_asIs w = some w' ∧ eqx gAs w w' ∧ RA w' V ∧ RMw w' V ∧ w'.1 (40, 0, 0) 35 = 0 ∧ w'.1 (40, 0, 0) 36 = 0 := by
  have h6 := hW.1
  obtain ⟨⟨a1, a2, a3, a4⟩, a5, a6, a7⟩ := hR
  obtain ⟨t, q1, q2, q3⟩ := m_asIs_l w (pi (pi (pi (pi w (40, 0, 0) 32 (w.1 (40, 0, 0) 1)) (40, 0, 0) 33 (w.1 (40, 0, 0) 2)) (40, 0, 0) 35 (0 : Int32)) (40, 0, 0) 36 (0 : Int32))
  obtain ⟨w', r1, r2, r3, r4⟩ := m_begin t
  have e1 : eqx gAs w t := ((((eqx.rf.pi rfl).pi rfl).pi rfl).pi rfl).tr (q2.mono (fun q k h => by
    unfold gAs at h
    simp only [Bool.or_eq_false_iff] at h
    simp only [Bool.and_eq_false_iff] at h ⊢
    exact Or.inl h.1))
  have e2 : eqx gAs w w' := e1.tr (r2.mono (fun _ _ => gBe_As))
  have t32 : t.1 (40, 0, 0) 32 = w.1 (40, 0, 0) 1 := by rw [q2.1 _ _ rfl]; simp [p_i]
  have t33 : t.1 (40, 0, 0) 33 = w.1 (40, 0, 0) 2 := by rw [q2.1 _ _ rfl]; simp [p_i]
  have t35 : t.1 (40, 0, 0) 35 = 0 := by rw [q2.1 _ _ rfl]; simp [p_i]
  have t36 : t.1 (40, 0, 0) 36 = 0 := by rw [q2.1 _ _ rfl]; simp [p_i]
  have row : ∀ h, h < V.2.2.1 → t.1 (61, 0, 0) h = V.1 h 0 ∧ t.1 (63, 0, 0) h = V.1 h 2 ∧ t.1 (64, 0, 0) h = V.1 h 3 ∧ w.1 (44, 0, 0) h = V.1 h 4 ∧ rowM t (V.1 h) h := fun h hh => by
    obtain ⟨c1, c2, c3, c4, c5, c6, c7⟩ := a5 h hh
    obtain ⟨d1, d2, d3, d4, d5, d6, d7⟩ := q3 h (by omega)
    refine ⟨?_, ?_, ?_, c4, ?_, fun z => ⟨?_, ?_⟩, fun z => ?_⟩
    · rw [d1]; simp [p_i]; exact c1
    · rw [d2]; simp [p_i]; exact c2
    · rw [d3]; simp [p_i]; exact c3
    · rw [d4]; simp [p_i]; exact c5
    · rw [d5]; simp [p_i]; exact (c6 z).1
    · rw [d6]; simp [p_i]; exact (c6 z).2
    · rw [d7]; simp [p_i]; exact c7 z
  have ra : RMa w' V.1 V.2.2.1 := by
    refine RMa_kept (w := t) ⟨t32.trans a2, fun h hh => ⟨(row h hh).1, (row h hh).2.2.2.2⟩⟩ r2 rfl (fun s i h1 h2 h3 h4 h5 => by unfold gBe; simp only [Bool.or_eq_false_iff, beq_eq_false_iff_ne, Bool.and_eq_false_iff]; omega)
  have hl : LdM w' (w'.1 (40, 0, 0) 14) V.2.2.2.2.2 := LdM_the (e2.mono (fun _ _ => gAs_gL)) a7
  unfold f_X10_asIs
  rw [q1, Option.bind_some, r1]
  refine ⟨w', rfl, e2, ⟨(e2.1 _ _ rfl).trans a1, ?_, ra, fun h hh => ?_, fun a b ha hb => (e2.1 _ _ rfl).trans (a6 a b ha hb), hl⟩, ⟨(e2.1 _ _ rfl).trans a1, ?_, ?_, fun h hh => ?_, fun a b ha hb => (e2.1 _ _ rfl).trans (a6 a b ha hb), hl⟩, ?_, ?_⟩
  · rw [r2.1 _ _ rfl, t33]; exact a3
  · obtain ⟨c1, c2, c3, c4, c5⟩ := row h hh
    exact ⟨(r2.1 _ _ rfl).trans c2, (r2.1 _ _ rfl).trans c3, (e2.1 _ _ rfl).trans c4⟩
  · rw [r3, t32]; exact a2
  · rw [r2.1 _ _ rfl, t33]; exact a3
  · obtain ⟨c1, c2, c3, c4, c5⟩ := row h hh
    exact ⟨(r4 h (by omega)).trans c1, (r2.1 _ _ rfl).trans c2, (r2.1 _ _ rfl).trans c3, (e2.1 _ _ rfl).trans c4⟩
  · rw [r2.1 _ _ rfl, t35]
  · rw [r2.1 _ _ rfl, t36]
/-- behind go: the working state becomes the state -/
theorem m_back_l (t0 : PM) : ∃ t, am_loop f_X10_go_L76 2000 ((0 : Int32), t0) = some t ∧ eqx (fun q _ => q.1 == 41 || (45 ≤ q.1 && q.1 ≤ 48)) t0 t ∧ ∀ i, i < 6 → t.1 (41, 0, 0) i = t0.1 (61, 0, 0) i ∧ t.1 (45, 0, 0) i = t0.1 (65, 0, 0) i ∧ t.1 (46, 0, 0) i = t0.1 (66, 0, 0) i ∧ t.1 (47, 0, 0) i = t0.1 (67, 0, 0) i ∧ t.1 (48, 0, 0) i = t0.1 (68, 0, 0) i := by
  refine am_cnt (f := f_X10_go_L76) (s := ((0 : Int32), t0)) (fun j t => t.1 = nI j ∧ eqx (fun q _ => q.1 == 41 || (45 ≤ q.1 && q.1 ≤ 48)) t0 t.2 ∧ ∀ i, i < j → t.2.1 (41, 0, 0) i = t0.1 (61, 0, 0) i ∧ t.2.1 (45, 0, 0) i = t0.1 (65, 0, 0) i ∧ t.2.1 (46, 0, 0) i = t0.1 (66, 0, 0) i ∧ t.2.1 (47, 0, 0) i = t0.1 (67, 0, 0) i ∧ t.2.1 (48, 0, 0) i = t0.1 (68, 0, 0) i) (fun t => eqx (fun q _ => q.1 == 41 || (45 ≤ q.1 && q.1 ≤ 48)) t0 t ∧ ∀ i, i < 6 → t.1 (41, 0, 0) i = t0.1 (61, 0, 0) i ∧ t.1 (45, 0, 0) i = t0.1 (65, 0, 0) i ∧ t.1 (46, 0, 0) i = t0.1 (66, 0, 0) i ∧ t.1 (47, 0, 0) i = t0.1 (67, 0, 0) i ∧ t.1 (48, 0, 0) i = t0.1 (68, 0, 0) i) 6 ⟨rfl, eqx.rf, fun i hi => by omega⟩ (by omega) ?_ ?_
  · rintro j ⟨x, t⟩ hj ⟨rfl, h1, h2⟩
    dsimp only at h1 h2
    unfold f_X10_go_L76
    dsimp only
    rw [if_neg (show ¬ (6 : Int32) ≤ nI j from nI_ge (b := 6) (by omega) (by omega)), if_neg (nI_in (show j < 6 by omega) (by omega)), nI_clamp (show j < 2 ^ 31 by omega), nI_1]
    refine ⟨_, rfl, rfl, ((((h1.pi rfl).pi rfl).pi rfl).pi rfl).pi rfl, fun i hi => ?_⟩
    by_cases e : i = j
    · subst e
      simp [p_i]
      rw [h1.1 _ _ rfl, h1.1 _ _ rfl, h1.1 _ _ rfl, h1.1 _ _ rfl, h1.1 _ _ rfl]
      exact ⟨rfl, rfl, rfl, rfl, rfl⟩
    · simp only [p_i, e, false_and, if_false]
      exact h2 i (by omega)
  · rintro ⟨x, t⟩ ⟨rfl, h1, h2⟩
    unfold f_X10_go_L76
    dsimp only
    rw [if_pos (show (6 : Int32) ≤ nI 6 by decide)]
    exact ⟨t, rfl, h1, h2⟩
