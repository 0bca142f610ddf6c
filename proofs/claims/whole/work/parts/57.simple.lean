/-! the simple calls -/
theorem one_ne : ¬ (1 : Int32) = 0 := by decide
theorem m_in (a lo hi : Int32) (w : PM) : f_X10_in a lo hi w = some (if a < lo ∨ hi < a then 0 else 1) := by
  unfold f_X10_in
  by_cases h1 : a < lo
  · rw [if_pos h1, if_pos (Or.inl h1)]
  · rw [if_neg h1]
    by_cases h2 : hi < a
    · rw [if_pos h2, if_pos (Or.inr h2)]
    · rw [if_neg h2, if_neg (fun z => z.elim h1 h2)]
theorem m_inN {n : Nat} (hn : n < 2147483648) (a : Int32) (w : PM) : (∃ j, j ≤ n ∧ a = nI j ∧ f_X10_in a 0 (nI n) w = some 1) ∨ ((a < 0 ∨ nI n < a) ∧ f_X10_in a 0 (nI n) w = some 0) := by
  rw [m_in]
  by_cases h1 : a < 0 ∨ nI n < a
  · rw [if_pos h1]; exact Or.inr ⟨h1, rfl⟩
  · rw [if_neg h1]
    obtain ⟨j, hj, rfl⟩ := nI_of (fun z => h1 (Or.inl z))
    refine Or.inl ⟨j, ?_, rfl, rfl⟩
    have : ¬ n < j := fun z => h1 (Or.inr (nI_lt z hj))
    omega
theorem m_isH {w : PM} {H : Nat} (hH : w.1 (40, 0, 0) 0 = nI H) (h6 : H ≤ 6) (a : Int32) : (∃ h, h < H ∧ a = nI h ∧ f_X10_isHouse a w = some 1) ∨ ((¬ ∃ h, h < H ∧ a = nI h) ∧ f_X10_isHouse a w = some 0) := by
  unfold f_X10_isHouse
  rw [hH, m_in]
  by_cases h1 : ∃ h, h < H ∧ a = nI h
  · obtain ⟨h, hh, rfl⟩ := h1
    refine Or.inl ⟨h, hh, rfl, ?_⟩
    rw [L_1, i_sub (by omega), if_neg]
    · rfl
    · rintro (z | z)
      · exact nI_pos (by omega) z
      · rw [nI_ltI (by omega) (by omega)] at z; omega
  · refine Or.inr ⟨h1, ?_⟩
    rw [if_pos]
    · rfl
    · by_cases h0 : a < 0
      · exact Or.inl h0
      · right
        obtain ⟨j, hj, rfl⟩ := nI_of h0
        have : ¬ j < H := fun z => h1 ⟨j, z, rfl⟩
        by_cases hz : H = 0
        · subst hz
          rw [show nI 0 - 1 = (-1 : Int32) from rfl]
          exact Int32.lt_of_lt_of_le (show (-1 : Int32) < 0 by decide) (nI_pos' hj)
        · rw [L_1, i_sub (by omega), nI_ltI (by omega) hj]
          omega
theorem m_isW (a : Int32) (w : PM) : (∃ k, k < 3 ∧ a = nI k ∧ f_X10_isWeather a w = some 1 ∧ ∀ u, f_X9_isWeather a u = some 1) ∨ ((¬ ∃ k, k < 3 ∧ a = nI k) ∧ f_X10_isWeather a w = some 0 ∧ ∀ u, f_X9_isWeather a u = some 0) := by
  unfold f_X10_isWeather f_X9_isWeather
  rw [m_in]
  rcases pk_ix a (n := 3) (by omega) with h | h | ⟨k, hk, rfl⟩
  · right
    refine ⟨fun ⟨k, hk, e⟩ => ?_, ?_, fun u => ?_⟩
    · subst e; exact nI_pos (by omega) h
    · rw [if_pos (Or.inl h)]; rfl
    · rw [if_pos h]
  · right
    have h0 : ¬ a < 0 := fun z => absurd (Int32.lt_of_le_of_lt h z) (by decide)
    refine ⟨fun ⟨k, hk, e⟩ => ?_, ?_, fun u => ?_⟩
    · subst e; rw [nI_leI (by omega) (by omega)] at h; omega
    · rw [if_pos (Or.inr (Int32.lt_of_lt_of_le (show (2 : Int32) < nI 3 by decide) h))]; rfl
    · rw [if_neg h0, if_pos (show (3 : Int32) ≤ a from h)]
  · left
    refine ⟨k, hk, rfl, ?_, fun u => ?_⟩
    · rw [if_neg]
      · rfl
      · rintro (z | z)
        · exact nI_pos (by omega) z
        · rw [L_2, nI_ltI (by omega) (by omega)] at z; omega
    · rw [if_neg (nI_pos (by omega)), if_neg (show ¬ (3 : Int32) ≤ nI k from nI_ge (b := 3) hk (by omega))]
/-- the persistent village of both sides -/
theorem Rel_V {u w : PM} (h : Rel u w) : ∃ n V N, n ≤ 5 ∧ RepC u 0 V ∧ RepN u 0 N ∧ okV V n ∧ RP w kP V ∧ RN w 46 70 71 N := by
  obtain ⟨n, a1, ⟨V, N, b1, b2, b3, b4, b5⟩, _⟩ := h
  exact ⟨n, V, N, a1.1, b1, b2, b3, b4, b5⟩
theorem RP_H {w : PM} {V : Vil} (h : RP w kP V) : w.1 (40, 0, 0) 0 = nI V.2.2.1 := h.1.1
theorem b2i_eq0 (b : Bool) : (b2i b = 0) = (b = false) := b2i_0 b
theorem O_1 {u w : PM} (h : Rel u w) (a0 a1 : Int32) : ∃ r, f_X9_of a0 a1 u = some r ∧ f_X10_of a0 a1 w = some r := by
  obtain ⟨n, V, N, hn, hC, hN, hk, hP, hQ⟩ := Rel_V h
  have h6 := hk.1.1
  obtain ⟨a1', a2, a3, a4, a5, a6⟩ := id hC
  unfold f_X9_of f_X10_of
  rcases m_isH (RP_H hP) h6 a0 with ⟨i, hi, rfl, e⟩ | ⟨hi, e⟩
  · obtain ⟨c1, c2, c3, c4, c5, c6, c7⟩ := hP.2.1 i hi
    have c1 : w.1 (41, 0, 0) i = V.1 i 0 := c1
    have c2 : w.1 (42, 0, 0) i = V.1 i 2 := c2
    have c3 : w.1 (43, 0, 0) i = V.1 i 3 := c3
    have c5 : w.1 (45, 0, 0) i = V.1 i 5 := c5
    have cf : ∀ f, f < 9 → u.1 (3, 0, i) f = V.1 i f := fun f hf => by rw [a1']; exact cF_at (by omega) hf
    have hin : ¬ (nI i < 0 ∨ 6 ≤ (nI i).toNatClampNeg) := nI_in (show i < 6 by omega) (by omega)
    have hb : f_X10_has (w.1 (40, 0, 0) 1) (nI i) w = some (if V.1 i 1 = 0 then 0 else 1) := by
      rw [show w.1 (40, 0, 0) 1 = nI (lit V.1 V.2.2.1) from hP.1.2.1, m_has (lit_64 _ h6) (by omega), lit_tb, decide_eq_true hi, Bool.true_and]
      by_cases hz : V.1 i 1 = 0
      · rw [if_pos hz, if_neg (by simp [hz])]
      · rw [if_neg hz, if_pos (by simp [hz])]
    rw [c_find a3 h6 hi, Option.bind_some, e, Option.bind_some]
    dsimp only
    rw [if_pos (show i < 6 by omega), if_neg one_ne, if_neg hin, if_neg hin, if_neg hin, if_neg hin, if_neg hin, if_neg hin, if_neg hin, nI_clamp (show i < 2 ^ 31 by omega), hb, Option.bind_some, c1, c2, c3, c5, cf 0 (by omega), cf 1 (by omega), cf 2 (by omega), cf 3 (by omega), cf 5 (by omega), cf 6 (by omega), cf 7 (by omega), cf 8 (by omega)]
    have lst : ∀ x : Int32, (if x = 0 then some (0 : Int32) else some 1) = some (if x = 0 then 0 else 1) := fun x => by split <;> rfl
    by_cases e0 : a1 = 0
    · rw [if_pos e0, if_pos e0]; exact ⟨_, rfl, rfl⟩
    rw [if_neg e0, if_neg e0]
    by_cases e0 : a1 = 1
    · rw [if_pos e0, if_pos e0]
      by_cases z : V.1 i 1 = 0
      · rw [if_pos z, if_pos z]; exact ⟨_, rfl, rfl⟩
      · rw [if_neg z, if_neg z]; exact ⟨_, rfl, rfl⟩
    rw [if_neg e0, if_neg e0]
    by_cases e0 : a1 = 2
    · rw [if_pos e0, if_pos e0]; exact ⟨_, rfl, rfl⟩
    rw [if_neg e0, if_neg e0]
    by_cases e0 : a1 = 3
    · rw [if_pos e0, if_pos e0]; exact ⟨_, rfl, rfl⟩
    rw [if_neg e0, if_neg e0]
    by_cases e0 : a1 = 4
    · rw [if_pos e0, if_pos e0]; exact ⟨_, rfl, rfl⟩
    rw [if_neg e0, if_neg e0]
    by_cases e0 : a1 = 5
    · rw [if_pos e0, if_pos e0]
      by_cases z : V.1 i 5 = 0
      · rw [if_pos z, if_pos z]; exact ⟨_, rfl, rfl⟩
      · rw [if_neg z, if_neg z]; exact ⟨_, rfl, congrArg some (c6 z).1⟩
    rw [if_neg e0, if_neg e0]
    by_cases e0 : a1 = 6
    · rw [if_pos e0, if_pos e0]
      by_cases z : V.1 i 5 = 0
      · rw [if_pos z, if_pos z]; exact ⟨_, rfl, rfl⟩
      · rw [if_neg z, if_neg z]; exact ⟨_, rfl, congrArg some (c6 z).2⟩
    rw [if_neg e0, if_neg e0]
    by_cases e0 : a1 = 7
    · rw [if_pos e0, if_pos e0]
      by_cases z : V.1 i 5 = 2
      · rw [if_pos z, if_pos z]; exact ⟨_, rfl, congrArg some (c7 z)⟩
      · rw [if_neg z, if_neg z]; exact ⟨_, rfl, rfl⟩
    rw [if_neg e0, if_neg e0]
    exact ⟨_, rfl, rfl⟩
  · rw [c_find0 a3 h6 hi, Option.bind_some, e, Option.bind_some]
    exact ⟨_, rfl, rfl⟩
theorem O_27 {u w : PM} (h : Rel u w) (a0 : Int32) : ∃ r, f_X9_trace a0 u = some r ∧ f_X10_trace a0 w = some r := by
  obtain ⟨n, _, _, _, _, _, r, h100, e1, e2, e3⟩ := h
  unfold f_X9_trace f_X10_trace
  rw [e1, e2, m_in]
  rcases pk_ix a0 (n := 20) (by omega) with hh | hh | ⟨k, hk, rfl⟩
  · rw [if_pos hh, if_pos (Or.inl hh)]
    exact ⟨_, rfl, rfl⟩
  · have h0 : ¬ a0 < 0 := fun z => absurd (Int32.lt_of_le_of_lt hh z) (by decide)
    rw [if_neg h0, if_pos (Or.inr (Int32.lt_of_lt_of_le (show (19 : Int32) < nI 20 by decide) hh))]
    refine ⟨-1, ?_, rfl⟩
    split
    · rfl
    · rw [if_neg (show ¬ a0 < 20 from Int32.not_lt.mpr hh)]
  · rw [if_neg (nI_pos (by omega)), if_pos (show nI k < 20 from nI_lt (b := 20) hk (by omega)), if_neg (nI_in (show k < 20 by omega) (by omega)), if_neg (nI_in (show k < 20 by omega) (by omega)), nI_clamp (show k < 2 ^ 31 by omega), e3 k hk, if_neg (show ¬ (nI k < 0 ∨ 19 < nI k) by
      rintro (z | z)
      · exact nI_pos (by omega) z
      · rw [show (19 : Int32) = nI 19 from rfl, nI_ltI (by omega) (by omega)] at z; omega), Option.bind_some, if_neg one_ne]
    by_cases z : nI r ≤ nI k
    · rw [if_pos z]; exact ⟨_, rfl, rfl⟩
    · rw [if_neg z]; exact ⟨_, rfl, rfl⟩
theorem O_29 {u w : PM} (h : Rel u w) (a0 : Int32) : ∃ r, f_X9_count a0 u = some r ∧ f_X10_count a0 w = some r := by
  obtain ⟨n, b1, ⟨V, N, hC, hN, hk, hP, hQ⟩, _, ⟨L, l1, l2, l3, _⟩, _, r, h100, e1, e2, e3⟩ := h
  have h6 := hk.1.1
  obtain ⟨a1', a2, a3, a4, a5, a6⟩ := id hC
  have p0 : w.1 (40, 0, 0) 0 = nI V.2.2.1 := hP.1.1
  have p1 : w.1 (40, 0, 0) 1 = nI (lit V.1 V.2.2.1) := hP.1.2.1
  have p2 : w.1 (40, 0, 0) 2 = V.2.2.2.2.1 := hP.1.2.2.1
  have p3 : w.1 (40, 0, 0) 3 = V.2.2.2.1 := hP.1.2.2.2
  have p4 : w.1 (40, 0, 0) 46 = nI N.1 := hQ.1
  unfold f_X9_count f_X10_count
  rw [c_litCount a3 h6, p1, m_ones (lit_64 _ h6), Option.bind_some, Option.bind_some, a3, a4, a5, b1.2.1, b1.2.2.1, hN.1, l2, l3, e1, e2, p0, p2, p3, p4, ← a1']
  by_cases e0 : a0 = 0
  · rw [if_pos e0]; exact ⟨_, rfl, rfl⟩
  rw [if_neg e0]
  by_cases e0 : a0 = 1
  · rw [if_pos e0]; exact ⟨_, rfl, rfl⟩
  rw [if_neg e0]
  by_cases e0 : a0 = 2
  · rw [if_pos e0]; exact ⟨_, rfl, rfl⟩
  rw [if_neg e0]
  by_cases e0 : a0 = 3
  · rw [if_pos e0]; exact ⟨_, rfl, rfl⟩
  rw [if_neg e0]
  by_cases e0 : a0 = 4
  · rw [if_pos e0]; exact ⟨_, rfl, rfl⟩
  rw [if_neg e0]
  by_cases e0 : a0 = 5
  · rw [if_pos e0]; exact ⟨_, rfl, rfl⟩
  rw [if_neg e0]
  by_cases e0 : a0 = 6
  · rw [if_pos e0]; exact ⟨_, rfl, rfl⟩
  rw [if_neg e0]
  by_cases e0 : a0 = 7
  · rw [if_pos e0]; exact ⟨_, rfl, rfl⟩
  rw [if_neg e0]
  exact ⟨_, rfl, rfl⟩
theorem O_28 {u w : PM} (h : Rel u w) (a0 a1 : Int32) : ∃ r, f_X9_taken a0 a1 u = some r ∧ f_X10_taken a0 a1 w = some r := by
  obtain ⟨n, V, N, hn, hC, hN, hk, hP, hQ⟩ := Rel_V h
  have h6 := hk.1.1
  obtain ⟨a1', a2, a3, a4, a5, a6⟩ := id hC
  unfold f_X9_taken f_X10_taken f_X9_isKind
  rw [m_in]
  rcases pk_ix a1 (n := 7) (by omega) with hh | hh | ⟨k, hk7, rfl⟩
  · rw [if_pos hh, if_pos (Or.inl hh)]
    exact ⟨_, rfl, rfl⟩
  · have h0 : ¬ a1 < 0 := fun z => absurd (Int32.lt_of_le_of_lt hh z) (by decide)
    rw [if_neg h0, if_pos (show (7 : Int32) ≤ a1 from hh), if_pos (Or.inr (Int32.lt_of_lt_of_le (show (6 : Int32) < nI 7 by decide) hh))]
    exact ⟨_, rfl, rfl⟩
  · rw [if_neg (nI_pos (by omega)), if_neg (show ¬ (7 : Int32) ≤ nI k from nI_ge (b := 7) hk7 (by omega)), if_neg (show ¬ (nI k < 0 ∨ 6 < nI k) by
      rintro (z | z)
      · exact nI_pos (by omega) z
      · rw [L_6, nI_ltI (by omega) (by omega)] at z; omega), Option.bind_some, Option.bind_some, if_neg one_ne, if_neg one_ne]
    rcases m_isH (RP_H hP) h6 a0 with ⟨i, hi, rfl, e⟩ | ⟨hi, e⟩
    · obtain ⟨c1, c2, c3, c4, c5, c6, c7⟩ := hP.2.1 i hi
      have c2 : w.1 (42, 0, 0) i = V.1 i 2 := c2
      have cf : u.1 (3, 0, i) 2 = V.1 i 2 := by rw [a1']; exact cF_at (by omega) (by omega)
      obtain ⟨kd, hkd, ekd⟩ := hk.1.2.2.1 i hi
      rw [c_find a3 h6 hi, Option.bind_some, e, Option.bind_some]
      dsimp only
      rw [if_pos (show i < 6 by omega), if_neg one_ne, if_neg (nI_in (show i < 6 by omega) (by omega)), nI_clamp (show i < 2 ^ 31 by omega), c2, cf, ekd]
      have k7 : k = 0 ∨ k = 1 ∨ k = 2 ∨ k = 3 ∨ k = 4 ∨ k = 5 ∨ k = 6 := by omega
      have d7 : kd = 0 ∨ kd = 1 ∨ kd = 2 ∨ kd = 3 ∨ kd = 4 ∨ kd = 5 ∨ kd = 6 := by omega
      rcases d7 with rfl | rfl | rfl | rfl | rfl | rfl | rfl <;> rcases k7 with rfl | rfl | rfl | rfl | rfl | rfl | rfl <;> exact ⟨_, rfl, rfl⟩
    · rw [c_find0 a3 h6 hi, Option.bind_some, e, Option.bind_some]
      exact ⟨_, rfl, rfl⟩
