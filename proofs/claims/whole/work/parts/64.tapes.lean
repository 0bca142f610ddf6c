/-! tapes -/
theorem Rel_4 {u u' w w' : PM} (h : Rel u w) (hu : chC [0, 4] u u') (hw : chM [0, 4] w w') (ht : TpR u' w') : Rel u' w' := by
  obtain ⟨n, a1, a2, a3, a4, a5, a6⟩ := h
  exact ⟨n, BsR_k hu hw rfl a1, VlR0_k hu hw rfl rfl a2, ImR_k hu hw rfl rfl rfl a3, RdR_k hu hw rfl a4, ht, AcR_k hu hw rfl a6⟩
theorem toCA {A : List Nat} {g : Key → Nat → Bool} {u u' : PM} (h : eqx g u u') (hg : ∀ q k, g q k = true → A.contains (cC q k) = true) : chC A u u' := h.mono (fun q k z => by
  cases e : g q k with
  | false => rfl
  | true => exact absurd ((hg q k e).symm.trans z) (by decide))
theorem toMA {A : List Nat} {g : Key → Nat → Bool} {w w' : PM} (h : eqx g w w') (hg : ∀ q k, g q k = true → A.contains (cM q k) = true) : chM A w w' := h.mono (fun q k z => by
  cases e : g q k with
  | false => rfl
  | true => exact absurd ((hg q k e).symm.trans z) (by decide))
def gTC (t : Nat) (q : Key) (_ : Nat) : Bool := (q.1 == 32 || q.1 == 33) && q.2.1 == t
def gTM (t : Nat) (q : Key) (k : Nat) : Bool := ((q.1 == 90 || q.1 == 91) && k == t) || (q.1 == 92 && (decide (60 * t ≤ k) && decide (k < 60 * t + 60))) || q.1 == 93
theorem k_gTC {t : Nat} {u u' : PM} (h : eqx (gTC t) u u') : chC [0, 4] u u' := toCA h (fun q k z => by
  unfold gTC at z
  simp only [Bool.or_eq_true, Bool.and_eq_true, beq_iff_eq] at z
  have : cC q k = 4 := by
    unfold cC
    rw [if_neg (by omega), if_neg (by omega), if_neg (by omega), if_neg (by omega), if_neg (by omega), if_neg (by omega), if_neg (by omega), if_pos (by omega)]
  rw [this]
  rfl)
theorem k_gTM {t : Nat} {w w' : PM} (h : eqx (gTM t) w w') : chM [0, 4] w w' := toMA h (fun q k z => by
  unfold gTM at z
  simp only [Bool.or_eq_true, Bool.and_eq_true, beq_iff_eq, decide_eq_true_eq] at z
  by_cases e : q.1 = 93
  · rw [cM_0 (by omega)]
    rfl
  · have : cM q k = 4 := by
      unfold cM
      rw [if_neg (by omega), if_neg (by omega), if_neg (by omega), if_neg (by omega), if_neg (by omega), if_neg (by omega), if_neg (by omega), if_neg (by omega), if_pos (by omega)]
    rw [this]
    rfl)
theorem Rel_tape {u u' w w' : PM} {t : Nat} (h : Rel u w) (hu : eqx (gTC t) u u') (hw : eqx (gTM t) w w') (h1 : TpR1 u' w' t) : Rel u' w' := by
  refine Rel_4 h (k_gTC hu) (k_gTM hw) (fun t' ht' => ?_)
  by_cases e : t' = t
  · subst e; exact h1
  · obtain ⟨s, z, a1, a2, a3, a4, a5, a6, a7⟩ := Rel_T h t' ht'
    have c0 : ∀ x k, gTC t (x, t', 0) k = false := fun x k => by unfold gTC; simp [e]
    have m0 : ∀ x, x = 90 ∨ x = 91 → gTM t (x, 0, 0) t' = false := fun x hx => by
      unfold gTM
      simp only [Bool.or_eq_false_iff, Bool.and_eq_false_iff, beq_eq_false_iff_ne, decide_eq_false_iff_not]
      omega
    refine ⟨s, z, a1, a2, (hu.1 _ _ (c0 _ _)).trans a3, (hw.1 _ _ (m0 90 (by omega))).trans a4, (hu.1 _ _ (c0 _ _)).trans a5, (hw.1 _ _ (m0 91 (by omega))).trans a6, fun i hi => ?_⟩
    rw [hu.2.1 (33, t', 0) i (c0 _ _), hw.2.1 (92, 0, 0) (60 * t' + i) (by
      unfold gTM
      simp only [Bool.or_eq_false_iff, Bool.and_eq_false_iff, beq_eq_false_iff_ne, decide_eq_false_iff_not]
      omega)]
    exact a7 i hi
theorem c_start (u : PM) (t : Nat) (a b : Int32) : ∃ u', f_X7_start t a b u = some u' ∧ eqx (gTC t) u u' ∧ u'.1 (32, t, 0) 0 = a ∧ u'.1 (32, t, 0) 1 = b ∧ ∀ i, i < 60 → u'.2.1 (33, t, 0) i = 0 := by
  have key := am_cnt (f := f_X7_start_L12 t) (s := ((0 : Int32), pi (pi u (32, t, 0) 0 a) (32, t, 0) 1 b)) (fun j x => x.1 = nI j ∧ eqx (fun q _ => q.1 == 33 && q.2.1 == t) (pi (pi u (32, t, 0) 0 a) (32, t, 0) 1 b) x.2 ∧ ∀ i, i < j → x.2.2.1 (33, t, 0) i = 0) (fun e => eqx (fun q _ => q.1 == 33 && q.2.1 == t) (pi (pi u (32, t, 0) 0 a) (32, t, 0) 1 b) e ∧ ∀ i, i < 60 → e.2.1 (33, t, 0) i = 0) 60 ⟨rfl, eqx.rf, fun i hi => by omega⟩ (by omega) ?_ ?_
  · obtain ⟨e, k1, k2, k3⟩ := key
    unfold f_X7_start
    rw [k1, Option.bind_some]
    refine ⟨e, rfl, ((eqx.rf.pi (by simp [gTC])).pi (by simp [gTC])).tr (k2.mono (fun q k z => ?_)), ?_, ?_, k3⟩
    · unfold gTC at z
      simp only [Bool.or_eq_false_iff, Bool.and_eq_false_iff, beq_eq_false_iff_ne] at z ⊢
      omega
    · rw [k2.1 _ _ rfl]; simp [p_i]
    · rw [k2.1 _ _ rfl]; simp [p_i]
  · rintro j ⟨x, y⟩ hj ⟨rfl, h1, h2⟩
    dsimp only at h1 h2
    unfold f_X7_start_L12
    dsimp only
    rw [if_neg (show ¬ (60 : Int32) ≤ nI j from nI_ge (b := 60) hj (by omega)), if_neg (nI_in hj (by omega)), nI_clamp (show j < 2 ^ 31 by omega), nI_1]
    refine ⟨_, rfl, rfl, h1.pl (by simp), fun i hi => ?_⟩
    dsimp only
    rw [p_l]
    by_cases e : i = j
    · rw [if_pos ⟨e, rfl⟩]
    · rw [if_neg (fun z => e z.1)]
      exact h2 i (by omega)
  · rintro ⟨x, y⟩ ⟨rfl, h1, h2⟩
    unfold f_X7_start_L12
    dsimp only
    rw [if_pos (show (60 : Int32) ≤ nI 60 by decide)]
    exact ⟨y, rfl, h1, h2⟩
theorem m_start (w : PM) {t : Nat} (ht : t < 6) : ∃ w', am_loop (f_X10_tape_L69 (nI t)) 2000 ((0 : Int32), w) = some w' ∧ eqx (fun q k => q.1 == 92 && (decide (60 * t ≤ k) && decide (k < 60 * t + 60))) w w' ∧ ∀ i, i < 60 → w'.2.1 (92, 0, 0) (60 * t + i) = 0 := by
  refine am_cnt (f := f_X10_tape_L69 (nI t)) (s := ((0 : Int32), w)) (fun j x => x.1 = nI j ∧ eqx (fun q k => q.1 == 92 && (decide (60 * t ≤ k) && decide (k < 60 * t + 60))) w x.2 ∧ ∀ i, i < j → x.2.2.1 (92, 0, 0) (60 * t + i) = 0) (fun e => eqx (fun q k => q.1 == 92 && (decide (60 * t ≤ k) && decide (k < 60 * t + 60))) w e ∧ ∀ i, i < 60 → e.2.1 (92, 0, 0) (60 * t + i) = 0) 60 ⟨rfl, eqx.rf, fun i hi => by omega⟩ (by omega) ?_ ?_
  · rintro j ⟨x, y⟩ hj ⟨rfl, h1, h2⟩
    dsimp only at h1 h2
    unfold f_X10_tape_L69
    dsimp only
    rw [if_neg (show ¬ (60 : Int32) ≤ nI j from nI_ge (b := 60) hj (by omega)), L_60, pk_mul, nI_add, if_neg (nI_in (show 60 * t + j < 360 by omega) (by omega)), nI_clamp (show 60 * t + j < 2 ^ 31 by omega), nI_1]
    refine ⟨_, rfl, rfl, h1.pl (by simp; omega), fun i hi => ?_⟩
    dsimp only
    rw [p_l]
    by_cases e : i = j
    · rw [if_pos ⟨by rw [e], rfl⟩]
    · rw [if_neg (fun z => e (by have := z.1; omega))]
      exact h2 i (by omega)
  · rintro ⟨x, y⟩ ⟨rfl, h1, h2⟩
    unfold f_X10_tape_L69
    dsimp only
    rw [if_pos (show (60 : Int32) ≤ nI 60 by decide)]
    exact ⟨y, rfl, h1, h2⟩
theorem lt_m1 {a : Int32} (h : a < 0) (e : a ≠ -1) : a < -1 := by
  rw [Int32.lt_iff_toInt_lt, show (0 : Int32).toInt = 0 by decide] at h
  rw [Int32.lt_iff_toInt_lt, show (-1 : Int32).toInt = -1 by decide]
  have : a.toInt ≠ -1 := fun z => e (Int32.toInt_inj.mp (z.trans (by decide)))
  omega
theorem O_30 {u w : PM} (h : Rel u w) (a0 a1 a2 : Int32) : ∃ r u' w', f_X9_tape a0 a1 a2 u = some (r, u') ∧ f_X10_tape a0 a1 a2 w = some (r, w') ∧ Rel u' w' := by
  unfold f_X9_tape f_X10_tape
  rcases tape_ix a0 u w with ⟨t, ht, rfl, e1, e2⟩ | ⟨e1, e2⟩
  · rw [e1, e2, Option.bind_some, Option.bind_some, if_neg one_ne, m_in]
    dsimp only
    rw [if_pos ht, if_neg (nI_in ht (by omega)), nI_clamp (show t < 2 ^ 31 by omega)]
    have fin : ∀ (s b : Int32) (z : Nat), (s = -1 ∨ ∃ k, k < 5 ∧ s = nI k) → z ≤ 60 → b = nI z → ∃ r u' w', ((f_X7_start t s b u).bind fun r7 => some ((1 : Int32), r7)) = some (r, u') ∧ ((am_loop (f_X10_tape_L69 (nI t)) 2000 ((0 : Int32), (pi (pi w (90, 0, 0) t s) (91, 0, 0) t b))).bind fun u9 => some ((1 : Int32), u9)) = some (r, w') ∧ Rel u' w' := by
      rintro s b z hs hz rfl
      obtain ⟨u', q1, q2, q3, q4, q5⟩ := c_start u t s (nI z)
      obtain ⟨w', r1, r2, r3⟩ := m_start (pi (pi w (90, 0, 0) t s) (91, 0, 0) t (nI z)) ht
      rw [q1, r1, Option.bind_some, Option.bind_some]
      refine ⟨_, _, _, rfl, rfl, Rel_tape h q2 (((eqx.rf.pi (by simp [gTM])).pi (by simp [gTM])).tr (r2.mono (fun q k y => ?_))) ⟨s, z, hs, hz, q3, ?_, q4, ?_, fun i hi => ?_⟩⟩
      · unfold gTM at y
        simp only [Bool.or_eq_false_iff] at y
        exact y.1.2
      · rw [r2.1 _ _ rfl]; simp [p_i]
      · rw [r2.1 _ _ rfl]; simp [p_i]
      · rw [q5 i hi, r3 i hi]
        exact ⟨rfl, fun _ => Or.inl rfl⟩
    by_cases em : a1 = -1
    · subst em
      rw [if_pos rfl, if_neg (show ¬ ((-1 : Int32) < -1 ∨ 4 < (-1 : Int32)) by decide), Option.bind_some, if_neg one_ne, if_pos (show (-1 : Int32) < 0 by decide), if_pos (show (-1 : Int32) < 0 by decide), if_neg (show ¬ (0 : Int32) ≤ -1 by decide)]
      exact fin (-1) 0 0 (Or.inl rfl) (by omega) rfl
    · rw [if_neg em]
      by_cases n0 : a1 < 0
      · rw [if_pos n0, if_pos (Or.inl (lt_m1 n0 em)), Option.bind_some, if_pos rfl]
        exact ⟨_, _, _, rfl, rfl, h⟩
      · rw [if_neg n0]
        by_cases n4 : 4 < a1
        · rw [if_pos n4, if_pos (Or.inr n4), Option.bind_some, if_pos rfl]
          exact ⟨_, _, _, rfl, rfl, h⟩
        · obtain ⟨s, hs, rfl⟩ := nI_of2 (n := 4) (by decide) n0 (Int32.not_lt.mp n4)
          have nm : ¬ (nI s < -1 ∨ 4 < nI s) := fun z => z.elim (fun y => n0 (Int32.lt_trans y (by decide))) n4
          rw [if_neg n4, if_neg nm, Option.bind_some, if_neg one_ne, if_neg n0]
          by_cases b6 : a2 ≤ 60
          · rw [if_pos b6, if_pos b6]
            by_cases b0 : 0 ≤ a2
            · rw [if_pos b0, if_pos b0, if_pos (Int32.not_lt.mp n0), if_neg n0]
              obtain ⟨z, hz, rfl⟩ := nI_of2 (n := 60) (by decide) (Int32.not_lt.mpr b0) b6
              exact fin (nI s) (nI z) z (Or.inr ⟨s, by omega, rfl⟩) hz rfl
            · rw [if_neg b0, if_neg b0, if_neg n0]
              exact ⟨_, _, _, rfl, rfl, h⟩
          · rw [if_neg b6, if_neg b6]
            exact ⟨_, _, _, rfl, rfl, h⟩
  · rw [e1, e2, Option.bind_some, Option.bind_some]
    exact ⟨_, _, _, rfl, rfl, h⟩
theorem m_inS {z : Nat} (hz : z ≤ 100) (a : Int32) (w : PM) : (∃ j, j < z ∧ a = nI j ∧ f_X10_in a 0 (nI z - 1) w = some 1) ∨ ((a < 0 ∨ ¬ a < nI z) ∧ f_X10_in a 0 (nI z - 1) w = some 0) := by
  rw [m_in]
  by_cases h0 : a < 0
  · exact Or.inr ⟨Or.inl h0, by rw [if_pos (Or.inl h0)]⟩
  · obtain ⟨j, hj, rfl⟩ := nI_of h0
    by_cases hjz : j < z
    · refine Or.inl ⟨j, hjz, rfl, ?_⟩
      rw [if_neg]
      rintro (y | y)
      · exact h0 y
      · rw [show nI z - 1 = nI (z - 1) from i_sub (b := 1) (by omega), nI_ltI (by omega) hj] at y; omega
    · refine Or.inr ⟨Or.inr (nI_nlt (by omega) hj), ?_⟩
      rw [if_pos]
      right
      by_cases z0 : z = 0
      · subst z0
        exact Int32.lt_of_lt_of_le (show nI 0 - 1 < 0 by decide) (nI_pos' hj)
      · rw [show nI z - 1 = nI (z - 1) from i_sub (b := 1) (by omega)]
        exact nI_lt (by omega) hj
theorem cut_eq {u w : PM} {t s : Nat} (hs : s < 5) (e : u.1 (32, t, 0) 0 = nI s) (v : Int64) : ∃ x, f_X7_cut t v u = some x ∧ f_X10_narrow (nI s) v w = some x ∧ (s = 4 → x = 0 ∨ x = 1) := by
  unfold f_X7_cut f_X10_narrow
  rw [e]
  have : s = 0 ∨ s = 1 ∨ s = 2 ∨ s = 3 ∨ s = 4 := by omega
  rcases this with rfl | rfl | rfl | rfl | rfl
  · exact ⟨_, rfl, rfl, fun z => by omega⟩
  · exact ⟨_, rfl, rfl, fun z => by omega⟩
  · exact ⟨_, rfl, rfl, fun z => by omega⟩
  · exact ⟨_, rfl, rfl, fun z => by omega⟩
  · rw [if_neg (show ¬ nI 4 = 0 by decide), if_neg (show ¬ nI 4 = 0 by decide), if_neg (show ¬ nI 4 = 1 by decide), if_neg (show ¬ nI 4 = 1 by decide), if_neg (show ¬ nI 4 = 2 by decide), if_neg (show ¬ nI 4 = 2 by decide), if_neg (show ¬ nI 4 = 3 by decide), if_pos (show nI 4 = 4 by decide)]
    by_cases z : lg_cmp v 0 = 0
    · rw [if_pos z]; exact ⟨_, rfl, rfl, fun _ => Or.inl rfl⟩
    · rw [if_neg z]; exact ⟨_, rfl, rfl, fun _ => Or.inr rfl⟩
theorem O_31 {u w : PM} (h : Rel u w) (a0 a1 : Int32) (a2 : Int64) : ∃ r u' w', f_X9_item a0 a1 a2 u = some (r, u') ∧ f_X10_item a0 a1 a2 w = some (r, w') ∧ Rel u' w' := by
  unfold f_X9_item f_X10_item f_X7_isRow
  rcases tape_ix a0 u w with ⟨t, ht, rfl, e1, e2⟩ | ⟨e1, e2⟩
  · obtain ⟨s, z, c1, c2, c3, c4, c5, c6, c7⟩ := Rel_T h t ht
    rw [e1, e2, Option.bind_some, Option.bind_some, if_neg one_ne, if_neg (nI_in ht (by omega)), nI_clamp (show t < 2 ^ 31 by omega)]
    dsimp only
    rw [if_pos ht, c3, c4, c5, c6]
    rcases c1 with rfl | ⟨k, hk, rfl⟩
    · rw [if_pos (show (-1 : Int32) < 0 by decide), Option.bind_some, if_pos rfl, if_neg (show ¬ (0 : Int32) ≤ -1 by decide)]
      exact ⟨_, _, _, rfl, rfl, h⟩
    · rw [if_neg (nI_pos (by omega)), Option.bind_some, if_neg one_ne, if_pos (nI_pos' (by omega))]
      rcases m_inS (z := z) (by omega) a1 w with ⟨j, hj, rfl, e3⟩ | ⟨hj, e3⟩
      · rw [e3, Option.bind_some, if_neg one_ne, if_neg (nI_pos (by omega)), if_pos (nI_lt hj (by omega))]
        obtain ⟨x, q1, q2, q3⟩ := cut_eq (u := u) (w := w) (t := t) hk c3 a2
        have p1 : f_X7_put t (nI j) a2 u = some (pl u (33, t, 0) j x) := by
          unfold f_X7_put
          rw [c5, if_neg (nI_pos (by omega)), if_neg (nI_ge hj (by omega)), if_neg (show ¬ (60 : Int32) ≤ nI j from nI_ge (b := 60) (by omega) (by omega)), q1, Option.bind_some, if_neg (nI_in (show j < 60 by omega) (by omega)), nI_clamp (show j < 2 ^ 31 by omega)]
        rw [p1, q2, Option.bind_some, Option.bind_some, L_60, pk_mul, nI_add, if_neg (nI_in (show 60 * t + j < 360 by omega) (by omega)), nI_clamp (show 60 * t + j < 2 ^ 31 by omega)]
        refine ⟨_, _, _, rfl, rfl, Rel_tape (t := t) h (eqx.rf.pl (by simp [gTC])) (eqx.rf.pl (by simp [gTM]; omega)) ⟨nI k, z, Or.inr ⟨k, hk, rfl⟩, c2, c3, c4, c5, c6, fun i hi => ?_⟩⟩
        rw [p_l, p_l]
        by_cases ei : i = j
        · rw [if_pos ⟨ei, rfl⟩, if_pos ⟨by rw [ei], rfl⟩]
          exact ⟨rfl, fun y => q3 ((nI_eq (b := 4) (by omega) (by omega)).mp y)⟩
        · rw [if_neg (fun y => ei y.1), if_neg (fun y => ei (by have := y.1; omega))]
          exact c7 i hi
      · rw [e3, Option.bind_some, if_pos rfl]
        refine ⟨-13, u, w, ?_, rfl, h⟩
        rcases hj with y | y
        · rw [if_pos y]
        · rw [if_neg y]
          split <;> rfl
  · rw [e1, e2, Option.bind_some, Option.bind_some]
    exact ⟨_, _, _, rfl, rfl, h⟩
theorem O_32 {u w : PM} (h : Rel u w) (a0 a1 : Int32) : ∃ r, f_X9_read a0 a1 u = some r ∧ f_X10_read a0 a1 w = some r := by
  unfold f_X9_read f_X10_read f_X7_isRow
  rcases tape_ix a0 u w with ⟨t, ht, rfl, e1, e2⟩ | ⟨e1, e2⟩
  · obtain ⟨s, z, c1, c2, c3, c4, c5, c6, c7⟩ := Rel_T h t ht
    rw [e1, e2, Option.bind_some, Option.bind_some, if_neg one_ne, if_neg (nI_in ht (by omega)), nI_clamp (show t < 2 ^ 31 by omega)]
    dsimp only
    rw [if_pos ht, c3, c4, c5, c6]
    rcases c1 with rfl | ⟨k, hk, rfl⟩
    · rw [if_pos (show (-1 : Int32) < 0 by decide), Option.bind_some, if_pos rfl, if_pos (show (-1 : Int32) < 0 by decide)]
      exact ⟨_, rfl, rfl⟩
    · rw [if_neg (nI_pos (by omega)), Option.bind_some, if_neg one_ne, if_neg (nI_pos (by omega))]
      rcases m_inS (z := z) (by omega) a1 w with ⟨j, hj, rfl, e3⟩ | ⟨hj, e3⟩
      · have p1 : f_X7_get t (nI j) u = some (u.2.1 (33, t, 0) j) := by
          unfold f_X7_get
          rw [c5, if_neg (nI_pos (by omega)), if_neg (nI_ge hj (by omega)), if_neg (show ¬ (60 : Int32) ≤ nI j from nI_ge (b := 60) (by omega) (by omega)), if_neg (nI_in (show j < 60 by omega) (by omega)), nI_clamp (show j < 2 ^ 31 by omega)]
        rw [e3, Option.bind_some, if_neg one_ne, if_neg (nI_pos (by omega)), if_pos (nI_lt hj (by omega)), p1, L_60, pk_mul, nI_add, if_neg (nI_in (show 60 * t + j < 360 by omega) (by omega)), nI_clamp (show 60 * t + j < 2 ^ 31 by omega), (c7 j (by omega)).1]
        exact ⟨_, rfl, rfl⟩
      · rw [e3, Option.bind_some, if_pos rfl]
        refine ⟨-9223372036854775808, ?_, rfl⟩
        rcases hj with y | y
        · rw [if_pos y]
        · rw [if_neg y]
          split <;> rfl
  · rw [e1, e2, Option.bind_some, Option.bind_some]
    exact ⟨_, rfl, rfl⟩
theorem sI_lt {z m i : Nat} (hz : z ≤ 60) (hm : m < 2 ^ 31) (hi : i < 2 ^ 31) : (nI z - nI m < nI i) ↔ z < i + m := by
  have e : (nI z - nI m).toInt = (z : Int) - m := by
    rw [Int32.toInt_sub, nI_toInt (by omega), nI_toInt hm]
    exact Int.bmod_eq_of_le (by omega) (by omega)
  rw [Int32.lt_iff_toInt_lt, e, nI_toInt hi]
  omega
theorem sI_le {z m i : Nat} (hz : z ≤ 60) (hm : m < 2 ^ 31) (hi : i < 2 ^ 31) : (nI i ≤ nI z - nI m) ↔ i + m ≤ z := by
  rw [← Int32.not_lt, sI_lt hz hm hi]
  omega
theorem c_has {u : PM} {v z : Nat} (hz : u.1 (32, v, 0) 1 = nI z) (h60 : z ≤ 60) (a n : Int32) : (∃ i m, i + m ≤ z ∧ a = nI i ∧ n = nI m ∧ f_X7_has v a n u = some 1) ∨ ((¬ ∃ i m, i < 2 ^ 31 ∧ m < 2 ^ 31 ∧ i + m ≤ z ∧ a = nI i ∧ n = nI m) ∧ f_X7_has v a n u = some 0) := by
  unfold f_X7_has
  rw [hz]
  by_cases n0 : n < 0
  · rw [if_pos n0]
    exact Or.inr ⟨fun ⟨i, m, h1, h2, h3, h4, h5⟩ => by rw [h5] at n0; exact nI_pos h2 n0, rfl⟩
  by_cases a0 : a < 0
  · rw [if_neg n0, if_pos a0]
    exact Or.inr ⟨fun ⟨i, m, h1, h2, h3, h4, h5⟩ => by rw [h4] at a0; exact nI_pos h1 a0, rfl⟩
  obtain ⟨m, hm, rfl⟩ := nI_of n0
  obtain ⟨i, hi, rfl⟩ := nI_of a0
  rw [if_neg n0, if_neg a0]
  by_cases c : i + m ≤ z
  · rw [if_neg (nI_nlt (show m ≤ z by omega) (by omega)), if_neg (fun y => by rw [sI_lt h60 hm hi] at y; omega)]
    exact Or.inl ⟨i, m, c, rfl, rfl, rfl⟩
  · rw [if_pos (show nI z - nI m < nI i from (sI_lt h60 hm hi).mpr (by omega))]
    refine Or.inr ⟨fun ⟨i', m', h1, h2, h3, h4, h5⟩ => ?_, ?_⟩
    · have := (nI_eq hi h1).mp h4
      have := (nI_eq hm h2).mp h5
      omega
    · split <;> rfl
theorem m_aside {w : PM} {t i o j m : Nat} (ht : t < 6) (him : i + m ≤ 60) : ∃ w', am_loop (f_X10_shift_L104 (nI t) (nI i) (nI o) (nI j) (nI m)) 2000 ((0 : Int32), w) = some w' ∧ eqx (fun q _ => q.1 == 93) w w' ∧ ∀ k, k < m → w'.2.1 (93, 0, 0) k = w.2.1 (92, 0, 0) (60 * t + i + k) := by
  refine am_cnt (f := f_X10_shift_L104 (nI t) (nI i) (nI o) (nI j) (nI m)) (s := ((0 : Int32), w)) (fun n x => x.1 = nI n ∧ eqx (fun q _ => q.1 == 93) w x.2 ∧ ∀ k, k < n → x.2.2.1 (93, 0, 0) k = w.2.1 (92, 0, 0) (60 * t + i + k)) (fun e => eqx (fun q _ => q.1 == 93) w e ∧ ∀ k, k < m → e.2.1 (93, 0, 0) k = w.2.1 (92, 0, 0) (60 * t + i + k)) m ⟨rfl, eqx.rf, fun i hi => by omega⟩ (by omega) ?_ ?_
  · rintro n ⟨x, y⟩ hn ⟨rfl, h1, h2⟩
    dsimp only at h1 h2
    unfold f_X10_shift_L104
    dsimp only
    rw [if_neg (nI_ge hn (by omega)), L_60, pk_mul, nI_add (60 * t) i, nI_add (60 * t + i) n, if_neg (nI_in (show 60 * t + i + n < 360 by omega) (by omega)), nI_clamp (show 60 * t + i + n < 2 ^ 31 by omega), if_neg (nI_in (show n < 60 by omega) (by omega)), nI_clamp (show n < 2 ^ 31 by omega), nI_1]
    refine ⟨_, rfl, rfl, h1.pl rfl, fun k hk => ?_⟩
    dsimp only
    rw [p_l]
    by_cases e : k = n
    · rw [if_pos ⟨e, rfl⟩, e]
      exact h1.2.1 _ _ rfl
    · rw [if_neg (fun z => e z.1)]
      exact h2 k (by omega)
  · rintro ⟨x, y⟩ ⟨rfl, h1, h2⟩
    unfold f_X10_shift_L104
    dsimp only
    rw [if_pos (Int32.le_refl _)]
    exact ⟨y, rfl, h1, h2⟩
theorem m_back {w : PM} {o j m : Nat} (ho : o < 6) (hjm : j + m ≤ 60) : ∃ w', am_loop (f_X10_shift_L141 (nI o) (nI j) (nI m)) 2000 ((0 : Int32), w) = some w' ∧ eqx (fun q k => q.1 == 92 && (decide (60 * o ≤ k) && decide (k < 60 * o + 60))) w w' ∧ ∀ x, x < 60 → w'.2.1 (92, 0, 0) (60 * o + x) = if j ≤ x ∧ x < j + m then w.2.1 (93, 0, 0) (x - j) else w.2.1 (92, 0, 0) (60 * o + x) := by
  refine am_cnt (f := f_X10_shift_L141 (nI o) (nI j) (nI m)) (s := ((0 : Int32), w)) (fun n x => x.1 = nI n ∧ eqx (fun q k => q.1 == 92 && (decide (60 * o ≤ k) && decide (k < 60 * o + 60))) w x.2 ∧ ∀ k, k < 60 → x.2.2.1 (92, 0, 0) (60 * o + k) = if j ≤ k ∧ k < j + n then w.2.1 (93, 0, 0) (k - j) else w.2.1 (92, 0, 0) (60 * o + k)) (fun e => eqx (fun q k => q.1 == 92 && (decide (60 * o ≤ k) && decide (k < 60 * o + 60))) w e ∧ ∀ k, k < 60 → e.2.1 (92, 0, 0) (60 * o + k) = if j ≤ k ∧ k < j + m then w.2.1 (93, 0, 0) (k - j) else w.2.1 (92, 0, 0) (60 * o + k)) m ⟨rfl, eqx.rf, fun k hk => by rw [if_neg (by omega)]⟩ (by omega) ?_ ?_
  · rintro n ⟨x, y⟩ hn ⟨rfl, h1, h2⟩
    dsimp only at h1 h2
    unfold f_X10_shift_L141
    dsimp only
    rw [if_neg (nI_ge hn (by omega)), if_neg (nI_in (show n < 60 by omega) (by omega)), nI_clamp (show n < 2 ^ 31 by omega), L_60, pk_mul, nI_add (60 * o) j, nI_add (60 * o + j) n, if_neg (nI_in (show 60 * o + j + n < 360 by omega) (by omega)), nI_clamp (show 60 * o + j + n < 2 ^ 31 by omega), nI_1]
    refine ⟨_, rfl, rfl, h1.pl (by simp; omega), fun k hk => ?_⟩
    dsimp only
    rw [p_l]
    by_cases e : k = j + n
    · rw [if_pos ⟨by omega, rfl⟩, if_pos (by omega), show k - j = n by omega]
      exact h1.2.1 _ _ rfl
    · rw [if_neg (fun z => e (by have := z.1; omega)), h2 k hk]
      by_cases c : j ≤ k ∧ k < j + n
      · rw [if_pos c, if_pos (by omega)]
      · rw [if_neg c, if_neg (by omega)]
  · rintro ⟨x, y⟩ ⟨rfl, h1, h2⟩
    unfold f_X10_shift_L141
    dsimp only
    rw [if_pos (Int32.le_refl _)]
    exact ⟨y, rfl, h1, h2⟩
theorem O_33 {u w : PM} (h : Rel u w) (a0 a1 a2 a3 a4 : Int32) : ∃ r u' w', f_X9_shift a0 a1 a2 a3 a4 u = some (r, u') ∧ f_X10_shift a0 a1 a2 a3 a4 w = some (r, w') ∧ Rel u' w' := by
  unfold f_X9_shift f_X10_shift f_X7_isRow
  rcases tape_ix a0 u w with ⟨t, ht, rfl, e1, e2⟩ | ⟨e1, e2⟩
  · rw [e1, e2, Option.bind_some, Option.bind_some, if_neg one_ne]
    dsimp only
    rw [if_pos ht]
    rcases tape_ix a2 u w with ⟨o, ho, rfl, e3, e4⟩ | ⟨e3, e4⟩
    · obtain ⟨s, z, c1, c2, c3, c4, c5, c6, c7⟩ := Rel_T h t ht
      obtain ⟨s', z', d1, d2, d3, d4, d5, d6, d7⟩ := Rel_T h o ho
      rw [e3, e4, Option.bind_some, Option.bind_some, if_neg one_ne, if_neg (nI_in ht (by omega)), if_neg (nI_in ho (by omega)), nI_clamp (show t < 2 ^ 31 by omega), nI_clamp (show o < 2 ^ 31 by omega)]
      dsimp only
      rw [if_pos ho, c3, c4, c6, d3, d4, d6]
      rcases c1 with rfl | ⟨k, hk, rfl⟩
      · rw [if_pos (show (-1 : Int32) < 0 by decide), Option.bind_some, if_pos rfl, if_pos (show (-1 : Int32) < 0 by decide)]
        exact ⟨_, _, _, rfl, rfl, h⟩
      · rw [if_neg (nI_pos (show k < 2 ^ 31 by omega)), Option.bind_some, if_neg one_ne, if_neg (nI_pos (show k < 2 ^ 31 by omega))]
        rcases d1 with rfl | ⟨k', hk', rfl⟩
        · rw [if_pos (show (-1 : Int32) < 0 by decide), Option.bind_some, if_pos rfl, if_neg (show ¬ (0 : Int32) ≤ -1 by decide)]
          exact ⟨_, _, _, rfl, rfl, h⟩
        · rw [if_neg (nI_pos (show k' < 2 ^ 31 by omega)), Option.bind_some, if_neg one_ne, if_pos (nI_pos' (by omega))]
          by_cases es : nI k = nI k'
          · rw [if_pos es, if_pos es]
            have ek : k = k' := (nI_eq (by omega) (by omega)).mp es
            subst ek
            have bad : ((¬ ∃ i m, i < 2 ^ 31 ∧ m < 2 ^ 31 ∧ i + m ≤ z ∧ a1 = nI i ∧ a4 = nI m) ∨ ¬ ∃ i m, i < 2 ^ 31 ∧ m < 2 ^ 31 ∧ i + m ≤ z' ∧ a3 = nI i ∧ a4 = nI m) → ∀ E : Option (Int32 × PM), (if a4 < 0 then some ((-13 : Int32), w) else if a1 < 0 then some ((-13 : Int32), w) else if a3 < 0 then some ((-13 : Int32), w) else if nI z - a4 < a1 then some ((-13 : Int32), w) else if a3 ≤ nI z' - a4 then E else some ((-13 : Int32), w)) = some ((-13 : Int32), w) := fun hb E => by
              by_cases n4 : a4 < 0
              · rw [if_pos n4]
              by_cases n1 : a1 < 0
              · rw [if_neg n4, if_pos n1]
              by_cases n3 : a3 < 0
              · rw [if_neg n4, if_neg n1, if_pos n3]
              rw [if_neg n4, if_neg n1, if_neg n3]
              obtain ⟨m, hm, rfl⟩ := nI_of n4
              obtain ⟨i, hi, rfl⟩ := nI_of n1
              obtain ⟨j, hj, rfl⟩ := nI_of n3
              by_cases g1 : z < i + m
              · rw [if_pos ((sI_lt c2 hm hi).mpr g1)]
              · rw [if_neg (fun y => g1 ((sI_lt c2 hm hi).mp y))]
                have hb := hb.resolve_left (fun y => y ⟨i, m, hi, hm, by omega, rfl, rfl⟩)
                rw [if_neg (fun y => hb ⟨j, m, hj, hm, (sI_le d2 hm hj).mp y, rfl, rfl⟩)]
            rcases c_has c5 c2 a1 a4 with ⟨i, m, him, rfl, rfl, f1⟩ | ⟨f0, f1⟩
            · rw [f1, Option.bind_some, if_neg one_ne]
              rcases c_has d5 d2 a3 (nI m) with ⟨j, m', hjm, rfl, em, f2⟩ | ⟨f0, f2⟩
              · have em' : m = m' := (nI_eq (by omega) (by omega)).mp em
                subst em'
                have bm : m < 2 ^ 31 := by omega
                have bi : i < 2 ^ 31 := by omega
                have bj : j < 2 ^ 31 := by omega
                rw [f2, Option.bind_some, if_neg one_ne, nI_clamp bi, nI_clamp bj, nI_clamp bm, if_pos (show ¬ nI i < 0 ∧ ¬ nI j < 0 ∧ ¬ nI m < 0 ∧ i + m ≤ 60 ∧ j + m ≤ 60 from ⟨nI_pos bi, nI_pos bj, nI_pos bm, by omega, by omega⟩), if_neg (nI_pos bm), if_neg (nI_pos bi), if_neg (nI_pos bj), if_neg (fun y => by have := (sI_lt c2 bm bi).mp y; omega), if_pos ((sI_le d2 bm bj).mpr hjm)]
                obtain ⟨w1, q1, q2, q3⟩ := m_aside (w := w) (o := o) (j := j) ht (show i + m ≤ 60 by omega)
                obtain ⟨w2, r1, r2, r3⟩ := m_back (w := w1) ho (show j + m ≤ 60 by omega)
                rw [q1, Option.bind_some, r1, Option.bind_some]
                refine ⟨_, _, _, rfl, rfl, Rel_tape (t := o) h (eqx.rf.pcl (fun k => by simp [gTC])) ((q2.mono (fun q k y => ?_)).tr (r2.mono (fun q k y => ?_))) ⟨nI k, z', Or.inr ⟨k, hk, rfl⟩, d2, d3, (r2.1 _ _ rfl).trans ((q2.1 _ _ rfl).trans d4), d5, (r2.1 _ _ rfl).trans ((q2.1 _ _ rfl).trans d6), fun x hx => ?_⟩⟩
                · unfold gTM at y
                  simp only [Bool.or_eq_false_iff] at y
                  exact y.2
                · unfold gTM at y
                  simp only [Bool.or_eq_false_iff] at y
                  exact y.1.2
                · rw [p_cl, if_pos rfl, r3 x hx]
                  by_cases c : j ≤ x ∧ x < j + m
                  · rw [if_pos c, pk_cpy_in c.1 c.2, q3 (x - j) (by omega), Nat.add_assoc]
                    exact c7 (i + (x - j)) (by omega)
                  · rw [if_neg c, pk_cpy_out (by omega), q2.2.1 _ _ rfl]
                    exact d7 x hx
              · rw [f2, Option.bind_some, if_pos rfl]
                exact ⟨_, _, _, rfl, bad (Or.inr f0) _, h⟩
            · rw [f1, Option.bind_some, if_pos rfl]
              exact ⟨_, _, _, rfl, bad (Or.inl f0) _, h⟩
          · rw [if_neg es, if_neg es]
            exact ⟨_, _, _, rfl, rfl, h⟩
    · rw [e3, e4, Option.bind_some, Option.bind_some, if_pos rfl]
      exact ⟨_, _, _, rfl, rfl, h⟩
  · rw [e1, e2, Option.bind_some, Option.bind_some]
    rcases tape_ix a2 u w with ⟨o, ho, rfl, e3, e4⟩ | ⟨e3, e4⟩
    · rw [e3, Option.bind_some]
      dsimp only
      rw [if_pos ho]
      exact ⟨_, _, _, rfl, rfl, h⟩
    · rw [e3, Option.bind_some]
      exact ⟨_, _, _, rfl, rfl, h⟩
