/-! bytes, what follows -/
theorem Rel_3 {u u' w w' : PM} (h : Rel u w) (hu : chC [0, 3] u u') (hw : chM [0, 3] w w') (hr : RdR u' w') : Rel u' w' := by
  obtain ⟨n, a1, a2, a3, a4, a5, a6⟩ := h
  exact ⟨n, BsR_k hu hw rfl a1, VlR0_k hu hw rfl rfl a2, ImR_k hu hw rfl rfl rfl a3, hr, TpR_k hu hw rfl a5, AcR_k hu hw rfl a6⟩
theorem by_k (c : Int32) {s : Int32} {k : Nat} (hk : k = 0 ∨ k = 8 ∨ k = 16 ∨ k = 24) (h1 : ((s.toUInt32 &&& Int32.toUInt32 31).toBitVec % 32).toNat = k) (h2 : ((s &&& 31).toBitVec.smod 32).toNat = k) : byR (((c.toUInt32 >>> (s.toUInt32 &&& Int32.toUInt32 31)).toInt32) &&& (255 : Int32)) ((c >>> (s &&& 31)).toInt8.toInt32) := by
  have e1 : ((c.toUInt32 >>> (s.toUInt32 &&& Int32.toUInt32 31)).toInt32) &&& (255 : Int32) = nI (c.toBitVec.toNat / 2 ^ k % 256) := by
    rw [pk_and _ (m := (255 : Int32)) 8 (by decide), pk_ushr c s k h1]
  have e2 : ((c >>> (s &&& 31)).toInt8.toInt32).toInt = (c.toInt >>> k).bmod 256 := by
    rw [Int8.toInt_toInt32, Int32.toInt_toInt8, pk_shr c (s &&& 31) k h2]
  have lt : c.toBitVec.toNat < 2 ^ 32 := c.toBitVec.isLt
  have e3 : c.toInt = if c.toBitVec.toNat < 2 ^ 31 then (c.toBitVec.toNat : Int) else (c.toBitVec.toNat : Int) - 2 ^ 32 := by
    show c.toBitVec.toInt = _
    rw [BitVec.toInt_eq_toNat_cond]
    by_cases q : c.toBitVec.toNat < 2 ^ 31
    · rw [if_pos q, if_pos (by omega)]
    · rw [if_neg q, if_neg (by omega)]
      rfl
  refine ⟨c.toBitVec.toNat / 2 ^ k % 256, by omega, e1, ?_⟩
  refine Int32.toInt_inj.mp ?_
  rw [e2, Int.shiftRight_eq_div_pow, Int.bmod_def]
  have : (if c.toBitVec.toNat / 2 ^ k % 256 < 128 then nI (c.toBitVec.toNat / 2 ^ k % 256) else nI (c.toBitVec.toNat / 2 ^ k % 256) - nI 256).toInt = if c.toBitVec.toNat / 2 ^ k % 256 < 128 then ((c.toBitVec.toNat / 2 ^ k % 256 : Nat) : Int) else ((c.toBitVec.toNat / 2 ^ k % 256 : Nat) : Int) - 256 := by
    split
    · exact nI_toInt (by omega)
    · exact pk_sub_toInt (by omega) (by omega)
  rw [this, e3]
  clear this e1 e2 e3 h1 h2
  generalize c.toBitVec.toNat = N at lt ⊢
  by_cases q : N < 2 ^ 31
  · rw [if_pos q]
    rcases hk with rfl | rfl | rfl | rfl <;> split <;> split <;> omega
  · rw [if_neg q]
    rcases hk with rfl | rfl | rfl | rfl <;> split <;> split <;> omega
theorem by_x (c : Int32) {x : Nat} (hx : x < 4) : byR (((c.toUInt32 >>> (((8 : Int32) * nI x).toUInt32 &&& Int32.toUInt32 31)).toInt32) &&& (255 : Int32)) ((c >>> (((8 : Int32) * nI x) &&& 31)).toInt8.toInt32) := by
  have : x = 0 ∨ x = 1 ∨ x = 2 ∨ x = 3 := by omega
  rcases this with rfl | rfl | rfl | rfl
  · exact by_k c (k := 0) (by omega) (by decide) (by decide)
  · exact by_k c (k := 8) (by omega) (by decide) (by decide)
  · exact by_k c (k := 16) (by omega) (by decide) (by decide)
  · exact by_k c (k := 24) (by omega) (by decide) (by decide)
theorem O_5 {u w : PM} (h : Rel u w) (a0 a1 : Int32) : ∃ r u' w', f_X9_feed a0 a1 u = some (r, u') ∧ f_X10_feed a0 a1 w = some (r, w') ∧ Rel u' w' := by
  obtain ⟨L, l1, l2, l3, l4⟩ : RdR u w := by
    obtain ⟨_, _, _, _, a4, _⟩ := h
    exact a4
  unfold f_X9_feed f_X10_feed
  rcases m_inN (n := 4) (by omega) a1 w with ⟨m, hm, rfl, e⟩ | ⟨hm, e⟩
  · rw [show (4 : Int32) = nI 4 from rfl, e, Option.bind_some, if_neg (nI_pos (show m < 2 ^ 31 by omega)), if_pos (nI_le hm (by omega)), if_neg one_ne, l2, l3, L_100, i_sub l1, nI_add]
    by_cases c : L + m ≤ 100
    · rw [if_pos (nI_le (show m ≤ 100 - L by omega) (by omega)), if_pos (nI_le c (by omega))]
      have key := am_two (f := f_X9_feed_L33 a0) (g := f_X10_feed_L31 a0) (s := (nI m - 1, u)) (t := (nI m - 1, w)) (fun j s t => s.1 = nI (m - j) - 1 ∧ t.1 = nI (m - j) - 1 ∧ chC [0, 3] u s.2 ∧ chM [0, 3] w t.2 ∧ s.2.1 (9, 0, 0) 1 = nI (L + j) ∧ t.2.1 (40, 0, 0) 15 = nI (L + j) ∧ ∀ i, i < L + j → byR (s.2.1 (10, 0, 0) i) (t.2.1 (50, 0, 0) i)) (fun e e' => chC [0, 3] u e ∧ chM [0, 3] w e' ∧ e.1 (9, 0, 0) 1 = nI (L + m) ∧ e'.1 (40, 0, 0) 15 = nI (L + m) ∧ ∀ i, i < L + m → byR (e.1 (10, 0, 0) i) (e'.1 (50, 0, 0) i)) m ⟨rfl, rfl, eqx.rf, eqx.rf, l2, l3, l4⟩ (by omega) ?_ ?_
      · obtain ⟨e, e', k1, k2, k3, k4, k5, k6, k7⟩ := key
        rw [k1, k2, Option.bind_some, Option.bind_some, k5, k6]
        exact ⟨_, _, _, rfl, rfl, Rel_3 h k3 k4 ⟨L + m, c, k5, k6, k7⟩⟩
      · rintro j ⟨x, s⟩ ⟨y, t⟩ hj ⟨rfl, rfl, h1, h2, h3, h4, h5⟩
        dsimp only at h1 h2 h3 h4 h5
        left
        have ej : nI (m - j) - 1 = nI (m - j - 1) := i_sub (b := 1) (by omega)
        have ej2 : nI (m - j - 1) + (-1) = nI (m - (j + 1)) - 1 := by
          rw [Nat.sub_sub, show nI (m - (j + 1)) - 1 = nI (m - (j + 1)) + (-1) from Int32.sub_eq_add_neg _ _]
        have ap : ∀ b, f_X6_append b s = some (pi (pi s (10, 0, 0) (L + j) b) (9, 0, 0) 1 (nI (L + j + 1))) := fun b => by
          unfold f_X6_append
          rw [h3, if_neg (nI_pos (show L + j < 2 ^ 31 by omega)), if_neg (show ¬ (100 : Int32) ≤ nI (L + j) from nI_ge (b := 100) (by omega) (by omega)), if_neg (nI_in (show L + j < 100 by omega) (by omega)), nI_clamp (show L + j < 2 ^ 31 by omega), nI_1]
        unfold f_X9_feed_L33 f_X10_feed_L31
        dsimp only
        rw [ej, if_neg (nI_pos (show m - j - 1 < 2 ^ 31 by omega)), if_neg (nI_pos (show m - j - 1 < 2 ^ 31 by omega)), ap, Option.bind_some, h4, if_neg (nI_in (show L + j < 100 by omega) (by omega)), nI_clamp (show L + j < 2 ^ 31 by omega), nI_1, ej2]
        refine ⟨_, _, rfl, rfl, rfl, rfl, eqx.pi (eqx.pi h1 rfl) rfl, eqx.pi (eqx.pi h2 rfl) rfl, p_at _ _ _ _, p_at _ _ _ _, fun i hi => ?_⟩
        dsimp only
        simp only [p_i]
        by_cases ei : i = L + j
        · subst ei
          simp
          exact by_x a0 (by omega)
        · simp [ei]
          exact h5 i (by omega)
      · rintro ⟨x, s⟩ ⟨y, t⟩ ⟨rfl, rfl, h1, h2, h3, h4, h5⟩
        dsimp only at h1 h2 h3 h4 h5
        unfold f_X9_feed_L33 f_X10_feed_L31
        dsimp only
        rw [Nat.sub_self, if_pos (show nI 0 - 1 < 0 by decide), if_pos (show nI 0 - 1 < 0 by decide)]
        exact ⟨_, _, rfl, rfl, h1, h2, h3, h4, h5⟩
    · rw [if_neg (nI_ge (show 100 - L < m by omega) (by omega)), if_neg (nI_ge (show 100 < L + m by omega) (by omega))]
      exact ⟨_, _, _, rfl, rfl, h⟩
  · rw [show (4 : Int32) = nI 4 from rfl, e, Option.bind_some, if_pos rfl]
    refine ⟨-2, u, w, ?_, rfl, h⟩
    rcases hm with z | z
    · rw [if_pos z]
    · rw [if_neg (Int32.not_le.mpr z)]
      split <;> rfl
