/-! ways: how far houses are apart -/
def okM (c : PM → Nat → Nat → Int32) (H : Nat) (M : Nat → Nat → Int32) (s : PM) : Prop := ∀ i b, i < H → b < H → c s i b = M i b
def mixM (N D : Nat → Nat → Int32) (a j : Nat) : Nat → Nat → Int32 := fun i b => if i < a ∨ (i = a ∧ b < j) then N i b else D i b
theorem nest2 {c : PM → Nat → Nat → Int32} {g : Key → Nat → Bool} {H : Nat} {N D : Nat → Nat → Int32} {s0 : PM} {fo : Int32 × PM → Option ((Int32 × PM) ⊕ PM)} {fi : Int32 → Int32 × PM → Option ((Int32 × PM) ⊕ PM)} (hH : H ≤ 6)
    (hi : ∀ a j s, a < H → j < H → eqx g s0 s → okM c H (mixM N D a j) s → ∃ s', fi (nI a) (nI j, s) = some (.inl (nI (j + 1), s')) ∧ eqx g s0 s' ∧ c s' a j = N a j ∧ ∀ i b, i < H → b < H → (i ≠ a ∨ b ≠ j) → c s' i b = c s i b)
    (hie : ∀ a s, a < H → eqx g s0 s → fi (nI a) (nI H, s) = some (.inr s))
    (ho : ∀ a s, a < H → eqx g s0 s → fo (nI a, s) = (am_loop (fi (nI a)) 2000 ((0 : Int32), s)).bind fun t => some (.inl (nI (a + 1), t)))
    (hoe : ∀ s, eqx g s0 s → fo (nI H, s) = some (.inr s)) {s : PM} (h0 : eqx g s0 s) (hD : okM c H D s) : ∃ t, am_loop fo 2000 ((0 : Int32), s) = some t ∧ eqx g s0 t ∧ okM c H N t := by
  refine am_cnt (f := fo) (s := ((0 : Int32), s)) (fun a x => x.1 = nI a ∧ eqx g s0 x.2 ∧ okM c H (mixM N D a 0) x.2) (fun t => eqx g s0 t ∧ okM c H N t) H ⟨rfl, h0, ?_⟩ (by omega) ?_ ?_
  · intro i b hi1 hb
    refine (hD i b hi1 hb).trans ?_
    unfold mixM
    rw [if_neg (by omega)]
  · rintro a ⟨x, s1⟩ ha ⟨rfl, h1, h2⟩
    dsimp only at h1 h2
    obtain ⟨t, k1, k2, k3⟩ := am_cnt (f := fi (nI a)) (s := ((0 : Int32), s1)) (fun j x => x.1 = nI j ∧ eqx g s0 x.2 ∧ okM c H (mixM N D a j) x.2) (fun t => eqx g s0 t ∧ okM c H (mixM N D (a + 1) 0) t) H ⟨rfl, h1, h2⟩ (by omega) (by
      rintro j ⟨x, s2⟩ hj ⟨rfl, h3, h4⟩
      dsimp only at h3 h4
      obtain ⟨s', q1, q2, q3, q4⟩ := hi a j s2 ha hj h3 h4
      refine ⟨_, q1, rfl, q2, fun i b hi' hb => ?_⟩
      dsimp only
      by_cases e : i = a ∧ b = j
      · rw [e.1, e.2, q3]
        unfold mixM
        rw [if_pos (by omega)]
      · rw [q4 i b hi' hb (by omega), h4 i b hi' hb]
        unfold mixM
        by_cases z : i < a ∨ (i = a ∧ b < j)
        · rw [if_pos z, if_pos (by omega)]
        · rw [if_neg z, if_neg (by omega)]) (by
      rintro ⟨x, s2⟩ ⟨rfl, h3, h4⟩
      dsimp only at h3 h4
      refine ⟨s2, hie a s2 ha h3, h3, fun i b hi' hb => ?_⟩
      rw [h4 i b hi' hb]
      unfold mixM
      by_cases z : i < a ∨ (i = a ∧ b < H)
      · rw [if_pos z, if_pos (by omega)]
      · rw [if_neg z, if_neg (by omega)])
    refine ⟨(nI (a + 1), t), ?_, rfl, k2, k3⟩
    rw [ho a s1 ha h1, k1, Option.bind_some]
  · rintro ⟨x, s1⟩ ⟨rfl, h1, h2⟩
    dsimp only at h1 h2
    refine ⟨s1, hoe s1 h1, h1, fun i b hi' hb => ?_⟩
    rw [h2 i b hi' hb]
    unfold mixM
    rw [if_pos (by omega)]
def d0A (W : Nat → Nat → Int32) (a b : Nat) : Nat := if a = b then 0 else if W a b ≤ 0 then 1000 else (W a b).toNatClampNeg
def dsA (D : Nat → Nat → Nat) (k a b : Nat) : Nat := if D a k + D k b < D a b then D a k + D k b else D a b
def dnA (W : Nat → Nat → Int32) : Nat → Nat → Nat → Nat
  | 0 => d0A W
  | k + 1 => dsA (dnA W k) k
def eF (n : Nat) : Int32 := if n < 1000 then nI n else nI 1000000
theorem eF_s {n : Nat} (h : n < 1000) : eF n = nI n := if_pos h
theorem eF_k : eF 1000 = nI 1000000 := if_neg (by omega)
theorem eF_lt {x y : Nat} (hx : x ≤ 1000) (hy : y ≤ 1000) : (eF x < eF y) = (x < y) := by
  unfold eF
  by_cases h1 : x < 1000
  · rw [if_pos h1]
    by_cases h2 : y < 1000
    · rw [if_pos h2, i_lt (by omega) (by omega)]
    · rw [if_neg h2, i_lt (by omega) (by omega)]
      exact propext ⟨fun _ => by omega, fun _ => by omega⟩
  · rw [if_neg h1]
    by_cases h2 : y < 1000
    · rw [if_pos h2, i_lt (by omega) (by omega)]
      exact propext ⟨fun _ => by omega, fun _ => by omega⟩
    · rw [if_neg h2, i_lt (by omega) (by omega)]
      exact propext ⟨fun _ => by omega, fun _ => by omega⟩
theorem eF_min {x y z : Nat} (hx : x ≤ 1000) (hy : y ≤ 288 ∨ y = 1000) (hz : z ≤ 288 ∨ z = 1000) : (if eF y + eF z < eF x then eF y + eF z else eF x) = eF (if y + z < x then y + z else x) := by
  by_cases h1 : y < 1000 ∧ z < 1000
  · have e : eF y + eF z = eF (y + z) := by rw [eF_s h1.1, eF_s h1.2, nI_add, eF_s (by omega)]
    rw [e]
    simp only [eF_lt (show y + z ≤ 1000 by omega) hx]
    split <;> rfl
  · have hs : ∃ s, eF y + eF z = nI s ∧ 1000000 ≤ s ∧ s ≤ 2000000 := by
      unfold eF
      by_cases h2 : y < 1000
      · rw [if_pos h2, if_neg (show ¬ z < 1000 by omega), nI_add]
        exact ⟨_, rfl, by omega, by omega⟩
      · rw [if_neg h2]
        by_cases h3 : z < 1000
        · rw [if_pos h3, nI_add]
          exact ⟨_, rfl, by omega, by omega⟩
        · rw [if_neg h3, nI_add]
          exact ⟨_, rfl, by omega, by omega⟩
    obtain ⟨s, e, s1, s2⟩ := hs
    have hn : ¬ nI s < eF x := by
      unfold eF
      split
      · rw [i_lt (by omega) (by omega)]; omega
      · rw [i_lt (by omega) (by omega)]; omega
    rw [e, if_neg hn, if_neg (by omega)]
theorem ds_1 (D : Nat → Nat → Nat) (k b : Nat) : dsA D k k b = D k b := by
  unfold dsA
  rw [if_neg (by omega)]
theorem ds_2 (D : Nat → Nat → Nat) (k a : Nat) : dsA D k a k = D a k := by
  unfold dsA
  rw [if_neg (by omega)]
theorem dn_bd {W : Nat → Nat → Int32} (h10 : ∀ a b, a < 6 → b < 6 → ∃ n, n < 10 ∧ W a b = nI n) : ∀ k, k ≤ 6 → ∀ a b, a < 6 → b < 6 → dnA W k a b ≤ 9 * 2 ^ k ∨ dnA W k a b = 1000
  | 0, _, a, b, ha, hb => by
    show d0A W a b ≤ 9 * 2 ^ 0 ∨ d0A W a b = 1000
    unfold d0A
    split
    · left; omega
    · split
      · right; rfl
      · left
        obtain ⟨n, hn, e⟩ := h10 a b ha hb
        rw [e, nI_clamp (by omega)]
        omega
  | k + 1, hk, a, b, ha, hb => by
    show dsA (dnA W k) k a b ≤ 9 * 2 ^ (k + 1) ∨ dsA (dnA W k) k a b = 1000
    have i1 := dn_bd h10 k (by omega) a b ha hb
    have i2 := dn_bd h10 k (by omega) a k ha (by omega)
    have i3 := dn_bd h10 k (by omega) k b (by omega) hb
    have hp : 2 ^ (k + 1) = 2 * 2 ^ k := by rw [Nat.pow_succ, Nat.mul_comm]
    rw [hp]
    generalize 2 ^ k = P at i1 i2 i3
    unfold dsA
    split <;> omega
theorem p2_6 : ∀ k, k ≤ 6 → 9 * 2 ^ k ≤ 576 := by decide
theorem p2_5 : ∀ k, k ≤ 5 → 9 * 2 ^ k ≤ 288 := by decide
theorem dn_le {W : Nat → Nat → Int32} (h10 : ∀ a b, a < 6 → b < 6 → ∃ n, n < 10 ∧ W a b = nI n) {k a b : Nat} (hk : k ≤ 6) (ha : a < 6) (hb : b < 6) : dnA W k a b ≤ 1000 := by
  have := dn_bd h10 k hk a b ha hb
  have := p2_6 k hk
  omega
theorem dn_sym {W : Nat → Nat → Int32} (hs : ∀ a b, a < 6 → b < 6 → W a b = W b a) : ∀ k, k ≤ 6 → ∀ a b, a < 6 → b < 6 → dnA W k a b = dnA W k b a
  | 0, _, a, b, ha, hb => by
    show d0A W a b = d0A W b a
    unfold d0A
    rw [hs a b ha hb]
    by_cases e : a = b
    · rw [if_pos e, if_pos e.symm]
    · rw [if_neg e, if_neg (show ¬ b = a from fun z => e z.symm)]
  | k + 1, hk, a, b, ha, hb => by
    show dsA (dnA W k) k a b = dsA (dnA W k) k b a
    unfold dsA
    rw [dn_sym hs k (by omega) a b ha hb, dn_sym hs k (by omega) a k ha (by omega), dn_sym hs k (by omega) k b (by omega) hb, Nat.add_comm (dnA W k k a) (dnA W k b k)]
def g27 (q : Key) (_ : Nat) : Bool := q.1 == 27
def c27 (s : PM) (i b : Nat) : Int32 := s.1 (27, 0, i) b
theorem c27_pi (s : PM) (a j : Nat) (x : Int32) : c27 (pi s (27, 0, a) j x) a j = x ∧ ∀ i b, (i ≠ a ∨ b ≠ j) → c27 (pi s (27, 0, a) j x) i b = c27 s i b := by
  refine ⟨p_at _ _ _ _, fun i b h => ?_⟩
  unfold c27
  rw [p_i, if_neg]
  rintro ⟨z1, z2⟩
  have z3 : i = a := congrArg (fun q : Key => q.2.2) z2
  omega
theorem c_me0 {s0 : PM} {W : Nat → Nat → Int32} {H : Nat} (h6 : H ≤ 6) (hH : s0.1 (25, 0, 0) 1 = nI H) (hw : ∀ a b, a < H → b < H → s0.1 (5, 0, a) b = W a b) (h10 : ∀ a b, a < 6 → b < 6 → ∃ n, n < 10 ∧ W a b = nI n) : ∃ t, am_loop (f_X5_measure_L15 0) 2000 ((0 : Int32), s0) = some t ∧ eqx g27 s0 t ∧ okM c27 H (fun i b => eF (d0A W i b)) t := by
  refine nest2 (fi := f_X5_measure_L25 0) (D := c27 s0) h6 ?_ ?_ ?_ ?_ eqx.rf (fun _ _ _ _ => rfl)
  · intro a j s ha hj he _
    unfold f_X5_measure_L25
    dsimp only
    rw [show s.1 (25, 0, 0) 1 = nI H from (he.1 _ _ rfl).trans hH, if_neg (nI_ge hj (by omega)), if_neg (nI_in (show a < 6 by omega) (by omega)), if_neg (nI_in (show j < 6 by omega) (by omega)), nI_clamp (show a < 2 ^ 31 by omega), nI_clamp (show j < 2 ^ 31 by omega), show s.1 (5, 0, a) j = W a j from (he.1 _ _ rfl).trans (hw a j ha hj), nI_1]
    by_cases e : a = j
    · rw [if_pos (show nI a = nI j by rw [e])]
      refine ⟨_, rfl, he.pi rfl, (c27_pi _ _ _ _).1.trans ?_, fun i b _ _ => (c27_pi _ _ _ _).2 i b⟩
      unfold d0A
      rw [if_pos e, eF_s (by omega)]
      rfl
    · rw [if_neg (fun z => e ((nI_eq (by omega) (by omega)).mp z))]
      by_cases e2 : W a j ≤ 0
      · rw [if_pos e2]
        refine ⟨_, rfl, he.pi rfl, (c27_pi _ _ _ _).1.trans ?_, fun i b _ _ => (c27_pi _ _ _ _).2 i b⟩
        unfold d0A
        rw [if_neg e, if_pos e2, eF_k]
        rfl
      · rw [if_neg e2]
        refine ⟨_, rfl, he.pi rfl, (c27_pi _ _ _ _).1.trans ?_, fun i b _ _ => (c27_pi _ _ _ _).2 i b⟩
        unfold d0A
        rw [if_neg e, if_neg e2]
        obtain ⟨n, hn, e3⟩ := h10 a j (by omega) (by omega)
        rw [e3, nI_clamp (by omega), eF_s (by omega)]
  · intro a s ha he
    unfold f_X5_measure_L25
    dsimp only
    rw [show s.1 (25, 0, 0) 1 = nI H from (he.1 _ _ rfl).trans hH, if_pos (Int32.le_refl _)]
  · intro a s ha he
    unfold f_X5_measure_L15
    dsimp only
    rw [show s.1 (25, 0, 0) 1 = nI H from (he.1 _ _ rfl).trans hH, if_neg (nI_ge ha (by omega)), nI_1]
  · intro s he
    unfold f_X5_measure_L15
    dsimp only
    rw [show s.1 (25, 0, 0) 1 = nI H from (he.1 _ _ rfl).trans hH, if_pos (Int32.le_refl _)]
theorem mix_at {N D : Nat → Nat → Int32} {c : PM → Nat → Nat → Int32} {H a j i b : Nat} {s : PM} (hm : okM c H (mixM N D a j) s) (hi : i < H) (hb : b < H) (h : N i b = D i b ∨ (i = a ∧ b = j)) : c s i b = D i b := by
  rw [hm i b hi hb]
  unfold mixM
  by_cases z : i < a ∨ (i = a ∧ b < j)
  · rw [if_pos z]
    rcases h with h | h
    · exact h
    · omega
  · rw [if_neg z]
theorem c_mek {s0 : PM} {H : Nat} (h6 : H ≤ 6) (hH : s0.1 (25, 0, 0) 1 = nI H) {D : Nat → Nat → Nat} {k : Nat} (hk : k < H) (hb : ∀ a b, a < 6 → b < 6 → D a b ≤ 288 ∨ D a b = 1000) (hD : okM c27 H (fun i b => eF (D i b)) s0) : ∃ t, am_loop (f_X5_measure_L96 (nI k)) 2000 ((0 : Int32), s0) = some t ∧ eqx g27 s0 t ∧ okM c27 H (fun i b => eF (dsA D k i b)) t := by
  refine nest2 (fi := f_X5_measure_L107 (nI k)) (D := fun i b => eF (D i b)) h6 ?_ ?_ ?_ ?_ eqx.rf hD
  · intro a j s ha hj he hm
    have e1 : s.1 (27, 0, a) j = eF (D a j) := mix_at hm ha hj (Or.inr ⟨rfl, rfl⟩)
    have e2 : s.1 (27, 0, a) k = eF (D a k) := mix_at hm ha hk (Or.inl (by show eF (dsA D k a k) = eF (D a k); rw [ds_2]))
    have e3 : s.1 (27, 0, k) j = eF (D k j) := mix_at hm hk hj (Or.inl (by show eF (dsA D k k j) = eF (D k j); rw [ds_1]))
    unfold f_X5_measure_L107
    dsimp only
    rw [show s.1 (25, 0, 0) 1 = nI H from (he.1 _ _ rfl).trans hH, if_neg (nI_ge hj (by omega)), if_neg (nI_in (show a < 6 by omega) (by omega)), if_neg (nI_in (show j < 6 by omega) (by omega)), if_neg (nI_in (show k < 6 by omega) (by omega)), nI_clamp (show a < 2 ^ 31 by omega), nI_clamp (show j < 2 ^ 31 by omega), nI_clamp (show k < 2 ^ 31 by omega), e1, e2, e3, eF_min (by have := hb a j (by omega) (by omega); omega) (hb a k (by omega) (by omega)) (hb k j (by omega) (by omega)), nI_1]
    exact ⟨_, rfl, he.pi rfl, (c27_pi _ _ _ _).1, fun i b _ _ => (c27_pi _ _ _ _).2 i b⟩
  · intro a s ha he
    unfold f_X5_measure_L107
    dsimp only
    rw [show s.1 (25, 0, 0) 1 = nI H from (he.1 _ _ rfl).trans hH, if_pos (Int32.le_refl _)]
  · intro a s ha he
    unfold f_X5_measure_L96
    dsimp only
    rw [show s.1 (25, 0, 0) 1 = nI H from (he.1 _ _ rfl).trans hH, if_neg (nI_ge ha (by omega)), nI_1]
  · intro s he
    unfold f_X5_measure_L96
    dsimp only
    rw [show s.1 (25, 0, 0) 1 = nI H from (he.1 _ _ rfl).trans hH, if_pos (Int32.le_refl _)]
def gMe (q : Key) (k : Nat) : Bool := q.1 == 27 || (q.1 == 25 && k == 1)
theorem g27_Me {q : Key} {k : Nat} (h : gMe q k = false) : g27 q k = false := by
  unfold gMe at h
  simp only [Bool.or_eq_false_iff] at h
  exact h.1
theorem k_gMe {u u' : PM} (h : eqx gMe u u') : chC [0] u u' := toC h (fun q k z => cC_8 (by
  unfold gMe at z
  simp only [Bool.or_eq_true, Bool.and_eq_true, beq_iff_eq] at z
  omega))
/-- how far house a is from house b -/
def dA (V : Vil) : Nat → Nat → Nat := dnA V.2.1 V.2.2.1
theorem dA_le {V : Vil} (hW : WF V) {a b : Nat} (ha : a < 6) (hb : b < 6) : dA V a b ≤ 1000 := dn_le hW.2.2.2.2.1 hW.1 ha hb
theorem dA_sym {V : Vil} (hW : WF V) {a b : Nat} (ha : a < 6) (hb : b < 6) : dA V a b = dA V b a := dn_sym hW.2.2.2.2.2.1 _ hW.1 a b ha hb
theorem c_measure {u : PM} {V : Vil} (hR : RepC u 0 V) (hW : WF V) : ∃ u', f_X5_measure 0 u = some u' ∧ eqx gMe u u' ∧ u'.1 (25, 0, 0) 1 = nI V.2.2.1 ∧ okM c27 V.2.2.1 (fun i b => eF (dA V i b)) u' := by
  have h6 := hW.1
  obtain ⟨a1, a2, a3, a4, a5, a6⟩ := id hR
  have ee : (if (6 : Int32) < u.1 (1, 0, 0) 0 then (6 : Int32) else u.1 (1, 0, 0) 0) = nI V.2.2.1 := by
    rw [a3, if_neg (show ¬ (6 : Int32) < nI V.2.2.1 from nI_nlt (a := 6) h6 (by omega))]
  have hs : (pi u (25, 0, 0) 1 (nI V.2.2.1)).1 (25, 0, 0) 1 = nI V.2.2.1 := p_at _ _ _ _
  have e0 : eqx gMe u (pi u (25, 0, 0) 1 (nI V.2.2.1)) := eqx.rf.pi rfl
  obtain ⟨t0, q1, q2, q3⟩ := c_me0 h6 hs (fun a b ha hb => (e0.1 _ _ rfl).trans (by rw [a2]; exact cW_at (by omega) (by omega))) hW.2.2.2.2.1
  unfold f_X5_measure
  rw [ee, q1, Option.bind_some]
  obtain ⟨t, k1, k2, k3⟩ := am_cnt (f := f_X5_measure_L86) (s := ((0 : Int32), t0)) (fun k x => x.1 = nI k ∧ eqx g27 t0 x.2 ∧ okM c27 V.2.2.1 (fun i b => eF (dnA V.2.1 k i b)) x.2) (fun t => eqx g27 t0 t ∧ okM c27 V.2.2.1 (fun i b => eF (dA V i b)) t) V.2.2.1 ⟨rfl, eqx.rf, q3⟩ (by omega) (by
    rintro k ⟨x, s⟩ hk ⟨rfl, h1, h2⟩
    dsimp only at h1 h2
    have hs' : s.1 (25, 0, 0) 1 = nI V.2.2.1 := (h1.1 _ _ rfl).trans ((q2.1 _ _ rfl).trans hs)
    obtain ⟨t, r1, r2, r3⟩ := c_mek h6 hs' hk (fun a b ha hb => by
      have := dn_bd hW.2.2.2.2.1 k (by omega) a b ha hb
      have := p2_5 k (by omega)
      omega) h2
    unfold f_X5_measure_L86
    dsimp only
    rw [hs', if_neg (nI_ge hk (by omega)), r1, Option.bind_some, nI_1]
    exact ⟨_, rfl, rfl, h1.tr r2, r3⟩) (by
    rintro ⟨x, s⟩ ⟨rfl, h1, h2⟩
    dsimp only at h1 h2
    unfold f_X5_measure_L86
    dsimp only
    rw [show s.1 (25, 0, 0) 1 = nI V.2.2.1 from (h1.1 _ _ rfl).trans ((q2.1 _ _ rfl).trans hs), if_pos (Int32.le_refl _)]
    exact ⟨_, rfl, h1, h2⟩)
  rw [k1, Option.bind_some]
  exact ⟨t, rfl, e0.tr ((q2.tr k2).mono (fun _ _ => g27_Me)), (k2.1 _ _ rfl).trans ((q2.1 _ _ rfl).trans hs), k3⟩
/-! the same in the reference -/
def g72 (q : Key) (_ : Nat) : Bool := q.1 == 72
def c72 (s : PM) (i b : Nat) : Int32 := s.1 (72, 0, 0) (6 * i + b)
theorem c72_pi (s : PM) {a j : Nat} (hj : j < 6) (x : Int32) : c72 (pi s (72, 0, 0) (6 * a + j) x) a j = x ∧ ∀ i b, b < 6 → (i ≠ a ∨ b ≠ j) → c72 (pi s (72, 0, 0) (6 * a + j) x) i b = c72 s i b := by
  refine ⟨p_at _ _ _ _, fun i b hb h => ?_⟩
  unfold c72
  rw [p_i, if_neg]
  rintro ⟨z1, z2⟩
  omega
theorem m_minA {x y : Nat} (hx : x < 2000000) (hy : y < 2000000) (w : PM) : f_X10_min (nI x) (nI y) w = some (nI (if y < x then y else x)) := by
  unfold f_X10_min
  simp (disch := omega) only [i_le]
  by_cases h : y < x
  · rw [if_pos (by omega), if_pos h]
  · rw [if_neg h]
    by_cases h2 : y ≤ x
    · rw [if_pos h2, show y = x by omega]
    · rw [if_neg h2]
theorem m_la0 {s0 : PM} {W : Nat → Nat → Int32} {H : Nat} (h6 : H ≤ 6) (hH : s0.1 (40, 0, 0) 0 = nI H) (hw : ∀ a b, a < H → b < H → s0.1 (49, 0, 0) (6 * a + b) = W a b) (h10 : ∀ a b, a < 6 → b < 6 → ∃ n, n < 10 ∧ W a b = nI n) : ∃ t, am_loop f_X10_layApart_L2 2000 ((0 : Int32), s0) = some t ∧ eqx g72 s0 t ∧ okM c72 H (fun i b => nI (d0A W i b)) t := by
  refine nest2 (fi := f_X10_layApart_L12) (D := c72 s0) h6 ?_ ?_ ?_ ?_ eqx.rf (fun _ _ _ _ => rfl)
  · intro a j s ha hj he _
    unfold f_X10_layApart_L12
    dsimp only
    rw [show s.1 (40, 0, 0) 0 = nI H from (he.1 _ _ rfl).trans hH, if_neg (nI_ge hj (by omega)), L_6, pk_mul, nI_add, if_neg (nI_in (show 6 * a + j < 36 by omega) (by omega)), if_neg (nI_in (show 6 * a + j < 36 by omega) (by omega)), nI_clamp (show 6 * a + j < 2 ^ 31 by omega), show s.1 (49, 0, 0) (6 * a + j) = W a j from (he.1 _ _ rfl).trans (hw a j ha hj), nI_1]
    by_cases e : a = j
    · rw [if_pos (show nI a = nI j by rw [e])]
      refine ⟨_, rfl, he.pi rfl, (c72_pi _ (by omega) _).1.trans ?_, fun i b _ hb => (c72_pi _ (by omega) _).2 i b (by omega)⟩
      unfold d0A
      rw [if_pos e]
      rfl
    · rw [if_neg (fun z => e ((nI_eq (by omega) (by omega)).mp z))]
      by_cases e2 : W a j ≤ 0
      · rw [if_pos e2]
        refine ⟨_, rfl, he.pi rfl, (c72_pi _ (by omega) _).1.trans ?_, fun i b _ hb => (c72_pi _ (by omega) _).2 i b (by omega)⟩
        unfold d0A
        rw [if_neg e, if_pos e2]
        rfl
      · rw [if_neg e2]
        refine ⟨_, rfl, he.pi rfl, (c72_pi _ (by omega) _).1.trans ?_, fun i b _ hb => (c72_pi _ (by omega) _).2 i b (by omega)⟩
        unfold d0A
        rw [if_neg e, if_neg e2]
        obtain ⟨n, hn, e3⟩ := h10 a j (by omega) (by omega)
        rw [e3, nI_clamp (by omega)]
  · intro a s ha he
    unfold f_X10_layApart_L12
    dsimp only
    rw [show s.1 (40, 0, 0) 0 = nI H from (he.1 _ _ rfl).trans hH, if_pos (Int32.le_refl _)]
  · intro a s ha he
    unfold f_X10_layApart_L2
    dsimp only
    rw [show s.1 (40, 0, 0) 0 = nI H from (he.1 _ _ rfl).trans hH, if_neg (nI_ge ha (by omega)), nI_1]
  · intro s he
    unfold f_X10_layApart_L2
    dsimp only
    rw [show s.1 (40, 0, 0) 0 = nI H from (he.1 _ _ rfl).trans hH, if_pos (Int32.le_refl _)]
theorem m_lak {s0 : PM} {H : Nat} (h6 : H ≤ 6) (hH : s0.1 (40, 0, 0) 0 = nI H) {D : Nat → Nat → Nat} {k : Nat} (hk : k < H) (hb : ∀ a b, a < 6 → b < 6 → D a b ≤ 1000) (hD : okM c72 H (fun i b => nI (D i b)) s0) : ∃ t, am_loop (f_X10_layApart_L95 (nI k)) 2000 ((0 : Int32), s0) = some t ∧ eqx g72 s0 t ∧ okM c72 H (fun i b => nI (dsA D k i b)) t := by
  refine nest2 (fi := f_X10_layApart_L105 (nI k)) (D := fun i b => nI (D i b)) h6 ?_ ?_ ?_ ?_ eqx.rf hD
  · intro a j s ha hj he hm
    have e1 : s.1 (72, 0, 0) (6 * a + j) = nI (D a j) := mix_at hm ha hj (Or.inr ⟨rfl, rfl⟩)
    have e2 : s.1 (72, 0, 0) (6 * a + k) = nI (D a k) := mix_at hm ha hk (Or.inl (by show nI (dsA D k a k) = nI (D a k); rw [ds_2]))
    have e3 : s.1 (72, 0, 0) (6 * k + j) = nI (D k j) := mix_at hm hk hj (Or.inl (by show nI (dsA D k k j) = nI (D k j); rw [ds_1]))
    have b1 := hb a j (by omega) (by omega)
    have b2 := hb a k (by omega) (by omega)
    have b3 := hb k j (by omega) (by omega)
    unfold f_X10_layApart_L105
    dsimp only
    rw [show s.1 (40, 0, 0) 0 = nI H from (he.1 _ _ rfl).trans hH, if_neg (nI_ge hj (by omega)), L_6, pk_mul, pk_mul, nI_add, nI_add, nI_add, if_neg (nI_in (show 6 * a + j < 36 by omega) (by omega)), if_neg (nI_in (show 6 * a + k < 36 by omega) (by omega)), if_neg (nI_in (show 6 * k + j < 36 by omega) (by omega)), nI_clamp (show 6 * a + j < 2 ^ 31 by omega), nI_clamp (show 6 * a + k < 2 ^ 31 by omega), nI_clamp (show 6 * k + j < 2 ^ 31 by omega), e1, e2, e3, nI_add, m_minA (by omega) (by omega), Option.bind_some, nI_1]
    exact ⟨_, rfl, he.pi rfl, (c72_pi _ (by omega) _).1, fun i b _ hb => (c72_pi _ (by omega) _).2 i b (by omega)⟩
  · intro a s ha he
    unfold f_X10_layApart_L105
    dsimp only
    rw [show s.1 (40, 0, 0) 0 = nI H from (he.1 _ _ rfl).trans hH, if_pos (Int32.le_refl _)]
  · intro a s ha he
    unfold f_X10_layApart_L95
    dsimp only
    rw [show s.1 (40, 0, 0) 0 = nI H from (he.1 _ _ rfl).trans hH, if_neg (nI_ge ha (by omega)), nI_1]
  · intro s he
    unfold f_X10_layApart_L95
    dsimp only
    rw [show s.1 (40, 0, 0) 0 = nI H from (he.1 _ _ rfl).trans hH, if_pos (Int32.le_refl _)]
theorem k_g72 {w w' : PM} (h : eqx g72 w w') : chM [0] w w' := toM h (fun q k z => cM_0 (by
  unfold g72 at z
  simp only [beq_iff_eq] at z
  omega))
theorem m_layApart {w : PM} {V : Vil} (hP : RP w kP V) (hW : WF V) : ∃ w', f_X10_layApart w = some w' ∧ eqx g72 w w' ∧ okM c72 V.2.2.1 (fun i b => nI (dA V i b)) w' := by
  have h6 := hW.1
  have hs := RP_H hP
  obtain ⟨t0, q1, q2, q3⟩ := m_la0 h6 hs (fun a b ha hb => hP.2.2.1 a b ha hb) hW.2.2.2.2.1
  unfold f_X10_layApart
  rw [q1, Option.bind_some]
  obtain ⟨t, k1, k2, k3⟩ := am_cnt (f := f_X10_layApart_L85) (s := ((0 : Int32), t0)) (fun k x => x.1 = nI k ∧ eqx g72 t0 x.2 ∧ okM c72 V.2.2.1 (fun i b => nI (dnA V.2.1 k i b)) x.2) (fun t => eqx g72 t0 t ∧ okM c72 V.2.2.1 (fun i b => nI (dA V i b)) t) V.2.2.1 ⟨rfl, eqx.rf, q3⟩ (by omega) (by
    rintro k ⟨x, s⟩ hk ⟨rfl, h1, h2⟩
    dsimp only at h1 h2
    have hs' : s.1 (40, 0, 0) 0 = nI V.2.2.1 := (h1.1 _ _ rfl).trans ((q2.1 _ _ rfl).trans hs)
    obtain ⟨t, r1, r2, r3⟩ := m_lak h6 hs' hk (fun a b ha hb => dn_le hW.2.2.2.2.1 (by omega) ha hb) h2
    unfold f_X10_layApart_L85
    dsimp only
    rw [hs', if_neg (nI_ge hk (by omega)), r1, Option.bind_some, nI_1]
    exact ⟨_, rfl, rfl, h1.tr r2, r3⟩) (by
    rintro ⟨x, s⟩ ⟨rfl, h1, h2⟩
    dsimp only at h1 h2
    unfold f_X10_layApart_L85
    dsimp only
    rw [show s.1 (40, 0, 0) 0 = nI V.2.2.1 from (h1.1 _ _ rfl).trans ((q2.1 _ _ rfl).trans hs), if_pos (Int32.le_refl _)]
    exact ⟨_, rfl, h1, h2⟩)
  rw [k1, Option.bind_some]
  exact ⟨t, rfl, q2.tr k2, k3⟩
