/-! apart, quickest, where -/
def mx1 (D : Nat → Nat → Nat) (a m : Nat) : Nat → Nat
  | 0 => m
  | n + 1 => if mx1 D a m n < D a n then D a n else mx1 D a m n
def mx2 (D : Nat → Nat → Nat) (H : Nat) : Nat → Nat
  | 0 => 0
  | n + 1 => mx1 D n (mx2 D H n) H
theorem mx1_le {D : Nat → Nat → Nat} {a m : Nat} (hm : m ≤ 1000) : ∀ n, (∀ b, b < n → D a b ≤ 1000) → mx1 D a m n ≤ 1000
  | 0, _ => hm
  | n + 1, h => by
    have := mx1_le hm n (fun b hb => h b (by omega))
    have := h n (by omega)
    unfold mx1
    split <;> omega
theorem mx2_le {D : Nat → Nat → Nat} {H : Nat} (h : ∀ a b, a < H → b < H → D a b ≤ 1000) : ∀ n, n ≤ H → mx2 D H n ≤ 1000
  | 0, _ => by unfold mx2; omega
  | n + 1, hn => mx1_le (mx2_le h n (by omega)) H (fun b hb => h n b (by omega) hb)
theorem c_widest {u : PM} {H : Nat} {D : Nat → Nat → Nat} (h6 : H ≤ 6) (hH : u.1 (25, 0, 0) 1 = nI H) (hb : ∀ a b, a < H → b < H → D a b ≤ 1000) (hD : okM c27 H (fun i b => eF (D i b)) u) : f_X5_widest u = some (if mx2 D H H < 1000 then nI (mx2 D H H) else -5) := by
  have inner : ∀ a m, a < H → m ≤ 1000 → am_loop (f_X5_widest_L14 (nI a) u) 2000 (eF m, (0 : Int32)) = some (eF (mx1 D a m H)) := fun a m ha hm => by
    refine am_seq (fun j => (eF (mx1 D a m j), nI j)) _ H (fun j hj => ?_) ?_ (by omega)
    · unfold f_X5_widest_L14
      dsimp only
      rw [hH, if_neg (nI_ge hj (by omega)), if_neg (nI_in (show a < 6 by omega) (by omega)), if_neg (nI_in (show j < 6 by omega) (by omega)), nI_clamp (show a < 2 ^ 31 by omega), nI_clamp (show j < 2 ^ 31 by omega), show u.1 (27, 0, a) j = eF (D a j) from hD a j ha hj, nI_1, mx1]
      simp only [eF_lt (mx1_le hm j (fun b hb' => hb a b ha (by omega))) (hb a j ha hj)]
      split <;> rfl
    · unfold f_X5_widest_L14
      dsimp only
      rw [hH, if_pos (Int32.le_refl _)]
  have outer : am_loop (f_X5_widest_L4 u) 2000 ((0 : Int32), (0 : Int32)) = some (eF (mx2 D H H)) := by
    refine am_seq (fun j => (eF (mx2 D H j), nI j)) _ H (fun j hj => ?_) ?_ (by omega)
    · unfold f_X5_widest_L4
      dsimp only
      rw [hH, if_neg (nI_ge hj (by omega)), inner j _ hj (mx2_le hb j (by omega)), Option.bind_some, nI_1]
      rfl
    · unfold f_X5_widest_L4
      dsimp only
      rw [hH, if_pos (Int32.le_refl _)]
  have hm := mx2_le hb H (Nat.le_refl _)
  unfold f_X5_widest
  rw [outer, Option.bind_some]
  by_cases e : mx2 D H H < 1000
  · rw [eF_s e, if_pos e, if_neg (show ¬ (1000000 : Int32) ≤ nI (mx2 D H H) from nI_ge (b := 1000000) (by omega) (by omega))]
  · rw [if_neg e, show mx2 D H H = 1000 by omega, eF_k, if_pos (show (1000000 : Int32) ≤ nI 1000000 by decide)]
theorem m_widest {w : PM} {H : Nat} {D : Nat → Nat → Nat} (h6 : H ≤ 6) (hH : w.1 (40, 0, 0) 0 = nI H) (hb : ∀ a b, a < H → b < H → D a b ≤ 1000) (hD : okM c72 H (fun i b => nI (D i b)) w) : am_loop (f_X10_apart_L8 w) 2000 ((0 : Int32), (0 : Int32)) = some (nI (mx2 D H H)) := by
  have inner : ∀ a m, a < H → m ≤ 1000 → am_loop (f_X10_apart_L18 (nI a) w) 2000 (nI m, (0 : Int32)) = some (nI (mx1 D a m H)) := fun a m ha hm => by
    refine am_seq (fun j => (nI (mx1 D a m j), nI j)) _ H (fun j hj => ?_) ?_ (by omega)
    · have b1 := mx1_le hm j (fun b hb' => hb a b ha (show b < H by omega))
      have b2 := hb a j ha hj
      unfold f_X10_apart_L18
      dsimp only
      rw [hH, if_neg (nI_ge hj (by omega)), L_6, pk_mul, nI_add, if_neg (nI_in (show 6 * a + j < 36 by omega) (by omega)), nI_clamp (show 6 * a + j < 2 ^ 31 by omega), show w.1 (72, 0, 0) (6 * a + j) = nI (D a j) from hD a j ha hj, nI_1, mx1]
      simp (disch := omega) only [i_le]
      by_cases e : mx1 D a m j < D a j
      · rw [if_neg (by omega), if_pos e]
      · rw [if_pos (by omega), if_neg e]
    · unfold f_X10_apart_L18
      dsimp only
      rw [hH, if_pos (Int32.le_refl _)]
  refine am_seq (fun j => (nI (mx2 D H j), nI j)) _ H (fun j hj => ?_) ?_ (by omega)
  · unfold f_X10_apart_L8
    dsimp only
    rw [hH, if_neg (nI_ge hj (by omega)), inner j _ hj (mx2_le hb j (by omega)), Option.bind_some, nI_1]
    rfl
  · unfold f_X10_apart_L8
    dsimp only
    rw [hH, if_pos (Int32.le_refl _)]
theorem O_16 {u w : PM} (h : Rel u w) : ∃ r u' w', f_X9_apart u = some (r, u') ∧ f_X10_apart w = some (r, w') ∧ Rel u' w' := by
  obtain ⟨n, V, N, hn, hC, hN, hk, hP, hQ⟩ := Rel_V h
  have h6 := hk.1.1
  have hb : ∀ a b, a < V.2.2.1 → b < V.2.2.1 → dA V a b ≤ 1000 := fun a b ha hb => dA_le hk.1 (by omega) (by omega)
  obtain ⟨u', q1, q2, q3, q4⟩ := c_measure hC hk.1
  obtain ⟨w', r1, r2, r3⟩ := m_layApart hP hk.1
  have er := Rel_0 h (k_gMe q2) (k_g72 r2)
  have hm := mx2_le hb V.2.2.1 (Nat.le_refl _)
  unfold f_X9_apart f_X10_apart
  rw [q1, r1, Option.bind_some, Option.bind_some, c_widest h6 q3 hb q4, m_widest h6 ((r2.1 _ _ rfl).trans (RP_H hP)) hb r3, Option.bind_some, Option.bind_some]
  by_cases e : mx2 (dA V) V.2.2.1 V.2.2.1 < 1000
  · rw [if_pos e, if_pos (show nI (mx2 (dA V) V.2.2.1 V.2.2.1) < 1000 from nI_lt (b := 1000) e (by omega))]
    exact ⟨_, _, _, rfl, rfl, er⟩
  · rw [if_neg e, if_neg (show ¬ nI (mx2 (dA V) V.2.2.1 V.2.2.1) < 1000 from nI_nlt (b := 1000) (by omega) (by omega))]
    exact ⟨_, _, _, rfl, rfl, er⟩
/-- the fewest hours from house h to one of a set -/
def nsD (D : Nat → Nat → Nat) (h s : Nat) : Nat → Nat
  | 0 => 1000
  | n + 1 => if s.testBit n = true then (if D h n < nsD D h s n then D h n else nsD D h s n) else nsD D h s n
theorem nsD_le (D : Nat → Nat → Nat) (h s : Nat) : ∀ n, nsD D h s n ≤ 1000
  | 0 => by unfold nsD; omega
  | n + 1 => by
    have := nsD_le D h s n
    unfold nsD
    split
    · split <;> omega
    · exact this
theorem m_nearest {w : PM} {H h s : Nat} {D : Nat → Nat → Nat} (h6 : H ≤ 6) (hh : h < H) (hs : s < 64) (hH : w.1 (40, 0, 0) 0 = nI H) (hb : ∀ a b, a < H → b < H → D a b ≤ 1000) (hD : okM c72 H (fun i b => nI (D i b)) w) : f_X10_nearest (nI h) (nI s) w = some (nI (nsD D h s H)) := by
  unfold f_X10_nearest
  have key : am_loop (f_X10_nearest_L7 (nI h) (nI s) w) 2000 ((1000 : Int32), (0 : Int32)) = some (nI (nsD D h s H)) := by
    refine am_seq (fun j => (nI (nsD D h s j), nI j)) _ H (fun j hj => ?_) ?_ (by omega)
    · have b1 := nsD_le D h s j
      have b2 := hb h j hh hj
      unfold f_X10_nearest_L7
      dsimp only
      rw [hH, if_neg (nI_ge hj (by omega)), m_has hs (by omega), Option.bind_some, nI_1, nsD]
      by_cases e : s.testBit j = true
      · rw [if_pos e, if_neg one_ne, L_6, pk_mul, nI_add, if_neg (nI_in (show 6 * h + j < 36 by omega) (by omega)), nI_clamp (show 6 * h + j < 2 ^ 31 by omega), show w.1 (72, 0, 0) (6 * h + j) = nI (D h j) from hD h j hh hj, m_minA (by omega) (by omega), Option.bind_some, if_pos e]
      · rw [if_neg e, if_pos rfl, if_neg e]
    · unfold f_X10_nearest_L7
      dsimp only
      rw [hH, if_pos (Int32.le_refl _)]
  rw [key]
  rfl
theorem c_toFire {u : PM} {V : Vil} {h : Nat} (hR : RepC u 0 V) (hW : WF V) (hh : h < V.2.2.1) (hH : u.1 (25, 0, 0) 1 = nI V.2.2.1) (hD : okM c27 V.2.2.1 (fun i b => eF (dA V i b)) u) : f_X5_toFire 0 (nI h) u = some (if nsD (dA V) h (lit V.1 V.2.2.1) V.2.2.1 < 1000 then nI (nsD (dA V) h (lit V.1 V.2.2.1) V.2.2.1) else -5) := by
  have h6 := hW.1
  obtain ⟨a1, a2, a3, a4, a5, a6⟩ := id hR
  have key : am_loop (f_X5_toFire_L6 0 (nI h) u) 2000 ((1000000 : Int32), (0 : Int32)) = some (eF (nsD (dA V) h (lit V.1 V.2.2.1) V.2.2.1)) := by
    refine am_seq (fun j => (eF (nsD (dA V) h (lit V.1 V.2.2.1) j), nI j)) _ V.2.2.1 (fun j hj => ?_) ?_ (by omega)
    · have b1 := nsD_le (dA V) h (lit V.1 V.2.2.1) j
      have b2 := dA_le hW (a := h) (b := j) (by omega) (by omega)
      unfold f_X5_toFire_L6
      dsimp only
      rw [hH, if_neg (nI_ge hj (by omega)), c_find a3 h6 hj, Option.bind_some]
      dsimp only
      rw [if_pos (show j < 6 by omega), if_neg (nI_pos (show h < 2 ^ 31 by omega)), if_neg (nI_ge hh (by omega)), show u.1 (3, 0, j) 1 = V.1 j 1 from (by rw [a1]; exact cF_at (by omega) (by omega)), nI_1, nsD, lit_tb, decide_eq_true hj, Bool.true_and]
      by_cases e : V.1 j 1 = 0
      · rw [if_pos e, if_neg (show ¬ (!decide (V.1 j 1 = 0)) = true by simp [e])]
      · rw [if_neg e, if_neg (nI_in (show j < 6 by omega) (by omega)), if_neg (nI_in (show h < 6 by omega) (by omega)), nI_clamp (show j < 2 ^ 31 by omega), nI_clamp (show h < 2 ^ 31 by omega), show u.1 (27, 0, j) h = eF (dA V h j) from (hD j h hj hh).trans (by show eF (dA V j h) = _; rw [dA_sym hW (by omega) (by omega)]), if_pos (show (!decide (V.1 j 1 = 0)) = true by simp [e])]
        simp only [eF_lt b2 b1]
        split <;> rfl
    · unfold f_X5_toFire_L6
      dsimp only
      rw [hH, if_pos (Int32.le_refl _)]
  have hm := nsD_le (dA V) h (lit V.1 V.2.2.1) V.2.2.1
  unfold f_X5_toFire
  rw [key, Option.bind_some]
  generalize nsD (dA V) h (lit V.1 V.2.2.1) V.2.2.1 = m at hm
  by_cases e : m < 1000
  · rw [eF_s e, if_pos e, if_neg (show ¬ (1000000 : Int32) ≤ nI m from nI_ge (b := 1000000) (by omega) (by omega))]
  · rw [if_neg e, show m = 1000 by omega, eF_k, if_pos (show (1000000 : Int32) ≤ nI 1000000 by decide)]
theorem O_14 {u w : PM} (h : Rel u w) (a0 a1 : Int32) : ∃ r u' w', f_X9_quickest a0 a1 u = some (r, u') ∧ f_X10_quickest a0 a1 w = some (r, w') ∧ Rel u' w' := by
  obtain ⟨n, V, N, hn, hC, hN, hk, hP, hQ⟩ := Rel_V h
  have h6 := hk.1.1
  obtain ⟨b1, b2, b3, b4, b5, b6⟩ := id hC
  have hb : ∀ a b, a < V.2.2.1 → b < V.2.2.1 → dA V a b ≤ 1000 := fun a b ha hb => dA_le hk.1 (by omega) (by omega)
  unfold f_X9_quickest f_X10_quickest
  rcases m_isH (RP_H hP) h6 a0 with ⟨i, hi, rfl, e1⟩ | ⟨hi, e1⟩
  · rw [c_find b3 h6 hi, e1, Option.bind_some, Option.bind_some, if_neg one_ne]
    dsimp only
    rw [if_pos (show i < 6 by omega)]
    rcases m_inN (n := 1) (by omega) a1 w with ⟨j, hj, rfl, e2⟩ | ⟨hj, e2⟩
    · obtain ⟨u', q1, q2, q3, q4⟩ := c_measure hC hk.1
      obtain ⟨w', r1, r2, r3⟩ := m_layApart hP hk.1
      have hC' := RepC_k (k_gMe q2) rfl rfl hC
      have hP' := RP_k (k_g72 r2) rfl rfl hP
      have er := Rel_0 h (k_gMe q2) (k_g72 r2)
      rw [show f_X10_in (nI j) (0 : Int32) (1 : Int32) w = some 1 from e2, Option.bind_some, if_neg (nI_pos (by omega)), if_pos (show nI j ≤ (1 : Int32) from nI_le (b := 1) hj (by omega)), if_neg one_ne, q1, r1, Option.bind_some, Option.bind_some, c_toFire hC' hk.1 hi q3 q4, show w'.1 (40, 0, 0) 1 = nI (lit V.1 V.2.2.1) from hP'.1.2.1, m_nearest h6 hi (lit_64 _ h6) (RP_H hP') hb r3, Option.bind_some, Option.bind_some]
      have hm := nsD_le (dA V) i (lit V.1 V.2.2.1) V.2.2.1
      generalize nsD (dA V) i (lit V.1 V.2.2.1) V.2.2.1 = m at hm
      by_cases e : m < 1000
      · obtain ⟨w2, s1, s2, s3, s4, s5, s6⟩ := m_asIs hP' hk.1
        have er2 := Rel_0 er (eqx.rf) (k_gAs s2)
        rw [if_pos e, if_pos (show nI m < 1000 from nI_lt (b := 1000) e (by omega)), s1, Option.bind_some, if_neg (nI_pos (show m < 2 ^ 31 by omega))]
        have : j = 0 ∨ j = 1 := by omega
        rcases this with rfl | rfl
        · rw [if_pos (show nI 0 = 0 from rfl), if_pos (show nI 0 = 0 from rfl)]
          exact ⟨_, _, _, rfl, rfl, er2⟩
        · rw [if_neg (show ¬ nI 1 = 0 by decide), if_neg (show ¬ nI 1 = 0 by decide), show u'.1 (1, 0, 0) 3 = V.2.2.2.1 from hC'.2.2.2.1, show w2.1 (40, 0, 0) 3 = V.2.2.2.1 from (s2.1 _ _ rfl).trans hP'.1.2.2.2]
          obtain ⟨u3, t1, t2⟩ := c_sum hC' hk.1 (show 2 < 4 by omega) hi V.2.2.2.1
          obtain ⟨w3, t3, t4⟩ := m_sum s4 hk.1 (show 2 < 4 by omega) hi V.2.2.2.1
          rw [show (2 : Int32) = nI 2 from rfl, t1, t3, Option.bind_some, Option.bind_some]
          have er3 := Rel_0 er2 (k_gF t2) (k_gP t4)
          dsimp only
          by_cases e5 : sumA V 2 i V.2.2.2.1 < nI m
          · rw [if_pos e5, if_pos e5]
            exact ⟨_, _, _, rfl, rfl, er3⟩
          · rw [if_neg e5, if_neg e5]
            exact ⟨_, _, _, rfl, rfl, er3⟩
      · rw [if_neg e, if_neg (show ¬ nI m < 1000 from nI_nlt (b := 1000) (by omega) (by omega)), if_pos (show (-5 : Int32) < 0 by decide)]
        have : j = 0 ∨ j = 1 := by omega
        rcases this with rfl | rfl
        · rw [if_pos (show nI 0 = 0 from rfl), if_pos (show nI 0 = 0 from rfl)]
          exact ⟨_, _, _, rfl, rfl, er⟩
        · rw [if_neg (show ¬ nI 1 = 0 by decide), if_neg (show ¬ nI 1 = 0 by decide)]
          exact ⟨_, _, _, rfl, rfl, er⟩
    · rw [show f_X10_in a1 (0 : Int32) (1 : Int32) w = some 0 from e2, Option.bind_some, if_pos rfl]
      refine ⟨-1, u, w, ?_, rfl, h⟩
      by_cases z : a1 < 0
      · rw [if_pos z]
      · rw [if_neg z, if_neg (show ¬ a1 ≤ (1 : Int32) from Int32.not_le.mpr (hj.resolve_left z))]
  · rw [c_find0 b3 h6 hi, e1, Option.bind_some, Option.bind_some, if_pos rfl]
    exact ⟨_, _, _, rfl, rfl, h⟩
def allD (D : Nat → Nat → Nat) (s r H : Nat) : Nat → Bool
  | 0 => true
  | n + 1 => allD D s r H n && decide (nsD D n s H ≤ r)
theorem allD_t {D : Nat → Nat → Nat} {s r H : Nat} : ∀ n, (allD D s r H n = true) ↔ ∀ i, i < n → nsD D i s H ≤ r
  | 0 => ⟨fun _ i hi => by omega, fun _ => rfl⟩
  | n + 1 => by
    unfold allD
    rw [Bool.and_eq_true, allD_t n, decide_eq_true_eq]
    constructor
    · rintro ⟨h1, h2⟩ i hi
      by_cases e : i = n
      · rw [e]; exact h2
      · exact h1 i (by omega)
    · exact fun h => ⟨fun i hi => h i (by omega), h n (by omega)⟩
theorem c_reach {u : PM} {H s r : Nat} {D : Nat → Nat → Nat} (h6 : H ≤ 6) (hs : s < 64) (hr : r ≤ 40) (hH : u.1 (25, 0, 0) 1 = nI H) (hb : ∀ a b, a < H → b < H → D a b ≤ 1000) (hsy : ∀ a b, a < H → b < H → D a b = D b a) (hD : okM c27 H (fun i b => eF (D i b)) u) : f_X5_isReached (nI s) (nI r) u = some (b2i (allD D s r H H)) := by
  have inner : ∀ h, h < H → am_loop (f_X5_isReached_L16 (nI s) (nI r) (nI h) u) 2000 ((0 : Int32), (0 : Int32)) = some (b2i (decide (nsD D h s H ≤ r))) := fun h hh => by
    have e0 : (0 : Int32) = b2i (decide (nsD D h s 0 ≤ r)) := by
      rw [decide_eq_false (show ¬ nsD D h s 0 ≤ r by unfold nsD; omega)]
      rfl
    have e00 : ((0 : Int32), (0 : Int32)) = (b2i (decide (nsD D h s 0 ≤ r)), nI 0) := by
      rw [← e0]
      rfl
    rw [e00]
    refine am_seq (fun j => (b2i (decide (nsD D h s j ≤ r)), nI j)) _ H (fun j hj => ?_) ?_ (by omega)
    · unfold f_X5_isReached_L16
      dsimp only
      rw [hH, if_neg (nI_ge hj (by omega)), b_tb0 s hs j (by omega), nI_1, nsD]
      simp only [b2i_0]
      by_cases e : nsD D h s j ≤ r
      · rw [decide_eq_true e, if_neg (by simp)]
        have : (if s.testBit j = true then (if D h j < nsD D h s j then D h j else nsD D h s j) else nsD D h s j) ≤ r := by
          split
          · split <;> omega
          · exact e
        rw [decide_eq_true this]
        rfl
      · rw [decide_eq_false e, if_pos rfl]
        by_cases e2 : s.testBit j = true
        · rw [if_pos e2, if_neg one_ne, if_neg (nI_in (show j < 6 by omega) (by omega)), if_neg (nI_in (show h < 6 by omega) (by omega)), nI_clamp (show j < 2 ^ 31 by omega), nI_clamp (show h < 2 ^ 31 by omega), show u.1 (27, 0, j) h = eF (D h j) from (hD j h hj hh).trans (by show eF (D j h) = _; rw [hsy j h hj hh]), if_pos e2, ← eF_s (show r < 1000 by omega)]
          simp only [eF_lt (show r ≤ 1000 by omega) (hb h j hh hj)]
          by_cases e3 : r < D h j
          · rw [if_pos e3, decide_eq_false (by split <;> omega)]
            rfl
          · rw [if_neg e3, decide_eq_true (by split <;> omega)]
            rfl
        · rw [if_neg e2, if_pos rfl, if_neg e2, decide_eq_false e]
          rfl
    · unfold f_X5_isReached_L16
      dsimp only
      rw [hH, if_pos (Int32.le_refl _)]
  unfold f_X5_isReached
  obtain ⟨e, k1, k2⟩ := am_inv0 (f := f_X5_isReached_L2 (nI s) (nI r) u) (s := (0 : Int32)) (fun j t => t = nI j ∧ ∀ i, i < j → nsD D i s H ≤ r) (fun e => (e = .inl 0 ∧ allD D s r H H = false) ∨ (e = .inr () ∧ allD D s r H H = true)) H ⟨rfl, fun i hi => by omega⟩ (by omega) (by
    rintro j t hj ⟨rfl, h1⟩
    unfold f_X5_isReached_L2
    rw [hH, if_neg (nI_ge hj (by omega)), inner j hj, Option.bind_some, nI_1]
    simp only [b2i_0]
    by_cases e : nsD D j s H ≤ r
    · rw [decide_eq_true e, if_neg (by simp)]
      refine Or.inl ⟨_, rfl, rfl, fun i hi => ?_⟩
      by_cases e2 : i = j
      · rw [e2]; exact e
      · exact h1 i (by omega)
    · rw [decide_eq_false e, if_pos rfl]
      refine Or.inr ⟨_, rfl, Or.inl ⟨rfl, ?_⟩⟩
      cases e3 : allD D s r H H with
      | false => rfl
      | true => exact absurd ((allD_t H).mp e3 j hj) e) (by
    rintro t ⟨rfl, h1⟩
    unfold f_X5_isReached_L2
    rw [hH, if_pos (Int32.le_refl _)]
    exact ⟨_, rfl, Or.inr ⟨rfl, (allD_t H).mpr h1⟩⟩)
  rw [k1, Option.bind_some]
  rcases k2 with ⟨rfl, k3⟩ | ⟨rfl, k3⟩
  · rw [k3]; rfl
  · rw [k3]; rfl
theorem m_reach {w : PM} {H s r : Nat} {D : Nat → Nat → Nat} (x2 : Int32) (h6 : H ≤ 6) (hs : s < 64) (hr : r ≤ 40) (hH : w.1 (40, 0, 0) 0 = nI H) (hb : ∀ a b, a < H → b < H → D a b ≤ 1000) (hD : okM c72 H (fun i b => nI (D i b)) w) : am_loop (f_X10_where_L59 (nI r) x2 (nI s) w) 2000 ((1 : Int32), (0 : Int32)) = some (b2i (allD D s r H H)) := by
  refine am_seq (fun j => (b2i (allD D s r H j), nI j)) _ H (fun j hj => ?_) ?_ (by omega)
  · have b1 := nsD_le D j s H
    unfold f_X10_where_L59
    dsimp only
    rw [hH, if_neg (nI_ge hj (by omega)), nI_1, allD]
    simp only [b2i_0]
    by_cases e : allD D s r H j = false
    · rw [if_pos e, e]
      rfl
    · rw [if_neg e, m_nearest h6 hj hs hH hb hD, Option.bind_some, (Bool.not_eq_false _).mp e]
      simp (disch := omega) only [i_lt]
      by_cases e2 : nsD D j s H ≤ r
      · rw [if_neg (by omega), decide_eq_true e2]
        rfl
      · rw [if_pos (by omega), decide_eq_false e2]
        rfl
  · unfold f_X10_where_L59
    dsimp only
    rw [hH, if_pos (Int32.le_refl _)]
theorem p2_64 : ∀ h, h ≤ 6 → 2 ^ h ≤ 64 := by decide
theorem O_15 {u w : PM} (h : Rel u w) (a0 : Int32) : ∃ r u' w', f_X9_where a0 u = some (r, u') ∧ f_X10_where a0 w = some (r, w') ∧ Rel u' w' := by
  obtain ⟨n, V, N, hn, hC, hN, hk, hP, hQ⟩ := Rel_V h
  have h6 := hk.1.1
  have hb : ∀ a b, a < V.2.2.1 → b < V.2.2.1 → dA V a b ≤ 1000 := fun a b ha hb => dA_le hk.1 (by omega) (by omega)
  have hsy : ∀ a b, a < V.2.2.1 → b < V.2.2.1 → dA V a b = dA V b a := fun a b ha hb => dA_sym hk.1 (by omega) (by omega)
  unfold f_X9_where f_X10_where
  rcases m_inN (n := 40) (by omega) a0 w with ⟨r, hr, rfl, e2⟩ | ⟨hj, e2⟩
  · obtain ⟨u', q1, q2, q3, q4⟩ := c_measure hC hk.1
    obtain ⟨w', r1, r2, r3⟩ := m_layApart hP hk.1
    have er := Rel_0 h (k_gMe q2) (k_g72 r2)
    have hH := RP_H (RP_k (k_g72 r2) rfl rfl hP)
    rw [show (40 : Int32) = nI 40 from rfl, e2, Option.bind_some, if_neg (nI_pos (by omega)), if_pos (nI_le hr (by omega)), if_neg one_ne, q1, r1, Option.bind_some, Option.bind_some]
    unfold f_X5_fewest
    have h64 := p2_64 _ h6
    obtain ⟨e, e', k1, k2, k3⟩ := am_two (f := f_X5_fewest_L9 (nI r) u') (g := f_X10_where_L23 (nI r) w') (s := ((-5 : Int32), (7 : Int32), (0 : Int32))) (t := ((-5 : Int32), (0 : Int32))) (fun j s t => s.2.2 = nI j ∧ t.2 = nI j ∧ s.1 = t.1 ∧ ((s.1 = -5 ∧ s.2.1 = 7) ∨ ∃ q, q < 64 ∧ s.1 = nI q ∧ s.2.1 = nI (pop q))) (fun e e' => e = e') (2 ^ V.2.2.1) ⟨rfl, rfl, rfl, Or.inl ⟨rfl, rfl⟩⟩ (by omega) (by
      rintro j ⟨b, f, x⟩ ⟨b', x'⟩ hj ⟨rfl, rfl, rfl, hq⟩
      dsimp only at hq
      left
      have hp := pop7 j (by omega)
      unfold f_X5_fewest_L9 f_X10_where_L23
      dsimp only
      rw [q3, hH, b_shl _ h6, if_neg (nI_ge hj (by omega)), if_neg (nI_ge hj (by omega)), c_bc (by omega), Option.bind_some, c_reach h6 (by omega) hr q3 hb hsy q4, m_reach b h6 (by omega) hr hH hb r3, Option.bind_some, Option.bind_some, Option.bind_some, nI_1, m_ones (by omega), Option.bind_some]
      simp only [b2i_0]
      have rest : ∃ s' t', (if allD (dA V) j r V.2.2.1 V.2.2.1 = false then some (Sum.inl (b, f, nI (j + 1))) else some (Sum.inl (nI j, nI (pop j), nI (j + 1)))) = some (Sum.inl s' : (Int32 × Int32 × Int32) ⊕ Int32) ∧ (if allD (dA V) j r V.2.2.1 V.2.2.1 = false then some (Sum.inl (b, nI (j + 1))) else some (Sum.inl (nI j, nI (j + 1)))) = some (Sum.inl t' : (Int32 × Int32) ⊕ Int32) ∧ s'.2.2 = nI (j + 1) ∧ t'.2 = nI (j + 1) ∧ s'.1 = t'.1 ∧ ((s'.1 = -5 ∧ s'.2.1 = 7) ∨ ∃ q, q < 64 ∧ s'.1 = nI q ∧ s'.2.1 = nI (pop q)) := by
        by_cases e : allD (dA V) j r V.2.2.1 V.2.2.1 = false
        · rw [if_pos e, if_pos e]
          exact ⟨_, _, rfl, rfl, rfl, rfl, rfl, hq⟩
        · rw [if_neg e, if_neg e]
          exact ⟨_, _, rfl, rfl, rfl, rfl, rfl, Or.inr ⟨j, by omega, rfl, rfl⟩⟩
      rcases hq with ⟨e1, e3⟩ | ⟨q, hq, e1, e3⟩
      · rw [if_neg (show ¬ f ≤ nI (pop j) by rw [e3]; exact nI_ge (b := 7) (by omega) (by omega)), if_pos (show b < 0 by rw [e1]; decide)]
        exact rest
      · have hpq := pop7 q (by omega)
        rw [if_neg (show ¬ b < 0 by rw [e1]; exact nI_pos (by omega)), show f_X10_ones b w' = some (nI (pop q)) by rw [e1]; exact m_ones hq w', Option.bind_some, e3]
        simp (disch := omega) only [i_le, i_lt]
        by_cases e : pop q ≤ pop j
        · rw [if_pos e, if_neg (show ¬ pop j < pop q by omega)]
          exact ⟨_, _, rfl, rfl, rfl, rfl, rfl, Or.inr ⟨q, hq, e1, rfl⟩⟩
        · rw [if_neg e, if_pos (show pop j < pop q by omega), ← e3]
          exact rest) (by
      rintro ⟨b, f, x⟩ ⟨b', x'⟩ ⟨rfl, rfl, rfl, hq⟩
      unfold f_X5_fewest_L9 f_X10_where_L23
      dsimp only
      rw [q3, hH, b_shl _ h6, if_pos (Int32.le_refl _), if_pos (Int32.le_refl _)]
      exact ⟨_, _, rfl, rfl, rfl⟩)
    rw [k1, k2, k3, Option.bind_some, Option.bind_some, Option.bind_some]
    exact ⟨_, _, _, rfl, rfl, er⟩
  · rw [show (40 : Int32) = nI 40 from rfl, e2, Option.bind_some, if_pos rfl]
    refine ⟨-2, u, w, ?_, rfl, h⟩
    by_cases z : a0 < 0
    · rw [if_pos z]
    · rw [if_neg z, if_neg (Int32.not_le.mpr (hj.resolve_left z))]
