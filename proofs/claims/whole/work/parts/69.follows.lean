/-! what weather follows -/
def nxL (a b : Nat) : List Cl → Int32 → Int32
  | [], s => s
  | x :: cs, s => nxL a b cs (if x.1 = 4 ∧ x.2.2.1.1 = a ∧ x.2.2.1.2 = b then x.2.1 else s)
def csA (V : Vil) : List Cl := match V.2.2.2.2.2 with
  | none => []
  | some y => y.2
def mnA (x y : Int32) : Int32 := if x < y then x else y
theorem mnA_c (x y : Int32) : mnA x y = mnA y x := by
  unfold mnA
  by_cases h : x < y
  · rw [if_pos h, if_neg (Int32.not_lt.mpr (Int32.le_of_lt h))]
  · rw [if_neg h]
    by_cases h2 : y < x
    · rw [if_pos h2]
    · rw [if_neg h2]
      exact Int32.le_antisymm (Int32.not_lt.mp h) (Int32.not_lt.mp h2)
/-- what is left of ten ahead of weather b -/
def lfA (V : Vil) (a : Nat) : Nat → Int32
  | 0 => 10
  | b + 1 => if b = a then lfA V a b else lfA V a b - mnA (lfA V a b) (nxL a b (csA V) 0)
def fwA (V : Vil) (a b : Nat) : Int32 := if b = a then lfA V a 3 else mnA (lfA V a b) (nxL a b (csA V) 0)
theorem c_nx_l {u : PM} {p a b N : Nat} (hN : u.1 (11, p, 0) 0 = nI N) (h10 : N ≤ 10) (ha : a < 3) (hb : b < 3) : ∀ (cs : List Cl) (c : Nat) (s : Int32) (n : Nat), clC u p c cs → c + cs.length = N → cs.length < n → am_loop (f_X3_lastNext_L5 p (nI a) (nI b) u) n (s, nI c) = some (nxL a b cs s)
  | [], c, s, 0, _, _, h => by omega
  | [], c, s, n + 1, _, hl, _ => by
    have hl : c = N := hl
    subst hl
    refine am_loop_e ?_
    unfold f_X3_lastNext_L5
    dsimp only
    rw [hN, if_pos (Int32.le_refl _)]
    rfl
  | x :: cs, c, s, 0, _, _, h => by omega
  | x :: cs, c, s, n + 1, hc, hl, hn => by
    simp only [List.length_cons] at hl hn
    obtain ⟨⟨a1, a2, a3, a4, a5, a6, a7⟩, r⟩ := hc
    have key : f_X3_lastNext_L5 p (nI a) (nI b) u (s, nI c) = some (.inl (if x.1 = 4 ∧ x.2.2.1.1 = a ∧ x.2.2.1.2 = b then x.2.1 else s, nI (c + 1))) := by
      unfold f_X3_lastNext_L5
      dsimp only
      rw [hN, if_neg (nI_ge (show c < N by omega) (by omega)), if_neg (show ¬ (10 : Int32) ≤ nI c from nI_ge (b := 10) (by omega) (by omega)), if_neg (nI_in (show c < 10 by omega) (by omega)), nI_clamp (show c < 2 ^ 31 by omega), a1, a2, a3, a4, nI_1]
      by_cases e4 : x.1 = 4
      · obtain ⟨h1, h2⟩ := a7 e4
        rw [if_pos (show nI x.1 = 4 by rw [e4]; rfl)]
        by_cases e5 : x.2.2.1.1 = a
        · rw [if_pos (show nI x.2.2.1.1 = nI a by rw [e5])]
          by_cases e6 : x.2.2.1.2 = b
          · rw [if_pos (show nI x.2.2.1.2 = nI b by rw [e6]), if_pos ⟨e4, e5, e6⟩]
          · rw [if_neg (show ¬ nI x.2.2.1.2 = nI b from fun z => e6 ((nI_eq (by omega) (by omega)).mp z)), if_neg (fun z => e6 z.2.2)]
        · rw [if_neg (show ¬ nI x.2.2.1.1 = nI a from fun z => e5 ((nI_eq (by omega) (by omega)).mp z)), if_neg (fun z => e5 z.2.1)]
      · rw [if_neg (show ¬ nI x.1 = 4 from fun z => e4 ((nI_eq (b := 4) (by omega) (by omega)).mp z)), if_neg (fun z => e4 z.1)]
    rw [am_loop_s key]
    exact c_nx_l hN h10 ha hb cs (c + 1) _ n r (by omega) (by omega)
theorem m_nx_l {w : PM} {p a b N : Nat} {lf : Int32} (hp : w.1 (40, 0, 0) 14 = nI p) (hp5 : p < 5) (hN : w.1 (51, 0, 0) p = nI N) (h10 : N ≤ 10) (ha : a < 3) (hb : b < 3) : ∀ (cs : List Cl) (c : Nat) (s : Int32) (n : Nat), clM w p c cs → c + cs.length = N → cs.length < n → am_loop (f_X10_layFollows_L34 (nI a) lf (nI b) w) n (s, nI (10 * p + c)) = some (nxL a b cs s)
  | [], c, s, 0, _, _, h => by omega
  | [], c, s, n + 1, _, hl, _ => by
    have hl : c = N := hl
    subst hl
    refine am_loop_e ?_
    unfold f_X10_layFollows_L34
    dsimp only
    rw [m_behind hp hp5 hN, Option.bind_some, if_pos (Int32.le_refl _)]
    rfl
  | x :: cs, c, s, 0, _, _, h => by omega
  | x :: cs, c, s, n + 1, hc, hl, hn => by
    simp only [List.length_cons] at hl hn
    obtain ⟨⟨a1, a2, a3, a4, a5, a6⟩, r⟩ := hc
    have key : f_X10_layFollows_L34 (nI a) lf (nI b) w (s, nI (10 * p + c)) = some (.inl (if x.1 = 4 ∧ x.2.2.1.1 = a ∧ x.2.2.1.2 = b then x.2.1 else s, nI (10 * p + (c + 1)))) := by
      unfold f_X10_layFollows_L34
      dsimp only
      rw [m_behind hp hp5 hN, Option.bind_some, if_neg (nI_ge (show 10 * p + c < 10 * p + N by omega) (by omega)), if_neg (nI_in (show 10 * p + c < 50 by omega) (by omega)), nI_clamp (show 10 * p + c < 2 ^ 31 by omega), a1, a2, nI_1]
      by_cases e4 : x.1 = 4
      · obtain ⟨h1, h2⟩ := a6 e4
        rw [if_pos (show nI x.1 = 4 by rw [e4]; rfl), a3 e4, L_3, pk_mul, nI_add]
        by_cases e5 : x.2.2.1.1 = a ∧ x.2.2.1.2 = b
        · rw [if_pos (show nI (3 * x.2.2.1.1 + x.2.2.1.2) = nI (3 * a + b) by rw [e5.1, e5.2]), if_pos ⟨e4, e5⟩]
          rfl
        · rw [if_neg (show ¬ nI (3 * x.2.2.1.1 + x.2.2.1.2) = nI (3 * a + b) from fun z => e5 (by have := (nI_eq (by omega) (by omega)).mp z; omega)), if_neg (fun z => e5 z.2)]
          rfl
      · rw [if_neg (show ¬ nI x.1 = 4 from fun z => e4 ((nI_eq (b := 4) (by omega) (by omega)).mp z)), if_neg (fun z => e4 z.1)]
        rfl
    rw [am_loop_s key]
    exact m_nx_l hp hp5 hN h10 ha hb cs (c + 1) _ n r (by omega) (by omega)
theorem lfA_none {V : Vil} (h : V.2.2.2.2.2 = none) (a : Nat) : ∀ b, lfA V a b = 10
  | 0 => rfl
  | b + 1 => by
    unfold lfA csA
    rw [h, lfA_none h a b]
    split
    · rfl
    · show (10 : Int32) - mnA 10 0 = 10
      decide
theorem c_follow {u : PM} {v a b : Nat} {V : Vil} (hR : RepC u v V) (ha : a < 3) (hb : b < 3) : f_X8_tenthsOf v (nI a) (nI b) u = some (fwA V a b) := by
  have hL := hR.2.2.2.2.2
  have step : ∀ j, j < 3 → j ≠ a → f_X8_tenthsOf_L6 v (nI a) (nI b) u (lfA V a j, nI j) = if j = b then some (.inr (.inl (mnA (lfA V a j) (nxL a j (csA V) 0)))) else some (.inl (lfA V a (j + 1), nI (j + 1))) := by
    intro j hj ja
    unfold f_X8_tenthsOf_L6
    dsimp only
    rw [if_neg (show ¬ (3 : Int32) ≤ nI j from nI_ge (b := 3) hj (by omega)), if_neg (show ¬ nI j = nI a from fun z => ja ((nI_eq (by omega) (by omega)).mp z)), nI_1]
    have es : lfA V a (j + 1) = lfA V a j - mnA (lfA V a j) (nxL a j (csA V) 0) := by
      rw [lfA, if_neg ja]
    have eb : (nI j = nI b) = (j = b) := propext (nI_eq (by omega) (by omega))
    cases ho : u.2.2 (v + 1) with
    | none =>
      rw [ho] at hL
      cases hl : V.2.2.2.2.2 with
      | some y => rw [hl] at hL; exact hL.elim
      | none =>
        dsimp only
        simp only [eb]
        have e0 : mnA (lfA V a j) (nxL a j (csA V) 0) = 0 := by
          unfold csA
          rw [hl, lfA_none hl]
          rfl
        rw [es, e0]
    | some p =>
      rw [ho] at hL
      cases hl : V.2.2.2.2.2 with
      | none => rw [hl] at hL; exact hL.elim
      | some y =>
        rw [hl] at hL
        obtain ⟨rfl, hp, hN, h10, hcs⟩ := hL
        have e1 : f_X3_lastNext y.1 (nI a) (nI j) u = some (nxL a j (csA V) 0) := by
          unfold f_X3_lastNext csA
          rw [hl, show am_loop (f_X3_lastNext_L5 y.1 (nI a) (nI j) u) 2000 ((0 : Int32), (0 : Int32)) = _ from c_nx_l hN h10 ha hj y.2 0 0 2000 hcs (by omega) (by omega)]
          rfl
        dsimp only
        rw [if_pos hp, e1, Option.bind_some]
        simp only [eb]
        rw [es, mnA_c]
        rfl
  unfold f_X8_tenthsOf
  have key := am_inv0 (f := f_X8_tenthsOf_L6 v (nI a) (nI b) u) (s := ((10 : Int32), (0 : Int32))) (fun j t => t = (lfA V a j, nI j) ∧ (b < j → b = a)) (fun e => e = .inl (fwA V a b) ∨ e = .inr (fwA V a b)) 3 ⟨rfl, fun z => by omega⟩ (by omega) ?_ ?_
  · obtain ⟨e, k1, rfl | rfl⟩ := key
    · rw [k1]; rfl
    · rw [k1]; rfl
  · rintro j t hj ⟨rfl, h1⟩
    by_cases ja : j = a
    · left
      subst ja
      unfold f_X8_tenthsOf_L6
      dsimp only
      rw [if_neg (show ¬ (3 : Int32) ≤ nI j from nI_ge (b := 3) hj (by omega)), if_pos rfl, nI_1]
      refine ⟨_, rfl, ?_, fun z => ?_⟩
      · rw [lfA, if_pos rfl]
      · by_cases y : b < j
        · exact h1 y
        · omega
    · rw [step j hj ja]
      by_cases jb : j = b
      · right
        rw [if_pos jb]
        refine ⟨_, rfl, Or.inl ?_⟩
        unfold fwA
        rw [← jb, if_neg ja]
      · left
        rw [if_neg jb]
        refine ⟨_, rfl, rfl, fun z => h1 (by omega)⟩
  · rintro t ⟨rfl, h1⟩
    unfold f_X8_tenthsOf_L6
    dsimp only
    rw [if_pos (show (3 : Int32) ≤ nI 3 by decide)]
    refine ⟨_, rfl, Or.inr ?_⟩
    unfold fwA
    rw [if_pos (h1 hb)]
theorem m_follow {w : PM} {V : Vil} (hL : LdM w (w.1 (40, 0, 0) 14) V.2.2.2.2.2) : ∃ w', f_X10_layFollows w = some w' ∧ eqx (fun q _ => q.1 == 60) w w' ∧ ∀ a b, a < 3 → b < 3 → w'.1 (60, 0, 0) (3 * a + b) = fwA V a b := by
  have nx : ∀ (t : PM) (lf : Int32) (a b : Nat), a < 3 → b < 3 → eqx (fun q _ => q.1 == 60) w t → (f_X10_first t).bind (fun r1 => am_loop (f_X10_layFollows_L34 (nI a) lf (nI b) t) 2000 ((0 : Int32), r1)) = some (nxL a b (csA V) 0) := by
    intro t lf a b ha hb ht
    have hL' : LdM t (t.1 (40, 0, 0) 14) V.2.2.2.2.2 := LdM_L ht (fun s i g1 g2 => beq_eq_false_iff_ne.mpr (by show s ≠ 60; omega)) (ht.1 _ _ rfl) hL
    unfold csA
    cases hl : V.2.2.2.2.2 with
    | none =>
      rw [hl] at hL'
      have hm : t.1 (40, 0, 0) 14 = -1 := hL'
      unfold f_X10_first
      rw [hm, if_neg (by decide), Option.bind_some]
      refine am_loop_e ?_
      unfold f_X10_layFollows_L34 f_X10_behind
      dsimp only
      rw [hm, if_neg (by decide), Option.bind_some, if_pos (Int32.le_refl _)]
      rfl
    | some y =>
      rw [hl] at hL'
      obtain ⟨b1, b2, b3, b4, b5⟩ := hL'
      rw [m_first b1 b2, Option.bind_some]
      exact m_nx_l b1 b2 b3 b4 ha hb y.2 0 0 2000 b5 (by omega) (by omega)
  have inner : ∀ (t : PM) (a : Nat), a < 3 → eqx (fun q _ => q.1 == 60) w t → ∃ t', am_loop (f_X10_layFollows_L12 (nI a)) 2000 ((10 : Int32), (0 : Int32), t) = some (lfA V a 3, t') ∧ eqx (fun q k => q.1 == 60 && (decide (3 * a ≤ k) && decide (k < 3 * a + 3))) t t' ∧ ∀ b, b < 3 → b ≠ a → t'.1 (60, 0, 0) (3 * a + b) = fwA V a b := by
    intro t a ha ht
    have key := am_cnt (f := f_X10_layFollows_L12 (nI a)) (s := ((10 : Int32), (0 : Int32), t)) (fun j x => x.1 = lfA V a j ∧ x.2.1 = nI j ∧ eqx (fun q k => q.1 == 60 && (decide (3 * a ≤ k) && decide (k < 3 * a + 3))) t x.2.2 ∧ ∀ b, b < j → b ≠ a → x.2.2.1 (60, 0, 0) (3 * a + b) = fwA V a b) (fun e => e.1 = lfA V a 3 ∧ eqx (fun q k => q.1 == 60 && (decide (3 * a ≤ k) && decide (k < 3 * a + 3))) t e.2 ∧ ∀ b, b < 3 → b ≠ a → e.2.1 (60, 0, 0) (3 * a + b) = fwA V a b) 3 ⟨rfl, rfl, eqx.rf, fun b hb => by omega⟩ (by omega) ?_ ?_
    · obtain ⟨⟨e1, e2⟩, k1, rfl, k2, k3⟩ := key
      exact ⟨e2, k1, k2, k3⟩
    · rintro j ⟨x, y, s⟩ hj ⟨rfl, rfl, h1, h2⟩
      dsimp only at h1 h2
      have hs : eqx (fun q _ => q.1 == 60) w s := ht.tr (h1.mono (fun q k z => by
        simp only [Bool.and_eq_false_iff]
        exact Or.inl z))
      unfold f_X10_layFollows_L12
      dsimp only
      rw [if_neg (show ¬ (3 : Int32) ≤ nI j from nI_ge (b := 3) hj (by omega)), nI_1]
      by_cases ja : j = a
      · subst ja
        rw [if_pos rfl]
        refine ⟨_, rfl, ?_, rfl, h1, fun b hb hb2 => h2 b (by omega) hb2⟩
        rw [lfA, if_pos rfl]
      · rw [if_neg (show ¬ nI a = nI j from fun z => ja ((nI_eq (by omega) (by omega)).mp z).symm)]
        have en := nx s (lfA V a j) a j ha hj hs
        cases hf : f_X10_first s with
        | none => rw [hf] at en; cases en
        | some r1 =>
          rw [hf, Option.bind_some] at en
          rw [Option.bind_some, en, Option.bind_some, m_min100, Option.bind_some, L_3, pk_mul, nI_add, if_neg (nI_in (show 3 * a + j < 9 by omega) (by omega)), nI_clamp (show 3 * a + j < 2 ^ 31 by omega)]
          refine ⟨_, rfl, ?_, rfl, h1.pi (by simp; omega), fun b hb hb2 => ?_⟩
          · rw [lfA, if_neg ja]
            rfl
          · dsimp only
            rw [p_i]
            by_cases eb : b = j
            · rw [if_pos ⟨by rw [eb], rfl⟩, eb]
              unfold fwA
              rw [if_neg ja]
              rfl
            · rw [if_neg (fun z => eb (by have := z.1; omega))]
              exact h2 b (by omega) hb2
    · rintro ⟨x, y, s⟩ ⟨rfl, rfl, h1, h2⟩
      dsimp only at h1 h2
      unfold f_X10_layFollows_L12
      dsimp only
      rw [if_pos (show (3 : Int32) ≤ nI 3 by decide)]
      exact ⟨_, rfl, rfl, h1, h2⟩
  have key := am_cnt (f := f_X10_layFollows_L2) (s := ((0 : Int32), w)) (fun j x => x.1 = nI j ∧ eqx (fun q _ => q.1 == 60) w x.2 ∧ ∀ a b, a < j → b < 3 → x.2.1 (60, 0, 0) (3 * a + b) = fwA V a b) (fun e => eqx (fun q _ => q.1 == 60) w e ∧ ∀ a b, a < 3 → b < 3 → e.1 (60, 0, 0) (3 * a + b) = fwA V a b) 3 ⟨rfl, eqx.rf, fun a b ha => by omega⟩ (by omega) ?_ ?_
  · obtain ⟨e, k1, k2, k3⟩ := key
    unfold f_X10_layFollows
    rw [k1]
    exact ⟨e, rfl, k2, k3⟩
  · rintro j ⟨x, s⟩ hj ⟨rfl, h1, h2⟩
    dsimp only at h1 h2
    obtain ⟨t', q1, q2, q3⟩ := inner s j hj h1
    unfold f_X10_layFollows_L2
    dsimp only
    rw [if_neg (show ¬ (3 : Int32) ≤ nI j from nI_ge (b := 3) hj (by omega)), nI_1, q1, Option.bind_some]
    dsimp only
    rw [L_4, pk_mul, if_neg (nI_in (show 4 * j < 9 by omega) (by omega)), nI_clamp (show 4 * j < 2 ^ 31 by omega)]
    refine ⟨_, rfl, rfl, (h1.tr (q2.mono (fun q k z => by
        simp only [Bool.and_eq_false_iff]
        exact Or.inl z))).pi rfl, fun a b ha hb => ?_⟩
    dsimp only
    rw [p_i]
    by_cases e1 : 3 * a + b = 4 * j
    · rw [if_pos ⟨e1, rfl⟩]
      unfold fwA
      rw [show a = j by omega, show b = j by omega, if_pos rfl]
    · rw [if_neg (fun z => e1 z.1)]
      by_cases aj : a = j
      · subst aj
        exact q3 b hb (by omega)
      · rw [q2.1 _ _ (by simp; omega)]
        exact h2 a b (by omega) hb
  · rintro ⟨x, s⟩ ⟨rfl, h1, h2⟩
    unfold f_X10_layFollows_L2
    dsimp only
    rw [if_pos (show (3 : Int32) ≤ nI 3 by decide)]
    exact ⟨s, rfl, h1, h2⟩
theorem k_g60 {w w' : PM} (h : eqx (fun q _ => q.1 == 60) w w') : chM [0] w w' := toM h (fun q k z => cM_0 (by
  simp only [beq_iff_eq] at z
  omega))
theorem O_8 {u w : PM} (h : Rel u w) (a0 a1 : Int32) : ∃ r w', f_X9_follows a0 a1 u = some r ∧ f_X10_follows a0 a1 w = some (r, w') ∧ Rel u w' := by
  obtain ⟨n, V, N, hn, hC, hN, hk, hP, hQ⟩ := Rel_V h
  unfold f_X9_follows f_X10_follows
  rcases m_isW a0 w with ⟨k, hk3, rfl, e1, e1'⟩ | ⟨_, e1, e1'⟩
  · rw [e1, e1' u, Option.bind_some, Option.bind_some, if_neg one_ne, if_neg one_ne]
    rcases m_isW a1 w with ⟨j, hj3, rfl, e2, e2'⟩ | ⟨_, e2, e2'⟩
    · obtain ⟨w', q1, q2, q3⟩ := m_follow hP.2.2.2
      rw [e2, e2' u, Option.bind_some, Option.bind_some, if_neg one_ne, if_neg one_ne, c_follow hC hk3 hj3, q1, Option.bind_some, Option.bind_some, L_3, pk_mul, nI_add, if_neg (nI_in (show 3 * k + j < 9 by omega) (by omega)), nI_clamp (show 3 * k + j < 2 ^ 31 by omega), q3 k j hk3 hj3]
      exact ⟨_, _, rfl, rfl, Rel_0 h eqx.rf (k_g60 q2)⟩
    · rw [e2, e2' u, Option.bind_some, Option.bind_some, if_pos rfl, if_pos rfl]
      exact ⟨_, _, rfl, rfl, h⟩
  · rw [e1, e1' u, Option.bind_some, Option.bind_some, if_pos rfl, if_pos rfl]
    exact ⟨_, _, rfl, rfl, h⟩
