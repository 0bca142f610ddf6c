/-! what a keeper does -/
def aheadA (V : Vil) (h : Nat) : Bool := decide (nI (lit V.1 V.2.2.1) &&& (((1 : Int32) <<< (nI h &&& 31)) - (1 : Int32)) = 0)
def keepA (V : Vil) (h : Nat) (wt : Int32) : Bool :=
  if V.1 h 2 = 2 then aheadA V h
  else if V.1 h 2 = 3 then !decide (sumA V 3 h wt < V.1 h 3)
  else if V.1 h 2 = 4 then !decide (V.1 h 0 < V.1 h 3)
  else if V.1 h 2 = 5 then !decide (((V.1 h 4) >>> ((V.2.2.2.2.1 - V.2.2.2.2.1 / (24 : Int32) * (24 : Int32)) &&& 31)) &&& (1 : Int32) = 0)
  else if V.1 h 2 = 6 then !decide (V.1 h 3 ≤ nI (pop (clr (lit V.1 V.2.2.1) h)))
  else true
def sendA (V : Vil) (h : Nat) (wt : Int32) : Bool :=
  if V.1 h 2 = 1 then true
  else if V.1 h 2 = 2 then aheadA V h
  else if V.1 h 2 = 3 then !decide (sumA V 3 h wt < V.1 h 3)
  else if V.1 h 2 = 4 then true
  else if V.1 h 2 = 5 then aheadA V h
  else if V.1 h 2 = 6 then !decide (sumA V 3 h wt < V.1 h 3)
  else false
def nearA (V : Vil) (h : Nat) : Option Nat := nrA V.1 V.2.1 h V.2.2.1
def choA (V : Vil) (h : Nat) (wt : Int32) : Nat :=
  if V.1 h 1 = 0 then (if V.1 h 5 = 0 then (if nearA V h = none then 0 else if sendA V h wt = true then 3 else 0) else 0)
  else if keepA V h wt = true then 1 else 2
theorem b2i_0 (b : Bool) : (b2i b = 0) = (b = false) := by cases b <;> simp [b2i]
theorem b2i_d (p : Prop) [Decidable p] : b2i (decide p) = if p then 1 else 0 := by
  unfold b2i
  by_cases h : p <;> simp [h]
theorem b2i_n (p : Prop) [Decidable p] : b2i (!decide p) = if p then 0 else 1 := by
  unfold b2i
  by_cases h : p <;> simp [h]
theorem c_keep {u : PM} {v h : Nat} {V : Vil} (hR : RepC u v V) (hW : WF V) (hh : h < V.2.2.1) (wt : Int32) : ∃ u', f_X8_isKeeping v h (nI h) wt u = some (b2i (keepA V h wt), u') ∧ eqx gF u u' := by
  have h6 := hW.1
  obtain ⟨a1, a2, a3, a4, a5, a6⟩ := id hR
  have k2 : u.1 (3, v, h) 2 = V.1 h 2 := by rw [a1]; exact cF_at (by omega) (by omega)
  have k3 : u.1 (3, v, h) 3 = V.1 h 3 := by rw [a1]; exact cF_at (by omega) (by omega)
  have k0 : u.1 (3, v, h) 0 = V.1 h 0 := by rw [a1]; exact cF_at (by omega) (by omega)
  have k4 : u.1 (3, v, h) 4 = V.1 h 4 := by rw [a1]; exact cF_at (by omega) (by omega)
  have kl : f_X8_litBits v u = some (nI (lit V.1 V.2.2.1)) := by rw [c_litBits a3 h6, a1]
  unfold f_X8_isKeeping keepA
  rw [k2]
  by_cases e2 : V.1 h 2 = 2
  · rw [if_pos e2, if_pos e2, kl, Option.bind_some]
    unfold aheadA
    rw [b2i_d]
    by_cases hz : nI (lit V.1 V.2.2.1) &&& (((1 : Int32) <<< (nI h &&& 31)) - (1 : Int32)) = 0
    · rw [if_pos hz, if_pos hz]; exact ⟨u, rfl, eqx.rf⟩
    · rw [if_neg hz, if_neg hz]; exact ⟨u, rfl, eqx.rf⟩
  rw [if_neg e2, if_neg e2]
  by_cases e3 : V.1 h 2 = 3
  · rw [if_pos e3, if_pos e3]
    obtain ⟨u', q1, q2⟩ := c_sum hR hW (show 3 < 4 by omega) hh wt
    rw [show (3 : Int32) = nI 3 from rfl, q1, Option.bind_some]
    refine ⟨u', ?_, q2⟩
    simp only [show u'.1 (3, v, h) 3 = V.1 h 3 from (q2.1 _ _ rfl).trans k3]
    rw [b2i_n]
    split <;> rfl
  rw [if_neg e3, if_neg e3]
  by_cases e4 : V.1 h 2 = 4
  · rw [if_pos e4, if_pos e4, k0, k3, b2i_n]
    refine ⟨u, ?_, eqx.rf⟩
    split <;> rfl
  rw [if_neg e4, if_neg e4]
  by_cases e5 : V.1 h 2 = 5
  · rw [if_pos e5, if_pos e5, k4, a5, b2i_n]
    refine ⟨u, ?_, eqx.rf⟩
    split <;> rfl
  rw [if_neg e5, if_neg e5]
  by_cases e6 : V.1 h 2 = 6
  · rw [if_pos e6, if_pos e6, kl, Option.bind_some, b_cl0 _ (lit_64 _ h6) _ (by omega), c_bc (b_clt _ (lit_64 _ h6) _ (by omega)), Option.bind_some, k3, b2i_n]
    refine ⟨u, ?_, eqx.rf⟩
    split <;> rfl
  rw [if_neg e6, if_neg e6]
  exact ⟨u, rfl, eqx.rf⟩
theorem c_send {u : PM} {v h : Nat} {V : Vil} (hR : RepC u v V) (hW : WF V) (hh : h < V.2.2.1) (wt : Int32) : ∃ u', f_X8_isSending v h (nI h) wt u = some (b2i (sendA V h wt), u') ∧ eqx gF u u' := by
  have h6 := hW.1
  obtain ⟨a1, a2, a3, a4, a5, a6⟩ := id hR
  have k2 : u.1 (3, v, h) 2 = V.1 h 2 := by rw [a1]; exact cF_at (by omega) (by omega)
  have k3 : u.1 (3, v, h) 3 = V.1 h 3 := by rw [a1]; exact cF_at (by omega) (by omega)
  have kl : f_X8_litBits v u = some (nI (lit V.1 V.2.2.1)) := by rw [c_litBits a3 h6, a1]
  have ah : ∃ u', ((f_X8_litBits v u).bind fun r1 => if (r1 &&& (((1 : Int32) <<< (nI h &&& 31)) - (1 : Int32))) = 0 then some ((1 : Int32), u) else some ((0 : Int32), u)) = some (b2i (aheadA V h), u') ∧ eqx gF u u' := by
    rw [kl, Option.bind_some]
    unfold aheadA
    rw [b2i_d]
    refine ⟨u, ?_, eqx.rf⟩
    split <;> rfl
  have su : ∃ u', ((f_X8_sum v (3 : Int32) (nI h) wt u).bind fun x => if x.1 < (x.2.1 (3, v, h) 3) then some ((0 : Int32), x.2) else some ((1 : Int32), x.2)) = some (b2i (!decide (sumA V 3 h wt < V.1 h 3)), u') ∧ eqx gF u u' := by
    obtain ⟨u', q1, q2⟩ := c_sum hR hW (show 3 < 4 by omega) hh wt
    rw [show (3 : Int32) = nI 3 from rfl, q1, Option.bind_some]
    refine ⟨u', ?_, q2⟩
    simp only [show u'.1 (3, v, h) 3 = V.1 h 3 from (q2.1 _ _ rfl).trans k3]
    rw [b2i_n]
    split <;> rfl
  unfold f_X8_isSending sendA
  rw [k2]
  by_cases e1 : V.1 h 2 = 1
  · rw [if_pos e1, if_pos e1]; exact ⟨u, rfl, eqx.rf⟩
  rw [if_neg e1, if_neg e1]
  by_cases e2 : V.1 h 2 = 2
  · rw [if_pos e2, if_pos e2]; exact ah
  rw [if_neg e2, if_neg e2]
  by_cases e3 : V.1 h 2 = 3
  · rw [if_pos e3, if_pos e3]; exact su
  rw [if_neg e3, if_neg e3]
  by_cases e4 : V.1 h 2 = 4
  · rw [if_pos e4, if_pos e4]; exact ⟨u, rfl, eqx.rf⟩
  rw [if_neg e4, if_neg e4]
  by_cases e5 : V.1 h 2 = 5
  · rw [if_pos e5, if_pos e5]; exact ah
  rw [if_neg e5, if_neg e5]
  by_cases e6 : V.1 h 2 = 6
  · rw [if_pos e6, if_pos e6]; exact su
  rw [if_neg e6, if_neg e6]
  exact ⟨u, rfl, eqx.rf⟩
theorem WF_lt {V : Vil} (hW : WF V) {a b : Nat} (ha : a < 6) (hb : b < 6) : V.2.1 a b < 10 := by
  obtain ⟨n, hn, e⟩ := hW.2.2.2.2.1 a b ha hb
  rw [e]
  exact nI_lt (b := 10) hn (by omega)
theorem c_nearV {u : PM} {v h : Nat} {V : Vil} (hR : RepC u v V) (hW : WF V) (hh : h < V.2.2.1) : f_X8_nearestFire v (nI h) u = some (oI (nearA V h)) := by
  have h6 := hW.1
  obtain ⟨a1, a2, a3, a4, a5, a6⟩ := id hR
  rw [c_near a3 h6 (by omega) (fun b hb => by rw [← a2]; exact WF_lt hW (by omega) (by omega))]
  unfold nearA
  rw [a1, a2]
theorem oI_neg (o : Option Nat) (h : ∀ b, o = some b → b < 6) : (0 ≤ oI o) = (o ≠ none) := by
  cases o with
  | none => simp [oI]
  | some b =>
    have := h b rfl
    simp (disch := omega) [oI, i_0le]
theorem nearA_lt {V : Vil} {h b : Nat} (e : nearA V h = some b) : b < V.2.2.1 := (nrA_lt e).1
theorem c_cho {u : PM} {v h : Nat} {V : Vil} (hR : RepC u v V) (hW : WF V) (hh : h < V.2.2.1) (wt : Int32) : ∃ u', f_X8_choice v (nI h) wt u = some (nI (choA V h wt), u') ∧ eqx gF u u' := by
  have h6 := hW.1
  obtain ⟨a1, a2, a3, a4, a5, a6⟩ := id hR
  have k1 : u.1 (3, v, h) 1 = V.1 h 1 := by rw [a1]; exact cF_at (by omega) (by omega)
  have k5 : u.1 (3, v, h) 5 = V.1 h 5 := by rw [a1]; exact cF_at (by omega) (by omega)
  unfold f_X8_choice choA
  rw [c_find a3 h6 hh, Option.bind_some]
  simp only [show h < 6 by omega, if_true, k1, k5]
  by_cases e1 : V.1 h 1 = 0
  · rw [if_pos e1, if_pos e1]
    by_cases e5 : V.1 h 5 = 0
    · rw [if_pos e5, if_pos e5, c_nearV hR hW hh, Option.bind_some]
      simp only [oI_neg (nearA V h) (fun b hb => by have := nearA_lt hb; omega)]
      by_cases en : nearA V h = none
      · rw [if_pos en, if_neg (fun z => z en)]
        exact ⟨u, rfl, eqx.rf⟩
      · rw [if_neg en, if_pos en]
        obtain ⟨u', q1, q2⟩ := c_send hR hW hh wt
        rw [q1, Option.bind_some]
        refine ⟨u', ?_, q2⟩
        cases sendA V h wt <;> rfl
    · rw [if_neg e5, if_neg e5]
      exact ⟨u, rfl, eqx.rf⟩
  · rw [if_neg e1, if_neg e1]
    obtain ⟨u', q1, q2⟩ := c_keep hR hW hh wt
    rw [q1, Option.bind_some]
    refine ⟨u', ?_, q2⟩
    cases keepA V h wt <;> rfl
theorem m_keep {w : PM} {V : Vil} {h : Nat} (hR : RMw w V) (hW : WF V) (hh : h < V.2.2.1) (wt : Int32) : ∃ w', f_X10_keeps (nI h) wt w = some (b2i (keepA V h wt), w') ∧ eqx gP w w' := by
  have h6 := hW.1
  obtain ⟨a1, a2, a3, a4, a5, a6⟩ := id hR
  obtain ⟨b1, b2, b3, b4⟩ := a4 h hh
  unfold f_X10_keeps keepA
  rw [if_neg (nI_in (show h < 6 by omega) (by omega)), nI_clamp (show h < 2 ^ 31 by omega), b2]
  by_cases e2 : V.1 h 2 = 2
  · rw [if_pos e2, if_pos e2]
    unfold f_X10_isNoneAhead aheadA
    rw [a2, b2i_d]
    refine ⟨w, ?_, eqx.rf⟩
    split <;> rfl
  rw [if_neg e2, if_neg e2]
  by_cases e3 : V.1 h 2 = 3
  · rw [if_pos e3, if_pos e3]
    obtain ⟨u', q1, q2⟩ := m_sum hR hW (show 3 < 4 by omega) hh wt
    rw [show (3 : Int32) = nI 3 from rfl, q1, Option.bind_some]
    refine ⟨u', ?_, q2⟩
    simp only [show u'.1 (64, 0, 0) h = V.1 h 3 from (q2.1 _ _ rfl).trans b3]
    rw [b2i_n]
    split <;> rfl
  rw [if_neg e3, if_neg e3]
  by_cases e4 : V.1 h 2 = 4
  · rw [if_pos e4, if_pos e4, b1, b3, b2i_n]
    refine ⟨w, ?_, eqx.rf⟩
    split <;> rfl
  rw [if_neg e4, if_neg e4]
  by_cases e5 : V.1 h 2 = 5
  · rw [if_pos e5, if_pos e5, b4, a3, b2i_n]
    unfold f_X10_has
    obtain ⟨j, hj, e⟩ := pk_andE ((V.1 h 4) >>> ((V.2.2.2.2.1 - V.2.2.2.2.1 / (24 : Int32) * (24 : Int32)) &&& 31)) (m := 1) 1 (by decide)
    rw [e]
    refine ⟨w, ?_, eqx.rf⟩
    have : j = 0 ∨ j = 1 := by omega
    rcases this with rfl | rfl <;> rfl
  rw [if_neg e5, if_neg e5]
  by_cases e6 : V.1 h 2 = 6
  · rw [if_pos e6, if_pos e6, a2, b_cl0 _ (lit_64 _ h6) _ (by omega), m_ones (b_clt _ (lit_64 _ h6) _ (by omega)), Option.bind_some, b3, b2i_n]
    refine ⟨w, ?_, eqx.rf⟩
    split <;> rfl
  rw [if_neg e6, if_neg e6]
  exact ⟨w, rfl, eqx.rf⟩
theorem m_send {w : PM} {V : Vil} {h : Nat} (hR : RMw w V) (hW : WF V) (hh : h < V.2.2.1) (wt : Int32) : ∃ w', f_X10_sends (nI h) wt w = some (b2i (sendA V h wt), w') ∧ eqx gP w w' := by
  have h6 := hW.1
  obtain ⟨a1, a2, a3, a4, a5, a6⟩ := id hR
  obtain ⟨b1, b2, b3, b4⟩ := a4 h hh
  have ah : ∃ w', ((f_X10_isNoneAhead (nI h) w).bind fun r2 => if r2 = 0 ∨ r2 = 1 then some (r2, w) else none) = some (b2i (aheadA V h), w') ∧ eqx gP w w' := by
    unfold f_X10_isNoneAhead aheadA
    rw [a2, b2i_d]
    refine ⟨w, ?_, eqx.rf⟩
    split <;> rfl
  have su : ∃ w', ((f_X10_sumOf (3 : Int32) (nI h) wt w).bind fun x => if x.1 < (x.2.1 (64, 0, 0) h) then some ((0 : Int32), x.2) else some ((1 : Int32), x.2)) = some (b2i (!decide (sumA V 3 h wt < V.1 h 3)), w') ∧ eqx gP w w' := by
    obtain ⟨u', q1, q2⟩ := m_sum hR hW (show 3 < 4 by omega) hh wt
    rw [show (3 : Int32) = nI 3 from rfl, q1, Option.bind_some]
    refine ⟨u', ?_, q2⟩
    simp only [show u'.1 (64, 0, 0) h = V.1 h 3 from (q2.1 _ _ rfl).trans b3]
    rw [b2i_n]
    split <;> rfl
  unfold f_X10_sends sendA
  rw [if_neg (nI_in (show h < 6 by omega) (by omega)), nI_clamp (show h < 2 ^ 31 by omega), b2]
  obtain ⟨k, hk, ek⟩ := hW.2.2.1 h hh
  by_cases e0 : V.1 h 2 = 0
  · rw [if_pos e0, e0]
    exact ⟨w, rfl, eqx.rf⟩
  rw [if_neg e0]
  by_cases e1 : V.1 h 2 = 1
  · rw [if_pos e1, if_pos e1]; exact ⟨w, rfl, eqx.rf⟩
  rw [if_neg e1, if_neg e1]
  by_cases e2 : V.1 h 2 = 2
  · rw [if_pos e2, if_pos e2]; exact ah
  rw [if_neg e2, if_neg e2]
  by_cases e3 : V.1 h 2 = 3
  · rw [if_pos e3, if_pos e3]; exact su
  rw [if_neg e3, if_neg e3]
  by_cases e4 : V.1 h 2 = 4
  · rw [if_pos e4, if_pos e4]; exact ⟨w, rfl, eqx.rf⟩
  rw [if_neg e4, if_neg e4]
  by_cases e5 : V.1 h 2 = 5
  · rw [if_pos e5, if_pos e5]; exact ah
  rw [if_neg e5, if_neg e5]
  by_cases e6 : V.1 h 2 = 6
  · rw [if_pos e6, if_pos e6]; exact su
  rw [ek] at e0 e1 e2 e3 e4 e5 e6
  exfalso
  have : k = 0 ∨ k = 1 ∨ k = 2 ∨ k = 3 ∨ k = 4 ∨ k = 5 ∨ k = 6 := by omega
  rcases this with rfl | rfl | rfl | rfl | rfl | rfl | rfl
  · exact e0 rfl
  · exact e1 rfl
  · exact e2 rfl
  · exact e3 rfl
  · exact e4 rfl
  · exact e5 rfl
  · exact e6 rfl
theorem nrA_s (F W : Nat → Nat → Int32) (h n : Nat) : nrA F W h (n + 1) = match nrA F W h n with
    | none => if F n 1 = 0 ∨ W h n ≤ 0 then none else some n
    | some b => if F n 1 = 0 ∨ W h n ≤ 0 ∨ W h b ≤ W h n then some b else some n := rfl
theorem m_where {w : PM} {V : Vil} {h : Nat} (hR : RMw w V) (hW : WF V) (hh : h < V.2.2.1) : f_X10_whereTo (nI h) w = some (oI (nearA V h)) := by
  have h6 := hW.1
  obtain ⟨a1, a2, a3, a4, a5, a6⟩ := id hR
  unfold f_X10_whereTo
  have key : am_loop (f_X10_whereTo_L4 (nI h) w) 2000 ((-1 : Int32), (0 : Int32)) = some (oI (nearA V h)) := by
    refine am_seq (fun j => (oI (nrA V.1 V.2.1 h j), nI j)) _ V.2.2.1 (fun j hj => ?_) ?_ (by omega)
    · unfold f_X10_whereTo_L4
      dsimp only
      rw [a1, if_neg (nI_ge (show j < V.2.2.1 by omega) (by omega)), L_6, pk_mul, nI_add, if_neg (nI_in (show 6 * h + j < 36 by omega) (by omega)), nI_clamp (show 6 * h + j < 2 ^ 31 by omega), a5 h j hh hj, a2, m_has (lit_64 _ h6) (by omega), Option.bind_some, lit_tb, decide_eq_true hj, Bool.true_and, nI_1]
      rw [nrA_s]
      by_cases hz : V.1 j 1 = 0
      · rw [if_pos (by simp [hz])]
        cases nrA V.1 V.2.1 h j with
        | none => simp [hz]
        | some b => simp [hz]
      · rw [if_neg (by simp [hz])]
        by_cases hw : V.2.1 h j ≤ 0
        · rw [if_pos hw]
          cases nrA V.1 V.2.1 h j with
          | none => simp [hw]
          | some b => simp [hw]
        · rw [if_neg hw]
          cases hb : nrA V.1 V.2.1 h j with
          | none =>
            rw [if_pos (show oI none < 0 by decide)]
            simp [hz, hw, oI]
          | some b =>
            have hbj := (nrA_lt hb).1
            rw [if_neg (show ¬ oI (some b) < 0 from nI_pos (by omega)), show oI (some b) = nI b from rfl, nI_add, if_neg (nI_in (show 6 * h + b < 36 by omega) (by omega)), nI_clamp (show 6 * h + b < 2 ^ 31 by omega), a5 h b hh (by omega)]
            by_cases hy : V.2.1 h b ≤ V.2.1 h j
            · rw [if_pos hy]
              simp [hz, hw, hy, oI]
            · rw [if_neg hy]
              simp [hz, hw, hy, oI]
    · unfold f_X10_whereTo_L4
      dsimp only
      rw [a1, if_pos (Int32.le_refl _)]
      rfl
  rw [key]
  rfl
