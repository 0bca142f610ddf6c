/-! an hour on the class's side -/
def gH (v : Nat) (q : Key) (_ : Nat) : Bool := q.1 == 3 && q.2.1 == v
theorem gH_t (v n f : Nat) : gH v (3, v, n) f = true := by simp [gH]
theorem c_row {u : PM} {v n f : Nat} {x : Int32} (hn : n < 6) (hf9 : f < 9) : cF (pi u (3, v, n) f x) v = updR (cF u v) n (put1 (cF u v n) f x) := by
  funext h f'
  unfold updR put1 cF
  rw [p_i]
  by_cases e : h = n
  · subst e
    rw [if_pos rfl]
    by_cases e2 : f' = f
    · subst e2
      rw [if_pos ⟨hn, hf9⟩, if_pos ⟨rfl, rfl⟩, if_pos rfl]
    · rw [if_neg (show ¬ (f' = f ∧ ((3, v, h) : Key) = (3, v, h)) from fun z => e2 z.1), if_neg e2]
  · rw [if_neg (show ¬ (f' = f ∧ ((3, v, h) : Key) = (3, v, n)) from fun z => e (by simpa using z.2)), if_neg e]
theorem c_setOut (u : PM) (v n : Nat) (a b c : Int32) (hn : n < 6) : ∃ u', f_X2_setOut v n a b c u = some u' ∧ cF u' v = updR (cF u v) n (setA a b c (cF u v n)) ∧ eqx (gH v) u u' := by
  refine ⟨_, rfl, ?_, (((eqx.rf.pi (gH_t _ _ _)).pi (gH_t _ _ _)).pi (gH_t _ _ _)).pi (gH_t _ _ _)⟩
  rw [c_row hn (by omega), c_row hn (by omega), c_row hn (by omega), c_row hn (by omega)]
  simp only [updR_2, updR_at]
  rfl
def gWg (q : Key) (_ : Nat) : Bool := q.1 == 8 || q.1 == 20
def gWx (q : Key) (_ : Nat) : Bool := q.1 == 8 || (20 ≤ q.1 && q.1 ≤ 24)
theorem gWx_v {s : Nat} (h : s = 1 ∨ s = 3 ∨ s = 5) (v i f : Nat) : gWx (s, v, i) f = false := by
  rcases h with rfl | rfl | rfl <;> rfl
theorem gWx_l (s p i : Nat) (h1 : 11 ≤ s) (h2 : s ≤ 18) : gWx (s, p, 0) i = false := by
  unfold gWx
  simp only [Bool.or_eq_false_iff, beq_eq_false_iff_ne, Bool.and_eq_false_iff, decide_eq_false_iff_not]
  omega
theorem RepC_gWx {u u' : PM} {v : Nat} {V : Vil} (h : eqx gWx u u') (x : RepC u v V) : RepC u' v V :=
  RepC_kept h (fun s hs i f => gWx_v hs v i f) gWx_l rfl x
theorem gF_Wx {q : Key} {k : Nat} (h : gWx q k = false) : gF q k = false := by
  unfold gWx at h
  simp only [Bool.or_eq_false_iff] at h
  exact h.1
theorem gWg_Wx {q : Key} {k : Nat} (h : gWx q k = false) : gWg q k = false := by
  unfold gWx at h
  unfold gWg
  simp only [Bool.or_eq_false_iff, beq_eq_false_iff_ne, Bool.and_eq_false_iff, decide_eq_false_iff_not] at h ⊢
  omega
theorem c_weigh {u : PM} {v : Nat} {V : Vil} (hR : RepC u v V) (hW : WF V) (wt : Int32) : ∃ u', f_X1_weigh v wt u = some u' ∧ eqx gWg u u' ∧ u'.1 (20, 0, 0) 0 = wS V wt (u.1 (20, 0, 0) 0) V.2.2.1 ∧ u'.1 (20, 0, 0) 1 = lS V wt (u.1 (20, 0, 0) 1) V.2.2.1 := by
  have h6 := hW.1
  unfold f_X1_weigh
  have key := am_cnt (f := f_X1_weigh_L2 v wt) (s := ((0 : Int32), u)) (fun j t => t.1 = nI j ∧ eqx gWg u t.2 ∧ t.2.1 (20, 0, 0) 0 = wS V wt (u.1 (20, 0, 0) 0) j ∧ t.2.1 (20, 0, 0) 1 = lS V wt (u.1 (20, 0, 0) 1) j) (fun e => eqx gWg u e ∧ e.1 (20, 0, 0) 0 = wS V wt (u.1 (20, 0, 0) 0) V.2.2.1 ∧ e.1 (20, 0, 0) 1 = lS V wt (u.1 (20, 0, 0) 1) V.2.2.1) V.2.2.1 ⟨rfl, eqx.rf, rfl, rfl⟩ (by omega) ?_ ?_
  · obtain ⟨e, h1, h2⟩ := key
    exact ⟨e, by rw [h1]; rfl, h2⟩
  · rintro j ⟨x, t⟩ hj ⟨rfl, he, w1, w2⟩
    have hRt : RepC t v V := RepC_gWx (he.mono (fun _ _ => gWg_Wx)) hR
    obtain ⟨u1, q1, q2⟩ := c_sum hRt hW (show 3 < 4 by omega) hj wt
    have a3 : t.1 (1, v, 0) 0 = nI V.2.2.1 := hRt.2.2.1
    unfold f_X1_weigh_L2
    dsimp only
    rw [a3, if_neg (nI_ge (show j < V.2.2.1 by omega) (by omega)), if_neg (show ¬ (6 : Int32) ≤ nI j from nI_ge (b := 6) (by omega) (by omega)), show (3 : Int32) = nI 3 from rfl, q1, Option.bind_some]
    dsimp only
    rw [if_neg (nI_in (show j < 6 by omega) (by omega)), nI_clamp (show j < 2 ^ 31 by omega), show u1.1 (3, v, j) 1 = V.1 j 1 by rw [q2.1 _ _ rfl, hRt.1]; exact cF_at (by omega) (by omega), nI_1]
    have e0 : u1.1 (20, 0, 0) 0 = wS V wt (u.1 (20, 0, 0) 0) j := (q2.1 _ _ rfl).trans w1
    have e1 : u1.1 (20, 0, 0) 1 = lS V wt (u.1 (20, 0, 0) 1) j := (q2.1 _ _ rfl).trans w2
    have he1 : eqx gWg u u1 := he.tr (q2.mono (fun q k h => by
      unfold gWg at h
      simp only [Bool.or_eq_false_iff] at h
      exact h.1))
    by_cases hz : V.1 j 1 = 0
    · rw [if_pos hz]
      by_cases hs : sumA V 3 j wt ≤ 0
      · rw [if_pos hs]
        refine ⟨_, rfl, rfl, he1, ?_, ?_⟩
        · rw [e0]; show _ = (if V.1 j 1 = 0 then _ else _); rw [if_pos hz]
        · rw [e1]; show _ = (if V.1 j 1 = 0 ∧ ¬ sumA V 3 j wt ≤ 0 then _ else _); rw [if_neg (fun z => z.2 hs)]
      · rw [if_neg hs]
        refine ⟨_, rfl, rfl, he1.pi rfl, ?_, ?_⟩
        · show u1.1 (20, 0, 0) 0 = (if V.1 j 1 = 0 then _ else _)
          rw [if_pos hz, e0]
        · show u1.1 (20, 0, 0) 1 + 1 = (if V.1 j 1 = 0 ∧ ¬ sumA V 3 j wt ≤ 0 then _ else _)
          rw [if_pos ⟨hz, hs⟩, e1]
    · rw [if_neg hz]
      refine ⟨_, rfl, rfl, he1.pi rfl, ?_, ?_⟩
      · show u1.1 (20, 0, 0) 0 + sumA V 3 j wt = (if V.1 j 1 = 0 then _ else _)
        rw [if_neg hz, e0]
      · show u1.1 (20, 0, 0) 1 = (if V.1 j 1 = 0 ∧ ¬ sumA V 3 j wt ≤ 0 then _ else _)
        rw [if_neg (fun z => hz z.1), e1]
  · rintro ⟨x, t⟩ ⟨rfl, he, w1, w2⟩
    have a3 : t.1 (1, v, 0) 0 = nI V.2.2.1 := (he.1 _ _ rfl).trans hR.2.2.1
    unfold f_X1_weigh_L2
    dsimp only
    rw [a3, if_pos (Int32.le_refl _)]
    exact ⟨t, rfl, he, w1, w2⟩
def gX1 (q : Key) (_ : Nat) : Bool := q.1 == 8 || (21 ≤ q.1 && q.1 ≤ 24)
theorem gX1_Wx {q : Key} {k : Nat} (h : gWx q k = false) : gX1 q k = false := by
  unfold gWx at h
  unfold gX1
  simp only [Bool.or_eq_false_iff, beq_eq_false_iff_ne, Bool.and_eq_false_iff, decide_eq_false_iff_not] at h ⊢
  omega
theorem gF_X1 {q : Key} {k : Nat} (h : gX1 q k = false) : gF q k = false := by
  unfold gX1 at h
  simp only [Bool.or_eq_false_iff] at h
  exact h.1
/-- what the class has looked at of the first j houses -/
def seen (V : Vil) (wt : Int32) (u : PM) (j : Nat) : Prop := ∀ i, i < j → u.1 (21, 0, 0) i = nI (choA V i wt) ∧ (choA V i wt = 1 → u.1 (22, 0, 0) i = sumA V 1 i wt) ∧ (V.1 i 5 = 2 → u.1 (23, 0, 0) i = sumA V 2 i wt) ∧ (choA V i wt = 3 → u.1 (24, 0, 0) i = oI (nearA V i))
theorem choA_lt (V : Vil) (h : Nat) (wt : Int32) : choA V h wt < 4 := by
  unfold choA
  split <;> (try split) <;> (try split) <;> (try split) <;> omega
theorem seen_s {V : Vil} {wt : Int32} {u u' : PM} {j : Nat} (h : seen V wt u j) (hk : ∀ s i, 21 ≤ s → s ≤ 24 → i ≠ j → u'.1 (s, 0, 0) i = u.1 (s, 0, 0) i) (b : u'.1 (21, 0, 0) j = nI (choA V j wt) ∧ (choA V j wt = 1 → u'.1 (22, 0, 0) j = sumA V 1 j wt) ∧ (V.1 j 5 = 2 → u'.1 (23, 0, 0) j = sumA V 2 j wt) ∧ (choA V j wt = 3 → u'.1 (24, 0, 0) j = oI (nearA V j))) : seen V wt u' (j + 1) := by
  intro i hi
  by_cases e : i = j
  · subst e; exact b
  · obtain ⟨c1, c2, c3, c4⟩ := h i (by omega)
    rw [hk 21 i (by omega) (by omega) e, hk 22 i (by omega) (by omega) e, hk 23 i (by omega) (by omega) e, hk 24 i (by omega) (by omega) e]
    exact ⟨c1, c2, c3, c4⟩
theorem c_pass1 {u : PM} {v : Nat} {V : Vil} (hR : RepC u v V) (hW : WF V) (wt mis : Int32) : ∃ u', am_loop (f_X1_pass_L3 v wt mis) 2000 ((0 : Int32), u) = some u' ∧ eqx gX1 u u' ∧ seen V wt u' V.2.2.1 := by
  have h6 := hW.1
  refine am_cnt (f := f_X1_pass_L3 v wt mis) (s := ((0 : Int32), u)) (fun j t => t.1 = nI j ∧ eqx gX1 u t.2 ∧ seen V wt t.2 j) (fun e => eqx gX1 u e ∧ seen V wt e V.2.2.1) V.2.2.1 ⟨rfl, eqx.rf, fun i hi => by omega⟩ (by omega) ?_ ?_
  · rintro j ⟨x, t⟩ hj ⟨rfl, he, hs⟩
    have hRt : RepC t v V := RepC_gWx (he.mono (fun _ _ => gX1_Wx)) hR
    obtain ⟨u1, q1, q2⟩ := c_cho hRt hW hj wt
    have a3 : t.1 (1, v, 0) 0 = nI V.2.2.1 := hRt.2.2.1
    unfold f_X1_pass_L3
    dsimp only
    rw [a3, if_neg (nI_ge (show j < V.2.2.1 by omega) (by omega)), if_neg (show ¬ (6 : Int32) ≤ nI j from nI_ge (b := 6) (by omega) (by omega)), q1, Option.bind_some]
    dsimp only
    rw [if_neg (nI_in (show j < 6 by omega) (by omega)), nI_clamp (show j < 2 ^ 31 by omega), nI_1]
    have hc := choA_lt V j wt
    have e1 : eqx gX1 t u1 := q2.mono (fun _ _ => gF_X1)
    by_cases c1 : choA V j wt = 1
    · rw [if_pos (show nI (choA V j wt) = 1 by rw [c1]; rfl)]
      have e2 : eqx gX1 t (pi u1 (21, 0, 0) j (nI (choA V j wt))) := e1.pi rfl
      have hR2 : RepC (pi u1 (21, 0, 0) j (nI (choA V j wt))) v V := RepC_gWx (e2.mono (fun _ _ => gX1_Wx)) hRt
      obtain ⟨u2, q3, q4⟩ := c_sum hR2 hW (show 1 < 4 by omega) hj wt
      rw [show (1 : Int32) = nI 1 from rfl, q3, Option.bind_some]
      dsimp only
      have w5 : u2.1 (3, v, j) 5 = V.1 j 5 := by rw [q4.1 _ _ rfl, hR2.1]; exact cF_at (by omega) (by omega)
      have w21 : u2.1 (21, 0, 0) j = nI (choA V j wt) := by rw [q4.1 _ _ rfl, p_i]; exact if_pos ⟨rfl, rfl⟩
      rw [w5]
      by_cases c5 : V.1 j 5 = 2
      · rw [if_pos c5]
        have hR3 : RepC (pi u2 (22, 0, 0) j (sumA V 1 j wt)) v V := RepC_gWx (((q4.mono (fun _ _ => gF_X1)).pi rfl).mono (fun _ _ => gX1_Wx)) hR2
        obtain ⟨u3, q5, q6⟩ := c_sum hR3 hW (show 2 < 4 by omega) hj wt
        rw [show (2 : Int32) = nI 2 from rfl, q5, Option.bind_some]
        dsimp only
        have e3 : eqx gX1 t u3 := (e2.tr ((q4.mono (fun _ _ => gF_X1)).pi rfl)).tr (q6.mono (fun _ _ => gF_X1))
        rw [if_neg (show ¬ u3.1 (21, 0, 0) j = 3 by rw [q6.1 _ _ rfl, show (pi u2 (22, 0, 0) j (sumA V 1 j wt)).1 (21, 0, 0) j = u2.1 (21, 0, 0) j by simp [p_i], w21, c1]; decide)]
        refine ⟨_, rfl, rfl, he.tr ((e3.pi rfl).pi rfl), seen_s hs (fun s i h1 h2 hi => ?_) ⟨?_, fun _ => ?_, fun _ => ?_, fun z => by omega⟩⟩
        · simp only [p_i, hi, false_and, if_false]
          rw [q6.1 _ _ (beq_eq_false_iff_ne.mpr (by show s ≠ 8; omega))]
          simp only [p_i, hi, false_and, if_false]
          rw [q4.1 _ _ (beq_eq_false_iff_ne.mpr (by show s ≠ 8; omega))]
          simp only [p_i, hi, false_and, if_false]
          exact q2.1 _ _ (beq_eq_false_iff_ne.mpr (by show s ≠ 8; omega))
        · simp [p_i]
          rw [q6.1 _ _ rfl]
          simp [p_i]
          exact w21
        · simp [p_i]
          rw [q6.1 _ _ rfl]
          simp [p_i]
        · simp [p_i]
      · rw [if_neg c5, if_neg (show ¬ u2.1 (21, 0, 0) j = 3 by rw [w21, c1]; decide)]
        have e3 : eqx gX1 t u2 := e2.tr (q4.mono (fun _ _ => gF_X1))
        refine ⟨_, rfl, rfl, he.tr (((e3.pi rfl).pi rfl).pi rfl), seen_s hs (fun s i h1 h2 hi => ?_) ⟨?_, fun _ => ?_, fun z => absurd z c5, fun z => by omega⟩⟩
        · simp only [p_i, hi, false_and, if_false]
          rw [q4.1 _ _ (beq_eq_false_iff_ne.mpr (by show s ≠ 8; omega))]
          simp only [p_i, hi, false_and, if_false]
          exact q2.1 _ _ (beq_eq_false_iff_ne.mpr (by show s ≠ 8; omega))
        · simp [p_i]
          exact w21
        · simp [p_i]
    · rw [if_neg (show ¬ nI (choA V j wt) = 1 from fun z => c1 ((nI_eq (b := 1) (by omega) (by omega)).mp z)), show u1.1 (3, v, j) 5 = V.1 j 5 by rw [q2.1 _ _ rfl, hRt.1]; exact cF_at (by omega) (by omega)]
      by_cases c5 : V.1 j 5 = 2
      · rw [if_pos c5]
        have c3 : choA V j wt ≠ 3 := by
          unfold choA
          rw [if_neg (show ¬ V.1 j 5 = 0 by rw [c5]; decide)]
          split <;> (try split) <;> omega
        have e2 : eqx gX1 t (pi (pi u1 (21, 0, 0) j (nI (choA V j wt))) (22, 0, 0) j 0) := (e1.pi rfl).pi rfl
        have hR2 : RepC (pi (pi u1 (21, 0, 0) j (nI (choA V j wt))) (22, 0, 0) j 0) v V := RepC_gWx (e2.mono (fun _ _ => gX1_Wx)) hRt
        obtain ⟨u3, q5, q6⟩ := c_sum hR2 hW (show 2 < 4 by omega) hj wt
        rw [show (2 : Int32) = nI 2 from rfl, q5, Option.bind_some]
        dsimp only
        have e3 : eqx gX1 t u3 := e2.tr (q6.mono (fun _ _ => gF_X1))
        rw [if_neg (show ¬ u3.1 (21, 0, 0) j = 3 by
          rw [q6.1 _ _ rfl, show (pi (pi u1 (21, 0, 0) j (nI (choA V j wt))) (22, 0, 0) j 0).1 (21, 0, 0) j = nI (choA V j wt) by simp [p_i]]
          exact fun z => c3 ((nI_eq (b := 3) (by omega) (by omega)).mp z))]
        refine ⟨_, rfl, rfl, he.tr ((e3.pi rfl).pi rfl), seen_s hs (fun s i h1 h2 hi => ?_) ⟨?_, fun z => absurd z c1, fun _ => ?_, fun z => absurd z c3⟩⟩
        · simp only [p_i, hi, false_and, if_false]
          rw [q6.1 _ _ (beq_eq_false_iff_ne.mpr (by show s ≠ 8; omega))]
          simp only [p_i, hi, false_and, if_false]
          exact q2.1 _ _ (beq_eq_false_iff_ne.mpr (by show s ≠ 8; omega))
        · simp [p_i]
          rw [q6.1 _ _ rfl]
          simp [p_i]
        · simp [p_i]
      · rw [if_neg c5]
        by_cases c3 : choA V j wt = 3
        · rw [if_pos (show nI (choA V j wt) = 3 by rw [c3]; rfl)]
          have e2 : eqx gX1 t (pi (pi (pi u1 (21, 0, 0) j (nI (choA V j wt))) (22, 0, 0) j 0) (23, 0, 0) j 0) := ((e1.pi rfl).pi rfl).pi rfl
          have hR2 : RepC (pi (pi (pi u1 (21, 0, 0) j (nI (choA V j wt))) (22, 0, 0) j 0) (23, 0, 0) j 0) v V := RepC_gWx (e2.mono (fun _ _ => gX1_Wx)) hRt
          rw [c_nearV hR2 hW hj, Option.bind_some]
          refine ⟨_, rfl, rfl, he.tr (e2.pi rfl), seen_s hs (fun s i h1 h2 hi => ?_) ⟨?_, fun z => absurd z c1, fun z => absurd z c5, fun _ => ?_⟩⟩
          · simp only [p_i, hi, false_and, if_false]
            exact q2.1 _ _ (beq_eq_false_iff_ne.mpr (by show s ≠ 8; omega))
          · simp [p_i]
          · simp [p_i]
        · rw [if_neg (show ¬ nI (choA V j wt) = 3 from fun z => c3 ((nI_eq (b := 3) (by omega) (by omega)).mp z))]
          refine ⟨_, rfl, rfl, he.tr ((((e1.pi rfl).pi rfl).pi rfl).pi rfl), seen_s hs (fun s i h1 h2 hi => ?_) ⟨?_, fun z => absurd z c1, fun z => absurd z c5, fun z => absurd z c3⟩⟩
          · simp only [p_i, hi, false_and, if_false]
            exact q2.1 _ _ (beq_eq_false_iff_ne.mpr (by show s ≠ 8; omega))
          · simp [p_i]
  · rintro ⟨x, t⟩ ⟨rfl, he, hs⟩
    have a3 : t.1 (1, v, 0) 0 = nI V.2.2.1 := (he.1 _ _ rfl).trans hR.2.2.1
    unfold f_X1_pass_L3
    dsimp only
    rw [a3, if_pos (Int32.le_refl _)]
    exact ⟨t, rfl, he, hs⟩
