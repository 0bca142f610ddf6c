/-! an hour passes in the class -/
theorem c_pass2 {u0 u : PM} {v : Nat} {V : Vil} {wt mis : Int32} (hR : RepC u0 v V) (hW : WF V) (he0 : eqx gX1 u0 u) (hs : seen V wt u V.2.2.1) : ∃ u', am_loop (f_X1_pass_L133 v wt mis) 2000 ((0 : Int32), u) = some u' ∧ eqx (gH v) u u' ∧ cF u' v = hour2 V wt mis V.2.2.1 := by
  have h6 := hW.1
  have hRu : RepC u v V := RepC_gWx (he0.mono (fun _ _ => gX1_Wx)) hR
  refine am_cnt (f := f_X1_pass_L133 v wt mis) (s := ((0 : Int32), u)) (fun j t => t.1 = nI j ∧ eqx (gH v) u t.2 ∧ cF t.2 v = hour2 V wt mis j) (fun e => eqx (gH v) u e ∧ cF e v = hour2 V wt mis V.2.2.1) V.2.2.1 ⟨rfl, eqx.rf, hRu.1.symm⟩ (by omega) ?_ ?_
  · rintro j ⟨x, t⟩ hj ⟨rfl, he, hF⟩
    dsimp only at he hF
    have a3 : t.1 (1, v, 0) 0 = nI V.2.2.1 := (he.1 _ _ rfl).trans hRu.2.2.1
    have hw : cW t v = V.2.1 := (cW_kept he (fun _ _ => rfl)).trans hRu.2.1.symm
    obtain ⟨s1, s2, s3, s4⟩ := hs j hj
    have t21 : t.1 (21, 0, 0) j = nI (choA V j wt) := (he.1 _ _ rfl).trans s1
    have hc := choA_lt V j wt
    have hrow : hour2 V wt mis j j = V.1 j := foldF_ge _ _ _ _ (Nat.le_refl j)
    have hrow2 : cF t v j = V.1 j := by rw [hF]; exact hrow
    have nx : hour2 V wt mis (j + 1) = updR (hour2 V wt mis j) j (g2A V wt mis (hour2 V wt mis j) j) := rfl
    unfold f_X1_pass_L133
    dsimp only
    rw [a3, if_neg (nI_ge (show j < V.2.2.1 by omega) (by omega)), if_neg (show ¬ (6 : Int32) ≤ nI j from nI_ge (b := 6) (by omega) (by omega)), if_neg (nI_in (show j < 6 by omega) (by omega)), nI_clamp (show j < 2 ^ 31 by omega), nI_1, t21]
    by_cases c3 : choA V j wt = 3
    · rw [if_pos (show nI (choA V j wt) = 3 by rw [c3]; rfl)]
      obtain ⟨g, hg⟩ : ∃ g, nearA V j = some g := by
        unfold choA at c3
        split at c3
        · split at c3
          · split at c3
            · cases c3
            · next z => cases hq : nearA V j with
              | none => exact absurd hq z
              | some g => exact ⟨g, rfl⟩
          · cases c3
        · split at c3 <;> cases c3
      have t24 : t.1 (24, 0, 0) j = nI g := by rw [he.1 _ _ rfl, s4 c3, hg]; rfl
      have hg6 : g < 6 := by have := nearA_lt hg; omega
      rw [t24, c_hb (show j < 6 by omega) hg6, Option.bind_some, hw]
      obtain ⟨u', q1, q2, q3⟩ := c_setOut t v j 1 (V.2.1 j g) (nI g) (by omega)
      rw [q1, Option.bind_some]
      refine ⟨_, rfl, rfl, he.tr q3, ?_⟩
      dsimp only
      rw [q2, nx, hF]
      unfold g2A
      rw [if_pos c3, hg]
    · rw [if_neg (show ¬ nI (choA V j wt) = 3 from fun z => c3 ((nI_eq (b := 3) (by omega) (by omega)).mp z)), show t.1 (3, v, j) 1 = V.1 j 1 from (cF_at (by omega) (by omega)).trans (congrFun hrow2 1)]
      by_cases hz : V.1 j 1 = 0
      · rw [if_pos hz]
        refine ⟨_, rfl, rfl, he, ?_⟩
        dsimp only
        rw [nx]
        unfold g2A
        rw [if_neg c3, if_pos (show hour2 V wt mis j j 1 = 0 by rw [hrow]; exact hz), updR_id]
        exact hF
      · rw [if_neg hz]
        have hbr : ∃ u', f_X1_burn v j (nI j) mis t = some u' ∧ eqx (gH v) t u' ∧ cF u' v = updR (cF t v) j (if choA V j wt = 1 ∧ ¬ V.1 j 0 < sumA V 1 j wt ∧ mishA mis j = false then put1 (V.1 j) 0 (V.1 j 0 - sumA V 1 j wt) else put1 (V.1 j) 1 0) := by
          unfold f_X1_burn
          rw [if_neg (nI_pos (show j < 2 ^ 31 by omega)), if_pos (show nI j < 6 from nI_lt (b := 6) (by omega) (by omega)), if_neg (nI_in (show j < 6 by omega) (by omega)), nI_clamp (show j < 2 ^ 31 by omega), t21, show t.1 (3, v, j) 0 = V.1 j 0 from (cF_at (by omega) (by omega)).trans (congrFun hrow2 0)]
          have out : ∃ u', some (pi t (3, v, j) 1 (0 : Int32)) = some u' ∧ eqx (gH v) t u' ∧ cF u' v = updR (cF t v) j (put1 (V.1 j) 1 0) := ⟨_, rfl, eqx.rf.pi (gH_t _ _ _), by rw [c_row (by omega) (by omega), hrow2]⟩
          by_cases c1 : choA V j wt = 1
          · rw [if_pos (show nI (choA V j wt) = 1 by rw [c1]; rfl), show t.1 (22, 0, 0) j = sumA V 1 j wt from (he.1 _ _ rfl).trans (s2 c1)]
            by_cases cw : V.1 j 0 < sumA V 1 j wt
            · rw [if_pos cw, if_neg (fun z => z.2.1 cw)]; exact out
            · rw [if_neg cw]
              unfold mishA
              by_cases cm : ((mis >>> (nI j &&& 31)) &&& (1 : Int32)) = 0
              · rw [if_pos cm, if_pos ⟨c1, cw, by simp [cm]⟩]
                exact ⟨_, rfl, eqx.rf.pi (gH_t _ _ _), by rw [c_row (by omega) (by omega), hrow2]⟩
              · rw [if_neg cm, if_neg (fun z => by simp [cm] at z)]; exact out
          · rw [if_neg (show ¬ nI (choA V j wt) = 1 from fun z => c1 ((nI_eq (b := 1) (by omega) (by omega)).mp z)), if_neg (fun z => c1 z.1)]; exact out
        obtain ⟨u', q1, q2, q3⟩ := hbr
        rw [q1, Option.bind_some]
        refine ⟨_, rfl, rfl, he.tr q2, ?_⟩
        dsimp only
        rw [q3, nx, hF]
        unfold g2A
        rw [if_neg c3, hrow, if_neg hz]
  · rintro ⟨x, t⟩ ⟨rfl, he, hF⟩
    have a3 : t.1 (1, v, 0) 0 = nI V.2.2.1 := (he.1 _ _ rfl).trans hRu.2.2.1
    unfold f_X1_pass_L133
    dsimp only
    rw [a3, if_pos (Int32.le_refl _)]
    exact ⟨t, rfl, he, hF⟩
theorem h2_row5 {V : Vil} {wt mis : Int32} {n : Nat} : ∀ j, j < n → hour2 V wt mis n j 5 = 2 → V.1 j 5 = 2 := by
  induction n with
  | zero => intro j hj; omega
  | succ n ih =>
    intro j hj h
    have nx : hour2 V wt mis (n + 1) = updR (hour2 V wt mis n) n (g2A V wt mis (hour2 V wt mis n) n) := rfl
    rw [nx] at h
    by_cases e : j = n
    · subst e
      rw [updR_at] at h
      have hrow : hour2 V wt mis j j = V.1 j := foldF_ge _ _ _ _ (Nat.le_refl j)
      unfold g2A at h
      rw [hrow] at h
      by_cases c3 : choA V j wt = 3
      · rw [if_pos c3] at h
        cases hn : nearA V j with
        | none => rw [hn] at h; exact h
        | some g => rw [hn] at h; exact absurd (show (1 : Int32) = 2 from h) (by decide)
      · rw [if_neg c3] at h
        by_cases c4 : V.1 j 1 = 0
        · rw [if_pos c4] at h; exact h
        · rw [if_neg c4] at h
          by_cases c5 : choA V j wt = 1 ∧ ¬ V.1 j 0 < sumA V 1 j wt ∧ mishA mis j = false
          · rw [if_pos c5] at h; exact h
          · rw [if_neg c5] at h; exact h
    · rw [updR_ne _ _ e] at h
      exact ih j (by omega) h
theorem c_pass3 {u : PM} {v : Nat} {V : Vil} {wt mis : Int32} (hW : WF V) (h1 : u.1 (1, v, 0) 0 = nI V.2.2.1) (hw0 : cW u v = V.2.1) (hF0 : cF u v = hour2 V wt mis V.2.2.1) (hs : seen V wt u V.2.2.1) : ∃ u', am_loop (f_X1_pass_L224 v wt) 2000 ((0 : Int32), u) = some u' ∧ eqx (gH v) u u' ∧ cF u' v = hour3 V wt mis V.2.2.1 := by
  have h6 := hW.1
  refine am_cnt (f := f_X1_pass_L224 v wt) (s := ((0 : Int32), u)) (fun j t => t.1 = nI j ∧ eqx (gH v) u t.2 ∧ cF t.2 v = hour3 V wt mis j) (fun e => eqx (gH v) u e ∧ cF e v = hour3 V wt mis V.2.2.1) V.2.2.1 ⟨rfl, eqx.rf, hF0⟩ (by omega) ?_ ?_
  · rintro j ⟨x, t⟩ hj ⟨rfl, he, hF⟩
    dsimp only at he hF
    have a3 : t.1 (1, v, 0) 0 = nI V.2.2.1 := (he.1 _ _ rfl).trans h1
    have hw : cW t v = V.2.1 := (cW_kept he (fun _ _ => rfl)).trans hw0
    have wf := WF_h3 hW wt mis j (by omega)
    have nx : hour3 V wt mis (j + 1) = updR (hour3 V wt mis j) j (g3A V wt (hour3 V wt mis j) j) := rfl
    have rw_ : ∀ f, f < 9 → t.1 (3, v, j) f = hour3 V wt mis j j f := fun f hf => (cF_at (by omega) hf).trans (congrFun (congrFun hF j) f)
    unfold f_X1_pass_L224
    dsimp only
    rw [a3, if_neg (nI_ge (show j < V.2.2.1 by omega) (by omega)), if_neg (show ¬ (6 : Int32) ≤ nI j from nI_ge (b := 6) (by omega) (by omega)), if_neg (nI_in (show j < 6 by omega) (by omega)), nI_clamp (show j < 2 ^ 31 by omega), nI_1, rw_ 5 (by omega)]
    by_cases c1 : hour3 V wt mis j j 5 = 1
    · rw [if_pos c1]
      obtain ⟨g, hg, hg7⟩ : ∃ g, g < V.2.2.1 ∧ hour3 V wt mis j j 7 = nI g := by
        rcases (WF_row wf (show j < V.2.2.1 by omega)).2.2 with e | ⟨_, g, hg, e⟩
        · exact absurd (c1.symm.trans e) (by decide)
        · exact ⟨g, hg, e⟩
      have hcl : (hour3 V wt mis j j 7).toNatClampNeg = g := by rw [hg7]; exact nI_clamp (by omega)
      have go : ∃ u', f_X1_goNearer v j (nI j) t = some u' ∧ eqx (gH v) t u' ∧ cF u' v = updR (cF t v) j (g3A V wt (hour3 V wt mis j) j) := by
        unfold f_X1_goNearer
        rw [rw_ 6 (by omega), rw_ 7 (by omega)]
        unfold g3A
        rw [if_pos c1, hcl]
        by_cases cl : hour3 V wt mis j j 6 - 1 ≤ 0
        · rw [if_pos cl, if_pos cl, hg7]
          have b3 : (pi t (3, v, j) 6 (hour3 V wt mis j j 6 - 1)).1 (1, v, 0) 0 = nI V.2.2.1 := ((eqx.rf.pi (gH_t v j 6)).1 _ _ rfl).trans a3
          have bF : cF (pi t (3, v, j) 6 (hour3 V wt mis j j 6 - 1)) v = updR (cF t v) j (put1 (hour3 V wt mis j j) 6 (hour3 V wt mis j j 6 - 1)) := by
            rw [c_row (by omega) (by omega), hF]
          rw [c_find b3 h6 hg, Option.bind_some]
          dsimp only
          rw [if_pos (show g < 6 by omega), show t.1 (3, v, g) 1 = hour3 V wt mis j g 1 from (cF_at (by omega) (by omega)).trans (congrFun (congrFun hF g) 1)]
          by_cases cg : hour3 V wt mis j g 1 = 0
          · rw [if_pos cg, if_pos cg]
            obtain ⟨u', q1, q2, q3⟩ := c_setOut (pi t (3, v, j) 6 (hour3 V wt mis j j 6 - 1)) v j 0 0 0 (by omega)
            rw [q1]
            refine ⟨u', rfl, (eqx.rf.pi (gH_t _ _ _)).tr q3, ?_⟩
            rw [q2, bF, updR_2, updR_at]
          · rw [if_neg cg, if_neg cg, c_hb (show j < 6 by omega) (show g < 6 by omega), Option.bind_some, show cW (pi t (3, v, j) 6 (hour3 V wt mis j j 6 - 1)) v = V.2.1 from (cW_kept (eqx.rf.pi (gH_t v j 6)) (fun _ _ => rfl)).trans hw]
            obtain ⟨u', q1, q2, q3⟩ := c_setOut (pi t (3, v, j) 6 (hour3 V wt mis j j 6 - 1)) v j 2 (if 1 < V.2.1 j g then V.2.1 j g else 1) (nI g) (by omega)
            rw [q1]
            refine ⟨u', rfl, (eqx.rf.pi (gH_t _ _ _)).tr q3, ?_⟩
            rw [q2, bF, updR_2, updR_at]
        · rw [if_neg cl, if_neg cl]
          exact ⟨_, rfl, eqx.rf.pi (gH_t _ _ _), by rw [c_row (by omega) (by omega), hF]⟩
      obtain ⟨u', q1, q2, q3⟩ := go
      rw [q1, Option.bind_some]
      exact ⟨_, rfl, rfl, he.tr q2, by rw [nx, ← hF]; dsimp only; rw [q3, hF]⟩
    · rw [if_neg c1]
      by_cases c2 : hour3 V wt mis j j 5 = 2
      · rw [if_pos c2]
        have hV2 : V.1 j 5 = 2 := by
          have e : hour3 V wt mis j j = hour2 V wt mis V.2.2.1 j := foldF_ge _ _ _ _ (Nat.le_refl j)
          rw [e] at c2
          exact h2_row5 j hj c2
        have t23 : t.1 (23, 0, 0) j = sumA V 2 j wt := (he.1 _ _ rfl).trans ((hs j hj).2.2.1 hV2)
        have br : ∃ u', f_X1_bringNearer v j (nI j) t = some u' ∧ eqx (gH v) t u' ∧ cF u' v = updR (cF t v) j (g3A V wt (hour3 V wt mis j) j) := by
          unfold f_X1_bringNearer
          rw [if_neg (nI_pos (show j < 2 ^ 31 by omega)), if_neg (show ¬ (6 : Int32) ≤ nI j from nI_ge (b := 6) (by omega) (by omega)), if_neg (nI_in (show j < 6 by omega) (by omega)), nI_clamp (show j < 2 ^ 31 by omega), rw_ 6 (by omega), rw_ 8 (by omega), t23]
          unfold g3A
          rw [if_neg c1, if_pos c2]
          have bF : cF (pi (pi t (3, v, j) 6 (hour3 V wt mis j j 6 - 1)) (3, v, j) 8 (hour3 V wt mis j j 8 + 1)) v = updR (cF t v) j (put1 (put1 (hour3 V wt mis j j) 6 (hour3 V wt mis j j 6 - 1)) 8 (hour3 V wt mis j j 8 + 1)) := by
            rw [c_row (by omega) (by omega), c_row (by omega) (by omega), hF, updR_2, updR_at]
          by_cases ch : hour3 V wt mis j j 8 + 1 ≤ sumA V 2 j wt
          · rw [if_pos ch, if_pos ch]
            by_cases cl : 0 < hour3 V wt mis j j 6 - 1
            · rw [if_pos cl, if_pos cl]
              exact ⟨_, rfl, (eqx.rf.pi (gH_t _ _ _)).pi (gH_t _ _ _), bF⟩
            · rw [if_neg cl, if_neg cl]
              obtain ⟨u', q1, q2, q3⟩ := c_setOut (pi (pi (pi t (3, v, j) 6 (hour3 V wt mis j j 6 - 1)) (3, v, j) 8 (hour3 V wt mis j j 8 + 1)) (3, v, j) 1 1) v j 0 0 0 (by omega)
              rw [q1]
              refine ⟨u', rfl, (((eqx.rf.pi (gH_t _ _ _)).pi (gH_t _ _ _)).pi (gH_t _ _ _)).tr q3, ?_⟩
              rw [q2, c_row (by omega) (by omega), bF]
              simp only [updR_2, updR_at]
          · rw [if_neg ch, if_neg ch]
            obtain ⟨u', q1, q2, q3⟩ := c_setOut (pi (pi t (3, v, j) 6 (hour3 V wt mis j j 6 - 1)) (3, v, j) 8 (hour3 V wt mis j j 8 + 1)) v j 0 0 0 (by omega)
            rw [q1]
            refine ⟨u', rfl, ((eqx.rf.pi (gH_t _ _ _)).pi (gH_t _ _ _)).tr q3, ?_⟩
            rw [q2, bF, updR_2, updR_at]
        obtain ⟨u', q1, q2, q3⟩ := br
        rw [q1, Option.bind_some]
        exact ⟨_, rfl, rfl, he.tr q2, by rw [nx, ← hF]; dsimp only; rw [q3, hF]⟩
      · rw [if_neg c2]
        refine ⟨_, rfl, rfl, he, ?_⟩
        dsimp only
        rw [nx]
        unfold g3A
        rw [if_neg c1, if_neg c2, updR_id]
        exact hF
  · rintro ⟨x, t⟩ ⟨rfl, he, hF⟩
    have a3 : t.1 (1, v, 0) 0 = nI V.2.2.1 := (he.1 _ _ rfl).trans h1
    unfold f_X1_pass_L224
    dsimp only
    rw [a3, if_pos (Int32.le_refl _)]
    exact ⟨t, rfl, he, hF⟩
/-- what an hour in village v touches -/
def gPs (v : Nat) (q : Key) (k : Nat) : Bool := gX1 q k || gH v q k || (q.1 == 1 && q.2.1 == v && (k == 3 || k == 4))
theorem seen_gH {V : Vil} {wt : Int32} {u u' : PM} {v n : Nat} (h : seen V wt u n) (he : eqx (gH v) u u') : seen V wt u' n := by
  intro i hi
  obtain ⟨c1, c2, c3, c4⟩ := h i hi
  rw [he.1 _ _ rfl, he.1 _ _ rfl, he.1 _ _ rfl, he.1 _ _ rfl]
  exact ⟨c1, c2, c3, c4⟩
theorem c_pass {u : PM} {v : Nat} {V : Vil} (hR : RepC u v V) (hW : WF V) (wt mis : Int32) : ∃ u', f_X1_pass v wt mis u = some u' ∧ eqx (gPs v) u u' ∧ RepC u' v (hourA V wt mis) := by
  obtain ⟨u1, q1, e1, s1⟩ := c_pass1 hR hW wt mis
  have hR1 : RepC u1 v V := RepC_gWx (e1.mono (fun _ _ => gX1_Wx)) hR
  obtain ⟨u2, q2, e2, s2⟩ := c_pass2 (mis := mis) hR hW e1 s1
  obtain ⟨u3, q3, e3, s3⟩ := c_pass3 (mis := mis) hW ((e2.1 _ _ rfl).trans hR1.2.2.1) ((cW_kept e2 (fun _ _ => rfl)).trans hR1.2.1.symm) s2 (seen_gH s1 e2)
  have t2 : eqx (gH v) u1 u3 := e2.tr e3
  have g1 : ∀ q k, gPs v q k = false → gX1 q k = false := fun q k h => by unfold gPs at h; simp only [Bool.or_eq_false_iff] at h; exact h.1.1
  have g2 : ∀ q k, gPs v q k = false → gH v q k = false := fun q k h => by unfold gPs at h; simp only [Bool.or_eq_false_iff] at h; exact h.1.2
  have tt : eqx (gPs v) u u3 := (e1.mono g1).tr (t2.mono g2)
  unfold f_X1_pass
  rw [q1, Option.bind_some, q2, Option.bind_some, q3, Option.bind_some]
  refine ⟨_, rfl, (tt.pi (by simp [gPs])).pi (by simp [gPs]), ?_⟩
  obtain ⟨a1, a2, a3, a4, a5, a6⟩ := hR
  have fin : eqx (fun q k => (q.1 == 1 && q.2.1 == v && (k == 3 || k == 4))) u3 (pi (pi u3 (1, v, 0) 3 wt) (1, v, 0) 4 ((u3.1 (1, v, 0) 4) + (1 : Int32))) := (eqx.rf.pi (by simp)).pi (by simp)
  refine ⟨?_, ?_, ?_, ?_, ?_, ?_⟩
  · exact (s3.symm).trans (cF_kept fin (fun _ _ => rfl)).symm
  · show V.2.1 = _
    rw [cW_kept fin (fun _ _ => rfl), cW_kept t2 (fun _ _ => rfl), cW_kept e1 (fun _ _ => rfl), a2]
  · show _ = nI V.2.2.1
    rw [fin.1 _ _ (by simp), t2.1 _ _ rfl, e1.1 _ _ rfl, a3]
  · simp [p_i, hourA]
  · simp only [p_i]
    rw [show u3.1 (1, v, 0) 4 = u.1 (1, v, 0) 4 by rw [t2.1 _ _ rfl, e1.1 _ _ rfl], a5]
    simp [hourA]
  · show LdC _ (u3.2.2 (v + 1)) V.2.2.2.2.2
    rw [t2.2.2 _ rfl, e1.2.2 _ rfl]
    refine LdC_kept (g := gPs v) ((tt.pi (by simp [gPs])).pi (by simp [gPs])) (fun s p i h1 h2 => ?_) a6
    unfold gPs gX1 gH
    have n1 : (s == 8) = false := beq_eq_false_iff_ne.mpr (by omega)
    have n3 : (s == 3) = false := beq_eq_false_iff_ne.mpr (by omega)
    have n4 : (s == 1) = false := beq_eq_false_iff_ne.mpr (by omega)
    have n5 : decide (21 ≤ s) = false := decide_eq_false (by omega)
    simp [n1, n3, n4, n5]
