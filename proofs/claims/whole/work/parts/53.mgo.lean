/-! the walks, the hour whole -/
theorem h3_keep {V : Vil} {wt mis : Int32} {f : Nat} (hf : f = 2 ∨ f = 3 ∨ f = 4) : ∀ n h, hour3 V wt mis n h f = V.1 h f := by
  have p1 : ∀ (R : Nat → Int32) (g : Nat) (x : Int32), g = 0 ∨ g = 1 ∨ g = 6 ∨ g = 8 → put1 R g x f = R f := fun R g x hg => if_neg (by omega)
  have s1 : ∀ (a b c : Int32) (R : Nat → Int32), setA a b c R f = R f := fun a b c R => by
    unfold setA
    rw [if_neg (by omega), if_neg (by omega), if_neg (by omega), if_neg (by omega)]
  have g2 : ∀ (F : Nat → Nat → Int32) n, g2A V wt mis F n f = F n f := fun F n => by
    unfold g2A
    by_cases c3 : choA V n wt = 3
    · rw [if_pos c3]
      cases nearA V n with
      | none => rfl
      | some g => exact s1 _ _ _ _
    · rw [if_neg c3]
      split
      · rfl
      · split
        · exact p1 _ _ _ (by omega)
        · exact p1 _ _ _ (by omega)
  have g3 : ∀ (F : Nat → Nat → Int32) n, g3A V wt F n f = F n f := fun F n => by
    unfold g3A
    split
    · split
      · split
        · rw [s1, p1 _ _ _ (by omega)]
        · rw [s1, p1 _ _ _ (by omega)]
      · exact p1 _ _ _ (by omega)
    · split
      · split
        · split
          · rw [p1 _ _ _ (by omega), p1 _ _ _ (by omega)]
          · rw [s1, p1 _ _ _ (by omega), p1 _ _ _ (by omega), p1 _ _ _ (by omega)]
        · rw [s1, p1 _ _ _ (by omega), p1 _ _ _ (by omega)]
      · rfl
  have fo : ∀ (G : (Nat → Nat → Int32) → Nat → Nat → Int32) F0, (∀ F n, G F n f = F n f) → ∀ n h, foldF G F0 n h f = F0 h f := fun G F0 hG n => by
    induction n with
    | zero => intro h; rfl
    | succ n ih =>
      intro h
      show updR (foldF G F0 n) n (G (foldF G F0 n) n) h f = _
      by_cases e : h = n
      · subst e
        rw [updR_at, hG, ih]
      · rw [updR_ne _ _ e, ih]
  intro n h
  unfold hour3
  rw [fo _ _ g3]
  unfold hour2
  rw [fo _ _ g2]
theorem m_go3 {w : PM} {V : Vil} {wt mis : Int32} (hR : RMw w V) (hW : WF V) (hA : RMa w (hour2 V wt mis V.2.2.1) V.2.2.1) : ∃ w', am_loop (f_X10_goHour_L142 wt) 2000 ((0 : Int32), w) = some w' ∧ eqx gM8 w w' ∧ RMa w' (hour3 V wt mis V.2.2.1) V.2.2.1 := by
  have h6 := hW.1
  refine am_cnt (f := f_X10_goHour_L142 wt) (s := ((0 : Int32), w)) (fun j t => t.1 = nI j ∧ eqx gM8 w t.2 ∧ RMa t.2 (hour3 V wt mis j) V.2.2.1) (fun e => eqx gM8 w e ∧ RMa e (hour3 V wt mis V.2.2.1) V.2.2.1) V.2.2.1 ⟨rfl, eqx.rf, hA⟩ (by omega) ?_ ?_
  · rintro j ⟨x, t⟩ hj ⟨rfl, he, hF⟩
    dsimp only at he hF
    have hRt : RMw t V := RMw_kept (he.mono (fun _ _ => gM8_W)) hR
    have wf := WF_h3 hW wt mis j (by omega)
    have nx : hour3 V wt mis (j + 1) = updR (hour3 V wt mis j) j (g3A V wt (hour3 V wt mis j) j) := rfl
    obtain ⟨r0, r5, r67, r8⟩ := hF.2 j hj
    have row := (WF_row wf (show j < V.2.2.1 by omega))
    unfold f_X10_goHour_L142
    dsimp only
    rw [hRt.1, if_neg (nI_ge (show j < V.2.2.1 by omega) (by omega)), if_neg (nI_in (show j < 6 by omega) (by omega)), nI_clamp (show j < 2 ^ 31 by omega), nI_1, r5]
    by_cases c0 : hour3 V wt mis j j 5 = 0
    · rw [c0, if_pos (Int32.le_refl _)]
      refine ⟨_, rfl, rfl, he, ?_⟩
      dsimp only
      rw [nx]
      unfold g3A
      rw [if_neg (by rw [c0]; decide), if_neg (by rw [c0]; decide), updR_id]
      exact hF
    · have c12 : hour3 V wt mis j j 5 = 1 ∨ hour3 V wt mis j j 5 = 2 := by
        rcases row.2.2 with e | e
        · exact absurd e c0
        · exact e.1
      rw [if_neg (by rcases c12 with e | e <;> rw [e] <;> decide)]
      obtain ⟨r6, r7⟩ := r67 c0
      have wa : ∃ t', f_X10_walks (nI j) wt t = some t' ∧ eqx gM8 t t' ∧ RMa t' (hour3 V wt mis (j + 1)) V.2.2.1 := by
        unfold f_X10_walks
        rw [if_neg (nI_in (show j < 6 by omega) (by omega)), nI_clamp (show j < 2 ^ 31 by omega), r5, nx]
        unfold g3A
        by_cases c1 : hour3 V wt mis j j 5 = 1
        · obtain ⟨g, hg, hg7⟩ : ∃ g, g < V.2.2.1 ∧ hour3 V wt mis j j 7 = nI g := by
            rcases row.2.2 with e | ⟨_, g, hg, e⟩
            · exact absurd e c0
            · exact ⟨g, hg, e⟩
          have hcl : (hour3 V wt mis j j 7).toNatClampNeg = g := by rw [hg7]; exact nI_clamp (by omega)
          rw [if_pos c1, if_pos c1, r6, r7, hcl, hg7]
          by_cases cl : hour3 V wt mis j j 6 - 1 ≤ 0
          · rw [if_pos cl, if_pos cl, hF.1, m_has (lit_64 _ h6) (show g < 6 by omega), Option.bind_some]
            simp only [L_6, pk_mul, nI_add]
            rw [if_neg (nI_in (show 6 * j + g < 36 by omega) (by omega)), nI_clamp (show 6 * j + g < 2 ^ 31 by omega), hRt.2.2.2.2.1 j g hj hg, lit_tb, decide_eq_true hg, Bool.true_and]
            obtain ⟨n, hn, en⟩ := hW.2.2.2.2.1 j g (by omega) (by omega)
            have way : (if V.2.1 j g = 0 then (1 : Int32) else V.2.1 j g) = if 1 < V.2.1 j g then V.2.1 j g else 1 := by
              rw [en]
              simp (disch := omega) only [i_eq0, L_1, i_lt]
              by_cases z : n = 0
              · rw [if_pos z, if_neg (by omega)]
              · rw [if_neg z]
                by_cases z1 : n = 1
                · rw [if_neg (by omega), z1]
                · rw [if_pos (by omega)]
            by_cases cg : hour3 V wt mis j g 1 = 0
            · rw [if_pos (show (if (!decide (hour3 V wt mis j g 1 = 0)) = true then (1 : Int32) else 0) = 0 by simp [cg]), if_pos cg]
              split
              all_goals
                refine ⟨_, rfl, (((eqx.rf.pi rfl).pi rfl).pi rfl).pi rfl, RMa_upd hF ?_ (fun s i h1 h2 hi => by simp only [p_i, hi, false_and, if_false]) ⟨?_, ?_, fun z => absurd rfl z, fun z => absurd (show (0 : Int32) = 2 from z) (by decide)⟩⟩
                · rw [lit_same (by simp [setA, put1])]
                  simp [p_i]
                  exact hF.1
                · simp [p_i, setA, put1, r0]
                · simp [p_i, setA]
            · rw [if_neg (show ¬ (if (!decide (hour3 V wt mis j g 1 = 0)) = true then (1 : Int32) else 0) = 0 by simp [cg]), if_neg cg, ← way]
              by_cases z0 : V.2.1 j g = 0
              · rw [if_pos z0, if_pos z0]
                refine ⟨_, rfl, (((eqx.rf.pi rfl).pi rfl).pi rfl).pi rfl, RMa_upd hF ?_ (fun s i h1 h2 hi => by simp only [p_i, hi, false_and, if_false]) ⟨?_, ?_, fun z => ⟨?_, ?_⟩, fun z => ?_⟩⟩
                · rw [lit_same (by simp [setA, put1])]
                  simp [p_i]
                  exact hF.1
                · simp [p_i, setA, put1, r0]
                · simp [p_i, setA]
                · simp [p_i, setA]
                · simp [p_i, setA]
                  rw [r7, hg7]
                · simp [p_i, setA]
              · rw [if_neg z0, if_neg z0]
                refine ⟨_, rfl, (((eqx.rf.pi rfl).pi rfl).pi rfl).pi rfl, RMa_upd hF ?_ (fun s i h1 h2 hi => by simp only [p_i, hi, false_and, if_false]) ⟨?_, ?_, fun z => ⟨?_, ?_⟩, fun z => ?_⟩⟩
                · rw [lit_same (by simp [setA, put1])]
                  simp [p_i]
                  exact hF.1
                · simp [p_i, setA, put1, r0]
                · simp [p_i, setA]
                · simp [p_i, setA]
                · simp [p_i, setA]
                  rw [r7, hg7]
                · simp [p_i, setA]
          · rw [if_neg cl, if_neg cl]
            refine ⟨_, rfl, eqx.rf.pi rfl, RMa_upd hF ?_ (fun s i h1 h2 hi => by simp only [p_i, hi, false_and, if_false]) ⟨?_, ?_, fun z => ⟨?_, ?_⟩, fun z => ?_⟩⟩
            · rw [lit_same (by simp [put1])]
              simp [p_i]
              exact hF.1
            · simp [p_i, put1, r0]
            · simp [p_i, put1, r5]
            · simp [p_i, put1]
            · simp [p_i, put1, r7]
            · simp only [put1] at z
              exact absurd (c1.symm.trans z) (by decide)
        · have c2 : hour3 V wt mis j j 5 = 2 := c12.resolve_left c1
          rw [if_neg c1, if_neg c1, if_pos c2, r6, r8 c2]
          have e0 : eqx gM8 t (pi (pi t (66, 0, 0) j (hour3 V wt mis j j 6 - 1)) (68, 0, 0) j (hour3 V wt mis j j 8 + 1)) := (eqx.rf.pi rfl).pi rfl
          obtain ⟨w1, q1, q2⟩ := m_sum (RMw_kept (e0.mono (fun _ _ => gM8_W)) hRt) hW (show 2 < 4 by omega) hj wt
          rw [show (2 : Int32) = nI 2 from rfl, q1, Option.bind_some]
          dsimp only
          have e1 : eqx gM8 t w1 := e0.tr (q2.mono (fun _ _ => gP_8))
          have w66 : w1.1 (66, 0, 0) j = hour3 V wt mis j j 6 - 1 := by rw [q2.1 _ _ rfl]; simp [p_i]
          have w68 : w1.1 (68, 0, 0) j = hour3 V wt mis j j 8 + 1 := by rw [q2.1 _ _ rfl]; simp [p_i]
          have w61 : w1.1 (61, 0, 0) j = hour3 V wt mis j j 0 := by rw [q2.1 _ _ rfl]; simp [p_i, r0]
          have w65 : w1.1 (65, 0, 0) j = hour3 V wt mis j j 5 := by rw [q2.1 _ _ rfl]; simp [p_i, r5]
          have w67 : w1.1 (67, 0, 0) j = hour3 V wt mis j j 7 := by rw [q2.1 _ _ rfl]; simp [p_i, r7]
          have w32 : w1.1 (40, 0, 0) 32 = nI (lit (hour3 V wt mis j) V.2.2.1) := by rw [q2.1 _ _ rfl]; simp [p_i]; exact hF.1
          have oth : ∀ s i, 61 ≤ s → s ≤ 68 → i ≠ j → w1.1 (s, 0, 0) i = t.1 (s, 0, 0) i := fun s i h1 h2 hi => by
            rw [q2.1 _ _ (beq_eq_false_iff_ne.mpr (by show s ≠ 69; omega))]
            simp only [p_i, hi, false_and, if_false]
          rw [w66]
          by_cases ch : hour3 V wt mis j j 8 + 1 ≤ sumA V 2 j wt
          · rw [if_pos ch, if_pos ch]
            by_cases cl : 0 < hour3 V wt mis j j 6 - 1
            · rw [if_pos cl, if_pos cl]
              refine ⟨_, rfl, e1, RMa_upd hF ?_ oth ⟨?_, ?_, fun z => ⟨?_, ?_⟩, fun z => ?_⟩⟩
              · rw [lit_same (by simp [put1])]
                exact w32
              · simp [put1, w61]
              · simp [put1, w65]
              · simp [put1, w66]
              · simp [put1, w67]
              · simp [put1, w68]
            · rw [if_neg cl, if_neg cl]
              refine ⟨_, rfl, (e1.pi rfl).pi rfl, RMa_upd hF ?_ (fun s i h1 h2 hi => ?_) ⟨?_, ?_, fun z => absurd rfl z, fun z => absurd (show (0 : Int32) = 2 from z) (by decide)⟩⟩
              · rw [lit_upd _ hj h6, if_neg (by simp [setA, put1]), w32, b_or0 _ (lit_64 _ h6) _ (by omega)]
                simp [p_i]
              · rw [p_i, if_neg (fun z => by have := z.2; simp at this; omega), p_i, if_neg (fun z => hi z.1)]
                exact oth s i h1 h2 hi
              · simp [p_i, setA, put1, w61]
              · simp [p_i, setA]
          · rw [if_neg ch, if_neg ch]
            refine ⟨_, rfl, e1.pi rfl, RMa_upd hF ?_ (fun s i h1 h2 hi => ?_) ⟨?_, ?_, fun z => absurd rfl z, fun z => absurd (show (0 : Int32) = 2 from z) (by decide)⟩⟩
            · rw [lit_same (by simp [setA, put1])]
              simp [p_i]
              exact w32
            · rw [p_i, if_neg (fun z => hi z.1)]
              exact oth s i h1 h2 hi
            · simp [p_i, setA, put1, w61]
            · simp [p_i, setA]
      obtain ⟨t', q1, q2, q3⟩ := wa
      rw [q1, Option.bind_some]
      exact ⟨_, rfl, rfl, he.tr q2, q3⟩
  · rintro ⟨x, t⟩ ⟨rfl, he, hF⟩
    unfold f_X10_goHour_L142
    dsimp only
    rw [show t.1 (40, 0, 0) 0 = nI V.2.2.1 from (he.1 _ _ rfl).trans hR.1, if_pos (Int32.le_refl _)]
    exact ⟨t, rfl, he, hF⟩
def gMh (q : Key) (k : Nat) : Bool := gBe q k || gM6 q k || gM8 q k || (q.1 == 40 && k == 33)
theorem gMh_L {q : Key} {k : Nat} (h : gMh q k = false) : gBe q k = false ∧ gM6 q k = false ∧ gM8 q k = false := by
  unfold gMh at h
  simp only [Bool.or_eq_false_iff] at h
  exact ⟨h.1.1.1, h.1.1.2, h.1.2⟩
/-- all of the reference's lands stay where nothing of them changes -/
def gL (q : Key) (k : Nat) : Bool := !((51 ≤ q.1 && q.1 ≤ 57) || (q.1 == 40 && k == 14))
theorem tkM_gL {w w' : PM} (h : eqx gL w w') : ∀ {ts : List Tok} {a : Nat}, tkM w a ts → tkM w' a ts
  | [], _, _ => trivial
  | _ :: _, _, x => ⟨(h.1 _ _ rfl).trans x.1, tkM_gL h x.2⟩
theorem clM_gL {w w' : PM} {p : Nat} (h : eqx gL w w') : ∀ {cs : List Cl} {c : Nat}, clM w p c cs → clM w' p c cs
  | [], _, _ => trivial
  | _ :: _, _, ⟨⟨a1, a2, a3, a4, a5⟩, r⟩ => ⟨⟨(h.1 _ _ rfl).trans a1, (h.1 _ _ rfl).trans a2, fun z => (h.1 _ _ rfl).trans (a3 z), fun z => by
      obtain ⟨b1, b2, b3, b4, b5, b6⟩ := a4 z
      exact ⟨(h.1 _ _ rfl).trans b1, (h.1 _ _ rfl).trans b2, b3, b4, tkM_gL h b5, b6⟩, a5⟩, clM_gL h r⟩
theorem LandM_gL {w w' : PM} {p : Nat} {cs : List Cl} (h : eqx gL w w') (x : LandM w p cs) : LandM w' p cs := ⟨(h.1 _ _ rfl).trans x.1, x.2.1, clM_gL h x.2.2⟩
theorem LdM_gL {w w' : PM} {x : Int32} (h : eqx gL w w') : ∀ {ld : Option (Nat × List Cl)}, LdM w x ld → LdM w' x ld
  | none, y => y
  | some _, y => ⟨y.1, y.2.1, LandM_gL h y.2.2⟩
theorem LdM_the {w w' : PM} {ld : Option (Nat × List Cl)} (h : eqx gL w w') (x : LdM w (w.1 (40, 0, 0) 14) ld) : LdM w' (w'.1 (40, 0, 0) 14) ld := by
  rw [show w'.1 (40, 0, 0) 14 = w.1 (40, 0, 0) 14 from h.1 _ _ rfl]
  exact LdM_gL h x
theorem gMh_gL {q : Key} {k : Nat} (h : gL q k = false) : gMh q k = false := by
  unfold gL at h
  unfold gMh gBe gM6 gM8
  simp only [Bool.not_eq_false', Bool.or_eq_true, Bool.and_eq_true, beq_iff_eq, decide_eq_true_eq] at h
  simp only [Bool.or_eq_false_iff, beq_eq_false_iff_ne, Bool.and_eq_false_iff]
  omega
theorem m_hour {w : PM} {V : Vil} (hR : RA w V) (hW : WF V) (wt mis : Int32) : ∃ w', f_X10_goHour wt mis w = some w' ∧ eqx gMh w w' ∧ RA w' (hourA V wt mis) ∧ w'.1 (40, 0, 0) 35 = wS V wt (w.1 (40, 0, 0) 35) V.2.2.1 ∧ w'.1 (40, 0, 0) 36 = lS V wt (w.1 (40, 0, 0) 36) V.2.2.1 := by
  have h6 := hW.1
  obtain ⟨a1, a2, a3, a4, a5, a6⟩ := id hR
  obtain ⟨w1, q1, e1, b1, b2⟩ := m_begin w
  have hM1 : RMw w1 V := by
    refine ⟨(e1.1 _ _ rfl).trans a1, b1.trans a3.1, (e1.1 _ _ rfl).trans a2, fun h hh => ?_, fun a b ha hb => (e1.1 _ _ rfl).trans (a5 a b ha hb), LdM_the (e1.mono (fun q k h => (gMh_L (gMh_gL h)).1)) a6⟩
    obtain ⟨c1, c2, c3⟩ := a4 h hh
    exact ⟨(b2 h (by omega)).trans (a3.2 h hh).1, (e1.1 _ _ rfl).trans c1, (e1.1 _ _ rfl).trans c2, (e1.1 _ _ rfl).trans c3⟩
  have hA1 : RMa w1 V.1 V.2.2.1 := RMa_kept a3 e1 rfl (fun s i h1 h2 h3 h4 h5 => by unfold gBe; simp only [Bool.or_eq_false_iff, beq_eq_false_iff_ne, Bool.and_eq_false_iff]; omega)
  obtain ⟨w2, q2, e2, b3, b4⟩ := m_weigh hM1 hW wt mis
  have hM2 : RMw w2 V := RMw_kept (e2.mono (fun _ _ => gM6_W)) hM1
  have hA2 : RMa w2 V.1 V.2.2.1 := RMa_kept hA1 e2 rfl (fun s i h1 h2 h3 h4 h5 => by unfold gM6; simp only [Bool.or_eq_false_iff, beq_eq_false_iff_ne, Bool.and_eq_false_iff]; omega)
  obtain ⟨w3, q3, e3, hA3⟩ := m_go2 (wt := wt) (mis := mis) hM2 hW hA2
  have hM3 : RMw w3 V := RMw_kept (e3.mono (fun _ _ => gM8_W)) hM2
  obtain ⟨w4, q4, e4, hA4⟩ := m_go3 (wt := wt) (mis := mis) hM3 hW hA3
  have et : eqx gMh w w4 := (((e1.mono (fun q k h => (gMh_L h).1)).tr (e2.mono (fun q k h => (gMh_L h).2.1))).tr (e3.mono (fun q k h => (gMh_L h).2.2))).tr (e4.mono (fun q k h => (gMh_L h).2.2))
  unfold f_X10_goHour
  rw [q1, Option.bind_some, q2, Option.bind_some, q3, Option.bind_some, q4, Option.bind_some]
  have ef := et.pi (q := (40, 0, 0)) (k := 33) (x := (w4.1 (40, 0, 0) 33) + (1 : Int32)) rfl
  have eg : eqx (fun q k => q.1 == 40 && k == 33) w4 (pi w4 (40, 0, 0) 33 ((w4.1 (40, 0, 0) 33) + (1 : Int32))) := eqx.rf.pi rfl
  refine ⟨_, rfl, ef, ⟨(ef.1 _ _ rfl).trans a1, ?_, RMa_kept hA4 eg rfl (fun s i h1 h2 h3 h4 h5 => by simp only [beq_eq_false_iff_ne, Bool.and_eq_false_iff]; left; omega), fun h hh => ?_, fun a b ha hb => (ef.1 _ _ rfl).trans (a5 a b ha hb), LdM_the (ef.mono (fun _ _ => gMh_gL)) a6⟩, ?_, ?_⟩
  · rw [p_i, if_pos ⟨rfl, rfl⟩, e4.1 _ _ rfl, e3.1 _ _ rfl, e2.1 _ _ rfl, e1.1 _ _ rfl, a2]
    rfl
  · obtain ⟨c1, c2, c3⟩ := a4 h hh
    refine ⟨(ef.1 _ _ rfl).trans (c1.trans ?_), (ef.1 _ _ rfl).trans (c2.trans ?_), (ef.1 _ _ rfl).trans (c3.trans ?_)⟩
    · exact (h3_keep (by omega) _ _).symm
    · exact (h3_keep (by omega) _ _).symm
    · exact (h3_keep (by omega) _ _).symm
  · rw [eg.1 _ _ rfl, e4.1 _ _ rfl, e3.1 _ _ rfl, b3, e1.1 _ _ rfl]
  · rw [eg.1 _ _ rfl, e4.1 _ _ rfl, e3.1 _ _ rfl, b4, e1.1 _ _ rfl]
