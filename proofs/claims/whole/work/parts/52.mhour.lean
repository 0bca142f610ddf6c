/-! an hour passes in the reference -/
def rowM (w : PM) (R : Nat → Int32) (h : Nat) : Prop := w.1 (65, 0, 0) h = R 5 ∧ (R 5 ≠ 0 → w.1 (66, 0, 0) h = R 6 ∧ w.1 (67, 0, 0) h = R 7) ∧ (R 5 = 2 → w.1 (68, 0, 0) h = R 8)
def RMa (w : PM) (F : Nat → Nat → Int32) (H : Nat) : Prop := w.1 (40, 0, 0) 32 = nI (lit F H) ∧ ∀ h, h < H → w.1 (61, 0, 0) h = F h 0 ∧ rowM w (F h) h
def RA (w : PM) (V : Vil) : Prop := w.1 (40, 0, 0) 0 = nI V.2.2.1 ∧ w.1 (40, 0, 0) 33 = V.2.2.2.2.1 ∧ RMa w V.1 V.2.2.1 ∧ (∀ h, h < V.2.2.1 → w.1 (63, 0, 0) h = V.1 h 2 ∧ w.1 (64, 0, 0) h = V.1 h 3 ∧ w.1 (44, 0, 0) h = V.1 h 4) ∧ (∀ a b, a < V.2.2.1 → b < V.2.2.1 → w.1 (49, 0, 0) (6 * a + b) = V.2.1 a b) ∧ LdM w (w.1 (40, 0, 0) 14) V.2.2.2.2.2
theorem RMa_upd {w w' : PM} {F : Nat → Nat → Int32} {H n : Nat} {R : Nat → Int32} (h : RMa w F H) (hb : w'.1 (40, 0, 0) 32 = nI (lit (updR F n R) H)) (ho : ∀ s i, 61 ≤ s → s ≤ 68 → i ≠ n → w'.1 (s, 0, 0) i = w.1 (s, 0, 0) i) (hr : w'.1 (61, 0, 0) n = R 0 ∧ rowM w' R n) : RMa w' (updR F n R) H := by
  refine ⟨hb, fun i hi => ?_⟩
  by_cases e : i = n
  · subst e
    rw [updR_at]
    exact hr
  · rw [updR_ne F R e]
    obtain ⟨c1, c2, c3, c4⟩ := h.2 i hi
    unfold rowM
    rw [ho 61 i (by omega) (by omega) e, ho 65 i (by omega) (by omega) e, ho 66 i (by omega) (by omega) e, ho 67 i (by omega) (by omega) e, ho 68 i (by omega) (by omega) e]
    exact ⟨c1, c2, c3, c4⟩
theorem RMa_kept {g : Key → Nat → Bool} {w w' : PM} {F : Nat → Nat → Int32} {H : Nat} (h : RMa w F H) (he : eqx g w w') (h0 : g (40, 0, 0) 32 = false) (hg : ∀ s i, 61 ≤ s → s ≤ 68 → s ≠ 62 → s ≠ 63 → s ≠ 64 → g (s, 0, 0) i = false) : RMa w' F H := by
  refine ⟨(he.1 _ _ h0).trans h.1, fun i hi => ?_⟩
  obtain ⟨c1, c2, c3, c4⟩ := h.2 i hi
  unfold rowM
  rw [he.1 _ _ (hg 61 i (by omega) (by omega) (by omega) (by omega) (by omega)), he.1 _ _ (hg 65 i (by omega) (by omega) (by omega) (by omega) (by omega)), he.1 _ _ (hg 66 i (by omega) (by omega) (by omega) (by omega) (by omega)), he.1 _ _ (hg 67 i (by omega) (by omega) (by omega) (by omega) (by omega)), he.1 _ _ (hg 68 i (by omega) (by omega) (by omega) (by omega) (by omega))]
  exact ⟨c1, c2, c3, c4⟩
def gBe (q : Key) (k : Nat) : Bool := q.1 == 62 || (q.1 == 40 && k == 34)
theorem m_begin (w : PM) : ∃ w', f_X10_begin w = some w' ∧ eqx gBe w w' ∧ w'.1 (40, 0, 0) 34 = w.1 (40, 0, 0) 32 ∧ ∀ h, h < 6 → w'.1 (62, 0, 0) h = w.1 (61, 0, 0) h := by
  unfold f_X10_begin
  have key := am_cnt (f := f_X10_begin_L10) (s := ((0 : Int32), pi w (40, 0, 0) 34 (w.1 (40, 0, 0) 32))) (fun j t => t.1 = nI j ∧ eqx gBe w t.2 ∧ t.2.1 (40, 0, 0) 34 = w.1 (40, 0, 0) 32 ∧ ∀ h, h < j → t.2.1 (62, 0, 0) h = w.1 (61, 0, 0) h) (fun e => eqx gBe w e ∧ e.1 (40, 0, 0) 34 = w.1 (40, 0, 0) 32 ∧ ∀ h, h < 6 → e.1 (62, 0, 0) h = w.1 (61, 0, 0) h) 6 ⟨rfl, eqx.rf.pi rfl, by simp [p_i], fun h hh => by omega⟩ (by omega) ?_ ?_
  · obtain ⟨e, q1, q2⟩ := key
    rw [q1]
    exact ⟨e, rfl, q2⟩
  · rintro j ⟨x, t⟩ hj ⟨rfl, he, h1, h2⟩
    dsimp only at he h1 h2
    unfold f_X10_begin_L10
    dsimp only
    rw [if_neg (show ¬ (6 : Int32) ≤ nI j from nI_ge (b := 6) (by omega) (by omega)), if_neg (nI_in (show j < 6 by omega) (by omega)), nI_clamp (show j < 2 ^ 31 by omega), nI_1]
    refine ⟨_, rfl, rfl, he.pi rfl, ?_, fun h hh => ?_⟩
    · simp [p_i, h1]
    · dsimp only
      rw [p_i]
      by_cases e : h = j
      · subst e
        rw [if_pos ⟨rfl, rfl⟩]
        exact he.1 _ _ rfl
      · rw [if_neg (fun z => e z.1)]
        exact h2 h (by omega)
  · rintro ⟨x, t⟩ ⟨rfl, he, h1, h2⟩
    unfold f_X10_begin_L10
    dsimp only
    rw [if_pos (show (6 : Int32) ≤ nI 6 by decide)]
    exact ⟨t, rfl, he, h1, h2⟩
theorem m_hasV {w : PM} {V : Vil} {j : Nat} (hR : RMw w V) (hW : WF V) (hj : j < V.2.2.1) (x : PM) : f_X10_has (w.1 (40, 0, 0) 34) (nI j) x = some (if V.1 j 1 = 0 then 0 else 1) := by
  have h6 := hW.1
  rw [hR.2.1, m_has (lit_64 _ h6) (by omega), lit_tb, decide_eq_true hj, Bool.true_and]
  by_cases hz : V.1 j 1 = 0
  · rw [if_pos hz, if_neg (by simp [hz])]
  · rw [if_neg hz, if_pos (by simp [hz])]
def gM6 (q : Key) (k : Nat) : Bool := q.1 == 69 || (q.1 == 40 && (k == 35 || k == 36))
theorem gM6_W {q : Key} {k : Nat} (h : gW q k = false) : gM6 q k = false := by
  unfold gW at h
  unfold gM6
  simp only [Bool.not_eq_false', Bool.or_eq_true, Bool.and_eq_true, beq_iff_eq, decide_eq_true_eq] at h
  simp only [Bool.or_eq_false_iff, beq_eq_false_iff_ne, Bool.and_eq_false_iff]
  omega
theorem gP_6 {q : Key} {k : Nat} (h : gM6 q k = false) : gP q k = false := by
  unfold gM6 at h
  simp only [Bool.or_eq_false_iff] at h
  exact h.1
theorem m_weigh {w : PM} {V : Vil} (hR : RMw w V) (hW : WF V) (wt mis : Int32) : ∃ w', am_loop (f_X10_goHour_L6 wt mis) 2000 ((0 : Int32), w) = some w' ∧ eqx gM6 w w' ∧ w'.1 (40, 0, 0) 35 = wS V wt (w.1 (40, 0, 0) 35) V.2.2.1 ∧ w'.1 (40, 0, 0) 36 = lS V wt (w.1 (40, 0, 0) 36) V.2.2.1 := by
  have h6 := hW.1
  refine am_cnt (f := f_X10_goHour_L6 wt mis) (s := ((0 : Int32), w)) (fun j t => t.1 = nI j ∧ eqx gM6 w t.2 ∧ t.2.1 (40, 0, 0) 35 = wS V wt (w.1 (40, 0, 0) 35) j ∧ t.2.1 (40, 0, 0) 36 = lS V wt (w.1 (40, 0, 0) 36) j) (fun e => eqx gM6 w e ∧ e.1 (40, 0, 0) 35 = wS V wt (w.1 (40, 0, 0) 35) V.2.2.1 ∧ e.1 (40, 0, 0) 36 = lS V wt (w.1 (40, 0, 0) 36) V.2.2.1) V.2.2.1 ⟨rfl, eqx.rf, rfl, rfl⟩ (by omega) ?_ ?_
  · rintro j ⟨x, t⟩ hj ⟨rfl, he, w1, w2⟩
    have hRt : RMw t V := RMw_kept (he.mono (fun _ _ => gM6_W)) hR
    obtain ⟨u1, q1, q2⟩ := m_sum hRt hW (show 3 < 4 by omega) hj wt
    have hR1 : RMw u1 V := RMw_kept (q2.mono (fun _ _ => gP_W)) hRt
    have e0 : u1.1 (40, 0, 0) 35 = wS V wt (w.1 (40, 0, 0) 35) j := (q2.1 _ _ rfl).trans w1
    have e1 : u1.1 (40, 0, 0) 36 = lS V wt (w.1 (40, 0, 0) 36) j := (q2.1 _ _ rfl).trans w2
    have he1 : eqx gM6 w u1 := he.tr (q2.mono (fun _ _ => gP_6))
    have sw : wS V wt (w.1 (40, 0, 0) 35) (j + 1) = if V.1 j 1 = 0 then wS V wt (w.1 (40, 0, 0) 35) j else wS V wt (w.1 (40, 0, 0) 35) j + sumA V 3 j wt := rfl
    have sl : lS V wt (w.1 (40, 0, 0) 36) (j + 1) = if V.1 j 1 = 0 ∧ ¬ sumA V 3 j wt ≤ 0 then lS V wt (w.1 (40, 0, 0) 36) j + 1 else lS V wt (w.1 (40, 0, 0) 36) j := rfl
    unfold f_X10_goHour_L6
    dsimp only
    rw [hRt.1, if_neg (nI_ge (show j < V.2.2.1 by omega) (by omega)), show (3 : Int32) = nI 3 from rfl, q1, Option.bind_some]
    dsimp only
    rw [m_hasV hR1 hW hj, Option.bind_some, nI_1]
    simp only [m_hasV hR1 hW hj, Option.bind_some]
    by_cases hz : V.1 j 1 = 0
    · simp only [hz, if_true]
      by_cases hs : sumA V 3 j wt ≤ 0
      · rw [if_pos hs]
        refine ⟨_, rfl, rfl, (he1.pi rfl).pi rfl, ?_, ?_⟩
        · simp [p_i, e0, sw, hz]
        · simp [p_i, e1, sl, hs]
      · rw [if_neg hs]
        refine ⟨_, rfl, rfl, (he1.pi rfl).pi rfl, ?_, ?_⟩
        · simp [p_i, e0, sw, hz]
        · rw [sl, if_pos ⟨hz, hs⟩]
          simp [p_i, e1]
    · simp only [hz, if_false, show ((1 : Int32) = 0) = False from eq_false (by decide)]
      by_cases hs : sumA V 3 j wt ≤ 0
      · rw [if_pos hs]
        refine ⟨_, rfl, rfl, (he1.pi rfl).pi rfl, ?_, ?_⟩
        · simp [p_i, e0, sw, hz]
        · simp [p_i, e1, sl, hs]
      · rw [if_neg hs]
        refine ⟨_, rfl, rfl, (he1.pi rfl).pi rfl, ?_, ?_⟩
        · simp [p_i, e0, sw, hz]
        · rw [sl, if_neg (fun z => hz z.1)]
          simp [p_i, e1]
  · rintro ⟨x, t⟩ ⟨rfl, he, w1, w2⟩
    unfold f_X10_goHour_L6
    dsimp only
    rw [show t.1 (40, 0, 0) 0 = nI V.2.2.1 from (he.1 _ _ rfl).trans hR.1, if_pos (Int32.le_refl _)]
    exact ⟨t, rfl, he, w1, w2⟩
/-- what the reference's hour touches behind its weighing -/
def gM8 (q : Key) (k : Nat) : Bool := q.1 == 69 || q.1 == 61 || q.1 == 65 || q.1 == 66 || q.1 == 67 || q.1 == 68 || (q.1 == 40 && k == 32)
theorem gM8_W {q : Key} {k : Nat} (h : gW q k = false) : gM8 q k = false := by
  unfold gW at h
  unfold gM8
  simp only [Bool.not_eq_false', Bool.or_eq_true, Bool.and_eq_true, beq_iff_eq, decide_eq_true_eq] at h
  simp only [Bool.or_eq_false_iff, beq_eq_false_iff_ne, Bool.and_eq_false_iff]
  omega
theorem gP_8 {q : Key} {k : Nat} (h : gM8 q k = false) : gP q k = false := by
  unfold gM8 at h
  simp only [Bool.or_eq_false_iff] at h
  exact h.1.1.1.1.1.1
theorem RMa_gP {w w' : PM} {F : Nat → Nat → Int32} {H : Nat} (h : RMa w F H) (he : eqx gP w w') : RMa w' F H := RMa_kept h he rfl (fun s i h1 h2 _ _ _ => beq_eq_false_iff_ne.mpr (by show s ≠ 69; omega))
theorem m_go2 {w : PM} {V : Vil} {wt mis : Int32} (hR : RMw w V) (hW : WF V) (hA : RMa w V.1 V.2.2.1) : ∃ w', am_loop (f_X10_goHour_L89 wt mis) 2000 ((0 : Int32), w) = some w' ∧ eqx gM8 w w' ∧ RMa w' (hour2 V wt mis V.2.2.1) V.2.2.1 := by
  have h6 := hW.1
  refine am_cnt (f := f_X10_goHour_L89 wt mis) (s := ((0 : Int32), w)) (fun j t => t.1 = nI j ∧ eqx gM8 w t.2 ∧ RMa t.2 (hour2 V wt mis j) V.2.2.1) (fun e => eqx gM8 w e ∧ RMa e (hour2 V wt mis V.2.2.1) V.2.2.1) V.2.2.1 ⟨rfl, eqx.rf, hA⟩ (by omega) ?_ ?_
  · rintro j ⟨x, t⟩ hj ⟨rfl, he, hF⟩
    dsimp only at he hF
    have hRt : RMw t V := RMw_kept (he.mono (fun _ _ => gM8_W)) hR
    have hrow : hour2 V wt mis j j = V.1 j := foldF_ge _ _ _ _ (Nat.le_refl j)
    have nx : hour2 V wt mis (j + 1) = updR (hour2 V wt mis j) j (g2A V wt mis (hour2 V wt mis j) j) := rfl
    obtain ⟨r0, r5, r67, r8⟩ := hF.2 j hj
    rw [hrow] at r0 r5 r67 r8
    unfold f_X10_goHour_L89
    dsimp only
    rw [hRt.1, if_neg (nI_ge (show j < V.2.2.1 by omega) (by omega)), m_hasV hRt hW hj, Option.bind_some, if_neg (nI_in (show j < 6 by omega) (by omega)), nI_clamp (show j < 2 ^ 31 by omega), nI_1, r5]
    by_cases hz : V.1 j 1 = 0
    · rw [if_pos hz, if_pos rfl]
      have stay : choA V j wt ≠ 3 → RMa t (hour2 V wt mis (j + 1)) V.2.2.1 := fun c3 => by
        rw [nx]
        unfold g2A
        rw [if_neg c3, if_pos (show hour2 V wt mis j j 1 = 0 by rw [hrow]; exact hz), updR_id]
        exact hF
      by_cases h5 : V.1 j 5 = 0
      · rw [if_pos h5]
        have so : ∃ t', f_X10_setsOut (nI j) wt t = some t' ∧ eqx gM8 t t' ∧ RMa t' (hour2 V wt mis (j + 1)) V.2.2.1 := by
          obtain ⟨w1, q1, q2⟩ := m_send hRt hW hj wt
          have hR1 : RMw w1 V := RMw_kept (q2.mono (fun _ _ => gP_W)) hRt
          unfold f_X10_setsOut
          rw [q1, Option.bind_some]
          simp only [b2i_0]
          by_cases cs : sendA V j wt = false
          · rw [if_pos cs]
            refine ⟨w1, rfl, q2.mono (fun _ _ => gP_8), RMa_gP (stay ?_) q2⟩
            unfold choA
            rw [if_pos hz, if_pos h5, cs]
            split <;> simp
          · rw [if_neg cs, m_where hR1 hW hj, Option.bind_some]
            simp only [oI_neg (nearA V j) (fun b hb => by have := nearA_lt hb; omega)]
            have cs2 : sendA V j wt = true := by cases hq : sendA V j wt <;> simp_all
            cases hn : nearA V j with
            | none =>
              rw [if_neg (fun z => z rfl)]
              refine ⟨w1, rfl, q2.mono (fun _ _ => gP_8), RMa_gP (stay ?_) q2⟩
              unfold choA
              rw [if_pos hz, if_pos h5, if_pos hn]
              simp
            | some g =>
              have hg := nearA_lt hn
              rw [if_pos (by simp), if_neg (nI_in (show j < 6 by omega) (by omega)), nI_clamp (show j < 2 ^ 31 by omega)]
              simp only [show oI (some g) = nI g from rfl, L_6, pk_mul, nI_add]
              rw [if_neg (nI_in (show 6 * j + g < 36 by omega) (by omega)), nI_clamp (show 6 * j + g < 2 ^ 31 by omega), hR1.2.2.2.2.1 j g hj hg]
              have c3 : choA V j wt = 3 := by
                unfold choA
                rw [if_pos hz, if_pos h5, if_neg (by rw [hn]; simp), if_pos cs2]
              have e8 : eqx gM8 t w1 := q2.mono (fun _ _ => gP_8)
              refine ⟨_, rfl, ((e8.pi rfl).pi rfl).pi rfl, ?_⟩
              rw [nx]
              unfold g2A
              rw [if_pos c3, hn]
              dsimp only
              refine RMa_upd (RMa_gP hF q2) ?_ (fun s i h1 h2 hi => by simp only [p_i, hi, false_and, if_false]) ⟨?_, ?_, fun _ => ⟨?_, ?_⟩, fun z => ?_⟩
              · rw [lit_same (by rfl)]
                simp only [p_i]
                simp
                exact (RMa_gP hF q2).1
              · simp [p_i]
                rw [q2.1 _ _ rfl, r0]
                simp [setA, hrow]
              · simp [p_i, setA]
              · simp [p_i, setA]
              · simp [p_i, setA]
              · exact absurd (show (1 : Int32) = 2 from z) (by decide)
        obtain ⟨t', q1, q2, q3⟩ := so
        rw [q1, Option.bind_some]
        exact ⟨_, rfl, rfl, he.tr q2, q3⟩
      · rw [if_neg h5]
        refine ⟨_, rfl, rfl, he, stay ?_⟩
        unfold choA
        rw [if_pos hz, if_neg h5]
        omega
    · rw [if_neg hz, if_neg (by decide)]
      have c3 : choA V j wt ≠ 3 := by
        unfold choA
        rw [if_neg hz]
        split <;> omega
      have bu : ∃ t', f_X10_burns (nI j) wt mis t = some t' ∧ eqx gM8 t t' ∧ RMa t' (hour2 V wt mis (j + 1)) V.2.2.1 := by
        obtain ⟨w1, q1, q2⟩ := m_sum hRt hW (show 1 < 4 by omega) hj wt
        have hR1 : RMw w1 V := RMw_kept (q2.mono (fun _ _ => gP_W)) hRt
        obtain ⟨w2, q3, q4⟩ := m_keep hR1 hW hj wt
        have hR2 : RMw w2 V := RMw_kept (q4.mono (fun _ _ => gP_W)) hR1
        have e2 : eqx gP t w2 := q2.tr q4
        have hF2 : RMa w2 (hour2 V wt mis j) V.2.2.1 := RMa_gP hF e2
        have e8 : eqx gM8 t w2 := e2.mono (fun _ _ => gP_8)
        obtain ⟨s0, s5, s67, s8⟩ := hF2.2 j hj
        rw [hrow] at s0 s5 s67 s8
        have c1 : choA V j wt = 1 ↔ keepA V j wt = true := by
          unfold choA
          rw [if_neg hz]
          by_cases z : keepA V j wt = true
          · simp [z]
          · simp [z]
        have out : (¬ (choA V j wt = 1 ∧ ¬ V.1 j 0 < sumA V 1 j wt ∧ mishA mis j = false)) → ∃ t', some (pi w2 (40, 0, 0) 32 ((w2.1 (40, 0, 0) 32) &&& (((1 : Int32) <<< (nI j &&& 31)) ^^^ (-1 : Int32)))) = some t' ∧ eqx gM8 t t' ∧ RMa t' (hour2 V wt mis (j + 1)) V.2.2.1 := fun cc => by
          refine ⟨_, rfl, e8.pi rfl, ?_⟩
          rw [nx]
          unfold g2A
          rw [hrow, if_neg c3, if_neg hz, if_neg cc]
          refine RMa_upd hF2 ?_ (fun s i h1 h2 hi => ?_) ⟨?_, ?_, fun z => ?_, fun z => ?_⟩
          · rw [lit_upd _ hj h6, if_pos (by simp [put1]), hF2.1, b_cl0 _ (lit_64 _ h6) _ (by omega)]
            simp [p_i]
          · rw [p_i, if_neg (fun z => by have := z.2; simp at this; omega)]
          · simp [p_i, put1, s0]
          · simp [p_i, put1, s5]
          · simp only [put1] at z
            simp [p_i, put1]
            exact s67 z
          · simp only [put1] at z
            simp [p_i, put1]
            exact s8 z
        unfold f_X10_burns
        rw [show (1 : Int32) = nI 1 from rfl, q1, Option.bind_some]
        dsimp only
        rw [q3, Option.bind_some]
        simp only [b2i_0]
        by_cases ck : keepA V j wt = false
        · rw [if_pos ck]
          exact out (fun z => by rw [c1, ck] at z; simp at z)
        · rw [if_neg ck, if_neg (nI_in (show j < 6 by omega) (by omega)), nI_clamp (show j < 2 ^ 31 by omega), (hR2.2.2.2.1 j hj).1]
          by_cases cw : V.1 j 0 < sumA V 1 j wt
          · rw [if_pos cw]
            exact out (fun z => z.2.1 cw)
          · rw [if_neg cw]
            have hm : f_X10_has mis (nI j) w2 = some (if mishA mis j = true then 1 else 0) := by
              unfold f_X10_has mishA
              obtain ⟨i, hi, e⟩ := pk_andE (mis >>> (nI j &&& 31)) (m := 1) 1 (by decide)
              rw [e]
              have : i = 0 ∨ i = 1 := by omega
              rcases this with rfl | rfl <;> rfl
            rw [hm, Option.bind_some]
            by_cases cm : mishA mis j = true
            · rw [if_pos cm, if_neg (by decide)]
              exact out (fun z => by rw [cm] at z; simp at z)
            · rw [if_neg cm, if_pos rfl]
              have ck2 : keepA V j wt = true := by cases hq : keepA V j wt <;> simp_all
              have cm2 : mishA mis j = false := by cases hq : mishA mis j <;> simp_all
              refine ⟨_, rfl, e8.pi rfl, ?_⟩
              rw [nx]
              unfold g2A
              rw [hrow, if_neg c3, if_neg hz, if_pos ⟨c1.mpr ck2, cw, cm2⟩]
              refine RMa_upd hF2 ?_ (fun s i h1 h2 hi => ?_) ⟨?_, ?_, fun z => ?_, fun z => ?_⟩
              · rw [lit_same (by simp [put1, hrow])]
                simp [p_i]
                exact hF2.1
              · rw [p_i, if_neg (fun z => hi z.1)]
              · simp [p_i, put1, s0]
              · simp [p_i, put1, s5]
              · simp only [put1] at z
                simp [p_i, put1]
                exact s67 z
              · simp only [put1] at z
                simp [p_i, put1]
                exact s8 z
      obtain ⟨t', q1, q2, q3⟩ := bu
      rw [q1, Option.bind_some]
      exact ⟨_, rfl, rfl, he.tr q2, q3⟩
  · rintro ⟨x, t⟩ ⟨rfl, he, hF⟩
    unfold f_X10_goHour_L89
    dsimp only
    rw [show t.1 (40, 0, 0) 0 = nI V.2.2.1 from (he.1 _ _ rfl).trans hR.1, if_pos (Int32.le_refl _)]
    exact ⟨t, rfl, he, hF⟩
