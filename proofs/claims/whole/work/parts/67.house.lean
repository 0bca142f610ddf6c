/-! a new house, bytes, what follows -/
theorem lit_ext {F F' : Nat → Nat → Int32} : ∀ n, (∀ i, i < n → F i 1 = F' i 1) → lit F n = lit F' n
  | 0, _ => rfl
  | n + 1, h => by
    unfold lit
    rw [h n (by omega), lit_ext n (fun i hi => h i (by omega))]
theorem clr_lit (F : Nat → Nat → Int32) {H : Nat} (h : H < 6) : clr (lit F H) H = lit F H := by
  refine Nat.eq_of_testBit_eq (fun i => ?_)
  rw [clr_tb _ _ _ (lit_64 F (by omega)) h, lit_tb]
  by_cases e : i = H
  · subst e; simp
  · simp [e]
theorem m_ways {H : Nat} (hH : H < 6) (w : PM) : ∃ w', am_loop (f_X10_house_L119 (nI H)) 2000 ((0 : Int32), w) = some w' ∧ eqx (fun q _ => q.1 == 49) w w' ∧ ∀ a b, a < 6 → b < 6 → w'.1 (49, 0, 0) (6 * a + b) = if a = H ∨ b = H then 0 else w.1 (49, 0, 0) (6 * a + b) := by
  have key := am_cnt (f := f_X10_house_L119 (nI H)) (s := ((0 : Int32), w)) (fun j x => x.1 = nI j ∧ eqx (fun q _ => q.1 == 49) w x.2 ∧ ∀ a b, a < 6 → b < 6 → x.2.1 (49, 0, 0) (6 * a + b) = if (a = H ∧ b < j) ∨ (b = H ∧ a < j) then 0 else w.1 (49, 0, 0) (6 * a + b)) (fun e => eqx (fun q _ => q.1 == 49) w e ∧ ∀ a b, a < 6 → b < 6 → e.1 (49, 0, 0) (6 * a + b) = if (a = H ∧ b < 6) ∨ (b = H ∧ a < 6) then 0 else w.1 (49, 0, 0) (6 * a + b)) 6 ⟨rfl, eqx.rf, fun a b ha hb => by rw [if_neg (by omega)]⟩ (by omega) ?_ ?_
  · obtain ⟨e, k1, k2, k3⟩ := key
    refine ⟨e, k1, k2, fun a b ha hb => ?_⟩
    rw [k3 a b ha hb]
    by_cases c : a = H ∨ b = H
    · rw [if_pos c, if_pos (by omega)]
    · rw [if_neg c, if_neg (by omega)]
  · rintro j ⟨x, t⟩ hj ⟨rfl, h1, h2⟩
    dsimp only at h1 h2
    unfold f_X10_house_L119
    dsimp only
    rw [if_neg (show ¬ (6 : Int32) ≤ nI j from nI_ge (b := 6) hj (by omega)), L_6, pk_mul, pk_mul, nI_add, nI_add, if_neg (nI_in (show 6 * H + j < 36 by omega) (by omega)), if_neg (nI_in (show 6 * j + H < 36 by omega) (by omega)), nI_clamp (show 6 * H + j < 2 ^ 31 by omega), nI_clamp (show 6 * j + H < 2 ^ 31 by omega), nI_1]
    refine ⟨_, rfl, rfl, (h1.pi rfl).pi rfl, fun a b ha hb => ?_⟩
    simp only [p_i, and_true]
    rw [h2 a b ha hb]
    by_cases c1 : 6 * a + b = 6 * j + H
    · rw [if_pos c1, if_pos (by omega)]
    · rw [if_neg c1]
      by_cases c2 : 6 * a + b = 6 * H + j
      · rw [if_pos c2, if_pos (by omega)]
      · rw [if_neg c2]
        by_cases c : (a = H ∧ b < j) ∨ (b = H ∧ a < j)
        · rw [if_pos c, if_pos (by omega)]
        · rw [if_neg c, if_neg (by omega)]
  · rintro ⟨x, t⟩ ⟨rfl, h1, h2⟩
    unfold f_X10_house_L119
    dsimp only
    rw [if_pos (show (6 : Int32) ≤ nI 6 by decide)]
    exact ⟨t, rfl, h1, h2⟩
def nwR (a b : Int32) : Nat → Int32 := fun f => if f = 0 then a else if f = 1 then b else 0
theorem c_new (u : PM) {v h : Nat} (hh : h < 6) {a b : Int32} (hb : b = 0 ∨ b = 1) : ∃ u', f_X2_start v h a b u = some u' ∧ eqx (gH v) u u' ∧ cF u' v = updR (cF u v) h (nwR a b) := by
  unfold f_X2_start
  rw [if_pos hb]
  obtain ⟨u', q1, q2, q3⟩ := c_setOut (pi (pi (pi (pi (pi u (3, v, h) 0 a) (3, v, h) 1 b) (3, v, h) 2 (0 : Int32)) (3, v, h) 3 (0 : Int32)) (3, v, h) 4 (0 : Int32)) v h 0 0 0 hh
  rw [q1, Option.bind_some]
  refine ⟨u', rfl, (((((eqx.rf.pi (gH_t _ _ _)).pi (gH_t _ _ _)).pi (gH_t _ _ _)).pi (gH_t _ _ _)).pi (gH_t _ _ _)).tr q3, ?_⟩
  rw [q2, c_row hh (by omega), c_row hh (by omega), c_row hh (by omega), c_row hh (by omega), c_row hh (by omega)]
  simp only [updR_2, updR_at]
  funext i f
  by_cases e : i = h
  · subst e
    rw [updR_at, updR_at]
    have : cF u v i f = 0 ∨ f < 9 := by
      by_cases hf : f < 9
      · exact Or.inr hf
      · left
        unfold cF
        rw [if_neg (by omega)]
    unfold setA put1 nwR
    by_cases f9 : f < 9
    · have : f = 0 ∨ f = 1 ∨ f = 2 ∨ f = 3 ∨ f = 4 ∨ f = 5 ∨ f = 6 ∨ f = 7 ∨ f = 8 := by omega
      rcases this with rfl | rfl | rfl | rfl | rfl | rfl | rfl | rfl | rfl <;> rfl
    · rw [if_neg (by omega), if_neg (by omega), if_neg (by omega), if_neg (by omega), if_neg (by omega), if_neg (by omega), if_neg (by omega), if_neg (by omega), if_neg (by omega), if_neg (by omega), if_neg (by omega)]
      exact this.resolve_right f9
  · rw [updR_ne _ _ e, updR_ne _ _ e]
theorem O_0 {u w : PM} (h : Rel u w) (a0 a1 : Int32) (hb : a1 = 0 ∨ a1 = 1) : ∃ r u' w', f_X9_house a0 a1 u = some (r, u') ∧ f_X10_house a0 a1 w = some (r, w') ∧ Rel u' w' := by
  obtain ⟨n, V, N, hn, hC, hN, hk, hP, hQ⟩ := Rel_V h
  have h6 := hk.1.1
  obtain ⟨a1', a2', a3, a4, a5, a6⟩ := id hC
  unfold f_X9_house f_X10_house
  rw [show w.1 (40, 0, 0) 0 = nI V.2.2.1 from RP_H hP, a3]
  rcases m_inN (n := 99) (by omega) a0 w with ⟨x, hx, rfl, e⟩ | ⟨hx, e⟩
  · rw [show (99 : Int32) = nI 99 from rfl, e, Option.bind_some, if_neg (nI_pos (show x < 2 ^ 31 by omega)), if_pos (nI_le hx (by omega)), if_neg one_ne, if_neg (nI_pos (show V.2.2.1 < 2 ^ 31 by omega))]
    by_cases z : V.2.2.1 = 6
    · rw [z, if_neg (show ¬ nI 6 < 6 by decide), if_pos (show nI 6 = 6 from rfl)]
      exact ⟨_, _, _, rfl, rfl, h⟩
    · have hH : V.2.2.1 < 6 := by omega
      rw [if_pos (show nI V.2.2.1 < 6 from nI_lt (b := 6) hH (by omega)), if_neg (show ¬ nI V.2.2.1 = 6 from fun y => z ((nI_eq (b := 6) (by omega) (by omega)).mp y)), if_neg (nI_in hH (by omega)), if_neg (nI_in hH (by omega)), nI_clamp (show V.2.2.1 < 2 ^ 31 by omega)]
      obtain ⟨u1, q1, q2, q3⟩ := c_new u (v := 0) hH (a := nI x) hb
      rw [q1, Option.bind_some, show u1.1 (1, 0, 0) 0 = nI V.2.2.1 from (q2.1 _ _ rfl).trans a3, nI_1]
      have fin : ∀ (w1 w2 : PM), eqx (fun q k => (41 ≤ q.1 && q.1 ≤ 48) || (q.1 == 40 && k == 1)) w w1 → (∀ s i, 41 ≤ s → s ≤ 48 → i ≠ V.2.2.1 → w1.1 (s, 0, 0) i = w.1 (s, 0, 0) i) → w1.1 (41, 0, 0) V.2.2.1 = nI x → w1.1 (42, 0, 0) V.2.2.1 = 0 → w1.1 (43, 0, 0) V.2.2.1 = 0 → w1.1 (44, 0, 0) V.2.2.1 = 0 → w1.1 (45, 0, 0) V.2.2.1 = 0 → w1.1 (40, 0, 0) 1 = nI (lit (updR V.1 V.2.2.1 (nwR (nI x) a1)) (V.2.2.1 + 1)) → eqx (fun q _ => q.1 == 49) w1 w2 → (∀ a b, a < 6 → b < 6 → w2.1 (49, 0, 0) (6 * a + b) = if a = V.2.2.1 ∨ b = V.2.2.1 then 0 else w1.1 (49, 0, 0) (6 * a + b)) → Rel (pi u1 (1, 0, 0) 0 (nI (V.2.2.1 + 1))) (pi w2 (40, 0, 0) 0 (nI (V.2.2.1 + 1))) := by
        intro w1 w2 ew1 ho p41 p42 p43 p44 p45 pl ew2 pw
        have eu : eqx (fun q k => gH 0 q k || (q.1 == 1 && q.2.1 == 0 && k == 0)) u (pi u1 (1, 0, 0) 0 (nI (V.2.2.1 + 1))) := (q2.mono (fun q k y => by
          simp only [Bool.or_eq_false_iff] at y
          exact y.1)).pi rfl
        have eu1 : eqx (fun q k => q.1 == 1) u1 (pi u1 (1, 0, 0) 0 (nI (V.2.2.1 + 1))) := eqx.rf.pi rfl
        have ew3 : eqx (fun q k => q.1 == 49 || (q.1 == 40 && k == 0)) w1 (pi w2 (40, 0, 0) 0 (nI (V.2.2.1 + 1))) := (ew2.mono (fun q k y => by
          simp only [Bool.or_eq_false_iff] at y
          exact y.1)).pi rfl
        have ew : eqx (fun q k => (41 ≤ q.1 && q.1 ≤ 49) || (q.1 == 40 && (k == 0 || k == 1))) w (pi w2 (40, 0, 0) 0 (nI (V.2.2.1 + 1))) := (ew1.mono (fun q k y => by
          simp only [Bool.or_eq_false_iff, Bool.and_eq_false_iff, beq_eq_false_iff_ne, decide_eq_false_iff_not] at y ⊢
          omega)).tr (ew3.mono (fun q k y => by
          simp only [Bool.or_eq_false_iff, Bool.and_eq_false_iff, beq_eq_false_iff_ne, decide_eq_false_iff_not] at y ⊢
          omega))
        refine Rel_1 h (toCA eu (fun q k y => ?_)) (toMA ew (fun q k y => ?_)) (fun n' hv => ?_)
        · unfold gH at y
          simp only [Bool.or_eq_true, Bool.and_eq_true, beq_iff_eq] at y
          have : cC q k = 1 := by
            unfold cC
            rw [if_neg (by omega), if_pos (by omega), if_pos (by omega)]
          rw [this]; rfl
        · simp only [Bool.or_eq_true, Bool.and_eq_true, beq_iff_eq, decide_eq_true_eq] at y
          have : cM q k = 1 := by
            unfold cM
            by_cases e4 : q.1 = 40
            · rw [if_pos e4, if_pos (by omega)]
            · rw [if_neg e4, if_pos (by omega)]
          rw [this]; rfl
        · obtain ⟨⟨F, W, H, wt, hh, ld⟩, N', c1, c2, c3, c4, c5⟩ := hv
          obtain ⟨b1, b2, b3, b4, b5, b6⟩ := c1
          dsimp only at b1 b2 b3 b4 b5 b6
          have hHH : H = V.2.2.1 := by have := b3; rw [a3, nI_eq (by omega) (by have := c3.1.1; exact Nat.lt_of_le_of_lt this (by decide))] at this; omega
          have hFF : F = V.1 := b1.trans a1'.symm
          have hWW : W = V.2.1 := b2.trans a2'.symm
          obtain ⟨⟨d1, d2, d3, d4⟩, d5, d6, d7⟩ := c4
          dsimp only at d1 d2 d3 d4 d5 d6 d7
          obtain ⟨⟨w1', w2', w3', w4', w5', w6', w7'⟩, k2, k3, k4⟩ := c3
          dsimp only at w1' w2' w3' w4' w5' w6' w7' k2 k3 k4
          subst hHH hFF hWW
          refine ⟨(updR V.1 V.2.2.1 (nwR (nI x) a1), V.2.1, V.2.2.1 + 1, wt, hh, ld), N', ⟨?_, ?_, ?_, (eu.1 _ _ rfl).trans b4, (eu.1 _ _ rfl).trans b5, ?_⟩, ⟨(eu.1 _ _ rfl).trans c2.1, c2.2.1, fun k hk => ⟨(eu.1 _ _ rfl).trans (c2.2.2 k hk).1, (eu.1 _ _ rfl).trans (c2.2.2 k hk).2⟩⟩, ⟨⟨hH, fun i hi => ?_, fun i hi => ?_, fun i hi => ?_, w5', w6', fun a b ha hb hab => w7' a b ha hb (by have : V.2.2.1 + 1 ≤ b := hab; omega)⟩, k2, k3, k4⟩, ⟨⟨?_, ?_, (ew.1 _ _ rfl).trans d3, (ew.1 _ _ rfl).trans d4⟩, fun i hi => ?_, fun a b ha hb => ?_, LdM_L ew (fun s k g1 g2 => ?_) (ew.1 _ _ rfl) d7⟩, ⟨(ew.1 _ _ rfl).trans c5.1, fun k hk => ⟨(ew.1 _ _ rfl).trans (c5.2 k hk).1, (ew.1 _ _ rfl).trans (c5.2 k hk).2⟩⟩⟩
          · rw [cF_kept eu1 (fun _ _ => rfl), q3, ← b1]
          · exact b2.trans (cW_kept eu (fun _ _ => rfl)).symm
          · exact p_at _ _ _ _
          · rw [eu.2.2 _ rfl]
            exact LdC_kept eu (fun s p k g1 g2 => by
              unfold gH
              simp only [Bool.or_eq_false_iff, Bool.and_eq_false_iff, beq_eq_false_iff_ne]
              omega) b6
          · show updR V.1 V.2.2.1 (nwR (nI x) a1) i 1 = 0 ∨ updR V.1 V.2.2.1 (nwR (nI x) a1) i 1 = 1
            by_cases e4 : i = V.2.2.1
            · rw [e4, updR_at]; exact hb
            · rw [updR_ne _ _ e4]; exact w2' i hi
          · show ∃ k, k < 7 ∧ updR V.1 V.2.2.1 (nwR (nI x) a1) i 2 = nI k
            have hi : i < V.2.2.1 + 1 := hi
            by_cases e4 : i = V.2.2.1
            · rw [e4, updR_at]; exact ⟨0, by omega, rfl⟩
            · rw [updR_ne _ _ e4]; exact w3' i (by omega)
          · show updR V.1 V.2.2.1 (nwR (nI x) a1) i 5 = 0 ∨ ((updR V.1 V.2.2.1 (nwR (nI x) a1) i 5 = 1 ∨ updR V.1 V.2.2.1 (nwR (nI x) a1) i 5 = 2) ∧ ∃ g, g < V.2.2.1 + 1 ∧ updR V.1 V.2.2.1 (nwR (nI x) a1) i 7 = nI g)
            have hi : i < V.2.2.1 + 1 := hi
            by_cases e4 : i = V.2.2.1
            · rw [e4, updR_at]; exact Or.inl rfl
            · rw [updR_ne _ _ e4]
              rcases w4' i (by omega) with y | ⟨y, g, hg, y2⟩
              · exact Or.inl y
              · exact Or.inr ⟨y, g, by omega, y2⟩
          · exact p_at _ _ _ _
          · show (pi w2 (40, 0, 0) 0 (nI (V.2.2.1 + 1))).1 (40, 0, 0) 1 = _
            rw [ew3.1 _ _ rfl, pl]
          · have hi : i < V.2.2.1 + 1 := hi
            show rowP _ kP (updR V.1 V.2.2.1 (nwR (nI x) a1) i) i
            by_cases e4 : i = V.2.2.1
            · rw [e4, updR_at]
              exact ⟨(ew3.1 _ _ rfl).trans p41, (ew3.1 _ _ rfl).trans p42, (ew3.1 _ _ rfl).trans p43, (ew3.1 _ _ rfl).trans p44, (ew3.1 _ _ rfl).trans p45, fun y => absurd rfl y, fun y => by cases y⟩
            · rw [updR_ne _ _ e4]
              obtain ⟨f1, f2, f3, f4, f5, f6, f7⟩ := d5 i (by omega)
              exact ⟨(ew3.1 _ _ rfl).trans ((ho 41 i (by omega) (by omega) e4).trans f1), (ew3.1 _ _ rfl).trans ((ho 42 i (by omega) (by omega) e4).trans f2), (ew3.1 _ _ rfl).trans ((ho 43 i (by omega) (by omega) e4).trans f3), (ew3.1 _ _ rfl).trans ((ho 44 i (by omega) (by omega) e4).trans f4), (ew3.1 _ _ rfl).trans ((ho 45 i (by omega) (by omega) e4).trans f5), fun y => ⟨(ew3.1 _ _ rfl).trans ((ho 46 i (by omega) (by omega) e4).trans (f6 y).1), (ew3.1 _ _ rfl).trans ((ho 47 i (by omega) (by omega) e4).trans (f6 y).2)⟩, fun y => (ew3.1 _ _ rfl).trans ((ho 48 i (by omega) (by omega) e4).trans (f7 y))⟩
          · have ha : a < V.2.2.1 + 1 := ha
            have hb' : b < V.2.2.1 + 1 := hb
            show (pi w2 (40, 0, 0) 0 (nI (V.2.2.1 + 1))).1 (49, 0, 0) (6 * a + b) = V.2.1 a b
            rw [p_i, if_neg (by simp), pw a b (by omega) (by omega)]
            by_cases e4 : a = V.2.2.1 ∨ b = V.2.2.1
            · rw [if_pos e4]
              rcases e4 with e4 | e4
              · rw [w6' a b (by omega) (by omega)]
                exact (w7' b a (by omega) (by omega) (by omega)).symm
              · exact (w7' a b (by omega) (by omega) (by omega)).symm
            · rw [if_neg e4, ew1.1 _ _ rfl]
              exact d6 a b (by omega) (by omega)
          · simp only [Bool.or_eq_false_iff, Bool.and_eq_false_iff, beq_eq_false_iff_ne, decide_eq_false_iff_not]
            omega
      have litN : lit (updR V.1 V.2.2.1 (nwR (nI x) a1)) V.2.2.1 = lit V.1 V.2.2.1 := lit_ext _ (fun i hi => by rw [updR_ne _ _ (by omega)])
      have e0 : w.1 (40, 0, 0) 1 = nI (lit V.1 V.2.2.1) := hP.1.2.1
      rw [e0, b_cl0 _ (lit_64 _ h6) _ hH, b_or0 _ (lit_64 _ h6) _ hH, clr_lit V.1 hH]
      by_cases a0' : a1 = 0
      · rw [if_pos a0']
        obtain ⟨w2, r1, r2, r3⟩ := m_ways hH (pi (pi (pi (pi (pi (pi (pi (pi (pi w (41, 0, 0) V.2.2.1 (nI x)) (40, 0, 0) 1 (nI (lit V.1 V.2.2.1))) (42, 0, 0) V.2.2.1 (0 : Int32)) (43, 0, 0) V.2.2.1 (0 : Int32)) (44, 0, 0) V.2.2.1 (0 : Int32)) (45, 0, 0) V.2.2.1 (0 : Int32)) (46, 0, 0) V.2.2.1 (0 : Int32)) (47, 0, 0) V.2.2.1 (-1 : Int32)) (48, 0, 0) V.2.2.1 (-1 : Int32))
        rw [r1, Option.bind_some, show w2.1 (40, 0, 0) 0 = nI V.2.2.1 by rw [r2.1 _ _ rfl]; simp [p_i]; exact RP_H hP, nI_1]
        refine ⟨_, _, _, rfl, rfl, fin _ w2 (((((((((eqx.rf.pi rfl).pi rfl).pi rfl).pi rfl).pi rfl).pi rfl).pi rfl).pi rfl).pi rfl) (fun s i g1 g2 e4 => ?_) ?_ ?_ ?_ ?_ ?_ ?_ r2 r3⟩
        · simp [p_i, e4]
          omega
        · simp [p_i]
        · simp [p_i]
        · simp [p_i]
        · simp [p_i]
        · simp [p_i]
        · simp [p_i]
          rw [show lit (updR V.1 V.2.2.1 (nwR (nI x) a1)) (V.2.2.1 + 1) = if updR V.1 V.2.2.1 (nwR (nI x) a1) V.2.2.1 1 = 0 then lit (updR V.1 V.2.2.1 (nwR (nI x) a1)) V.2.2.1 else lit (updR V.1 V.2.2.1 (nwR (nI x) a1)) V.2.2.1 ||| 2 ^ V.2.2.1 from rfl, updR_at, if_pos (show nwR (nI x) a1 1 = 0 from a0'), litN]
      · rw [if_neg a0']
        obtain ⟨w2, r1, r2, r3⟩ := m_ways hH (pi (pi (pi (pi (pi (pi (pi (pi (pi w (41, 0, 0) V.2.2.1 (nI x)) (40, 0, 0) 1 (nI (lit V.1 V.2.2.1 ||| 2 ^ V.2.2.1))) (42, 0, 0) V.2.2.1 (0 : Int32)) (43, 0, 0) V.2.2.1 (0 : Int32)) (44, 0, 0) V.2.2.1 (0 : Int32)) (45, 0, 0) V.2.2.1 (0 : Int32)) (46, 0, 0) V.2.2.1 (0 : Int32)) (47, 0, 0) V.2.2.1 (-1 : Int32)) (48, 0, 0) V.2.2.1 (-1 : Int32))
        rw [r1, Option.bind_some, show w2.1 (40, 0, 0) 0 = nI V.2.2.1 by rw [r2.1 _ _ rfl]; simp [p_i]; exact RP_H hP, nI_1]
        refine ⟨_, _, _, rfl, rfl, fin _ w2 (((((((((eqx.rf.pi rfl).pi rfl).pi rfl).pi rfl).pi rfl).pi rfl).pi rfl).pi rfl).pi rfl) (fun s i g1 g2 e4 => ?_) ?_ ?_ ?_ ?_ ?_ ?_ r2 r3⟩
        · simp [p_i, e4]
          omega
        · simp [p_i]
        · simp [p_i]
        · simp [p_i]
        · simp [p_i]
        · simp [p_i]
        · simp [p_i]
          rw [show lit (updR V.1 V.2.2.1 (nwR (nI x) a1)) (V.2.2.1 + 1) = if updR V.1 V.2.2.1 (nwR (nI x) a1) V.2.2.1 1 = 0 then lit (updR V.1 V.2.2.1 (nwR (nI x) a1)) V.2.2.1 else lit (updR V.1 V.2.2.1 (nwR (nI x) a1)) V.2.2.1 ||| 2 ^ V.2.2.1 from rfl, updR_at, if_neg (show ¬ nwR (nI x) a1 1 = 0 from a0'), litN]
  · rw [show (99 : Int32) = nI 99 from rfl, e, Option.bind_some, if_pos rfl]
    refine ⟨-2, u, w, ?_, rfl, h⟩
    rcases hx with z | z
    · rw [if_pos z]
    · rw [if_neg (Int32.not_le.mpr z)]
      split <;> rfl
