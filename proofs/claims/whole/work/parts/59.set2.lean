/-! ways, a new house, nights, the hour goes -/
def updW (W : Nat → Nat → Int32) (a b : Nat) (x : Int32) : Nat → Nat → Int32 := fun i j => if (i = a ∧ j = b) ∨ (i = b ∧ j = a) then x else W i j
theorem WF_way {F W : Nat → Nat → Int32} {H : Nat} {Y : Int32 × Int32 × Option (Nat × List Cl)} (h : WF (F, W, H, Y)) {a b n : Nat} (ha : a < H) (hb : b < H) (hn : n < 10) : WF (F, updW W a b (nI n), H, Y) := by
  obtain ⟨a1, a2, a3, a4, a5, a6, a7⟩ := h
  refine ⟨a1, a2, a3, a4, fun i j hi hj => ?_, fun i j hi hj => ?_, fun i j hi hj hH => ?_⟩
  · show ∃ n', n' < 10 ∧ updW W a b (nI n) i j = nI n'
    unfold updW
    split
    · exact ⟨n, hn, rfl⟩
    · exact a5 i j hi hj
  · show updW W a b (nI n) i j = updW W a b (nI n) j i
    unfold updW
    by_cases c : (i = a ∧ j = b) ∨ (i = b ∧ j = a)
    · rw [if_pos c, if_pos (by omega)]
    · rw [if_neg c, if_neg (by omega)]
      exact a6 i j hi hj
  · show updW W a b (nI n) i j = 0
    have hH : H ≤ j := hH
    unfold updW
    rw [if_neg (by omega)]
    exact a7 i j hi hj hH
theorem O_4 {u w : PM} (h : Rel u w) (a0 a1 a2 : Int32) : ∃ r u' w', f_X9_way a0 a1 a2 u = some (r, u') ∧ f_X10_way a0 a1 a2 w = some (r, w') ∧ Rel u' w' := by
  obtain ⟨n, V, N, hn, hC, hN, hk, hP, hQ⟩ := Rel_V h
  have h6 := hk.1.1
  obtain ⟨a1', a2', a3, a4, a5, a6⟩ := id hC
  unfold f_X9_way f_X10_way
  rcases m_isH (RP_H hP) h6 a0 with ⟨i, hi, rfl, e⟩ | ⟨hi, e⟩
  · rw [c_find a3 h6 hi, Option.bind_some, e, Option.bind_some]
    dsimp only
    rw [if_pos (show i < 6 by omega), if_neg one_ne]
    rcases m_isH (RP_H hP) h6 a1 with ⟨j, hj, rfl, e'⟩ | ⟨hj, e'⟩
    · rw [c_find a3 h6 hj, Option.bind_some, e', Option.bind_some]
      dsimp only
      rw [if_pos (show j < 6 by omega), if_neg one_ne]
      by_cases eij : nI i = nI j
      · rw [if_pos eij, if_pos eij]
        exact ⟨_, _, _, rfl, rfl, h⟩
      · rw [if_neg eij, if_neg eij]
        rcases m_inN (n := 9) (by omega) a2 w with ⟨x, hx, rfl, e2⟩ | ⟨hx, e2⟩
        · rw [show (9 : Int32) = nI 9 from rfl, e2, Option.bind_some, if_neg (nI_pos (by omega)), if_pos (nI_le hx (by omega)), if_neg one_ne, c_hb (show i < 6 by omega) (show j < 6 by omega), Option.bind_some]
          have hj2 : f_X8_join 0 (nI i) (nI j) (nI x) u = some (pi (pi u (5, 0, i) j (nI x)) (5, 0, j) i (nI x)) := by
            unfold f_X8_join
            rw [if_neg (nI_pos (by omega)), if_neg (show ¬ (6 : Int32) ≤ nI i from nI_ge (b := 6) (by omega) (by omega)), if_neg (nI_pos (by omega)), if_neg (show ¬ (6 : Int32) ≤ nI j from nI_ge (b := 6) (by omega) (by omega)), if_neg (nI_in (show i < 6 by omega) (by omega)), if_neg (nI_in (show j < 6 by omega) (by omega)), nI_clamp (show i < 2 ^ 31 by omega), nI_clamp (show j < 2 ^ 31 by omega)]
          rw [hj2, Option.bind_some]
          simp only [L_6, pk_mul, nI_add]
          rw [if_neg (nI_in (show 6 * i + j < 36 by omega) (by omega)), if_neg (nI_in (show 6 * j + i < 36 by omega) (by omega)), nI_clamp (show 6 * i + j < 2 ^ 31 by omega), nI_clamp (show 6 * j + i < 2 ^ 31 by omega), show w.1 (49, 0, 0) (6 * i + j) = cW u 0 i j by rw [← a2']; exact hP.2.2.1 i j hi hj]
          refine ⟨_, _, _, rfl, rfl, Rel_1 h ((eqx.rf.pi rfl).pi rfl) ((eqx.rf.pi rfl).pi rfl) (fun n' hv => ?_)⟩
          obtain ⟨⟨F, W, H, wt, hh, ld⟩, N', c1, c2, c3, c4, c5⟩ := hv
          obtain ⟨b1, b2, b3, b4, b5, b6⟩ := c1
          dsimp only at b1 b2 b3 b4 b5 b6
          have hH : H = V.2.2.1 := by have := b3; rw [a3, nI_eq (by omega) (by have := c3.1.1; exact Nat.lt_of_le_of_lt this (by decide))] at this; omega
          have hi' : i < H := by omega
          have hj' : j < H := by omega
          have hH6 : H ≤ 6 := by omega
          obtain ⟨⟨d1, d2, d3, d4⟩, d5, d6, d7⟩ := c4
          dsimp only at d1 d2 d3 d4 d5 d6 d7
          have eu : eqx (fun q _ => q.1 == 5) u (pi (pi u (5, 0, i) j (nI x)) (5, 0, j) i (nI x)) := (eqx.rf.pi rfl).pi rfl
          have ew : eqx (fun q _ => q.1 == 49) w (pi (pi w (49, 0, 0) (6 * i + j) (nI x)) (49, 0, 0) (6 * j + i) (nI x)) := (eqx.rf.pi rfl).pi rfl
          refine ⟨(F, updW W i j (nI x), H, wt, hh, ld), N', ⟨b1.trans (cF_kept eu (fun _ _ => rfl)).symm, ?_, (eu.1 _ _ rfl).trans b3, (eu.1 _ _ rfl).trans b4, (eu.1 _ _ rfl).trans b5, LdC_kept eu (fun s p k g1 g2 => beq_eq_false_iff_ne.mpr (by show s ≠ 5; omega)) b6⟩, ⟨(eu.1 _ _ rfl).trans c2.1, c2.2.1, fun k hk => ⟨(eu.1 _ _ rfl).trans (c2.2.2 k hk).1, (eu.1 _ _ rfl).trans (c2.2.2 k hk).2⟩⟩, ⟨WF_way c3.1 hi' hj' (by omega), c3.2⟩, ⟨⟨(ew.1 _ _ rfl).trans d1, (ew.1 _ _ rfl).trans d2, (ew.1 _ _ rfl).trans d3, (ew.1 _ _ rfl).trans d4⟩, fun k hk => ?_, fun a b ha hb => ?_, LdM_L ew (fun s k g1 g2 => beq_eq_false_iff_ne.mpr (by show s ≠ 49; omega)) (ew.1 _ _ rfl) d7⟩, ⟨(ew.1 _ _ rfl).trans c5.1, fun k hk => ⟨(ew.1 _ _ rfl).trans (c5.2 k hk).1, (ew.1 _ _ rfl).trans (c5.2 k hk).2⟩⟩⟩
          · funext a b
            show updW W i j (nI x) a b = cW _ 0 a b
            rw [b2]
            unfold updW cW
            simp only [p_i]
            by_cases c : a < 6 ∧ b < 6
            · rw [if_pos c, if_pos c]
              by_cases c1 : b = i ∧ a = j
              · rw [if_pos (by omega), if_pos ⟨c1.1, by rw [c1.2]⟩]
              · rw [if_neg (show ¬ (b = i ∧ ((5, 0, a) : Key) = (5, 0, j)) by simp only [Prod.mk.injEq, true_and]; exact c1)]
                by_cases c2 : b = j ∧ a = i
                · rw [if_pos (by omega), if_pos ⟨c2.1, by rw [c2.2]⟩]
                · rw [if_neg (by omega), if_neg (show ¬ (b = j ∧ ((5, 0, a) : Key) = (5, 0, i)) by simp only [Prod.mk.injEq, true_and]; exact c2)]
            · rw [if_neg c, if_neg c, if_neg (by omega)]
          · obtain ⟨e1, e2, e3, e4, e5, e6, e7⟩ := d5 k hk
            exact ⟨(ew.1 _ _ rfl).trans e1, (ew.1 _ _ rfl).trans e2, (ew.1 _ _ rfl).trans e3, (ew.1 _ _ rfl).trans e4, (ew.1 _ _ rfl).trans e5, fun z => ⟨(ew.1 _ _ rfl).trans (e6 z).1, (ew.1 _ _ rfl).trans (e6 z).2⟩, fun z => (ew.1 _ _ rfl).trans (e7 z)⟩
          · have ha : a < H := ha
            have hb : b < H := hb
            show (pi (pi w (49, 0, 0) (6 * i + j) (nI x)) (49, 0, 0) (6 * j + i) (nI x)).1 (49, 0, 0) (6 * a + b) = updW W i j (nI x) a b
            unfold updW
            simp only [p_i, and_true]
            by_cases c1 : 6 * a + b = 6 * j + i
            · rw [if_pos c1, if_pos (by omega)]
            · rw [if_neg c1]
              by_cases c2 : 6 * a + b = 6 * i + j
              · rw [if_pos c2, if_pos (by omega)]
              · rw [if_neg c2, if_neg (by omega)]
                exact d6 a b ha hb
        · rw [show (9 : Int32) = nI 9 from rfl, e2, Option.bind_some, if_pos rfl]
          refine ⟨-2, u, w, ?_, rfl, h⟩
          rcases hx with z | z
          · rw [if_pos z]
          · rw [if_neg (Int32.not_le.mpr z)]
            split <;> rfl
    · rw [c_find0 a3 h6 hj, Option.bind_some, e', Option.bind_some]
      exact ⟨_, _, _, rfl, rfl, h⟩
  · rw [c_find0 a3 h6 hi, Option.bind_some, e, Option.bind_some]
    exact ⟨_, _, _, rfl, rfl, h⟩
theorem O_12 {u w : PM} (h : Rel u w) (a0 a1 : Int32) : ∃ r u' w', f_X9_night a0 a1 u = some (r, u') ∧ f_X10_night a0 a1 w = some (r, w') ∧ Rel u' w' := by
  obtain ⟨n, V, N, hn, hC, hN, hk, hP, hQ⟩ := Rel_V h
  have set : ∀ (u' w' : PM) (N1 : Nig), eqx (fun q k => q.1 == 6 || q.1 == 7 || (q.1 == 1 && k == 6)) u u' → eqx (fun q k => q.1 == 70 || q.1 == 71 || (q.1 == 40 && k == 46)) w w' → RepN u' 0 N1 → RN w' 46 70 71 N1 → ∀ n, VlR u w 0 kP 46 70 71 n → VlR u' w' 0 kP 46 70 71 n := by
    rintro u' w' N1 eu ew hN1 hQ1 n' ⟨V', N', c1, c2, c3, c4, c5⟩
    obtain ⟨b1, b2, b3, b4, b5, b6⟩ := c1
    obtain ⟨⟨d1, d2, d3, d4⟩, d5, d6, d7⟩ := c4
    refine ⟨V', N1, ⟨b1.trans (cF_kept eu (fun _ _ => rfl)).symm, b2.trans (cW_kept eu (fun _ _ => rfl)).symm, (eu.1 _ _ rfl).trans b3, (eu.1 _ _ rfl).trans b4, (eu.1 _ _ rfl).trans b5, ?_⟩, hN1, c3, ⟨⟨(ew.1 _ _ rfl).trans d1, (ew.1 _ _ rfl).trans d2, (ew.1 _ _ rfl).trans d3, (ew.1 _ _ rfl).trans d4⟩, fun h hh => ?_, fun a b ha hb => (ew.1 _ _ rfl).trans (d6 a b ha hb), LdM_L ew (fun s k g1 g2 => ?_) (ew.1 _ _ rfl) d7⟩, hQ1⟩
    · rw [eu.2.2 _ rfl]
      exact LdC_kept eu (fun s p k g1 g2 => by simp only [Bool.or_eq_false_iff, Bool.and_eq_false_iff, beq_eq_false_iff_ne]; omega) b6
    · obtain ⟨e1, e2, e3, e4, e5, e6, e7⟩ := d5 h hh
      exact ⟨(ew.1 _ _ rfl).trans e1, (ew.1 _ _ rfl).trans e2, (ew.1 _ _ rfl).trans e3, (ew.1 _ _ rfl).trans e4, (ew.1 _ _ rfl).trans e5, fun z => ⟨(ew.1 _ _ rfl).trans (e6 z).1, (ew.1 _ _ rfl).trans (e6 z).2⟩, fun z => (ew.1 _ _ rfl).trans (e7 z)⟩
    · simp only [Bool.or_eq_false_iff, Bool.and_eq_false_iff, beq_eq_false_iff_ne]; omega
  have n1 : u.1 (1, 0, 0) 6 = nI N.1 := hN.1
  have n2 : w.1 (40, 0, 0) 46 = nI N.1 := hQ.1
  have n3 : N.1 ≤ 12 := hN.2.1
  unfold f_X9_night f_X10_night
  by_cases em : a0 = -1
  · rw [if_pos em, if_pos em]
    refine ⟨_, _, _, rfl, rfl, Rel_1 h (eqx.rf.pi rfl) (eqx.rf.pi rfl) (set _ _ (0, N.2) (eqx.rf.pi rfl) (eqx.rf.pi rfl) ⟨by simp [p_i]; rfl, Nat.zero_le 12, fun i hi => by simp only [p_i]; simp; exact hN.2.2 i hi⟩ ⟨by simp [p_i]; rfl, fun i hi => by simp only [p_i]; simp; exact hQ.2 i hi⟩)⟩
  · rw [if_neg em, if_neg em]
    rcases m_isW a0 w with ⟨k, hk3, rfl, e, e'⟩ | ⟨_, e, e'⟩
    · rw [e, e' u, Option.bind_some, Option.bind_some, if_neg one_ne, if_neg one_ne]
      rcases m_inN (n := 63) (by omega) a1 w with ⟨j, hj, rfl, e2⟩ | ⟨hj, e2⟩
      · rw [show (63 : Int32) = nI 63 from rfl, e2, Option.bind_some, if_neg (nI_pos (by omega)), if_pos (show nI j < 64 from nI_lt (b := 64) (by omega) (by omega)), if_neg one_ne, n1, n2]
        by_cases z : N.1 = 12
        · rw [if_neg (nI_pos (by omega)), if_neg (show ¬ nI N.1 < 12 from nI_nlt (b := 12) (by omega) (by omega)), if_pos (show nI N.1 = 12 by rw [z]; rfl)]
          exact ⟨_, _, _, rfl, rfl, h⟩
        · rw [if_neg (nI_pos (by omega)), if_pos (show nI N.1 < 12 from nI_lt (b := 12) (by omega) (by omega)), if_neg (show ¬ nI N.1 = 12 from fun y => z ((nI_eq (b := 12) (by omega) (by omega)).mp y)), if_neg (nI_in (show N.1 < 12 by omega) (by omega)), if_neg (nI_in (show N.1 < 12 by omega) (by omega)), nI_clamp (show N.1 < 2 ^ 31 by omega), nI_1]
          refine ⟨_, _, _, rfl, rfl, ?_⟩
          refine Rel_1 h (((eqx.rf.pi rfl).pi rfl).pi rfl) (((eqx.rf.pi rfl).pi rfl).pi rfl) ?_
          refine set _ _ (N.1 + 1, (fun i => if i = N.1 then nI k else N.2.1 i), (fun i => if i = N.1 then nI j else N.2.2 i)) (((eqx.rf.pi rfl).pi rfl).pi rfl) (((eqx.rf.pi rfl).pi rfl).pi rfl) ⟨by simp [p_i], by show N.1 + 1 ≤ 12; omega, fun i hi => ?_⟩ ⟨by simp [p_i], fun i hi => ?_⟩
          · obtain ⟨g1, g2⟩ := hN.2.2 i hi
            simp only [p_i]
            by_cases y : i = N.1
            · simp [y]
            · simp [y, g1, g2]
          · obtain ⟨g1, g2⟩ := hQ.2 i hi
            simp only [p_i]
            by_cases y : i = N.1
            · simp [y]
            · simp [y, g1, g2]
      · rw [show (63 : Int32) = nI 63 from rfl, e2, Option.bind_some, if_pos rfl]
        refine ⟨-2, u, w, ?_, rfl, h⟩
        rcases hj with z | z
        · rw [if_pos z]
        · have z7 : ¬ a1 < 64 := fun y => by
            rcases pk_ix a1 (n := 64) (by omega) with x | x | ⟨k, hk, rfl⟩
            · exact absurd (Int32.lt_trans z x) (by decide)
            · exact absurd (Int32.lt_of_lt_of_le y x) Int32.lt_irrefl
            · rw [nI_ltI (by omega) (by omega)] at z; omega
          rw [if_neg z7]
          split <;> rfl
    · rw [e, e' u, Option.bind_some, Option.bind_some, if_pos rfl, if_pos rfl]
      exact ⟨_, _, _, rfl, rfl, h⟩
