/-! calls that set something of a house -/
theorem Rel_1 {u u' w w' : PM} (h : Rel u w) (hu : chC [0, 1] u u') (hw : chM [0, 1] w w') (hv : ∀ n, VlR u w 0 kP 46 70 71 n → VlR u' w' 0 kP 46 70 71 n) : Rel u' w' := by
  obtain ⟨n, a1, a2, a3, a4, a5, a6⟩ := h
  exact ⟨n, BsR_k hu hw rfl a1, hv n a2, ImR_k hu hw rfl rfl rfl a3, RdR_k hu hw rfl a4, TpR_k hu hw rfl a5, AcR_k hu hw rfl a6⟩
theorem LdC_k {A : List Nat} {u u' : PM} (hu : chC A u u') (h7 : A.contains 7 = false) {o o' : Option Nat} (ho : o' = o) {ld : Option (Nat × List Cl)} (x : LdC u o ld) : LdC u' o' ld := by
  subst ho
  exact LdC_kept hu (fun s p i g1 g2 => by show A.contains (cC _ _) = false; rw [cC_land g1 g2]; exact h7) x
/-- fields of house i change: wood, fire, kind, v, hours -/
theorem V_set {u w u' w' : PM} {V : Vil} {N : Nig} {n i : Nat} {R : Nat → Int32} (hC : RepC u 0 V) (hN : RepN u 0 N) (hk : okV V n) (hP : RP w kP V) (hQ : RN w 46 70 71 N) (hi : i < V.2.2.1) (hu : eqx (gH 0) u u') (hF : cF u' 0 = updR (cF u 0) i R)
    (hw : eqx (fun q k => (41 ≤ q.1 && q.1 ≤ 44) || (q.1 == 40 && k == 1)) w w') (ho : ∀ s h, 41 ≤ s → s ≤ 44 → h ≠ i → w'.1 (s, 0, 0) h = w.1 (s, 0, 0) h) (hl : w'.1 (40, 0, 0) 1 = nI (lit (updR V.1 i R) V.2.2.1)) (hr : w'.1 (41, 0, 0) i = R 0 ∧ w'.1 (42, 0, 0) i = R 2 ∧ w'.1 (43, 0, 0) i = R 3 ∧ w'.1 (44, 0, 0) i = R 4) (hs : ∀ f, 5 ≤ f → R f = V.1 i f) (hR : (R 1 = 0 ∨ R 1 = 1) ∧ ∃ k, k < 7 ∧ R 2 = nI k) : VlR u' w' 0 kP 46 70 71 n := by
  obtain ⟨F, W, H, wt, hh, ld⟩ := V
  obtain ⟨a1, a2, a3, a4, a5, a6⟩ := hC
  dsimp only at a1 a2 a3 a4 a5 a6 hi hl hs
  obtain ⟨⟨b1, b2, b3, b4⟩, b5, b6, b7⟩ := hP
  dsimp only at b1 b2 b3 b4 b5 b6 b7
  obtain ⟨k1, k2, k3, k4⟩ := hk
  have hrow := WF_row k1 (show i < H from hi)
  refine ⟨(updR F i R, W, H, wt, hh, ld), N, ⟨?_, ?_, (hu.1 _ _ rfl).trans a3, (hu.1 _ _ rfl).trans a4, (hu.1 _ _ rfl).trans a5, ?_⟩, ⟨(hu.1 _ _ rfl).trans hN.1, hN.2.1, fun j hj => ⟨(hu.1 _ _ rfl).trans (hN.2.2 j hj).1, (hu.1 _ _ rfl).trans (hN.2.2 j hj).2⟩⟩, ⟨WF_upd (X := (W, H, wt, hh, ld)) k1 ⟨hR.1, hR.2, ?_⟩, k2, k3, k4⟩, ⟨⟨(hw.1 _ _ rfl).trans b1, hl, (hw.1 _ _ rfl).trans b3, (hw.1 _ _ rfl).trans b4⟩, fun h hh => ?_, fun a b ha hb => (hw.1 _ _ rfl).trans (b6 a b ha hb), ?_⟩, ⟨(hw.1 _ _ rfl).trans hQ.1, fun j hj => ⟨(hw.1 _ _ rfl).trans (hQ.2 j hj).1, (hw.1 _ _ rfl).trans (hQ.2 j hj).2⟩⟩⟩
  · rw [hF, ← a1]
  · exact a2.trans (cW_kept hu (fun _ _ => rfl)).symm
  · show LdC u' (u'.2.2 (0 + 1)) ld
    rw [hu.2.2 _ rfl]
    exact LdC_kept hu (fun s p i g1 g2 => by unfold gH; simp only [Bool.and_eq_false_iff, beq_eq_false_iff_ne]; left; show s ≠ 3; omega) a6
  · rw [hs 5 (by omega), hs 7 (by omega)]
    exact hrow.2.2
  · show rowP w' kP (updR F i R h) h
    by_cases e : h = i
    · subst e
      rw [updR_at]
      obtain ⟨c1, c2, c3, c4, c5, c6, c7⟩ := b5 h hh
      refine ⟨hr.1, hr.2.1, hr.2.2.1, hr.2.2.2, ?_, ?_, ?_⟩
      · rw [hs 5 (by omega)]; exact (hw.1 _ _ rfl).trans c5
      · rw [hs 5 (by omega), hs 6 (by omega), hs 7 (by omega)]
        exact fun z => ⟨(hw.1 _ _ rfl).trans (c6 z).1, (hw.1 _ _ rfl).trans (c6 z).2⟩
      · rw [hs 5 (by omega), hs 8 (by omega)]
        exact fun z => (hw.1 _ _ rfl).trans (c7 z)
    · rw [updR_ne F R e]
      obtain ⟨c1, c2, c3, c4, c5, c6, c7⟩ := b5 h hh
      exact ⟨(ho 41 h (by omega) (by omega) e).trans c1, (ho 42 h (by omega) (by omega) e).trans c2, (ho 43 h (by omega) (by omega) e).trans c3, (ho 44 h (by omega) (by omega) e).trans c4, (hw.1 _ _ rfl).trans c5, fun z => ⟨(hw.1 _ _ rfl).trans (c6 z).1, (hw.1 _ _ rfl).trans (c6 z).2⟩, fun z => (hw.1 _ _ rfl).trans (c7 z)⟩
  · exact LdM_L hw (fun s j g1 g2 => by simp only [Bool.or_eq_false_iff, Bool.and_eq_false_iff, decide_eq_false_iff_not, beq_eq_false_iff_ne]; exact ⟨Or.inr (by show ¬ s ≤ 44; omega), Or.inl (by show s ≠ 40; omega)⟩) (hw.1 _ _ rfl) b7
theorem O_2 {u w : PM} (h : Rel u w) (a0 a1 : Int32) : ∃ r u' w', f_X9_wood a0 a1 u = some (r, u') ∧ f_X10_wood a0 a1 w = some (r, w') ∧ Rel u' w' := by
  obtain ⟨n, V, N, hn, hC, hN, hk, hP, hQ⟩ := Rel_V h
  have h6 := hk.1.1
  obtain ⟨a1', a2, a3, a4, a5, a6⟩ := id hC
  unfold f_X9_wood f_X10_wood
  rcases m_isH (RP_H hP) h6 a0 with ⟨i, hi, rfl, e⟩ | ⟨hi, e⟩
  · rw [c_find a3 h6 hi, Option.bind_some, e, Option.bind_some]
    dsimp only
    rw [if_pos (show i < 6 by omega), if_neg one_ne, if_neg (nI_in (show i < 6 by omega) (by omega)), nI_clamp (show i < 2 ^ 31 by omega)]
    rcases m_inN (n := 99) (by omega) a1 w with ⟨j, hj, rfl, e2⟩ | ⟨hj, e2⟩
    · rw [show (99 : Int32) = nI 99 from rfl, e2, Option.bind_some, if_neg (nI_pos (by omega)), if_pos (nI_le hj (by omega)), if_neg one_ne]
      rw [show u.1 (3, 0, i) 0 = w.1 (41, 0, 0) i from ((cF_at (by omega) (by omega)).trans (congrFun (congrFun a1'.symm i) 0)).trans (hP.2.1 i hi).1.symm]
      refine ⟨_, _, _, rfl, rfl, ?_⟩
      · refine Rel_1 h (eqx.rf.pi rfl) (eqx.rf.pi rfl) (fun n' hv => ?_)
        obtain ⟨V', N', c1, c2, c3, c4, c5⟩ := hv
        have hi' : i < V'.2.2.1 := by have := c1.2.2.1; rw [a3, nI_eq (by omega) (by have := c3.1.1; omega)] at this; omega
        have hr := WF_row c3.1 hi'
        refine V_set (i := i) (R := put1 (V'.1 i) 0 (nI j)) c1 c2 c3 c4 c5 hi' (eqx.rf.pi (gH_t _ _ _)) (by rw [c_row (by omega) (by omega), ← c1.1]) (eqx.rf.pi rfl) (fun s h _ _ e => by rw [p_i, if_neg (fun z => e z.1)]) ?_ ⟨?_, ?_, ?_, ?_⟩ (fun f hf => if_neg (by omega)) ⟨hr.1, hr.2.1⟩
        · rw [lit_same (by simp [put1])]; simp [p_i]; exact c4.1.2.1
        · simp [p_i, put1]
        · simp [p_i, put1]; exact (c4.2.1 i hi').2.1
        · simp [p_i, put1]; exact (c4.2.1 i hi').2.2.1
        · simp [p_i, put1]; exact (c4.2.1 i hi').2.2.2.1
    · rw [show (99 : Int32) = nI 99 from rfl, e2, Option.bind_some, if_pos rfl]
      refine ⟨-2, u, w, ?_, rfl, h⟩
      rcases hj with z | z
      · rw [if_pos z]
      · rw [if_neg (Int32.not_le.mpr z)]
        split <;> rfl
  · rw [c_find0 a3 h6 hi, Option.bind_some, e, Option.bind_some]
    exact ⟨_, _, _, rfl, rfl, h⟩
theorem O_3 {u w : PM} (h : Rel u w) (a0 a1 : Int32) (hb : a1 = 0 ∨ a1 = 1) : ∃ r u' w', f_X9_light a0 a1 u = some (r, u') ∧ f_X10_light a0 a1 w = some (r, w') ∧ Rel u' w' := by
  obtain ⟨n, V, N, hn, hC, hN, hk, hP, hQ⟩ := Rel_V h
  have h6 := hk.1.1
  obtain ⟨a1', a2, a3, a4, a5, a6⟩ := id hC
  unfold f_X9_light f_X10_light
  rcases m_isH (RP_H hP) h6 a0 with ⟨i, hi, rfl, e⟩ | ⟨hi, e⟩
  · rw [c_find a3 h6 hi, Option.bind_some, e, Option.bind_some]
    dsimp only
    have cf : u.1 (3, 0, i) 1 = V.1 i 1 := by rw [a1']; exact cF_at (by omega) (by omega)
    have hl : w.1 (40, 0, 0) 1 = nI (lit V.1 V.2.2.1) := hP.1.2.1
    have hbt : f_X10_has (w.1 (40, 0, 0) 1) (nI i) w = some (if V.1 i 1 = 0 then 0 else 1) := by
      rw [hl, m_has (lit_64 _ h6) (by omega), lit_tb, decide_eq_true hi, Bool.true_and]
      by_cases hz : V.1 i 1 = 0
      · rw [if_pos hz, if_neg (by simp [hz])]
      · rw [if_neg hz, if_pos (by simp [hz])]
    rw [if_pos (show i < 6 by omega), if_neg one_ne, hbt, Option.bind_some, cf, if_pos hb]
    have new : ∀ x, (x = (if a1 = 0 then nI (clr (lit V.1 V.2.2.1) i) else nI (lit V.1 V.2.2.1 ||| 2 ^ i))) → Rel (pi u (3, 0, i) 1 a1) (pi w (40, 0, 0) 1 x) := fun x hx => by
      refine Rel_1 h (eqx.rf.pi rfl) (eqx.rf.pi rfl) (fun n' hv => ?_)
      obtain ⟨V', N', c1, c2, c3, c4, c5⟩ := hv
      have hH : V'.2.2.1 = V.2.2.1 := by have := c1.2.2.1; rw [a3, nI_eq (by omega) (by have := c3.1.1; omega)] at this; omega
      have hV : V'.1 = V.1 := c1.1.trans a1'.symm
      have hi' : i < V'.2.2.1 := by omega
      have hr := WF_row c3.1 hi'
      refine V_set (i := i) (R := put1 (V'.1 i) 1 a1) c1 c2 c3 c4 c5 hi' (eqx.rf.pi (gH_t _ _ _)) (by rw [c_row (by omega) (by omega), ← c1.1]) (eqx.rf.pi rfl) (fun s h g1 g2 e => by rw [p_i, if_neg (fun z => by have := z.2; simp at this; omega)]) ?_ ⟨?_, ?_, ?_, ?_⟩ (fun f hf => if_neg (by omega)) ⟨hb, hr.2.1⟩
      · rw [p_i, if_pos ⟨rfl, rfl⟩, hx, hV, hH, lit_upd _ (by omega) h6]
        show _ = nI (if a1 = 0 then _ else _)
        split <;> rfl
      · simp [p_i, put1]; exact (c4.2.1 i hi').1
      · simp [p_i, put1]; exact (c4.2.1 i hi').2.1
      · simp [p_i, put1]; exact (c4.2.1 i hi').2.2.1
      · simp [p_i, put1]; exact (c4.2.1 i hi').2.2.2.1
    rw [hl, b_cl0 _ (lit_64 _ h6) _ (by omega), b_or0 _ (lit_64 _ h6) _ (by omega)]
    by_cases hz : V.1 i 1 = 0
    · rw [if_pos hz, if_pos hz, if_pos rfl]
      by_cases ha : a1 = 0
      · rw [if_pos ha]
        exact ⟨_, _, _, rfl, rfl, new _ (by rw [if_pos ha])⟩
      · rw [if_neg ha]
        exact ⟨_, _, _, rfl, rfl, new _ (by rw [if_neg ha])⟩
    · rw [if_neg hz, if_neg hz, if_neg one_ne, if_pos hb]
      by_cases ha : a1 = 0
      · rw [if_pos ha]
        exact ⟨_, _, _, rfl, rfl, new _ (by rw [if_pos ha])⟩
      · rw [if_neg ha]
        exact ⟨_, _, _, rfl, rfl, new _ (by rw [if_neg ha])⟩
  · rw [c_find0 a3 h6 hi, Option.bind_some, e, Option.bind_some]
    exact ⟨_, _, _, rfl, rfl, h⟩
theorem O_9 {u w : PM} (h : Rel u w) (a0 a1 a2 a3' : Int32) : ∃ r u' w', f_X9_keeper a0 a1 a2 a3' u = some (r, u') ∧ f_X10_keeper a0 a1 a2 a3' w = some (r, w') ∧ Rel u' w' := by
  obtain ⟨n, V, N, hn, hC, hN, hk, hP, hQ⟩ := Rel_V h
  have h6 := hk.1.1
  obtain ⟨a1', a2', a3, a4, a5, a6⟩ := id hC
  unfold f_X9_keeper f_X10_keeper
  rcases m_isH (RP_H hP) h6 a0 with ⟨i, hi, rfl, e⟩ | ⟨hi, e⟩
  · rw [c_find a3 h6 hi, Option.bind_some, e, Option.bind_some]
    dsimp only
    rw [if_pos (show i < 6 by omega), if_neg one_ne, if_neg (nI_in (show i < 6 by omega) (by omega)), nI_clamp (show i < 2 ^ 31 by omega)]
    unfold f_X9_isKind
    rcases m_inN (n := 6) (by omega) a1 w with ⟨k, hk7, rfl, e2⟩ | ⟨hj, e2⟩
    · rw [show (6 : Int32) = nI 6 from rfl, e2, Option.bind_some, if_neg (nI_pos (by omega)), if_neg (show ¬ (7 : Int32) ≤ nI k from nI_ge (b := 7) (by omega) (by omega)), Option.bind_some, if_neg one_ne]
      rcases m_inN (n := 9) (by omega) a2 w with ⟨v, hv9, rfl, e3⟩ | ⟨hj, e3⟩
      · rw [show (9 : Int32) = nI 9 from rfl, e3, Option.bind_some, if_neg (nI_pos (by omega)), if_neg (nI_nlt (by omega) (by omega)), if_neg one_ne]
        rcases m_inN (n := 16777215) (by omega) a3' w with ⟨j, hj, rfl, e4⟩ | ⟨hj, e4⟩
        · rw [show (16777215 : Int32) = nI 16777215 from rfl, e4, Option.bind_some, if_neg (nI_pos (by omega)), if_pos (nI_le hj (by omega)), if_neg one_ne]
          rw [show u.1 (3, 0, i) 2 = w.1 (42, 0, 0) i from ((cF_at (by omega) (by omega)).trans (congrFun (congrFun a1'.symm i) 2)).trans (hP.2.1 i hi).2.1.symm]
          refine ⟨_, _, _, rfl, rfl, ?_⟩
          · refine Rel_1 h (((eqx.rf.pi rfl).pi rfl).pi rfl) (((eqx.rf.pi rfl).pi rfl).pi rfl) (fun n' hv => ?_)
            obtain ⟨V', N', c1, c2, c3, c4, c5⟩ := hv
            have hi' : i < V'.2.2.1 := by have := c1.2.2.1; rw [a3, nI_eq (by omega) (by have := c3.1.1; omega)] at this; omega
            have hr := WF_row c3.1 hi'
            refine V_set (i := i) (R := put1 (put1 (put1 (V'.1 i) 2 (nI k)) 3 (nI v)) 4 (nI j)) c1 c2 c3 c4 c5 hi' (((eqx.rf.pi (gH_t _ _ _)).pi (gH_t _ _ _)).pi (gH_t _ _ _)) ?_ (((eqx.rf.pi rfl).pi rfl).pi rfl) (fun s h _ _ e => by simp only [p_i, e, false_and, if_false]) ?_ ⟨?_, ?_, ?_, ?_⟩ (fun f hf => ?_) ⟨hr.1, k, by omega, rfl⟩
            · rw [c_row (by omega) (by omega), c_row (by omega) (by omega), c_row (by omega) (by omega), ← c1.1]
              simp only [updR_2, updR_at]
            · rw [lit_same (by simp [put1])]; simp [p_i]; exact c4.1.2.1
            · simp [p_i, put1]; exact (c4.2.1 i hi').1
            · simp [p_i, put1]
            · simp [p_i, put1]
            · simp [p_i, put1]
            · unfold put1
              rw [if_neg (by omega), if_neg (by omega), if_neg (by omega)]
        · rw [show (16777215 : Int32) = nI 16777215 from rfl, e4, Option.bind_some, if_pos rfl]
          refine ⟨-2, u, w, ?_, rfl, h⟩
          rcases hj with z | z
          · rw [if_pos z]
          · rw [if_neg (Int32.not_le.mpr z)]
            split <;> rfl
      · rw [show (9 : Int32) = nI 9 from rfl, e3, Option.bind_some, if_pos rfl]
        refine ⟨-2, u, w, ?_, rfl, h⟩
        rcases hj with z | z
        · rw [if_pos z]
        · rw [if_pos z]
          split <;> rfl
    · rw [show (6 : Int32) = nI 6 from rfl, e2, Option.bind_some, if_pos rfl]
      refine ⟨-1, u, w, ?_, rfl, h⟩
      rcases hj with z | z
      · rw [if_pos z]; rfl
      · have z7 : (7 : Int32) ≤ a1 := by
          rcases pk_ix a1 (n := 7) (by omega) with y | y | ⟨k, hk, rfl⟩
          · exact absurd (Int32.lt_trans z y) (by decide)
          · exact y
          · rw [nI_ltI (by omega) (by omega)] at z; omega
        rw [if_pos z7]
        split <;> rfl
  · rw [c_find0 a3 h6 hi, Option.bind_some, e, Option.bind_some]
    exact ⟨_, _, _, rfl, rfl, h⟩
