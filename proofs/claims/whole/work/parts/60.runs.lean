/-! hours one after another -/
theorem toC {g : Key → Nat → Bool} {u u' : PM} (h : eqx g u u') (hg : ∀ q k, g q k = true → cC q k = 0) : chC [0] u u' := h.mono (fun q k z => by
  cases e : g q k with
  | false => rfl
  | true =>
    have z : List.contains [0] (cC q k) = false := z
    rw [hg q k e] at z
    cases z)
theorem toM {g : Key → Nat → Bool} {w w' : PM} (h : eqx g w w') (hg : ∀ q k, g q k = true → cM q k = 0) : chM [0] w w' := h.mono (fun q k z => by
  cases e : g q k with
  | false => rfl
  | true =>
    have z : List.contains [0] (cM q k) = false := z
    rw [hg q k e] at z
    cases z)
theorem cC_8 {q : Key} {k : Nat} (h : q.1 = 8 ∨ (20 ≤ q.1 ∧ q.1 ≤ 28)) : cC q k = 0 := by
  unfold cC
  rw [if_neg (by omega), if_neg (by omega), if_neg (by omega), if_neg (by omega), if_neg (by omega), if_neg (by omega), if_neg (by omega), if_neg (by omega), if_neg (by omega)]
theorem cC_v {q : Key} {k : Nat} (h : q.1 = 1 ∨ q.1 = 3 ∨ q.1 = 5 ∨ q.1 = 6 ∨ q.1 = 7) (hv : 2 ≤ q.2.1) : cC q k = 0 := by
  unfold cC
  rw [if_neg (by omega), if_pos h, if_neg (by omega), if_neg (by omega)]
theorem cC_r {q : Key} {k : Nat} (h : q.1 = 200) (hv : 3 ≤ q.2.1) : cC q k = 0 := by
  unfold cC
  rw [if_neg (by omega), if_neg (by omega), if_neg (by omega), if_neg (by omega), if_neg (by omega), if_neg (by omega), if_neg (by omega), if_neg (by omega), if_pos h, if_neg (by omega), if_neg (by omega)]
theorem k_gF {u u' : PM} (h : eqx gF u u') : chC [0] u u' := toC h (fun q k z => cC_8 (Or.inl (by simpa [gF] using z)))
theorem k_gWg {u u' : PM} (h : eqx gWg u u') : chC [0] u u' := toC h (fun q k z => cC_8 (by
  unfold gWg at z
  simp only [Bool.or_eq_true, beq_iff_eq] at z
  omega))
theorem k_gPs {v : Nat} (hv : 2 ≤ v) {u u' : PM} (h : eqx (gPs v) u u') : chC [0] u u' := toC h (fun q k z => by
  unfold gPs gX1 gH at z
  simp only [Bool.or_eq_true, Bool.and_eq_true, beq_iff_eq, decide_eq_true_eq] at z
  rcases z with (z | z) | z
  · exact cC_8 (by omega)
  · exact cC_v (by omega) (by omega)
  · exact cC_v (by omega) (by omega))
theorem k_gCp {v : Nat} (hv : 2 ≤ v) {u u' : PM} (h : eqx (gCp v) u u') : chC [0] u u' := toC h (fun q k z => by
  unfold gCp at z
  simp only [Bool.or_eq_true, Bool.and_eq_true, beq_iff_eq] at z
  rcases z with z | z
  · exact cC_v (by omega) (by omega)
  · exact cC_r (by omega) (by omega))
theorem cM_0 {q : Key} {k : Nat} (h : q.1 = 58 ∨ q.1 = 60 ∨ (61 ≤ q.1 ∧ q.1 ≤ 69) ∨ (72 ≤ q.1 ∧ q.1 ≤ 77) ∨ q.1 = 93 ∨ (q.1 = 40 ∧ (k = 16 ∨ k = 17 ∨ (27 ≤ k ∧ k ≤ 36) ∨ (50 ≤ k ∧ k ≤ 59)))) : cM q k = 0 := by
  unfold cM
  by_cases e : q.1 = 40
  · rw [if_pos e, if_neg (by omega), if_neg (by omega), if_neg (by omega), if_neg (by omega), if_neg (by omega)]
  · rw [if_neg e, if_neg (by omega), if_neg (by omega), if_neg (by omega), if_neg (by omega), if_neg (by omega), if_neg (by omega), if_neg (by omega), if_neg (by omega)]
theorem k_gP {w w' : PM} (h : eqx gP w w') : chM [0] w w' := toM h (fun q k z => cM_0 (by
  unfold gP at z
  simp only [beq_iff_eq] at z
  omega))
theorem k_gAs {w w' : PM} (h : eqx gAs w w') : chM [0] w w' := toM h (fun q k z => cM_0 (by
  unfold gAs at z
  simp only [Bool.or_eq_true, Bool.and_eq_true, beq_iff_eq, decide_eq_true_eq] at z
  omega))
theorem k_gMh {w w' : PM} (h : eqx gMh w w') : chM [0] w w' := toM h (fun q k z => cM_0 (by
  unfold gMh gBe gM6 gM8 at z
  simp only [Bool.or_eq_true, Bool.and_eq_true, beq_iff_eq, decide_eq_true_eq] at z
  omega))
theorem RepC_k {A : List Nat} {u u' : PM} {V : Vil} (hu : chC A u u') (h1 : A.contains 1 = false) (h7 : A.contains 7 = false) (x : RepC u 0 V) : RepC u' 0 V :=
  RepC_kept hu (fun s hs i f => by rcases hs with rfl | rfl | rfl <;> exact h1) (fun s p i g1 g2 => by show A.contains (cC _ _) = false; rw [cC_land g1 g2]; exact h7) h1 x
theorem RepN_k {A : List Nat} {u u' : PM} {N : Nig} (hu : chC A u u') (h1 : A.contains 1 = false) (x : RepN u 0 N) : RepN u' 0 N := ⟨(chC_1 hu h1 (by rfl)).trans x.1, x.2.1, fun i hi => ⟨(chC_1 hu h1 (by rfl)).trans (x.2.2 i hi).1, (chC_1 hu h1 (by rfl)).trans (x.2.2 i hi).2⟩⟩
theorem RP_k {A : List Nat} {w w' : PM} {V : Vil} (hw : chM A w w') (h1 : A.contains 1 = false) (h7 : A.contains 7 = false) (x : RP w kP V) : RP w' kP V := by
  obtain ⟨⟨b1, b2, b3, b4⟩, b5, b6, b7⟩ := x
  refine ⟨⟨(chM_1 hw h1 (by rfl)).trans b1, (chM_1 hw h1 (by rfl)).trans b2, (chM_1 hw h1 (by rfl)).trans b3, (chM_1 hw h1 (by rfl)).trans b4⟩, fun h hh => ?_, fun a b ha hb => (chM_1 hw h1 (by rfl)).trans (b6 a b ha hb), chM_L hw h7 (chM_1 hw h1 (by rfl)) b7⟩
  obtain ⟨c1, c2, c3, c4, c5, c6, c7⟩ := b5 h hh
  exact ⟨(chM_1 hw h1 (by rfl)).trans c1, (chM_1 hw h1 (by rfl)).trans c2, (chM_1 hw h1 (by rfl)).trans c3, (chM_1 hw h1 (by rfl)).trans c4, (chM_1 hw h1 (by rfl)).trans c5, fun z => ⟨(chM_1 hw h1 (by rfl)).trans (c6 z).1, (chM_1 hw h1 (by rfl)).trans (c6 z).2⟩, fun z => (chM_1 hw h1 (by rfl)).trans (c7 z)⟩
theorem chC_tr {A : List Nat} {u u1 u2 : PM} (h : chC A u u1) (h2 : chC A u1 u2) : chC A u u2 := eqx.tr h h2
theorem chM_tr {A : List Nat} {u u1 u2 : PM} (h : chM A u u1) (h2 : chM A u1 u2) : chM A u u2 := eqx.tr h h2
/-- n hours: the village, its worth, its lacks -/
def hsA (fW fM : Nat → Int32) (V : Vil) : Nat → Vil × Int32 × Int32
  | 0 => (V, 0, 0)
  | n + 1 => (hourA (hsA fW fM V n).1 (fW n) (fM n), wS (hsA fW fM V n).1 (fW n) (hsA fW fM V n).2.1 (hsA fW fM V n).1.2.2.1, lS (hsA fW fM V n).1 (fW n) (hsA fW fM V n).2.2 (hsA fW fM V n).1.2.2.1)
theorem hsA_H (fW fM : Nat → Int32) (V : Vil) : ∀ n, (hsA fW fM V n).1.2.2.1 = V.2.2.1
  | 0 => rfl
  | n + 1 => hsA_H fW fM V n
theorem hsA_WF {fW fM : Nat → Int32} {V : Vil} (hW : WF V) : ∀ n, WF (hsA fW fM V n).1
  | 0 => hW
  | n + 1 => WF_hour (hsA_WF hW n) _ _
/-- weighed and passed -/
theorem c_wp {u : PM} {v : Nat} (hv : 2 ≤ v) {V : Vil} (hR : RepC u v V) (hW : WF V) (wt mis : Int32) : ∃ u1 u', f_X1_weigh v wt u = some u1 ∧ chC [0] u u1 ∧ f_X1_pass v wt mis u1 = some u' ∧ chC [0] u u' ∧ RepC u' v (hourA V wt mis) ∧ u'.1 (20, 0, 0) 0 = wS V wt (u.1 (20, 0, 0) 0) V.2.2.1 ∧ u'.1 (20, 0, 0) 1 = lS V wt (u.1 (20, 0, 0) 1) V.2.2.1 := by
  obtain ⟨u1, q1, q2, q3, q4⟩ := c_weigh hR hW wt
  obtain ⟨u2, r1, r2, r3⟩ := c_pass (RepC_gWx (q2.mono (fun _ _ => gWg_Wx)) hR) hW wt mis
  exact ⟨u1, u2, q1, k_gWg q2, r1, chC_tr (k_gWg q2) (k_gPs hv r2), r3, (r2.1 _ _ rfl).trans q3, (r2.1 _ _ rfl).trans q4⟩
theorem c_nights {u : PM} {V : Vil} {N : Nig} {n : Nat} (hR : RepC u 0 V) (hW : WF V) (hN : RepN u 0 N) (hn : n ≤ N.1) : ∃ u', f_X1_passNights 0 2 (nI n) u = some u' ∧ chC [0] u u' ∧ RepC u' 2 (hsA N.2.1 N.2.2 V n).1 ∧ u'.1 (20, 0, 0) 0 = (hsA N.2.1 N.2.2 V n).2.1 ∧ u'.1 (20, 0, 0) 1 = (hsA N.2.1 N.2.2 V n).2.2 := by
  have n12 := hN.2.1
  obtain ⟨u1, q1, q2, q3, q4⟩ := c_copy (v := 2) (w := 0) (by decide) hR hW hN
  unfold f_X1_passNights f_X1_begin
  rw [q1, Option.bind_some, Option.bind_some]
  have e2 : chC [0] u (pi (pi u1 (20, 0, 0) 0 (0 : Int32)) (20, 0, 0) 1 (0 : Int32)) := eqx.pi (eqx.pi (k_gCp (by omega) q2) rfl) rfl
  have eb : eqx gWx u1 (pi (pi u1 (20, 0, 0) 0 (0 : Int32)) (20, 0, 0) 1 (0 : Int32)) := (eqx.rf.pi rfl).pi rfl
  have key := am_cnt (f := f_X1_passNights_L12 0 2 (nI n)) (s := ((0 : Int32), pi (pi u1 (20, 0, 0) 0 (0 : Int32)) (20, 0, 0) 1 (0 : Int32))) (fun j t => t.1 = nI j ∧ chC [0] u t.2 ∧ RepC t.2 2 (hsA N.2.1 N.2.2 V j).1 ∧ t.2.1 (20, 0, 0) 0 = (hsA N.2.1 N.2.2 V j).2.1 ∧ t.2.1 (20, 0, 0) 1 = (hsA N.2.1 N.2.2 V j).2.2) (fun e => chC [0] u e ∧ RepC e 2 (hsA N.2.1 N.2.2 V n).1 ∧ e.1 (20, 0, 0) 0 = (hsA N.2.1 N.2.2 V n).2.1 ∧ e.1 (20, 0, 0) 1 = (hsA N.2.1 N.2.2 V n).2.2) n ⟨rfl, e2, RepC_gWx eb q3, by simp [p_i]; rfl, by simp [p_i]; rfl⟩ (by omega) ?_ ?_
  · obtain ⟨e, k1, k2⟩ := key
    rw [k1]
    exact ⟨e, rfl, k2⟩
  · rintro j ⟨x, t⟩ hj ⟨rfl, h1, h2, h3, h4⟩
    dsimp only at h1 h2 h3 h4
    have t6 : t.1 (6, 0, 0) j = N.2.1 j := (chC_1 h1 (c := 1) rfl (by rfl)).trans (hN.2.2 j (by omega)).1
    obtain ⟨t1, t2, r1, r2, r3, r4, r5, r6, r7⟩ := c_wp (by omega) h2 (hsA_WF hW j) (N.2.1 j) (N.2.2 j)
    have y6 : t1.1 (6, 0, 0) j = N.2.1 j := (chC_1 (chC_tr h1 r2) (c := 1) rfl (by rfl)).trans (hN.2.2 j (by omega)).1
    have y7 : t1.1 (7, 0, 0) j = N.2.2 j := (chC_1 (chC_tr h1 r2) (c := 1) rfl (by rfl)).trans (hN.2.2 j (by omega)).2
    unfold f_X1_passNights_L12
    dsimp only
    rw [if_neg (nI_ge (show j < n by omega) (by omega)), if_neg (show ¬ (12 : Int32) ≤ nI j from nI_ge (b := 12) (by omega) (by omega)), if_neg (nI_in (show j < 12 by omega) (by omega)), nI_clamp (show j < 2 ^ 31 by omega), nI_1, t6, r1, Option.bind_some, y6, y7, r3, Option.bind_some]
    exact ⟨_, rfl, rfl, chC_tr h1 r4, r5, by rw [r6, h3]; rfl, by rw [r7, h4]; rfl⟩
  · rintro ⟨x, t⟩ ⟨rfl, h1, h2, h3, h4⟩
    unfold f_X1_passNights_L12
    dsimp only
    rw [if_pos (Int32.le_refl _)]
    exact ⟨t, rfl, h1, h2, h3, h4⟩
theorem m_nights {w : PM} {V : Vil} {N : Nig} {n : Nat} (hP : RP w kP V) (hW : WF V) (hQ : RN w 46 70 71 N) (hn : n ≤ 12) : ∃ w', f_X10_goNights (nI n) w = some w' ∧ chM [0] w w' ∧ RA w' (hsA N.2.1 N.2.2 V n).1 ∧ w'.1 (40, 0, 0) 35 = (hsA N.2.1 N.2.2 V n).2.1 ∧ w'.1 (40, 0, 0) 36 = (hsA N.2.1 N.2.2 V n).2.2 := by
  obtain ⟨w1, q1, q2, q3, _, q5, q6⟩ := m_asIs hP hW
  unfold f_X10_goNights
  rw [q1, Option.bind_some]
  have key := am_cnt (f := f_X10_goNights_L6 (nI n)) (s := ((0 : Int32), w1)) (fun j t => t.1 = nI j ∧ chM [0] w t.2 ∧ RA t.2 (hsA N.2.1 N.2.2 V j).1 ∧ t.2.1 (40, 0, 0) 35 = (hsA N.2.1 N.2.2 V j).2.1 ∧ t.2.1 (40, 0, 0) 36 = (hsA N.2.1 N.2.2 V j).2.2) (fun e => chM [0] w e ∧ RA e (hsA N.2.1 N.2.2 V n).1 ∧ e.1 (40, 0, 0) 35 = (hsA N.2.1 N.2.2 V n).2.1 ∧ e.1 (40, 0, 0) 36 = (hsA N.2.1 N.2.2 V n).2.2) n ⟨rfl, k_gAs q2, q3, q5, q6⟩ (by omega) ?_ ?_
  · obtain ⟨e, k1, k2⟩ := key
    rw [k1]
    exact ⟨e, rfl, k2⟩
  · rintro j ⟨x, t⟩ hj ⟨rfl, h1, h2, h3, h4⟩
    dsimp only at h1 h2 h3 h4
    have t6 : t.1 (70, 0, 0) j = N.2.1 j := (chM_1 h1 (c := 1) rfl (by rfl)).trans (hQ.2 j (by omega)).1
    have t7 : t.1 (71, 0, 0) j = N.2.2 j := (chM_1 h1 (c := 1) rfl (by rfl)).trans (hQ.2 j (by omega)).2
    obtain ⟨t1, r1, r2, r3, r4, r5⟩ := m_hour h2 (hsA_WF hW j) (N.2.1 j) (N.2.2 j)
    unfold f_X10_goNights_L6
    dsimp only
    rw [if_neg (nI_ge (show j < n by omega) (by omega)), if_neg (nI_in (show j < 12 by omega) (by omega)), nI_clamp (show j < 2 ^ 31 by omega), nI_1, t6, t7, r1, Option.bind_some]
    exact ⟨_, rfl, rfl, chM_tr h1 (k_gMh r2), r3, by rw [r4, h3]; rfl, by rw [r5, h4]; rfl⟩
  · rintro ⟨x, t⟩ ⟨rfl, h1, h2, h3, h4⟩
    unfold f_X10_goNights_L6
    dsimp only
    rw [if_pos (Int32.le_refl _)]
    exact ⟨t, rfl, h1, h2, h3, h4⟩
theorem O_7 {u w : PM} (h : Rel u w) (a0 a1 a2 : Int32) : ∃ r u' w', f_X9_told a0 a1 a2 u = some (r, u') ∧ f_X10_told a0 a1 a2 w = some (r, w') ∧ Rel u' w' := by
  obtain ⟨n, V, N, hn, hC, hN, hk, hP, hQ⟩ := Rel_V h
  have h6 := hk.1.1
  obtain ⟨a1', a2', a3, a4, a5, a6⟩ := id hC
  unfold f_X9_told f_X10_told
  rcases m_isH (RP_H hP) h6 a0 with ⟨i, hi, rfl, e⟩ | ⟨hi, e⟩
  · rw [c_find a3 h6 hi, Option.bind_some, e, Option.bind_some]
    dsimp only
    rw [if_pos (show i < 6 by omega), if_neg one_ne]
    rcases m_isW a1 w with ⟨k, hk3, rfl, e1, e1'⟩ | ⟨_, e1, e1'⟩
    · rw [e1, e1' u, Option.bind_some, Option.bind_some, if_neg one_ne, if_neg one_ne]
      rcases m_inN (n := 3) (by omega) a2 w with ⟨x, hx, rfl, e2⟩ | ⟨hx, e2⟩
      · rw [show (3 : Int32) = nI 3 from rfl, e2, Option.bind_some, if_neg (nI_pos (by omega)), if_pos (nI_le hx (by omega)), if_neg one_ne]
        obtain ⟨u', q1, q2⟩ := c_sum hC hk.1 (show x < 4 by omega) hi (nI k)
        obtain ⟨w1, r1, r2, _, r4, _⟩ := m_asIs hP hk.1
        obtain ⟨w2, s1, s2⟩ := m_sum r4 hk.1 (show x < 4 by omega) hi (nI k)
        rw [q1, r1, Option.bind_some, Option.bind_some, s1]
        exact ⟨_, _, _, rfl, rfl, Rel_0 h (k_gF q2) (chM_tr (k_gAs r2) (k_gP s2))⟩
      · rw [show (3 : Int32) = nI 3 from rfl, e2, Option.bind_some, if_pos rfl]
        refine ⟨-1, u, w, ?_, rfl, h⟩
        rcases hx with z | z
        · rw [if_pos z]
        · rw [if_neg (Int32.not_le.mpr z)]
          split <;> rfl
    · rw [e1, e1' u, Option.bind_some, Option.bind_some, if_pos rfl, if_pos rfl]
      exact ⟨_, _, _, rfl, rfl, h⟩
  · rw [c_find0 a3 h6 hi, Option.bind_some, e, Option.bind_some]
    exact ⟨_, _, _, rfl, rfl, h⟩
theorem m_hasP {w : PM} {V : Vil} {i : Nat} (hP : RP w kP V) (h6 : V.2.2.1 ≤ 6) (hi : i < V.2.2.1) (x : PM) : f_X10_has (w.1 (40, 0, 0) 1) (nI i) x = some (if V.1 i 1 = 0 then 0 else 1) := by
  rw [show w.1 (40, 0, 0) 1 = nI (lit V.1 V.2.2.1) from hP.1.2.1, m_has (lit_64 _ h6) (by omega), lit_tb, decide_eq_true hi, Bool.true_and]
  by_cases hz : V.1 i 1 = 0
  · rw [if_pos hz, if_neg (by simp [hz])]
  · rw [if_neg hz, if_pos (by simp [hz])]
theorem O_10 {u w : PM} (h : Rel u w) (a0 a1 : Int32) : ∃ r u' w', f_X9_would a0 a1 u = some (r, u') ∧ f_X10_would a0 a1 w = some (r, w') ∧ Rel u' w' := by
  obtain ⟨n, V, N, hn, hC, hN, hk, hP, hQ⟩ := Rel_V h
  have h6 := hk.1.1
  obtain ⟨a1', a2', a3, a4, a5, a6⟩ := id hC
  unfold f_X9_would f_X10_would
  rcases m_isH (RP_H hP) h6 a0 with ⟨i, hi, rfl, e⟩ | ⟨hi, e⟩
  · rw [c_find a3 h6 hi, Option.bind_some, e, Option.bind_some]
    dsimp only
    rw [if_pos (show i < 6 by omega), if_neg one_ne]
    rcases m_isW a1 w with ⟨k, hk3, rfl, e1, e1'⟩ | ⟨_, e1, e1'⟩
    · rw [e1, e1' u, Option.bind_some, Option.bind_some, if_neg one_ne, if_neg one_ne]
      obtain ⟨u', q1, q2⟩ := c_cho hC hk.1 hi (nI k)
      obtain ⟨w1, r1, r2, _, r4, _⟩ := m_asIs hP hk.1
      have hP1 : RP w1 kP V := RP_k (k_gAs r2) rfl rfl hP
      rw [q1, r1, Option.bind_some, Option.bind_some, m_hasP hP1 h6 hi, Option.bind_some]
      refine ⟨nI (choA V i (nI k)), u', ?_⟩
      have c5 : w1.1 (45, 0, 0) i = V.1 i 5 := (hP1.2.1 i hi).2.2.2.2.1
      rw [if_neg (nI_in (show i < 6 by omega) (by omega)), nI_clamp (show i < 2 ^ 31 by omega), c5]
      unfold choA
      by_cases hz : V.1 i 1 = 0
      · rw [if_pos hz, if_pos hz, if_pos rfl]
        by_cases h5 : V.1 i 5 = 0
        · rw [if_pos h5, if_pos h5]
          obtain ⟨w2, s1, s2⟩ := m_send r4 hk.1 hi (nI k)
          have hM2 := RMw_kept (s2.mono (fun _ _ => gP_W)) r4
          rw [s1, Option.bind_some]
          dsimp only
          have er := Rel_0 h (k_gF q2) (chM_tr (k_gAs r2) (k_gP s2))
          by_cases cs : sendA V i (nI k) = true
          · rw [cs, if_neg (show ¬ b2i true = 0 by decide), m_where hM2 hk.1 hi, Option.bind_some]
            cases hn : nearA V i with
            | none =>
              rw [if_pos rfl, if_pos (show oI none < 0 by decide)]
              exact ⟨_, rfl, rfl, er⟩
            | some g =>
              have := nearA_lt hn
              rw [if_neg (by simp), if_pos rfl, if_neg (show ¬ oI (some g) < 0 from nI_pos (by omega))]
              exact ⟨_, rfl, rfl, er⟩
          · rw [show sendA V i (nI k) = false by cases hq : sendA V i (nI k) <;> simp_all, if_pos (show b2i false = 0 by decide)]
            refine ⟨w2, rfl, ?_, er⟩
            rw [if_neg (show ¬ false = true by decide)]
            split <;> rfl
        · rw [if_neg h5, if_neg h5]
          exact ⟨_, rfl, rfl, Rel_0 h (k_gF q2) (k_gAs r2)⟩
      · rw [if_neg hz, if_neg hz, if_neg one_ne]
        obtain ⟨w2, s1, s2⟩ := m_keep r4 hk.1 hi (nI k)
        rw [s1, Option.bind_some]
        have er := Rel_0 h (k_gF q2) (chM_tr (k_gAs r2) (k_gP s2))
        cases keepA V i (nI k)
        · exact ⟨_, rfl, rfl, er⟩
        · exact ⟨_, rfl, rfl, er⟩
    · rw [e1, e1' u, Option.bind_some, Option.bind_some, if_pos rfl, if_pos rfl]
      exact ⟨_, _, _, rfl, rfl, h⟩
  · rw [c_find0 a3 h6 hi, Option.bind_some, e, Option.bind_some]
    exact ⟨_, _, _, rfl, rfl, h⟩
