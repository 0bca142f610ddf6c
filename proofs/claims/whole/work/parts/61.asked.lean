/-! what is asked of hours: hand, go, freed, lasts -/
theorem am_two1 {S T E F : Type} {f : S → Option (S ⊕ E)} {g : T → Option (T ⊕ F)} (I : Nat → S → T → Prop) (Q : E → F → Prop) (N : Nat)
    (hs : ∀ j s t, j < N → I j s t → (∃ s' t', f s = some (.inl s') ∧ g t = some (.inl t') ∧ I (j + 1) s' t') ∨ ∃ e e', f s = some (.inr e) ∧ g t = some (.inr e') ∧ Q e e')
    (he : ∀ s t, I N s t → ∃ e e', f s = some (.inr e) ∧ g t = some (.inr e') ∧ Q e e') : ∀ (n i : Nat) (s : S) (t : T), i ≤ N → N < i + n → I i s t → ∃ e e', am_loop f n s = some e ∧ am_loop g n t = some e' ∧ Q e e'
  | 0, i, s, t, h1, h2, _ => by omega
  | n + 1, i, s, t, h1, h2, h3 => by
    have out : (∃ e e', f s = some (.inr e) ∧ g t = some (.inr e') ∧ Q e e') → ∃ e e', am_loop f (n + 1) s = some e ∧ am_loop g (n + 1) t = some e' ∧ Q e e' := by
      rintro ⟨e, e', h4, h5, h6⟩
      exact ⟨e, e', am_loop_e h4, am_loop_e h5, h6⟩
    by_cases hi : i = N
    · subst hi
      exact out (he s t h3)
    · rcases hs i s t (by omega) h3 with ⟨s', t', h4, h5, h6⟩ | h4
      · rw [am_loop_s h4, am_loop_s h5]
        exact am_two1 I Q N hs he n (i + 1) s' t' (by omega) (by omega) h6
      · exact out h4
theorem am_two {S T E F : Type} {f : S → Option (S ⊕ E)} {g : T → Option (T ⊕ F)} (I : Nat → S → T → Prop) (Q : E → F → Prop) (N : Nat) {s : S} {t : T} (h0 : I 0 s t) (hN : N < 2000)
    (hs : ∀ j s t, j < N → I j s t → (∃ s' t', f s = some (.inl s') ∧ g t = some (.inl t') ∧ I (j + 1) s' t') ∨ ∃ e e', f s = some (.inr e) ∧ g t = some (.inr e') ∧ Q e e')
    (he : ∀ s t, I N s t → ∃ e e', f s = some (.inr e) ∧ g t = some (.inr e') ∧ Q e e') : ∃ e e', am_loop f 2000 s = some e ∧ am_loop g 2000 t = some e' ∧ Q e e' :=
  am_two1 I Q N hs he 2000 0 s t (Nat.zero_le _) (by omega) h0
theorem O_13 {u w : PM} (h : Rel u w) (a0 a1 : Int32) : ∃ r u' w', f_X9_hand a0 a1 u = some (r, u') ∧ f_X10_hand a0 a1 w = some (r, w') ∧ Rel u' w' := by
  obtain ⟨n, V, N, hn, hC, hN, hk, hP, hQ⟩ := Rel_V h
  have h6 := hk.1.1
  obtain ⟨a1', a2', a3, a4, a5, a6⟩ := id hC
  have n1 : u.1 (1, 0, 0) 6 = nI N.1 := hN.1
  have n2 : w.1 (40, 0, 0) 46 = nI N.1 := hQ.1
  have n3 : N.1 ≤ 12 := hN.2.1
  have notIn : ∀ x : Int32, (x < 0 ∨ nI N.1 < x) → x < 0 ∨ (¬ x < 0 ∧ ¬ x ≤ nI N.1) := fun x hx => by
    by_cases z : x < 0
    · exact Or.inl z
    · exact Or.inr ⟨z, Int32.not_le.mpr (hx.resolve_left z)⟩
  unfold f_X9_hand f_X10_hand
  rw [n1, n2]
  rcases m_inN (n := 8) (by omega) a1 w with ⟨j, hj, rfl, e⟩ | ⟨hj, e⟩
  · rw [show (8 : Int32) = nI 8 from rfl, e, Option.bind_some, if_neg (nI_pos (by omega)), if_neg (nI_nlt hj (by omega)), if_neg one_ne]
    by_cases j6 : 6 ≤ j
    · rw [if_pos (show (6 : Int32) ≤ nI j from nI_le (a := 6) j6 (by omega)), if_pos (show (6 : Int32) ≤ nI j from nI_le (a := 6) j6 (by omega))]
      rcases m_inN (n := N.1) (by omega) a0 w with ⟨k, hk', rfl, e2⟩ | ⟨hk', e2⟩
      · obtain ⟨u', q1, q2, q3, q4, q5⟩ := c_nights hC hk.1 hN hk'
        obtain ⟨w', r1, r2, r3, r4, r5⟩ := m_nights (n := k) hP hk.1 hQ (by omega)
        have er := Rel_0 h q2 r2
        rw [e2, Option.bind_some, if_neg (nI_pos (by omega)), if_pos (nI_le hk' (by omega)), if_neg one_ne, q1, r1, Option.bind_some, Option.bind_some, if_pos (show (6 : Int32) ≤ nI j from nI_le (a := 6) j6 (by omega))]
        have : j = 6 ∨ j = 7 ∨ j = 8 := by omega
        rcases this with rfl | rfl | rfl
        · rw [if_pos (show nI 6 = 6 from rfl), if_pos (show nI 6 = 6 from rfl), c_litBits q3.2.2.1 (hsA_WF hk.1 k).1, Option.bind_some]
          refine ⟨_, _, _, rfl, ?_, er⟩
          rw [r3.2.2.1.1, q3.1]
        · rw [if_neg (show ¬ nI 7 = 6 by decide), if_neg (show ¬ nI 7 = 6 by decide), if_pos (show nI 7 = 7 from rfl), if_pos (show nI 7 = 7 from rfl)]
          exact ⟨_, _, _, rfl, by rw [r5, q5], er⟩
        · rw [if_neg (show ¬ nI 8 = 6 by decide), if_neg (show ¬ nI 8 = 6 by decide), if_neg (show ¬ nI 8 = 7 by decide), if_neg (show ¬ nI 8 = 7 by decide), if_pos (show nI 8 = nI 8 from rfl)]
          exact ⟨_, _, _, rfl, by rw [r4, q4], er⟩
      · rw [e2, Option.bind_some, if_pos rfl]
        refine ⟨-1002, u, w, ?_, rfl, h⟩
        rcases notIn _ hk' with z | ⟨z, z2⟩
        · rw [if_pos z]
        · rw [if_neg z, if_neg z2]
    · rw [if_neg (show ¬ (6 : Int32) ≤ nI j from nI_ge (b := 6) (by omega) (by omega)), if_neg (show ¬ (6 : Int32) ≤ nI j from nI_ge (b := 6) (by omega) (by omega))]
      rcases m_isH (RP_H hP) h6 (nI j) with ⟨i, hi, eij, e1⟩ | ⟨hi, e1⟩
      · have eij : j = i := (nI_eq (by omega) (by omega)).mp eij
        subst eij
        rw [c_find a3 h6 hi, e1, Option.bind_some, Option.bind_some, if_neg one_ne]
        dsimp only
        rw [if_pos (show j < 6 by omega)]
        rcases m_inN (n := N.1) (by omega) a0 w with ⟨k, hk', rfl, e2⟩ | ⟨hk', e2⟩
        · obtain ⟨u', q1, q2, q3, q4, q5⟩ := c_nights hC hk.1 hN hk'
          obtain ⟨w', r1, r2, r3, r4, r5⟩ := m_nights (n := k) hP hk.1 hQ (by omega)
          have er := Rel_0 h q2 r2
          have hi2 : j < (hsA N.2.1 N.2.2 V k).1.2.2.1 := by rw [hsA_H]; exact hi
          have nj : ∀ b : Nat, 6 ≤ b → b < 9 → ¬ nI j = nI b := fun b h1 h2 z => by rw [nI_eq (by omega) (by omega)] at z; omega
          rw [e2, Option.bind_some, if_neg (nI_pos (by omega)), if_pos (nI_le hk' (by omega)), if_neg one_ne, q1, r1, Option.bind_some, Option.bind_some, if_neg (show ¬ nI j = 6 from nj 6 (by omega) (by omega)), if_neg (show ¬ nI j = 7 from nj 7 (by omega) (by omega)), if_neg (nj 8 (by omega) (by omega)), c_find q3.2.2.1 (hsA_WF hk.1 k).1 hi2, Option.bind_some, if_neg (show ¬ (6 : Int32) ≤ nI j from nI_ge (b := 6) (by omega) (by omega)), if_neg (nI_in (show j < 6 by omega) (by omega)), nI_clamp (show j < 2 ^ 31 by omega)]
          dsimp only
          rw [if_pos (show j < 6 by omega)]
          refine ⟨_, _, _, rfl, ?_, er⟩
          rw [(r3.2.2.1.2 j hi2).1, q3.1, cF_at (u := u') (by omega) (by omega)]
        · rw [e2, Option.bind_some, if_pos rfl]
          refine ⟨-1002, u, w, ?_, rfl, h⟩
          rcases notIn _ hk' with z | ⟨z, z2⟩
          · rw [if_pos z]
          · rw [if_neg z, if_neg z2]
      · rw [c_find0 a3 h6 hi, e1, Option.bind_some, Option.bind_some, if_pos rfl]
        exact ⟨_, _, _, rfl, rfl, h⟩
  · rw [show (8 : Int32) = nI 8 from rfl, e, Option.bind_some, if_pos rfl]
    refine ⟨-1001, u, w, ?_, rfl, h⟩
    by_cases z : a1 < 0
    · rw [if_pos z]
    · rw [if_neg z, if_pos (hj.resolve_left z)]
theorem k_gPs0 {u u' : PM} (h : eqx (gPs 0) u u') : chC [0, 1] u u' := h.mono (fun q k z => by
  cases e : gPs 0 q k with
  | false => rfl
  | true =>
    have z : List.contains [0, 1] (cC q k) = false := z
    have e2 : cC q k = 0 ∨ cC q k = 1 := by
      unfold gPs gX1 gH at e
      simp only [Bool.or_eq_true, Bool.and_eq_true, beq_iff_eq, decide_eq_true_eq] at e
      rcases e with (e | e) | e
      · exact Or.inl (cC_8 (by omega))
      · right
        unfold cC
        rw [if_neg (by omega), if_pos (by omega), if_pos (by omega)]
      · right
        unfold cC
        rw [if_neg (by omega), if_pos (by omega), if_pos (by omega)]
    rcases e2 with e2 | e2 <;> (rw [e2] at z; cases z))
theorem chM_w {A B : List Nat} {w w' : PM} (h : chM A w w') (hAB : ∀ c, B.contains c = false → A.contains c = false) : chM B w w' := eqx.mono h (fun q k z => hAB _ z)
theorem chC_w {A B : List Nat} {w w' : PM} (h : chC A w w') (hAB : ∀ c, B.contains c = false → A.contains c = false) : chC B w w' := eqx.mono h (fun q k z => hAB _ z)
theorem c01 : ∀ c, List.contains [0, 1] c = false → List.contains [0] c = false := fun c h => by
  simp only [List.contains_cons, Bool.or_eq_false_iff] at h ⊢
  exact ⟨h.1, rfl⟩
theorem O_11 {u w : PM} (h : Rel u w) (a0 a1 : Int32) : ∃ r u' w', f_X9_go a0 a1 u = some (r, u') ∧ f_X10_go a0 a1 w = some (r, w') ∧ Rel u' w' := by
  obtain ⟨n, V, N, hn, hC, hN, hk, hP, hQ⟩ := Rel_V h
  have h6 := hk.1.1
  obtain ⟨a1', a2', a3, a4, a5, a6⟩ := id hC
  obtain ⟨hh, hh9, ehh⟩ := hk.2.1
  have p64 : 2 ^ V.2.2.1 ≤ 64 := Nat.pow_le_pow_right (n := 2) (by decide) h6
  have p1 : 0 < 2 ^ V.2.2.1 := Nat.pow_pos (by decide)
  unfold f_X9_go f_X10_go
  rcases m_isW a0 w with ⟨k, hk3, rfl, e1, e1'⟩ | ⟨_, e1, e1'⟩
  · rw [e1, e1' u, Option.bind_some, Option.bind_some, if_neg one_ne, if_neg one_ne, a3, RP_H hP, b_shl _ h6, L_1, i_sub p1]
    rcases m_inN (n := 2 ^ V.2.2.1 - 1) (by omega) a1 w with ⟨x, hx, rfl, e2⟩ | ⟨hx, e2⟩
    · rw [e2, Option.bind_some, if_neg (nI_pos (by omega)), if_pos (nI_lt (show x < 2 ^ V.2.2.1 by omega) (by omega)), if_neg one_ne, a5, show w.1 (40, 0, 0) 2 = V.2.2.2.2.1 from hP.1.2.2.1, ehh]
      by_cases z : hh = 9999
      · subst z
        rw [if_neg (show ¬ nI 9999 < 9999 by decide), if_pos (show nI 9999 = 9999 from rfl)]
        exact ⟨_, _, _, rfl, rfl, h⟩
      · rw [if_pos (show nI hh < 9999 from nI_lt (b := 9999) (by omega) (by omega)), if_neg (show ¬ nI hh = 9999 from fun y => z ((nI_eq (b := 9999) (by omega) (by omega)).mp y))]
        obtain ⟨u', q1, q2, q3⟩ := c_pass hC hk.1 (nI k) (nI x)
        obtain ⟨w1, r1, r2, r3, _⟩ := m_asIs hP hk.1
        obtain ⟨w2, s1, s2, s3, _⟩ := m_hour r3 hk.1 (nI k) (nI x)
        obtain ⟨w3, t1, t2, t3⟩ := m_back_l (pi (pi (pi w2 (40, 0, 0) 3 (nI k)) (40, 0, 0) 2 (w2.1 (40, 0, 0) 33)) (40, 0, 0) 1 (w2.1 (40, 0, 0) 32))
        rw [q1, r1, Option.bind_some, Option.bind_some, s1, Option.bind_some, t1, Option.bind_some, c_litBits q3.2.2.1 h6, Option.bind_some]
        have y1 : w3.1 (40, 0, 0) 1 = nI (lit (hourA V (nI k) (nI x)).1 V.2.2.1) := by rw [t2.1 _ _ rfl]; simp [p_i]; exact s3.2.2.1.1
        have y2 : w3.1 (40, 0, 0) 2 = V.2.2.2.2.1 + 1 := by rw [t2.1 _ _ rfl]; simp [p_i]; exact s3.2.1
        have y3 : w3.1 (40, 0, 0) 3 = nI k := by rw [t2.1 _ _ rfl]; simp [p_i]
        have w12 : chM [0] w w2 := chM_tr (k_gAs r2) (k_gMh s2)
        have w23 : chM [0, 1] w2 w3 := eqx.tr (((eqx.rf.pi rfl).pi rfl).pi rfl) (t2.mono (fun q k z => by
          have z : List.contains [0, 1] (cM q k) = false := z
          cases e : (q.1 == 41 || (45 ≤ q.1 && q.1 ≤ 48)) with
          | false => rfl
          | true =>
            simp only [Bool.or_eq_true, Bool.and_eq_true, beq_iff_eq, decide_eq_true_eq] at e
            have : cM q k = 1 := by
              unfold cM
              rw [if_neg (by omega), if_pos (by omega)]
            rw [this] at z
            cases z))
        have w13 : chM [0, 1] w w3 := chM_tr (chM_w w12 c01) w23
        have hk2 : okV (hourA V (nI k) (nI x)) n := ⟨WF_hour hk.1 _ _, ⟨hh + 1, by omega, by show V.2.2.2.2.1 + 1 = _; rw [ehh, nI_1]⟩, ⟨k, hk3, rfl⟩, hk.2.2.2⟩
        have hRP : RP w3 kP (hourA V (nI k) (nI x)) := by
          refine ⟨⟨?_, y1, y2, y3⟩, fun i hi => ?_, fun a b ha hb => ?_, ?_⟩
          · show w3.1 (40, 0, 0) 0 = _
            rw [t2.1 _ _ rfl]; simp [p_i]; exact s3.1
          · have hi : i < V.2.2.1 := hi
            obtain ⟨c1, c2, c3, c4, c5, c6, c7⟩ := hP.2.1 i hi
            obtain ⟨d1, d2, d3, d4, d5⟩ := t3 i (by omega)
            obtain ⟨f1, f2, f3, f4⟩ := s3.2.2.1.2 i hi
            obtain ⟨g1, g2, g3⟩ := s3.2.2.2.1 i hi
            have b41 : (pi (pi (pi w2 (40, 0, 0) 3 (nI k)) (40, 0, 0) 2 (w2.1 (40, 0, 0) 33)) (40, 0, 0) 1 (w2.1 (40, 0, 0) 32)).1 (42, 0, 0) i = w.1 (42, 0, 0) i := by simp [p_i]; exact chM_1 w12 (c := 1) rfl (by rfl)
            refine ⟨?_, ?_, ?_, ?_, ?_, fun z => ⟨?_, ?_⟩, fun z => ?_⟩
            · show w3.1 (41, 0, 0) i = _
              rw [d1]; simp [p_i]; exact f1
            · show w3.1 (42, 0, 0) i = _
              rw [t2.1 _ _ rfl, b41]; exact c2.trans (h3_keep (by omega) _ _).symm
            · show w3.1 (43, 0, 0) i = _
              rw [t2.1 _ _ rfl]; simp [p_i]
              exact (chM_1 w12 (c := 1) rfl (by rfl)).trans (c3.trans (h3_keep (by omega) _ _).symm)
            · show w3.1 (44, 0, 0) i = _
              rw [t2.1 _ _ rfl]; simp [p_i]; exact g3
            · show w3.1 (45, 0, 0) i = _
              rw [d2]; simp [p_i]; exact f2
            · show w3.1 (46, 0, 0) i = _
              rw [d3]; simp [p_i]; exact (f3 z).1
            · show w3.1 (47, 0, 0) i = _
              rw [d4]; simp [p_i]; exact (f3 z).2
            · show w3.1 (48, 0, 0) i = _
              rw [d5]; simp [p_i]; exact f4 z
          · show w3.1 (49, 0, 0) (6 * a + b) = _
            rw [t2.1 _ _ rfl]; simp [p_i]; exact s3.2.2.2.2.1 a b ha hb
          · refine LdM_L (w := w2) (g := fun q k => q.1 == 41 || (45 ≤ q.1 && q.1 ≤ 48) || (q.1 == 40 && (k == 1 || k == 2 || k == 3))) (eqx.tr (((eqx.rf.pi rfl).pi rfl).pi rfl) (t2.mono (fun q k z => by simp only [Bool.or_eq_false_iff] at z ⊢; exact z.1))) (fun s k g1 g2 => ?_) ?_ s3.2.2.2.2.2
            · simp only [Bool.or_eq_false_iff, Bool.and_eq_false_iff, beq_eq_false_iff_ne, decide_eq_false_iff_not]; omega
            · show w3.1 (40, 0, 0) 14 = _
              rw [t2.1 _ _ rfl]; simp [p_i]
        refine ⟨_, _, _, rfl, ?_, Rel_1 h (k_gPs0 q2) w13 (fun n' hv => ?_)⟩
        · rw [y1, q3.1]; rfl
        · obtain ⟨V', N', c1, c2, c3, c4, c5⟩ := hv
          refine ⟨hourA V (nI k) (nI x), N, q3, ⟨(q2.1 _ _ rfl).trans hN.1, hN.2.1, fun i hi => ⟨(q2.1 _ _ rfl).trans (hN.2.2 i hi).1, (q2.1 _ _ rfl).trans (hN.2.2 i hi).2⟩⟩, ⟨hk2.1, hk2.2.1, hk2.2.2.1, fun y hy => ⟨?_, (hk2.2.2.2 y hy).2⟩⟩, hRP, ⟨?_, fun i hi => ⟨?_, ?_⟩⟩⟩
          · have hy : V.2.2.2.2.2 = some y := hy
            have l1 := a6
            have l2 := c1.2.2.2.2.2
            rw [hy] at l1
            cases ho : u.2.2 (0 + 1) with
            | none => rw [ho] at l1; exact l1.elim
            | some p =>
              rw [ho] at l1 l2
              cases hv2 : V'.2.2.2.2.2 with
              | none => rw [hv2] at l2; exact l2.elim
              | some y2 =>
                rw [hv2] at l2
                have := (c3.2.2.2 y2 hv2).1
                have e1 := l1.1
                have e2 := l2.1
                omega
          · rw [t2.1 _ _ rfl]; simp [p_i]; exact (chM_1 w12 (c := 1) rfl (by rfl)).trans hQ.1
          · rw [t2.1 _ _ rfl]; simp [p_i]; exact (chM_1 w12 (c := 1) rfl (by rfl)).trans (hQ.2 i hi).1
          · rw [t2.1 _ _ rfl]; simp [p_i]; exact (chM_1 w12 (c := 1) rfl (by rfl)).trans (hQ.2 i hi).2
    · rw [e2, Option.bind_some, if_pos rfl]
      refine ⟨-2, u, w, ?_, rfl, h⟩
      by_cases z : a1 < 0
      · rw [if_pos z]
      · rw [if_neg z, if_neg]
        intro y
        obtain ⟨j, hj, rfl⟩ := nI_of z
        have hx := hx.resolve_left z
        rw [nI_ltI (by omega) hj] at hx
        rw [nI_ltI hj (by omega)] at y
        omega
  · rw [e1, e1' u, Option.bind_some, Option.bind_some, if_pos rfl, if_pos rfl]
    exact ⟨_, _, _, rfl, rfl, h⟩
