/-! acts -/
theorem p_at (u : PM) (q : Key) (k : Nat) (x : Int32) : (pi u q k x).1 q k = x := by
  rw [p_i, if_pos ⟨rfl, rfl⟩]
theorem Rel_5 {u u' w w' : PM} (h : Rel u w) (hu : chC [0, 5] u u') (hw : chM [0, 5] w w') (ha : AcR u' w') : Rel u' w' := by
  obtain ⟨n, a1, a2, a3, a4, a5, a6⟩ := h
  exact ⟨n, BsR_k hu hw rfl a1, VlR0_k hu hw rfl rfl a2, ImR_k hu hw rfl rfl rfl a3, RdR_k hu hw rfl a4, TpR_k hu hw rfl a5, ha⟩
def AS (u0 w0 : PM) (K v : Int32) (i n : Nat) (u w : PM) : Prop := (∃ r, r ≤ n ∧ u.1 (29, 0, 0) 0 = nI r ∧ w.1 (40, 0, 0) 78 = nI r) ∧ (∀ j, j < 20 → u.1 (30, 0, 0) j = w.1 (89, 0, 0) j) ∧ (u.1 (29, 0, 0) 2 = K ∧ w.1 (42, 0, 0) i = K) ∧ (u.1 (29, 0, 0) 3 = v ∧ w.1 (43, 0, 0) i = v) ∧ u.1 (29, 0, 0) 4 = nI i ∧ chC [0, 5] u0 u ∧ chM [0, 5] w0 w
section AS
variable {u0 w0 u w : PM} {K v : Int32} {i n : Nat}
theorem AS.up {m : Nat} (h : AS u0 w0 K v i n u w) (hm : n ≤ m) : AS u0 w0 K v i m u w := by
  obtain ⟨⟨r, h1, h2⟩, h3⟩ := h
  exact ⟨⟨r, by omega, h2⟩, h3⟩
theorem s_note (h : AS u0 w0 K v i n u w) (hn : n < 1000) (b : Int32) : ∃ u' w', f_X0_note b u = some u' ∧ f_X10_body b w = some w' ∧ AS u0 w0 K v i (n + 1) u' w' := by
  obtain ⟨⟨r, h1, h2, h3⟩, h4, ⟨h5, h6⟩, ⟨h7, h8⟩, h9, hu, hw⟩ := h
  unfold f_X0_note f_X10_body
  rw [h2, h3, if_neg (nI_pos (by omega))]
  by_cases c : 20 ≤ r
  · have c' : (20 : Int32) ≤ nI r := nI_le (a := 20) c (by omega)
    rw [if_pos c', if_pos c', nI_1]
    have eu : eqx (fun q k => q.1 == 29 && k == 0) u (pi u (29, 0, 0) 0 (nI (r + 1))) := eqx.rf.pi rfl
    have ew : eqx (fun q k => q.1 == 40 && k == 78) w (pi w (40, 0, 0) 78 (nI (r + 1))) := eqx.rf.pi rfl
    exact ⟨_, _, rfl, rfl, ⟨r + 1, by omega, p_at _ _ _ _, p_at _ _ _ _⟩, fun j hj => ((eu.1 _ _ rfl).trans (h4 j hj)).trans (ew.1 _ _ rfl).symm, ⟨(eu.1 _ _ rfl).trans h5, (ew.1 _ _ rfl).trans h6⟩, ⟨(eu.1 _ _ rfl).trans h7, (ew.1 _ _ rfl).trans h8⟩, (eu.1 _ _ rfl).trans h9, eqx.pi hu rfl, eqx.pi hw rfl⟩
  · have c' : ¬ (20 : Int32) ≤ nI r := nI_ge (b := 20) (by omega) (by omega)
    rw [if_neg c', if_neg c', if_neg (nI_in (show r < 20 by omega) (by omega)), if_neg (nI_in (show r < 20 by omega) (by omega)), nI_clamp (show r < 2 ^ 31 by omega), nI_1]
    have eu : eqx (fun q k => q.1 == 30 || (q.1 == 29 && k == 0)) u (pi (pi u (30, 0, 0) r b) (29, 0, 0) 0 (nI (r + 1))) := (eqx.rf.pi rfl).pi rfl
    have ew : eqx (fun q k => q.1 == 89 || (q.1 == 40 && k == 78)) w (pi (pi w (89, 0, 0) r b) (40, 0, 0) 78 (nI (r + 1))) := (eqx.rf.pi rfl).pi rfl
    refine ⟨_, _, rfl, rfl, ⟨r + 1, by omega, p_at _ _ _ _, p_at _ _ _ _⟩, fun j hj => ?_, ⟨(eu.1 _ _ rfl).trans h5, (ew.1 _ _ rfl).trans h6⟩, ⟨(eu.1 _ _ rfl).trans h7, (ew.1 _ _ rfl).trans h8⟩, (eu.1 _ _ rfl).trans h9, eqx.pi (eqx.pi hu rfl) rfl, eqx.pi (eqx.pi hw rfl) rfl⟩
    simp only [p_i]
    by_cases e : j = r
    · simp [e]
    · simp [e, h4 j hj]
theorem s_pk (h : AS u0 w0 K v i n u w) (hn : n < 1000) (a : Int32) : ∃ x u' w', f_X0_plainKeeps a u = some (x, u') ∧ f_X10_plainKeeps (nI i) a w = some (x, w') ∧ AS u0 w0 K v i (n + 1) u' w' := by
  obtain ⟨u1, w1, q1, q2, q3⟩ := s_note h hn 10
  unfold f_X0_plainKeeps f_X10_plainKeeps
  rw [q1, q2, Option.bind_some, Option.bind_some, q3.2.2.2.2.1]
  exact ⟨_, _, _, rfl, rfl, q3⟩
theorem s_kb (h : AS u0 w0 K v i n u w) (hi : i < 6) (hn : n < 900) (a : Int32) : ∃ x u' w', f_X0_keepsBody a u = some (x, u') ∧ f_X10_keepsAct (nI i) a w = some (x, w') ∧ AS u0 w0 K v i (n + 2) u' w' := by
  have pk : ∀ {u w : PM} {m : Nat} (h : AS u0 w0 K v i m u w) (hm : m ≤ n + 1) (a : Int32), ∃ x u' w', f_X0_plainKeeps a u = some (x, u') ∧ f_X10_plainKeeps (nI i) a w = some (x, w') ∧ AS u0 w0 K v i (n + 2) u' w' := fun h hm a => by
    obtain ⟨x, u', w', q1, q2, q3⟩ := s_pk h (by omega) a
    exact ⟨x, u', w', q1, q2, q3.up (by omega)⟩
  unfold f_X0_keepsBody f_X10_keepsAct
  rw [if_neg (nI_in hi (by omega)), nI_clamp (show i < 2 ^ 31 by omega), h.2.2.1.1, h.2.2.1.2]
  have nt : ∀ b y : Int32, ∃ u1 w1 x u' w', f_X0_note b u = some u1 ∧ f_X10_body b w = some w1 ∧ f_X0_plainKeeps y u1 = some (x, u') ∧ f_X10_plainKeeps (nI i) y w1 = some (x, w') ∧ AS u0 w0 K v i (n + 2) u' w' := fun b y => by
    obtain ⟨u1, w1, q1, q2, q3⟩ := s_note h (by omega) b
    obtain ⟨x, u', w', r1, r2, r3⟩ := pk q3 (by omega) y
    exact ⟨u1, w1, x, u', w', q1, q2, r1, r2, r3⟩
  by_cases e2 : K = 2
  · rw [if_pos e2, if_pos e2]
    obtain ⟨u1, w1, x, u', w', q1, q2, r1, r2, r3⟩ := nt 30 (a * 3)
    rw [q1, q2, Option.bind_some, Option.bind_some, r1, r2, Option.bind_some, Option.bind_some]
    exact ⟨_, _, _, rfl, rfl, r3⟩
  rw [if_neg e2, if_neg e2]
  by_cases e3 : K = 3
  · rw [if_pos e3, if_pos e3]
    obtain ⟨x, u', w', r1, r2, r3⟩ := pk h (by omega) a
    rw [r1, r2, Option.bind_some, Option.bind_some]
    exact ⟨_, _, _, rfl, rfl, r3⟩
  rw [if_neg e3, if_neg e3]
  by_cases e4 : K = 4
  · rw [if_pos e4, if_pos e4]
    obtain ⟨u1, w1, x, u', w', q1, q2, r1, r2, r3⟩ := nt 50 a
    rw [q1, q2, Option.bind_some, Option.bind_some, r1, r2, Option.bind_some, Option.bind_some]
    exact ⟨_, _, _, rfl, rfl, r3⟩
  rw [if_neg e4, if_neg e4]
  by_cases e5 : K = 5
  · rw [if_pos e5, if_pos e5]
    obtain ⟨u1, w1, x, u', w', q1, q2, r1, r2, r3⟩ := nt 30 (a * 3)
    rw [q1, q2, Option.bind_some, Option.bind_some, r1, r2, Option.bind_some, Option.bind_some]
    exact ⟨_, _, _, rfl, rfl, r3⟩
  rw [if_neg e5, if_neg e5]
  by_cases e6 : K = 6
  · rw [if_pos e6, if_pos e6]
    obtain ⟨u1, w1, x, u', w', q1, q2, r1, r2, r3⟩ := nt 71 a
    rw [q1, q2, Option.bind_some, Option.bind_some, r1, r2, Option.bind_some, Option.bind_some]
    dsimp only
    rw [r3.2.2.2.1.1, r3.2.2.2.1.2]
    exact ⟨_, _, _, rfl, rfl, r3⟩
  rw [if_neg e6, if_neg e6]
  obtain ⟨x, u', w', r1, r2, r3⟩ := pk h (by omega) a
  rw [r1, r2, Option.bind_some, Option.bind_some]
  exact ⟨_, _, _, rfl, rfl, r3⟩
theorem s_ps (h : AS u0 w0 K v i n u w) (hi : i < 6) (hn : n < 800) (a : Int32) : ∃ x u' w', f_X0_plainSends a u = some (x, u') ∧ f_X10_plainSends (nI i) a w = some (x, w') ∧ AS u0 w0 K v i (n + 3) u' w' := by
  obtain ⟨u1, w1, q1, q2, q3⟩ := s_note h (by omega) 11
  obtain ⟨x, u', w', r1, r2, r3⟩ := s_kb q3 hi (by omega) a
  unfold f_X0_plainSends f_X10_plainSends
  rw [q1, q2, Option.bind_some, Option.bind_some, r1, r2, Option.bind_some, Option.bind_some]
  dsimp only
  rw [if_neg (nI_in hi (by omega)), nI_clamp (show i < 2 ^ 31 by omega), r3.2.2.2.1.1, r3.2.2.2.1.2]
  exact ⟨_, _, _, rfl, rfl, r3⟩
theorem s_sb (h : AS u0 w0 K v i n u w) (hi : i < 6) (hn : n < 700) (a : Int32) : ∃ x u' w', f_X0_sendsBody a u = some (x, u') ∧ f_X10_sendsAct (nI i) a w = some (x, w') ∧ AS u0 w0 K v i (n + 6) u' w' := by
  unfold f_X0_sendsBody f_X10_sendsAct f_X10_eachSends
  rw [if_neg (nI_in hi (by omega)), nI_clamp (show i < 2 ^ 31 by omega), h.2.2.1.1, h.2.2.1.2]
  by_cases e1 : K = 1
  · rw [if_pos e1, if_pos e1]
    obtain ⟨u1, w1, q1, q2, q3⟩ := s_note h (by omega) 20
    obtain ⟨x, u', w', r1, r2, r3⟩ := s_ps q3 hi (by omega) a
    rw [q1, q2, Option.bind_some, Option.bind_some, r1, r2, Option.bind_some, Option.bind_some]
    exact ⟨_, _, _, rfl, rfl, r3.up (by omega)⟩
  rw [if_neg e1, if_neg e1]
  by_cases e4 : K = 4
  · rw [if_pos e4, if_pos e4]
    obtain ⟨u1, w1, q1, q2, q3⟩ := s_note h (by omega) 51
    obtain ⟨u2, w2, p1, p2, p3⟩ := s_note q3 (by omega) 20
    obtain ⟨x, u', w', r1, r2, r3⟩ := s_ps p3 hi (by omega) (a + 1)
    rw [q1, q2, Option.bind_some, Option.bind_some, p1, p2, Option.bind_some, Option.bind_some, r1, r2, Option.bind_some, Option.bind_some]
    exact ⟨_, _, _, rfl, rfl, r3.up (by omega)⟩
  rw [if_neg e4, if_neg e4]
  by_cases e6 : K = 6
  · rw [if_pos e6, if_pos e6]
    obtain ⟨u1, w1, q1, q2, q3⟩ := s_note h (by omega) 70
    obtain ⟨x, u2, w2, p1, p2, p3⟩ := s_ps q3 hi (by omega) a
    obtain ⟨y, u', w', r1, r2, r3⟩ := s_pk p3 (by omega) 2
    rw [q1, q2, Option.bind_some, Option.bind_some, p1, p2, Option.bind_some, Option.bind_some]
    dsimp only
    rw [r1, r2, Option.bind_some, Option.bind_some]
    exact ⟨_, _, _, rfl, rfl, r3.up (by omega)⟩
  rw [if_neg e6, if_neg e6]
  obtain ⟨x, u', w', r1, r2, r3⟩ := s_ps h hi (by omega) a
  rw [r1, r2, Option.bind_some, Option.bind_some]
  exact ⟨_, _, _, rfl, rfl, r3.up (by omega)⟩
theorem s_tb (h : AS u0 w0 K v i n u w) (hi : i < 6) (hn : n < 600) (a : Int32) : ∃ x u' w', f_X0_tellsBody a u = some (x, u') ∧ f_X10_tellsAct (nI i) a w = some (x, w') ∧ AS u0 w0 K v i (n + 14) u' w' := by
  unfold f_X0_tellsBody f_X10_tellsAct f_X10_plainTells
  rw [if_neg (nI_in hi (by omega)), nI_clamp (show i < 2 ^ 31 by omega), h.2.2.1.1, h.2.2.1.2]
  have two : ∀ c : Int32, K ≠ 5 → ∃ u1 w1 u2 w2 x u3 w3 y u' w', f_X0_note c u = some u1 ∧ f_X10_body c w = some w1 ∧ f_X0_note 12 u1 = some u2 ∧ f_X10_body 12 w1 = some w2 ∧ ¬ u2.1 (29, 0, 0) 2 = 5 ∧ f_X0_sendsBody a u2 = some (x, u3) ∧ f_X10_sendsAct (nI i) a w2 = some (x, w3) ∧ f_X0_sendsBody 1 u3 = some (y, u') ∧ f_X10_sendsAct (nI i) 1 w3 = some (y, w') ∧ AS u0 w0 K v i (n + 14) u' w' := fun c hK => by
    obtain ⟨u1, w1, q1, q2, q3⟩ := s_note h (by omega) c
    obtain ⟨u2, w2, p1, p2, p3⟩ := s_note q3 (by omega) 12
    obtain ⟨x, u3, w3, r1, r2, r3⟩ := s_sb p3 hi (by omega) a
    obtain ⟨y, u', w', t1, t2, t3⟩ := s_sb r3 hi (by omega) 1
    exact ⟨u1, w1, u2, w2, x, u3, w3, y, u', w', q1, q2, p1, p2, by rw [p3.2.2.1.1]; exact hK, r1, r2, t1, t2, t3.up (by omega)⟩
  have one : K ≠ 5 → ∃ u2 w2 x u' w', f_X0_note 12 u = some u2 ∧ f_X10_body 12 w = some w2 ∧ ¬ u2.1 (29, 0, 0) 2 = 5 ∧ f_X0_sendsBody a u2 = some (x, u') ∧ f_X10_sendsAct (nI i) a w2 = some (x, w') ∧ AS u0 w0 K v i (n + 14) u' w' := fun hK => by
    obtain ⟨u2, w2, p1, p2, p3⟩ := s_note h (by omega) 12
    obtain ⟨x, u3, w3, r1, r2, r3⟩ := s_sb p3 hi (by omega) a
    exact ⟨u2, w2, x, u3, w3, p1, p2, by rw [p3.2.2.1.1]; exact hK, r1, r2, r3.up (by omega)⟩
  by_cases e3 : K = 3
  · rw [if_pos e3, if_pos e3]
    obtain ⟨u1, w1, u2, w2, x, u3, w3, y, u', w', q1, q2, p1, p2, p5, r1, r2, t1, t2, t3⟩ := two 40 (by rw [e3]; decide)
    rw [q1, q2, Option.bind_some, Option.bind_some, p1, p2, Option.bind_some, Option.bind_some, if_neg p5, r1, r2, Option.bind_some, Option.bind_some]
    dsimp only
    rw [t1, Option.bind_some, Option.bind_some]
    dsimp only
    rw [t2, Option.bind_some]
    exact ⟨_, _, _, rfl, rfl, t3⟩
  rw [if_neg e3, if_neg e3]
  by_cases e6 : K = 6
  · rw [if_pos e6, if_neg (show ¬ K = 4 by rw [e6]; decide), if_neg (show ¬ K = 5 by rw [e6]; decide), if_pos e6]
    obtain ⟨u1, w1, u2, w2, x, u3, w3, y, u', w', q1, q2, p1, p2, p5, r1, r2, t1, t2, t3⟩ := two 40 (by rw [e6]; decide)
    rw [q1, q2, Option.bind_some, Option.bind_some, p1, p2, Option.bind_some, Option.bind_some, if_neg p5, r1, r2, Option.bind_some, Option.bind_some]
    dsimp only
    rw [t1, Option.bind_some, Option.bind_some]
    dsimp only
    rw [t2, Option.bind_some]
    exact ⟨_, _, _, rfl, rfl, t3⟩
  rw [if_neg e6]
  by_cases e5 : K = 5
  · rw [if_pos e5, if_neg (show ¬ K = 4 by rw [e5]; decide), if_pos e5]
    obtain ⟨u1, w1, q1, q2, q3⟩ := s_note h (by omega) 60
    obtain ⟨u2, w2, p1, p2, p3⟩ := s_note q3 (by omega) 12
    obtain ⟨x, u3, w3, r1, r2, r3⟩ := s_sb p3 hi (by omega) (a - nI i)
    rw [q1, q2, Option.bind_some, Option.bind_some, p1, p2, Option.bind_some, Option.bind_some, if_pos (show u2.1 (29, 0, 0) 2 = 5 by rw [p3.2.2.1.1]; exact e5), p3.2.2.2.2.1, r1, r2, Option.bind_some, Option.bind_some]
    exact ⟨_, _, _, rfl, rfl, r3.up (by omega)⟩
  rw [if_neg e5, if_neg e5]
  obtain ⟨u2, w2, x, u', w', p1, p2, p5, r1, r2, r3⟩ := one e5
  rw [p1, p2, Option.bind_some, Option.bind_some, if_neg p5, r1, r2, Option.bind_some, Option.bind_some]
  dsimp only
  refine ⟨x * 2, u', w', rfl, ?_, r3⟩
  rw [if_neg e6]
  split <;> rfl
end AS
theorem O_26 {u w : PM} (h : Rel u w) (a0 a1 a2 : Int32) : ∃ r u' w', f_X9_act a0 a1 a2 u = some (r, u') ∧ f_X10_act a0 a1 a2 w = some (r, w') ∧ Rel u' w' := by
  obtain ⟨n, V, N, hn, hC, hN, hk, hP, hQ⟩ := Rel_V h
  have h6 := hk.1.1
  obtain ⟨a1', a2', a3, a4, a5, a6⟩ := id hC
  have hA : ∀ i, i < 20 → u.1 (30, 0, 0) i = w.1 (89, 0, 0) i := by
    obtain ⟨_, _, _, _, _, _, r, _, _, _, e3⟩ := h
    exact e3
  have hH : (pi w (40, 0, 0) 78 (0 : Int32)).1 (40, 0, 0) 0 = nI V.2.2.1 := by
    rw [p_i, if_neg (by simp)]
    exact RP_H hP
  unfold f_X9_act f_X10_act f_X0_begin
  rcases m_isH hH h6 a0 with ⟨i, hi, rfl, e⟩ | ⟨hi, e⟩
  · rw [c_find a3 h6 hi, Option.bind_some, e, Option.bind_some]
    dsimp only
    rw [if_pos (show i < 6 by omega), if_pos (show i < 6 by omega), Option.bind_some, Option.bind_some, if_neg one_ne, m_in]
    have hu1 : (pi (pi (pi (pi u (29, 0, 0) 0 (0 : Int32)) (29, 0, 0) 2 (u.1 (3, 0, i) 2)) (29, 0, 0) 3 (u.1 (3, 0, i) 3)) (29, 0, 0) 4 (nI i)).1 (1, 0, 0) 0 = nI V.2.2.1 := by
      simp [p_i]; exact a3
    have c2 : u.1 (3, 0, i) 2 = V.1 i 2 := by rw [a1']; exact cF_at (by omega) (by omega)
    have c3 : u.1 (3, 0, i) 3 = V.1 i 3 := by rw [a1']; exact cF_at (by omega) (by omega)
    have st : AS u w (V.1 i 2) (V.1 i 3) i 0 (pi (pi (pi (pi u (29, 0, 0) 0 (0 : Int32)) (29, 0, 0) 2 (u.1 (3, 0, i) 2)) (29, 0, 0) 3 (u.1 (3, 0, i) 3)) (29, 0, 0) 4 (nI i)) (pi w (40, 0, 0) 78 (0 : Int32)) := by
      refine ⟨⟨0, by omega, ?_, ?_⟩, fun j hj => ?_, ⟨?_, ?_⟩, ⟨?_, ?_⟩, ?_, eqx.pi (eqx.pi (eqx.pi (eqx.pi eqx.rf rfl) rfl) rfl) rfl, eqx.pi eqx.rf rfl⟩
      · simp [p_i]; rfl
      · simp [p_i]; rfl
      · simp [p_i]; exact hA j hj
      · simp [p_i]; exact c2
      · simp [p_i]; exact (hP.2.1 i hi).2.1
      · simp [p_i]; exact c3
      · simp [p_i]; exact (hP.2.1 i hi).2.2.1
      · simp [p_i]
    have fin : ∀ {u' w' : PM} {m : Nat}, m ≤ 100 → AS u w (V.1 i 2) (V.1 i 3) i m u' w' → Rel u' w' := fun hm y => by
      obtain ⟨⟨r, h1, h2, h3⟩, h4, _, _, _, hu, hw⟩ := y
      exact Rel_5 h hu hw ⟨r, by omega, h2, h3, h4⟩
    rw [c_find hu1 h6 hi, Option.bind_some]
    dsimp only
    rw [if_pos (show i < 6 by omega)]
    by_cases e0 : a1 = 0
    · subst e0
      obtain ⟨x, u', w', r1, r2, r3⟩ := s_kb st (by omega) (by omega) a2
      rw [if_pos rfl, if_neg (show ¬ ((0 : Int32) < 0 ∨ 2 < (0 : Int32)) by decide), Option.bind_some, if_neg one_ne, if_pos rfl, r1, r2]
      exact ⟨_, _, _, rfl, rfl, fin (by omega) r3⟩
    rw [if_neg e0]
    by_cases e1 : a1 = 1
    · subst e1
      obtain ⟨x, u', w', r1, r2, r3⟩ := s_sb st (by omega) (by omega) a2
      rw [if_pos rfl, if_neg (show ¬ ((1 : Int32) < 0 ∨ 2 < (1 : Int32)) by decide), Option.bind_some, if_neg one_ne, if_neg e0, if_pos rfl, r1, r2]
      exact ⟨_, _, _, rfl, rfl, fin (by omega) r3⟩
    rw [if_neg e1]
    by_cases e2 : a1 = 2
    · subst e2
      obtain ⟨x, u', w', r1, r2, r3⟩ := s_tb st (by omega) (by omega) a2
      rw [if_pos rfl, if_neg (show ¬ ((2 : Int32) < 0 ∨ 2 < (2 : Int32)) by decide), Option.bind_some, if_neg one_ne, if_neg e0, if_neg e1, r1, r2]
      exact ⟨_, _, _, rfl, rfl, fin (by omega) r3⟩
    rw [if_neg e2]
    have bad : a1 < 0 ∨ 2 < a1 := by
      rcases pk_ix a1 (n := 3) (by omega) with y | y | ⟨k, hk', rfl⟩
      · exact Or.inl y
      · exact Or.inr (Int32.lt_of_lt_of_le (show (2 : Int32) < nI 3 by decide) y)
      · exfalso
        have : k = 0 ∨ k = 1 ∨ k = 2 := by omega
        rcases this with rfl | rfl | rfl
        · exact e0 rfl
        · exact e1 rfl
        · exact e2 rfl
    rw [if_pos bad, Option.bind_some, if_pos rfl]
    exact ⟨_, _, _, rfl, rfl, fin (by omega) st⟩
  · have hu1 : (pi u (29, 0, 0) 0 (0 : Int32)).1 (1, 0, 0) 0 = nI V.2.2.1 := by
      simp [p_i]; exact a3
    rw [c_find0 a3 h6 hi, Option.bind_some, e, Option.bind_some]
    dsimp only
    rw [Option.bind_some, c_find0 hu1 h6 hi, Option.bind_some, if_pos rfl]
    refine ⟨_, _, _, rfl, rfl, Rel_5 h (eqx.pi eqx.rf rfl) (eqx.pi eqx.rf rfl) ⟨0, by omega, ?_, ?_, fun j hj => ?_⟩⟩
    · simp [p_i]; rfl
    · simp [p_i]; rfl
    · simp [p_i]; exact hA j hj
