/-! the descent and the loop, together -/
section IT
variable {u0 u w0 w : PM} {p g0 L i c : Nat} {T : Nat → Nat} {ts : List Tok} {st S : List Nat}
theorem g56 {p g0 c : Nat} : gM p g0 c (56, 0, 0) c = true := by
  simp [gM]
theorem ME_56 {x : Int32} (hm : ME w0 w p g0 c L i ts st) (h1 : 10 * p ≤ c) (h2 : c < 10 * p + 10) : ME w0 (pi w (56, 0, 0) c x) p g0 c L i ts st := by
  obtain ⟨c1, c2, c3, c4, c5, c6, c7, c8, c9, c10⟩ := hm
  refine ⟨c1.pi g56, ?_, c3, ?_, tkM_fr (fun k _ => ?_) c5, ?_, ?_, stR_kept c8 (fun k _ => ?_), c9, c10⟩
  · simp [p_i]; exact c2
  · simp [p_i]; exact c4
  · rw [p_i, if_neg (fun z => by have z2 : 57 = 56 := congrArg Prod.fst z.2; omega)]
  · simp [p_i]; exact c6
  · simp [p_i]; exact c7
  · rw [p_i, if_neg (fun z => by have z2 : 58 = 56 := congrArg Prod.fst z.2; omega)]
/-- a sign goes onto the pile, the place goes on -/
theorem ME_push {b : Nat} {x29 : Int32} (hm : ME w0 w p g0 c L i ts st) (hi : i < L) (hb : b < 128) (h29 : x29 = nI (opn (b :: st))) : ME w0 (pi (pi (pi (pi w (40, 0, 0) 29 x29) (58, 0, 0) st.length (nI b)) (40, 0, 0) 28 (nI (st.length + 1))) (40, 0, 0) 16 (nI (i + 1))) p g0 c L (i + 1) ts (b :: st) := by
  obtain ⟨c1, c2, c3, c4, c5, c6, c7, c8, c9, c10⟩ := hm
  have n1 : ¬ ((57, 0, 0) : Key) = (40, 0, 0) := fun z => by have z2 : 57 = 40 := congrArg Prod.fst z; omega
  have n2 : ¬ ((58, 0, 0) : Key) = (40, 0, 0) := fun z => by have z2 : 58 = 40 := congrArg Prod.fst z; omega
  have n3 : ¬ ((57, 0, 0) : Key) = (58, 0, 0) := fun z => by have z2 : 57 = 58 := congrArg Prod.fst z; omega
  refine ⟨(((c1.pi rfl).pi rfl).pi rfl).pi rfl, p_at _ _ _ _, hi, ?_, tkM_fr (fun k _ => ?_) c5, ?_, ?_, stR_push c8 hb ?_ (fun k hk => ?_), by rw [List.length_cons]; omega, c10⟩
  · simp [p_i]; exact c4
  · rw [p_i, if_neg (fun z => n1 z.2), p_i, if_neg (fun z => n1 z.2), p_i, if_neg (fun z => n3 z.2), p_i, if_neg (fun z => n1 z.2)]
  · simp [p_i]
  · simp [p_i]; exact h29
  · rw [p_i, if_neg (fun z => n2 z.2), p_i, if_neg (fun z => n2 z.2)]
    exact p_at _ _ _ _
  · rw [p_i, if_neg (fun z => n2 z.2), p_i, if_neg (fun z => n2 z.2), p_i, if_neg (by omega), p_i, if_neg (fun z => n2 z.2)]
theorem ME_push0 {b : Nat} (hm : ME w0 w p g0 c L i ts st) (hi : i < L) (hb : b < 128) (h29 : opn (b :: st) = opn st) : ME w0 (pi (pi (pi w (58, 0, 0) st.length (nI b)) (40, 0, 0) 28 (nI (st.length + 1))) (40, 0, 0) 16 (nI (i + 1))) p g0 c L (i + 1) ts (b :: st) := by
  obtain ⟨c1, c2, c3, c4, c5, c6, c7, c8, c9, c10⟩ := hm
  have n1 : ¬ ((57, 0, 0) : Key) = (40, 0, 0) := fun z => by have z2 : 57 = 40 := congrArg Prod.fst z; omega
  have n2 : ¬ ((58, 0, 0) : Key) = (40, 0, 0) := fun z => by have z2 : 58 = 40 := congrArg Prod.fst z; omega
  have n3 : ¬ ((57, 0, 0) : Key) = (58, 0, 0) := fun z => by have z2 : 57 = 58 := congrArg Prod.fst z; omega
  refine ⟨((c1.pi rfl).pi rfl).pi rfl, p_at _ _ _ _, hi, ?_, tkM_fr (fun k _ => ?_) c5, ?_, ?_, stR_push c8 hb ?_ (fun k hk => ?_), by rw [List.length_cons]; omega, c10⟩
  · simp [p_i]; exact c4
  · rw [p_i, if_neg (fun z => n1 z.2), p_i, if_neg (fun z => n1 z.2), p_i, if_neg (fun z => n3 z.2)]
  · simp [p_i]
  · simp [p_i]; rw [h29]; exact c7
  · rw [p_i, if_neg (fun z => n2 z.2), p_i, if_neg (fun z => n2 z.2)]
    exact p_at _ _ _ _
  · rw [p_i, if_neg (fun z => n2 z.2), p_i, if_neg (fun z => n2 z.2), p_i, if_neg (by omega)]
theorem it_bang {b : Nat} (hx : Ctx u0 w0 p L T) (hm : ME w0 w p g0 c L i ts st) (hb : b = 33 ∨ b = 40) (hp : pk T L i = b) (ho : opn st < 4) : ∃ w', f_X10_takesE_L22 (nI c) ((1 : Int32), w) = some (.inl ((1 : Int32), w')) ∧ ME w0 w' p g0 c L (i + 1) ts (b :: st) := by
  have hLL := hx.1
  have hi := pk_i hp (by omega)
  have c6 := hm.2.2.2.2.2.1
  have c7 := hm.2.2.2.2.2.2.1
  have c9 := hm.2.2.2.2.2.2.2.2.1
  have e1 : mS (pk T L i) = nI b := (mS_eq (pkT_lt hx i) (by omega)).mpr hp
  have eo : opn (b :: st) = opn st + 1 := by
    show (if b = 33 ∨ b = 40 then 1 else 0) + opn st = _
    rw [if_pos hb, Nat.add_comm]
  have o4 : ¬ nI (opn st) = (4 : Int32) := fun z => by
    have := (nI_eq (b := 4) (by omega) (by omega)).mp z
    omega
  unfold f_X10_takesE_L22
  dsimp only
  rw [m_nx hx hm, Option.bind_some, if_neg one_ne, e1, c6, c7, hm.2.1, if_neg o4, if_neg (nI_in (show st.length < 101 by omega) (by omega)), nI_clamp (show st.length < 2 ^ 31 by omega), nI_1, nI_1, nI_1]
  have fin := ME_push (x29 := nI (opn st + 1)) hm hi (show b < 128 by omega) (by rw [eo])
  rcases hb with rfl | rfl
  · rw [if_pos (show nI 33 = (33 : Int32) from rfl)]
    exact ⟨_, rfl, fin⟩
  · rw [if_neg (show ¬ nI 40 = (33 : Int32) by decide), if_pos (show nI 40 = (40 : Int32) from rfl)]
    exact ⟨_, rfl, fin⟩
theorem it_full (hx : Ctx u0 w0 p L T) (hm : ME w0 w p g0 c L i ts st) (hp : pk T L i = 33 ∨ pk T L i = 40) (ho : opn st = 4) : f_X10_takesE_L22 (nI c) ((1 : Int32), w) = some (.inr ((0 : Int32), w)) := by
  have c7 := hm.2.2.2.2.2.2.1
  unfold f_X10_takesE_L22
  dsimp only
  rw [m_nx hx hm, Option.bind_some, if_neg one_ne, c7, ho]
  rcases hp with h | h
  · rw [if_pos (show mS (pk T L i) = (33 : Int32) from (mS_eq (c := 33) (pkT_lt hx i) (by omega)).mpr h), if_pos (show nI 4 = (4 : Int32) from rfl)]
  · rw [if_neg (show ¬ mS (pk T L i) = (33 : Int32) from fun z => by have := (mS_eq (c := 33) (pkT_lt hx i) (by omega)).mp z; omega), if_pos (show mS (pk T L i) = (40 : Int32) from (mS_eq (c := 40) (pkT_lt hx i) (by omega)).mpr h), if_pos (show nI 4 = (4 : Int32) from rfl)]
theorem it_test {k : Nat} (hx : Ctx u0 w0 p L T) (hm : ME w0 w p g0 c L i ts (List.replicate k 33 ++ S)) (hS : S.head? ≠ some 33) (h33 : pk T L i ≠ 33) (h40 : pk T L i ≠ 40) : ∃ w', (f_X10_takesE_L22 (nI c) ((1 : Int32), w) = some (.inr ((0 : Int32), w')) ∧ ∃ j, ttT T L i = .inl j ∧ w'.1 (40, 0, 0) 16 = nI j ∧ eqx (gM p g0 c) w0 w') ∨ (f_X10_takesE_L22 (nI c) ((1 : Int32), w) = some (.inl ((0 : Int32), w')) ∧ ∃ t j, ttT T L i = .inr (t, j) ∧ ME w0 w' p g0 c L j (ts ++ [t] ++ List.replicate k tNOT) S) := by
  obtain ⟨r, w', a1, a2⟩ := m_test hx hm hS
  unfold f_X10_takesE_L22
  dsimp only
  rw [m_nx hx hm, Option.bind_some, if_neg one_ne, if_neg (show ¬ mS (pk T L i) = (33 : Int32) from fun z => h33 ((mS_eq (c := 33) (pkT_lt hx i) (by omega)).mp z)), if_neg (show ¬ mS (pk T L i) = (40 : Int32) from fun z => h40 ((mS_eq (c := 40) (pkT_lt hx i) (by omega)).mp z)), a1, Option.bind_some]
  dsimp only
  refine ⟨w', ?_⟩
  rcases a2 with ⟨rfl, a3⟩ | ⟨rfl, a3⟩
  · rw [if_pos rfl]
    exact Or.inl ⟨rfl, a3⟩
  · rw [if_neg one_ne]
    exact Or.inr ⟨rfl, a3⟩
theorem it_amp {jb : Bool} {R : List Nat} (hx : Ctx u0 w0 p L T) (hm : ME w0 w p g0 c L i ts (wA jb ++ R)) (hR : R.head? ≠ some 38) (hp : pk T L i = 38) : ∃ w', f_X10_takesE_L22 (nI c) ((0 : Int32), w) = some (.inl ((1 : Int32), w')) ∧ ME w0 w' p g0 c L (i + 1) (ts ++ pA jb) (38 :: R) := by
  have hLL := hx.1
  have hi := pk_i hp (by omega)
  have e1 : mS (pk T L i) = (38 : Int32) := (mS_eq (c := 38) (pkT_lt hx i) (by omega)).mpr hp
  obtain ⟨w1, a1, a2⟩ := m_set38 hm hx.2.1 hLL hR
  have c6 := a2.2.2.2.2.2.1
  have c9 := a2.2.2.2.2.2.2.2.2.1
  unfold f_X10_takesE_L22
  dsimp only
  rw [m_nx hx hm, Option.bind_some, if_pos rfl, e1, if_pos rfl, a1, Option.bind_some, c6, a2.2.1, if_neg (nI_in (show R.length < 101 by omega) (by omega)), nI_clamp (show R.length < 2 ^ 31 by omega), nI_1, nI_1]
  exact ⟨_, rfl, ME_push0 (b := 38) a2 hi (by decide) (Nat.zero_add _)⟩
theorem it_bar {jb kb : Bool} (hx : Ctx u0 w0 p L T) (hm : ME w0 w p g0 c L i ts (wA jb ++ (wB kb ++ S))) (hS : S.head? ≠ some 38 ∧ S.head? ≠ some 124) (hp : pk T L i = 124) : ∃ w', f_X10_takesE_L22 (nI c) ((0 : Int32), w) = some (.inl ((1 : Int32), w')) ∧ ME w0 w' p g0 c L (i + 1) (ts ++ (pA jb ++ pB kb)) (124 :: S) := by
  have hLL := hx.1
  have hi := pk_i hp (by omega)
  have e1 : mS (pk T L i) = (124 : Int32) := (mS_eq (c := 124) (pkT_lt hx i) (by omega)).mpr hp
  obtain ⟨w1, a1, a2⟩ := m_set124 hm hx.2.1 hLL hS
  have c6 := a2.2.2.2.2.2.1
  have c9 := a2.2.2.2.2.2.2.2.2.1
  unfold f_X10_takesE_L22
  dsimp only
  rw [m_nx hx hm, Option.bind_some, if_pos rfl, e1, if_neg (by decide), if_pos rfl, a1, Option.bind_some, c6, a2.2.1, if_neg (nI_in (show S.length < 101 by omega) (by omega)), nI_clamp (show S.length < 2 ^ 31 by omega), nI_1, nI_1]
  exact ⟨_, rfl, ME_push0 (b := 124) a2 hi (by decide) (Nat.zero_add _)⟩
theorem it_end {jb kb : Bool} (hx : Ctx u0 w0 p L T) (hc1 : 10 * p ≤ c) (hc2 : c < 10 * p + 10) (hm : ME w0 w p g0 c L i ts (wA jb ++ (wB kb ++ S))) (hS : S.head? ≠ some 38 ∧ S.head? ≠ some 124) (h38 : pk T L i ≠ 38) (h124 : pk T L i ≠ 124) : ∃ w1, ME w0 w1 p g0 c L i (ts ++ (pA jb ++ pB kb)) S ∧ w1.1 (56, 0, 0) c = nI (100 * p + (ts ++ (pA jb ++ pB kb)).length) ∧ f_X10_takesE_L22 (nI c) ((0 : Int32), w) = (if w1.1 (40, 0, 0) 28 = 0 then some (.inr ((1 : Int32), w1)) else if mS (pk T L i) = (41 : Int32) then (f_X10_whole (pi (pi (pi w1 (40, 0, 0) 28 ((w1.1 (40, 0, 0) 28) - (1 : Int32))) (40, 0, 0) 29 ((w1.1 (40, 0, 0) 29) - (1 : Int32))) (40, 0, 0) 16 ((w1.1 (40, 0, 0) 16) + (1 : Int32)))).bind fun r10 => some (.inl ((0 : Int32), r10)) else some (.inr ((0 : Int32), w1))) := by
  have hLL := hx.1
  have hp5 := hx.2.1
  obtain ⟨w1, a1, a2⟩ := m_set124 hm hx.2.1 hLL hS
  have n1 : ¬ ((40, 0, 0) : Key) = (56, 0, 0) := fun z => by have z2 : 40 = 56 := congrArg Prod.fst z; omega
  refine ⟨pi w1 (56, 0, 0) c (w1.1 (40, 0, 0) 27), ME_56 a2 hc1 hc2, (p_at _ _ _ _).trans a2.2.2.2.1, ?_⟩
  unfold f_X10_takesE_L22
  dsimp only
  rw [m_nx hx hm, Option.bind_some, if_pos rfl, if_neg (show ¬ mS (pk T L i) = (38 : Int32) from fun z => h38 ((mS_eq (c := 38) (pkT_lt hx i) (by omega)).mp z)), if_neg (show ¬ mS (pk T L i) = (124 : Int32) from fun z => h124 ((mS_eq (c := 124) (pkT_lt hx i) (by omega)).mp z)), a1, Option.bind_some, if_neg (nI_in (show c < 50 by omega) (by omega)), nI_clamp (show c < 2 ^ 31 by omega)]
  have q : ∀ k, (pi w1 (56, 0, 0) c (w1.1 (40, 0, 0) 27)).1 (40, 0, 0) k = w1.1 (40, 0, 0) k := fun k => by rw [p_i, if_neg (fun z => n1 z.2)]
  rw [q 28, q 29, q 16]
theorem it_top {jb kb : Bool} (hx : Ctx u0 w0 p L T) (hc1 : 10 * p ≤ c) (hc2 : c < 10 * p + 10) (hm : ME w0 w p g0 c L i ts (wA jb ++ (wB kb ++ []))) (h38 : pk T L i ≠ 38) (h124 : pk T L i ≠ 124) : ∃ w', f_X10_takesE_L22 (nI c) ((0 : Int32), w) = some (.inr ((1 : Int32), w')) ∧ ME w0 w' p g0 c L i (ts ++ (pA jb ++ pB kb)) [] ∧ w'.1 (56, 0, 0) c = nI (100 * p + (ts ++ (pA jb ++ pB kb)).length) := by
  obtain ⟨w1, a1, a2, a3⟩ := it_end hx hc1 hc2 hm ⟨by simp, by simp⟩ h38 h124
  refine ⟨w1, ?_, a1, a2⟩
  rw [a3, if_pos (show w1.1 (40, 0, 0) 28 = 0 from a1.2.2.2.2.2.1)]
theorem it_close {jb kb : Bool} {k : Nat} (hx : Ctx u0 w0 p L T) (hc1 : 10 * p ≤ c) (hc2 : c < 10 * p + 10) (hm : ME w0 w p g0 c L i ts (wA jb ++ (wB kb ++ (40 :: (List.replicate k 33 ++ S))))) (hS : S.head? ≠ some 33) (h38 : pk T L i ≠ 38) (h124 : pk T L i ≠ 124) : ∃ w', (pk T L i = 41 ∧ f_X10_takesE_L22 (nI c) ((0 : Int32), w) = some (.inl ((0 : Int32), w')) ∧ ME w0 w' p g0 c L (i + 1) (ts ++ (pA jb ++ pB kb) ++ List.replicate k tNOT) S) ∨ (pk T L i ≠ 41 ∧ f_X10_takesE_L22 (nI c) ((0 : Int32), w) = some (.inr ((0 : Int32), w')) ∧ w'.1 (40, 0, 0) 16 = nI i ∧ eqx (gM p g0 c) w0 w') := by
  have hLL := hx.1
  obtain ⟨w1, a1, a2, a3⟩ := it_end hx hc1 hc2 hm ⟨by simp, by simp⟩ h38 h124
  obtain ⟨c1, c2, c3, c4, c5, c6, c7, c8, c9, c10⟩ := id a1
  rw [List.length_cons] at c6 c9
  have q28 : ¬ w1.1 (40, 0, 0) 28 = 0 := by
    rw [c6]
    exact nI_ne0 (by omega) (by omega)
  rw [a3, if_neg q28]
  by_cases h41 : pk T L i = 41
  · have hi := pk_i h41 (by omega)
    rw [if_pos (show mS (pk T L i) = (41 : Int32) from (mS_eq (c := 41) (pkT_lt hx i) (by omega)).mpr h41), c6, c7, c2, nI_pred, nI_1]
    have eo : nI (opn (40 :: (List.replicate k 33 ++ S))) - (1 : Int32) = nI (opn (List.replicate k 33 ++ S)) := by
      show nI ((if 40 = 33 ∨ 40 = 40 then 1 else 0) + opn (List.replicate k 33 ++ S)) - (1 : Int32) = _
      rw [if_pos (Or.inr rfl), Nat.add_comm, nI_pred]
    rw [eo]
    have n1 : ¬ ((57, 0, 0) : Key) = (40, 0, 0) := fun z => by have z2 : 57 = 40 := congrArg Prod.fst z; omega
    have n2 : ¬ ((58, 0, 0) : Key) = (40, 0, 0) := fun z => by have z2 : 58 = 40 := congrArg Prod.fst z; omega
    have hm2 : ME w0 (pi (pi (pi w1 (40, 0, 0) 28 (nI (List.replicate k 33 ++ S).length)) (40, 0, 0) 29 (nI (opn (List.replicate k 33 ++ S)))) (40, 0, 0) 16 (nI (i + 1))) p g0 c L (i + 1) (ts ++ (pA jb ++ pB kb)) (List.replicate k 33 ++ S) := by
      refine ⟨((c1.pi rfl).pi rfl).pi rfl, p_at _ _ _ _, hi, ?_, tkM_fr (fun k _ => ?_) c5, ?_, ?_, stR_kept (stR_tl c8) (fun k _ => ?_), by omega, c10⟩
      · simp only [p_i]
        rw [if_neg (by simp), if_neg (by simp), if_neg (by simp)]
        exact c4
      · rw [p_i, if_neg (fun z => n1 z.2), p_i, if_neg (fun z => n1 z.2), p_i, if_neg (fun z => n1 z.2)]
      · simp only [p_i]
        rw [if_neg (by simp), if_neg (by simp), if_pos (by simp)]
      · simp only [p_i]
        rw [if_neg (by simp), if_pos (by simp)]
      · rw [p_i, if_neg (fun z => n2 z.2), p_i, if_neg (fun z => n2 z.2), p_i, if_neg (fun z => n2 z.2)]
    obtain ⟨w2, b1, b2⟩ := m_wholeF hx.2.1 hLL hS hm2
    rw [b1]
    exact ⟨w2, Or.inl ⟨h41, rfl, b2⟩⟩
  · rw [if_neg (show ¬ mS (pk T L i) = (41 : Int32) from fun z => h41 ((mS_eq (c := 41) (pkT_lt hx i) (by omega)).mp z))]
    exact ⟨w1, Or.inr ⟨h41, rfl, c2, c1⟩⟩
end IT
/-- the class stopped at j, and so does the reference's loop -/
def Fl (u0 u' w0 w : PM) (p g0 L c i : Nat) (b : Int32) : Prop := ∃ j, eqx (gE p g0) u0 u' ∧ u'.1 (9, 0, 0) 2 = nI j ∧ j ≤ L ∧ ∃ (w' : PM) (mm : Nat), mm + i ≤ 102 ∧ w'.1 (40, 0, 0) 16 = nI j ∧ eqx (gM p g0 c) w0 w' ∧ ∀ N, am_loop (f_X10_takesE_L22 (nI c)) (N + mm) (b, w) = some ((0 : Int32), w')
theorem Fl.pre {u0 u' w0 w w1 : PM} {p g0 L c i i1 mm : Nat} {b b1 : Int32} (h : Fl u0 u' w0 w1 p g0 L c i1 b1) (hr : ∀ N, am_loop (f_X10_takesE_L22 (nI c)) (N + mm) (b, w) = am_loop (f_X10_takesE_L22 (nI c)) N (b1, w1)) (hm : mm + i ≤ i1) : Fl u0 u' w0 w p g0 L c i b := by
  obtain ⟨j, a1, a2, a3, w', m2, b1, b2, b3, b4⟩ := h
  refine ⟨j, a1, a2, a3, w', m2 + mm, by omega, b2, b3, fun N => ?_⟩
  rw [← Nat.add_assoc, hr]
  exact b4 N
def PartOK (tp : RF) (u0 w0 : PM) (p g0 L : Nat) (T : Nat → Nat) (c d : Nat) : Prop := ∀ (i : Nat) (u w : PM) (ts : List Tok) (k : Nat) (S : List Nat), CE u0 u p g0 L i ts → ME w0 w p g0 c L i ts (List.replicate k 33 ++ S) → S.head? ≠ some 33 → opn (List.replicate k 33 ++ S) = d → 1 ≤ i →
  ∃ r u', tp (nI d) u = some (r, u') ∧ ((r = 0 ∧ Fl u0 u' w0 w p g0 L c i 1) ∨ (r = 1 ∧ ∃ (j : Nat) (new : List Tok), i < j ∧ CE u0 u' p g0 L j (ts ++ new) ∧ (∀ n, n ≤ 2 * d + 2 → dpT new n = some (n + 1)) ∧ ∃ (w' : PM) (mm : Nat), mm + i ≤ j ∧ ME w0 w' p g0 c L j (ts ++ new ++ List.replicate k tNOT) S ∧ ∀ N, am_loop (f_X10_takesE_L22 (nI c)) (N + mm) ((1 : Int32), w) = am_loop (f_X10_takesE_L22 (nI c)) N ((0 : Int32), w')))
def EitherOK (te : RF) (u0 w0 : PM) (p g0 L : Nat) (T : Nat → Nat) (c d : Nat) : Prop := ∀ (i : Nat) (u w : PM) (ts : List Tok) (S : List Nat), CE u0 u p g0 L i ts → ME w0 w p g0 c L i ts S → (S = [] ∨ S.head? = some 40) → opn S = d → 1 ≤ i →
  ∃ r u', te (nI d) u = some (r, u') ∧ ((r = 0 ∧ Fl u0 u' w0 w p g0 L c i 1) ∨ (r = 1 ∧ ∃ (j : Nat) (new : List Tok), i < j ∧ CE u0 u' p g0 L j (ts ++ new) ∧ (∀ n, n ≤ 2 * d → dpT new n = some (n + 1)) ∧ pk T L j ≠ 38 ∧ pk T L j ≠ 124 ∧ ∃ (w' : PM) (mm : Nat) (jb kb : Bool) (tsM : List Tok), mm + i ≤ j ∧ ME w0 w' p g0 c L j tsM (wA jb ++ (wB kb ++ S)) ∧ tsM ++ (pA jb ++ pB kb) = ts ++ new ∧ ∀ N, am_loop (f_X10_takesE_L22 (nI c)) (N + mm) ((1 : Int32), w) = am_loop (f_X10_takesE_L22 (nI c)) N ((0 : Int32), w')))
theorem dpT_app : ∀ (a b : List Tok) (n : Nat), dpT (a ++ b) n = (dpT a n).bind (dpT b)
  | [], b, n => rfl
  | t :: a, b, n => by
    show (dp1 t n).bind (dpT (a ++ b)) = ((dp1 t n).bind (dpT a)).bind (dpT b)
    cases dp1 t n with
    | none => rfl
    | some m => exact dpT_app a b m
theorem dp_and (n : Nat) : dpT [tAND] (n + 2) = some (n + 1) := by
  show (dp1 tAND (n + 2)).bind (dpT []) = _
  unfold dp1
  rw [if_neg (by decide), if_pos (by decide), if_pos (by omega)]
  rfl
theorem dp_or (n : Nat) : dpT [tOR] (n + 2) = some (n + 1) := by
  show (dp1 tOR (n + 2)).bind (dpT []) = _
  unfold dp1
  rw [if_neg (by decide), if_pos (by decide), if_pos (by omega)]
  rfl
theorem dp_not (n : Nat) : dpT [tNOT] (n + 1) = some (n + 1) := by
  show (dp1 tNOT (n + 1)).bind (dpT []) = _
  unfold dp1
  rw [if_pos rfl, if_pos (by omega)]
  rfl
section DS
variable {u0 w0 : PM} {p g0 L c d : Nat} {T : Nat → Nat}
theorem ref_p {u : PM} {i : Nat} {ts : List Tok} (hx : Ctx u0 w0 p L T) (h : CE u0 u p g0 L i ts) : u.2.2 0 = some p := (h.1.2.2 _ rfl).trans hx.2.2.1
theorem wB_hd (kb : Bool) {S : List Nat} (hS : S = [] ∨ S.head? = some 40) : (wB kb ++ S).head? ≠ some 38 ∧ (wB kb ++ S).head? ≠ some 33 := by
  cases kb with
  | true => exact ⟨by simp [wB], by simp [wB]⟩
  | false =>
    rcases hS with rfl | h
    · exact ⟨by decide, by decide⟩
    · constructor
      · show S.head? ≠ some 38
        rw [h]; decide
      · show S.head? ≠ some 33
        rw [h]; decide
theorem S_hd {S : List Nat} (hS : S = [] ∨ S.head? = some 40) : S.head? ≠ some 38 ∧ S.head? ≠ some 124 := by
  rcases hS with rfl | h
  · exact ⟨by decide, by decide⟩
  · rw [h]
    exact ⟨by decide, by decide⟩
theorem opn_B (kb : Bool) (S : List Nat) : opn (wB kb ++ S) = opn S := by
  cases kb with
  | true => exact Nat.zero_add _
  | false => rfl
theorem and_loop {tp te : RF} (hx : Ctx u0 w0 p L T) (hp : PartOK tp u0 w0 p g0 L T c d) (x2 : Int32) {S : List Nat} (hS : S = [] ∨ S.head? = some 40) (hd : opn S = d) (kb : Bool) : ∀ (n jj i : Nat) (u w : PM) (tsc tsM : List Tok) (jb : Bool), L - i < n → jj + (L - i) < 100 → 1 ≤ i → CE u0 u p g0 L i tsc → ME w0 w p g0 c L i tsM (wA jb ++ (wB kb ++ S)) → tsM ++ pA jb = tsc →
    ∃ e, am_loop (f_X6_takeEither_L20 te tp (nI d) x2) n (nI jj, u) = some e ∧ ((∃ u', e = .inl ((0 : Int32), u') ∧ Fl u0 u' w0 w p g0 L c i 0) ∨ (∃ (u' : PM) (j : Nat) (new : List Tok) (jb' : Bool) (tsM' : List Tok) (w' : PM) (mm : Nat), e = .inr u' ∧ i ≤ j ∧ CE u0 u' p g0 L j (tsc ++ new) ∧ (∀ n', n' ≤ 2 * d + 1 → dpT new (n' + 1) = some (n' + 1)) ∧ pk T L j ≠ 38 ∧ ME w0 w' p g0 c L j tsM' (wA jb' ++ (wB kb ++ S)) ∧ tsM' ++ pA jb' = tsc ++ new ∧ mm + i ≤ j ∧ ∀ N, am_loop (f_X10_takesE_L22 (nI c)) (N + mm) ((0 : Int32), w) = am_loop (f_X10_takesE_L22 (nI c)) N ((0 : Int32), w')))
  | 0, jj, i, u, w, tsc, tsM, jb, h1, _, _, _, _, _ => by omega
  | n + 1, jj, i, u, w, tsc, tsM, jb, h1, h2, hi1, hc, hm, he => by
    have hLL := hx.1
    have step : f_X6_takeEither_L20 te tp (nI d) x2 (nI jj, u) = (f_X6_take (nI 38) u).bind (fun (x : Int32 × PM) => if x.1 = 0 then some (.inr (.inr x.2)) else (tp (nI d) x.2).bind fun (y : Int32 × PM) => if y.1 = 0 then some (.inr (.inl ((0 : Int32), y.2))) else match y.2.2.2 0 with | none => none | some p10 => if p10 < 5 then (f_X3_addStep p10 (7 : Int32) (0 : Int32) (0 : Int32) y.2).bind fun r13 => some (.inl (nI jj + (1 : Int32), r13)) else none) := by
      unfold f_X6_takeEither_L20
      dsimp only
      rw [if_neg (show ¬ (100 : Int32) ≤ nI jj from nI_ge (b := 100) (by omega) (by omega))]
      rfl
    rcases c_tk hx hc (c := 38) (by omega) with ⟨h38, u1, a1, a2⟩ | ⟨h38, a1⟩
    · have hi := pk_i h38 (by omega)
      obtain ⟨w1, b1, b2⟩ := it_amp (c := c) hx hm (wB_hd kb hS).1 h38
      rw [he] at b2
      obtain ⟨r, u2, d1, d2⟩ := hp (i + 1) u1 w1 tsc 0 (38 :: (wB kb ++ S)) a2 b2 (by simp) (by
        show (if 38 = 33 ∨ 38 = 40 then 1 else 0) + opn (wB kb ++ S) = d
        rw [if_neg (by omega), Nat.zero_add, opn_B, hd]) (by omega)
      have r1 : ∀ N, am_loop (f_X10_takesE_L22 (nI c)) (N + 1) ((0 : Int32), w) = am_loop (f_X10_takesE_L22 (nI c)) N ((1 : Int32), w1) := fun N => am_loop_s b1
      rcases d2 with ⟨rfl, d3⟩ | ⟨rfl, j1, new1, e1, e2, e3, w2, m1, e4, e5, e6⟩
      · refine ⟨_, am_loop_e (e := .inl ((0 : Int32), u2)) ?_, Or.inl ⟨u2, rfl, d3.pre r1 (by omega)⟩⟩
        rw [step, a1, Option.bind_some]
        dsimp only
        rw [if_neg one_ne, d1, Option.bind_some]
        dsimp only
        rw [if_pos rfl]
      · rw [List.replicate_zero, List.append_nil] at e5
        have e9 := e5.2.2.2.2.2.2.2.2.1
        have e10 := e5.2.2.1
        rw [List.length_cons] at e9
        obtain ⟨u3, f1, f2⟩ := c_add (t := tAND) (a := (7 : Int32)) (b := (0 : Int32)) (c := (0 : Int32)) e2 (by omega) rfl (fun z => absurd z (by decide))
        have r2 : ∀ N, am_loop (f_X10_takesE_L22 (nI c)) (N + (m1 + 1)) ((0 : Int32), w) = am_loop (f_X10_takesE_L22 (nI c)) N ((0 : Int32), w2) := fun N => by
          rw [← Nat.add_assoc, r1, e6]
        obtain ⟨e, k1, k2⟩ := and_loop hx hp x2 hS hd kb n (jj + 1) j1 u3 w2 (tsc ++ new1 ++ [tAND]) (tsc ++ new1) true (by omega) (by omega) (by omega) f2 e5 rfl
        refine ⟨e, (am_loop_s ?_).trans k1, ?_⟩
        · rw [step, a1, Option.bind_some]
          dsimp only
          rw [if_neg one_ne, d1, Option.bind_some]
          dsimp only
          rw [if_neg one_ne, ref_p hx e2]
          dsimp only
          rw [if_pos hx.2.1, f1, Option.bind_some, nI_1]
        · rcases k2 with ⟨u', g1, g2⟩ | ⟨u', j, new, jb', tsM', w', mm, g1, g2, g3, g4, g5, g6, g7, g8, g9⟩
          · exact Or.inl ⟨u', g1, g2.pre r2 (by omega)⟩
          · refine Or.inr ⟨u', j, new1 ++ [tAND] ++ new, jb', tsM', w', mm + (m1 + 1), g1, by omega, ?_, fun n' hn' => ?_, g5, g6, ?_, by omega, fun N => ?_⟩
            · rw [← List.append_assoc, ← List.append_assoc]
              exact g3
            · rw [dpT_app, dpT_app, e3 (n' + 1) (by omega), Option.bind_some, dp_and, Option.bind_some]
              exact g4 n' hn'
            · rw [g7, ← List.append_assoc, ← List.append_assoc]
            · rw [← Nat.add_assoc, r2]
              exact g9 N
    · refine ⟨_, am_loop_e (e := .inr u) ?_, Or.inr ⟨u, i, [], jb, tsM, w, 0, rfl, Nat.le_refl _, ?_, fun n' _ => rfl, h38, hm, ?_, by omega, fun N => rfl⟩⟩
      · rw [step, a1, Option.bind_some]
        dsimp only
        rw [if_pos rfl]
      · rw [List.append_nil]
        exact hc
      · rw [List.append_nil]
        exact he
theorem either_loop {tp te : RF} (hx : Ctx u0 w0 p L T) (hp : PartOK tp u0 w0 p g0 L T c d) {S : List Nat} (hS : S = [] ∨ S.head? = some 40) (hd : opn S = d) : ∀ (n kk i : Nat) (u w : PM) (tsc : List Tok) (kb : Bool), L - i < n → kk + (L - i) < 100 → 1 ≤ i → ((kb = false ∧ kk = 0) ∨ (kb = true ∧ 0 < kk)) → CE u0 u p g0 L i tsc → ME w0 w p g0 c L i tsc (wB kb ++ S) →
    ∃ e, am_loop (f_X6_takeEither_L2 te tp (nI d)) n (nI kk, u) = some e ∧ ((∃ u', e = .inl ((0 : Int32), u') ∧ Fl u0 u' w0 w p g0 L c i 1) ∨ (∃ (u' : PM) (j : Nat) (new : List Tok) (jb' kb' : Bool) (tsM' : List Tok) (w' : PM) (mm : Nat), e = .inl ((1 : Int32), u') ∧ i < j ∧ CE u0 u' p g0 L j (tsc ++ new) ∧ (∀ n', n' ≤ 2 * d → dpT new (n' + if kb then 1 else 0) = some (n' + 1)) ∧ pk T L j ≠ 38 ∧ pk T L j ≠ 124 ∧ ME w0 w' p g0 c L j tsM' (wA jb' ++ (wB kb' ++ S)) ∧ tsM' ++ (pA jb' ++ pB kb') = tsc ++ new ∧ mm + i ≤ j ∧ ∀ N, am_loop (f_X10_takesE_L22 (nI c)) (N + mm) ((1 : Int32), w) = am_loop (f_X10_takesE_L22 (nI c)) N ((0 : Int32), w')))
  | 0, kk, i, u, w, tsc, kb, h1, _, _, _, _, _ => by omega
  | n + 1, kk, i, u, w, tsc, kb, h1, h2, hi1, hk, hc, hm => by
    have hLL := hx.1
    have step : f_X6_takeEither_L2 te tp (nI d) (nI kk, u) = (tp (nI d) u).bind (fun (x : Int32 × PM) => if x.1 = 0 then some (.inr (.inl ((0 : Int32), x.2))) else (am_loop (f_X6_takeEither_L20 te tp (nI d) (nI kk)) 2000 ((0 : Int32), x.2)).bind fun e15 => match e15 with
      | .inl q29 => some (.inr (.inl q29))
      | .inr u17 =>
        if nI kk ≤ 0 then
          (f_X6_take (124 : Int32) u17).bind fun (y : Int32 × PM) =>
          if y.1 = 0 then
            some (.inr (.inl ((1 : Int32), y.2)))
          else
          some (.inl (nI kk + (1 : Int32), y.2))
        else
        match u17.2.2 0 with
        | none =>
          none
        | some p21 =>
          if p21 < 5 then
            (f_X3_addStep p21 (8 : Int32) (0 : Int32) (0 : Int32) u17).bind fun r24 =>
            (f_X6_take (124 : Int32) r24).bind fun (y : Int32 × PM) =>
            if y.1 = 0 then
              some (.inr (.inl ((1 : Int32), y.2)))
            else
            some (.inl (nI kk + (1 : Int32), y.2))
          else none) := by
      unfold f_X6_takeEither_L2
      dsimp only
      rw [if_neg (show ¬ (100 : Int32) ≤ nI kk from nI_ge (b := 100) (by omega) (by omega))]
      rfl
    obtain ⟨r, u1, a1, a2⟩ := hp i u w tsc 0 (wB kb ++ S) hc hm (wB_hd kb hS).2 (by show opn (wB kb ++ S) = d; rw [opn_B, hd]) hi1
    rcases a2 with ⟨rfl, a3⟩ | ⟨rfl, j1, new1, e1, e2, e3, w1, m1, e4, e5, e6⟩
    · refine ⟨_, am_loop_e (e := .inl ((0 : Int32), u1)) ?_, Or.inl ⟨u1, rfl, a3⟩⟩
      rw [step, a1, Option.bind_some]
      dsimp only
      rw [if_pos rfl]
    · rw [List.replicate_zero, List.append_nil] at e5
      obtain ⟨e, b1, b2⟩ := and_loop (te := te) hx hp (nI kk) hS hd kb 2000 0 j1 u1 w1 (tsc ++ new1) (tsc ++ new1) false (by omega) (by omega) (by omega) e2 e5 (List.append_nil _)
      rcases b2 with ⟨u2, rfl, b3⟩ | ⟨u2, j2, new2, jb', tsM', w2, m2, rfl, f1, f2, f3, f4, f5, f6, f7, f8⟩
      · refine ⟨_, am_loop_e (e := .inl ((0 : Int32), u2)) ?_, Or.inl ⟨u2, rfl, b3.pre e6 (by omega)⟩⟩
        rw [step, a1, Option.bind_some]
        dsimp only
        rw [if_neg one_ne, show am_loop (f_X6_takeEither_L20 te tp (nI d) (nI kk)) 2000 ((0 : Int32), u1) = _ from b1]
        rfl
      · have r2 : ∀ N, am_loop (f_X10_takesE_L22 (nI c)) (N + (m2 + m1)) ((1 : Int32), w) = am_loop (f_X10_takesE_L22 (nI c)) N ((0 : Int32), w2) := fun N => by
          rw [← Nat.add_assoc, e6, f8]
        have f9 := f5.2.2.2.2.2.2.2.2.1
        have f10 := f5.2.2.1
        -- behind the or
        have mid : ∃ u3, CE u0 u3 p g0 L j2 (tsc ++ new1 ++ new2 ++ pB kb) ∧ f_X6_takeEither_L2 te tp (nI d) (nI kk, u) = (f_X6_take (nI 124) u3).bind fun (y : Int32 × PM) => if y.1 = 0 then some (.inr (.inl ((1 : Int32), y.2))) else some (.inl (nI kk + (1 : Int32), y.2)) := by
          rw [step, a1, Option.bind_some]
          dsimp only
          rw [if_neg one_ne, show am_loop (f_X6_takeEither_L20 te tp (nI d) (nI kk)) 2000 ((0 : Int32), u1) = _ from b1, Option.bind_some]
          dsimp only
          rcases hk with ⟨rfl, rfl⟩ | ⟨rfl, hk⟩
          · rw [if_pos (show nI 0 ≤ 0 by decide)]
            refine ⟨u2, ?_, rfl⟩
            rw [show pB false = [] from rfl, List.append_nil]
            exact f2
          · rw [if_neg (nI_nle hk (by omega)), ref_p hx f2]
            dsimp only
            have hlen : (tsc ++ new1 ++ new2).length < 100 := by
              rw [← f6, List.length_append]
              have q1 : (wA jb').length = (pA jb').length := by cases jb' <;> rfl
              rw [List.length_append, show (wB true ++ S).length = S.length + 1 from by simp [wB]] at f9
              omega
            obtain ⟨u3, k1, k2⟩ := c_add (t := tOR) (a := (8 : Int32)) (b := (0 : Int32)) (c := (0 : Int32)) f2 hlen rfl (fun z => absurd z (by decide))
            rw [if_pos hx.2.1, k1, Option.bind_some]
            exact ⟨u3, k2, rfl⟩
        obtain ⟨u3, k1, k2⟩ := mid
        have hdp : ∀ n', n' ≤ 2 * d → dpT (new1 ++ new2 ++ pB kb) (n' + if kb then 1 else 0) = some (n' + 1) := fun n' hn' => by
          rw [dpT_app, dpT_app]
          rcases hk with ⟨rfl, -⟩ | ⟨rfl, -⟩
          · show ((dpT new1 (n' + 0)).bind (dpT new2)).bind (dpT []) = _
            rw [Nat.add_zero, e3 n' (by omega), Option.bind_some, f3 n' (by omega)]
            rfl
          · show ((dpT new1 (n' + 1)).bind (dpT new2)).bind (dpT [tOR]) = _
            rw [e3 (n' + 1) (by omega), Option.bind_some, f3 (n' + 1) (by omega), Option.bind_some, dp_or]
        have hcl : tsc ++ new1 ++ new2 ++ pB kb = tsM' ++ (pA jb' ++ pB kb) := by rw [← f6, List.append_assoc]
        rcases c_tk hx k1 (c := 124) (by omega) with ⟨h124, u4, g1, g2⟩ | ⟨h124, g1⟩
        · have hi2 := pk_i h124 (by omega)
          obtain ⟨w3, q1, q2⟩ := it_bar (c := c) hx f5 (S_hd hS) h124
          rw [← hcl] at q2
          have r3 : ∀ N, am_loop (f_X10_takesE_L22 (nI c)) (N + (1 + (m2 + m1))) ((1 : Int32), w) = am_loop (f_X10_takesE_L22 (nI c)) N ((1 : Int32), w3) := fun N => by
            rw [← Nat.add_assoc, r2]
            exact am_loop_s q1
          obtain ⟨e, s1, s2⟩ := either_loop hx hp hS hd n (kk + 1) (j2 + 1) u4 w3 (tsc ++ new1 ++ new2 ++ pB kb) true (by omega) (by omega) (by omega) (Or.inr ⟨rfl, by omega⟩) g2 q2
          refine ⟨e, (am_loop_s ?_).trans s1, ?_⟩
          · rw [k2, g1, Option.bind_some]
            dsimp only
            rw [if_neg one_ne, nI_1]
          · rcases s2 with ⟨u', t1, t2⟩ | ⟨u', j, new, jb2, kb2, tsM2, w', mm, t1, t2, t3, t4, t5, t6, t7, t8, t9, t10⟩
            · exact Or.inl ⟨u', t1, t2.pre r3 (by omega)⟩
            · refine Or.inr ⟨u', j, new1 ++ new2 ++ pB kb ++ new, jb2, kb2, tsM2, w', mm + (1 + (m2 + m1)), t1, by omega, ?_, fun n' hn' => ?_, t5, t6, t7, ?_, by omega, fun N => ?_⟩
              · rw [← List.append_assoc, ← List.append_assoc, ← List.append_assoc]
                exact t3
              · rw [dpT_app, hdp n' hn', Option.bind_some]
                exact t4 n' hn'
              · rw [t8, ← List.append_assoc, ← List.append_assoc, ← List.append_assoc]
              · rw [← Nat.add_assoc, r3]
                exact t10 N
        · refine ⟨_, am_loop_e (e := .inl ((1 : Int32), u3)) ?_, Or.inr ⟨u3, j2, new1 ++ new2 ++ pB kb, jb', kb, tsM', w2, m2 + m1, rfl, by omega, ?_, hdp, f4, h124, f5, ?_, by omega, r2⟩⟩
          · rw [k2, g1, Option.bind_some]
            dsimp only
            rw [if_pos rfl]
          · rw [← List.append_assoc, ← List.append_assoc]
            exact k1
          · rw [← hcl, ← List.append_assoc, ← List.append_assoc]
theorem either_ok {tp te : RF} (hx : Ctx u0 w0 p L T) (hp : PartOK tp u0 w0 p g0 L T c d) : EitherOK (fun a u => f_X6_takeEither te tp a u) u0 w0 p g0 L T c d := by
  intro i u w ts S hc hm hS hd hi1
  have hLL := hx.1
  obtain ⟨e, k1, k2⟩ := either_loop (te := te) hx hp hS hd 2000 0 i u w ts false (by omega) (by omega) hi1 (Or.inl ⟨rfl, rfl⟩) hc hm
  dsimp only
  unfold f_X6_takeEither
  rw [show am_loop (f_X6_takeEither_L2 te tp (nI d)) 2000 ((0 : Int32), u) = _ from k1, Option.bind_some]
  rcases k2 with ⟨u', rfl, k3⟩ | ⟨u', j, new, jb, kb, tsM, w', mm, rfl, t2, t3, t4, t5, t6, t7, t8, t9, t10⟩
  · exact ⟨_, _, rfl, Or.inl ⟨rfl, k3⟩⟩
  · exact ⟨_, _, rfl, Or.inr ⟨rfl, j, new, t2, t3, t4, t5, t6, w', mm, jb, kb, tsM, t9, t7, t8, t10⟩⟩
theorem part_ok (hx : Ctx u0 w0 p L T) (hc1 : 10 * p ≤ c) (hc2 : c < 10 * p + 10) : ∀ (m d : Nat), 1 ≤ m → 5 ≤ d + m → d ≤ 4 → PartOK (f_X6_P m) u0 w0 p g0 L T c d
  | 0, d, h1, _, _ => by omega
  | m + 1, d, h1, h2, h3 => by
    intro i u w ts k S hc hm hS hd hi1
    have hLL := hx.1
    show ∃ r u', f_X6_takePart (fun a u => f_X6_takeEither (fun _ _ => none) (f_X6_P m) a u) (f_X6_P m) (nI d) u = some (r, u') ∧ _
    unfold f_X6_takePart
    rw [c_sg hx hc, Option.bind_some]
    have q33 := cS_eq (c := 33) (pkT_lt hx i) (by omega)
    have q40 := cS_eq (c := 40) (pkT_lt hx i) (by omega)
    have full : (pk T L i = 33 ∨ pk T L i = 40) → d = 4 → Fl u0 u w0 w p g0 L c i 1 := fun hp hd4 => ⟨i, hc.1, hc.2.1, hc.2.2.1, w, 1, by have := hc.2.2.1; omega, hm.2.1, hm.1, fun N => am_loop_e (it_full hx hm hp (by omega))⟩
    by_cases h33 : pk T L i = 33
    · rw [if_pos (show cS (pk T L i) = (33 : Int32) from q33.mpr h33), if_neg (show ¬ cS (pk T L i) = (40 : Int32) from fun z => by have := q40.mp z; omega)]
      have hi := pk_i h33 (by omega)
      by_cases hd4 : d < 4
      · rw [if_pos (show nI d < (4 : Int32) from nI_lt (b := 4) hd4 (by omega)), nI_1]
        have hc' := c_at (j := i + 1) (x := u.1 (9, 0, 0) 2 + (1 : Int32)) hc (by rw [hc.2.1, nI_1]) (by omega)
        obtain ⟨w1, b1, b2⟩ := it_bang (c := c) hx hm (Or.inl rfl) h33 (by omega)
        obtain ⟨r, u1, a1, a2⟩ := part_ok hx hc1 hc2 m (d + 1) (by omega) (by omega) (by omega) (i + 1) _ w1 ts (k + 1) S hc' b2 hS (by
          show (if 33 = 33 ∨ 33 = 40 then 1 else 0) + opn (List.replicate k 33 ++ S) = d + 1
          rw [if_pos (Or.inl rfl), hd, Nat.add_comm]) (by omega)
        have r1 : ∀ N, am_loop (f_X10_takesE_L22 (nI c)) (N + 1) ((1 : Int32), w) = am_loop (f_X10_takesE_L22 (nI c)) N ((1 : Int32), w1) := fun N => am_loop_s b1
        rw [a1, Option.bind_some]
        dsimp only
        rcases a2 with ⟨rfl, a3⟩ | ⟨rfl, j1, new1, e1, e2, e3, w2, m1, e4, e5, e6⟩
        · rw [if_pos rfl]
          exact ⟨_, _, rfl, Or.inl ⟨rfl, a3.pre r1 (by omega)⟩⟩
        · have e9 := e5.2.2.2.2.2.2.2.2.1
          have e10 := e5.2.2.1
          rw [List.length_append, List.length_replicate] at e9
          obtain ⟨u3, f1, f2⟩ := c_add (t := tNOT) (a := (6 : Int32)) (b := (0 : Int32)) (c := (0 : Int32)) e2 (by omega) rfl (fun z => absurd z (by decide))
          rw [if_neg one_ne, ref_p hx e2]
          dsimp only
          rw [if_pos hx.2.1, f1, Option.bind_some]
          refine ⟨_, _, rfl, Or.inr ⟨rfl, j1, new1 ++ [tNOT], by omega, ?_, fun n hn => ?_, w2, m1 + 1, by omega, ?_, fun N => ?_⟩⟩
          · rw [← List.append_assoc]
            exact f2
          · rw [dpT_app, e3 n (by omega), Option.bind_some, dp_not]
          · have : ts ++ (new1 ++ [tNOT]) ++ List.replicate k tNOT = ts ++ new1 ++ List.replicate (k + 1) tNOT := by
              rw [List.replicate_succ]
              simp
            rw [this]
            exact e5
          · rw [← Nat.add_assoc, r1]
            exact e6 N
      · rw [if_neg (show ¬ nI d < (4 : Int32) from nI_nlt (b := 4) (by omega) (by omega))]
        exact ⟨_, _, rfl, Or.inl ⟨rfl, full (Or.inl h33) (by omega)⟩⟩
    · rw [if_neg (show ¬ cS (pk T L i) = (33 : Int32) from fun z => h33 (q33.mp z))]
      by_cases h40 : pk T L i = 40
      · rw [if_pos (show cS (pk T L i) = (40 : Int32) from q40.mpr h40), if_pos (show cS (pk T L i) = (40 : Int32) from q40.mpr h40)]
        have hi := pk_i h40 (by omega)
        by_cases hd4 : d < 4
        · rw [if_pos (show nI d < (4 : Int32) from nI_lt (b := 4) hd4 (by omega)), nI_1]
          have hc' := c_at (j := i + 1) (x := u.1 (9, 0, 0) 2 + (1 : Int32)) hc (by rw [hc.2.1, nI_1]) (by omega)
          obtain ⟨w1, b1, b2⟩ := it_bang (c := c) hx hm (Or.inr rfl) h40 (by omega)
          obtain ⟨r, u1, a1, a2⟩ := either_ok (te := fun _ _ => none) hx (part_ok hx hc1 hc2 m (d + 1) (by omega) (by omega) (by omega)) (i + 1) _ w1 ts (40 :: (List.replicate k 33 ++ S)) hc' b2 (Or.inr rfl) (by
            show (if 40 = 33 ∨ 40 = 40 then 1 else 0) + opn (List.replicate k 33 ++ S) = d + 1
            rw [if_pos (Or.inr rfl), hd, Nat.add_comm]) (by omega)
          have r1 : ∀ N, am_loop (f_X10_takesE_L22 (nI c)) (N + 1) ((1 : Int32), w) = am_loop (f_X10_takesE_L22 (nI c)) N ((1 : Int32), w1) := fun N => am_loop_s b1
          rw [a1, Option.bind_some]
          dsimp only
          rcases a2 with ⟨rfl, a3⟩ | ⟨rfl, j1, new1, e1, e2, e3, h38, h124, w2, m1, jb, kb, tsM, e4, e5, e6, e7⟩
          · rw [if_pos rfl]
            exact ⟨_, _, rfl, Or.inl ⟨rfl, a3.pre r1 (by omega)⟩⟩
          · rw [if_neg one_ne]
            have r2 : ∀ N, am_loop (f_X10_takesE_L22 (nI c)) (N + (m1 + 1)) ((1 : Int32), w) = am_loop (f_X10_takesE_L22 (nI c)) N ((0 : Int32), w2) := fun N => by
              rw [← Nat.add_assoc, r1]
              exact e7 N
            obtain ⟨w3, g⟩ := it_close (c := c) hx hc1 hc2 e5 hS h38 h124
            have e10 := e5.2.2.1
            rcases c_tk hx e2 (c := 41) (by omega) with ⟨h41, u2, f1, f2⟩ | ⟨h41, f1⟩
            · rcases g with ⟨-, g1, g2⟩ | ⟨g0', -⟩
              · rw [show f_X6_take (41 : Int32) u1 = _ from f1, Option.bind_some]
                dsimp only
                rw [if_neg one_ne]
                rw [e6] at g2
                refine ⟨_, _, rfl, Or.inr ⟨rfl, j1 + 1, new1, by omega, f2, fun n hn => e3 n (by omega), w3, 1 + (m1 + 1), by omega, g2, fun N => ?_⟩⟩
                rw [← Nat.add_assoc, r2]
                exact am_loop_s g1
              · exact absurd h41 g0'
            · rcases g with ⟨g0', -⟩ | ⟨-, g1, g2, g3⟩
              · exact absurd g0' h41
              · rw [show f_X6_take (41 : Int32) u1 = _ from f1, Option.bind_some]
                dsimp only
                rw [if_pos rfl]
                refine ⟨_, _, rfl, Or.inl ⟨rfl, j1, e2.1, e2.2.1, e2.2.2.1, w3, 1 + (m1 + 1), by omega, g2, g3, fun N => ?_⟩⟩
                rw [← Nat.add_assoc, r2]
                exact am_loop_e g1
        · rw [if_neg (show ¬ nI d < (4 : Int32) from nI_nlt (b := 4) (by omega) (by omega))]
          exact ⟨_, _, rfl, Or.inl ⟨rfl, full (Or.inr h40) (by omega)⟩⟩
      · rw [if_neg (show ¬ cS (pk T L i) = (40 : Int32) from fun z => h40 (q40.mp z))]
        have hb := hm.2.2.2.2.2.2.2.2.1
        obtain ⟨r, u1, a1, a2⟩ := c_test hx hc (by omega)
        obtain ⟨w1, b1⟩ := it_test (c := c) hx hm hS h33 h40
        rw [a1, Option.bind_some]
        dsimp only
        rcases a2 with ⟨rfl, j, a3, a4⟩ | ⟨rfl, t, j, a3, a4⟩
        · rw [if_pos (Or.inl rfl)]
          rcases b1 with ⟨b1, j2, b2, b3, b4⟩ | ⟨b1, t2, j2, b2, b3⟩
          · rw [a3] at b2
            cases b2
            have := hc.2.2.1
            exact ⟨_, _, rfl, Or.inl ⟨rfl, j, a4.1, a4.2.1, a4.2.2.1, w1, 1, by omega, b3, b4, fun N => am_loop_e b1⟩⟩
          · rw [a3] at b2
            cases b2
        · rw [if_pos (Or.inr rfl)]
          rcases b1 with ⟨b1, j2, b2, b3, b4⟩ | ⟨b1, t2, j2, b2, b3⟩
          · rw [a3] at b2
            cases b2
          · rw [a3] at b2
            cases b2
            obtain ⟨k1, k2, k3, k4, k5⟩ := ttT_ok a3
            refine ⟨_, _, rfl, Or.inr ⟨rfl, j, [t], by omega, a4, fun n hn => ?_, w1, 1, by omega, b3, fun N => am_loop_s b1⟩⟩
            show (dp1 t n).bind (dpT []) = _
            unfold dp1
            rw [if_neg (by omega), if_neg (by omega), if_pos ⟨k1, k2, k3, by omega⟩]
            rfl
end DS
