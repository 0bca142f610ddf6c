/-! an E: the class's descent, the reference's pile of what waits -/
abbrev tNOT : Tok := (6, 0, 0)
abbrev tAND : Tok := (7, 0, 0)
abbrev tOR : Tok := (8, 0, 0)
theorem stR_tl {w : PM} {c : Nat} {S : List Nat} (h : stR w (c :: S)) : stR w S := fun j hj => by
  have := h (j + 1) (by simp only [List.length_cons]; omega)
  rw [List.length_cons, show S.length + 1 - 1 - (j + 1) = S.length - 1 - j by omega] at this
  exact this
theorem stR_hd {w : PM} {c : Nat} {S : List Nat} (h : stR w (c :: S)) : w.1 (58, 0, 0) S.length = nI c ∧ c < 128 := h 0 (by simp)
theorem stR_kept {w w' : PM} {S : List Nat} (h : stR w S) (he : ∀ k, k < S.length → w'.1 (58, 0, 0) k = w.1 (58, 0, 0) k) : stR w' S := fun j hj => ⟨(he _ (by omega)).trans (h j hj).1, (h j hj).2⟩
theorem stR_push {w w' : PM} {c : Nat} {S : List Nat} (h : stR w S) (hc : c < 128) (h0 : w'.1 (58, 0, 0) S.length = nI c) (he : ∀ k, k < S.length → w'.1 (58, 0, 0) k = w.1 (58, 0, 0) k) : stR w' (c :: S) := fun j hj => by
  cases j with
  | zero => exact ⟨h0, hc⟩
  | succ j =>
    rw [List.length_cons] at hj ⊢
    rw [show S.length + 1 - 1 - (j + 1) = S.length - 1 - j by omega]
    exact ⟨(he _ (by omega)).trans (h j (by omega)).1, (h j (by omega)).2⟩
section EL
variable {u0 u w0 w : PM} {p g0 cc L i : Nat} {T : Nat → Nat} {ts : List Tok} {st S : List Nat}
theorem m_putR {n : Nat} (s : Int32) (hp : p < 5) (hn : n < 100) (h : w.1 (40, 0, 0) 27 = nI (100 * p + n)) : f_X10_put s w = some (pi (pi w (57, 0, 0) (100 * p + n) s) (40, 0, 0) 27 (nI (100 * p + n + 1))) := by
  unfold f_X10_put
  rw [h, if_neg (nI_in (show 100 * p + n < 500 by omega) (by omega)), nI_clamp (show 100 * p + n < 2 ^ 31 by omega), nI_1]
/-- one more sign, and the pile as told -/
theorem ME_put {w' : PM} {t : Tok} {st' : List Nat} (hm : ME w0 w p g0 cc L i ts st) (e : eqx (gM p g0 cc) w0 w') (h16 : w'.1 (40, 0, 0) 16 = w.1 (40, 0, 0) 16) (h27 : w'.1 (40, 0, 0) 27 = nI (100 * p + ts.length + 1)) (h57 : w'.1 (57, 0, 0) (100 * p + ts.length) = cdM t) (hk : ∀ k, k < 100 * p + ts.length → w'.1 (57, 0, 0) k = w.1 (57, 0, 0) k) (h28 : w'.1 (40, 0, 0) 28 = nI st'.length) (h29 : w'.1 (40, 0, 0) 29 = nI (opn st')) (hst : stR w' st') (hb : ts.length + 1 + st'.length ≤ i) : ME w0 w' p g0 cc L i (ts ++ [t]) st' := by
  obtain ⟨c1, c2, c3, c4, c5, c6, c7, c8, c9, c10⟩ := hm
  refine ⟨e, h16.trans c2, c3, ?_, ?_, h28, h29, hst, ?_, ?_⟩
  · rw [h27, List.length_append]
    rfl
  · rw [tkM_app]
    exact ⟨tkM_fr hk c5, h57, trivial⟩
  · rw [List.length_append]
    exact hb
  · rw [List.length_append]
    omega
theorem m_put (hm : ME w0 w p g0 cc L i ts st) (hp : p < 5) (hL : L ≤ 100) (hb : ts.length + 1 + st.length ≤ i) {t : Tok} {s : Int32} (hs : s = cdM t) : ∃ w', f_X10_put s w = some w' ∧ ME w0 w' p g0 cc L i (ts ++ [t]) st := by
  have h27 := hm.2.2.2.1
  have hiL := hm.2.2.1
  have hg := hm.2.2.2.2.2.2.2.2.2
  have g57 : gM p g0 cc (57, 0, 0) (100 * p + ts.length) = true := by
    simp [gM]
    omega
  rw [m_putR s hp (show ts.length < 100 by omega) h27]
  refine ⟨_, rfl, ME_put hm ((hm.1.pi g57).pi rfl) ?_ (p_at _ _ _ _) ?_ (fun k hk => ?_) ?_ ?_ (stR_kept hm.2.2.2.2.2.2.2.1 (fun k _ => ?_)) hb⟩
  · simp [p_i]
  · simp [p_i]
    exact hs
  · rw [p_i, if_neg (fun z => by have z2 : 57 = 40 := congrArg Prod.fst z.2; omega), p_i, if_neg (by omega)]
  · simp [p_i]
    exact hm.2.2.2.2.2.1
  · simp [p_i]
    exact hm.2.2.2.2.2.2.1
  · rw [p_i, if_neg (fun z => by have z2 : 58 = 40 := congrArg Prod.fst z.2; omega), p_i, if_neg (fun z => by have z2 : 58 = 57 := congrArg Prod.fst z.2; omega)]
theorem m_bang (hm : ME w0 w p g0 cc L i ts (33 :: S)) (hp : p < 5) (hL : L ≤ 100) : ∃ w', f_X10_whole_L0 w = some (.inl w') ∧ ME w0 w' p g0 cc L i (ts ++ [tNOT]) S := by
  obtain ⟨c1, c2, c3, c4, c5, c6, c7, c8, c9, c10⟩ := id hm
  rw [List.length_cons] at c6 c9
  have hd := (stR_hd c8).1
  have g57 : gM p g0 cc (57, 0, 0) (100 * p + ts.length) = true := by
    simp [gM]
    omega
  have c7' : w.1 (40, 0, 0) 29 = nI (opn S + 1) := by
    rw [c7]
    show nI ((if 33 = 33 ∨ 33 = 40 then 1 else 0) + opn S) = _
    rw [if_pos (Or.inl rfl), Nat.add_comm]
  unfold f_X10_whole_L0
  rw [c6, if_neg (nI_nle (by omega) (by omega)), nI_pred, if_neg (nI_in (show S.length < 101 by omega) (by omega)), nI_clamp (show S.length < 2 ^ 31 by omega), if_pos (show w.1 (58, 0, 0) S.length = (33 : Int32) from hd), m_putR (-33) hp (show ts.length < 100 by omega) c4, Option.bind_some]
  refine ⟨_, rfl, ME_put hm ((((c1.pi g57).pi rfl).pi rfl).pi rfl) ?_ ?_ ?_ (fun k hk => ?_) ?_ ?_ (stR_kept (stR_tl c8) (fun k _ => ?_)) (by omega)⟩
  · simp [p_i]
  · simp [p_i]
  · simp [p_i]
    rfl
  · have n1 : ¬ ((57, 0, 0) : Key) = (40, 0, 0) := fun z => by have z2 : 57 = 40 := congrArg Prod.fst z; omega
    rw [p_i, if_neg (fun z => n1 z.2), p_i, if_neg (fun z => n1 z.2), p_i, if_neg (fun z => n1 z.2), p_i, if_neg (by omega)]
  · simp [p_i]
    rw [c6, nI_pred]
  · simp [p_i]
    rw [c7', nI_pred]
  · have n1 : ¬ ((58, 0, 0) : Key) = (40, 0, 0) := fun z => by have z2 : 58 = 40 := congrArg Prod.fst z; omega
    rw [p_i, if_neg (fun z => n1 z.2), p_i, if_neg (fun z => n1 z.2), p_i, if_neg (fun z => n1 z.2), p_i, if_neg (fun z => by have z2 : 58 = 57 := congrArg Prod.fst z.2; omega)]
theorem top_ne {c b : Nat} (hm : ME w0 w p g0 cc L i ts (c :: S)) (hb : b < 128) (h : c ≠ b) : ¬ w.1 (58, 0, 0) S.length = nI b := fun z => by
  obtain ⟨h1, h2⟩ := stR_hd hm.2.2.2.2.2.2.2.1
  rw [h1, nI_eq (by omega) (by omega)] at z
  exact h z
theorem m_whole_e (hm : ME w0 w p g0 cc L i ts S) (hL : L ≤ 100) (hS : S.head? ≠ some 33) : f_X10_whole_L0 w = some (.inr w) := by
  have c6 := hm.2.2.2.2.2.1
  have c9 := hm.2.2.2.2.2.2.2.2.1
  have c3 := hm.2.2.1
  unfold f_X10_whole_L0
  cases S with
  | nil => rw [c6, if_pos (show nI ([] : List Nat).length ≤ 0 by decide)]
  | cons c S =>
    rw [List.length_cons] at c6 c9
    rw [c6, if_neg (nI_nle (by omega) (by omega)), nI_pred, if_neg (nI_in (show S.length < 101 by omega) (by omega)), nI_clamp (show S.length < 2 ^ 31 by omega), if_neg (show ¬ w.1 (58, 0, 0) S.length = (33 : Int32) from top_ne hm (b := 33) (by omega) (fun z => hS (by rw [z]; rfl)))]
theorem m_whole (hp : p < 5) (hL : L ≤ 100) (hS : S.head? ≠ some 33) : ∀ (k n : Nat) (w : PM) (ts : List Tok), k < n → ME w0 w p g0 cc L i ts (List.replicate k 33 ++ S) → ∃ w', am_loop f_X10_whole_L0 n w = some w' ∧ ME w0 w' p g0 cc L i (ts ++ List.replicate k tNOT) S
  | 0, n + 1, w, ts, _, hm => ⟨w, am_loop_e (m_whole_e hm hL hS), by
    rw [List.replicate_zero, List.append_nil]
    exact hm⟩
  | k + 1, n + 1, w, ts, h, hm => by
    obtain ⟨w1, a1, a2⟩ := m_bang (S := List.replicate k 33 ++ S) hm hp hL
    obtain ⟨w', b1, b2⟩ := m_whole hp hL hS k n w1 _ (by omega) a2
    refine ⟨w', (am_loop_s a1).trans b1, ?_⟩
    rw [List.append_assoc] at b2
    exact b2
theorem m_wholeF (hp : p < 5) (hL : L ≤ 100) (hS : S.head? ≠ some 33) {k : Nat} (hm : ME w0 w p g0 cc L i ts (List.replicate k 33 ++ S)) : ∃ w', f_X10_whole w = some w' ∧ ME w0 w' p g0 cc L i (ts ++ List.replicate k tNOT) S := by
  have c9 := hm.2.2.2.2.2.2.2.2.1
  have c3 := hm.2.2.1
  rw [List.length_append, List.length_replicate] at c9
  obtain ⟨w', a1, a2⟩ := m_whole hp hL hS k 2000 w ts (by omega) hm
  unfold f_X10_whole
  rw [a1]
  exact ⟨w', rfl, a2⟩
/-- what waits of an E: & and | -/
def pA (jb : Bool) : List Tok := if jb then [tAND] else []
def pB (kb : Bool) : List Tok := if kb then [tOR] else []
def wA (jb : Bool) : List Nat := if jb then [38] else []
def wB (kb : Bool) : List Nat := if kb then [124] else []
theorem m_pop {c : Nat} {t : Tok} (hm : ME w0 w p g0 cc L i ts (c :: S)) (hp : p < 5) (hL : L ≤ 100) (hc : ¬ (c = 33 ∨ c = 40)) (ht : -(nI c) = cdM t) : ∃ w', f_X10_put (-(w.1 (58, 0, 0) S.length)) (pi w (40, 0, 0) 28 (nI S.length)) = some w' ∧ ME w0 w' p g0 cc L i (ts ++ [t]) S := by
  obtain ⟨c1, c2, c3, c4, c5, c6, c7, c8, c9, c10⟩ := id hm
  rw [List.length_cons] at c6 c9
  have n1 : ¬ ((57, 0, 0) : Key) = (40, 0, 0) := fun z => by have z2 : 57 = 40 := congrArg Prod.fst z; omega
  have n2 : ¬ ((58, 0, 0) : Key) = (40, 0, 0) := fun z => by have z2 : 58 = 40 := congrArg Prod.fst z; omega
  have hm2 : ME w0 (pi w (40, 0, 0) 28 (nI S.length)) p g0 cc L i ts S := by
    refine ⟨c1.pi rfl, ?_, c3, ?_, tkM_fr (fun k _ => ?_) c5, p_at _ _ _ _, ?_, stR_kept (stR_tl c8) (fun k _ => ?_), by omega, c10⟩
    · simp [p_i]; exact c2
    · simp [p_i]; exact c4
    · rw [p_i, if_neg (fun z => n1 z.2)]
    · simp [p_i]
      rw [c7]
      show nI ((if c = 33 ∨ c = 40 then 1 else 0) + opn S) = _
      rw [if_neg hc, Nat.zero_add]
    · rw [p_i, if_neg (fun z => n2 z.2)]
  rw [(stR_hd c8).1]
  exact m_put hm2 hp hL (by omega) ht
theorem set_38 {s : Int32} (hm : ME w0 w p g0 cc L i ts (38 :: S)) (hp : p < 5) (hL : L ≤ 100) : ∃ w', f_X10_settle_L0 s w = some (.inl w') ∧ ME w0 w' p g0 cc L i (ts ++ [tAND]) S := by
  have c6 := hm.2.2.2.2.2.1
  have c9 := hm.2.2.2.2.2.2.2.2.1
  have c3 := hm.2.2.1
  rw [List.length_cons] at c6 c9
  obtain ⟨w', a1, a2⟩ := m_pop (t := tAND) hm hp hL (by omega) (by decide)
  unfold f_X10_settle_L0
  rw [c6, if_neg (nI_nle (by omega) (by omega)), nI_pred, if_neg (nI_in (show S.length < 101 by omega) (by omega)), nI_clamp (show S.length < 2 ^ 31 by omega), if_pos (show w.1 (58, 0, 0) S.length = (38 : Int32) from (stR_hd hm.2.2.2.2.2.2.2.1).1), a1]
  exact ⟨w', rfl, a2⟩
theorem set_124 {s : Int32} (hm : ME w0 w p g0 cc L i ts (124 :: S)) (hp : p < 5) (hL : L ≤ 100) (hs : ¬ s = 38) : ∃ w', f_X10_settle_L0 s w = some (.inl w') ∧ ME w0 w' p g0 cc L i (ts ++ [tOR]) S := by
  have c6 := hm.2.2.2.2.2.1
  have c9 := hm.2.2.2.2.2.2.2.2.1
  have c3 := hm.2.2.1
  rw [List.length_cons] at c6 c9
  obtain ⟨w', a1, a2⟩ := m_pop (t := tOR) hm hp hL (by omega) (by decide)
  unfold f_X10_settle_L0
  rw [c6, if_neg (nI_nle (by omega) (by omega)), nI_pred, if_neg (nI_in (show S.length < 101 by omega) (by omega)), nI_clamp (show S.length < 2 ^ 31 by omega), if_neg (show ¬ w.1 (58, 0, 0) S.length = (38 : Int32) from top_ne hm (b := 38) (by omega) (by omega)), if_pos (show w.1 (58, 0, 0) S.length = (124 : Int32) from (stR_hd hm.2.2.2.2.2.2.2.1).1), if_neg hs, a1]
  exact ⟨w', rfl, a2⟩
theorem set_e {s : Int32} (hm : ME w0 w p g0 cc L i ts S) (hL : L ≤ 100) (h38 : S.head? ≠ some 38) (h124 : S.head? ≠ some 124 ∨ s = 38) : f_X10_settle_L0 s w = some (.inr w) := by
  have c6 := hm.2.2.2.2.2.1
  have c9 := hm.2.2.2.2.2.2.2.2.1
  have c3 := hm.2.2.1
  unfold f_X10_settle_L0
  cases S with
  | nil => rw [c6, if_pos (show nI ([] : List Nat).length ≤ 0 by decide)]
  | cons c S =>
    rw [List.length_cons] at c6 c9
    rw [c6, if_neg (nI_nle (by omega) (by omega)), nI_pred, if_neg (nI_in (show S.length < 101 by omega) (by omega)), nI_clamp (show S.length < 2 ^ 31 by omega), if_neg (show ¬ w.1 (58, 0, 0) S.length = (38 : Int32) from top_ne hm (b := 38) (by omega) (fun z => h38 (by rw [z]; rfl)))]
    rcases h124 with h | h
    · rw [if_neg (show ¬ w.1 (58, 0, 0) S.length = (124 : Int32) from top_ne hm (b := 124) (by omega) (fun z => h (by rw [z]; rfl)))]
    · rw [if_pos h]
      split <;> rfl
theorem m_set38 {jb : Bool} {R : List Nat} (hm : ME w0 w p g0 cc L i ts (wA jb ++ R)) (hp : p < 5) (hL : L ≤ 100) (hR : R.head? ≠ some 38) : ∃ w', f_X10_settle (38 : Int32) w = some w' ∧ ME w0 w' p g0 cc L i (ts ++ pA jb) R := by
  unfold f_X10_settle
  cases jb with
  | false =>
    rw [show am_loop (f_X10_settle_L0 (38 : Int32)) 2000 w = some w from am_loop_e (n := 1999) (set_e (S := R) hm hL hR (Or.inr rfl))]
    refine ⟨w, rfl, ?_⟩
    rw [show pA false = [] from rfl, List.append_nil]
    exact hm
  | true =>
    obtain ⟨w1, a1, a2⟩ := set_38 (s := (38 : Int32)) (S := R) hm hp hL
    rw [show am_loop (f_X10_settle_L0 (38 : Int32)) 2000 w = some w1 from (am_loop_s (n := 1999) a1).trans (am_loop_e (n := 1998) (set_e a2 hL hR (Or.inr rfl)))]
    exact ⟨w1, rfl, a2⟩
theorem m_set124 {jb kb : Bool} (hm : ME w0 w p g0 cc L i ts (wA jb ++ (wB kb ++ S))) (hp : p < 5) (hL : L ≤ 100) (hS : S.head? ≠ some 38 ∧ S.head? ≠ some 124) : ∃ w', f_X10_settle (124 : Int32) w = some w' ∧ ME w0 w' p g0 cc L i (ts ++ (pA jb ++ pB kb)) S := by
  have h1 : ∀ (w : PM) (ts : List Tok) (n : Nat), 2 ≤ n → ME w0 w p g0 cc L i ts (wB kb ++ S) → ∃ w', am_loop (f_X10_settle_L0 (124 : Int32)) n w = some w' ∧ ME w0 w' p g0 cc L i (ts ++ pB kb) S := fun w ts n hn hm => by
    obtain ⟨n', rfl⟩ : ∃ n', n = n' + 2 := ⟨n - 2, by omega⟩
    cases kb with
    | false =>
      refine ⟨w, am_loop_e (set_e (S := S) hm hL hS.1 (Or.inl hS.2)), ?_⟩
      rw [show pB false = [] from rfl, List.append_nil]
      exact hm
    | true =>
      obtain ⟨w1, a1, a2⟩ := set_124 (s := (124 : Int32)) (S := S) hm hp hL (by decide)
      exact ⟨w1, (am_loop_s a1).trans (am_loop_e (set_e a2 hL hS.1 (Or.inl hS.2))), a2⟩
  unfold f_X10_settle
  cases jb with
  | false =>
    obtain ⟨w1, a1, a2⟩ := h1 w ts 2000 (by omega) hm
    rw [a1]
    exact ⟨w1, rfl, a2⟩
  | true =>
    obtain ⟨w1, a1, a2⟩ := set_38 (s := (124 : Int32)) (S := wB kb ++ S) hm hp hL
    obtain ⟨w2, b1, b2⟩ := h1 w1 _ 1999 (by omega) a2
    rw [show am_loop (f_X10_settle_L0 (124 : Int32)) 2000 w = some w2 from (am_loop_s (n := 1999) a1).trans b1]
    refine ⟨w2, rfl, ?_⟩
    rw [List.append_assoc] at b2
    exact b2
/-- a test at a place: where it fails, or its sign and the place behind it -/
def ttT (T : Nat → Nat) (L i : Nat) : Nat ⊕ (Tok × Nat) :=
  if li (pk T L i) < 6 then
    (if pk T L (i + 1) = 60 ∨ pk T L (i + 1) = 61 ∨ pk T L (i + 1) = 62 then
      (match nmT T L (i + 2) with | none => .inl (i + 2) | some x => .inr ((li (pk T L i), pk T L (i + 1) - 60, x.1), x.2))
     else .inl (i + 1))
  else .inl i
theorem li_256 {q : Nat} (h : li q < 6) : q < 256 := by
  unfold li at h
  split at h
  · omega
  · split at h
    · omega
    · split at h
      · omega
      · split at h
        · omega
        · split at h
          · omega
          · split at h <;> omega
theorem ttT_ok {t : Tok} {j : Nat} (h : ttT T L i = .inr (t, j)) : t.1 < 6 ∧ t.2.1 < 3 ∧ t.2.2 < 100 ∧ i + 2 < j ∧ j ≤ L := by
  unfold ttT at h
  split at h
  · next h1 =>
    split at h
    · next h2 =>
      cases hn : nmT T L (i + 2) with
      | none => rw [hn] at h; cases h
      | some x =>
        rw [hn] at h
        obtain ⟨a1, a2, a3⟩ := nmT_lt (d := x.1) (j := x.2) hn
        cases h
        exact ⟨h1, by show pk T L (i + 1) - 60 < 3; omega, a1, a2, a3⟩
    · cases h
  · cases h
theorem c_test (hx : Ctx u0 w0 p L T) (hc : CE u0 u p g0 L i ts) (hl : ts.length ≤ i) : ∃ r u', f_X6_takeTest (cS (pk T L i)) u = some (r, u') ∧ ((r = 0 ∧ ∃ j, ttT T L i = .inl j ∧ CE u0 u' p g0 L j ts) ∨ (r = 1 ∧ ∃ t j, ttT T L i = .inr (t, j) ∧ CE u0 u' p g0 L j (ts ++ [t]))) := by
  have hLL := hx.1
  unfold f_X6_takeTest ttT
  by_cases h1 : li (pk T L i) < 6
  · have h256 := li_256 h1
    have hi := pk_i (T := T) (i := i) rfl h256
    have e1 : cS (pk T L i) = nI (pk T L i) := if_neg (by omega)
    rw [if_pos h1, e1, if_pos (nI_pos' (by omega)), c_let h256, Option.bind_some, if_pos h1, if_pos (nI_pos' (by omega))]
    have hc1 := c_at (j := i + 1) (x := u.1 (9, 0, 0) 2 + (1 : Int32)) hc (by rw [hc.2.1, nI_1]) (by omega)
    rw [c_sg hx hc1, Option.bind_some]
    have q60 := cS_eq (c := 60) (pkT_lt hx (i + 1)) (by omega)
    have q61 := cS_eq (c := 61) (pkT_lt hx (i + 1)) (by omega)
    have q62 := cS_eq (c := 62) (pkT_lt hx (i + 1)) (by omega)
    by_cases h2 : pk T L (i + 1) = 60 ∨ pk T L (i + 1) = 61 ∨ pk T L (i + 1) = 62
    · rw [if_pos h2]
      have hi2 : i + 1 < L := pk_i (T := T) (c := pk T L (i + 1)) rfl (by omega)
      have hc2 := c_at (j := i + 2) (x := u.1 (9, 0, 0) 2 + (1 : Int32) + (1 : Int32)) hc1 (by rw [hc.2.1, nI_1, nI_1]) (by omega)
      have e2 : cS (pk T L (i + 1)) = nI (60 + (pk T L (i + 1) - 60)) := by
        rw [show cS (pk T L (i + 1)) = nI (pk T L (i + 1)) from if_neg (by omega)]
        congr 1
        omega
      have rest : ∃ r u', ((f_X6_takeNumber (pi (pi u (9, 0, 0) 2 ((u.1 (9, 0, 0) 2) + (1 : Int32))) (9, 0, 0) 2 (((u.1 (9, 0, 0) 2) + (1 : Int32)) + (1 : Int32)))).bind fun (r5, u7) =>
          if 0 ≤ r5 then
            match u7.2.2 0 with
            | none =>
              none
            | some p8 =>
              if p8 < 5 then
                (f_X3_addStep p8 (nI (li (pk T L i))) (cS (pk T L (i + 1))) r5 u7).bind fun r11 =>
                some ((1 : Int32), r11)
              else none
          else
          some ((0 : Int32), u7)) = some (r, u') ∧ ((r = 0 ∧ ∃ j, (match nmT T L (i + 2) with | none => (.inl (i + 2) : Nat ⊕ (Tok × Nat)) | some x => .inr ((li (pk T L i), pk T L (i + 1) - 60, x.1), x.2)) = .inl j ∧ CE u0 u' p g0 L j ts) ∨ (r = 1 ∧ ∃ t j, (match nmT T L (i + 2) with | none => (.inl (i + 2) : Nat ⊕ (Tok × Nat)) | some x => .inr ((li (pk T L i), pk T L (i + 1) - 60, x.1), x.2)) = .inr (t, j) ∧ CE u0 u' p g0 L j (ts ++ [t]))) := by
        rcases c_num hx hc2 with ⟨d, j, u', b1, b2, b3⟩ | ⟨b1, b2⟩
        · obtain ⟨k1, k2, k3⟩ := nmT_lt b1
          rw [b2, b1, Option.bind_some]
          dsimp only
          rw [if_pos (nI_pos' (by omega)), show u'.2.2 0 = some p from (b3.1.2.2 _ rfl).trans hx.2.2.1]
          dsimp only
          rw [if_pos hx.2.1]
          obtain ⟨u2, d1, d2⟩ := c_add (t := (li (pk T L i), pk T L (i + 1) - 60, d)) (a := nI (li (pk T L i))) (b := cS (pk T L (i + 1))) (c := nI d) b3 (by omega) rfl (fun _ => ⟨e2, rfl⟩)
          rw [d1, Option.bind_some]
          exact ⟨_, _, rfl, Or.inr ⟨rfl, _, _, rfl, d2⟩⟩
        · rw [b2, b1, Option.bind_some]
          dsimp only
          rw [if_neg (by decide)]
          exact ⟨_, _, rfl, Or.inl ⟨rfl, _, rfl, hc2⟩⟩
      by_cases z1 : pk T L (i + 1) = 60
      · rw [if_pos (show cS (pk T L (i + 1)) = (60 : Int32) from q60.mpr z1)]
        exact rest
      · rw [if_neg (show ¬ cS (pk T L (i + 1)) = (60 : Int32) from fun z => z1 (q60.mp z))]
        by_cases z2 : pk T L (i + 1) = 61
        · rw [if_pos (show cS (pk T L (i + 1)) = (61 : Int32) from q61.mpr z2)]
          exact rest
        · rw [if_neg (show ¬ cS (pk T L (i + 1)) = (61 : Int32) from fun z => z2 (q61.mp z)), if_pos (show cS (pk T L (i + 1)) = (62 : Int32) from q62.mpr (by omega))]
          exact rest
    · rw [if_neg h2, if_neg (show ¬ cS (pk T L (i + 1)) = (60 : Int32) from fun z => h2 (Or.inl (q60.mp z))), if_neg (show ¬ cS (pk T L (i + 1)) = (61 : Int32) from fun z => h2 (Or.inr (Or.inl (q61.mp z)))), if_neg (show ¬ cS (pk T L (i + 1)) = (62 : Int32) from fun z => h2 (Or.inr (Or.inr (q62.mp z))))]
      exact ⟨_, _, rfl, Or.inl ⟨rfl, _, rfl, hc1⟩⟩
  · rw [if_neg h1]
    have out : ∃ r u', some ((0 : Int32), u) = some (r, u') ∧ ((r = 0 ∧ ∃ j, (.inl i : Nat ⊕ (Tok × Nat)) = .inl j ∧ CE u0 u' p g0 L j ts) ∨ (r = 1 ∧ ∃ t j, (.inl i : Nat ⊕ (Tok × Nat)) = .inr (t, j) ∧ CE u0 u' p g0 L j (ts ++ [t]))) := ⟨_, _, rfl, Or.inl ⟨rfl, _, rfl, hc⟩⟩
    by_cases e : pk T L i = 256
    · rw [show cS (pk T L i) = -1 from if_pos e, if_neg (by decide)]
      exact out
    · have hlt := pkT_lt hx i
      rw [show cS (pk T L i) = nI (pk T L i) from if_neg e, if_pos (nI_pos' (by omega)), c_let (by omega), Option.bind_some, if_neg h1, if_neg (by decide)]
      exact out
theorem m_test {k : Nat} (hx : Ctx u0 w0 p L T) (hm : ME w0 w p g0 cc L i ts (List.replicate k 33 ++ S)) (hS : S.head? ≠ some 33) : ∃ r w', f_X10_takesTest w = some (r, w') ∧ ((r = 0 ∧ ∃ j, ttT T L i = .inl j ∧ w'.1 (40, 0, 0) 16 = nI j ∧ eqx (gM p g0 cc) w0 w') ∨ (r = 1 ∧ ∃ t j, ttT T L i = .inr (t, j) ∧ ME w0 w' p g0 cc L j (ts ++ [t] ++ List.replicate k tNOT) S)) := by
  have hLL := hx.1
  unfold f_X10_takesTest ttT
  rw [m_nx hx hm, Option.bind_some, m_let (pkT_lt hx i), Option.bind_some]
  by_cases h1 : li (pk T L i) < 6
  · have h256 := li_256 h1
    have hi := pk_i (T := T) (i := i) rfl h256
    rw [if_pos h1, if_pos h1, if_pos (nI_pos' (by omega))]
    have hm1 := m_at (j := i + 1) (x := w.1 (40, 0, 0) 16 + (1 : Int32)) hm (by rw [hm.2.1, nI_1]) (by omega) (by omega)
    rw [m_nx hx hm1, Option.bind_some, m_in, m_sgn _ (pkT_lt hx (i + 1)), Option.bind_some]
    by_cases h2 : pk T L (i + 1) = 60 ∨ pk T L (i + 1) = 61 ∨ pk T L (i + 1) = 62
    · rw [if_pos h2, if_pos h2, if_neg one_ne]
      have hi2 : i + 1 < L := pk_i (T := T) (c := pk T L (i + 1)) rfl (by omega)
      have hm2 := m_at (j := i + 2) (x := w.1 (40, 0, 0) 16 + (1 : Int32) + (1 : Int32)) hm1 (by rw [hm.2.1, nI_1, nI_1]) (by omega) (by omega)
      rcases m_num hx hm2 with ⟨d, j, w', b1, b2, b3, b4, b5⟩ | ⟨b1, b2⟩
      · obtain ⟨k1, k2, k3⟩ := nmT_lt b1
        rw [b2, b1, Option.bind_some]
        dsimp only
        have e2 : mS (pk T L (i + 1)) - (60 : Int32) = nI (pk T L (i + 1) - 60) := by
          rw [show mS (pk T L (i + 1)) = nI (pk T L (i + 1)) from (if_neg (by omega)).trans (if_pos (by omega)), L_60, i_sub (by omega)]
        have e3 : ((1000 : Int32) * nI (li (pk T L i)) + (100 : Int32) * (mS (pk T L (i + 1)) - (60 : Int32))) + w'.1 (40, 0, 0) 17 = cdM (li (pk T L i), pk T L (i + 1) - 60, d) := by
          rw [e2, b4, L_1000, L_100, pk_mul, pk_mul, nI_add, nI_add]
          unfold cdM
          rw [if_neg (show ¬ (li (pk T L i), pk T L (i + 1) - 60, d).1 = 6 by show ¬ li (pk T L i) = 6; omega), if_neg (show ¬ (li (pk T L i), pk T L (i + 1) - 60, d).1 = 7 by show ¬ li (pk T L i) = 7; omega), if_neg (show ¬ (li (pk T L i), pk T L (i + 1) - 60, d).1 = 8 by show ¬ li (pk T L i) = 8; omega)]
        have hb := hm.2.2.2.2.2.2.2.2.1
        obtain ⟨w3, f1, f2⟩ := m_put b3 hx.2.1 hLL (by omega) e3
        obtain ⟨w4, f3, f4⟩ := m_wholeF hx.2.1 hLL hS f2
        rw [if_neg one_ne, f1, Option.bind_some, f3, Option.bind_some]
        exact ⟨_, _, rfl, Or.inr ⟨rfl, _, _, rfl, f4⟩⟩
      · rw [b2, b1, Option.bind_some]
        dsimp only
        rw [if_pos rfl]
        exact ⟨_, _, rfl, Or.inl ⟨rfl, _, rfl, hm2.2.1, hm2.1⟩⟩
    · rw [if_neg h2, if_neg h2, if_pos rfl]
      exact ⟨_, _, rfl, Or.inl ⟨rfl, _, rfl, hm1.2.1, hm1.1⟩⟩
  · rw [if_neg h1, if_neg h1, if_neg (by decide)]
    exact ⟨_, _, rfl, Or.inl ⟨rfl, _, rfl, hm.2.1, hm.1⟩⟩
end EL
