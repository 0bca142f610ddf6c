/-! words, figures, clauses: what a text's clause is on both sides -/
def MWs (w : PM) (L : Nat) (T : Nat → Nat) (i : Nat) : Prop := w.1 (40, 0, 0) 15 = nI L ∧ (∀ k, k < L → w.1 (50, 0, 0) k = sB (T k)) ∧ (∀ k, k < 19 → w.1 (59, 0, 0) k = wlA.getD k 0) ∧ w.1 (40, 0, 0) 16 = nI i ∧ i ≤ L
theorem MWs_fr {g : Key → Nat → Bool} {w w' : PM} {L i j : Nat} {T : Nat → Nat} (h : MWs w L T i) (he : eqx g w w') (h15 : g (40, 0, 0) 15 = false) (h50 : ∀ k, g (50, 0, 0) k = false) (h59 : ∀ k, g (59, 0, 0) k = false) (h16 : w'.1 (40, 0, 0) 16 = nI j) (hj : j ≤ L) : MWs w' L T j :=
  ⟨(he.1 _ _ h15).trans h.1, fun k hk => (he.1 _ _ (h50 k)).trans (h.2.1 k hk), fun k hk => (he.1 _ _ (h59 k)).trans (h.2.2.1 k hk), h16, hj⟩
def mt (T : Nat → Nat) (L : Nat) : List Nat → Nat → Bool × Nat
  | [], i => (true, i)
  | c :: cs, i => if pk T L i = c then mt T L cs (i + 1) else (false, i)
theorem mt_app {T : Nat → Nat} {L : Nat} : ∀ (a b : List Nat) (i : Nat), mt T L (a ++ b) i = if (mt T L a i).1 = true then mt T L b (mt T L a i).2 else mt T L a i
  | [], b, i => rfl
  | c :: a, b, i => by
    show (if pk T L i = c then mt T L (a ++ b) (i + 1) else (false, i)) = if (if pk T L i = c then mt T L a (i + 1) else (false, i)).1 = true then mt T L b (if pk T L i = c then mt T L a (i + 1) else (false, i)).2 else (if pk T L i = c then mt T L a (i + 1) else (false, i))
    by_cases h : pk T L i = c
    · rw [if_pos h, if_pos h]
      exact mt_app a b (i + 1)
    · rw [if_neg h, if_neg h]
      rfl
theorem mt_le {T : Nat → Nat} {L : Nat} : ∀ (a : List Nat) (i : Nat), i ≤ L → (∀ c, c ∈ a → c < 256) → (mt T L a i).2 ≤ L ∧ i ≤ (mt T L a i).2 ∧ ((mt T L a i).1 = true → (mt T L a i).2 = i + a.length)
  | [], i, h, _ => ⟨h, Nat.le_refl _, fun _ => rfl⟩
  | c :: a, i, h, hc => by
    unfold mt
    by_cases e : pk T L i = c
    · rw [if_pos e]
      have hi := pk_i e (hc c List.mem_cons_self)
      obtain ⟨h1, h2, h3⟩ := mt_le a (i + 1) hi (fun x hx => hc x (List.mem_cons_of_mem _ hx))
      exact ⟨h1, by omega, fun z => by rw [h3 z, List.length_cons]; omega⟩
    · rw [if_neg e]
      exact ⟨h, Nat.le_refl _, fun z => by cases z⟩
/-- the class's texts -/
def tX : List (List Nat) := [[111, 117, 116], [98, 117, 114, 110], [104, 111, 114, 110], [110, 101], [120, 116], [101, 100]]
theorem tX_len0 : ∀ t, t < 6 → f_J0_length_8abf5 t pm0 = some (nI (tX.getD t []).length) := by decide +kernel
theorem tX_at0 : ∀ t, t < 6 → ∀ k, k < (tX.getD t []).length → f_J0_charAt_5068e t (nI k) pm0 = some (nI ((tX.getD t []).getD k 0)) := by decide +kernel
theorem tX_len {t : Nat} (h : t < 6) (u : PM) : f_J0_length_8abf5 t u = some (nI (tX.getD t []).length) := (show f_J0_length_8abf5 t u = f_J0_length_8abf5 t pm0 from rfl).trans (tX_len0 t h)
theorem tX_at {t k : Nat} (h : t < 6) (hk : k < (tX.getD t []).length) (u : PM) : f_J0_charAt_5068e t (nI k) u = some (nI ((tX.getD t []).getD k 0)) := (show f_J0_charAt_5068e t (nI k) u = f_J0_charAt_5068e t (nI k) pm0 from rfl).trans (tX_at0 t h k hk)
theorem tX_l : ∀ t, t < 6 → (tX.getD t []).length < 10 := by decide
section WD
variable {u0 u w0 w : PM} {p g0 L i : Nat} {T : Nat → Nat} {ts : List Tok}
theorem c_alls_l (hx : Ctx u0 w0 p L T) {t : Nat} (ht : t < 6) : ∀ (ls : List Nat) (k i n : Nat) (u : PM), (∀ j, j < ls.length → (tX.getD t []).getD (k + j) 0 = ls.getD j 0 ∧ ls.getD j 0 < 128) → (tX.getD t []).length = k + ls.length → ls.length < n → CE u0 u p g0 L i ts → ∃ e, am_loop (f_X6_takeAll_L2 t) n (nI k, u) = some e ∧ (((mt T L ls i).1 = true ∧ ∃ u', e = .inr u' ∧ CE u0 u' p g0 L (mt T L ls i).2 ts) ∨ ((mt T L ls i).1 = false ∧ ∃ u', e = .inl ((0 : Int32), u') ∧ CE u0 u' p g0 L (mt T L ls i).2 ts))
  | [], k, i, 0, u, _, _, h, _ => by simp at h
  | [], k, i, n + 1, u, _, hl, _, hc => by
    have hl : (tX.getD t []).length = k := hl
    refine ⟨_, am_loop_e (e := .inr u) ?_, Or.inl ⟨rfl, u, rfl, hc⟩⟩
    unfold f_X6_takeAll_L2
    dsimp only
    rw [tX_len ht, Option.bind_some, hl, if_pos (Int32.le_refl _)]
  | c :: ls, k, i, 0, u, _, _, h, _ => by simp at h
  | c :: ls, k, i, n + 1, u, h1, hl, hn, hc => by
    rw [List.length_cons] at hl hn
    have hb := tX_l t ht
    obtain ⟨h2, h3⟩ := h1 0 (by simp)
    have h2 : (tX.getD t []).getD k 0 = c := h2
    have h3 : c < 128 := h3
    have step : f_X6_takeAll_L2 t (nI k, u) = (f_X6_take (nI c) u).bind (fun (x : Int32 × PM) => if x.1 = 0 then some (.inr (.inl ((0 : Int32), x.2))) else some (.inl (nI (k + 1), x.2))) := by
      unfold f_X6_takeAll_L2
      dsimp only
      rw [tX_len ht, Option.bind_some, if_neg (nI_ge (show k < (tX.getD t []).length by omega) (by omega)), tX_at ht (show k < (tX.getD t []).length by omega), Option.bind_some, h2, nI_1]
    unfold mt
    rcases c_tk hx hc h3 with ⟨e1, u1, a1, a2⟩ | ⟨e1, a1⟩
    · rw [if_pos e1]
      obtain ⟨e, b1, b2⟩ := c_alls_l hx ht ls (k + 1) (i + 1) n u1 (fun j hj => by
        have := h1 (j + 1) (by rw [List.length_cons]; omega)
        rw [show k + 1 + j = k + (j + 1) by omega]
        exact this) (by omega) (by omega) a2
      refine ⟨e, (am_loop_s ?_).trans b1, b2⟩
      rw [step, a1, Option.bind_some]
      dsimp only
      rw [if_neg one_ne]
    · rw [if_neg e1]
      refine ⟨_, am_loop_e (e := .inl ((0 : Int32), u)) ?_, Or.inr ⟨rfl, u, rfl, hc⟩⟩
      rw [step, a1, Option.bind_some]
      dsimp only
      rw [if_pos rfl]
theorem c_alls (hx : Ctx u0 w0 p L T) {t : Nat} (ht : t < 6) (hc : CE u0 u p g0 L i ts) : ((mt T L (tX.getD t []) i).1 = true ∧ ∃ u', f_X6_takeAll t u = some (1, u') ∧ CE u0 u' p g0 L (mt T L (tX.getD t []) i).2 ts) ∨ ((mt T L (tX.getD t []) i).1 = false ∧ ∃ u', f_X6_takeAll t u = some (0, u') ∧ CE u0 u' p g0 L (mt T L (tX.getD t []) i).2 ts) := by
  have hb := tX_l t ht
  obtain ⟨e, b1, b2⟩ := c_alls_l hx ht (tX.getD t []) 0 i 2000 u (fun j hj => ⟨by rw [Nat.zero_add], by
    have := (show ∀ t, t < 6 → ∀ j, j < (tX.getD t []).length → (tX.getD t []).getD j 0 < 128 by decide) t ht j hj
    exact this⟩) (by omega) (by omega) hc
  unfold f_X6_takeAll
  rw [show am_loop (f_X6_takeAll_L2 t) 2000 ((0 : Int32), u) = _ from b1, Option.bind_some]
  rcases b2 with ⟨c1, u', rfl, c2⟩ | ⟨c1, u', rfl, c2⟩
  · exact Or.inl ⟨c1, u', rfl, c2⟩
  · exact Or.inr ⟨c1, u', rfl, c2⟩
theorem n_nx (hx : Ctx u0 w0 p L T) (hm : MWs w L T i) : f_X10_next w = some (mS (pk T L i)) := by
  obtain ⟨x1, x2, x3, x4, x5, x6⟩ := hx
  obtain ⟨c1, c4, c5, c2, c3⟩ := hm
  unfold f_X10_next
  rw [c2, c1]
  unfold pk mS
  by_cases h : i < L
  · obtain ⟨h1, -, -⟩ := x6 i h
    rw [if_neg (nI_ge h (by omega)), if_neg (nI_in (show i < 100 by omega) (by omega)), nI_clamp (show i < 2 ^ 31 by omega), if_pos h, if_neg (show ¬ T i = 256 by omega), c4 i h]
  · rw [if_pos (nI_le (show L ≤ i by omega) (by omega)), if_neg h, if_pos rfl]
theorem n_third (hx : Ctx u0 w0 p L T) (hm : MWs w L T i) : f_X10_third w = some (mS (pk T L (i + 2))) := by
  obtain ⟨x1, x2, x3, x4, x5, x6⟩ := hx
  obtain ⟨c1, c4, c5, c2, c3⟩ := hm
  unfold f_X10_third
  rw [c2, c1, L_2, nI_add]
  unfold pk mS
  by_cases h : i + 2 < L
  · obtain ⟨h1, h2, h3⟩ := x6 (i + 2) h
    rw [if_neg (nI_ge h (by omega)), if_neg (nI_in (show i + 2 < 100 by omega) (by omega)), nI_clamp (show i + 2 < 2 ^ 31 by omega), if_pos h, if_neg (show ¬ T (i + 2) = 256 by omega), c4 (i + 2) h]
  · rw [if_pos (nI_le (show L ≤ i + 2 by omega) (by omega)), if_neg h, if_pos rfl]
theorem n_tk (hx : Ctx u0 w0 p L T) (hm : MWs w L T i) {c : Nat} (h128 : c < 128) : (pk T L i = c ∧ ∃ w', f_X10_takesSign (nI c) w = some (1, w') ∧ MWs w' L T (i + 1) ∧ eqx g17 w w') ∨ (pk T L i ≠ c ∧ f_X10_takesSign (nI c) w = some (0, w)) := by
  unfold f_X10_takesSign
  rw [n_nx hx hm, Option.bind_some]
  simp only [mS_eq (pkT_lt hx i) h128]
  by_cases h : pk T L i = c
  · rw [if_pos h, hm.2.2.2.1, nI_1]
    have he : eqx g17 w (pi w (40, 0, 0) 16 (nI (i + 1))) := eqx.rf.pi rfl
    exact Or.inl ⟨h, _, rfl, MWs_fr hm he rfl (fun _ => rfl) (fun _ => rfl) (p_at _ _ _ _) (pk_i h (by omega)), he⟩
  · rw [if_neg h]
    exact Or.inr ⟨h, rfl⟩
theorem n_isD (hx : Ctx u0 w0 p L T) (hm : MWs w L T i) : f_X10_isDigit w = some (if isD (pk T L i) = true then 1 else 0) := by
  unfold f_X10_isDigit
  rw [n_nx hx hm, Option.bind_some, m_in, m_dig _ (pkT_lt hx i), Option.bind_some]
  by_cases e : isD (pk T L i) = true
  · rw [if_pos e]; rfl
  · rw [if_neg e]; rfl
theorem n_num (hx : Ctx u0 w0 p L T) (hm : MWs w L T i) : (∃ d j w', nmT T L i = some (d, j) ∧ f_X10_takesNumber w = some (1, w') ∧ MWs w' L T j ∧ w'.1 (40, 0, 0) 17 = nI d ∧ eqx g17 w w') ∨ (nmT T L i = none ∧ f_X10_takesNumber w = some (0, w)) := by
  unfold f_X10_takesNumber nmT
  rw [n_isD hx hm, Option.bind_some]
  by_cases e : isD (pk T L i) = true
  · have hd := isD_lt e
    have hi : i < L := pk_i (T := T) rfl (by omega)
    rw [if_pos e, if_pos e, if_neg one_ne]
    have hm0 : MWs (pi w (40, 0, 0) 17 (0 : Int32)) L T i := MWs_fr (g := g17) hm (eqx.rf.pi rfl) rfl (fun _ => rfl) (fun _ => rfl) (by rw [p_i, if_neg (by simp)]; exact hm.2.2.2.1) hm.2.2.2.2
    have step : ∀ (t : PM) (x a j : Nat), x < 2 → a < 10 → MWs t L T j → t.1 (40, 0, 0) 17 = nI a → isD (pk T L j) = true → ∃ t', f_X10_takesNumber_L16 (nI x, t) = some (.inl (nI (x + 1), t')) ∧ MWs t' L T (j + 1) ∧ t'.1 (40, 0, 0) 17 = nI (10 * a + (pk T L j - 48)) ∧ eqx g17 t t' := fun t x a j h2 ha ht h17 hdj => by
      have hj : j < L := pk_i (T := T) rfl (by have := isD_lt hdj; omega)
      unfold f_X10_takesNumber_L16
      dsimp only
      rw [if_neg (show ¬ (2 : Int32) ≤ nI x from nI_ge (b := 2) h2 (by omega)), n_isD hx ht, Option.bind_some, if_pos hdj, if_neg one_ne, n_nx hx ht, Option.bind_some, h17, m_digv _ (pkT_lt hx j) hdj a ha, nI_1, ht.2.2.2.1, nI_1]
      refine ⟨_, rfl, MWs_fr (g := g17) ht ((eqx.rf.pi rfl).pi rfl) rfl (fun _ => rfl) (fun _ => rfl) (p_at _ _ _ _) hj, ?_, (eqx.rf.pi rfl).pi rfl⟩
      rw [p_i, if_neg (by simp)]
      exact p_at _ _ _ _
    obtain ⟨t1, a1, a2, a3, a4⟩ := step _ 0 0 i (by omega) (by omega) hm0 (p_at _ _ _ _) e
    by_cases e2 : isD (pk T L (i + 1)) = true
    · obtain ⟨t2, b1, b2, b3, b4⟩ := step t1 1 _ (i + 1) (by omega) (by omega) a2 a3 e2
      rw [if_pos e2]
      left
      refine ⟨_, _, t2, rfl, ?_, b2, ?_, ((eqx.rf.pi rfl).tr a4).tr b4⟩
      · rw [show am_loop f_X10_takesNumber_L16 2000 ((0 : Int32), pi w (40, 0, 0) 17 (0 : Int32)) = _ from (am_loop_s (n := 1999) a1).trans ((am_loop_s (n := 1998) b1).trans (am_loop_e (n := 1997) (e := t2) (by
          unfold f_X10_takesNumber_L16
          dsimp only
          rw [if_pos (by decide)])))]
        rfl
      · rw [b3]
        congr 1
        omega
    · rw [if_neg e2]
      left
      refine ⟨_, _, t1, rfl, ?_, a2, ?_, (eqx.rf.pi rfl).tr a4⟩
      · rw [show am_loop f_X10_takesNumber_L16 2000 ((0 : Int32), pi w (40, 0, 0) 17 (0 : Int32)) = _ from (am_loop_s (n := 1999) a1).trans (am_loop_e (n := 1998) (e := t1) (by
          unfold f_X10_takesNumber_L16
          dsimp only
          rw [if_neg (by decide), n_isD hx a2, Option.bind_some, if_neg e2, if_pos rfl]))]
        rfl
      · rw [a3]
        congr 1
        omega
  · rw [if_neg e, if_neg e, if_pos rfl]
    exact Or.inr ⟨rfl, rfl⟩
theorem n_word_l (hx : Ctx u0 w0 p L T) {a m : Nat} (ham : a + m ≤ 19) : ∀ (ls : List Nat) (k i n : Nat) (w : PM), (∀ j, j < ls.length → wlA.getD (a + (k + j)) 0 = nI (ls.getD j 0) ∧ ls.getD j 0 < 128) → m = k + ls.length → ls.length < n → MWs w L T i → ∃ e, am_loop (f_X10_takesWord_L2 (nI a) (nI m)) n (nI k, w) = some e ∧ (((mt T L ls i).1 = true ∧ ∃ w', e = .inr w' ∧ MWs w' L T (mt T L ls i).2 ∧ eqx g17 w w') ∨ ((mt T L ls i).1 = false ∧ ∃ w', e = .inl ((0 : Int32), w') ∧ MWs w' L T (mt T L ls i).2 ∧ eqx g17 w w'))
  | [], k, i, 0, w, _, _, h, _ => by simp at h
  | [], k, i, n + 1, w, _, hl, _, hc => by
    have hl : m = k := hl
    refine ⟨_, am_loop_e (e := .inr w) ?_, Or.inl ⟨rfl, w, rfl, hc, eqx.rf⟩⟩
    unfold f_X10_takesWord_L2
    dsimp only
    rw [hl, if_pos (Int32.le_refl _)]
  | c :: ls, k, i, 0, w, _, _, h, _ => by simp at h
  | c :: ls, k, i, n + 1, w, h1, hl, hn, hc => by
    rw [List.length_cons] at hl hn
    obtain ⟨h2, h3⟩ := h1 0 (by simp)
    have h2 : wlA.getD (a + k) 0 = nI c := h2
    have h3 : c < 128 := h3
    have step : f_X10_takesWord_L2 (nI a) (nI m) (nI k, w) = (f_X10_takesSign (nI c) w).bind (fun (x : Int32 × PM) => if x.1 = 0 then some (.inr (.inl ((0 : Int32), x.2))) else some (.inl (nI (k + 1), x.2))) := by
      unfold f_X10_takesWord_L2
      dsimp only
      rw [if_neg (nI_ge (show k < m by omega) (by omega)), nI_add, if_neg (nI_in (show a + k < 19 by omega) (by omega)), nI_clamp (show a + k < 2 ^ 31 by omega), show w.1 (59, 0, 0) (a + k) = nI c from (hc.2.2.1 _ (by omega)).trans h2, nI_1]
    unfold mt
    rcases n_tk hx hc h3 with ⟨e1, w1, a1, a2, a3⟩ | ⟨e1, a1⟩
    · rw [if_pos e1]
      obtain ⟨e, b1, b2⟩ := n_word_l hx ham ls (k + 1) (i + 1) n w1 (fun j hj => by
        have := h1 (j + 1) (by rw [List.length_cons]; omega)
        rw [show k + 1 + j = k + (j + 1) by omega]
        exact this) (by omega) (by omega) a2
      refine ⟨e, (am_loop_s ?_).trans b1, ?_⟩
      · rw [step, a1, Option.bind_some]
        dsimp only
        rw [if_neg one_ne]
      · rcases b2 with ⟨d1, w', d2, d3, d4⟩ | ⟨d1, w', d2, d3, d4⟩
        · exact Or.inl ⟨d1, w', d2, d3, a3.tr d4⟩
        · exact Or.inr ⟨d1, w', d2, d3, a3.tr d4⟩
    · rw [if_neg e1]
      refine ⟨_, am_loop_e (e := .inl ((0 : Int32), w)) ?_, Or.inr ⟨rfl, w, rfl, hc, eqx.rf⟩⟩
      rw [step, a1, Option.bind_some]
      dsimp only
      rw [if_pos rfl]
/-- a word and the blank behind it -/
theorem n_word (hx : Ctx u0 w0 p L T) {a m : Nat} (ham : a + m ≤ 19) {ls : List Nat} (hls : ∀ j, j < ls.length → wlA.getD (a + (0 + j)) 0 = nI (ls.getD j 0) ∧ ls.getD j 0 < 128) (hl : m = ls.length) (hc : MWs w L T i) : ∃ r w', f_X10_takesWord (nI a) (nI m) w = some (r, w') ∧ eqx g17 w w' ∧ (((mt T L ls i).1 = true ∧ pk T L (mt T L ls i).2 = 32 ∧ r = 1 ∧ MWs w' L T ((mt T L ls i).2 + 1)) ∨ (((mt T L ls i).1 = false ∨ pk T L (mt T L ls i).2 ≠ 32) ∧ r = 0 ∧ MWs w' L T (mt T L ls i).2)) := by
  obtain ⟨e, b1, b2⟩ := n_word_l hx ham ls 0 i 2000 w hls (by omega) (by omega) hc
  unfold f_X10_takesWord
  rw [show am_loop (f_X10_takesWord_L2 (nI a) (nI m)) 2000 ((0 : Int32), w) = _ from b1, Option.bind_some]
  rcases b2 with ⟨c1, w', rfl, c2, c3⟩ | ⟨c1, w', rfl, c2, c3⟩
  · dsimp only
    rcases n_tk hx c2 (c := 32) (by omega) with ⟨e1, w1, a1, a2, a3⟩ | ⟨e1, a1⟩
    · rw [show f_X10_takesSign (32 : Int32) w' = _ from a1, Option.bind_some]
      dsimp only
      rw [if_pos (Or.inr rfl)]
      exact ⟨_, _, rfl, c3.tr a3, Or.inl ⟨c1, e1, rfl, a2⟩⟩
    · rw [show f_X10_takesSign (32 : Int32) w' = _ from a1, Option.bind_some]
      dsimp only
      rw [if_pos (Or.inl rfl)]
      exact ⟨_, _, rfl, c3, Or.inr ⟨Or.inr e1, rfl, c2⟩⟩
  · exact ⟨_, _, rfl, c3, Or.inr ⟨Or.inl c1, rfl, c2⟩⟩
end WD
