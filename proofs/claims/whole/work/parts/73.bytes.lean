/-! the text and its reading: bytes on both sides -/
def sB (n : Nat) : Int32 := if n < 128 then nI n else nI n - nI 256
def cS (n : Nat) : Int32 := if n = 256 then -1 else nI n
def mS (n : Nat) : Int32 := if n = 256 then -1 else sB n
def pk (T : Nat → Nat) (L i : Nat) : Nat := if i < L then T i else 256
theorem m1_ne {c : Nat} (hc : c < 128) : ¬ (-1 : Int32) = nI c := fun z => by
  have := congrArg Int32.toInt z
  rw [nI_toInt (by omega), show (-1 : Int32).toInt = -1 by decide] at this
  omega
theorem cS_eq {p c : Nat} (hp : p < 257) (hc : c < 128) : (cS p = nI c) = (p = c) := by
  unfold cS
  by_cases e : p = 256
  · rw [if_pos e]
    exact propext ⟨fun z => absurd z (m1_ne hc), fun z => by omega⟩
  · rw [if_neg e]
    exact propext (nI_eq (by omega) (by omega))
theorem mS_eq {p c : Nat} (hp : p < 257) (hc : c < 128) : (mS p = nI c) = (p = c) := by
  unfold mS sB
  by_cases e : p = 256
  · rw [if_pos e]
    exact propext ⟨fun z => absurd z (m1_ne hc), fun z => by omega⟩
  · rw [if_neg e]
    by_cases e2 : p < 128
    · rw [if_pos e2]
      exact propext (nI_eq (by omega) (by omega))
    · rw [if_neg e2]
      refine propext ⟨fun z => ?_, fun z => by omega⟩
      have := congrArg Int32.toInt z
      rw [nI_toInt (by omega), pk_sub_toInt (by omega) (by omega)] at this
      omega
def isD (p : Nat) : Bool := decide (48 ≤ p) && decide (p ≤ 57)
def isW (p : Nat) : Bool := decide (48 ≤ p) && decide (p ≤ 50)
theorem c_dig : ∀ p, p < 257 → if isD p = true then (¬ (cS p - (48 : Int32) < 0) ∧ cS p - (48 : Int32) ≤ (9 : Int32) ∧ cS p - (48 : Int32) = nI (p - 48)) else (cS p - (48 : Int32) < 0 ∨ ¬ (cS p - (48 : Int32) ≤ (9 : Int32))) := by decide +kernel
theorem c_wea : ∀ p, p < 257 → if isW p = true then (¬ (cS p - (48 : Int32) < 0) ∧ cS p - (48 : Int32) < (3 : Int32) ∧ cS p - (48 : Int32) = nI (p - 48)) else (cS p - (48 : Int32) < 0 ∨ ¬ (cS p - (48 : Int32) < (3 : Int32))) := by decide +kernel
theorem m_dig : ∀ p, p < 257 → (if mS p < (48 : Int32) ∨ (57 : Int32) < mS p then (0 : Int32) else 1) = if isD p = true then 1 else 0 := by decide +kernel
theorem m_wea : ∀ p, p < 257 → (if mS p < (48 : Int32) ∨ (50 : Int32) < mS p then (0 : Int32) else 1) = if isW p = true then 1 else 0 := by decide +kernel
theorem m_sgn : ∀ p, p < 257 → (if mS p < (60 : Int32) ∨ (62 : Int32) < mS p then (0 : Int32) else 1) = if p = 60 ∨ p = 61 ∨ p = 62 then 1 else 0 := by decide +kernel
theorem m_digv : ∀ p, p < 257 → isD p = true → ∀ a, a < 10 → ((10 : Int32) * nI a) + mS p - (48 : Int32) = nI (10 * a + (p - 48)) := by decide +kernel
theorem m_weav : ∀ p, p < 257 → isW p = true → ∀ a, a < 3 → ((3 : Int32) * nI a) + mS p - (48 : Int32) = nI (3 * a + (p - 48)) := by decide +kernel
def li (p : Nat) : Nat := if p = 119 then 0 else if p = 104 then 1 else if p = 105 then 2 else if p = 107 then 3 else if p = 109 then 4 else if p = 97 then 5 else 6
theorem c_let0 : ∀ p, p < 256 → f_J0_indexOf_0f7a4 6 (((nI p).toUInt32 % 65536).toInt32) pm0 = some (if li p < 6 then nI (li p) else -1) := by decide +kernel
theorem m_let0 : ∀ p, p < 257 → f_X10_place (mS p) pm0 = some (if li p < 6 then nI (li p) else -1) := by decide +kernel
theorem c_let {p : Nat} (h : p < 256) (u : PM) : f_J0_indexOf_0f7a4 6 (((nI p).toUInt32 % 65536).toInt32) u = some (if li p < 6 then nI (li p) else -1) := (show f_J0_indexOf_0f7a4 6 (((nI p).toUInt32 % 65536).toInt32) u = f_J0_indexOf_0f7a4 6 (((nI p).toUInt32 % 65536).toInt32) pm0 from rfl).trans (c_let0 p h)
theorem m_let {p : Nat} (h : p < 257) (w : PM) : f_X10_place (mS p) w = some (if li p < 6 then nI (li p) else -1) := (show f_X10_place (mS p) w = f_X10_place (mS p) pm0 from rfl).trans (m_let0 p h)
theorem isD_lt {p : Nat} (h : isD p = true) : 48 ≤ p ∧ p ≤ 57 := by
  unfold isD at h
  simpa using h
theorem isW_lt {p : Nat} (h : isW p = true) : 48 ≤ p ∧ p ≤ 50 := by
  unfold isW at h
  simpa using h
/-- the number at a place, and the place behind it -/
def nmT (T : Nat → Nat) (L i : Nat) : Option (Nat × Nat) := if isD (pk T L i) = true then (if isD (pk T L (i + 1)) = true then some (10 * (pk T L i - 48) + (pk T L (i + 1) - 48), i + 2) else some (pk T L i - 48, i + 1)) else none
theorem nmT_lt {T : Nat → Nat} {L i d j : Nat} (h : nmT T L i = some (d, j)) : d < 100 ∧ i < j ∧ j ≤ L := by
  unfold nmT at h
  by_cases e : isD (pk T L i) = true
  · have h1 := isD_lt e
    have hi : i < L := by
      unfold pk at h1
      split at h1 <;> omega
    rw [if_pos e] at h
    by_cases e2 : isD (pk T L (i + 1)) = true
    · have h2 := isD_lt e2
      have hi2 : i + 1 < L := by
        unfold pk at h2
        split at h2 <;> omega
      rw [if_pos e2] at h
      cases h
      omega
    · rw [if_neg e2] at h
      cases h
      omega
  · rw [if_neg e] at h
    cases h
/-- what holds of both while a text is read into land p -/
def Ctx (u0 w0 : PM) (p L : Nat) (T : Nat → Nat) : Prop := L ≤ 100 ∧ p < 5 ∧ u0.2.2 0 = some p ∧ u0.1 (9, 0, 0) 1 = nI L ∧ w0.1 (40, 0, 0) 15 = nI L ∧ ∀ i, i < L → T i < 256 ∧ u0.1 (10, 0, 0) i = nI (T i) ∧ w0.1 (50, 0, 0) i = sB (T i)
def gE (p g0 : Nat) (q : Key) (k : Nat) : Bool := (q.1 == 9 && k == 2) || (q.1 == 11 && q.2.1 == p && k == 1) || (16 ≤ q.1 && q.1 ≤ 18 && q.2.1 == p && decide (g0 ≤ k))
def gM (p g0 cc : Nat) (q : Key) (k : Nat) : Bool := (q.1 == 40 && (k == 16 || k == 17 || k == 27 || k == 28 || k == 29)) || q.1 == 58 || (q.1 == 57 && decide (100 * p + g0 ≤ k) && decide (k < 100 * p + 100)) || (q.1 == 56 && k == cc)
def CE (u0 u : PM) (p g0 L i : Nat) (ts : List Tok) : Prop := eqx (gE p g0) u0 u ∧ u.1 (9, 0, 0) 2 = nI i ∧ i ≤ L ∧ u.1 (11, p, 0) 1 = nI ts.length ∧ tkC u p 0 ts ∧ g0 ≤ ts.length
def opn : List Nat → Nat
  | [] => 0
  | c :: st => (if c = 33 ∨ c = 40 then 1 else 0) + opn st
def stR (w : PM) (st : List Nat) : Prop := ∀ j, j < st.length → w.1 (58, 0, 0) (st.length - 1 - j) = nI (st.getD j 0) ∧ st.getD j 0 < 128
def ME (w0 w : PM) (p g0 cc L i : Nat) (ts : List Tok) (st : List Nat) : Prop := eqx (gM p g0 cc) w0 w ∧ w.1 (40, 0, 0) 16 = nI i ∧ i ≤ L ∧ w.1 (40, 0, 0) 27 = nI (100 * p + ts.length) ∧ tkM w (100 * p) ts ∧ w.1 (40, 0, 0) 28 = nI st.length ∧ w.1 (40, 0, 0) 29 = nI (opn st) ∧ stR w st ∧ ts.length + st.length ≤ i ∧ g0 ≤ ts.length
section RD
variable {u0 u w0 w : PM} {p g0 cc L i : Nat} {T : Nat → Nat} {ts : List Tok} {st : List Nat}
theorem pkT_lt (hx : Ctx u0 w0 p L T) (i : Nat) : pk T L i < 257 := by
  unfold pk
  split
  · next h => have := (hx.2.2.2.2.2 i h).1; omega
  · omega
theorem pk_i {c : Nat} (h : pk T L i = c) (hc : c < 256) : i < L := by
  unfold pk at h
  split at h <;> omega
theorem c_sg (hx : Ctx u0 w0 p L T) (hc : CE u0 u p g0 L i ts) : f_X6_sign u = some (cS (pk T L i)) := by
  obtain ⟨x1, x2, x3, x4, x5, x6⟩ := hx
  obtain ⟨c1, c2, c3, c4, c5, c6⟩ := hc
  unfold f_X6_sign
  rw [c2, if_neg (nI_pos (by omega)), show u.1 (9, 0, 0) 1 = nI L from (c1.1 _ _ rfl).trans x4]
  unfold pk cS
  by_cases h : i < L
  · obtain ⟨h1, h2, h3⟩ := x6 i h
    rw [if_neg (nI_ge h (by omega)), if_neg (show ¬ (100 : Int32) ≤ nI i from nI_ge (b := 100) (by omega) (by omega)), if_neg (nI_in (show i < 100 by omega) (by omega)), nI_clamp (show i < 2 ^ 31 by omega), if_pos h, if_neg (show ¬ T i = 256 by omega), show u.1 (10, 0, 0) i = nI (T i) from (c1.1 _ _ rfl).trans h2]
  · rw [if_pos (nI_le (show L ≤ i by omega) (by omega)), if_neg h, if_pos rfl]
theorem m_nx (hx : Ctx u0 w0 p L T) (hm : ME w0 w p g0 cc L i ts st) : f_X10_next w = some (mS (pk T L i)) := by
  obtain ⟨x1, x2, x3, x4, x5, x6⟩ := hx
  obtain ⟨c1, c2, c3, c4⟩ := hm
  unfold f_X10_next
  rw [c2, show w.1 (40, 0, 0) 15 = nI L from (c1.1 _ _ rfl).trans x5]
  unfold pk mS
  by_cases h : i < L
  · obtain ⟨h1, h2, h3⟩ := x6 i h
    rw [if_neg (nI_ge h (by omega)), if_neg (nI_in (show i < 100 by omega) (by omega)), nI_clamp (show i < 2 ^ 31 by omega), if_pos h, if_neg (show ¬ T i = 256 by omega), show w.1 (50, 0, 0) i = sB (T i) from (c1.1 _ _ rfl).trans h3]
  · rw [if_pos (nI_le (show L ≤ i by omega) (by omega)), if_neg h, if_pos rfl]
theorem tkC_fr {u u' : PM} {p : Nat} : ∀ {ts : List Tok} {a : Nat}, (∀ s k, 16 ≤ s → s ≤ 18 → k < a + ts.length → u'.1 (s, p, 0) k = u.1 (s, p, 0) k) → tkC u p a ts → tkC u' p a ts
  | [], _, _, _ => trivial
  | t :: ts, a, h, x => ⟨(h 16 a (by omega) (by omega) (by simp)).trans x.1, fun z => ⟨(h 17 a (by omega) (by omega) (by simp)).trans (x.2.1 z).1, (h 18 a (by omega) (by omega) (by simp)).trans (x.2.1 z).2⟩, tkC_fr (fun s k h1 h2 h3 => h s k h1 h2 (by simp only [List.length_cons]; omega)) x.2.2⟩
theorem tkM_fr {w w' : PM} : ∀ {ts : List Tok} {a : Nat}, (∀ k, k < a + ts.length → w'.1 (57, 0, 0) k = w.1 (57, 0, 0) k) → tkM w a ts → tkM w' a ts
  | [], _, _, _ => trivial
  | t :: ts, a, h, x => ⟨(h a (by simp)).trans x.1, tkM_fr (fun k h3 => h k (by simp only [List.length_cons]; omega)) x.2⟩
theorem tkC_app {u : PM} {p : Nat} : ∀ {ts ts' : List Tok} {a : Nat}, tkC u p a (ts ++ ts') ↔ tkC u p a ts ∧ tkC u p (a + ts.length) ts'
  | [], ts', a => ⟨fun h => ⟨trivial, h⟩, fun h => h.2⟩
  | t :: ts, ts', a => by
    show (_ ∧ _ ∧ tkC u p (a + 1) (ts ++ ts')) ↔ (_ ∧ _ ∧ tkC u p (a + 1) ts) ∧ tkC u p (a + (ts.length + 1)) ts'
    rw [tkC_app, show a + 1 + ts.length = a + (ts.length + 1) by omega]
    exact ⟨fun ⟨h1, h2, h3, h4⟩ => ⟨⟨h1, h2, h3⟩, h4⟩, fun ⟨⟨h1, h2, h3⟩, h4⟩ => ⟨h1, h2, h3, h4⟩⟩
theorem tkM_app {w : PM} : ∀ {ts ts' : List Tok} {a : Nat}, tkM w a (ts ++ ts') ↔ tkM w a ts ∧ tkM w (a + ts.length) ts'
  | [], ts', a => ⟨fun h => ⟨trivial, h⟩, fun h => h.2⟩
  | t :: ts, ts', a => by
    show (_ ∧ tkM w (a + 1) (ts ++ ts')) ↔ (_ ∧ tkM w (a + 1) ts) ∧ tkM w (a + (ts.length + 1)) ts'
    rw [tkM_app, show a + 1 + ts.length = a + (ts.length + 1) by omega]
    exact ⟨fun ⟨h1, h2, h3⟩ => ⟨⟨h1, h2⟩, h3⟩, fun ⟨⟨h1, h2⟩, h3⟩ => ⟨h1, h2, h3⟩⟩
theorem c_at {j : Nat} {x : Int32} (hc : CE u0 u p g0 L i ts) (hx : x = nI j) (hj : j ≤ L) : CE u0 (pi u (9, 0, 0) 2 x) p g0 L j ts := by
  obtain ⟨c1, c2, c3, c4, c5, c6⟩ := hc
  subst hx
  refine ⟨c1.pi rfl, p_at _ _ _ _, hj, ?_, tkC_fr (fun s k h1 h2 _ => ?_) c5, c6⟩
  · rw [p_i, if_neg (by simp)]
    exact c4
  · rw [p_i, if_neg (fun z => by have z2 : s = 9 := congrArg Prod.fst z.2; omega)]
theorem m_at {j : Nat} {x : Int32} (hm : ME w0 w p g0 cc L i ts st) (hx : x = nI j) (hij : i ≤ j) (hj : j ≤ L) : ME w0 (pi w (40, 0, 0) 16 x) p g0 cc L j ts st := by
  obtain ⟨c1, c2, c3, c4, c5, c6, c7, c8, c9, c10⟩ := hm
  subst hx
  refine ⟨c1.pi rfl, p_at _ _ _ _, hj, ?_, tkM_fr (fun k _ => ?_) c5, ?_, ?_, fun a ha => ?_, by omega, c10⟩
  · rw [p_i, if_neg (by simp)]; exact c4
  · rw [p_i, if_neg (fun z => by have z2 : 57 = 40 := congrArg Prod.fst z.2; omega)]
  · rw [p_i, if_neg (by simp)]; exact c6
  · rw [p_i, if_neg (by simp)]; exact c7
  · rw [p_i, if_neg (fun z => by have z2 : 58 = 40 := congrArg Prod.fst z.2; omega)]
    exact c8 a ha
theorem c_tk (hx : Ctx u0 w0 p L T) (hc : CE u0 u p g0 L i ts) {c : Nat} (h128 : c < 128) : (pk T L i = c ∧ ∃ u', f_X6_take (nI c) u = some (1, u') ∧ CE u0 u' p g0 L (i + 1) ts) ∨ (pk T L i ≠ c ∧ f_X6_take (nI c) u = some (0, u)) := by
  unfold f_X6_take
  rw [c_sg hx hc, Option.bind_some]
  simp only [cS_eq (pkT_lt hx i) h128]
  by_cases h : pk T L i = c
  · rw [if_pos h]
    exact Or.inl ⟨h, _, rfl, c_at hc (by rw [hc.2.1, nI_1]) (pk_i h (by omega))⟩
  · rw [if_neg h]
    exact Or.inr ⟨h, rfl⟩
theorem m_tk (hx : Ctx u0 w0 p L T) (hm : ME w0 w p g0 cc L i ts st) {c : Nat} (h128 : c < 128) : (pk T L i = c ∧ ∃ w', f_X10_takesSign (nI c) w = some (1, w') ∧ ME w0 w' p g0 cc L (i + 1) ts st ∧ eqx (fun q k => q.1 == 40 && k == 16) w w') ∨ (pk T L i ≠ c ∧ f_X10_takesSign (nI c) w = some (0, w)) := by
  unfold f_X10_takesSign
  rw [m_nx hx hm, Option.bind_some]
  simp only [mS_eq (pkT_lt hx i) h128]
  by_cases h : pk T L i = c
  · rw [if_pos h]
    exact Or.inl ⟨h, _, rfl, m_at hm (by rw [hm.2.1, nI_1]) (by omega) (pk_i h (by omega)), eqx.rf.pi rfl⟩
  · rw [if_neg h]
    exact Or.inr ⟨h, rfl⟩
theorem c_add (hc : CE u0 u p g0 L i ts) (hl : ts.length < 100) {t : Tok} {a b c : Int32} (ha : a = nI t.1) (hb : t.1 < 6 → b = nI (60 + t.2.1) ∧ c = nI t.2.2) : ∃ u', f_X3_addStep p a b c u = some u' ∧ CE u0 u' p g0 L i (ts ++ [t]) := by
  obtain ⟨c1, c2, c3, c4, c5, c6⟩ := hc
  have hg : ∀ s, s = 16 ∨ s = 17 ∨ s = 18 → gE p g0 (s, p, 0) ts.length = true := fun s hs => by
    unfold gE
    rcases hs with rfl | rfl | rfl <;> simp [c6]
  have hg2 : gE p g0 (11, p, 0) 1 = true := by simp [gE]
  unfold f_X3_addStep
  rw [c4, if_neg (nI_pos (by omega)), if_neg (show ¬ (100 : Int32) ≤ nI ts.length from nI_ge (b := 100) (by omega) (by omega)), if_neg (nI_in hl (by omega)), nI_clamp (show ts.length < 2 ^ 31 by omega), nI_1]
  refine ⟨_, rfl, (((c1.pi (hg 16 (by simp))).pi (hg 17 (by simp))).pi (hg 18 (by simp))).pi hg2, ?_, c3, ?_, ?_, by rw [List.length_append]; omega⟩
  · simp [p_i]
    exact c2
  · rw [List.length_append]
    exact p_at _ _ _ _
  · rw [tkC_app]
    refine ⟨tkC_fr (fun s k h1 h2 h3 => ?_) c5, ?_, fun h6 => ⟨?_, ?_⟩, trivial⟩
    · have e1 : ¬ k = ts.length := by omega
      have e2 : ¬ (s, p, 0) = ((11, p, 0) : Key) := fun z => by have z2 : s = 11 := congrArg Prod.fst z; omega
      simp [p_i, e1]
      intro _ z
      omega
    · simp [p_i]
      exact ha
    · simp [p_i]
      exact (hb h6).1
    · simp [p_i]
      exact (hb h6).2
theorem c_num (hx : Ctx u0 w0 p L T) (hc : CE u0 u p g0 L i ts) : (∃ d j u', nmT T L i = some (d, j) ∧ f_X6_takeNumber u = some (nI d, u') ∧ CE u0 u' p g0 L j ts) ∨ (nmT T L i = none ∧ f_X6_takeNumber u = some (-1, u)) := by
  have d1 := c_dig _ (pkT_lt hx i)
  unfold f_X6_takeNumber nmT
  have s1 := c_sg hx hc
  by_cases e : isD (pk T L i) = true
  · rw [if_pos e] at d1
    obtain ⟨a1, a2, a3⟩ := d1
    have hd := isD_lt e
    have hi : i < L := pk_i (T := T) rfl (by omega)
    rw [if_pos e]
    have st1 : f_X6_takeNumber_L4 ((-1 : Int32), (0 : Int32), u) = some (.inl (nI (pk T L i - 48), nI 1, pi u (9, 0, 0) 2 ((u.1 (9, 0, 0) 2) + (1 : Int32)))) := by
      unfold f_X6_takeNumber_L4
      dsimp only
      rw [if_neg (by decide), s1, Option.bind_some, if_neg a1, if_pos a2, a3, if_pos (by decide)]
      have : ((0 : Int32) * (10 : Int32)) + nI (pk T L i - 48) = nI (pk T L i - 48) := by
        rw [show (0 : Int32) * (10 : Int32) = 0 by decide, Int32.zero_add]
      rw [this]
      rfl
    have hc1 : CE u0 (pi u (9, 0, 0) 2 ((u.1 (9, 0, 0) 2) + (1 : Int32))) p g0 L (i + 1) ts := c_at hc (by rw [hc.2.1, nI_1]) (by omega)
    have d2 := c_dig _ (pkT_lt hx (i + 1))
    have s2 := c_sg hx hc1
    by_cases e2 : isD (pk T L (i + 1)) = true
    · rw [if_pos e2] at d2
      obtain ⟨b1, b2, b3⟩ := d2
      have hd2 := isD_lt e2
      have hi2 : i + 1 < L := pk_i (T := T) rfl (by omega)
      rw [if_pos e2]
      have st2 : f_X6_takeNumber_L4 (nI (pk T L i - 48), nI 1, pi u (9, 0, 0) 2 ((u.1 (9, 0, 0) 2) + (1 : Int32))) = some (.inl (nI (10 * (pk T L i - 48) + (pk T L (i + 1) - 48)), nI 2, pi (pi u (9, 0, 0) 2 ((u.1 (9, 0, 0) 2) + (1 : Int32))) (9, 0, 0) 2 (((pi u (9, 0, 0) 2 ((u.1 (9, 0, 0) 2) + (1 : Int32))).1 (9, 0, 0) 2) + (1 : Int32)))) := by
        unfold f_X6_takeNumber_L4
        dsimp only
        rw [if_neg (by decide), s2, Option.bind_some, if_neg b1, if_pos b2, b3, if_neg (nI_pos (by omega)), L_10, pk_mul, nI_add, Nat.mul_comm (pk T L i - 48) 10]
        rfl
      have hc2 := c_at (j := i + 2) (x := ((pi u (9, 0, 0) 2 ((u.1 (9, 0, 0) 2) + (1 : Int32))).1 (9, 0, 0) 2) + (1 : Int32)) hc1 (by rw [hc1.2.1, nI_1]) (by omega)
      left
      refine ⟨_, _, _, rfl, ?_, hc2⟩
      rw [show am_loop f_X6_takeNumber_L4 2000 ((-1 : Int32), (0 : Int32), u) = _ from (am_loop_s (n := 1999) st1).trans ((am_loop_s (n := 1998) st2).trans (am_loop_e (n := 1997) (e := .inr (nI (10 * (pk T L i - 48) + (pk T L (i + 1) - 48)), _)) (by
        unfold f_X6_takeNumber_L4
        dsimp only
        rw [if_pos (by decide)])))]
      rfl
    · rw [if_neg e2] at d2
      rw [if_neg e2]
      left
      refine ⟨_, _, _, rfl, ?_, hc1⟩
      rw [show am_loop f_X6_takeNumber_L4 2000 ((-1 : Int32), (0 : Int32), u) = _ from (am_loop_s (n := 1999) st1).trans (am_loop_e (n := 1998) (e := .inl (nI (pk T L i - 48), _)) (by
        unfold f_X6_takeNumber_L4
        dsimp only
        rw [if_neg (by decide), s2, Option.bind_some]
        by_cases z : cS (pk T L (i + 1)) - (48 : Int32) < 0
        · rw [if_pos z]
        · rw [if_neg z, if_neg (d2.resolve_left z)]))]
      rfl
  · rw [if_neg e] at d1
    rw [if_neg e]
    right
    refine ⟨rfl, ?_⟩
    rw [show am_loop f_X6_takeNumber_L4 2000 ((-1 : Int32), (0 : Int32), u) = _ from am_loop_e (n := 1999) (e := .inl ((-1 : Int32), u)) (by
        unfold f_X6_takeNumber_L4
        dsimp only
        rw [if_neg (by decide), s1, Option.bind_some]
        by_cases z : cS (pk T L i) - (48 : Int32) < 0
        · rw [if_pos z]
        · rw [if_neg z, if_neg (d1.resolve_left z)])]
    rfl
theorem m_isD (hx : Ctx u0 w0 p L T) (hm : ME w0 w p g0 cc L i ts st) : f_X10_isDigit w = some (if isD (pk T L i) = true then 1 else 0) := by
  unfold f_X10_isDigit
  rw [m_nx hx hm, Option.bind_some, m_in, m_dig _ (pkT_lt hx i), Option.bind_some]
  by_cases e : isD (pk T L i) = true
  · rw [if_pos e]; rfl
  · rw [if_neg e]; rfl
theorem m_17 {x : Int32} (hm : ME w0 w p g0 cc L i ts st) : ME w0 (pi w (40, 0, 0) 17 x) p g0 cc L i ts st := by
  obtain ⟨c1, c2, c3, c4, c5, c6, c7, c8, c9, c10⟩ := hm
  refine ⟨c1.pi rfl, ?_, c3, ?_, tkM_fr (fun k _ => ?_) c5, ?_, ?_, fun a ha => ?_, c9, c10⟩
  · rw [p_i, if_neg (by simp)]; exact c2
  · rw [p_i, if_neg (by simp)]; exact c4
  · rw [p_i, if_neg (fun z => by have z2 : 57 = 40 := congrArg Prod.fst z.2; omega)]
  · rw [p_i, if_neg (by simp)]; exact c6
  · rw [p_i, if_neg (by simp)]; exact c7
  · rw [p_i, if_neg (fun z => by have z2 : 58 = 40 := congrArg Prod.fst z.2; omega)]
    exact c8 a ha
def g17 (q : Key) (k : Nat) : Bool := q.1 == 40 && (k == 16 || k == 17)
theorem m_num (hx : Ctx u0 w0 p L T) (hm : ME w0 w p g0 cc L i ts st) : (∃ d j w', nmT T L i = some (d, j) ∧ f_X10_takesNumber w = some (1, w') ∧ ME w0 w' p g0 cc L j ts st ∧ w'.1 (40, 0, 0) 17 = nI d ∧ eqx g17 w w') ∨ (nmT T L i = none ∧ f_X10_takesNumber w = some (0, w)) := by
  unfold f_X10_takesNumber nmT
  rw [m_isD hx hm, Option.bind_some]
  by_cases e : isD (pk T L i) = true
  · have hd := isD_lt e
    have hi : i < L := pk_i (T := T) rfl (by omega)
    rw [if_pos e, if_pos e, if_neg one_ne]
    have hm0 := m_17 (x := (0 : Int32)) hm
    have step : ∀ (t : PM) (x a j : Nat), x < 2 → a < 10 → ME w0 t p g0 cc L j ts st → t.1 (40, 0, 0) 17 = nI a → isD (pk T L j) = true → ∃ t', f_X10_takesNumber_L16 (nI x, t) = some (.inl (nI (x + 1), t')) ∧ ME w0 t' p g0 cc L (j + 1) ts st ∧ t'.1 (40, 0, 0) 17 = nI (10 * a + (pk T L j - 48)) ∧ eqx g17 t t' := fun t x a j h2 ha ht h17 hdj => by
      have hj : j < L := pk_i (T := T) rfl (by have := isD_lt hdj; omega)
      unfold f_X10_takesNumber_L16
      dsimp only
      rw [if_neg (show ¬ (2 : Int32) ≤ nI x from nI_ge (b := 2) h2 (by omega)), m_isD hx ht, Option.bind_some, if_pos hdj, if_neg one_ne, m_nx hx ht, Option.bind_some, h17, m_digv _ (pkT_lt hx j) hdj a ha, nI_1]
      refine ⟨_, rfl, m_at (m_17 ht) (by rw [ht.2.1, nI_1]) (by omega) (by omega), ?_, (eqx.rf.pi rfl).pi rfl⟩
      rw [p_i, if_neg (by simp)]
      exact p_at _ _ _ _
    obtain ⟨t1, a1, a2, a3, a4⟩ := step _ 0 0 i (by omega) (by omega) hm0 (p_at _ _ _ _) e
    by_cases e2 : isD (pk T L (i + 1)) = true
    · obtain ⟨t2, b1, b2, b3, b4⟩ := step t1 1 _ (i + 1) (by omega) (by omega) a2 a3 e2
      rw [if_pos e2]
      left
      refine ⟨_, _, t2, rfl, ?_, b2, ?_, ((eqx.rf.pi rfl).tr a4).tr b4⟩
      · rw [show am_loop f_X10_takesNumber_L16 2000 ((0 : Int32), pi w (40, 0, 0) 17 (0 : Int32)) = _ from (am_loop_s (n := 1999) a1).trans ((am_loop_s (n := 1998) b1).trans (am_loop_e (n := 1997) (e := t2) (by
          unfold f_X10_takesNumber_L16
          dsimp only
          rw [if_pos (by decide)])))]
        rfl
      · rw [b3]
        congr 1
        omega
    · rw [if_neg e2]
      left
      refine ⟨_, _, t1, rfl, ?_, a2, ?_, (eqx.rf.pi rfl).tr a4⟩
      · rw [show am_loop f_X10_takesNumber_L16 2000 ((0 : Int32), pi w (40, 0, 0) 17 (0 : Int32)) = _ from (am_loop_s (n := 1999) a1).trans (am_loop_e (n := 1998) (e := t1) (by
          unfold f_X10_takesNumber_L16
          dsimp only
          rw [if_neg (by decide), m_isD hx a2, Option.bind_some, if_neg e2, if_pos rfl]))]
        rfl
      · rw [a3]
        congr 1
        omega
  · rw [if_neg e, if_neg e, if_pos rfl]
    exact Or.inr ⟨rfl, rfl⟩
end RD
