/-! the same on the reference's pile -/
def b2i (b : Bool) : Int32 := if b then 1 else 0
def gP (q : Key) (_ : Nat) : Bool := q.1 == 69
def pileR (w : PM) (st : List Bool) : Prop := ∀ j, j < st.length → w.1 (69, 0, 0) (st.length - 1 - j) = b2i (st.getD j false)
theorem pile_tl {w : PM} {b : Bool} {r : List Bool} (h : pileR w (b :: r)) : pileR w r := by
  intro j hj
  have := h (j + 1) (by simp only [List.length_cons]; omega)
  rw [List.length_cons, show r.length + 1 - 1 - (j + 1) = r.length - 1 - j by omega] at this
  exact this
theorem pile_hd {w : PM} {b : Bool} {r : List Bool} (h : pileR w (b :: r)) : w.1 (69, 0, 0) r.length = b2i b := h 0 (by simp)
theorem pile_push {w : PM} {r : List Bool} (h : pileR w r) (c : Bool) : pileR (pi w (69, 0, 0) r.length (b2i c)) (c :: r) := by
  intro j hj
  rw [List.length_cons] at hj ⊢
  rw [p_i]
  cases j with
  | zero => rw [if_pos ⟨by omega, rfl⟩]; rfl
  | succ j =>
    rw [if_neg (fun z => by have := z.1; omega), show r.length + 1 - 1 - (j + 1) = r.length - 1 - j by omega]
    exact h j (by omega)
theorem cd_div {f s d : Nat} (hf : f < 6) (hs : s < 3) (hd : d < 100) : (nI (1000 * f + 100 * s + d)) / (1000 : Int32) = nI f := by
  rw [L_1000, pk_div (by omega) (by omega) (by omega), show (1000 * f + 100 * s + d) / 1000 = f by omega]
theorem cd_s {f s d : Nat} (hf : f < 6) (hs : s < 3) (hd : d < 100) : ((nI (1000 * f + 100 * s + d)) / (100 : Int32)) - ((nI (1000 * f + 100 * s + d)) / (100 : Int32)) / (10 : Int32) * (10 : Int32) = nI s := by
  rw [L_100, L_10, pk_div (by omega) (by omega) (by omega), pk_rem (by omega) (by omega) (by omega), show (1000 * f + 100 * s + d) / 100 % 10 = s by omega]
theorem cd_d {f s d : Nat} (hf : f < 6) (hs : s < 3) (hd : d < 100) : (nI (1000 * f + 100 * s + d)) - (nI (1000 * f + 100 * s + d)) / (100 : Int32) * (100 : Int32) = nI d := by
  rw [L_100, pk_rem (by omega) (by omega) (by omega), show (1000 * f + 100 * s + d) % 100 = d by omega]
theorem m_step {w0 w : PM} {c h B k m : Nat} {wt : Int32} {F : Nat → Int32} {t : Tok} {st : List Bool} (hc : c < 50) (hto : w0.1 (56, 0, 0) c = nI B) (hB : B ≤ 500) (hk : k < B) (hF : ∀ w', eqx gP w0 w' → ∀ f, f < 6 → f_X10_factOf (nI f) (nI h) wt w' = some (F f)) (ht : w0.1 (57, 0, 0) k = cdM t) (hd : dp1 t st.length = some m) (hp : pileR w st) (he : eqx gP w0 w) (h20 : st.length ≤ 20) :
    ∃ w1, f_X10_holds_L11 (nI c) (nI h) wt (nI st.length, nI k, w) = some (.inl (nI (stT F t st).length, nI (k + 1), w1)) ∧ eqx gP w0 w1 ∧ pileR w1 (stT F t st) := by
  have e1 : ¬ 50 ≤ c := by omega
  have e2 : ¬ B ≤ k := by omega
  have e3 : ¬ 500 ≤ k := by omega
  have t1 : w.1 (56, 0, 0) c = nI B := (he.1 _ _ rfl).trans hto
  have t2 : w.1 (57, 0, 0) k = cdM t := (he.1 _ _ rfl).trans ht
  unfold f_X10_holds_L11
  simp (disch := omega) only [↓reduceIte, t1, t2, i_le, i_lt0, i_cl, e1, e2, e3, if_false, or_self, nI_1]
  unfold dp1 at hd
  unfold stT cdM
  by_cases c6 : t.1 = 6
  · rw [if_pos c6] at hd
    rw [if_pos c6, if_pos c6, if_pos rfl]
    match st, hp, h20 with
    | [], _, _ => simp at hd
    | b :: r, hp, h20 =>
      simp only [List.length_cons] at h20
      have e4 : ¬ 100 ≤ r.length := by omega
      simp (disch := omega) only [↓reduceIte, List.length_cons, nI_pred, i_lt0, i_cl, e4, if_false, or_self, pile_hd hp]
      cases b
      · exact ⟨_, rfl, he.pi rfl, pile_push (pile_tl hp) true⟩
      · exact ⟨_, rfl, he.pi rfl, pile_push (pile_tl hp) false⟩
  · rw [if_neg c6] at hd
    rw [if_neg c6, if_neg c6]
    by_cases c7 : t.1 = 7
    · rw [if_pos (Or.inl c7)] at hd
      rw [if_pos c7, if_pos c7, if_neg (by decide), if_neg (by decide), if_pos rfl]
      match st, hp, h20 with
      | [], _, _ => simp at hd
      | [_], _, _ => simp at hd
      | y :: z :: r, hp, h20 =>
        simp only [List.length_cons] at h20
        have e4 : ¬ 100 ≤ r.length := by omega
        have e5 : ¬ 100 ≤ r.length + 1 := by omega
        have y1 := pile_hd hp
        rw [List.length_cons] at y1
        simp (disch := omega) only [↓reduceIte, List.length_cons, nI_pred, pk_m1, i_lt0, i_cl, e4, e5, if_false, or_self, pile_hd (pile_tl hp), y1]
        cases z
        · exact ⟨_, rfl, he.pi rfl, pile_push (pile_tl (pile_tl hp)) false⟩
        · cases y
          · exact ⟨_, rfl, he.pi rfl, pile_push (pile_tl (pile_tl hp)) false⟩
          · exact ⟨_, rfl, he.pi rfl, pile_push (pile_tl (pile_tl hp)) true⟩
    · rw [if_neg c7, if_neg c7]
      by_cases c8 : t.1 = 8
      · rw [if_pos (Or.inr c8)] at hd
        rw [if_pos c8, if_pos c8, if_neg (by decide), if_neg (by decide), if_neg (by decide)]
        match st, hp, h20 with
        | [], _, _ => simp at hd
        | [_], _, _ => simp at hd
        | y :: z :: r, hp, h20 =>
          simp only [List.length_cons] at h20
          have e4 : ¬ 100 ≤ r.length := by omega
          have e5 : ¬ 100 ≤ r.length + 1 := by omega
          have y1 := pile_hd hp
          rw [List.length_cons] at y1
          simp (disch := omega) only [↓reduceIte, List.length_cons, nI_pred, pk_m1, i_lt0, i_cl, e4, e5, if_false, or_self, pile_hd (pile_tl hp), y1]
          cases z
          · cases y
            · exact ⟨_, rfl, he.pi rfl, pile_push (pile_tl (pile_tl hp)) false⟩
            · exact ⟨_, rfl, he.pi rfl, pile_push (pile_tl (pile_tl hp)) true⟩
          · exact ⟨_, rfl, he.pi rfl, pile_push (pile_tl (pile_tl hp)) true⟩
      · rw [if_neg (fun z => z.elim c7 c8)] at hd
        rw [if_neg c8, if_neg c8]
        split at hd
        · next h6 =>
          obtain ⟨g1, g2, g3, g4⟩ := h6
          have n1 : ¬ nI (1000 * t.1 + 100 * t.2.1 + t.2.2) = -33 := fun z => by
            have := congrArg Int32.toInt z
            rw [nI_toInt (by omega), show (-33 : Int32).toInt = -33 by decide] at this
            omega
          have e4 : ¬ 100 ≤ st.length := by omega
          rw [if_neg n1, if_pos (by rw [L_0, i_le (by omega) (by omega)]; omega), cd_div g1 g2 g3, hF w he t.1 g1, Option.bind_some, cd_s g1 g2 g3, cd_d g1 g2 g3]
          simp (disch := omega) only [↓reduceIte, i_lt0, i_cl, e4, if_false, or_self, L_0, L_1, i_eq, nI_add, List.length_cons]
          have pu := pile_push hp (tstA (F t.1) t.2.1 t.2.2)
          unfold tstA at pu ⊢
          have : t.2.1 = 0 ∨ t.2.1 = 1 ∨ t.2.1 = 2 := by omega
          rcases this with e | e | e
          · rw [e] at pu ⊢
            simp only [if_true] at pu ⊢
            by_cases hz : F t.1 < nI t.2.2
            · rw [if_neg (Int32.not_le.mpr hz)]
              simp only [hz, decide_true] at pu ⊢
              exact ⟨_, rfl, he.pi rfl, pu⟩
            · rw [if_pos (Int32.not_lt.mp hz)]
              simp only [hz, decide_false] at pu ⊢
              exact ⟨_, rfl, he.pi rfl, pu⟩
          · rw [e] at pu ⊢
            simp only [show (1 = 0) = False by simp, if_true, if_false] at pu ⊢
            by_cases hz : F t.1 = nI t.2.2
            · simp only [hz, decide_true, if_true] at pu ⊢
              exact ⟨_, rfl, he.pi rfl, pu⟩
            · simp only [hz, decide_false, if_false] at pu ⊢
              exact ⟨_, rfl, he.pi rfl, pu⟩
          · rw [e] at pu ⊢
            simp only [show (2 = 0) = False by simp, show (2 = 1) = False by simp, if_false] at pu ⊢
            by_cases hz : nI t.2.2 < F t.1
            · rw [if_neg (Int32.not_le.mpr hz)]
              simp only [hz, decide_true] at pu ⊢
              exact ⟨_, rfl, he.pi rfl, pu⟩
            · rw [if_pos (Int32.not_lt.mp hz)]
              simp only [hz, decide_false] at pu ⊢
              exact ⟨_, rfl, he.pi rfl, pu⟩
        · cases hd
theorem dp1_20 {t : Tok} {n m : Nat} (h : dp1 t n = some m) (hn : n ≤ 20) : m ≤ 20 := by
  unfold dp1 at h
  split at h
  · split at h
    · cases h; exact hn
    · cases h
  · split at h
    · split at h
      · cases h; omega
      · cases h
    · split at h
      · next h6 => cases h; omega
      · cases h
theorem m_holds_l {w0 : PM} {c h B m : Nat} {wt : Int32} {F : Nat → Int32} (hc : c < 50) (hto : w0.1 (56, 0, 0) c = nI B) (hB : B ≤ 500) (hF : ∀ w', eqx gP w0 w' → ∀ f, f < 6 → f_X10_factOf (nI f) (nI h) wt w' = some (F f)) : ∀ (ts : List Tok) (k : Nat) (st : List Bool) (n : Nat) (w : PM), tkM w0 k ts → dpT ts st.length = some m → pileR w st → eqx gP w0 w → st.length ≤ 20 → k + ts.length = B → ts.length < n → ∃ w', am_loop (f_X10_holds_L11 (nI c) (nI h) wt) n (nI st.length, nI k, w) = some w' ∧ eqx gP w0 w' ∧ pileR w' (evT F ts st)
  | [], k, st, 0, w, _, _, _, _, _, _, h => by omega
  | [], k, st, n + 1, w, _, _, hp, he, _, hl, _ => by
    have hl : k = B := hl
    subst hl
    refine ⟨w, am_loop_e ?_, he, hp⟩
    have e1 : ¬ 50 ≤ c := by omega
    have t1 : w.1 (56, 0, 0) c = nI k := (he.1 _ _ rfl).trans hto
    unfold f_X10_holds_L11
    simp (disch := omega) only [↓reduceIte, t1, i_le, i_lt0, i_cl, e1, if_false, or_self, Nat.le_refl, if_true]
  | t :: ts, k, st, 0, w, _, _, _, _, _, _, h => by omega
  | t :: ts, k, st, n + 1, w, h1, h2, hp, he, h20, hl, hn => by
    simp only [List.length_cons] at hl hn
    obtain ⟨d, hd, hd2⟩ : ∃ d, dp1 t st.length = some d ∧ dpT ts d = some m := by
      unfold dpT at h2
      cases hq : dp1 t st.length with
      | none => rw [hq] at h2; cases h2
      | some d => rw [hq] at h2; exact ⟨d, rfl, h2⟩
    have hlen := dp1_len (F := F) hd
    obtain ⟨w1, q1, q2, q3⟩ := m_step (F := F) (h := h) (wt := wt) hc hto hB (by omega) hF h1.1 hd hp he h20
    rw [am_loop_s q1]
    exact m_holds_l hc hto hB hF ts (k + 1) _ n w1 h1.2 (by rw [hlen]; exact hd2) q3 q2 (by rw [hlen]; exact dp1_20 hd h20) (by omega) (by omega)
theorem m_holds {w : PM} {c h a : Nat} {wt : Int32} {F : Nat → Int32} {ts : List Tok} (hc : c < 50) (hfr : w.1 (55, 0, 0) c = nI a) (hto : w.1 (56, 0, 0) c = nI (a + ts.length)) (hB : a + ts.length ≤ 500) (h100 : ts.length ≤ 100) (hF : ∀ w', eqx gP w w' → ∀ f, f < 6 → f_X10_factOf (nI f) (nI h) wt w' = some (F f)) (ht : tkM w a ts) (hd : dpT ts 0 = some 1) : ∃ w', f_X10_holds (nI c) (nI h) wt w = some ((if hoA F ts then 1 else 0), w') ∧ eqx gP w w' := by
  have e1 : ¬ 50 ≤ c := by omega
  obtain ⟨w', h1, h2, h3⟩ := m_holds_l hc hto hB hF ts a [] 2000 w ht hd (fun i hi => by simp at hi) eqx.rf (by simp) rfl (by omega)
  have h4 := dpT_len (F := F) (st := []) hd
  refine ⟨w', ?_, h2⟩
  unfold f_X10_holds
  simp (disch := omega) only [↓reduceIte, hfr, i_lt0, i_cl, e1, if_false, or_self]
  rw [show (0 : Int32) = nI ([] : List Bool).length from rfl, h1, Option.bind_some]
  have h5 := h3 0 (by omega)
  rw [h4] at h5
  rw [show w'.1 (69, 0, 0) 0 = b2i (hoA F ts) from h5]
  unfold b2i
  cases hoA F ts <;> rfl
