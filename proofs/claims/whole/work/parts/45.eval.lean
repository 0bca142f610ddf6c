/-! a rule's steps: on the class's bits and on the reference's pile -/
theorem am_loop_s {S E : Type} {f : S → Option (S ⊕ E)} {s s' : S} {n : Nat} (h : f s = some (.inl s')) : am_loop f (n + 1) s = am_loop f n s' := by
  rw [am_loop, h]
theorem am_loop_e {S E : Type} {f : S → Option (S ⊕ E)} {s : S} {e : E} {n : Nat} (h : f s = some (.inr e)) : am_loop f (n + 1) s = some e := by
  rw [am_loop, h]
def tstA (x : Int32) (s d : Nat) : Bool := if s = 0 then decide (x < nI d) else if s = 1 then decide (x = nI d) else decide (nI d < x)
def stT (F : Nat → Int32) (t : Tok) (st : List Bool) : List Bool :=
  if t.1 = 6 then (match st with | x :: r => (!x) :: r | r => r)
  else if t.1 = 7 then (match st with | y :: x :: r => (x && y) :: r | r => r)
  else if t.1 = 8 then (match st with | y :: x :: r => (x || y) :: r | r => r)
  else tstA (F t.1) t.2.1 t.2.2 :: st
def evT (F : Nat → Int32) : List Tok → List Bool → List Bool
  | [], st => st
  | t :: ts, st => evT F ts (stT F t st)
def dp1 (t : Tok) (n : Nat) : Option Nat :=
  if t.1 = 6 then (if 1 ≤ n then some n else none)
  else if t.1 = 7 ∨ t.1 = 8 then (if 2 ≤ n then some (n - 1) else none)
  else if t.1 < 6 ∧ t.2.1 < 3 ∧ t.2.2 < 100 ∧ n < 20 then some (n + 1) else none
def dpT : List Tok → Nat → Option Nat
  | [], n => some n
  | t :: ts, n => (dp1 t n).bind (dpT ts)
theorem dp1_len {F : Nat → Int32} {t : Tok} {st : List Bool} {m : Nat} (h : dp1 t st.length = some m) : (stT F t st).length = m := by
  unfold dp1 at h
  unfold stT
  split at h
  · next e =>
    rw [if_pos e]
    split at h
    · cases h
      cases st <;> rfl
    · cases h
  · next e =>
    rw [if_neg e]
    split at h
    · next e7 =>
      split at h
      · cases h
        match st with
        | [] => simp at *
        | [_] => simp at *
        | y :: x :: r =>
          rcases e7 with e7 | e7
          · rw [if_pos e7]; rfl
          · rw [if_neg (by omega), if_pos e7]; rfl
      · cases h
    · next e7 =>
      rw [if_neg (fun z => e7 (Or.inl z)), if_neg (fun z => e7 (Or.inr z))]
      split at h
      · cases h; rfl
      · cases h
/-- the bits of a word are a pile, the newest lowest -/
def fb (x : Int32) (st : List Bool) : Prop := ∀ i, i < st.length → x.toBitVec.getLsbD i = st.getD i false
theorem sr1 (x : Int32) {i : Nat} (h : i < 31) : (x >>> ((1 : Int32) &&& 31)).toBitVec.getLsbD i = x.toBitVec.getLsbD (i + 1) := by
  rw [Int32.toBitVec_shiftRight, show (((1 : Int32) &&& 31).toBitVec.smod 32) = 1#32 by decide, BitVec.sshiftRight_eq', show (1#32).toNat = 1 from rfl, BitVec.getLsbD_sshiftRight]
  rw [decide_eq_false (by omega), if_pos (by omega), Nat.add_comm]
  rfl
theorem sl1 (x : Int32) (i : Nat) : (x <<< ((1 : Int32) &&& 31)).toBitVec.getLsbD i = (decide (i < 32) && !decide (i < 1) && x.toBitVec.getLsbD (i - 1)) := by
  rw [Int32.toBitVec_shiftLeft, show (((1 : Int32) &&& 31).toBitVec.smod 32) = 1#32 by decide, BitVec.shiftLeft_eq', show (1#32).toNat = 1 from rfl, BitVec.getLsbD_shiftLeft]
theorem on1 : ∀ i, i < 32 → (1 : Int32).toBitVec.getLsbD i = decide (i = 0) := by decide
theorem ze1 : ∀ i, i < 32 → (0 : Int32).toBitVec.getLsbD i = false := by decide
theorem mi2 : ∀ i, i < 32 → (-2 : Int32).toBitVec.getLsbD i = !decide (i = 0) := by decide
theorem fb_push {x : Int32} {st : List Bool} (h : fb x st) (hl : st.length < 31) (b : Bool) : fb ((x <<< ((1 : Int32) &&& 31)) ||| (if b then 1 else 0)) (b :: st) := by
  intro i hi
  rw [List.length_cons] at hi
  rw [Int32.toBitVec_or, BitVec.getLsbD_or, sl1]
  cases i with
  | zero => cases b <;> rfl
  | succ i =>
    have e : ((if b then (1 : Int32) else 0).toBitVec.getLsbD (i + 1)) = false := by
      cases b
      · exact ze1 _ (by omega)
      · exact (on1 _ (by omega)).trans (decide_eq_false (by omega))
    rw [e, decide_eq_true (by omega), decide_eq_false (by omega), Nat.add_sub_cancel, h i (by omega)]
    simp
theorem fb_not {x : Int32} {st : List Bool} {b : Bool} (h : fb x (b :: st)) (hl : st.length < 31) : fb (x ^^^ 1) ((!b) :: st) := by
  intro i hi
  rw [List.length_cons] at hi
  rw [Int32.toBitVec_xor, BitVec.getLsbD_xor, on1 i (by omega), h i hi]
  cases i with
  | zero => cases b <;> rfl
  | succ i => simp
theorem fb_and {x : Int32} {st : List Bool} {y z : Bool} (h : fb x (y :: z :: st)) (hl : st.length < 29) : fb ((x >>> ((1 : Int32) &&& 31)) &&& ((x &&& (1 : Int32)) ||| (-2 : Int32))) ((z && y) :: st) := by
  intro i hi
  rw [List.length_cons] at hi
  rw [Int32.toBitVec_and, BitVec.getLsbD_and, sr1 x (by omega), Int32.toBitVec_or, BitVec.getLsbD_or, Int32.toBitVec_and, BitVec.getLsbD_and, on1 i (by omega), mi2 i (by omega), h (i + 1) (by simp only [List.length_cons]; omega)]
  cases i with
  | zero =>
    rw [h 0 (by simp)]
    cases y <;> cases z <;> rfl
  | succ i => simp
theorem fb_or {x : Int32} {st : List Bool} {y z : Bool} (h : fb x (y :: z :: st)) (hl : st.length < 29) : fb ((x >>> ((1 : Int32) &&& 31)) ||| (x &&& (1 : Int32))) ((z || y) :: st) := by
  intro i hi
  rw [List.length_cons] at hi
  rw [Int32.toBitVec_or, BitVec.getLsbD_or, sr1 x (by omega), Int32.toBitVec_and, BitVec.getLsbD_and, on1 i (by omega), h (i + 1) (by simp only [List.length_cons]; omega)]
  cases i with
  | zero =>
    rw [h 0 (by simp)]
    cases y <;> cases z <;> rfl
  | succ i => simp
theorem fb_0 (x : Int32) : (x &&& 1) = if x.toBitVec.getLsbD 0 then 1 else 0 := by
  obtain ⟨j, hj, e⟩ := pk_andE x (m := 1) 1 (by decide)
  have h2 : (x &&& 1).toBitVec.getLsbD 0 = x.toBitVec.getLsbD 0 := by
    rw [Int32.toBitVec_and, BitVec.getLsbD_and, on1 0 (by omega)]
    simp
  rw [e] at h2
  rw [e, ← h2]
  have : j = 0 ∨ j = 1 := by omega
  rcases this with rfl | rfl <;> rfl
/-- the class's steps from place a on -/
def tkC (u : PM) (p : Nat) : Nat → List Tok → Prop
  | _, [] => True
  | a, t :: ts => u.1 (16, p, 0) a = nI t.1 ∧ (t.1 < 6 → u.1 (17, p, 0) a = nI (60 + t.2.1) ∧ u.1 (18, p, 0) a = nI t.2.2) ∧ tkC u p (a + 1) ts
def cdM (t : Tok) : Int32 := if t.1 = 6 then -33 else if t.1 = 7 then -38 else if t.1 = 8 then -124 else nI (1000 * t.1 + 100 * t.2.1 + t.2.2)
/-- the reference's signs from place a on -/
def tkM (w : PM) : Nat → List Tok → Prop
  | _, [] => True
  | a, t :: ts => w.1 (57, 0, 0) a = cdM t ∧ tkM w (a + 1) ts
theorem c_cmp (x y : Int32) (u : PM) : ∃ r, f_J6_compare_7cf53 x y u = some r ∧ ((0 ≤ r) = ¬ x < y) ∧ ((r ≤ 0) = ¬ y < x) ∧ ((r = 0) = (x = y)) := by
  unfold f_J6_compare_7cf53
  by_cases h : y ≤ x
  · rw [if_pos h]
    by_cases h2 : x = y
    · subst h2
      rw [if_pos rfl]
      exact ⟨0, rfl, by simp, by simp, by simp⟩
    · rw [if_neg h2]
      have h3 : y < x := Int32.lt_of_le_of_ne h (fun z => h2 z.symm)
      exact ⟨1, rfl, by simp [Int32.not_lt.mpr h], by simp [h3], by simp [h2]⟩
  · rw [if_neg h]
    have h3 : x < y := Int32.not_le.mp h
    have h4 : ¬ y < x := fun z => h (Int32.le_of_lt z)
    have h5 : ¬ x = y := fun z => h (by rw [z]; exact Int32.le_refl _)
    exact ⟨-1, rfl, by simp [h3], by simp [h4], by simp [h5]⟩
theorem c_holds_l {u : PM} {p v c B : Nat} {F : Nat → Int32} (hc : c < 10) (hto : u.1 (15, p, 0) c = nI B) (hB : B ≤ 100) (hF : ∀ f, f < 6 → u.1 (8, v, 0) f = F f) : ∀ (ts : List Tok) (a : Nat) (st : List Bool) (n : Nat) (x : Int32) (m : Nat), tkC u p a ts → dpT ts st.length = some m → fb x st → st.length ≤ 20 → a + ts.length = B → ts.length < n → ∃ x', am_loop (f_X3_holds_L26 p v (nI c) u) n (x, nI a) = some x' ∧ fb x' (evT F ts st)
  | [], a, st, 0, x, m, _, _, _, _, _, h => by omega
  | [], a, st, n + 1, x, m, _, _, hx, _, hl, _ => by
    have hl : a = B := hl
    subst hl
    refine ⟨x, am_loop_e ?_, hx⟩
    unfold f_X3_holds_L26
    have e1 : ¬ 10 ≤ c := by omega
    simp (disch := omega) only [↓reduceIte, hto, i_le, i_lt0, i_cl, e1, if_false, or_self, Nat.le_refl, if_true]
  | t :: ts, a, st, 0, x, m, _, _, _, _, _, h => by omega
  | t :: ts, a, st, n + 1, x, m, h1, h2, hx, h20, hl, hn => by
    obtain ⟨k1, k2, k3⟩ := h1
    simp only [List.length_cons] at hl hn
    obtain ⟨d, hd, hd2⟩ : ∃ d, dp1 t st.length = some d ∧ dpT ts d = some m := by
      unfold dpT at h2
      cases hq : dp1 t st.length with
      | none => rw [hq] at h2; cases h2
      | some d => rw [hq] at h2; exact ⟨d, rfl, h2⟩
    have hlen := dp1_len (F := F) hd
    have e1 : ¬ 10 ≤ c := by omega
    have e2 : ¬ B ≤ a := by omega
    have e3 : ¬ 100 ≤ a := by omega
    have key : ∃ x1, f_X3_holds_L26 p v (nI c) u (x, nI a) = some (.inl (x1, nI (a + 1))) ∧ fb x1 (stT F t st) ∧ (stT F t st).length ≤ 20 := by
      rw [hlen]
      unfold f_X3_holds_L26
      dsimp only
      rw [if_neg (nI_in hc (by omega)), nI_clamp (show c < 2 ^ 31 by omega), hto, if_neg (nI_ge (show a < B by omega) (by omega)), if_neg (show ¬ (100 : Int32) ≤ nI a from nI_ge (b := 100) (by omega) (by omega)), if_neg (nI_in (show a < 100 by omega) (by omega)), nI_clamp (show a < 2 ^ 31 by omega), k1, nI_1]
      unfold dp1 at hd
      unfold stT
      by_cases c6 : t.1 = 6
      · rw [if_pos c6] at hd
        rw [if_pos (show nI t.1 = 6 by rw [c6]; rfl)]
        rw [if_pos c6]
        split at hd
        · cases hd
          match st, hx with
          | [], _ => simp at *
          | b :: r, hx => exact ⟨_, rfl, fb_not hx (by simp only [List.length_cons] at h20; omega), h20⟩
        · cases hd
      · rw [if_neg c6] at hd
        by_cases c7 : t.1 = 7
        · rw [if_pos (Or.inl c7)] at hd
          rw [if_neg (show ¬ nI t.1 = 6 by rw [c7]; decide), if_pos (show nI t.1 = 7 by rw [c7]; rfl), if_neg c6, if_pos c7]
          split at hd
          · cases hd
            match st, hx with
            | [], _ => simp at *
            | [_], _ => simp at *
            | y :: z :: r, hx => exact ⟨_, rfl, fb_and hx (by simp only [List.length_cons] at h20; omega), by simp only [List.length_cons] at h20 ⊢; omega⟩
          · cases hd
        · by_cases c8 : t.1 = 8
          · rw [if_pos (Or.inr c8)] at hd
            rw [if_neg (show ¬ nI t.1 = 6 by rw [c8]; decide), if_neg (show ¬ nI t.1 = 7 by rw [c8]; decide), if_pos (show nI t.1 = 8 by rw [c8]; rfl), if_neg c6, if_neg c7, if_pos c8]
            split at hd
            · cases hd
              match st, hx with
              | [], _ => simp at *
              | [_], _ => simp at *
              | y :: z :: r, hx => exact ⟨_, rfl, fb_or hx (by simp only [List.length_cons] at h20; omega), by simp only [List.length_cons] at h20 ⊢; omega⟩
            · cases hd
          · rw [if_neg (fun z => z.elim c7 c8)] at hd
            rw [if_neg c6, if_neg c7, if_neg c8]
            split at hd
            · next h6 =>
              obtain ⟨g1, g2, g3, g4⟩ := h6
              cases hd
              obtain ⟨k4, k5⟩ := k2 g1
              have ne : ∀ b : Nat, b < 2 ^ 31 → t.1 ≠ b → ¬ nI t.1 = nI b := fun b hb z e => z ((nI_eq (by omega) hb).mp e)
              have q1 : ¬ (6 : Int32) ≤ nI t.1 := nI_ge (b := 6) g1 (by omega)
              rw [if_neg (show ¬ nI t.1 = 6 from ne 6 (by omega) c6), if_neg (show ¬ nI t.1 = 7 from ne 7 (by omega) c7), if_neg (show ¬ nI t.1 = 8 from ne 8 (by omega) c8), if_neg (nI_pos (by omega)), if_neg q1, if_neg q1, if_neg (nI_in g1 (by omega)), nI_clamp (show t.1 < 2 ^ 31 by omega), k4, k5, hF t.1 g1]
              obtain ⟨r, hr, r1, r2, r3⟩ := c_cmp (F t.1) (nI t.2.2) u
              rw [hr, Option.bind_some]
              simp (disch := omega) only [r1, r2, r3, L_60, L_62, i_eq]
              have pu := fb_push hx (by omega) (tstA (F t.1) t.2.1 t.2.2)
              unfold tstA at pu ⊢
              have : t.2.1 = 0 ∨ t.2.1 = 1 ∨ t.2.1 = 2 := by omega
              rcases this with e | e | e
              · rw [e] at pu ⊢
                simp only [Nat.add_zero, if_true] at pu ⊢
                by_cases hz : F t.1 < nI t.2.2
                · simp only [hz, decide_true, if_true, not_true_eq_false, if_false] at pu ⊢
                  exact ⟨_, rfl, pu, by omega⟩
                · simp only [hz, decide_false, if_false, not_false_eq_true, if_true, Bool.false_eq_true] at pu ⊢
                  exact ⟨_, rfl, pu, by omega⟩
              · rw [e] at pu ⊢
                simp only [show (60 + 1 = 60) = False by simp, show (60 + 1 = 62) = False by simp, show (1 = 0) = False by simp, if_true, if_false] at pu ⊢
                by_cases hz : F t.1 = nI t.2.2
                · simp only [hz, decide_true, if_true] at pu ⊢
                  exact ⟨_, rfl, pu, by omega⟩
                · simp only [hz, decide_false, if_false, Bool.false_eq_true] at pu ⊢
                  exact ⟨_, rfl, pu, by omega⟩
              · rw [e] at pu ⊢
                simp only [show (60 + 2 = 60) = False by simp, show (60 + 2 = 62) = True by simp, show (2 = 0) = False by simp, show (2 = 1) = False by simp, if_true, if_false] at pu ⊢
                by_cases hz : nI t.2.2 < F t.1
                · simp only [hz, decide_true, if_true, not_true_eq_false, if_false] at pu ⊢
                  exact ⟨_, rfl, pu, by omega⟩
                · simp only [hz, decide_false, if_false, not_false_eq_true, if_true, Bool.false_eq_true] at pu ⊢
                  exact ⟨_, rfl, pu, by omega⟩
            · cases hd
    obtain ⟨x1, q1, q2, q3⟩ := key
    rw [am_loop_s q1]
    exact c_holds_l hc hto hB hF ts (a + 1) _ n x1 m k3 (by rw [hlen]; exact hd2) q2 q3 (by omega) (by omega)
theorem dpT_len {F : Nat → Int32} : ∀ {ts : List Tok} {st : List Bool} {m : Nat}, dpT ts st.length = some m → (evT F ts st).length = m
  | [], st, m, h => by cases h; rfl
  | t :: ts, st, m, h => by
    unfold dpT at h
    cases hq : dp1 t st.length with
    | none => rw [hq] at h; cases h
    | some d =>
      rw [hq] at h
      have hlen := dp1_len (F := F) hq
      exact dpT_len (ts := ts) (by rw [hlen]; exact h)
/-- does a rule hold -/
def hoA (F : Nat → Int32) (ts : List Tok) : Bool := (evT F ts []).getD 0 false
theorem c_holds {u : PM} {p v c a : Nat} {F : Nat → Int32} {ts : List Tok} (hc : c < 10) (hfr : u.1 (14, p, 0) c = nI a) (hto : u.1 (15, p, 0) c = nI (a + ts.length)) (hB : a + ts.length ≤ 100) (hF : ∀ f, f < 6 → u.1 (8, v, 0) f = F f) (ht : tkC u p a ts) (hd : dpT ts 0 = some 1) : f_X3_holds p v (nI c) u = some (if hoA F ts then 1 else 0) := by
  have e1 : ¬ 10 ≤ c := by omega
  obtain ⟨x, h1, h2⟩ := c_holds_l hc hto hB hF ts a [] 2000 0 1 ht hd (fun i hi => by simp at hi) (by simp) rfl (by omega)
  have h3 := dpT_len (F := F) (st := []) hd
  unfold f_X3_holds
  have h5 : (if (0 : Int32) < nI a then nI a else 0) = nI a := by
    by_cases hz : a = 0
    · subst hz; rfl
    · rw [if_pos (by rw [L_0, i_lt (by omega) (by omega)]; omega)]
  have h6 : nI c < 10 := by rw [L_10, i_lt (by omega) (by omega)]; exact hc
  simp (disch := omega) only [↓reduceIte, hfr, i_lt0, i_cl, e1, if_false, or_self, h5, h6, if_true]
  rw [h1, Option.bind_some, fb_0, h2 0 (by omega)]
  unfold hoA
  cases (evT F ts []).getD 0 false <;> rfl
