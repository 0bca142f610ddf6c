/-! the village as numbers: fields of houses, ways, how many houses, weather, hour, land (number and clauses) -/
abbrev Tok : Type := Nat × Nat × Nat
abbrev Cl : Type := Nat × Int32 × (Nat × Nat) × List Tok
abbrev Vil : Type := (Nat → Nat → Int32) × (Nat → Nat → Int32) × Nat × Int32 × Int32 × Option (Nat × List Cl)
def lit (F : Nat → Nat → Int32) : Nat → Nat
  | 0 => 0
  | n + 1 => if F n 1 = 0 then lit F n else lit F n ||| 2 ^ n
def pop (a : Nat) : Nat := a % 2 + a / 2 % 2 + a / 4 % 2 + a / 8 % 2 + a / 16 % 2 + a / 32 % 2
def clr (a h : Nat) : Nat := a &&& (63 ^^^ 2 ^ h)
theorem lit_lt (F : Nat → Nat → Int32) : ∀ n, lit F n < 2 ^ n
  | 0 => Nat.one_pos
  | n + 1 => by
    unfold lit
    have h := lit_lt F n
    split
    · rw [Nat.pow_succ]; omega
    · exact Nat.or_lt_two_pow (Nat.lt_trans h (Nat.pow_lt_pow_right (by decide) (by omega))) (Nat.pow_lt_pow_right (by decide) (by omega))
theorem lit_64 (F : Nat → Nat → Int32) {n : Nat} (h : n ≤ 6) : lit F n < 64 := Nat.lt_of_lt_of_le (lit_lt F n) (Nat.pow_le_pow_right (n := 2) (by decide) h)
theorem lit_tb (F : Nat → Nat → Int32) (i : Nat) : ∀ n, (lit F n).testBit i = (decide (i < n) && !decide (F i 1 = 0))
  | 0 => by simp [lit]
  | n + 1 => by
    unfold lit
    have h := lit_tb F i n
    by_cases hi : i = n
    · subst hi
      by_cases hz : F i 1 = 0
      · rw [if_pos hz, h]; simp [hz]
      · rw [if_neg hz, Nat.testBit_or, h]; simp [hz, Nat.testBit_two_pow]
    · have e : decide (i < n + 1) = decide (i < n) := by simp only [decide_eq_decide]; omega
      rw [e]
      split
      · exact h
      · rw [Nat.testBit_or, h, Nat.testBit_two_pow, decide_eq_false (show ¬ n = i from fun z => hi z.symm), Bool.or_false]
theorem b_tb0 : ∀ a, a < 64 → ∀ h, h < 6 → ((nI a >>> (nI h &&& 31)) &&& (1 : Int32)) = if a.testBit h then 1 else 0 := by decide +kernel
theorem b_or0 : ∀ a, a < 64 → ∀ h, h < 6 → nI a ||| ((1 : Int32) <<< (nI h &&& 31)) = nI (a ||| 2 ^ h) := by decide +kernel
theorem b_cl0 : ∀ a, a < 64 → ∀ h, h < 6 → nI a &&& (((1 : Int32) <<< (nI h &&& 31)) ^^^ (-1 : Int32)) = nI (clr a h) := by decide +kernel
theorem b_clt : ∀ a, a < 64 → ∀ h, h < 6 → clr a h < 64 := by decide +kernel
theorem b_orl : ∀ a, a < 64 → ∀ h, h < 6 → a ||| 2 ^ h < 64 := by decide +kernel
theorem b_shl : ∀ h, h ≤ 6 → (1 : Int32) <<< (nI h &&& 31) = nI (2 ^ h) := by decide +kernel
theorem clr_tb (a h i : Nat) (ha : a < 64) (hh : h < 6) : (clr a h).testBit i = (a.testBit i && !decide (i = h)) := by
  by_cases hi : i < 6
  · exact (show ∀ a, a < 64 → ∀ h, h < 6 → ∀ i, i < 6 → (clr a h).testBit i = (a.testBit i && !decide (i = h)) by decide +kernel) a ha h hh i hi
  · have e : 64 ≤ 2 ^ i := show 2 ^ 6 ≤ 2 ^ i from Nat.pow_le_pow_right (by decide) (by omega)
    rw [Nat.testBit_lt_two_pow (Nat.lt_of_lt_of_le (b_clt a ha h hh) e), Nat.testBit_lt_two_pow (Nat.lt_of_lt_of_le ha e)]
    rfl
def pm0 : PM := (fun _ _ => 0, fun _ _ => 0, fun _ => none)
theorem b_on0 : ∀ a, a < 64 → f_X10_ones (nI a) pm0 = some (nI (pop a)) := by decide +kernel
theorem b_bc0 : ∀ a, a < 64 → f_J6_bitCount_0f7a4 (nI a) pm0 = some (nI (pop a)) := by decide +kernel
theorem m_ones {a : Nat} (h : a < 64) (u : PM) : f_X10_ones (nI a) u = some (nI (pop a)) := (show f_X10_ones (nI a) u = f_X10_ones (nI a) pm0 from rfl).trans (b_on0 a h)
theorem c_bc {a : Nat} (h : a < 64) (u : PM) : f_J6_bitCount_0f7a4 (nI a) u = some (nI (pop a)) := (show f_J6_bitCount_0f7a4 (nI a) u = f_J6_bitCount_0f7a4 (nI a) pm0 from rfl).trans (b_bc0 a h)
theorem m_has {a h : Nat} (ha : a < 64) (hh : h < 6) (u : PM) : f_X10_has (nI a) (nI h) u = some (if a.testBit h then 1 else 0) := by
  unfold f_X10_has
  rw [b_tb0 a ha h hh]
  cases a.testBit h <;> rfl
/-- the fields of village v -/
def cF (u : PM) (v : Nat) : Nat → Nat → Int32 := fun h f => if h < 6 ∧ f < 9 then u.1 (3, v, h) f else 0
def cW (u : PM) (v : Nat) : Nat → Nat → Int32 := fun a b => if a < 6 ∧ b < 6 then u.1 (5, v, a) b else 0
theorem cF_at {u : PM} {v h f : Nat} (hh : h < 6) (hf : f < 9) : u.1 (3, v, h) f = cF u v h f := (if_pos ⟨hh, hf⟩).symm
theorem cW_at {u : PM} {v a b : Nat} (ha : a < 6) (hb : b < 6) : u.1 (5, v, a) b = cW u v a b := (if_pos ⟨ha, hb⟩).symm
theorem c_litBits {u : PM} {v H : Nat} (hH : u.1 (1, v, 0) 0 = nI H) (h6 : H ≤ 6) : f_X8_litBits v u = some (nI (lit (cF u v) H)) := by
  unfold f_X8_litBits
  have key : am_loop (f_X8_litBits_L4 v u) 2000 ((0 : Int32), (0 : Int32)) = some (nI (lit (cF u v) H)) := by
    refine am_seq (fun j => (nI (lit (cF u v) j), nI j)) _ H (fun j hj => ?_) ?_ (by omega)
    · have e1 : ¬ H ≤ j := by omega
      have e2 : ¬ 6 ≤ j := by omega
      unfold f_X8_litBits_L4
      simp (disch := omega) only [hH, L_6, i_le, i_lt0, i_cl, e1, e2, if_false, false_or, lit, nI_1]
      rw [show u.1 (3, v, j) 1 = cF u v j 1 from cF_at (by omega) (by omega)]
      by_cases hz : cF u v j 1 = 0
      · rw [if_pos hz, if_pos hz]
      · rw [if_neg hz, if_neg hz, b_or0 _ (lit_64 _ (by omega)) _ (by omega)]
    · unfold f_X8_litBits_L4
      simp (disch := omega) only [hH, i_le, Nat.le_refl, if_true]
  rw [key]
  rfl
theorem c_litCount {u : PM} {v H : Nat} (hH : u.1 (1, v, 0) 0 = nI H) (h6 : H ≤ 6) : f_X8_litCount v u = some (nI (pop (lit (cF u v) H))) := by
  unfold f_X8_litCount
  rw [c_litBits hH h6]
  simp only [Option.bind_some, c_bc (lit_64 _ h6)]
theorem c_find {u : PM} {v H h : Nat} (hH : u.1 (1, v, 0) 0 = nI H) (h6 : H ≤ 6) (hh : h < H) : f_X8_find v (nI h) u = some (some h) := by
  have e1 : ¬ H ≤ h := by omega
  have e2 : ¬ 6 ≤ h := by omega
  unfold f_X8_find
  simp (disch := omega) only [hH, L_6, i_le, i_lt0, i_cl, e1, e2, if_false, false_or]
theorem c_find0 {u : PM} {v H : Nat} {x : Int32} (hH : u.1 (1, v, 0) 0 = nI H) (h6 : H ≤ 6) (hx : ¬ ∃ h, h < H ∧ x = nI h) : f_X8_find v x u = some none := by
  unfold f_X8_find
  by_cases h0 : x < 0
  · rw [if_pos h0]
  · obtain ⟨j, hj, rfl⟩ := nI_of h0
    rw [if_neg h0, hH, if_pos (nI_le (Nat.not_lt.mp (fun z => hx ⟨j, z, rfl⟩)) hj)]
theorem c_hb {u : PM} {v a b : Nat} (ha : a < 6) (hb : b < 6) : f_X8_hoursBetween v (nI a) (nI b) u = some (cW u v a b) := by
  have e1 : ¬ 6 ≤ a := by omega
  have e2 : ¬ 6 ≤ b := by omega
  unfold f_X8_hoursBetween
  simp (disch := omega) only [L_6, i_le, i_lt0, i_cl, e1, e2, if_false, false_or, cW_at ha hb]
/-- the nearest fire among the first n houses -/
def nrA (F W : Nat → Nat → Int32) (h : Nat) : Nat → Option Nat
  | 0 => none
  | n + 1 => match nrA F W h n with
    | none => if F n 1 = 0 ∨ W h n ≤ 0 then none else some n
    | some b => if F n 1 = 0 ∨ W h n ≤ 0 ∨ W h b ≤ W h n then some b else some n
theorem nrA_lt {F W : Nat → Nat → Int32} {h b : Nat} : ∀ {n : Nat}, nrA F W h n = some b → b < n ∧ F b 1 ≠ 0
  | 0, e => by cases e
  | n + 1, e => by
    unfold nrA at e
    split at e
    · next e0 =>
      split at e
      · cases e
      · next h2 => cases e; exact ⟨by omega, fun z => h2 (Or.inl z)⟩
    · next b0 e0 =>
      split at e
      · cases e; exact ⟨Nat.lt_succ_of_lt (nrA_lt e0).1, (nrA_lt e0).2⟩
      · next h2 => cases e; exact ⟨by omega, fun z => h2 (Or.inl z)⟩
def oI (o : Option Nat) : Int32 := match o with
  | none => -1
  | some b => nI b
theorem c_near {u : PM} {v H h : Nat} (hH : u.1 (1, v, 0) 0 = nI H) (h6 : H ≤ 6) (hh : h < 6) (h9 : ∀ b, b < H → cW u v h b < 10) : f_X8_nearestFire v (nI h) u = some (oI (nrA (cF u v) (cW u v) h H)) := by
  unfold f_X8_nearestFire
  have key : am_loop (f_X8_nearestFire_L8 v (nI h) u) 2000 ((-1 : Int32), (10 : Int32), (0 : Int32)) = some (oI (nrA (cF u v) (cW u v) h H)) := by
    refine am_seq (fun j => (oI (nrA (cF u v) (cW u v) h j), (match nrA (cF u v) (cW u v) h j with | none => (10 : Int32) | some b => cW u v h b), nI j)) _ H (fun j hj => ?_) ?_ (by omega)
    · have e1 : ¬ H ≤ j := by omega
      have e2 : ¬ 6 ≤ j := by omega
      unfold f_X8_nearestFire_L8
      simp (disch := omega) only [hH, L_6, i_le, i_lt0, i_cl, e1, e2, if_false, false_or, nrA, c_hb hh (show j < 6 by omega), Option.bind_some, nI_1]
      rw [show u.1 (3, v, j) 1 = cF u v j 1 from cF_at (by omega) (by omega)]
      have e9 := h9 j hj
      cases nrA (cF u v) (cW u v) h j with
      | none =>
        by_cases hz : cF u v j 1 = 0
        · simp only [hz, if_true, true_or]
        · by_cases hw : cW u v h j ≤ 0
          · simp only [hz, hw, if_true, if_false, true_or, or_true]
          · simp only [hz, hw, if_false, or_self, Int32.not_le.mpr e9, oI]
      | some b =>
        by_cases hz : cF u v j 1 = 0
        · simp only [hz, if_true, true_or]
        · by_cases hw : cW u v h j ≤ 0
          · simp only [hz, hw, if_true, if_false, true_or, or_true]
          · by_cases hb : cW u v h b ≤ cW u v h j
            · simp only [hz, hw, hb, if_true, if_false, or_true]
            · simp only [hz, hw, hb, if_false, or_self, oI]
    · unfold f_X8_nearestFire_L8
      simp (disch := omega) only [hH, i_le, Nat.le_refl, if_true]
  rw [key]
  rfl
