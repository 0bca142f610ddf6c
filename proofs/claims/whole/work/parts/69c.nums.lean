/-! sums, the greatest divisor, odds as numbers -/
def sm (f : Nat → Nat) : Nat → Nat
  | 0 => 0
  | n + 1 => sm f n + f n
theorem sm_congr {f g : Nat → Nat} : ∀ n, (∀ i, i < n → f i = g i) → sm f n = sm g n
  | 0, _ => rfl
  | n + 1, h => by rw [sm, sm, sm_congr n (fun i hi => h i (by omega)), h n (by omega)]
theorem sm_add (f : Nat → Nat) (a : Nat) : ∀ b, sm f (a + b) = sm f a + sm (fun i => f (a + i)) b
  | 0 => rfl
  | b + 1 => by
    show sm f (a + b) + f (a + b) = sm f a + (sm (fun i => f (a + i)) b + f (a + b))
    rw [sm_add f a b, Nat.add_assoc]
theorem sm_mul (f : Nat → Nat) (n : Nat) : ∀ m, sm f (n * m) = sm (fun d => sm (fun b => f (n * d + b)) n) m
  | 0 => rfl
  | m + 1 => by
    rw [Nat.mul_succ, sm_add, sm_mul f n m]
    rfl
theorem sm_fg (f g : Nat → Nat) : ∀ n, sm (fun i => f i + g i) n = sm f n + sm g n
  | 0 => rfl
  | n + 1 => by
    show sm (fun i => f i + g i) n + (f n + g n) = (sm f n + f n) + (sm g n + g n)
    rw [sm_fg f g n]
    omega
theorem sm_z {f : Nat → Nat} : ∀ n, (∀ i, i < n → f i = 0) → sm f n = 0
  | 0, _ => rfl
  | n + 1, h => by
    show sm f n + f n = 0
    rw [sm_z n (fun i hi => h i (by omega)), h n (by omega)]
theorem sm_swap (f : Nat → Nat → Nat) (n : Nat) : ∀ m, sm (fun d => sm (fun b => f b d) n) m = sm (fun b => sm (fun d => f b d) m) n
  | 0 => (sm_z n (fun _ _ => rfl)).symm
  | m + 1 => by
    show sm (fun d => sm (fun b => f b d) n) m + sm (fun b => f b m) n = _
    rw [sm_swap f n m, ← sm_fg]
    rfl
theorem sm_tail {f : Nat → Nat} {k : Nat} : ∀ n, k ≤ n → (∀ i, k ≤ i → i < n → f i = 0) → sm f n = sm f k
  | 0, h, _ => by rw [show k = 0 by omega]
  | n + 1, h, hz => by
    by_cases e : k = n + 1
    · rw [e]
    · show sm f n + f n = sm f k
      rw [sm_tail n (by omega) (fun i h1 h2 => hz i h1 (by omega)), hz n (by omega) (by omega), Nat.add_zero]
theorem sm_mono {f g : Nat → Nat} : ∀ n, (∀ i, i < n → f i ≤ g i) → sm f n ≤ sm g n
  | 0, _ => Nat.le_refl _
  | n + 1, h => Nat.add_le_add (sm_mono n (fun i hi => h i (by omega))) (h n (by omega))
theorem sm_k (K : Nat) : ∀ n, sm (fun _ => K) n = n * K
  | 0 => (Nat.zero_mul K).symm
  | n + 1 => by
    show sm (fun _ => K) n + K = (n + 1) * K
    rw [sm_k K n, Nat.succ_mul]
theorem sm_cm (c : Nat) (f : Nat → Nat) : ∀ n, sm (fun i => c * f i) n = c * sm f n
  | 0 => rfl
  | n + 1 => by
    show sm (fun i => c * f i) n + c * f n = c * (sm f n + f n)
    rw [sm_cm c f n, Nat.mul_add]
/-- 24 turns: a weather and a set each -/
theorem sm_24 (F : Nat → Nat → Nat) {k : Nat} (hk : k ≤ 8) (hz : ∀ w s, k ≤ s → s < 8 → F w s = 0) : sm (fun c => F (c / 8) (c % 8)) 24 = sm (fun w => sm (fun s => F w s) k) 3 := by
  rw [show 24 = 8 * 3 from rfl, sm_mul]
  refine sm_congr 3 (fun w _ => ?_)
  rw [← sm_tail (f := fun s => F w s) (k := k) 8 hk (fun s h1 h2 => hz w s h1 h2)]
  refine sm_congr 8 (fun s hs => ?_)
  rw [show (8 * w + s) / 8 = w by omega, show (8 * w + s) % 8 = s by omega]
theorem gstep (x y : Nat) : Nat.gcd x y = Nat.gcd y (x % y) := by
  rw [Nat.gcd_comm x y, Nat.gcd_rec y x, Nat.gcd_comm (x % y) y]
theorem half_mod {y r k : Nat} (h0 : 0 < r) (hr : r < y) (hy : y < 2 ^ (k + 1)) : y % r < 2 ^ k := by
  have h1 := Nat.mod_lt y h0
  have h2 := Nat.div_add_mod y r
  have h3 : 0 < y / r := Nat.div_pos (Nat.le_of_lt hr) h0
  have h4 : r ≤ r * (y / r) := Nat.le_mul_of_pos_right r h3
  rw [Nat.pow_succ] at hy
  omega
theorem l_eq0 {y : Nat} (h : y < 2 ^ 63) : (lg_cmp (lN y) (0 : Int64) = 0) = (y = 0) := propext ((lg_cmp_eq _ _).trans (pk_lEQ (b := 0) h (by omega)))
theorem l_ne0 {y : Nat} (h : y < 2 ^ 63) (h0 : y ≠ 0) : ¬ lN y = 0 := fun z => h0 ((pk_lEQ (b := 0) h (by omega)).mp z)
theorem m_gcd1 (u : PM) {x y : Nat} (hx : x < 2 ^ 63) (hy : y < 2 ^ 63) : f_X10_divisor_L6 u (lN x, lN y) = if y = 0 then some (.inr (lN x)) else some (.inl (lN y, lN (x % y))) := by
  unfold f_X10_divisor_L6
  dsimp only
  simp only [l_eq0 hy]
  by_cases e : y = 0
  · rw [if_pos e, if_pos e]
  · rw [if_neg e, if_neg e, if_neg (l_ne0 hy e), pk_lRem hx (by omega) hy]
theorem m_gcd (u : PM) : ∀ (k x y n : Nat), x < 2 ^ 63 → y < 2 ^ k → k ≤ 63 → 2 * k + 1 ≤ n → am_loop (f_X10_divisor_L6 u) n (lN x, lN y) = some (lN (Nat.gcd x y))
  | 0, x, y, n, hx, hy, hk, hn => by
    have e : y = 0 := by omega
    subst e
    obtain ⟨n', rfl⟩ : ∃ n', n = n' + 1 := ⟨n - 1, by omega⟩
    rw [am_loop_e ((m_gcd1 u hx (by omega)).trans (if_pos rfl)), Nat.gcd_zero_right]
  | k + 1, x, y, n, hx, hy, hk, hn => by
    have h63 : y < 2 ^ 63 := Nat.lt_of_lt_of_le hy (Nat.pow_le_pow_right (by decide) hk)
    obtain ⟨n', rfl⟩ : ∃ n', n = n' + 2 := ⟨n - 2, by omega⟩
    by_cases e : y = 0
    · subst e
      rw [am_loop_e ((m_gcd1 u hx h63).trans (if_pos rfl)), Nat.gcd_zero_right]
    · have hr := Nat.mod_lt x (show y > 0 by omega)
      rw [am_loop_s ((m_gcd1 u hx h63).trans (if_neg e)), gstep x y]
      by_cases e2 : x % y = 0
      · rw [e2, am_loop_e ((m_gcd1 u h63 (by omega)).trans (if_pos rfl)), Nat.gcd_zero_right]
      · rw [am_loop_s ((m_gcd1 u h63 (by omega)).trans (if_neg e2)), gstep y (x % y)]
        exact m_gcd u k (x % y) (y % (x % y)) n' (by omega) (half_mod (by omega) hr hy) (by omega) (by omega)
theorem c_gcd1 (u : PM) {x y j : Nat} (hj : j < 1000) (hx : x < 2 ^ 63) (hy : y < 2 ^ 63) : f_X4_commonDivisor_L9 u (lN x, lN y, nI j) = if y = 0 then some (.inr (lN x)) else some (.inl (lN y, lN (x % y), nI (j + 1))) := by
  unfold f_X4_commonDivisor_L9
  dsimp only
  simp only [l_eq0 hy]
  rw [if_neg (show ¬ (1000 : Int32) ≤ nI j from nI_ge (b := 1000) hj (by omega)), nI_1]
  by_cases e : y = 0
  · rw [if_pos e, if_pos e]
  · rw [if_neg e, if_neg e, if_neg (l_ne0 hy e), pk_lRem hx (by omega) hy]
theorem c_gcd (u : PM) : ∀ (k x y n j : Nat), j + 2 * k < 1000 → x < 2 ^ 63 → y < 2 ^ k → k ≤ 63 → 2 * k + 1 ≤ n → am_loop (f_X4_commonDivisor_L9 u) n (lN x, lN y, nI j) = some (lN (Nat.gcd x y))
  | 0, x, y, n, j, hj, hx, hy, hk, hn => by
    have e : y = 0 := by omega
    subst e
    obtain ⟨n', rfl⟩ : ∃ n', n = n' + 1 := ⟨n - 1, by omega⟩
    rw [am_loop_e ((c_gcd1 u (by omega) hx (by omega)).trans (if_pos rfl)), Nat.gcd_zero_right]
  | k + 1, x, y, n, j, hj, hx, hy, hk, hn => by
    have h63 : y < 2 ^ 63 := Nat.lt_of_lt_of_le hy (Nat.pow_le_pow_right (by decide) hk)
    obtain ⟨n', rfl⟩ : ∃ n', n = n' + 2 := ⟨n - 2, by omega⟩
    by_cases e : y = 0
    · subst e
      rw [am_loop_e ((c_gcd1 u (by omega) hx h63).trans (if_pos rfl)), Nat.gcd_zero_right]
    · have hr := Nat.mod_lt x (show y > 0 by omega)
      rw [am_loop_s ((c_gcd1 u (by omega) hx h63).trans (if_neg e)), gstep x y]
      by_cases e2 : x % y = 0
      · rw [e2, am_loop_e ((c_gcd1 u (by omega) h63 (by omega)).trans (if_pos rfl)), Nat.gcd_zero_right]
      · rw [am_loop_s ((c_gcd1 u (by omega) h63 (by omega)).trans (if_neg e2)), gstep y (x % y)]
        exact c_gcd u k (x % y) (y % (x % y)) n' (j + 1 + 1) (by omega) (by omega) (half_mod (by omega) hr hy) (by omega) (by omega)
/-! what a land's numbers come to -/
def amK (cs : List Cl) : Prop := ∀ x, x ∈ cs → ∃ k, k < 100 ∧ x.2.1 = nI k
def okA (V : Vil) : Prop := ∀ y, V.2.2.2.2.2 = some y → y.2.length ≤ 10 ∧ amK y.2
theorem sumL_n {F : Nat → Int32} {k : Nat} : ∀ (cs : List Cl) (a : Nat), amK cs → ∃ b, b ≤ a + 100 * cs.length ∧ sumL F k cs (nI a) = nI b
  | [], a, _ => ⟨a, by simp, rfl⟩
  | x :: cs, a, h => by
    obtain ⟨k', hk', e⟩ := h x List.mem_cons_self
    unfold sumL
    by_cases c : x.1 = k ∧ hoA F x.2.2.2 = true
    · rw [if_pos c, e, nI_add]
      obtain ⟨b, hb, e2⟩ := sumL_n cs (a + k') (fun y hy => h y (List.mem_cons_of_mem _ hy))
      exact ⟨b, by simp only [List.length_cons]; omega, e2⟩
    · rw [if_neg c]
      obtain ⟨b, hb, e2⟩ := sumL_n cs a (fun y hy => h y (List.mem_cons_of_mem _ hy))
      exact ⟨b, by simp only [List.length_cons]; omega, e2⟩
theorem sumA_n {V : Vil} (hA : okA V) (k h : Nat) (wt : Int32) : ∃ m, m ≤ 100 ∧ (k ≠ 0 → m ≤ 99) ∧ sumA V k h wt = nI m := by
  unfold sumA
  cases hl : V.2.2.2.2.2 with
  | none => exact ⟨0, by omega, fun _ => by omega, rfl⟩
  | some y =>
    obtain ⟨h10, hk⟩ := hA y hl
    obtain ⟨b, hb, e⟩ := sumL_n (F := fcA V h wt) (k := k) y.2 0 hk
    dsimp only
    rw [show (0 : Int32) = nI 0 from rfl, e]
    unfold capA
    by_cases z : k = 0
    · rw [if_pos z, L_100]
      simp (disch := omega) only [i_lt]
      by_cases c : 100 < b
      · rw [if_pos c]; exact ⟨100, by omega, fun q => absurd z q, rfl⟩
      · rw [if_neg c]; exact ⟨b, by omega, fun q => absurd z q, rfl⟩
    · rw [if_neg z, L_99]
      simp (disch := omega) only [i_lt]
      by_cases c : 99 < b
      · rw [if_pos c]; exact ⟨99, by omega, fun _ => by omega, rfl⟩
      · rw [if_neg c]; exact ⟨b, by omega, fun _ => by omega, rfl⟩
def sN (V : Vil) (k h : Nat) (wt : Int32) : Nat := (sumA V k h wt).toNatClampNeg
theorem sN_e {V : Vil} (hA : okA V) (k h : Nat) (wt : Int32) : sumA V k h wt = nI (sN V k h wt) ∧ sN V k h wt ≤ 100 ∧ (k ≠ 0 → sN V k h wt ≤ 99) := by
  obtain ⟨m, h1, h2, e⟩ := sumA_n hA k h wt
  unfold sN
  rw [e, nI_clamp (show m < 2 ^ 31 by omega)]
  exact ⟨rfl, h1, h2⟩
theorem nxL_n {a b : Nat} : ∀ (cs : List Cl) (s : Nat), s < 100 → amK cs → ∃ m, m < 100 ∧ nxL a b cs (nI s) = nI m
  | [], s, hs, _ => ⟨s, hs, rfl⟩
  | x :: cs, s, hs, h => by
    obtain ⟨k', hk', e⟩ := h x List.mem_cons_self
    unfold nxL
    split
    · rw [e]
      exact nxL_n cs k' hk' (fun y hy => h y (List.mem_cons_of_mem _ hy))
    · exact nxL_n cs s hs (fun y hy => h y (List.mem_cons_of_mem _ hy))
theorem amK_cs {V : Vil} (hA : okA V) : amK (csA V) := by
  unfold csA
  cases hl : V.2.2.2.2.2 with
  | none =>
    intro x hx
    cases hx
  | some y => exact (hA y hl).2
def mn (x y : Nat) : Nat := if x < y then x else y
theorem mn_le (x y : Nat) : mn x y ≤ x := by
  unfold mn
  split <;> omega
theorem mnA_n {x y : Nat} (hx : x < 1000) (hy : y < 1000) : mnA (nI x) (nI y) = nI (mn x y) := by
  unfold mnA mn
  simp (disch := omega) only [i_lt]
  split <;> rfl
def nnA (V : Vil) (a b : Nat) : Nat := (nxL a b (csA V) 0).toNatClampNeg
theorem nnA_e {V : Vil} (hA : okA V) (a b : Nat) : nxL a b (csA V) 0 = nI (nnA V a b) ∧ nnA V a b < 100 := by
  obtain ⟨m, h1, e⟩ := nxL_n (a := a) (b := b) (csA V) 0 (by omega) (amK_cs hA)
  have e : nxL a b (csA V) 0 = nI m := e
  unfold nnA
  rw [e, nI_clamp (show m < 2 ^ 31 by omega)]
  exact ⟨rfl, h1⟩
def lfn (f : Nat → Nat) (a : Nat) : Nat → Nat
  | 0 => 10
  | b + 1 => if b = a then lfn f a b else lfn f a b - mn (lfn f a b) (f b)
theorem lfn_le (f : Nat → Nat) (a : Nat) : ∀ b, lfn f a b ≤ 10
  | 0 => by unfold lfn; omega
  | b + 1 => by
    have := lfn_le f a b
    unfold lfn
    split <;> omega
theorem lfA_n {V : Vil} (hA : okA V) (a : Nat) : ∀ b, lfA V a b = nI (lfn (nnA V a) a b)
  | 0 => rfl
  | b + 1 => by
    have h1 := lfn_le (nnA V a) a b
    have h2 := nnA_e hA a b
    unfold lfA lfn
    by_cases e : b = a
    · rw [if_pos e, if_pos e]
      exact lfA_n hA a b
    · rw [if_neg e, if_neg e, lfA_n hA a b, h2.1, mnA_n (by omega) (by omega), i_sub (mn_le _ _)]
def fN (V : Vil) (a b : Nat) : Nat := if b = a then lfn (nnA V a) a 3 else mn (lfn (nnA V a) a b) (nnA V a b)
theorem fN_e {V : Vil} (hA : okA V) (a b : Nat) : fwA V a b = nI (fN V a b) ∧ fN V a b ≤ 10 := by
  have h1 := lfn_le (nnA V a) a b
  have h2 := nnA_e hA a b
  have h3 := lfn_le (nnA V a) a 3
  unfold fwA fN
  by_cases e : b = a
  · rw [if_pos e, if_pos e]
    exact ⟨lfA_n hA a 3, h3⟩
  · rw [if_neg e, if_neg e, lfA_n hA a b, h2.1, mnA_n (by omega) (by omega)]
    have := mn_le (lfn (nnA V a) a b) (nnA V a b)
    exact ⟨rfl, by omega⟩
theorem fN_sum (V : Vil) {a : Nat} (ha : a < 3) : fN V a 0 + fN V a 1 + fN V a 2 = 10 := by
  have : a = 0 ∨ a = 1 ∨ a = 2 := by omega
  rcases this with rfl | rfl | rfl
  · have m1 := mn_le 10 (nnA V 0 1)
    have m2 := mn_le (10 - mn 10 (nnA V 0 1)) (nnA V 0 2)
    show (10 - mn 10 (nnA V 0 1) - mn (10 - mn 10 (nnA V 0 1)) (nnA V 0 2)) + mn 10 (nnA V 0 1) + mn (10 - mn 10 (nnA V 0 1)) (nnA V 0 2) = 10
    omega
  · have m1 := mn_le 10 (nnA V 1 0)
    have m2 := mn_le (10 - mn 10 (nnA V 1 0)) (nnA V 1 2)
    show mn 10 (nnA V 1 0) + (10 - mn 10 (nnA V 1 0) - mn (10 - mn 10 (nnA V 1 0)) (nnA V 1 2)) + mn (10 - mn 10 (nnA V 1 0)) (nnA V 1 2) = 10
    omega
  · have m1 := mn_le 10 (nnA V 2 0)
    have m2 := mn_le (10 - mn 10 (nnA V 2 0)) (nnA V 2 1)
    show mn 10 (nnA V 2 0) + mn (10 - mn 10 (nnA V 2 0)) (nnA V 2 1) + (10 - mn 10 (nnA V 2 0) - mn (10 - mn 10 (nnA V 2 0)) (nnA V 2 1)) = 10
    omega
theorem lfA_c {V V' : Vil} (h : V'.2.2.2.2.2 = V.2.2.2.2.2) (a : Nat) : ∀ b, lfA V' a b = lfA V a b
  | 0 => rfl
  | b + 1 => by
    unfold lfA csA
    rw [h, lfA_c h a b]
theorem fwA_c {V V' : Vil} (h : V'.2.2.2.2.2 = V.2.2.2.2.2) (a b : Nat) : fwA V' a b = fwA V a b := by
  unfold fwA csA
  rw [h, lfA_c h, lfA_c h]
/-! odds of mishaps -/
def facN (V : Vil) (w s h : Nat) : Nat := if V.1 h 1 = 0 then (if s.testBit h = true then 0 else 100) else (if s.testBit h = true then sN V 0 h (nI w) else 100 - sN V 0 h (nI w))
def shN (V : Vil) (w s : Nat) : Nat → Nat
  | 0 => 1
  | n + 1 => shN V w s n * facN V w s n
theorem facN_le {V : Vil} (hA : okA V) (w s h : Nat) : facN V w s h ≤ 100 := by
  have := (sN_e hA 0 h (nI w)).2.1
  unfold facN
  split
  · split <;> omega
  · split <;> omega
theorem shN_le {V : Vil} (hA : okA V) (w s : Nat) : ∀ n, shN V w s n ≤ 100 ^ n
  | 0 => Nat.le_refl _
  | n + 1 => by
    rw [Nat.pow_succ]
    exact Nat.mul_le_mul (shN_le hA w s n) (facN_le hA w s n)
def t1N (V : Vil) (a w s : Nat) : Nat := if s < 2 ^ V.2.2.1 then fN V a w * shN V w s V.2.2.1 else 0
theorem p100 : ∀ n, n ≤ 3 → 100 ^ n ≤ 1000000 := by decide
theorem t1N_le {V : Vil} (hA : okA V) (h3 : V.2.2.1 ≤ 3) (a w s : Nat) : t1N V a w s ≤ fN V a w * 1000000 := by
  unfold t1N
  split
  · exact Nat.mul_le_mul (Nat.le_refl _) (Nat.le_trans (shN_le hA w s _) (p100 _ h3))
  · exact Nat.zero_le _
theorem t1N_le7 {V : Vil} (hA : okA V) (h3 : V.2.2.1 ≤ 3) (a w s : Nat) : t1N V a w s ≤ 10000000 := by
  have h1 := t1N_le hA h3 a w s
  have h2 := (fN_e hA a w).2
  omega
theorem p2_8 : ∀ n, n ≤ 3 → 2 ^ n ≤ 8 := by decide
theorem t1N_sum {V : Vil} (hA : okA V) (h3 : V.2.2.1 ≤ 3) {a : Nat} (ha : a < 3) : sm (fun w => sm (fun s => t1N V a w s) (2 ^ V.2.2.1)) 3 ≤ 80000000 := by
  have h1 : ∀ w, sm (fun s => t1N V a w s) (2 ^ V.2.2.1) ≤ 8 * (fN V a w * 1000000) := fun w => by
    refine Nat.le_trans (sm_mono (g := fun _ => fN V a w * 1000000) _ (fun s _ => t1N_le hA h3 a w s)) ?_
    rw [sm_k]
    exact Nat.mul_le_mul (p2_8 _ h3) (Nat.le_refl _)
  have h2 := h1 0
  have h4 := h1 1
  have h5 := h1 2
  have h6 := fN_sum V ha
  show 0 + sm (fun s => t1N V a 0 s) (2 ^ V.2.2.1) + sm (fun s => t1N V a 1 s) (2 ^ V.2.2.1) + sm (fun s => t1N V a 2 s) (2 ^ V.2.2.1) ≤ 80000000
  omega
def wN (V : Vil) (w : Nat) : Nat → Nat
  | 0 => 0
  | n + 1 => if V.1 n 1 = 0 then wN V w n else wN V w n + sN V 3 n (nI w)
theorem wN_le {V : Vil} (hA : okA V) (w : Nat) : ∀ n, wN V w n ≤ 99 * n
  | 0 => Nat.le_refl _
  | n + 1 => by
    have h1 := wN_le hA w n
    have h2 := (sN_e hA 3 n (nI w)).2.2 (by omega)
    unfold wN
    split <;> omega
theorem wS_n {V : Vil} (hA : okA V) (w a : Nat) : ∀ n, wS V (nI w) (nI a) n = nI (a + wN V w n)
  | 0 => rfl
  | n + 1 => by
    unfold wS wN
    rw [wS_n hA w a n]
    split
    · rfl
    · rw [(sN_e hA 3 n (nI w)).1, nI_add, Nat.add_assoc]
def eT (V : Vil) (a p w s : Nat) : Nat := if lit (hourA V (nI w) (nI s)).1 V.2.2.1 = 0 then p * t1N V a w s else 0
def wT (V : Vil) (a p wo w s : Nat) : Nat := p * t1N V a w s * (wo + wN V w V.2.2.1)
def lastE (V : Vil) (a p : Nat) : Nat := sm (fun w => sm (fun s => eT V a p w s) (2 ^ V.2.2.1)) 3
def lastW (V : Vil) (a p wo : Nat) : Nat := sm (fun w => sm (fun s => wT V a p wo w s) (2 ^ V.2.2.1)) 3
theorem sm2_cm (c : Nat) (f : Nat → Nat → Nat) (n m : Nat) : sm (fun w => sm (fun s => c * f w s) n) m = c * sm (fun w => sm (fun s => f w s) n) m := by
  rw [← sm_cm]
  exact sm_congr m (fun w _ => sm_cm c (f w) n)
theorem sm2_mono {f g : Nat → Nat → Nat} (n m : Nat) (h : ∀ w s, w < m → s < n → f w s ≤ g w s) : sm (fun w => sm (fun s => f w s) n) m ≤ sm (fun w => sm (fun s => g w s) n) m :=
  sm_mono m (fun w hw => sm_mono n (fun s hs => h w s hw hs))
theorem lastE_le {V : Vil} (hA : okA V) (h3 : V.2.2.1 ≤ 3) {a : Nat} (ha : a < 3) (p : Nat) : lastE V a p ≤ p * 80000000 := by
  refine Nat.le_trans (sm2_mono (g := fun w s => p * t1N V a w s) _ _ (fun w s _ _ => ?_)) ?_
  · unfold eT
    split
    · exact Nat.le_refl _
    · exact Nat.zero_le _
  · rw [sm2_cm]
    exact Nat.mul_le_mul (Nat.le_refl _) (t1N_sum hA h3 ha)
theorem lastW_le {V : Vil} (hA : okA V) (h3 : V.2.2.1 ≤ 3) {a : Nat} (ha : a < 3) (p : Nat) {wo : Nat} (hw : wo ≤ 297) : lastW V a p wo ≤ p * 594 * 80000000 := by
  refine Nat.le_trans (sm2_mono (g := fun w s => (p * 594) * t1N V a w s) _ _ (fun w s _ _ => ?_)) ?_
  · have h1 := wN_le hA w V.2.2.1
    unfold wT
    rw [Nat.mul_assoc p (t1N V a w s), Nat.mul_comm (t1N V a w s), ← Nat.mul_assoc]
    exact Nat.mul_le_mul (Nat.mul_le_mul (Nat.le_refl _) (by omega)) (Nat.le_refl _)
  · rw [sm2_cm]
    exact Nat.mul_le_mul (Nat.le_refl _) (t1N_sum hA h3 ha)
