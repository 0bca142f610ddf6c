/-! an hour, as numbers -/
def updR (F : Nat → Nat → Int32) (n : Nat) (R : Nat → Int32) : Nat → Nat → Int32 := fun h f => if h = n then R f else F h f
theorem updR_at (F : Nat → Nat → Int32) (n : Nat) (R : Nat → Int32) : updR F n R n = R := funext fun f => if_pos rfl
theorem updR_ne (F : Nat → Nat → Int32) {n h : Nat} (R : Nat → Int32) (e : h ≠ n) : updR F n R h = F h := funext fun f => if_neg e
theorem updR_2 (F : Nat → Nat → Int32) (n : Nat) (R R' : Nat → Int32) : updR (updR F n R) n R' = updR F n R' := by
  funext h f
  unfold updR
  by_cases e : h = n
  · rw [if_pos e, if_pos e]
  · rw [if_neg e, if_neg e, if_neg e]
theorem updR_id (F : Nat → Nat → Int32) (n : Nat) : updR F n (F n) = F := by
  funext h f
  unfold updR
  by_cases e : h = n
  · rw [if_pos e, e]
  · rw [if_neg e]
theorem lit_upd {F : Nat → Nat → Int32} {n H : Nat} (R : Nat → Int32) (hn : n < H) (h6 : H ≤ 6) : lit (updR F n R) H = if R 1 = 0 then clr (lit F H) n else lit F H ||| 2 ^ n := by
  refine Nat.eq_of_testBit_eq (fun i => ?_)
  rw [lit_tb]
  by_cases hz : R 1 = 0
  · rw [if_pos hz, clr_tb _ _ _ (lit_64 F h6) (by omega), lit_tb]
    by_cases hi : i = n
    · subst hi
      rw [updR_at]
      simp [hz]
    · rw [updR_ne F R hi]
      simp [hi]
  · rw [if_neg hz, Nat.testBit_or, lit_tb, Nat.testBit_two_pow]
    by_cases hi : i = n
    · subst hi
      rw [updR_at]
      simp [hz, hn]
    · rw [updR_ne F R hi]
      simp [show ¬ n = i from fun z => hi z.symm]
theorem lit_same {F : Nat → Nat → Int32} {n H : Nat} {R : Nat → Int32} (hR : R 1 = F n 1) : lit (updR F n R) H = lit F H := by
  refine Nat.eq_of_testBit_eq (fun i => ?_)
  rw [lit_tb, lit_tb]
  by_cases hi : i = n
  · subst hi
    rw [updR_at, hR]
  · rw [updR_ne F R hi]
def setA (a b c : Int32) (R : Nat → Int32) : Nat → Int32 := fun f => if f = 8 then 0 else if f = 7 then c else if f = 6 then b else if f = 5 then a else R f
def put1 (R : Nat → Int32) (f : Nat) (x : Int32) : Nat → Int32 := fun f' => if f' = f then x else R f'
def mishA (mis : Int32) (h : Nat) : Bool := !decide (((mis >>> (nI h &&& 31)) &&& (1 : Int32)) = 0)
def g2A (V : Vil) (wt mis : Int32) (F : Nat → Nat → Int32) (n : Nat) : Nat → Int32 :=
  if choA V n wt = 3 then (match nearA V n with | none => F n | some g => setA 1 (V.2.1 n g) (nI g) (F n))
  else if F n 1 = 0 then F n
  else if choA V n wt = 1 ∧ ¬ F n 0 < sumA V 1 n wt ∧ mishA mis n = false then put1 (F n) 0 (F n 0 - sumA V 1 n wt)
  else put1 (F n) 1 0
def g3A (V : Vil) (wt : Int32) (F : Nat → Nat → Int32) (n : Nat) : Nat → Int32 :=
  if F n 5 = 1 then
    (if F n 6 - 1 ≤ 0 then
      (if F (F n 7).toNatClampNeg 1 = 0 then setA 0 0 0 (put1 (F n) 6 (F n 6 - 1))
       else setA 2 (if 1 < V.2.1 n (F n 7).toNatClampNeg then V.2.1 n (F n 7).toNatClampNeg else 1) (F n 7) (put1 (F n) 6 (F n 6 - 1)))
     else put1 (F n) 6 (F n 6 - 1))
  else if F n 5 = 2 then
    (if F n 8 + 1 ≤ sumA V 2 n wt then
      (if 0 < F n 6 - 1 then put1 (put1 (F n) 6 (F n 6 - 1)) 8 (F n 8 + 1) else setA 0 0 0 (put1 (put1 (put1 (F n) 6 (F n 6 - 1)) 8 (F n 8 + 1)) 1 1))
     else setA 0 0 0 (put1 (put1 (F n) 6 (F n 6 - 1)) 8 (F n 8 + 1)))
  else F n
def foldF (G : (Nat → Nat → Int32) → Nat → Nat → Int32) (F0 : Nat → Nat → Int32) : Nat → Nat → Nat → Int32
  | 0 => F0
  | n + 1 => updR (foldF G F0 n) n (G (foldF G F0 n) n)
theorem foldF_ge (G : (Nat → Nat → Int32) → Nat → Nat → Int32) (F0 : Nat → Nat → Int32) (h : Nat) : ∀ n, n ≤ h → foldF G F0 n h = F0 h
  | 0, _ => rfl
  | n + 1, hn => by
    unfold foldF
    rw [updR_ne _ _ (show h ≠ n by omega)]
    exact foldF_ge G F0 h n (by omega)
def hour2 (V : Vil) (wt mis : Int32) (n : Nat) : Nat → Nat → Int32 := foldF (g2A V wt mis) V.1 n
def hour3 (V : Vil) (wt mis : Int32) (n : Nat) : Nat → Nat → Int32 := foldF (g3A V wt) (hour2 V wt mis V.2.2.1) n
def hourA (V : Vil) (wt mis : Int32) : Vil := (hour3 V wt mis V.2.2.1, V.2.1, V.2.2.1, wt, V.2.2.2.2.1 + 1, V.2.2.2.2.2)
def wS (V : Vil) (wt a : Int32) : Nat → Int32
  | 0 => a
  | n + 1 => if V.1 n 1 = 0 then wS V wt a n else wS V wt a n + sumA V 3 n wt
def lS (V : Vil) (wt a : Int32) : Nat → Int32
  | 0 => a
  | n + 1 => if V.1 n 1 = 0 ∧ ¬ sumA V 3 n wt ≤ 0 then lS V wt a n + 1 else lS V wt a n
/-- what holds of a row -/
def WR (H : Nat) (R : Nat → Int32) : Prop := (R 1 = 0 ∨ R 1 = 1) ∧ (∃ k, k < 7 ∧ R 2 = nI k) ∧ (R 5 = 0 ∨ ((R 5 = 1 ∨ R 5 = 2) ∧ ∃ g, g < H ∧ R 7 = nI g))
theorem WF_row {V : Vil} (h : WF V) {n : Nat} (hn : n < V.2.2.1) : WR V.2.2.1 (V.1 n) := ⟨h.2.1 n (by have := h.1; omega), h.2.2.1 n hn, h.2.2.2.1 n hn⟩
theorem WF_upd {F : Nat → Nat → Int32} {X : (Nat → Nat → Int32) × Nat × Int32 × Int32 × Option (Nat × List Cl)} (h : WF (F, X)) {n : Nat} {R : Nat → Int32} (hR : WR X.2.1 R) : WF (updR F n R, X) := by
  obtain ⟨a1, a2, a3, a4, a5⟩ := h
  obtain ⟨b1, b2, b3⟩ := hR
  refine ⟨a1, fun i hi => ?_, fun i hi => ?_, fun i hi => ?_, a5⟩
  · show updR F n R i 1 = 0 ∨ updR F n R i 1 = 1
    by_cases e : i = n
    · subst e; rw [updR_at]; exact b1
    · rw [updR_ne F R e]; exact a2 i hi
  · show ∃ k, k < 7 ∧ updR F n R i 2 = nI k
    by_cases e : i = n
    · subst e; rw [updR_at]; exact b2
    · rw [updR_ne F R e]; exact a3 i hi
  · show updR F n R i 5 = 0 ∨ _
    by_cases e : i = n
    · subst e; simp only [updR_at]; exact b3
    · simp only [updR_ne F R e]; exact a4 i hi
theorem WR_set {H : Nat} {R : Nat → Int32} (h : WR H R) {a b c : Int32} (ha : a = 0 ∨ ((a = 1 ∨ a = 2) ∧ ∃ g, g < H ∧ c = nI g)) : WR H (setA a b c R) := ⟨h.1, h.2.1, ha⟩
theorem WR_put {H : Nat} {R : Nat → Int32} (h : WR H R) {f : Nat} {x : Int32} (hf : f = 0 ∨ f = 6 ∨ f = 8 ∨ (f = 1 ∧ (x = 0 ∨ x = 1))) : WR H (put1 R f x) := by
  rcases hf with rfl | rfl | rfl | ⟨rfl, hx⟩
  · exact h
  · exact h
  · exact h
  · exact ⟨hx, h.2⟩
theorem WF_g2 {V : Vil} (hW : WF V) {wt mis : Int32} {F : Nat → Nat → Int32} {n : Nat} (hn : n < V.2.2.1) (hF : WR V.2.2.1 (F n)) : WR V.2.2.1 (g2A V wt mis F n) := by
  unfold g2A
  split
  · split
    · exact hF
    · next g e => exact WR_set hF (Or.inr ⟨Or.inl rfl, g, nearA_lt e, rfl⟩)
  · split
    · exact hF
    · split
      · exact WR_put hF (Or.inl rfl)
      · exact WR_put hF (Or.inr (Or.inr (Or.inr ⟨rfl, Or.inl rfl⟩)))
theorem WF_g3 {V : Vil} {wt : Int32} {F : Nat → Nat → Int32} {n : Nat} (hF : WR V.2.2.1 (F n)) : WR V.2.2.1 (g3A V wt F n) := by
  have p6 : ∀ x, WR V.2.2.1 (put1 (F n) 6 x) := fun x => WR_put hF (Or.inr (Or.inl rfl))
  have p8 : ∀ x y, WR V.2.2.1 (put1 (put1 (F n) 6 x) 8 y) := fun x y => WR_put (p6 x) (Or.inr (Or.inr (Or.inl rfl)))
  unfold g3A
  split
  · next e1 =>
    split
    · split
      · exact WR_set (p6 _) (Or.inl rfl)
      · refine WR_set (p6 _) (Or.inr ⟨Or.inr rfl, ?_⟩)
        rcases hF.2.2 with e | ⟨_, g, hg, e⟩
        · rw [e1] at e; cases e
        · exact ⟨g, hg, e⟩
    · exact p6 _
  · split
    · split
      · split
        · exact p8 _ _
        · exact WR_set (WR_put (p8 _ _) (Or.inr (Or.inr (Or.inr ⟨rfl, Or.inr rfl⟩)))) (Or.inl rfl)
      · exact WR_set (p8 _ _) (Or.inl rfl)
    · exact hF
theorem WF_h2 {V : Vil} (hW : WF V) (wt mis : Int32) : ∀ n, n ≤ V.2.2.1 → WF (hour2 V wt mis n, V.2)
  | 0, _ => hW
  | n + 1, hn => by
    have ih := WF_h2 hW wt mis n (by omega)
    exact WF_upd ih (WF_g2 hW (by omega) (WF_row ih (show n < V.2.2.1 by omega)))
theorem WF_h3 {V : Vil} (hW : WF V) (wt mis : Int32) : ∀ n, n ≤ V.2.2.1 → WF (hour3 V wt mis n, V.2)
  | 0, _ => WF_h2 hW wt mis _ (Nat.le_refl _)
  | n + 1, hn => by
    have ih := WF_h3 hW wt mis n (by omega)
    exact WF_upd ih (WF_g3 (WF_row ih (show n < V.2.2.1 by omega)))
theorem WF_hour {V : Vil} (hW : WF V) (wt mis : Int32) : WF (hourA V wt mis) := WF_h3 hW wt mis _ (Nat.le_refl _)
