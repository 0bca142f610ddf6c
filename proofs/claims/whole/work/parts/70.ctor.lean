/-! THE MAKING of the cells: their order kA, the writes in their order WL, how many writes stood before each cell AL -/
def kA : List Key := kC ++ kM
def WL : List (Key × Nat) := [((1, 0, 0), 0), ((1, 0, 0), 1), ((4, 0, 0), 0), ((4, 0, 0), 1), ((4, 0, 0), 2), ((4, 0, 0), 3), ((4, 0, 0), 4), ((4, 0, 0), 5), ((1, 0, 0), 2), ((1, 0, 0), 3), ((1, 0, 0), 4), ((1, 0, 0), 5), ((1, 0, 0), 6), ((1, 0, 0), 7), ((1, 0, 0), 8), ((1, 0, 0), 9), ((3, 0, 0), 0), ((3, 0, 0), 1), ((3, 0, 0), 2), ((3, 0, 0), 3), ((3, 0, 0), 4), ((3, 0, 0), 5), ((3, 0, 0), 6), ((3, 0, 0), 7), ((3, 0, 0), 8), ((2, 0, 0), 0), ((3, 0, 1), 0), ((3, 0, 1), 1), ((3, 0, 1), 2), ((3, 0, 1), 3), ((3, 0, 1), 4), ((3, 0, 1), 5), ((3, 0, 1), 6), ((3, 0, 1), 7), ((3, 0, 1), 8), ((2, 0, 0), 1), ((3, 0, 2), 0), ((3, 0, 2), 1), ((3, 0, 2), 2), ((3, 0, 2), 3), ((3, 0, 2), 4), ((3, 0, 2), 5), ((3, 0, 2), 6), ((3, 0, 2), 7), ((3, 0, 2), 8), ((2, 0, 0), 2), ((3, 0, 3), 0), ((3, 0, 3), 1), ((3, 0, 3), 2), ((3, 0, 3), 3), ((3, 0, 3), 4), ((3, 0, 3), 5), ((3, 0, 3), 6), ((3, 0, 3), 7), ((3, 0, 3), 8), ((2, 0, 0), 3), ((3, 0, 4), 0), ((3, 0, 4), 1), ((3, 0, 4), 2), ((3, 0, 4), 3), ((3, 0, 4), 4), ((3, 0, 4), 5), ((3, 0, 4), 6), ((3, 0, 4), 7), ((3, 0, 4), 8), ((2, 0, 0), 4), ((3, 0, 5), 0), ((3, 0, 5), 1), ((3, 0, 5), 2), ((3, 0, 5), 3), ((3, 0, 5), 4), ((3, 0, 5), 5), ((3, 0, 5), 6), ((3, 0, 5), 7), ((3, 0, 5), 8), ((2, 0, 0), 5), ((0, 0, 0), 0), ((1, 1, 0), 0), ((1, 1, 0), 1), ((4, 1, 0), 0), ((4, 1, 0), 1), ((4, 1, 0), 2), ((4, 1, 0), 3), ((4, 1, 0), 4), ((4, 1, 0), 5), ((1, 1, 0), 2), ((1, 1, 0), 3), ((1, 1, 0), 4), ((1, 1, 0), 5), ((1, 1, 0), 6), ((1, 1, 0), 7), ((1, 1, 0), 8), ((1, 1, 0), 9), ((3, 1, 0), 0), ((3, 1, 0), 1), ((3, 1, 0), 2), ((3, 1, 0), 3), ((3, 1, 0), 4), ((3, 1, 0), 5), ((3, 1, 0), 6), ((3, 1, 0), 7), ((3, 1, 0), 8), ((2, 1, 0), 0), ((3, 1, 1), 0), ((3, 1, 1), 1), ((3, 1, 1), 2), ((3, 1, 1), 3), ((3, 1, 1), 4), ((3, 1, 1), 5), ((3, 1, 1), 6), ((3, 1, 1), 7), ((3, 1, 1), 8), ((2, 1, 0), 1), ((3, 1, 2), 0), ((3, 1, 2), 1), ((3, 1, 2), 2), ((3, 1, 2), 3), ((3, 1, 2), 4), ((3, 1, 2), 5), ((3, 1, 2), 6), ((3, 1, 2), 7), ((3, 1, 2), 8), ((2, 1, 0), 2), ((3, 1, 3), 0), ((3, 1, 3), 1), ((3, 1, 3), 2), ((3, 1, 3), 3), ((3, 1, 3), 4), ((3, 1, 3), 5), ((3, 1, 3), 6), ((3, 1, 3), 7), ((3, 1, 3), 8), ((2, 1, 0), 3), ((3, 1, 4), 0), ((3, 1, 4), 1), ((3, 1, 4), 2), ((3, 1, 4), 3), ((3, 1, 4), 4), ((3, 1, 4), 5), ((3, 1, 4), 6), ((3, 1, 4), 7), ((3, 1, 4), 8), ((2, 1, 0), 4), ((3, 1, 5), 0), ((3, 1, 5), 1), ((3, 1, 5), 2), ((3, 1, 5), 3), ((3, 1, 5), 4), ((3, 1, 5), 5), ((3, 1, 5), 6), ((3, 1, 5), 7), ((3, 1, 5), 8), ((2, 1, 0), 5), ((0, 0, 0), 1), ((1, 2, 0), 0), ((1, 2, 0), 1), ((4, 2, 0), 0), ((4, 2, 0), 1), ((4, 2, 0), 2), ((4, 2, 0), 3), ((4, 2, 0), 4), ((4, 2, 0), 5), ((1, 2, 0), 2), ((1, 2, 0), 3), ((1, 2, 0), 4), ((1, 2, 0), 5), ((1, 2, 0), 6), ((1, 2, 0), 7), ((1, 2, 0), 8), ((1, 2, 0), 9), ((3, 2, 0), 0), ((3, 2, 0), 1), ((3, 2, 0), 2), ((3, 2, 0), 3), ((3, 2, 0), 4), ((3, 2, 0), 5), ((3, 2, 0), 6), ((3, 2, 0), 7), ((3, 2, 0), 8), ((2, 2, 0), 0), ((3, 2, 1), 0), ((3, 2, 1), 1), ((3, 2, 1), 2), ((3, 2, 1), 3), ((3, 2, 1), 4), ((3, 2, 1), 5), ((3, 2, 1), 6), ((3, 2, 1), 7), ((3, 2, 1), 8), ((2, 2, 0), 1), ((3, 2, 2), 0), ((3, 2, 2), 1), ((3, 2, 2), 2), ((3, 2, 2), 3), ((3, 2, 2), 4), ((3, 2, 2), 5), ((3, 2, 2), 6), ((3, 2, 2), 7), ((3, 2, 2), 8), ((2, 2, 0), 2), ((3, 2, 3), 0), ((3, 2, 3), 1), ((3, 2, 3), 2), ((3, 2, 3), 3), ((3, 2, 3), 4), ((3, 2, 3), 5), ((3, 2, 3), 6), ((3, 2, 3), 7), ((3, 2, 3), 8), ((2, 2, 0), 3), ((3, 2, 4), 0), ((3, 2, 4), 1), ((3, 2, 4), 2), ((3, 2, 4), 3), ((3, 2, 4), 4), ((3, 2, 4), 5), ((3, 2, 4), 6), ((3, 2, 4), 7), ((3, 2, 4), 8), ((2, 2, 0), 4), ((3, 2, 5), 0), ((3, 2, 5), 1), ((3, 2, 5), 2), ((3, 2, 5), 3), ((3, 2, 5), 4), ((3, 2, 5), 5), ((3, 2, 5), 6), ((3, 2, 5), 7), ((3, 2, 5), 8), ((2, 2, 0), 5), ((0, 0, 0), 2), ((0, 0, 0), 3), ((9, 0, 0), 0), ((9, 0, 0), 1), ((9, 0, 0), 2), ((9, 0, 0), 3), ((0, 0, 0), 4), ((0, 0, 0), 5), ((0, 0, 0), 6), ((20, 0, 0), 0), ((20, 0, 0), 1), ((20, 0, 0), 2), ((20, 0, 0), 3), ((20, 0, 0), 4), ((20, 0, 0), 5), ((0, 0, 0), 7), ((26, 0, 0), 0), ((26, 0, 0), 1), ((26, 0, 0), 2), ((26, 0, 0), 3), ((26, 0, 0), 4), ((26, 0, 0), 5), ((25, 0, 0), 0), ((25, 0, 0), 1), ((0, 0, 0), 8), ((28, 0, 0), 0), ((28, 0, 0), 1), ((28, 0, 0), 2), ((1, 3, 0), 0), ((1, 3, 0), 1), ((4, 3, 0), 0), ((4, 3, 0), 1), ((4, 3, 0), 2), ((4, 3, 0), 3), ((4, 3, 0), 4), ((4, 3, 0), 5), ((1, 3, 0), 2), ((1, 3, 0), 3), ((1, 3, 0), 4), ((1, 3, 0), 5), ((1, 3, 0), 6), ((1, 3, 0), 7), ((1, 3, 0), 8), ((1, 3, 0), 9), ((3, 3, 0), 0), ((3, 3, 0), 1), ((3, 3, 0), 2), ((3, 3, 0), 3), ((3, 3, 0), 4), ((3, 3, 0), 5), ((3, 3, 0), 6), ((3, 3, 0), 7), ((3, 3, 0), 8), ((2, 3, 0), 0), ((3, 3, 1), 0), ((3, 3, 1), 1), ((3, 3, 1), 2), ((3, 3, 1), 3), ((3, 3, 1), 4), ((3, 3, 1), 5), ((3, 3, 1), 6), ((3, 3, 1), 7), ((3, 3, 1), 8), ((2, 3, 0), 1), ((3, 3, 2), 0), ((3, 3, 2), 1), ((3, 3, 2), 2), ((3, 3, 2), 3), ((3, 3, 2), 4), ((3, 3, 2), 5), ((3, 3, 2), 6), ((3, 3, 2), 7), ((3, 3, 2), 8), ((2, 3, 0), 2), ((3, 3, 3), 0), ((3, 3, 3), 1), ((3, 3, 3), 2), ((3, 3, 3), 3), ((3, 3, 3), 4), ((3, 3, 3), 5), ((3, 3, 3), 6), ((3, 3, 3), 7), ((3, 3, 3), 8), ((2, 3, 0), 3), ((3, 3, 4), 0), ((3, 3, 4), 1), ((3, 3, 4), 2), ((3, 3, 4), 3), ((3, 3, 4), 4), ((3, 3, 4), 5), ((3, 3, 4), 6), ((3, 3, 4), 7), ((3, 3, 4), 8), ((2, 3, 0), 4), ((3, 3, 5), 0), ((3, 3, 5), 1), ((3, 3, 5), 2), ((3, 3, 5), 3), ((3, 3, 5), 4), ((3, 3, 5), 5), ((3, 3, 5), 6), ((3, 3, 5), 7), ((3, 3, 5), 8), ((2, 3, 0), 5), ((28, 0, 0), 3), ((0, 0, 0), 9), ((29, 0, 0), 0), ((29, 0, 0), 1), ((29, 0, 0), 2), ((29, 0, 0), 3), ((29, 0, 0), 4), ((0, 0, 0), 10), ((0, 0, 0), 11), ((11, 0, 0), 0), ((11, 0, 0), 1), ((11, 0, 0), 2), ((11, 0, 0), 3), ((11, 0, 0), 4), ((11, 0, 0), 5), ((11, 0, 0), 6), ((11, 0, 0), 7), ((11, 0, 0), 8), ((19, 0, 0), 0), ((11, 1, 0), 0), ((11, 1, 0), 1), ((11, 1, 0), 2), ((11, 1, 0), 3), ((11, 1, 0), 4), ((11, 1, 0), 5), ((11, 1, 0), 6), ((11, 1, 0), 7), ((11, 1, 0), 8), ((19, 0, 0), 1), ((11, 2, 0), 0), ((11, 2, 0), 1), ((11, 2, 0), 2), ((11, 2, 0), 3), ((11, 2, 0), 4), ((11, 2, 0), 5), ((11, 2, 0), 6), ((11, 2, 0), 7), ((11, 2, 0), 8), ((19, 0, 0), 2), ((11, 3, 0), 0), ((11, 3, 0), 1), ((11, 3, 0), 2), ((11, 3, 0), 3), ((11, 3, 0), 4), ((11, 3, 0), 5), ((11, 3, 0), 6), ((11, 3, 0), 7), ((11, 3, 0), 8), ((19, 0, 0), 3), ((11, 4, 0), 0), ((11, 4, 0), 1), ((11, 4, 0), 2), ((11, 4, 0), 3), ((11, 4, 0), 4), ((11, 4, 0), 5), ((11, 4, 0), 6), ((11, 4, 0), 7), ((11, 4, 0), 8), ((19, 0, 0), 4), ((32, 0, 0), 0), ((32, 0, 0), 1), ((32, 0, 0), 2), ((31, 0, 0), 0), ((32, 1, 0), 0), ((32, 1, 0), 1), ((32, 1, 0), 2), ((31, 0, 0), 1), ((32, 2, 0), 0), ((32, 2, 0), 1), ((32, 2, 0), 2), ((31, 0, 0), 2), ((32, 3, 0), 0), ((32, 3, 0), 1), ((32, 3, 0), 2), ((31, 0, 0), 3), ((32, 4, 0), 0), ((32, 4, 0), 1), ((32, 4, 0), 2), ((31, 0, 0), 4), ((32, 5, 0), 0), ((32, 5, 0), 1), ((32, 5, 0), 2), ((31, 0, 0), 5), ((40, 0, 0), 0), ((40, 0, 0), 1), ((40, 0, 0), 2), ((40, 0, 0), 3), ((40, 0, 0), 4), ((40, 0, 0), 5), ((40, 0, 0), 6), ((40, 0, 0), 7), ((40, 0, 0), 8), ((40, 0, 0), 9), ((40, 0, 0), 10), ((40, 0, 0), 11), ((40, 0, 0), 12), ((40, 0, 0), 13), ((40, 0, 0), 14), ((40, 0, 0), 15), ((40, 0, 0), 16), ((40, 0, 0), 17), ((40, 0, 0), 18), ((40, 0, 0), 19), ((40, 0, 0), 20), ((40, 0, 0), 21), ((40, 0, 0), 22), ((40, 0, 0), 23), ((40, 0, 0), 24), ((40, 0, 0), 25), ((40, 0, 0), 26), ((40, 0, 0), 27), ((40, 0, 0), 28), ((40, 0, 0), 29), ((59, 0, 0), 0), ((59, 0, 0), 1), ((59, 0, 0), 2), ((59, 0, 0), 3), ((59, 0, 0), 4), ((59, 0, 0), 5), ((59, 0, 0), 6), ((59, 0, 0), 7), ((59, 0, 0), 8), ((59, 0, 0), 9), ((59, 0, 0), 10), ((59, 0, 0), 11), ((59, 0, 0), 12), ((59, 0, 0), 13), ((59, 0, 0), 14), ((59, 0, 0), 15), ((59, 0, 0), 16), ((59, 0, 0), 17), ((59, 0, 0), 18), ((40, 0, 0), 30), ((40, 0, 0), 31), ((40, 0, 0), 32), ((40, 0, 0), 33), ((40, 0, 0), 34), ((40, 0, 0), 35), ((40, 0, 0), 36), ((40, 0, 0), 37), ((40, 0, 0), 38), ((40, 0, 0), 39), ((40, 0, 0), 40), ((40, 0, 0), 41), ((40, 0, 0), 42), ((40, 0, 0), 43), ((40, 0, 0), 44), ((40, 0, 0), 45), ((40, 0, 0), 46), ((40, 0, 0), 47), ((40, 0, 0), 48), ((40, 0, 0), 49), ((40, 0, 0), 50), ((40, 0, 0), 51), ((40, 0, 0), 52), ((40, 0, 0), 53), ((40, 0, 0), 54), ((40, 0, 0), 55), ((40, 0, 0), 56), ((40, 0, 0), 57), ((40, 0, 0), 58), ((40, 0, 0), 59), ((40, 0, 0), 60), ((40, 0, 0), 61), ((40, 0, 0), 62), ((40, 0, 0), 63), ((40, 0, 0), 64), ((40, 0, 0), 65), ((40, 0, 0), 66), ((40, 0, 0), 67), ((40, 0, 0), 68), ((40, 0, 0), 69), ((40, 0, 0), 70), ((40, 0, 0), 71), ((40, 0, 0), 72), ((40, 0, 0), 73), ((40, 0, 0), 74), ((40, 0, 0), 75), ((40, 0, 0), 76), ((40, 0, 0), 77), ((40, 0, 0), 78), ((40, 0, 0), 79), ((90, 0, 0), 0), ((90, 0, 0), 1), ((90, 0, 0), 2), ((90, 0, 0), 3), ((90, 0, 0), 4), ((90, 0, 0), 5), ((40, 0, 0), 80), ((40, 0, 0), 81), ((40, 0, 0), 82), ((40, 0, 0), 83)]
def AL : List Nat := [0, 0, 1, 2, 2, 2, 2, 2, 2, 2, 13, 14, 15, 16, 26, 36, 46, 56, 66, 77, 78, 79, 79, 79, 79, 79, 79, 79, 90, 91, 92, 93, 103, 113, 123, 133, 143, 154, 155, 156, 156, 156, 156, 156, 156, 156, 167, 168, 169, 170, 180, 190, 200, 210, 220, 232, 232, 237, 239, 241, 242, 243, 244, 246, 246, 246, 246, 246, 246, 246, 246, 255, 258, 259, 260, 260, 260, 260, 260, 260, 260, 271, 272, 273, 274, 284, 294, 304, 314, 324, 336, 337, 342, 343, 345, 346, 347, 348, 349, 350, 351, 353, 355, 356, 357, 358, 359, 360, 361, 363, 365, 366, 367, 368, 369, 370, 371, 373, 375, 376, 377, 378, 379, 380, 381, 383, 385, 386, 387, 388, 389, 390, 391, 393, 395, 397, 399, 401, 403, 405, 407, 409, 411, 413, 415, 417, 421, 422, 423, 424, 425, 426, 427, 428, 429, 435, 436, 437, 438, 439, 440, 441, 442, 443, 447, 467, 473, 474, 475, 476, 477, 478, 479, 480, 481, 483, 484, 485, 489, 490, 491, 492, 493, 503, 504, 505, 506, 507, 508, 509, 510, 511, 512, 513, 515, 516, 523, 524, 525]
def ini (q : Key) (k : Nat) : Int32 := if q.1 = 32 ∧ k = 0 then -1 else if q.1 = 90 then -1 else if q.1 = 40 ∧ (k = 14 ∨ k = 61) then -1 else if q.1 = 59 then ([111, 117, 116, 98, 117, 114, 110, 104, 111, 114, 110, 110, 101, 120, 116, 110, 101, 101, 100] : List Int32).getD k 0 else 0
def inl (q : Key) (k : Nat) : Int64 := if q.1 = 28 ∧ k = 2 then 1 else 0
def layN : Key → Nat → Option Key := lay (fun _ => none)
def Wr (m : Nat) (q : Key) (k : Nat) : Prop := ∃ j, j < m ∧ WL[j]? = some (q, k)
noncomputable def am_W (m : Nat) : AM := (fun q k => @ite _ (Wr m q k) (Classical.propDecidable _) (ini q k) 0, fun q k => @ite _ (Wr m q k) (Classical.propDecidable _) (inl q k) 0, fun q k => @ite _ (Wr m q k) (Classical.propDecidable _) (layN q k) none)
theorem Wr_s {m : Nat} {q q' : Key} {k k' : Nat} (h : WL[m]? = some (q, k)) : Wr (m + 1) q' k' ↔ Wr m q' k' ∨ (k' = k ∧ q' = q) := by
  constructor
  · rintro ⟨j, hj, e⟩
    by_cases hm : j = m
    · subst hm
      have e2 := h.symm.trans e
      cases e2
      exact Or.inr ⟨rfl, rfl⟩
    · exact Or.inl ⟨j, by omega, e⟩
  · rintro (⟨j, hj, e⟩ | ⟨rfl, rfl⟩)
    · exact ⟨j, by omega, e⟩
    · exact ⟨m, by omega, h⟩
theorem W_rd {m j : Nat} {q : Key} {k : Nat} (h : WL[j]? = some (q, k)) (hj : j < m) : (am_W m).2.2 q k = layN q k := if_pos ⟨j, hj, h⟩
theorem W_if {A : Type} {m : Nat} {q q' : Key} {k k' : Nat} (h : WL[m]? = some (q, k)) (a z : Key → Nat → A) : @ite _ (Wr (m + 1) q' k') (Classical.propDecidable _) (a q' k') (z q' k') = if k' = k ∧ q' = q then a q k else @ite _ (Wr m q' k') (Classical.propDecidable _) (a q' k') (z q' k') := by
  by_cases e : k' = k ∧ q' = q
  · rw [if_pos e, if_pos ((Wr_s h).mpr (Or.inr e)), e.1, e.2]
  · rw [if_neg e]
    by_cases w : Wr m q' k'
    · rw [if_pos w, if_pos ((Wr_s h).mpr (Or.inl w))]
    · rw [if_neg w, if_neg (fun g => ((Wr_s h).mp g).elim w e)]
theorem W_no {A : Type} {m : Nat} {q q' : Key} {k k' : Nat} (h : WL[m]? = some (q, k)) (a : Key → Nat → A) (z : A) (hz : a q k = z) : @ite _ (Wr (m + 1) q' k') (Classical.propDecidable _) (a q' k') z = @ite _ (Wr m q' k') (Classical.propDecidable _) (a q' k') z := by
  rw [W_if h a (fun _ _ => z)]
  by_cases e : k' = k ∧ q' = q
  · rw [if_pos e]
    obtain ⟨rfl, rfl⟩ := e
    by_cases w : Wr m q' k'
    · rw [if_pos w]
    · rw [if_neg w, hz]
  · rw [if_neg e]
theorem W_ui {m : Nat} {q : Key} {k : Nat} {x : Int32} (h : WL[m]? = some (q, k)) (h1 : ini q k = x) (h2 : inl q k = 0) (h3 : layN q k = none) : am_ui (am_W m) q k x = am_W (m + 1) := by
  subst h1
  refine Prod.ext (funext fun q' => funext fun k' => (W_if h ini (fun _ _ => 0)).symm) (Prod.ext (funext fun q' => funext fun k' => (W_no h inl 0 h2).symm) (funext fun q' => funext fun k' => (W_no h layN none h3).symm))
theorem W_ul {m : Nat} {q : Key} {k : Nat} {x : Int64} (h : WL[m]? = some (q, k)) (h1 : ini q k = 0) (h2 : inl q k = x) (h3 : layN q k = none) : am_ul (am_W m) q k x = am_W (m + 1) := by
  subst h2
  refine Prod.ext (funext fun q' => funext fun k' => (W_no h ini 0 h1).symm) (Prod.ext (funext fun q' => funext fun k' => (W_if h inl (fun _ _ => 0)).symm) (funext fun q' => funext fun k' => (W_no h layN none h3).symm))
theorem W_ur {m : Nat} {q : Key} {k : Nat} {x : Option Key} (h : WL[m]? = some (q, k)) (h1 : ini q k = 0) (h2 : inl q k = 0) (h3 : layN q k = x) : am_ur (am_W m) q k x = am_W (m + 1) := by
  subst h3
  refine Prod.ext (funext fun q' => funext fun k' => (W_no h ini 0 h1).symm) (Prod.ext (funext fun q' => funext fun k' => (W_no h inl 0 h2).symm) (funext fun q' => funext fun k' => (W_if h layN (fun _ _ => none)).symm))
theorem AL_all : (List.range 199).all (fun n => (WL.take (AL.getD n 0)).all (fun w => !(some w.1 == kA[n]?))) = true := by decide +kernel
theorem kA_ix : (List.range 199).all (fun n => (kA[n]?.map am_ix) == some n && (kA[n]?.map (fun q => decide (q.1 < 94))) == some true) = true := by decide +kernel
theorem kA_len : kA.length = 199 := by decide +kernel
theorem AL_len : AL.length = 199 := by decide +kernel
theorem AL_ok {n m : Nat} {q : Key} (hA : AL[n]? = some m) (hk : kA[n]? = some q) (k : Nat) : ¬ Wr m q k := by
  rintro ⟨j, hj, e⟩
  have hn : n < 199 := by
    have := (List.getElem?_eq_some_iff.mp hA).1
    rw [AL_len] at this
    exact this
  have h1 := List.all_eq_true.mp AL_all n (List.mem_range.mpr hn)
  have hg : AL.getD n 0 = m := by rw [List.getD_eq_getElem?_getD, hA]; rfl
  rw [hg] at h1
  have h2 := List.all_eq_true.mp h1 (q, k) (List.mem_of_getElem? (i := j) (by rw [List.getElem?_take, if_pos hj]; exact e))
  rw [hk] at h2
  simp at h2
theorem kA_at {n : Nat} {q : Key} (hk : kA[n]? = some q) : am_ix q = n ∧ q.1 < 94 := by
  have hn : n < 199 := by
    have := (List.getElem?_eq_some_iff.mp hk).1
    rw [kA_len] at this
    exact this
  have h1 := List.all_eq_true.mp kA_ix n (List.mem_range.mpr hn)
  rw [hk] at h1
  simpa using h1
theorem am_ad_of {b : BA} {q : Key} (h : q.1 < 94) : am_ad b q = b.1 + am_ix q := by
  obtain ⟨s, v, z⟩ := q
  dsimp only at h
  unfold am_ad
  split
  · next e => cases e; omega
  · next e => cases e; omega
  · next e => cases e; omega
  · rfl
theorem tk_get {A : Type} {L l : List A} {n N i : Nat} {x : A} (h : (L.drop n).take N = l) (hi : l[i]? = some x) : L[n + i]? = some x := by
  rw [← h, List.getElem?_take] at hi
  split at hi
  · rw [List.getElem?_drop] at hi
    exact hi
  · cases hi
theorem tk_sub {A : Type} {L l : List A} {n N : Nat} (h : (L.drop n).take N = l) (a c : Nat) {l' : List A} (hc : a + c ≤ N) (hl : (l.drop a).take c = l') : (L.drop (n + a)).take c = l' := by
  rw [← hl, ← h, List.drop_take, List.take_take, List.drop_drop]
  congr 1
  omega
section CT
variable {l : Launch} {md md2 : MD} {d d2 mc ms mc2 ms2 : Nat} {T T2 : Option AV × List Key × AM} {kc kn pc n m : Nat} {L L' : List (Option AV)} {st as : List AV} {M M' : AM} {q : Key} {k : Nat}
theorem kA_take {n : Nat} {q : Key} (hk : kA[n]? = some q) : kA.take (n + 1) = kA.take n ++ [q] := by
  rw [List.take_add_one, hk]
  rfl
theorem kA_tlen {n : Nat} {q : Key} (hk : kA[n]? = some q) : (kA.take n).length = n := by
  rw [List.length_take]
  have := (List.getElem?_eq_some_iff.mp hk).1
  omega
theorem kA_mem {n i : Nat} {q : Key} (hk : kA[i]? = some q) (hi : i < n) : q ∈ kA.take n := List.mem_of_getElem? (i := i) (by rw [List.getElem?_take, if_pos hi]; exact hk)
/-- a new cell at the end -/
theorem c_grow {b : BA} {D : va_G} {cT : Nat → ClassId} {A : Nat → Prop} {s : State} {H H1 : Heap} {locs : List Loc} (h1 : am_X1 b D cT A true (kA.take n) M s H locs) (hk : kA[n]? = some q) (hnew : va_at D vwCl (am_ad b q, am_ce b cT M q) H1) (z1 : H1.size = H.size + 1) (o1 : ∀ x : Nat, x < H.size → H1[x]? = H[x]?) :
    am_X1 b D cT A true (kA.take (n + 1)) M s H1 locs ∧ H.size = am_ad b q := by
  obtain ⟨hP, hD, hK, hS, hA, hal⟩ := h1
  have hsz := hal rfl
  rw [kA_tlen hk] at hsz
  have hix := kA_at hk
  have had : H.size = am_ad b q := by rw [am_ad_of hix.2, hix.1]; exact hsz
  have hw : am_w b cT (kA.take (n + 1)) M = am_w b cT (kA.take n) M ++ [(am_ad b q, am_ce b cT M q)] := by
    rw [kA_take hk]
    unfold am_w
    rw [List.map_append]
    rfl
  have hkeep : ∀ (k : Nat) (x : Nat × va_E), (am_w b cT (kA.take n) M)[k]? = some x → H1[x.1]? = H[x.1]? := fun k x hx => o1 x.1 ((hP k x hx).lt)
  refine ⟨⟨?_, ?_, hK, ⟨Nat.le_trans hS.1 (by omega), fun x g1 g2 => (o1 x (Nat.lt_of_lt_of_le g1 hS.1)).trans (hS.2.1 x g1 g2), hS.2.2⟩, hA, fun _ => ?_⟩, had⟩
  · rw [hw]
    refine (hP.kept hkeep).app (fun k x hx => ?_)
    have hz : k < 1 := (List.getElem?_eq_some_iff.mp hx).1
    rw [show k = 0 by omega] at hx
    cases hx
    exact hnew
  · rw [hw]
    exact hD.push hP had.symm (hA.1 _ (by rw [← had]; exact hS.1))
  · rw [z1, hsz, kA_take hk, List.length_append, kA_tlen hk]
    rfl
def NW (own : String) (idx ci : Nat) : Prop := ∃ (C : String) (F : u_T) (N : Nat), vwCl[ci]? = some (C, F, N) ∧ Cond.classLink own idx C ∈ Wd ∧ Cond.instantiable C N ∈ Wd ∧ Cond.initialized C ∈ Wd ∧ (∀ w ∈ u_ws C F N, w ∈ Wd) ∧ (∀ k, k < N → parseFieldDescriptor (F k).2.2.1 = some (am_ty ci k)) ∧ (∀ k, k < N → am_ty ci k ≠ .float ∧ am_ty ci k ≠ .double)
theorem am_dv {b : BA} {ci j : Nat} (h1 : am_ty ci j ≠ .float ∧ am_ty ci j ≠ .double) (hk : am_kd q.1 = ci) (g1 : M.1 q j = 0) (g2 : M.2.1 q j = 0) (g3 : M.2.2 q j = none) : defaultValue (am_ty ci j) = am_fv b M q j := by
  unfold am_fv am_ft
  rw [hk, g1, g2, g3]
  cases e : am_ty ci j with
  | float => exact absurd e h1.1
  | double => exact absurd e h1.2
  | _ => rfl
theorem W_fresh (hA : AL[n]? = some m) (hk : kA[n]? = some q) (k : Nat) : (am_W m).1 q k = 0 ∧ (am_W m).2.1 q k = 0 ∧ (am_W m).2.2 q k = none := ⟨if_neg (AL_ok hA hk k), if_neg (AL_ok hA hk k), if_neg (AL_ok hA hk k)⟩
theorem c_newo {idx ci N : Nat} (hw : NW md.1.cls idx ci) (hk : kA[n]? = some q) (hA : AL[n]? = some m) (hkd : am_kd q.1 = ci) (hN : am_ln q.1 = N) (hlc : (vwCl[ci]?.map fun r => r.2.2) = some N) (hd : decode md.2.1 pc = .ok (.new idx, 3)) (hcm : kc + 1 ≤ mc) (hsm : kn + N ≤ ms)
    (kk : X l md d mc ms true T (kA.take (n + 1)) (kc + 1) (kn + N) (pc + 3) L (vR q :: st) (am_W m)) : X l md d mc ms true T (kA.take n) kc kn pc L st (am_W m) := by
  intro p e s mm args below meth c H locs b D cT A ls h0 h1 hl
  obtain ⟨C, F, N', hc, w1, w2, w3, hin, hty, hfd⟩ := hw
  rw [hc] at hlc
  have e9 : N' = N := Option.some.inj hlc
  subst e9
  have hKn := h1.2.2.1.1 ci _ hc
  refine W.newcK h0.1 h0.2.1 h0.2.2.2.2.1 (h0.2.2.2.1 _ w1) (h0.2.2.2.1 _ w2) (h0.2.2.2.1 _ w3) rfl hd hcm hsm hKn.2.1 rfl fun H1 kC hkC e1 z1 o1 => ?_
  have hci := am_ci hc
  have had : H.size = am_ad b q := by
    have hsz := h1.2.2.2.2.2 rfl
    rw [kA_tlen hk] at hsz
    have hix := kA_at hk
    rw [am_ad_of hix.2, hix.1]; exact hsz
  have hnew : va_at D vwCl (am_ad b q, am_ce b cT (am_W m) q) H1 := by
    rw [am_ce_obj b cT _ (by rw [hkd]; exact hci), hkd, hN]
    refine ⟨_, hc, ?_⟩
    refine t_OB.to ?_ (V := fun j => defaultValue (am_ty ci j)) ?_
    · rw [← had]
      exact u_born (am_ty ci) h0.2.2.2.1 hin hKn hkC e1 hty
    · intro j hj
      have hf := W_fresh hA hk j
      rw [am_dv (b := b) (hfd j hj) hkd hf.1 hf.2.1 hf.2.2]
      unfold vp_V
      rw [List.getD_eq_getElem?_getD, List.getElem?_map, List.getElem?_range hj]
      rfl
  obtain ⟨h2, -⟩ := c_grow h1 hk hnew z1 o1
  have k2 := kk p e s mm args below meth c H1 locs b D cT A ls h0 h2 hl
  rw [had]
  exact k2
theorem c_newai {N : Nat} {x : Int32} (harr : Cond.arrayClass .int ∈ Wd) (hk : kA[n]? = some q) (hA : AL[n]? = some m) (hkd : am_kd q.1 = 11) (hN : am_ln q.1 = N) (hx0 : ¬ x < 0) (hx : x.toNatClampNeg = N) (hbd : N * 8 ≤ 536870912) (hd : decode md.2.1 pc = .ok (.newarray .int, 2)) (hcm : kc + 1 ≤ mc) (hsm : kn + N ≤ ms)
    (kk : X l md d mc ms true T (kA.take (n + 1)) (kc + 1) (kn + N) (pc + 2) L (vR q :: st) (am_W m)) : X l md d mc ms true T (kA.take n) kc kn pc L (vI x :: st) (am_W m) := by
  intro p e s mm args below meth c H locs b D cT A ls h0 h1 hl
  have had : H.size = am_ad b q := by
    have hsz := h1.2.2.2.2.2 rfl
    rw [kA_tlen hk] at hsz
    have hix := kA_at hk
    rw [am_ad_of hix.2, hix.1]; exact hsz
  refine va_newaK (atype := .int) h0.1 h0.2.1 (h0.2.2.2.1 _ harr) rfl hd rfl hx0 hx (show N * componentBytes .int ≤ _ from Nat.le_trans (Nat.mul_le_mul_left N (show componentBytes .int ≤ 8 by decide)) hbd) hcm hsm rfl fun H1 cA e1 z1 o1 hAr hNm => ?_
  have hcA : cA = cT 11 := Option.some.inj (hNm.symm.trans (h1.2.2.1.2 0 _ rfl).2)
  subst hcA
  have hnew : va_at D vwCl (am_ad b q, am_ce b cT (am_W m) q) H1 := by
    rw [am_ce_i b cT _ (Or.inl hkd), hkd, hN]
    show H1[am_ad b q]? = some (vp_cell _ _)
    rw [← had, e1, vp_cell_i]
    congr 2
    funext j
    have hf := W_fresh hA hk j
    rw [hf.1]
    rfl
  obtain ⟨h2, -⟩ := c_grow h1 hk hnew z1 o1
  have k2 := kk p e s mm args below meth c H1 locs b D cT A ls h0 h2 hl
  rw [had]
  exact k2
theorem c_newal {N : Nat} {x : Int32} (harr : Cond.arrayClass .long ∈ Wd) (hk : kA[n]? = some q) (hA : AL[n]? = some m) (hkd : am_kd q.1 = 12) (hN : am_ln q.1 = N) (hx0 : ¬ x < 0) (hx : x.toNatClampNeg = N) (hbd : N * 8 ≤ 536870912) (hd : decode md.2.1 pc = .ok (.newarray .long, 2)) (hcm : kc + 1 ≤ mc) (hsm : kn + N ≤ ms)
    (kk : X l md d mc ms true T (kA.take (n + 1)) (kc + 1) (kn + N) (pc + 2) L (vR q :: st) (am_W m)) : X l md d mc ms true T (kA.take n) kc kn pc L (vI x :: st) (am_W m) := by
  intro p e s mm args below meth c H locs b D cT A ls h0 h1 hl
  have had : H.size = am_ad b q := by
    have hsz := h1.2.2.2.2.2 rfl
    rw [kA_tlen hk] at hsz
    have hix := kA_at hk
    rw [am_ad_of hix.2, hix.1]; exact hsz
  refine va_newaK (atype := .long) h0.1 h0.2.1 (h0.2.2.2.1 _ harr) rfl hd rfl hx0 hx (show N * componentBytes .long ≤ _ from Nat.le_trans (Nat.mul_le_mul_left N (show componentBytes .long ≤ 8 by decide)) hbd) hcm hsm rfl fun H1 cA e1 z1 o1 hAr hNm => ?_
  have hcA : cA = cT 12 := Option.some.inj (hNm.symm.trans (h1.2.2.1.2 1 _ rfl).2)
  subst hcA
  have hnew : va_at D vwCl (am_ad b q, am_ce b cT (am_W m) q) H1 := by
    rw [am_ce_l b cT _ hkd, hN]
    show H1[am_ad b q]? = some (vp_cell _ _)
    rw [← had, e1, vp_cell_l]
    congr 2
    funext j
    have hf := W_fresh hA hk j
    rw [hf.2.1]
    rfl
  obtain ⟨h2, -⟩ := c_grow h1 hk hnew z1 o1
  have k2 := kk p e s mm args below meth c H1 locs b D cT A ls h0 h2 hl
  rw [had]
  exact k2
theorem c_newaz {N : Nat} {x : Int32} (harr : Cond.arrayClass .boolean ∈ Wd) (hk : kA[n]? = some q) (hA : AL[n]? = some m) (hkd : am_kd q.1 = 13) (hN : am_ln q.1 = N) (hx0 : ¬ x < 0) (hx : x.toNatClampNeg = N) (hbd : N * 8 ≤ 536870912) (hd : decode md.2.1 pc = .ok (.newarray .boolean, 2)) (hcm : kc + 1 ≤ mc) (hsm : kn + N ≤ ms)
    (kk : X l md d mc ms true T (kA.take (n + 1)) (kc + 1) (kn + N) (pc + 2) L (vR q :: st) (am_W m)) : X l md d mc ms true T (kA.take n) kc kn pc L (vI x :: st) (am_W m) := by
  intro p e s mm args below meth c H locs b D cT A ls h0 h1 hl
  have had : H.size = am_ad b q := by
    have hsz := h1.2.2.2.2.2 rfl
    rw [kA_tlen hk] at hsz
    have hix := kA_at hk
    rw [am_ad_of hix.2, hix.1]; exact hsz
  refine va_newaK (atype := .boolean) h0.1 h0.2.1 (h0.2.2.2.1 _ harr) rfl hd rfl hx0 hx (show N * componentBytes .boolean ≤ _ from Nat.le_trans (Nat.mul_le_mul_left N (show componentBytes .boolean ≤ 8 by decide)) hbd) hcm hsm rfl fun H1 cA e1 z1 o1 hAr hNm => ?_
  have hcA : cA = cT 13 := Option.some.inj (hNm.symm.trans (h1.2.2.1.2 2 _ rfl).2)
  subst hcA
  have hnew : va_at D vwCl (am_ad b q, am_ce b cT (am_W m) q) H1 := by
    rw [am_ce_i b cT _ (Or.inr hkd), hkd, hN]
    show H1[am_ad b q]? = some (vp_cell _ _)
    rw [← had, e1, vp_cell_i]
    congr 2
    funext j
    have hf := W_fresh hA hk j
    rw [hf.1]
    rfl
  obtain ⟨h2, -⟩ := c_grow h1 hk hnew z1 o1
  have k2 := kk p e s mm args below meth c H1 locs b D cT A ls h0 h2 hl
  rw [had]
  exact k2
theorem c_anewHouse {N idx : Nat} {x : Int32} (hcl : Cond.classLink md.1.cls idx RX2 ∈ Wd) (hov : Cond.arrayOver (.object RX2) ∈ Nd) (hk : kA[n]? = some q) (hA : AL[n]? = some m) (hkd : am_kd q.1 = 14) (hN : am_ln q.1 = N) (hx0 : ¬ x < 0) (hx : x.toNatClampNeg = N) (hbd : N * 4 ≤ 536870912) (hd : decode md.2.1 pc = .ok (.anewarray idx, 3)) (hcm : kc + 1 ≤ mc) (hsm : kn + N ≤ ms)
    (kk : X l md d mc ms true T (kA.take (n + 1)) (kc + 1) (kn + N) (pc + 3) L (vR q :: st) (am_W m)) : X l md d mc ms true T (kA.take n) kc kn pc L (vI x :: st) (am_W m) := by
  intro p e s mm args below meth c H locs b D cT A ls h0 h1 hl
  subst hx
  have had : H.size = am_ad b q := by
    have hsz := h1.2.2.2.2.2 rfl
    rw [kA_tlen hk] at hsz
    have hix := kA_at hk
    rw [am_ad_of hix.2, hix.1]; exact hsz
  refine W.anew h0.1 h0.2.1 h0.2.2.2.2.1 (h0.2.2.2.1 _ hcl) (nd_ao (A := #[]) rfl (h1.2.2.2.2.1.2.2.2.2.2 _ hov)) rfl hd rfl hx0 hbd hcm hsm fun cA kA' comp f1 f2 f3 f4 => ?_
  generalize hH1 : H.push ({ cls := cA, slots := Array.replicate x.toNatClampNeg .null, vm := .none } : Cell) = H1
  have z1 : H1.size = H.size + 1 := by rw [← hH1, Array.size_push]
  have e1 : H1[H.size]? = some (arrV cA x.toNatClampNeg (fun _ => .null)) := by rw [← hH1, Array.getElem?_push_size, ← arrV_new]
  have o1 : ∀ z : Nat, z < H.size → H1[z]? = H[z]? := fun z hz => by rw [← hH1, Array.getElem?_push, if_neg (Nat.ne_of_lt hz)]
  obtain ⟨kA2, comp2, g1, g2, g3, g4⟩ := (h1.2.2.1.2 3 _ rfl).2
  have hcA : cA = cT 14 := Option.some.inj (f1.symm.trans g4)
  subst hcA
  have hnew : va_at D vwCl (am_ad b q, am_ce b cT (am_W m) q) H1 := by
    rw [am_ce_q b cT _ (by rw [hkd]; decide), hkd, hN]
    show H1[am_ad b q]? = some (vp_cell _ _)
    rw [← had, e1, vp_cell_q]
    congr 2
    funext j
    have hf := W_fresh hA hk j
    rw [hf.2.2]
    rfl
  obtain ⟨h2, -⟩ := c_grow h1 hk hnew z1 o1
  have k2 := kk p e s mm args below meth c H1 locs b D cT A ls h0 h2 hl
  rw [had]
  exact k2
theorem c_anewLand {N idx : Nat} {x : Int32} (hcl : Cond.classLink md.1.cls idx RX3 ∈ Wd) (hov : Cond.arrayOver (.object RX3) ∈ Nd) (hk : kA[n]? = some q) (hA : AL[n]? = some m) (hkd : am_kd q.1 = 15) (hN : am_ln q.1 = N) (hx0 : ¬ x < 0) (hx : x.toNatClampNeg = N) (hbd : N * 4 ≤ 536870912) (hd : decode md.2.1 pc = .ok (.anewarray idx, 3)) (hcm : kc + 1 ≤ mc) (hsm : kn + N ≤ ms)
    (kk : X l md d mc ms true T (kA.take (n + 1)) (kc + 1) (kn + N) (pc + 3) L (vR q :: st) (am_W m)) : X l md d mc ms true T (kA.take n) kc kn pc L (vI x :: st) (am_W m) := by
  intro p e s mm args below meth c H locs b D cT A ls h0 h1 hl
  subst hx
  have had : H.size = am_ad b q := by
    have hsz := h1.2.2.2.2.2 rfl
    rw [kA_tlen hk] at hsz
    have hix := kA_at hk
    rw [am_ad_of hix.2, hix.1]; exact hsz
  refine W.anew h0.1 h0.2.1 h0.2.2.2.2.1 (h0.2.2.2.1 _ hcl) (nd_ao (A := #[]) rfl (h1.2.2.2.2.1.2.2.2.2.2 _ hov)) rfl hd rfl hx0 hbd hcm hsm fun cA kA' comp f1 f2 f3 f4 => ?_
  generalize hH1 : H.push ({ cls := cA, slots := Array.replicate x.toNatClampNeg .null, vm := .none } : Cell) = H1
  have z1 : H1.size = H.size + 1 := by rw [← hH1, Array.size_push]
  have e1 : H1[H.size]? = some (arrV cA x.toNatClampNeg (fun _ => .null)) := by rw [← hH1, Array.getElem?_push_size, ← arrV_new]
  have o1 : ∀ z : Nat, z < H.size → H1[z]? = H[z]? := fun z hz => by rw [← hH1, Array.getElem?_push, if_neg (Nat.ne_of_lt hz)]
  obtain ⟨kA2, comp2, g1, g2, g3, g4⟩ := (h1.2.2.1.2 4 _ rfl).2
  have hcA : cA = cT 15 := Option.some.inj (f1.symm.trans g4)
  subst hcA
  have hnew : va_at D vwCl (am_ad b q, am_ce b cT (am_W m) q) H1 := by
    rw [am_ce_q b cT _ (by rw [hkd]; decide), hkd, hN]
    show H1[am_ad b q]? = some (vp_cell _ _)
    rw [← had, e1, vp_cell_q]
    congr 2
    funext j
    have hf := W_fresh hA hk j
    rw [hf.2.2]
    rfl
  obtain ⟨h2, -⟩ := c_grow h1 hk hnew z1 o1
  have k2 := kk p e s mm args below meth c H1 locs b D cT A ls h0 h2 hl
  rw [had]
  exact k2
theorem c_anewTape {N idx : Nat} {x : Int32} (hcl : Cond.classLink md.1.cls idx RX7 ∈ Wd) (hov : Cond.arrayOver (.object RX7) ∈ Nd) (hk : kA[n]? = some q) (hA : AL[n]? = some m) (hkd : am_kd q.1 = 16) (hN : am_ln q.1 = N) (hx0 : ¬ x < 0) (hx : x.toNatClampNeg = N) (hbd : N * 4 ≤ 536870912) (hd : decode md.2.1 pc = .ok (.anewarray idx, 3)) (hcm : kc + 1 ≤ mc) (hsm : kn + N ≤ ms)
    (kk : X l md d mc ms true T (kA.take (n + 1)) (kc + 1) (kn + N) (pc + 3) L (vR q :: st) (am_W m)) : X l md d mc ms true T (kA.take n) kc kn pc L (vI x :: st) (am_W m) := by
  intro p e s mm args below meth c H locs b D cT A ls h0 h1 hl
  subst hx
  have had : H.size = am_ad b q := by
    have hsz := h1.2.2.2.2.2 rfl
    rw [kA_tlen hk] at hsz
    have hix := kA_at hk
    rw [am_ad_of hix.2, hix.1]; exact hsz
  refine W.anew h0.1 h0.2.1 h0.2.2.2.2.1 (h0.2.2.2.1 _ hcl) (nd_ao (A := #[]) rfl (h1.2.2.2.2.1.2.2.2.2.2 _ hov)) rfl hd rfl hx0 hbd hcm hsm fun cA kA' comp f1 f2 f3 f4 => ?_
  generalize hH1 : H.push ({ cls := cA, slots := Array.replicate x.toNatClampNeg .null, vm := .none } : Cell) = H1
  have z1 : H1.size = H.size + 1 := by rw [← hH1, Array.size_push]
  have e1 : H1[H.size]? = some (arrV cA x.toNatClampNeg (fun _ => .null)) := by rw [← hH1, Array.getElem?_push_size, ← arrV_new]
  have o1 : ∀ z : Nat, z < H.size → H1[z]? = H[z]? := fun z hz => by rw [← hH1, Array.getElem?_push, if_neg (Nat.ne_of_lt hz)]
  obtain ⟨kA2, comp2, g1, g2, g3, g4⟩ := (h1.2.2.1.2 5 _ rfl).2
  have hcA : cA = cT 16 := Option.some.inj (f1.symm.trans g4)
  subst hcA
  have hnew : va_at D vwCl (am_ad b q, am_ce b cT (am_W m) q) H1 := by
    rw [am_ce_q b cT _ (by rw [hkd]; decide), hkd, hN]
    show H1[am_ad b q]? = some (vp_cell _ _)
    rw [← had, e1, vp_cell_q]
    congr 2
    funext j
    have hf := W_fresh hA hk j
    rw [hf.2.2]
    rfl
  obtain ⟨h2, -⟩ := c_grow h1 hk hnew z1 o1
  have k2 := kk p e s mm args below meth c H1 locs b D cT A ls h0 h2 hl
  rw [had]
  exact k2
theorem c_aast {z : Key} {i : Int32} {j ci t0 : Nat} {r : vw_C} (hd : decode md.2.1 pc = .ok (.aastore, 1)) (hq : q ∈ kA.take n) (hz : z ∈ kA.take n) (hkd : 14 ≤ am_kd q.1) (ht : ∀ cT, (am_tys cT)[t0]? = some (cT (am_kd q.1), .object r.1)) (hzk : am_kd z.1 = ci) (hc : vwCl[ci]? = some r) (hin : vp_in i (am_ln q.1)) (hj : i.toNatClampNeg = j) (hW : am_ur M q j (some z) = M')
    (kk : X l md d mc ms true T (kA.take n) kc kn (pc + 1) L st M') : X l md d mc ms true T (kA.take n) kc kn pc L (vR z :: vI i :: vR q :: st) M := by
  intro p e s mm args below meth c H locs b D cT A ls h0 h1 hl
  subst hj
  obtain ⟨i1, hi1, hw1⟩ := am_w_at (b := b) (cT := cT) (M := M) hq
  obtain ⟨i2, hi2, hw2⟩ := am_w_at (b := b) (cT := cT) (M := M) hz
  have hci := am_ci hc
  rw [am_ce_q b cT M hkd] at hw1
  rw [am_ce_obj b cT M (by rw [hzk]; exact hci), hzk] at hw2
  have hlt : i.toNatClampNeg < am_ln q.1 := Nat.not_le.mp fun q => hin (Or.inr q)
  have hi0 : ¬ i < 0 := fun q => hin (Or.inl q)
  obtain ⟨r', hr', cellV, g1, g2, g3, -⟩ := h1.1 i2 _ hw2
  have hcls := (h1.2.2.1.1 ci r hc).2
  obtain ⟨kA1, comp, k1, k2, k3, -⟩ := (h1.2.2.1.2 t0 _ (ht cT)).2
  have hcomp : comp = D.1 ci := Option.some.inj (k3.symm.trans hcls.1)
  subst hcomp
  obtain ⟨kC, hkC, -⟩ := hcls.2
  refine W.aast h0.1 h0.2.1 (h1.1 i1 _ hw1) (fun q h => by cases h) (fun h => by cases h) k1 k2 rfl hkC ⟨hi0, by show _ < (arrV _ _ _).slots.size; rw [arrV_size]; exact hlt⟩ g1 (fun q h => by rw [g3] at h; cases h) (by rw [g2]; exact hkC) (by rw [g2]; exact va_assign hcls) rfl rfl hd fun H1 e1 e2 e3 => ?_
  have hnew : va_at D vwCl (am_ad b q, am_ce b cT M' q) H1 := by
    rw [am_ce_q b cT _ hkd]
    show H1[am_ad b q]? = some (vp_cell _ _)
    rw [e1, vp_cell_q, vp_cell_q, arrV_store]
    congr 2
    funext y
    rw [← hW]
    show updV (fun j => va_rf ((M.2.2 q j).map fun q => am_ad b q)) i.toNatClampNeg (.ref (am_ad b z)) y = va_rf (Option.map (fun q => am_ad b q) (if y = i.toNatClampNeg ∧ q = q then some z else M.2.2 q y))
    by_cases hy : y = i.toNatClampNeg
    · subst hy
      rw [if_pos ⟨rfl, rfl⟩]
      simp [updV, va_rf]
    · rw [if_neg (fun h => hy h.1)]
      simp [updV, hy]
  obtain ⟨u1, u2⟩ := am_P_upd (M' := M') hq h1.1 h1.2.1 (fun q' h => by rw [← hW]; exact am_ce_congr b cT rfl rfl (am_ur_o h)) hnew e3
  exact kk p e s mm args below meth c H1 _ b D cT A ls h0 ⟨u1, u2, h1.2.2.1, h1.2.2.2.1.put e2 e3 (h1.2.1.2 i1 _ hw1), h1.2.2.2.2.1, fun ha => by rw [e2]; exact h1.2.2.2.2.2 ha⟩ hl
theorem vr_outer (c : ClassId) (N h0 : Nat) : ∀ i : Nat, Jvm.Free.Multi.outerC c N h0 i = arrV c N (fun j => va_rf (if j < i then some (h0 + 1 + j) else none))
  | 0 => by
    show ({ cls := c, slots := Array.replicate N .null, vm := .none } : Cell) = _
    rw [arrV_new]
    refine congrArg (arrV c N) (funext fun j => ?_)
    simp [va_rf]
  | i + 1 => by
    show (Jvm.Free.Multi.outerC c N h0 i).setSlot i (.ref (h0 + 1 + i)) = _
    rw [vr_outer c N h0 i, arrV_store]
    refine congrArg (arrV c N) (funext fun j => ?_)
    by_cases e : j = i
    · subst e
      simp [updV, va_rf]
    · by_cases h : j < i
      · simp [updV, e, h, Nat.lt_succ_of_lt h]
      · simp [updV, e, h, show ¬ j < i + 1 by omega]
theorem am_w_D {b : BA} {cT : Nat → ClassId} {A : Nat → Prop} {N : Nat} (h : ∀ i, i < N → i < 199 → A (b.1 + i)) : va_D A (am_w b cT (kA.take N) M) := by
  have key : ∀ (i : Nat) (x : Nat × va_E), (am_w b cT (kA.take N) M)[i]? = some x → i < N ∧ i < 199 ∧ x.1 = b.1 + i := by
    intro i x hx
    obtain ⟨z, hz, rfl⟩ := am_w_of hx
    rw [List.getElem?_take] at hz
    split at hz
    · next hi =>
      have h2 := kA_at hz
      have h3 := (List.getElem?_eq_some_iff.mp hz).1
      rw [kA_len] at h3
      exact ⟨hi, h3, by show am_ad b z = _; rw [am_ad_of h2.2, h2.1]⟩
    · cases hz
  refine ⟨fun i j x y hx hy hxy => ?_, fun i x hx => ?_⟩
  · have h1 := key i x hx
    have h2 := key j y hy
    omega
  · have h1 := key i x hx
    rw [h1.2.2]
    exact h i h1.1 h1.2.1
set_option maxHeartbeats 2000000 in
theorem c_mna {idx : Nat} {r : Nat → Key} {x y : Int32} (hcl : Cond.classLink md.1.cls idx "[[I" ∈ Wd) (hov : Cond.arrayOver (.array .int) ∈ Nd) (harr : Cond.arrayClass .int ∈ Wd) (hx0 : x = 6) (hy0 : y = 6) (hk : kA[n]? = some q) (hr : ∀ i, i < 6 → kA[n + 1 + i]? = some (r i)) (hA : AL[n]? = some m) (hAr : ∀ i, i < 6 → AL[n + 1 + i]? = some m) (hkd : am_kd q.1 = 17) (hln : am_ln q.1 = 6) (hrk : ∀ i, i < 6 → am_kd (r i).1 = 11 ∧ am_ln (r i).1 = 6)
    (hWL : ∀ i, i < 6 → WL[m + i]? = some (q, i)) (hl0 : ∀ i, i < 6 → layN q i = some (r i)) (hd : decode md.2.1 pc = .ok (.multianewarray idx 2, 4)) (hcm : kc + 7 ≤ mc) (hsm : kn + 42 ≤ ms)
    (kk : X l md d mc ms true T (kA.take (n + 7)) (kc + 7) (kn + 42) (pc + 4) L (vR q :: st) (am_W (m + 6))) : X l md d mc ms true T (kA.take n) kc kn pc L (vI y :: vI x :: st) (am_W m) := by
  subst hx0
  subst hy0
  intro p e s mm args below meth c H locs b D cT A ls h0 h1 hl
  have had : H.size = am_ad b q := by
    have hsz := h1.2.2.2.2.2 rfl
    rw [kA_tlen hk] at hsz
    have hix := kA_at hk
    rw [am_ad_of hix.2, hix.1]; exact hsz
  have hsz : H.size = b.1 + n := by
    have hsz := h1.2.2.2.2.2 rfl
    rw [kA_tlen hk] at hsz
    exact hsz
  intro Ts hT Xs
  have hb := h0.2.1
  obtain ⟨vm₁, cA, comp, -, fA, fC, hO, -, X', step⟩ := Xs.multianewarray2F (ty := .int) h0.1 h0.2.2.2.2.1 (h0.2.2.2.1 _ hcl) (nd_ao (A := #[]) rfl (h1.2.2.2.2.1.2.2.2.2.2 _ hov)) (h0.2.2.2.1 _ harr) (g := F0 mm pc ls (.int 6 :: .int 6 :: st.map (am_cv b))) rfl (by rw [hb]; exact hd) rfl (by decide) (by decide) (by decide) (by decide) (by decide) rfl rfl hcm hsm
  have hcy : comp = cT 11 := Option.some.inj (fC.symm.trans (h1.2.2.1.2 0 _ rfl).2)
  have hcA : cA = cT 17 := Option.some.inj (fA.symm.trans (h1.2.2.1.2 6 _ rfl).2)
  subst hcy
  subst hcA
  have e6 : (6 : Int32).toNatClampNeg = 6 := rfl
  rw [e6] at X' step
  generalize hF : Jvm.Free.Multi.fill (Ts.setVm vm₁) (cT 17) (cT 11) 6 6 (defaultValue .int) 6 = F at X' step
  have hTh : (Ts.setVm vm₁).heap = H := hT
  obtain ⟨f1, f2, -, -⟩ := Jvm.Free.Multi.fill_facts (Ts.setVm vm₁) (cT 17) (cT 11) 6 6 (defaultValue .int) 6
  rw [hF, hTh] at f1 f2
  have hold : ∀ z : Nat, z < H.size → F.heap[z]? = H[z]? := fun z hz => by
    have := Jvm.Free.Multi.fill_old (Ts.setVm vm₁) (cT 17) (cT 11) 6 6 (defaultValue .int) (a := z) (by rw [hTh]; exact hz) 6
    rw [hF, hTh] at this
    exact this
  have hrow : ∀ j : Nat, j < 6 → F.heap[H.size + 1 + j]? = some (arrV (cT 11) 6 (fun _ => .int 0)) := fun j hj => by
    have := Jvm.Free.Multi.fill_inner (Ts.setVm vm₁) (cT 17) (cT 11) 6 6 (defaultValue .int) 6 j hj
    rw [hF, hTh] at this
    rw [this, ← arrV_new]
    rfl
  rw [vr_outer (cT 17) 6 H.size 6] at f2
  have hW6 : ∀ (q' : Key) (k' : Nat), Wr (m + 6) q' k' ↔ Wr m q' k' ∨ (k' < 6 ∧ q' = q) := by
    intro q' k'
    constructor
    · rintro ⟨j, hj, ej⟩
      by_cases hjm : j < m
      · exact Or.inl ⟨j, hjm, ej⟩
      · have h9 := hWL (j - m) (by omega)
        rw [show m + (j - m) = j by omega] at h9
        have := h9.symm.trans ej
        cases this
        exact Or.inr ⟨by omega, rfl⟩
    · rintro (⟨j, hj, ej⟩ | ⟨hk6, rfl⟩)
      · exact ⟨j, by omega, ej⟩
      · exact ⟨m + k', by omega, hWL k' hk6⟩
  have hoth : ∀ q' : Key, q' ≠ q → am_ce b cT (am_W (m + 6)) q' = am_ce b cT (am_W m) q' := by
    intro q' hne
    have iff' : ∀ k', Wr (m + 6) q' k' ↔ Wr m q' k' := fun k' => ⟨fun h => ((hW6 q' k').mp h).elim id (fun h => absurd h.2 hne), fun h => (hW6 q' k').mpr (Or.inl h)⟩
    refine am_ce_congr b cT ?_ ?_ ?_
    all_goals
      funext k'
      by_cases hw : Wr m q' k'
      · exact (if_pos ((iff' k').mpr hw)).trans (if_pos hw).symm
      · exact (if_neg (fun h => hw ((iff' k').mp h))).trans (if_neg hw).symm
  have hn6 : n + 6 < 199 := by
    have := (List.getElem?_eq_some_iff.mp (hr 5 (by decide))).1
    rw [kA_len] at this
    omega
  have hP' : va_P D vwCl (am_w b cT (kA.take (n + 7)) (am_W (m + 6))) F.heap := by
    intro i x hx
    obtain ⟨z, hz, rfl⟩ := am_w_of hx
    rw [List.getElem?_take] at hz
    split at hz
    · next hi =>
      have hzi := kA_at hz
      by_cases hin : i < n
      · have hne : z ≠ q := fun h => by
          rw [h] at hzi
          have := (kA_at hk).1
          omega
        rw [hoth z hne]
        have hwi : (am_w b cT (kA.take n) (am_W m))[i]? = some (am_ad b z, am_ce b cT (am_W m) z) := by
          unfold am_w
          rw [List.getElem?_map, List.getElem?_take, if_pos hin, hz]
          rfl
        exact (h1.1 i _ hwi).kept (hold _ (h1.1 i _ hwi).lt)
      · by_cases hin2 : i = n
        · subst hin2
          have hzq : z = q := Option.some.inj (hz.symm.trans hk)
          subst hzq
          rw [am_ce_q b cT _ (by rw [hkd]; decide), hkd, hln]
          show F.heap[am_ad b z]? = some (vp_cell _ _)
          rw [← had, f2, vp_cell_q]
          refine congrArg some ?_
          unfold arrV
          congr 1
          refine congrArg (fun f : Fin 6 → Value => Array.ofFn f) (funext fun j => ?_)
          have hw : Wr (m + 6) z j.val := (hW6 z j.val).mpr (Or.inr ⟨j.isLt, rfl⟩)
          have e1 : (am_W (m + 6)).2.2 z j.val = some (r j.val) := (if_pos hw).trans (hl0 j.val j.isLt)
          dsimp only
          rw [e1, if_pos j.isLt]
          have h2 := kA_at (hr j.val j.isLt)
          show va_rf (some (H.size + 1 + j.val)) = va_rf (some (am_ad b (r j.val)))
          rw [am_ad_of h2.2, h2.1, hsz]
          congr 2
          omega
        · obtain ⟨j, hj, rfl⟩ : ∃ j, j < 6 ∧ i = n + 1 + j := ⟨i - (n + 1), by omega, by omega⟩
          have hzq : z = r j := Option.some.inj (hz.symm.trans (hr j hj))
          subst hzq
          have hne : r j ≠ q := fun h => by
            rw [h] at hzi
            have := (kA_at hk).1
            omega
          rw [hoth _ hne, am_ce_i b cT _ (Or.inl (hrk j hj).1), (hrk j hj).1, (hrk j hj).2]
          show F.heap[am_ad b (r j)]? = some (vp_cell _ _)
          rw [am_ad_of hzi.2, hzi.1, show b.1 + (n + 1 + j) = H.size + 1 + j by omega, hrow j hj, vp_cell_i]
          congr 2
          funext k'
          rw [(W_fresh (hAr j hj) (hr j hj) k').1]
    · cases hz
  have hS := h1.2.2.2.1
  have hX1 : am_X1 b D cT A true (kA.take (n + 7)) (am_W (m + 6)) s F.heap locs := by
    refine ⟨hP', am_w_D (fun i hi hi2 => ?_), h1.2.2.1, ⟨by rw [f1]; have := hS.1; omega, fun z g1 g2 => (hold z (Nat.lt_of_lt_of_le g1 hS.1)).trans (hS.2.1 z g1 g2), hS.2.2⟩, h1.2.2.2.2.1, fun _ => ?_⟩
    · by_cases hin : i < n
      · have hki : ∃ z, kA[i]? = some z := ⟨kA[i]'(by rw [kA_len]; exact hi2), List.getElem?_eq_getElem _⟩
        obtain ⟨z, hz⟩ := hki
        have hwi : (am_w b cT (kA.take n) (am_W m))[i]? = some (am_ad b z, am_ce b cT (am_W m) z) := by
          unfold am_w
          rw [List.getElem?_map, List.getElem?_take, if_pos hin, hz]
          rfl
        have h9 := h1.2.1.2 i _ hwi
        have h8 := kA_at hz
        dsimp only at h9
        rw [am_ad_of h8.2, h8.1] at h9
        exact h9
      · exact h1.2.2.2.2.1.1 _ (by have := hS.1; omega)
    · rw [f1, hsz, List.length_take, kA_len]
      omega
  obtain ⟨t, a1, b1⟩ := kk p e s mm args below meth c F.heap locs b D cT A ls h0 hX1 hl F rfl X'
  refine ⟨t, step t ?_, b1⟩
  have e : Ts.heap.size = am_ad b q := by rw [hT]; exact had
  rw [e]
  exact a1
theorem X_W {l : Launch} {md : MD} {d mc ms : Nat} {al : Bool} {T : Option AV × List Key × AM} {ks : List Key} {kc kn pc : Nat} {L : List (Option AV)} {st : List AV} {M M' : AM} (h : M = M') (k : X l md d mc ms al T ks kc kn pc L st M') : X l md d mc ms al T ks kc kn pc L st M := by
  rw [h]
  exact k
def MN (own : String) (idx : Nat) (md2 : MD) (n : Nat) (host : String) : Prop := Cond.methodLinkNest own idx md2.1 host ∈ Nd ∧ Cond.initialized md2.1.cls ∈ Wd ∧ Cond.code md2.1 md2.2.1 md2.2.2.1 md2.2.2.2 ∈ Wd ∧ (md2.1.cls ≠ "java/lang/invoke/MethodHandle" ∧ md2.1.cls ≠ "java/lang/invoke/VarHandle" ∧ (parseMethodDescriptor md2.1.desc).map (fun d => d.parameters.length) = some n) ∧ md2.2.2.1 ≤ 21
set_option maxHeartbeats 1000000 in
theorem c_callIN {idx n0 : Nat} {host : String} {ks : List Key} {al : Bool} (hw : MN md.1.cls idx md2 n0 host) (hv : Cond.instanceMethod md2.1 ∈ Wd) (hy : md2.1.name = "<init>") (hvoid : md2.2.2.2 = none) (hE : Ev l md2 d2 mc2 ms2 al (vR q :: as) ks M T2) (hdd : d2 + 1 ≤ d) (hd : decode md.2.1 pc = .ok (.invokespecial idx, 3)) (hn : as.length = n0) (hst : (st.map am_cat).sum ≤ 8) (hcm : kc + mc2 ≤ mc) (hsm : kn + ms2 ≤ ms)
    (kk : X l md d mc ms al T T2.2.1 (kc + mc2) (kn + ms2) (pc + 3) L (T2.1.toList ++ st) T2.2.2) : X l md d mc ms al T ks kc kn pc L (as.reverse ++ vR q :: st) M := by
  intro p e s mm args below meth c H locs b D cT A ls h0 h1 hl9
  obtain ⟨w1, w2, w3, w4, w5⟩ := hw
  have hE2 := hE b D cT H.size
  rw [hvoid] at hE2 w3
  rw [am_mapA]
  have hG : GoodIn Wd (Cond.code md2.1 md2.2.1 md2.2.2.1 none :: Wd) := fun w hw => by
    rcases List.mem_cons.mp hw with rfl | hw
    · exact ⟨w3, Wd_good w3⟩
    · exact ⟨hw, Wd_good hw⟩
  have hne : va_Nw (.methodLinkNest md.1.cls idx md2.1 host) s := h1.2.2.2.2.1.2.2.2.2.2 _ w1
  refine am_call (A1 := va_A (am_w b cT ks M) H.size) h1 (am_freeA h1) (va_runIN (Ts := Wd) (own := md.1.cls) (As := as.map (am_cv b)) ⟨h0.1, h0.2.1, h0.2.2.2.2.2.2.1, h0.2.2.2.2.1, h0.2.2.2.1⟩ hE2
    ⟨va_cnB n0 h0.2.2.2.1 hG rfl rfl rfl hne (h0.2.2.2.1 _ w2) w4 ⟨?_, ?_⟩, hy, h0.2.2.2.1 _ hv⟩ ⟨am_blind, fun U hU hW => am_pre h1 _ U hU hW⟩ rfl (by rw [List.length_map]; exact hn) hl9.1 rfl (lv_room (by rw [am_cat_sum]; exact hst)) hd ⟨hcm, hsm⟩) (fun H1 locs1 h2 => ?_)
  · show d2 + 1 ≤ d
    exact hdd
  · show 8 + (md2.2.2.1 + 11) + 40 * d2 ≤ 40 * d
    omega
  · rw [am_mapR]
    exact kk p e s mm args below meth c H1 locs1 b D cT A ls h0 h2 hl9
end CT
