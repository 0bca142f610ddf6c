/-! copies: a village into another, as it is, image, back -/
abbrev Nig : Type := Nat × (Nat → Int32) × (Nat → Int32)
def RepN (u : PM) (v : Nat) (N : Nig) : Prop := u.1 (1, v, 0) 6 = nI N.1 ∧ N.1 ≤ 12 ∧ ∀ i, i < 12 → u.1 (6, v, 0) i = N.2.1 i ∧ u.1 (7, v, 0) i = N.2.2 i
def gCp (v : Nat) (q : Key) (_ : Nat) : Bool := ((q.1 == 1 || q.1 == 3 || q.1 == 5 || q.1 == 6 || q.1 == 7) && q.2.1 == v) || (q.1 == 200 && q.2.1 == v + 1)
theorem c_hcopy {u : PM} {v w h g : Nat} (hvw : v ≠ w) (ha : u.1 (3, w, g) 1 = 0 ∨ u.1 (3, w, g) 1 = 1) : ∃ u', f_X2_copy v h w g u = some u' ∧ eqx (fun q _ => q.1 == 3 && q.2.1 == v && q.2.2 == h) u u' ∧ ∀ f, f < 9 → u'.1 (3, v, h) f = u.1 (3, w, g) f := by
  have n1 : ¬ (w = v) := fun z => hvw z.symm
  unfold f_X2_copy
  rw [if_pos ha]
  unfold f_X2_setOut
  rw [Option.bind_some]
  refine ⟨_, rfl, ?_, fun f hf => ?_⟩
  · refine ((((((((((eqx.rf).pi ?_).pi ?_).pi ?_).pi ?_).pi ?_).pi ?_).pi ?_).pi ?_).pi ?_).pi ?_
    all_goals simp
  · have : f = 0 ∨ f = 1 ∨ f = 2 ∨ f = 3 ∨ f = 4 ∨ f = 5 ∨ f = 6 ∨ f = 7 ∨ f = 8 := by omega
    rcases this with rfl | rfl | rfl | rfl | rfl | rfl | rfl | rfl | rfl <;> simp [p_i, n1]
theorem cF_of {u u' : PM} {v w : Nat} (h : ∀ i, i < 6 → ∀ f, f < 9 → u'.1 (3, v, i) f = u.1 (3, w, i) f) : cF u' v = cF u w := by
  funext i f
  unfold cF
  by_cases c : i < 6 ∧ f < 9
  · rw [if_pos c, if_pos c, h i c.1 f c.2]
  · rw [if_neg c, if_neg c]
theorem cW_of {u u' : PM} {v w : Nat} (h : ∀ i, i < 6 → ∀ f, f < 6 → u'.1 (5, v, i) f = u.1 (5, w, i) f) : cW u' v = cW u w := by
  funext i f
  unfold cW
  by_cases c : i < 6 ∧ f < 6
  · rw [if_pos c, if_pos c, h i c.1 f c.2]
  · rw [if_neg c, if_neg c]
theorem c_copy_l {u t0 : PM} {v w : Nat} (hvw : v ≠ w) (ha : ∀ i, i < 6 → u.1 (3, w, i) 1 = 0 ∨ u.1 (3, w, i) 1 = 1) (he : eqx (gCp v) u t0) : ∃ t, am_loop (f_X8_copy_L42 v w) 2000 ((0 : Int32), t0) = some t ∧ eqx (fun q _ => (q.1 == 3 || q.1 == 5) && q.2.1 == v) t0 t ∧ ∀ i, i < 6 → (∀ f, f < 9 → t.1 (3, v, i) f = u.1 (3, w, i) f) ∧ (∀ b, b < 6 → t.1 (5, v, i) b = u.1 (5, w, i) b) := by
  have n1 : ¬ (w = v) := fun z => hvw z.symm
  refine am_cnt (f := f_X8_copy_L42 v w) (s := ((0 : Int32), t0)) (fun j t => t.1 = nI j ∧ eqx (fun q _ => (q.1 == 3 || q.1 == 5) && q.2.1 == v) t0 t.2 ∧ ∀ i, i < j → (∀ f, f < 9 → t.2.1 (3, v, i) f = u.1 (3, w, i) f) ∧ (∀ b, b < 6 → t.2.1 (5, v, i) b = u.1 (5, w, i) b)) (fun t => eqx (fun q _ => (q.1 == 3 || q.1 == 5) && q.2.1 == v) t0 t ∧ ∀ i, i < 6 → (∀ f, f < 9 → t.1 (3, v, i) f = u.1 (3, w, i) f) ∧ (∀ b, b < 6 → t.1 (5, v, i) b = u.1 (5, w, i) b)) 6 ⟨rfl, eqx.rf, fun i hi => by omega⟩ (by omega) ?_ ?_
  · rintro j ⟨x, t⟩ hj ⟨rfl, h1, h2⟩
    dsimp only at h1 h2
    have k3 : ∀ i f, t.1 (3, w, i) f = u.1 (3, w, i) f := fun i f => (h1.1 _ _ (by simp [n1])).trans (he.1 _ _ (by simp [gCp, n1]))
    have k5 : ∀ i f, t.1 (5, w, i) f = u.1 (5, w, i) f := fun i f => (h1.1 _ _ (by simp [n1])).trans (he.1 _ _ (by simp [gCp, n1]))
    obtain ⟨t1, q1, q2, q3⟩ := c_hcopy (h := j) (g := j) (u := t) hvw (by rw [k3]; exact ha j hj)
    unfold f_X8_copy_L42
    dsimp only
    rw [if_neg (show ¬ (6 : Int32) ≤ nI j from nI_ge (b := 6) (by omega) (by omega)), if_neg (nI_in (show j < 6 by omega) (by omega)), nI_clamp (show j < 2 ^ 31 by omega), nI_1, q1, Option.bind_some]
    refine ⟨_, rfl, rfl, (h1.tr (q2.mono (fun q k z => ?_))).pci (fun k => by simp), fun i hi => ⟨fun f hf => ?_, fun b hb => ?_⟩⟩
    · by_cases z3 : q.1 = 3 ∧ q.2.1 = v
      · rw [z3.1, z3.2] at z; simp at z
      · by_cases z4 : q.1 = 3
        · have : ¬ q.2.1 = v := fun y => z3 ⟨z4, y⟩
          simp [this]
        · simp [z4]
    · dsimp only
      rw [p_ci, if_neg (by simp)]
      by_cases e : i = j
      · subst e
        rw [q3 f hf, k3]
      · rw [q2.1 _ _ (by simp [e])]
        exact (h2 i (by omega)).1 f hf
    · dsimp only
      rw [p_ci]
      by_cases e : i = j
      · subst e
        rw [if_pos rfl, pk_cpy_in (Nat.zero_le b) (by omega), q2.1 _ _ (by simp), k5]
        simp
      · rw [if_neg (by simp [e]), q2.1 _ _ (by simp)]
        exact (h2 i (by omega)).2 b hb
  · rintro ⟨x, t⟩ ⟨rfl, h1, h2⟩
    unfold f_X8_copy_L42
    dsimp only
    rw [if_pos (show (6 : Int32) ≤ nI 6 by decide)]
    exact ⟨t, rfl, h1, h2⟩
theorem gCp_l (v s p i : Nat) (h1 : 11 ≤ s) (h2 : s ≤ 18) : gCp v (s, p, 0) i = false := by
  unfold gCp
  simp only [Bool.or_eq_false_iff, beq_eq_false_iff_ne, Bool.and_eq_false_iff]
  omega
theorem c_copy {u : PM} {v w : Nat} {V : Vil} {N : Nig} (hvw : v ≠ w) (hR : RepC u w V) (hW : WF V) (hN : RepN u w N) : ∃ u', f_X8_copy v w u = some u' ∧ eqx (gCp v) u u' ∧ RepC u' v V ∧ RepN u' v N := by
  have n1 : ¬ (w = v) := fun z => hvw z.symm
  obtain ⟨a1, a2, a3, a4, a5, a6⟩ := id hR
  obtain ⟨b1, b2, b3⟩ := hN
  have ha : ∀ i, i < 6 → u.1 (3, w, i) 1 = 0 ∨ u.1 (3, w, i) 1 = 1 := fun i hi => by
    rw [cF_at hi (by omega), ← a1]
    exact hW.2.1 i hi
  have body : ∀ o : Option Nat, u.2.2 (w + 1) = o → ∃ t, am_loop (f_X8_copy_L42 v w) 2000 ((0 : Int32), (pi (pr (pi (pi (pi u (1, v, 0) 0 (u.1 (1, w, 0) 0)) (1, v, 0) 3 (u.1 (1, w, 0) 3)) (1, v, 0) 4 (u.1 (1, w, 0) 4)) (v + 1) o) (1, v, 0) 6 (u.1 (1, w, 0) 6))) = some t ∧ eqx (gCp v) u (pci (pci t (6, v, 0) (va_cpy (t.1 (6, w, 0)) (t.1 (6, v, 0)) 0 0 12)) (7, v, 0) (va_cpy ((pci t (6, v, 0) (va_cpy (t.1 (6, w, 0)) (t.1 (6, v, 0)) 0 0 12)).1 (7, w, 0)) ((pci t (6, v, 0) (va_cpy (t.1 (6, w, 0)) (t.1 (6, v, 0)) 0 0 12)).1 (7, v, 0)) 0 0 12)) ∧ RepC (pci (pci t (6, v, 0) (va_cpy (t.1 (6, w, 0)) (t.1 (6, v, 0)) 0 0 12)) (7, v, 0) (va_cpy ((pci t (6, v, 0) (va_cpy (t.1 (6, w, 0)) (t.1 (6, v, 0)) 0 0 12)).1 (7, w, 0)) ((pci t (6, v, 0) (va_cpy (t.1 (6, w, 0)) (t.1 (6, v, 0)) 0 0 12)).1 (7, v, 0)) 0 0 12)) v V ∧ RepN (pci (pci t (6, v, 0) (va_cpy (t.1 (6, w, 0)) (t.1 (6, v, 0)) 0 0 12)) (7, v, 0) (va_cpy ((pci t (6, v, 0) (va_cpy (t.1 (6, w, 0)) (t.1 (6, v, 0)) 0 0 12)).1 (7, w, 0)) ((pci t (6, v, 0) (va_cpy (t.1 (6, w, 0)) (t.1 (6, v, 0)) 0 0 12)).1 (7, v, 0)) 0 0 12)) v N := by
    intro o ho
    have e0 : eqx (gCp v) u (pi (pr (pi (pi (pi u (1, v, 0) 0 (u.1 (1, w, 0) 0)) (1, v, 0) 3 (u.1 (1, w, 0) 3)) (1, v, 0) 4 (u.1 (1, w, 0) 4)) (v + 1) o) (1, v, 0) 6 (u.1 (1, w, 0) 6)) := ((((eqx.rf.pi (by simp [gCp])).pi (by simp [gCp])).pi (by simp [gCp])).pr (by simp [gCp])).pi (by simp [gCp])
    have s0 : (pi (pr (pi (pi (pi u (1, v, 0) 0 (u.1 (1, w, 0) 0)) (1, v, 0) 3 (u.1 (1, w, 0) 3)) (1, v, 0) 4 (u.1 (1, w, 0) 4)) (v + 1) o) (1, v, 0) 6 (u.1 (1, w, 0) 6)).1 (1, v, 0) 0 = u.1 (1, w, 0) 0 := by simp [p_i, p_r1]
    have s3 : (pi (pr (pi (pi (pi u (1, v, 0) 0 (u.1 (1, w, 0) 0)) (1, v, 0) 3 (u.1 (1, w, 0) 3)) (1, v, 0) 4 (u.1 (1, w, 0) 4)) (v + 1) o) (1, v, 0) 6 (u.1 (1, w, 0) 6)).1 (1, v, 0) 3 = u.1 (1, w, 0) 3 := by simp [p_i, p_r1]
    have s4 : (pi (pr (pi (pi (pi u (1, v, 0) 0 (u.1 (1, w, 0) 0)) (1, v, 0) 3 (u.1 (1, w, 0) 3)) (1, v, 0) 4 (u.1 (1, w, 0) 4)) (v + 1) o) (1, v, 0) 6 (u.1 (1, w, 0) 6)).1 (1, v, 0) 4 = u.1 (1, w, 0) 4 := by simp [p_i, p_r1]
    have s6 : (pi (pr (pi (pi (pi u (1, v, 0) 0 (u.1 (1, w, 0) 0)) (1, v, 0) 3 (u.1 (1, w, 0) 3)) (1, v, 0) 4 (u.1 (1, w, 0) 4)) (v + 1) o) (1, v, 0) 6 (u.1 (1, w, 0) 6)).1 (1, v, 0) 6 = u.1 (1, w, 0) 6 := by simp [p_i]
    have sr : (pi (pr (pi (pi (pi u (1, v, 0) 0 (u.1 (1, w, 0) 0)) (1, v, 0) 3 (u.1 (1, w, 0) 3)) (1, v, 0) 4 (u.1 (1, w, 0) 4)) (v + 1) o) (1, v, 0) 6 (u.1 (1, w, 0) 6)).2.2 (v + 1) = o := if_pos rfl
    obtain ⟨t, q1, q2, q3⟩ := c_copy_l hvw ha e0
    generalize pi (pr (pi (pi (pi u (1, v, 0) 0 (u.1 (1, w, 0) 0)) (1, v, 0) 3 (u.1 (1, w, 0) 3)) (1, v, 0) 4 (u.1 (1, w, 0) 4)) (v + 1) o) (1, v, 0) 6 (u.1 (1, w, 0) 6) = t0 at *
    refine ⟨t, q1, ?_⟩
    have e1 : eqx (gCp v) u t := e0.tr (q2.mono (fun q k z => by
      unfold gCp at z
      simp only [Bool.or_eq_false_iff, Bool.and_eq_false_iff, beq_eq_false_iff_ne] at z
      simp only [Bool.or_eq_false_iff, Bool.and_eq_false_iff, beq_eq_false_iff_ne]
      omega))
    generalize hz : pci (pci t (6, v, 0) (va_cpy (t.1 (6, w, 0)) (t.1 (6, v, 0)) 0 0 12)) (7, v, 0) (va_cpy ((pci t (6, v, 0) (va_cpy (t.1 (6, w, 0)) (t.1 (6, v, 0)) 0 0 12)).1 (7, w, 0)) ((pci t (6, v, 0) (va_cpy (t.1 (6, w, 0)) (t.1 (6, v, 0)) 0 0 12)).1 (7, v, 0)) 0 0 12) = z
    have ez : eqx (fun q _ => (q.1 == 6 || q.1 == 7) && q.2.1 == v) t z := by
      rw [← hz]
      exact (eqx.rf.pci (fun k => by simp)).pci (fun k => by simp)
    have z6 : ∀ i, i < 12 → z.1 (6, v, 0) i = t.1 (6, w, 0) i := fun i hi => by
      rw [← hz, p_ci, if_neg (by simp), p_ci, if_pos rfl, pk_cpy_in (Nat.zero_le i) (by omega)]
      simp
    have z7 : ∀ i, i < 12 → z.1 (7, v, 0) i = t.1 (7, w, 0) i := fun i hi => by
      rw [← hz, p_ci, if_pos rfl, pk_cpy_in (Nat.zero_le i) (by omega), p_ci, if_neg (by simp)]
      simp
    have ef : eqx (gCp v) u z := e1.tr (ez.mono (fun q k y => by
      unfold gCp at y
      simp only [Bool.or_eq_false_iff, Bool.and_eq_false_iff, beq_eq_false_iff_ne] at y
      simp only [Bool.or_eq_false_iff, Bool.and_eq_false_iff, beq_eq_false_iff_ne]
      omega))
    have c1 : ∀ k, z.1 (1, v, 0) k = t0.1 (1, v, 0) k := fun k => (ez.1 _ _ (by simp)).trans (q2.1 _ _ (by simp))
    have cr : z.2.2 (v + 1) = o := (ez.2.2 _ (by simp)).trans ((q2.2.2 _ (by simp)).trans sr)
    refine ⟨ef, ⟨?_, ?_, ?_, ?_, ?_, ?_⟩, ?_, b2, fun i hi => ⟨?_, ?_⟩⟩
    · rw [a1]
      exact (cF_of (fun i hi f hf => (ez.1 _ _ (by simp)).trans ((q3 i hi).1 f hf))).symm
    · rw [a2]
      exact (cW_of (fun i hi f hf => (ez.1 _ _ (by simp)).trans ((q3 i hi).2 f hf))).symm
    · rw [c1, s0, a3]
    · rw [c1, s3, a4]
    · rw [c1, s4, a5]
    · rw [cr, ← ho]
      exact LdC_kept ef (fun s p i h1 h2 => gCp_l v s p i h1 h2) a6
    · rw [c1, s6, b1]
    · rw [z6 i hi, e1.1 _ _ (by simp [gCp, n1])]
      exact (b3 i hi).1
    · rw [z7 i hi, e1.1 _ _ (by simp [gCp, n1])]
      exact (b3 i hi).2
  unfold f_X8_copy
  cases ho : u.2.2 (w + 1) with
  | none =>
    obtain ⟨t, q1, q2⟩ := body none ho
    dsimp only
    rw [q1, Option.bind_some]
    exact ⟨_, rfl, q2⟩
  | some p =>
    have hp : p < 5 := by
      rw [ho] at a6
      cases hl : V.2.2.2.2.2 with
      | none => rw [hl] at a6; exact a6.elim
      | some y => rw [hl] at a6; exact a6.2.1
    obtain ⟨t, q1, q2⟩ := body (some p) ho
    dsimp only
    rw [if_pos hp, q1, Option.bind_some]
    exact ⟨_, rfl, q2⟩
