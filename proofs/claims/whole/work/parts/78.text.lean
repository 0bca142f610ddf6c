/-! clauses one after another, a text, a land -/
def gKc (p c g0 : Nat) (q : Key) (k : Nat) : Bool := (q.1 == 9 && k == 2) || (q.1 == 11 && q.2.1 == p && (k == 0 || k == 1)) || (12 ≤ q.1 && q.1 ≤ 15 && q.2.1 == p && k == c) || (16 ≤ q.1 && q.1 ≤ 18 && q.2.1 == p && decide (g0 ≤ k))
def gKm (p c g0 : Nat) (q : Key) (k : Nat) : Bool := (q.1 == 40 && (k == 16 || k == 17 || k == 27 || k == 28 || k == 29)) || q.1 == 58 || (52 ≤ q.1 && q.1 ≤ 56 && k == 10 * p + c) || (q.1 == 57 && decide (100 * p + g0 ≤ k) && decide (k < 100 * p + 100))
theorem gE_Kc {p c g0 : Nat} {q : Key} {k : Nat} (h : gKc p c g0 q k = false) : gE p g0 q k = false := by
  unfold gKc at h
  unfold gE
  simp only [Bool.or_eq_false_iff, beq_eq_false_iff_ne, Bool.and_eq_false_iff, decide_eq_false_iff_not] at h ⊢
  omega
theorem gEM_Km {p c g0 : Nat} {q : Key} {k : Nat} (h : gKm p c g0 q k = false) : gEM p g0 (10 * p + c) q k = false := by
  unfold gKm at h
  unfold gEM gM
  simp only [Bool.or_eq_false_iff, beq_eq_false_iff_ne, Bool.and_eq_false_iff, decide_eq_false_iff_not] at h ⊢
  omega
theorem g17_Km {p c g0 : Nat} {q : Key} {k : Nat} (h : gKm p c g0 q k = false) : g17 q k = false := by
  unfold gKm at h
  unfold g17
  simp only [Bool.or_eq_false_iff, beq_eq_false_iff_ne, Bool.and_eq_false_iff, decide_eq_false_iff_not] at h ⊢
  omega
theorem gF3_Km {p c g0 : Nat} {q : Key} {k : Nat} (h : gKm p c g0 q k = false) : gF3 (10 * p + c) q k = false := by
  unfold gKm at h
  unfold gF3 g17
  simp only [Bool.or_eq_false_iff, beq_eq_false_iff_ne, Bool.and_eq_false_iff, decide_eq_false_iff_not] at h ⊢
  omega
theorem gHd_Km {p c g0 : Nat} {q : Key} {k : Nat} (h : gKm p c g0 q k = false) : (g17 q k || (q.1 == 52 && k == 10 * p + c)) = false := by
  unfold gKm at h
  unfold g17
  simp only [Bool.or_eq_false_iff, beq_eq_false_iff_ne, Bool.and_eq_false_iff, decide_eq_false_iff_not] at h ⊢
  omega
theorem c_addCl {u : PM} {p c : Nat} (a0 a1 a2 a3 : Int32) (g0 : Nat) (h : u.1 (11, p, 0) 0 = nI c) (hc : c < 10) : ∃ u', f_X3_addClause p a0 a1 a2 a3 u = some u' ∧ eqx (gKc p c g0) u u' ∧ u'.1 (11, p, 0) 0 = nI (c + 1) ∧ u'.1 (12, p, 0) c = a0 ∧ u'.1 (13, p, 0) c = a1 ∧ u'.1 (14, p, 0) c = a2 ∧ u'.1 (15, p, 0) c = a3 ∧ (∀ k, u'.1 (9, 0, 0) k = u.1 (9, 0, 0) k) ∧ u'.1 (11, p, 0) 1 = u.1 (11, p, 0) 1 ∧ (∀ s k, 16 ≤ s → s ≤ 18 → u'.1 (s, p, 0) k = u.1 (s, p, 0) k) := by
  have hg : ∀ s, s = 12 ∨ s = 13 ∨ s = 14 ∨ s = 15 → gKc p c g0 (s, p, 0) c = true := fun s hs => by
    unfold gKc
    rcases hs with rfl | rfl | rfl | rfl <;> simp
  have hg2 : gKc p c g0 (11, p, 0) 0 = true := by simp [gKc]
  unfold f_X3_addClause
  rw [h, if_neg (nI_pos (by omega)), if_neg (show ¬ (10 : Int32) ≤ nI c from nI_ge (b := 10) hc (by omega)), if_neg (nI_in hc (by omega)), nI_clamp (show c < 2 ^ 31 by omega), nI_1]
  refine ⟨_, rfl, ((((eqx.rf.pi (hg 12 (by simp))).pi (hg 13 (by simp))).pi (hg 14 (by simp))).pi (hg 15 (by simp))).pi hg2, p_at _ _ _ _, ?_, ?_, ?_, ?_, fun k => ?_, ?_, fun s k h1 h2 => ?_⟩
  · simp [p_i]
  · simp [p_i]
  · simp [p_i]
  · simp [p_i]
  · simp [p_i]
  · simp [p_i]
  · have e : ∀ x : Nat, x < 16 → ¬ ((s, p, 0) : Key) = (x, p, 0) := fun x hx z => by have z2 : s = x := congrArg Prod.fst z; omega
    rw [p_i, if_neg (fun z => e 11 (by omega) z.2), p_i, if_neg (fun z => e 15 (by omega) z.2), p_i, if_neg (fun z => e 14 (by omega) z.2), p_i, if_neg (fun z => e 13 (by omega) z.2), p_i, if_neg (fun z => e 12 (by omega) z.2)]
/-- behind a clause, in the class -/
def postC (c : Nat) (u : PM) : Option ((Int32 × PM) ⊕ ((Int32 × PM) ⊕ PM)) := if u.1 (9, 0, 0) 2 < u.1 (9, 0, 0) 1 then (if nI (c + 1) = (10 : Int32) then some (.inr (.inl ((0 : Int32), u))) else (f_X6_take (59 : Int32) u).bind fun (x : Int32 × PM) => if x.1 = 0 then some (.inr (.inl ((0 : Int32), x.2))) else some (.inl (nI (c + 1) + (1 : Int32), x.2))) else some (.inr (.inl ((1 : Int32), u)))
section TXT
variable {u0 u w0 w : PM} {p L i : Nat} {T : Nat → Nat} {ts : List Tok}
theorem clause_ok {c : Nat} (hx : Ctx u w p L T) (hc10 : c < 10) (hu2 : u.1 (9, 0, 0) 2 = nI i) (hiL : i ≤ L) (hu110 : u.1 (11, p, 0) 0 = nI c) (hu11 : u.1 (11, p, 0) 1 = nI ts.length) (htc : tkC u p 0 ts) (hm : MWs w L T i) (h27 : w.1 (40, 0, 0) 27 = nI (100 * p + ts.length)) (htm : tkM w (100 * p) ts) (hlen : ts.length ≤ i) :
    ∃ u' w' j, j ≤ L ∧ u'.1 (9, 0, 0) 2 = nI j ∧ w'.1 (40, 0, 0) 16 = nI j ∧ eqx (gKc p c ts.length) u u' ∧ eqx (gKm p c ts.length) w w' ∧
    ((f_X6_parse_L34 (nI (c + 1), u) = some (.inr (.inl ((0 : Int32), u'))) ∧ f_X10_takesClause (nI (10 * p + c)) w = some (0, w')) ∨
     (f_X6_parse_L34 (nI (c + 1), u) = postC c u' ∧ f_X10_takesClause (nI (10 * p + c)) w = some (1, w') ∧ ∃ (x : Cl) (ts' : List Tok), u'.1 (11, p, 0) 0 = nI (c + 1) ∧ u'.1 (11, p, 0) 1 = nI ts'.length ∧ tkC u' p 0 ts' ∧ w'.1 (40, 0, 0) 27 = nI (100 * p + ts'.length) ∧ tkM w' (100 * p) ts' ∧ ts.length ≤ ts'.length ∧ ts'.length ≤ j ∧ clC u' p c [x] ∧ clM w' p c [x] ∧ (x.1 ≠ 4 → x.2.2.1.2 ≤ ts'.length) ∧ ∃ k, k < 100 ∧ x.2.1 = nI k)) := by
  have hp5 := hx.2.1
  have hLL := hx.1
  have hcE : CE u u p ts.length L i ts := ⟨eqx.rf, hu2, hiL, hu11, htc, Nat.le_refl _⟩
  have gc : ∀ {j : Nat} {u' : PM} {ts' : List Tok}, CE u u' p ts.length L j ts' → eqx (gKc p c ts.length) u u' := fun h => h.1.mono (fun _ _ => gE_Kc)
  obtain ⟨ls, kd, hkd, hls, hC, r, w1, hM, h52, ew, hD⟩ := head_ok (c := 10 * p + c) hx (by omega) hcE hm
  obtain ⟨m1, m2, m3⟩ := mt_le (T := T) ls i hiL hls
  have ew1 : eqx (gKm p c ts.length) w w1 := ew.mono (fun _ _ => gHd_Km)
  generalize hj0 : (mt T L ls i).2 = j0 at hC hD m1 m2 m3
  have stepC : f_X6_parse_L34 (nI (c + 1), u) = (f_X6_takeWord u).bind (fun (x : Int32 × PM) => if x.1 < 0 then some (.inr (.inl ((0 : Int32), x.2))) else (f_X6_take (32 : Int32) x.2).bind (fun (y : Int32 × PM) => if y.1 = 0 then some (.inr (.inl ((0 : Int32), y.2))) else if x.1 = (4 : Int32) then (f_X6_takeNext y.2).bind (fun (z : Int32 × PM) => if z.1 = 0 then some (.inr (.inl ((0 : Int32), z.2))) else postC c z.2) else match y.2.2.2 0 with
      | none => none
      | some p7 => if p7 < 5 then (f_X6_takeNumber y.2).bind (fun (a : Int32 × PM) => if a.1 < 0 then some (.inr (.inl ((0 : Int32), a.2))) else (f_X6_take (32 : Int32) a.2).bind (fun (b : Int32 × PM) => if b.1 = 0 then some (.inr (.inl ((0 : Int32), b.2))) else (f_X6_E (0 : Int32) b.2).bind (fun (d : Int32 × PM) => if d.1 = 0 then some (.inr (.inl ((0 : Int32), d.2))) else match d.2.2.2 0 with
        | none => none
        | some p19 => if p19 < 5 then (f_X3_addClause p19 x.1 a.1 (y.2.1 (11, p7, 0) 1) (d.2.1 (11, p19, 0) 1) d.2).bind (fun r22 => postC c r22) else none))) else none)) := by
    unfold f_X6_parse_L34
    dsimp only
    rw [if_neg (show ¬ (10 : Int32) < nI (c + 1) from nI_nlt (a := 10) (by omega) (by omega))]
    rfl
  have stepM : f_X10_takesClause (nI (10 * p + c)) w = if r = 0 then some ((0 : Int32), w1) else if (w1.1 (52, 0, 0) (10 * p + c)) = (4 : Int32) then
      (f_X10_takesFigure (nI (10 * p + c)) (pi w1 (53, 0, 0) (10 * p + c) (0 : Int32))).bind (fun (x : Int32 × PM) => if x.1 = 0 then some ((0 : Int32), x.2) else (f_X10_takesFigure (nI (10 * p + c)) x.2).bind (fun (y : Int32 × PM) => if y.1 = 0 then some ((0 : Int32), y.2) else (f_X10_takesNumber y.2).bind (fun (z : Int32 × PM) => if z.1 = 0 then some ((0 : Int32), z.2) else if (z.2.1 (52, 0, 0) (10 * p + c)) = (4 : Int32) then some ((1 : Int32), (pi z.2 (54, 0, 0) (10 * p + c) (z.2.1 (40, 0, 0) 17))) else (f_X10_takesSign (32 : Int32) (pi z.2 (54, 0, 0) (10 * p + c) (z.2.1 (40, 0, 0) 17))).bind (fun (a : Int32 × PM) => if a.1 = 0 then some ((0 : Int32), a.2) else (f_X10_takesE (nI (10 * p + c)) a.2).bind (fun (b : Int32 × PM) => if b.1 = 0 then some ((0 : Int32), b.2) else some ((1 : Int32), b.2))))))
    else (f_X10_takesNumber (pi w1 (53, 0, 0) (10 * p + c) (0 : Int32))).bind (fun (z : Int32 × PM) => if z.1 = 0 then some ((0 : Int32), z.2) else if (z.2.1 (52, 0, 0) (10 * p + c)) = (4 : Int32) then some ((1 : Int32), (pi z.2 (54, 0, 0) (10 * p + c) (z.2.1 (40, 0, 0) 17))) else (f_X10_takesSign (32 : Int32) (pi z.2 (54, 0, 0) (10 * p + c) (z.2.1 (40, 0, 0) 17))).bind (fun (a : Int32 × PM) => if a.1 = 0 then some ((0 : Int32), a.2) else (f_X10_takesE (nI (10 * p + c)) a.2).bind (fun (b : Int32 × PM) => if b.1 = 0 then some ((0 : Int32), b.2) else some ((1 : Int32), b.2)))) := by
    unfold f_X10_takesClause
    rw [hM, Option.bind_some]
    dsimp only
    rw [if_neg (nI_in (show 10 * p + c < 50 by omega) (by omega)), nI_clamp (show 10 * p + c < 2 ^ 31 by omega)]
  have i32 : ((-1 : Int32) < 0) = True := by decide
  rcases hC with ⟨c1, u1, c2, c3⟩ | ⟨c1, u1, c2, c3⟩
  · -- the word is there
    rcases hD with ⟨-, d2, rfl, d4⟩ | ⟨d2, rfl, d4⟩
    · rcases c_tk hx c3 (c := 32) (by omega) with ⟨-, u2, e1, e2⟩ | ⟨e1, -⟩
      · have e1 : f_X6_take (32 : Int32) u1 = some (1, u2) := e1
        have n5 : ∀ s k, s ≠ 53 → (pi w1 (53, 0, 0) (10 * p + c) (0 : Int32)).1 (s, 0, 0) k = w1.1 (s, 0, 0) k := fun s k hs => by rw [p_i, if_neg (fun z => hs (congrArg Prod.fst z.2))]
        have ew2 : eqx (gKm p c ts.length) w1 (pi w1 (53, 0, 0) (10 * p + c) (0 : Int32)) := eqx.rf.pi (by simp [gKm])
        have hm2 : MWs (pi w1 (53, 0, 0) (10 * p + c) (0 : Int32)) L T (j0 + 1) := MWs_fr d4 ew2 rfl (fun _ => rfl) (fun _ => rfl) ((n5 40 16 (by omega)).trans d4.2.2.2.1) d4.2.2.2.2
        rw [if_neg one_ne, h52] at stepM
        rw [c2, Option.bind_some] at stepC
        dsimp only at stepC
        rw [if_neg (nI_pos (by omega)), e1, Option.bind_some] at stepC
        dsimp only at stepC
        rw [if_neg one_ne] at stepC
        by_cases h4 : kd = 4
        · -- next
          subst h4
          rw [if_pos (show nI 4 = (4 : Int32) from rfl)] at stepC stepM
          have nx : f_X6_takeNext u2 = (f_X6_takeWeather u2).bind (fun (x : Int32 × PM) => if x.1 < 0 then some ((0 : Int32), x.2) else (f_X6_take (32 : Int32) x.2).bind (fun (y : Int32 × PM) => if y.1 = 0 then some ((0 : Int32), y.2) else (f_X6_takeWeather y.2).bind (fun (z : Int32 × PM) => if z.1 < 0 then some ((0 : Int32), z.2) else (f_X6_take (32 : Int32) z.2).bind (fun (a : Int32 × PM) => if a.1 = 0 then some ((0 : Int32), a.2) else (f_X6_takeNumber a.2).bind (fun (b : Int32 × PM) => if 0 ≤ b.1 then match b.2.2.2 0 with | none => none | some p16 => if p16 < 5 then (f_X3_addClause p16 (4 : Int32) b.1 x.1 z.1 b.2).bind fun r19 => some ((1 : Int32), r19) else none else some ((0 : Int32), b.2)))))) := by
            unfold f_X6_takeNext
            rfl
          rw [nx] at stepC
          rcases fig_ok (c := 10 * p + c) (s := 0) hx (by omega) (by omega) e2 hm2 (p_at _ _ _ _) with ⟨f1, f2⟩ | ⟨fw, u3, f1, f1', ⟨f2, w3, f3, f4, f5⟩ | ⟨u4, w4, f2, f3, f4, f5, f6, f7⟩⟩
          · refine ⟨u2, _, j0 + 1, d4.2.2.2.2, e2.2.1, hm2.2.2.2.1, gc e2, ew1.tr ew2, Or.inl ⟨?_, ?_⟩⟩
            · rw [stepC, f1, Option.bind_some]
              dsimp only
              rw [if_pos (show (-1 : Int32) < 0 by decide), Option.bind_some]
              rfl
            · rw [stepM, f2, Option.bind_some]
              rfl
          · have f2 : f_X6_take (32 : Int32) u3 = some (0, u3) := f2
            refine ⟨u3, w3, j0 + 1 + 1, f4.2.2.2.2, f1'.2.1, f4.2.2.2.1, gc f1', (ew1.tr ew2).tr (f5.mono (fun _ _ => gF3_Km)), Or.inl ⟨?_, ?_⟩⟩
            · rw [stepC, f1, Option.bind_some]
              dsimp only
              rw [if_neg (nI_pos (by have := isW_lt fw; omega)), f2, Option.bind_some]
              rfl
            · rw [stepM, f3, Option.bind_some]
              rfl
          · have f2 : f_X6_take (32 : Int32) u3 = some (1, u4) := f2
            have hw3 := isW_lt fw
            have ew3 : eqx (gKm p c ts.length) w w4 := (ew1.tr ew2).tr (f7.mono (fun _ _ => gF3_Km))
            rw [f1, Option.bind_some] at stepC
            dsimp only at stepC
            rw [if_neg (nI_pos (by omega)), f2, Option.bind_some] at stepC
            dsimp only at stepC
            rw [if_neg one_ne] at stepC
            rw [f4, Option.bind_some] at stepM
            dsimp only at stepM
            rw [if_neg one_ne] at stepM
            have f6 : w4.1 (53, 0, 0) (10 * p + c) = nI (pk T L (j0 + 1) - 48) := by rw [f6]; congr 1; omega
            rcases fig_ok (c := 10 * p + c) (s := pk T L (j0 + 1) - 48) hx (by omega) (by omega) f3 f5 f6 with ⟨g1, g2⟩ | ⟨gw, u5, g1, g1', ⟨g2, w5, g3, g4, g5⟩ | ⟨u6, w6, g2, g3, g4, g5, g6, g7⟩⟩
            · refine ⟨u4, w4, j0 + 1 + 2, f5.2.2.2.2, f3.2.1, f5.2.2.2.1, gc f3, ew3, Or.inl ⟨?_, ?_⟩⟩
              · rw [stepC, g1, Option.bind_some]
                dsimp only
                rw [if_pos (show (-1 : Int32) < 0 by decide), Option.bind_some]
                rfl
              · rw [stepM, g2, Option.bind_some]
                rfl
            · have g2 : f_X6_take (32 : Int32) u5 = some (0, u5) := g2
              refine ⟨u5, w5, j0 + 1 + 2 + 1, g4.2.2.2.2, g1'.2.1, g4.2.2.2.1, gc g1', ew3.tr (g5.mono (fun _ _ => gF3_Km)), Or.inl ⟨?_, ?_⟩⟩
              · rw [stepC, g1, Option.bind_some]
                dsimp only
                rw [if_neg (nI_pos (by have := isW_lt gw; omega)), g2, Option.bind_some]
                rfl
              · rw [stepM, g3, Option.bind_some]
                rfl
            · have g2 : f_X6_take (32 : Int32) u5 = some (1, u6) := g2
              have hw4 := isW_lt gw
              have ew4 : eqx (gKm p c ts.length) w w6 := ew3.tr (g7.mono (fun _ _ => gF3_Km))
              rw [g1, Option.bind_some] at stepC
              dsimp only at stepC
              rw [if_neg (nI_pos (by omega)), g2, Option.bind_some] at stepC
              dsimp only at stepC
              rw [if_neg one_ne] at stepC
              rw [g4, Option.bind_some] at stepM
              dsimp only at stepM
              rw [if_neg one_ne] at stepM
              rcases c_num hx g3 with ⟨d, j, u7, k1, k2, k3⟩ | ⟨k1, k2⟩
              · obtain ⟨v1, v2, v3⟩ := nmT_lt k1
                rcases n_num hx g5 with ⟨d', j', w7, l1, l2, l3, l4, l5⟩ | ⟨l1, -⟩
                · rw [k1] at l1
                  cases l1
                  have ew5 : eqx (gKm p c ts.length) w w7 := ew4.tr (l5.mono (fun _ _ => g17_Km))
                  obtain ⟨u8, o1, o2, o3, o4, o5, o6, o7, o8, o9, o10⟩ := c_addCl (p := p) (c := c) (4 : Int32) (nI d) (nI (pk T L (j0 + 1) - 48)) (nI (pk T L (j0 + 1 + 2) - 48)) ts.length ((k3.1.1 _ _ (by simp [gE])).trans hu110) hc10
                  have w52 : w7.1 (52, 0, 0) (10 * p + c) = nI 4 := by
                    rw [l5.1 _ _ rfl, g7.1 _ _ rfl, f7.1 _ _ rfl, n5 52 _ (by omega)]
                    exact h52
                  have w53 : w7.1 (53, 0, 0) (10 * p + c) = nI (3 * (pk T L (j0 + 1) - 48) + (pk T L (j0 + 1 + 2) - 48)) := (l5.1 _ _ rfl).trans g6
                  have n4 : ∀ s k, s ≠ 54 → (pi w7 (54, 0, 0) (10 * p + c) (w7.1 (40, 0, 0) 17)).1 (s, 0, 0) k = w7.1 (s, 0, 0) k := fun s k hs => by rw [p_i, if_neg (fun z => hs (congrArg Prod.fst z.2))]
                  have w27 : w7.1 (40, 0, 0) 27 = nI (100 * p + ts.length) := by
                    rw [l5.1 _ _ rfl, g7.1 _ _ rfl, f7.1 _ _ rfl, n5 40 _ (by omega), ew.1 _ _ rfl]
                    exact h27
                  have w57 : ∀ k, w7.1 (57, 0, 0) k = w.1 (57, 0, 0) k := fun k => by
                    rw [l5.1 _ _ rfl, g7.1 _ _ rfl, f7.1 _ _ rfl, n5 57 _ (by omega), ew.1 _ _ rfl]
                  have e4 : ∀ z : Nat, z < 10 → nI z = nI z := fun _ _ => rfl
                  refine ⟨u8, pi w7 (54, 0, 0) (10 * p + c) (w7.1 (40, 0, 0) 17), j, l3.2.2.2.2, (o8 2).trans k3.2.1, (n4 40 16 (by omega)).trans l3.2.2.2.1, (gc k3).tr o2, ew5.pi (by simp [gKm]), Or.inr ⟨?_, ?_, (4, nI d, (pk T L (j0 + 1) - 48, pk T L (j0 + 1 + 2) - 48), []), ts, o3, o9.trans k3.2.2.2.1, tkC_fr (fun s k h1 h2 _ => o10 s k h1 h2) k3.2.2.2.2.1, (n4 40 27 (by omega)).trans w27, tkM_fr (fun k _ => (n4 57 k (by omega)).trans (w57 k)) htm, Nat.le_refl _, by omega, ⟨⟨o4, o5, o6, o7, by show 4 < 5; omega, fun z => absurd rfl z, fun _ => ⟨by show pk T L (j0 + 1) - 48 < 3; omega, by show pk T L (j0 + 1 + 2) - 48 < 3; omega⟩⟩, trivial⟩, ⟨⟨(n4 52 _ (by omega)).trans w52, (p_at _ _ _ _).trans l4, fun _ => (n4 53 _ (by omega)).trans w53, fun z => absurd rfl z, by show 4 < 5; omega, fun _ => ⟨by show pk T L (j0 + 1) - 48 < 3; omega, by show pk T L (j0 + 1 + 2) - 48 < 3; omega⟩⟩, trivial⟩, fun z => absurd rfl z, d, v1, rfl⟩⟩
                  · rw [stepC, k2, Option.bind_some]
                    dsimp only
                    rw [if_pos (nI_pos' (by omega)), ref_p hx k3]
                    dsimp only
                    rw [if_pos hp5, o1, Option.bind_some, Option.bind_some]
                    dsimp only
                    rw [if_neg one_ne]
                  · rw [stepM, l2, Option.bind_some]
                    dsimp only
                    rw [if_neg one_ne, if_pos (show w7.1 (52, 0, 0) (10 * p + c) = (4 : Int32) from w52)]
                · rw [k1] at l1
                  cases l1
              · rcases n_num hx g5 with ⟨d', j', w7, l1, -⟩ | ⟨l1, l2⟩
                · rw [k1] at l1
                  cases l1
                · refine ⟨u6, w6, j0 + 1 + 2 + 2, g5.2.2.2.2, g3.2.1, g5.2.2.2.1, gc g3, ew4, Or.inl ⟨?_, ?_⟩⟩
                  · rw [stepC, k2, Option.bind_some]
                    rfl
                  · rw [stepM, l2, Option.bind_some]
                    rfl
        · -- a rule
          have n4' : ¬ nI kd = (4 : Int32) := fun z => h4 ((nI_eq (b := 4) (by omega) (by omega)).mp z)
          rw [if_neg n4'] at stepC stepM
          rw [ref_p hx e2] at stepC
          dsimp only at stepC
          rw [if_pos hp5] at stepC
          rcases c_num hx e2 with ⟨d, j, u3, k1, k2, k3⟩ | ⟨k1, k2⟩
          · obtain ⟨v1, v2, v3⟩ := nmT_lt k1
            rcases n_num hx hm2 with ⟨d', j', w3, l1, l2, l3, l4, l5⟩ | ⟨l1, -⟩
            · rw [k1] at l1
              cases l1
              have ew3 : eqx (gKm p c ts.length) w w3 := (ew1.tr ew2).tr (l5.mono (fun _ _ => g17_Km))
              have w52 : w3.1 (52, 0, 0) (10 * p + c) = nI kd := by
                rw [l5.1 _ _ rfl, n5 52 _ (by omega)]
                exact h52
              rw [k2, Option.bind_some] at stepC
              dsimp only at stepC
              rw [if_neg (nI_pos (by omega))] at stepC
              rw [l2, Option.bind_some] at stepM
              dsimp only at stepM
              rw [if_neg one_ne, w52, if_neg n4'] at stepM
              have n6 : ∀ s k, s ≠ 54 → (pi w3 (54, 0, 0) (10 * p + c) (w3.1 (40, 0, 0) 17)).1 (s, 0, 0) k = w3.1 (s, 0, 0) k := fun s k hs => by rw [p_i, if_neg (fun z => hs (congrArg Prod.fst z.2))]
              have ew4 : eqx (gKm p c ts.length) w (pi w3 (54, 0, 0) (10 * p + c) (w3.1 (40, 0, 0) 17)) := ew3.pi (by simp [gKm])
              have v54 : (pi w3 (54, 0, 0) (10 * p + c) (w3.1 (40, 0, 0) 17)).1 (54, 0, 0) (10 * p + c) = nI d := (p_at _ _ _ _).trans l4
              have hm3 : MWs (pi w3 (54, 0, 0) (10 * p + c) (w3.1 (40, 0, 0) 17)) L T j := MWs_fr (g := gKm p c ts.length) l3 (eqx.rf.pi (by simp [gKm])) rfl (fun _ => rfl) (fun _ => rfl) ((n6 40 16 (by omega)).trans l3.2.2.2.1) l3.2.2.2.2
              have w27 : (pi w3 (54, 0, 0) (10 * p + c) (w3.1 (40, 0, 0) 17)).1 (40, 0, 0) 27 = nI (100 * p + ts.length) := by
                rw [n6 40 _ (by omega), l5.1 _ _ rfl, n5 40 _ (by omega), ew.1 _ _ rfl]
                exact h27
              have w57 : ∀ k, (pi w3 (54, 0, 0) (10 * p + c) (w3.1 (40, 0, 0) 17)).1 (57, 0, 0) k = w.1 (57, 0, 0) k := fun k => by
                rw [n6 57 _ (by omega), l5.1 _ _ rfl, n5 57 _ (by omega), ew.1 _ _ rfl]
              have v52 : (pi w3 (54, 0, 0) (10 * p + c) (w3.1 (40, 0, 0) 17)).1 (52, 0, 0) (10 * p + c) = nI kd := (n6 52 _ (by omega)).trans w52
              generalize pi w3 (54, 0, 0) (10 * p + c) (w3.1 (40, 0, 0) 17) = w4 at stepM ew4 v54 hm3 w27 w57 v52
              rcases c_tk hx k3 (c := 32) (by omega) with ⟨t1, u4, t2, t3⟩ | ⟨t1, t2⟩
              · have t2 : f_X6_take (32 : Int32) u3 = some (1, u4) := t2
                rcases n_tk hx hm3 (c := 32) (by omega) with ⟨-, w5, s1, s2, s3⟩ | ⟨s1, -⟩
                · have s1 : f_X10_takesSign (32 : Int32) w4 = some (1, w5) := s1
                  rw [t2, Option.bind_some] at stepC
                  dsimp only at stepC
                  rw [if_neg one_ne] at stepC
                  rw [s1, Option.bind_some] at stepM
                  dsimp only at stepM
                  rw [if_neg one_ne] at stepM
                  have ew5 : eqx (gKm p c ts.length) w w5 := ew4.tr (s3.mono (fun _ _ => g17_Km))
                  obtain ⟨r, u5, w6, E1, E2, E3, E4, E5⟩ := E_ok (c := 10 * p + c) hx (by omega) (by omega) (show 1 ≤ j + 1 by omega) t3 s2 ((s3.1 _ _ rfl).trans w27) (tkM_fr (fun k _ => (s3.1 _ _ rfl).trans (w57 k)) htm) (by omega)
                  rw [E1, Option.bind_some] at stepC
                  rw [E2, Option.bind_some] at stepM
                  dsimp only at stepC stepM
                  have eu5 : eqx (gKc p c ts.length) u u5 := (gc t3).tr (E3.mono (fun _ _ => gE_Kc))
                  have ew6 : eqx (gKm p c ts.length) w w6 := ew5.tr (E4.mono (fun _ _ => gEM_Km))
                  rcases E5 with ⟨rfl, j2, E6, E7, E8⟩ | ⟨rfl, j2, new, E6, E7, E8, E9, E10, E11, E12, E13, E14, E15, E16, E17⟩
                  · rw [if_pos rfl] at stepC stepM
                    exact ⟨u5, w6, j2, E6, E7, E8, eu5, ew6, Or.inl ⟨stepC, stepM⟩⟩
                  · rw [if_neg one_ne] at stepC stepM
                    rw [show u5.2.2 0 = some p from (E3.2.2 _ rfl).trans (ref_p hx t3)] at stepC
                    dsimp only at stepC
                    rw [if_pos hp5, e2.2.2.2.1, E10] at stepC
                    have u110 : u5.1 (11, p, 0) 0 = nI c := (E3.1 _ _ (by simp [gE])).trans ((t3.1.1 _ _ (by simp [gE])).trans hu110)
                    obtain ⟨u8, o1, o2, o3, o4, o5, o6, o7, o8, o9, o10⟩ := c_addCl (p := p) (c := c) (nI kd) (nI d) (nI ts.length) (nI (ts ++ new).length) ts.length u110 hc10
                    rw [o1, Option.bind_some] at stepC
                    have e5 : ∀ s k, s = 52 ∨ s = 54 → w6.1 (s, 0, 0) k = w4.1 (s, 0, 0) k := fun s k hs => by
                      rw [E4.1 _ _ (by rcases hs with rfl | rfl <;> rfl), s3.1 _ _ (by rcases hs with rfl | rfl <;> rfl)]
                    have htk : tkC u8 p 0 (ts ++ new) := tkC_fr (fun s k h1 h2 _ => o10 s k h1 h2) E11
                    have hsp := (tkC_app.mp htk).2
                    rw [Nat.zero_add] at hsp
                    have hsm := (tkM_app.mp E13).2
                    have hll : (ts ++ new).length = ts.length + new.length := List.length_append
                    refine ⟨u8, w6, j2, E7, (o8 2).trans E8, E9, eu5.tr o2, ew6, Or.inr ⟨stepC, stepM, (kd, nI d, (ts.length, (ts ++ new).length), new), ts ++ new, o3, o9.trans E10, htk, E12, E13, by omega, E17, ⟨⟨o4, o5, o6, o7, hkd, fun _ => ⟨hll, by show (ts ++ new).length ≤ 100; omega, hsp, E16⟩, fun z => absurd z h4⟩, trivial⟩, ⟨⟨(e5 52 _ (Or.inl rfl)).trans v52, (e5 54 _ (Or.inr rfl)).trans v54, fun z => absurd z h4, fun _ => ⟨E14, E15, hll, by show (ts ++ new).length ≤ 100; omega, hsm, E16⟩, hkd, fun z => absurd z h4⟩, trivial⟩, fun _ => Nat.le_refl _, d, v1, rfl⟩⟩
                · exact absurd t1 s1
              · have t2 : f_X6_take (32 : Int32) u3 = some (0, u3) := t2
                rcases n_tk hx hm3 (c := 32) (by omega) with ⟨s1, -⟩ | ⟨-, s1⟩
                · exact absurd s1 t1
                · have s1 : f_X10_takesSign (32 : Int32) w4 = some (0, w4) := s1
                  refine ⟨u3, w4, j, hm3.2.2.2.2, k3.2.1, hm3.2.2.2.1, gc k3, ew4, Or.inl ⟨?_, ?_⟩⟩
                  · rw [stepC, t2, Option.bind_some]
                    rfl
                  · rw [stepM, s1, Option.bind_some]
                    rfl
            · rw [k1] at l1
              cases l1
          · rcases n_num hx hm2 with ⟨d', j', w7, l1, -⟩ | ⟨l1, l2⟩
            · rw [k1] at l1
              cases l1
            · refine ⟨u2, _, j0 + 1, hm2.2.2.2.2, e2.2.1, hm2.2.2.2.1, gc e2, ew1.tr ew2, Or.inl ⟨?_, ?_⟩⟩
              · rw [stepC, k2, Option.bind_some]
                rfl
              · rw [stepM, l2, Option.bind_some]
                rfl
      · exact absurd d2 e1
    · have d2 := d2.resolve_left (by rw [c1]; simp)
      rcases c_tk hx c3 (c := 32) (by omega) with ⟨e1, -⟩ | ⟨-, e1⟩
      · exact absurd e1 d2
      · have e1 : f_X6_take (32 : Int32) u1 = some (0, u1) := e1
        refine ⟨u1, w1, j0, m1, c3.2.1, d4.2.2.2.1, gc c3, ew1, Or.inl ⟨?_, ?_⟩⟩
        · rw [stepC, c2, Option.bind_some]
          dsimp only
          rw [if_neg (nI_pos (by omega)), e1, Option.bind_some]
          rfl
        · rw [stepM, if_pos rfl]
  · rcases hD with ⟨d1, -⟩ | ⟨-, rfl, d4⟩
    · rw [c1] at d1
      cases d1
    · refine ⟨u1, w1, j0, m1, c3.2.1, d4.2.2.2.1, gc c3, ew1, Or.inl ⟨?_, ?_⟩⟩
      · rw [stepC, c2, Option.bind_some]
        rfl
      · rw [stepM, if_pos rfl]
end TXT
