/-! a text, a land, on both sides -/
theorem clC_app {u : PM} {p : Nat} : ∀ {cs cs' : List Cl} {a : Nat}, clC u p a cs → clC u p (a + cs.length) cs' → clC u p a (cs ++ cs')
  | [], cs', a, _, h => h
  | x :: cs, cs', a, h, h' => ⟨h.1, clC_app h.2 (by rw [show a + 1 + cs.length = a + (x :: cs).length by rw [List.length_cons]; omega]; exact h')⟩
theorem clM_app {w : PM} {p : Nat} : ∀ {cs cs' : List Cl} {a : Nat}, clM w p a cs → clM w p (a + cs.length) cs' → clM w p a (cs ++ cs')
  | [], cs', a, _, h => h
  | x :: cs, cs', a, h, h' => ⟨h.1, clM_app h.2 (by rw [show a + 1 + cs.length = a + (x :: cs).length by rw [List.length_cons]; omega]; exact h')⟩
theorem clC_fr {u u' : PM} {p B : Nat} (h16 : ∀ s k, 16 ≤ s → s ≤ 18 → k < B → u'.1 (s, p, 0) k = u.1 (s, p, 0) k) : ∀ {cs : List Cl} {a : Nat}, (∀ s k, 12 ≤ s → s ≤ 15 → k < a + cs.length → u'.1 (s, p, 0) k = u.1 (s, p, 0) k) → (∀ x, x ∈ cs → x.1 ≠ 4 → x.2.2.1.2 ≤ B) → clC u p a cs → clC u' p a cs
  | [], _, _, _, _ => trivial
  | x :: cs, a, h12, hb, ⟨⟨a1, a2, a3, a4, a5, a6, a7⟩, r⟩ => ⟨⟨(h12 _ _ (by omega) (by omega) (by simp)).trans a1, (h12 _ _ (by omega) (by omega) (by simp)).trans a2, (h12 _ _ (by omega) (by omega) (by simp)).trans a3, (h12 _ _ (by omega) (by omega) (by simp)).trans a4, a5, fun z => by
      obtain ⟨b1, b2, b3, b4⟩ := a6 z
      have := hb x List.mem_cons_self z
      exact ⟨b1, b2, tkC_fr (fun s k h1 h2 h3 => h16 s k h1 h2 (by omega)) b3, b4⟩, a7⟩, clC_fr h16 (fun s k h1 h2 h3 => h12 s k h1 h2 (by rw [List.length_cons]; omega)) (fun y hy => hb y (List.mem_cons_of_mem _ hy)) r⟩
theorem clM_fr {w w' : PM} {p B : Nat} (h57 : ∀ k, k < 100 * p + B → w'.1 (57, 0, 0) k = w.1 (57, 0, 0) k) : ∀ {cs : List Cl} {a : Nat}, (∀ s k, 52 ≤ s → s ≤ 56 → 10 * p ≤ k → k < 10 * p + (a + cs.length) → w'.1 (s, 0, 0) k = w.1 (s, 0, 0) k) → (∀ x, x ∈ cs → x.1 ≠ 4 → x.2.2.1.2 ≤ B) → clM w p a cs → clM w' p a cs
  | [], _, _, _, _ => trivial
  | x :: cs, a, h52, hb, ⟨⟨a1, a2, a3, a4, a5⟩, r⟩ => ⟨⟨(h52 _ _ (by omega) (by omega) (by omega) (by simp)).trans a1, (h52 _ _ (by omega) (by omega) (by omega) (by simp)).trans a2, fun z => (h52 _ _ (by omega) (by omega) (by omega) (by simp)).trans (a3 z), fun z => by
      obtain ⟨b1, b2, b3, b4, b5, b6⟩ := a4 z
      have := hb x List.mem_cons_self z
      exact ⟨(h52 _ _ (by omega) (by omega) (by omega) (by simp)).trans b1, (h52 _ _ (by omega) (by omega) (by omega) (by simp)).trans b2, b3, b4, tkM_fr (fun k hk => h57 k (by omega)) b5, b6⟩, a5⟩, clM_fr h57 (fun s k h1 h2 h3 h4 => h52 s k h1 h2 h3 (by rw [List.length_cons]; omega)) (fun y hy => hb y (List.mem_cons_of_mem _ hy)) r⟩
def gTc (p : Nat) (q : Key) (k : Nat) : Bool := (q.1 == 9 && k == 2) || (11 ≤ q.1 && q.1 ≤ 18 && q.2.1 == p)
def gTm (p : Nat) (q : Key) (k : Nat) : Bool := (q.1 == 40 && (k == 16 || k == 17 || k == 27 || k == 28 || k == 29)) || q.1 == 58 || (q.1 == 51 && k == p) || (52 ≤ q.1 && q.1 ≤ 56 && decide (10 * p ≤ k) && decide (k < 10 * p + 10)) || (q.1 == 57 && decide (100 * p ≤ k) && decide (k < 100 * p + 100))
theorem gKc_T {p c g0 : Nat} {q : Key} {k : Nat} (h : gTc p q k = false) : gKc p c g0 q k = false := by
  unfold gTc at h
  unfold gKc
  simp only [Bool.or_eq_false_iff, beq_eq_false_iff_ne, Bool.and_eq_false_iff, decide_eq_false_iff_not] at h ⊢
  omega
theorem gKm_T {p c g0 : Nat} (hc : c < 10) {q : Key} {k : Nat} (h : gTm p q k = false) : gKm p c g0 q k = false := by
  unfold gTm at h
  unfold gKm
  simp only [Bool.or_eq_false_iff, beq_eq_false_iff_ne, Bool.and_eq_false_iff, decide_eq_false_iff_not] at h ⊢
  omega
theorem g17_T {p : Nat} {q : Key} {k : Nat} (h : gTm p q k = false) : g17 q k = false := by
  unfold gTm at h
  unfold g17
  simp only [Bool.or_eq_false_iff, beq_eq_false_iff_ne, Bool.and_eq_false_iff, decide_eq_false_iff_not] at h ⊢
  omega
theorem text_loop {u0 w0 : PM} {p L : Nat} {T : Nat → Nat} (hx0 : Ctx u0 w0 p L T) (h59 : ∀ k, k < 19 → w0.1 (59, 0, 0) k = wlA.getD k 0) : ∀ (n c i : Nat) (cs : List Cl) (ts : List Tok) (u w : PM), cs.length = c → c < 10 → 10 < n + c → eqx (gTc p) u0 u → eqx (gTm p) w0 w → u.1 (9, 0, 0) 2 = nI i → i ≤ L → u.1 (11, p, 0) 0 = nI c → u.1 (11, p, 0) 1 = nI ts.length → tkC u p 0 ts → w.1 (40, 0, 0) 16 = nI i → w.1 (40, 0, 0) 27 = nI (100 * p + ts.length) → tkM w (100 * p) ts → ts.length ≤ i → clC u p 0 cs → clM w p 0 cs → (∀ x, x ∈ cs → x.1 ≠ 4 → x.2.2.1.2 ≤ ts.length) → amK cs →
    ∃ (e : (Int32 × PM) ⊕ PM) (e' : (Int32 × PM) ⊕ PM), am_loop f_X6_parse_L34 n (nI (c + 1), u) = some e ∧ am_loop (f_X10_goesText_L15 (nI p)) n (nI c, w) = some e' ∧ ∃ u' w', eqx (gTc p) u0 u' ∧ eqx (gTm p) w0 w' ∧
      ((e = .inl ((0 : Int32), u') ∧ (e' = .inl ((0 : Int32), w') ∨ e' = .inr w') ∧ ∃ j, j ≤ L ∧ u'.1 (9, 0, 0) 2 = nI j ∧ w'.1 (40, 0, 0) 16 = nI j) ∨
       (e = .inl ((1 : Int32), u') ∧ e' = .inl ((1 : Int32), w') ∧ ∃ cs' : List Cl, LandC u' p cs' ∧ LandM w' p cs' ∧ amK cs'))
  | 0, c, i, cs, ts, u, w, _, h1, h2, _, _, _, _, _, _, _, _, _, _, _, _, _, _, _ => by omega
  | n + 1, c, i, cs, ts, u, w, hlc, hc10, hn, eu, ew, hu2, hiL, hu110, hu11, htc, hw16, h27, htm, hlen, hcC, hcM, hbd, hk => by
    have hp5 := hx0.2.1
    have hLL := hx0.1
    have hx : Ctx u w p L T := ⟨hLL, hp5, (eu.2.2 _ rfl).trans hx0.2.2.1, (eu.1 _ _ rfl).trans hx0.2.2.2.1, (ew.1 _ _ rfl).trans hx0.2.2.2.2.1, fun k hk' => ⟨(hx0.2.2.2.2.2 k hk').1, (eu.1 _ _ rfl).trans (hx0.2.2.2.2.2 k hk').2.1, (ew.1 _ _ rfl).trans (hx0.2.2.2.2.2 k hk').2.2⟩⟩
    have hm : MWs w L T i := ⟨hx.2.2.2.2.1, fun k hk' => (hx.2.2.2.2.2 k hk').2.2, fun k hk' => (ew.1 _ _ rfl).trans (h59 k hk'), hw16, hiL⟩
    obtain ⟨u1, w1, j, a1, a2, a3, a4, a5, a6⟩ := clause_ok hx hc10 hu2 hiL hu110 hu11 htc hm h27 htm hlen
    have eu1 : eqx (gTc p) u0 u1 := eu.tr (a4.mono (fun _ _ => gKc_T))
    have ew1 : eqx (gTm p) w0 w1 := ew.tr (a5.mono (fun _ _ => gKm_T hc10))
    have stepM : f_X10_goesText_L15 (nI p) (nI c, w) = (f_X10_takesClause (nI (10 * p + c)) w).bind (fun (x : Int32 × PM) => if x.1 = 0 then some (.inr (.inl ((0 : Int32), x.2))) else if (x.2.1 (40, 0, 0) 16) = (x.2.1 (40, 0, 0) 15) then some (.inr (.inl ((1 : Int32), (pi x.2 (51, 0, 0) p (nI (c + 1)))))) else if nI (c + 1) = (10 : Int32) then some (.inr (.inr ((pi x.2 (51, 0, 0) p (nI (c + 1)))))) else (f_X10_takesSign (59 : Int32) (pi x.2 (51, 0, 0) p (nI (c + 1)))).bind (fun (y : Int32 × PM) => if y.1 = 0 then some (.inr (.inr y.2)) else some (.inl (nI (c + 1), y.2)))) := by
      unfold f_X10_goesText_L15
      dsimp only
      rw [L_10, pk_mul, nI_add, nI_1]
      have nb : ¬ (nI p < 0 ∨ 5 ≤ p) := fun z => z.elim (nI_pos (by omega)) (by omega)
      simp only [nI_clamp (show p < 2 ^ 31 by omega), if_neg nb]
      try rfl
    rcases a6 with ⟨b1, b2⟩ | ⟨b1, b2, x, ts', b3, b4, b5, b6, b7, b8, b9, b10, b11, b12, b13⟩
    · refine ⟨_, _, am_loop_e (e := .inl ((0 : Int32), u1)) b1, am_loop_e (e := .inl ((0 : Int32), w1)) ?_, u1, w1, eu1, ew1, Or.inl ⟨rfl, Or.inl rfl, j, a1, a2, a3⟩⟩
      rw [stepM, b2, Option.bind_some]
      dsimp only
      rw [if_pos rfl]
    · rw [b2, Option.bind_some] at stepM
      dsimp only at stepM
      rw [if_neg one_ne, a3, show w1.1 (40, 0, 0) 15 = nI L from (ew1.1 _ _ rfl).trans hx0.2.2.2.2.1] at stepM
      -- what stands of the clauses before
      have kC : clC u1 p 0 cs := clC_fr (B := ts.length) (fun s k h1 h2 h3 => a4.1 _ _ (by
          unfold gKc
          simp only [Bool.or_eq_false_iff, beq_eq_false_iff_ne, Bool.and_eq_false_iff, decide_eq_false_iff_not]
          omega)) (fun s k h1 h2 h3 => a4.1 _ _ (by
          unfold gKc
          simp only [Bool.or_eq_false_iff, beq_eq_false_iff_ne, Bool.and_eq_false_iff, decide_eq_false_iff_not]
          omega)) hbd hcC
      have kM : clM w1 p 0 cs := clM_fr (B := ts.length) (fun k h3 => a5.1 _ _ (by
          unfold gKm
          simp only [Bool.or_eq_false_iff, beq_eq_false_iff_ne, Bool.and_eq_false_iff, decide_eq_false_iff_not]
          omega)) (fun s k h1 h2 h3 h4 => a5.1 _ _ (by
          unfold gKm
          simp only [Bool.or_eq_false_iff, beq_eq_false_iff_ne, Bool.and_eq_false_iff, decide_eq_false_iff_not]
          omega)) hbd hcM
      have nC : clC u1 p 0 (cs ++ [x]) := clC_app kC (by rw [hlc, Nat.zero_add]; exact b10)
      have nM : clM w1 p 0 (cs ++ [x]) := clM_app kM (by rw [hlc, Nat.zero_add]; exact b11)
      have nl : (cs ++ [x]).length = c + 1 := by rw [List.length_append, hlc]; rfl
      have nk : amK (cs ++ [x]) := fun y hy => by
        rcases List.mem_append.mp hy with h | h
        · exact hk y h
        · rw [List.mem_singleton.mp h]
          exact b13
      have nb : ∀ y, y ∈ cs ++ [x] → y.1 ≠ 4 → y.2.2.1.2 ≤ ts'.length := fun y hy hz => by
        rcases List.mem_append.mp hy with h | h
        · exact Nat.le_trans (hbd y h hz) b8
        · rw [List.mem_singleton.mp h] at hz ⊢
          exact b12 hz
      have q51 : ∀ s k, s ≠ 51 → (pi w1 (51, 0, 0) p (nI (c + 1))).1 (s, 0, 0) k = w1.1 (s, 0, 0) k := fun s k hs => by rw [p_i, if_neg (fun z => hs (congrArg Prod.fst z.2))]
      have ew2 : eqx (gTm p) w0 (pi w1 (51, 0, 0) p (nI (c + 1))) := ew1.pi (by simp [gTm])
      have nM2 : clM (pi w1 (51, 0, 0) p (nI (c + 1))) p 0 (cs ++ [x]) := clM_fr (B := ts'.length) (fun k _ => q51 57 k (by omega)) (fun s k h1 h2 _ _ => q51 s k (by omega)) nb nM
      have v51 : (pi w1 (51, 0, 0) p (nI (c + 1))).1 (51, 0, 0) p = nI (c + 1) := p_at _ _ _ _
      have m2 : MWs (pi w1 (51, 0, 0) p (nI (c + 1))) L T j := ⟨(ew2.1 _ _ rfl).trans hx0.2.2.2.2.1, fun k hk' => (ew2.1 _ _ rfl).trans (hx0.2.2.2.2.2 k hk').2.2, fun k hk' => (ew2.1 _ _ rfl).trans (h59 k hk'), (q51 40 16 (by omega)).trans a3, a1⟩
      have w27 : (pi w1 (51, 0, 0) p (nI (c + 1))).1 (40, 0, 0) 27 = nI (100 * p + ts'.length) := (q51 40 27 (by omega)).trans b6
      have w57 : tkM (pi w1 (51, 0, 0) p (nI (c + 1))) (100 * p) ts' := tkM_fr (fun k _ => q51 57 k (by omega)) b7
      generalize pi w1 (51, 0, 0) p (nI (c + 1)) = w2 at ew2 nM2 v51 m2 w27 w57 stepM
      have hx1 : Ctx u1 w2 p L T := ⟨hLL, hp5, (eu1.2.2 _ rfl).trans hx0.2.2.1, (eu1.1 _ _ rfl).trans hx0.2.2.2.1, m2.1, fun k hk' => ⟨(hx0.2.2.2.2.2 k hk').1, (eu1.1 _ _ rfl).trans (hx0.2.2.2.2.2 k hk').2.1, m2.2.1 k hk'⟩⟩
      have hcE : CE u1 u1 p ts'.length L j ts' := ⟨eqx.rf, a2, a1, b4, b5, Nat.le_refl _⟩
      unfold postC at b1
      rw [a2, show u1.1 (9, 0, 0) 1 = nI L from (eu1.1 _ _ rfl).trans hx0.2.2.2.1] at b1
      by_cases hj : j < L
      · rw [if_pos (nI_lt hj (by omega))] at b1
        rw [if_neg (fun z => by have := (nI_eq (by omega) (by omega)).mp z; omega)] at stepM
        by_cases hc9 : c + 1 = 10
        · rw [if_pos (show nI (c + 1) = (10 : Int32) by rw [hc9]; rfl)] at b1 stepM
          exact ⟨_, _, am_loop_e (e := .inl ((0 : Int32), u1)) b1, am_loop_e (e := .inr w2) stepM, u1, w2, eu1, ew2, Or.inl ⟨rfl, Or.inr rfl, j, a1, a2, m2.2.2.2.1⟩⟩
        · have n10 : ¬ nI (c + 1) = (10 : Int32) := fun z => by have := (nI_eq (b := 10) (by omega) (by omega)).mp z; omega
          rw [if_neg n10] at b1 stepM
          rcases c_tk hx1 hcE (c := 59) (by omega) with ⟨t1, u3, t2, t3⟩ | ⟨t1, t2⟩
          · rcases n_tk hx1 m2 (c := 59) (by omega) with ⟨-, w3, s1, s2, s3⟩ | ⟨s1, -⟩
            · rw [show f_X6_take (59 : Int32) u1 = _ from t2, Option.bind_some] at b1
              rw [show f_X10_takesSign (59 : Int32) w2 = _ from s1, Option.bind_some] at stepM
              dsimp only at b1 stepM
              rw [if_neg one_ne] at stepM b1
              rw [nI_1] at b1
              have eu3 : eqx (gTc p) u0 u3 := eu1.tr (t3.1.mono (fun _ _ z => gE_Kc (c := c) (gKc_T z)))
              have ew3 : eqx (gTm p) w0 w3 := ew2.tr (s3.mono (fun _ _ => g17_T))
              have k3C : clC u3 p 0 (cs ++ [x]) := clC_fr (B := ts'.length) (fun s k h1 h2 h3 => t3.1.1 _ _ (by
                  unfold gE
                  simp only [Bool.or_eq_false_iff, beq_eq_false_iff_ne, Bool.and_eq_false_iff, decide_eq_false_iff_not]
                  omega)) (fun s k h1 h2 h3 => t3.1.1 _ _ (by
                  unfold gE
                  simp only [Bool.or_eq_false_iff, beq_eq_false_iff_ne, Bool.and_eq_false_iff, decide_eq_false_iff_not]
                  omega)) nb nC
              have k3M : clM w3 p 0 (cs ++ [x]) := clM_fr (B := ts'.length) (fun k h3 => s3.1 _ _ rfl) (fun s k h1 h2 h3 h4 => s3.1 _ _ (by
                  unfold g17
                  simp only [beq_eq_false_iff_ne, Bool.and_eq_false_iff]
                  omega)) nb nM2
              obtain ⟨e, e', r1, r2, r3⟩ := text_loop hx0 h59 n (c + 1) (j + 1) (cs ++ [x]) ts' u3 w3 nl (by omega) (by omega) eu3 ew3 t3.2.1 t3.2.2.1 ((t3.1.1 _ _ (by simp [gE])).trans b3) t3.2.2.2.1 t3.2.2.2.2.1 s2.2.2.2.1 ((s3.1 _ _ rfl).trans w27) (tkM_fr (fun k _ => s3.1 _ _ rfl) w57) (by omega) k3C k3M nb nk
              exact ⟨e, e', (am_loop_s b1).trans r1, (am_loop_s stepM).trans r2, r3⟩
            · exact absurd t1 s1
          · rcases n_tk hx1 m2 (c := 59) (by omega) with ⟨s1, -⟩ | ⟨-, s1⟩
            · exact absurd s1 t1
            · rw [show f_X6_take (59 : Int32) u1 = _ from t2, Option.bind_some] at b1
              rw [show f_X10_takesSign (59 : Int32) w2 = _ from s1, Option.bind_some] at stepM
              dsimp only at b1 stepM
              rw [if_pos rfl] at b1 stepM
              exact ⟨_, _, am_loop_e (e := .inl ((0 : Int32), u1)) b1, am_loop_e (e := .inr w2) stepM, u1, w2, eu1, ew2, Or.inl ⟨rfl, Or.inr rfl, j, a1, a2, m2.2.2.2.1⟩⟩
      · rw [if_neg (nI_nlt (by omega) (by omega))] at b1
        rw [if_pos (show nI j = nI L by rw [show j = L by omega])] at stepM
        exact ⟨_, _, am_loop_e (e := .inl ((1 : Int32), u1)) b1, am_loop_e (e := .inl ((1 : Int32), w2)) stepM, u1, w2, eu1, ew2, Or.inr ⟨rfl, rfl, cs ++ [x], ⟨by rw [nl]; exact b3, by omega, nC⟩, ⟨by rw [nl]; exact v51, by omega, nM2⟩, nk⟩⟩
/-! what stands while a land is read -/
def gLc (n : Nat) (q : Key) (_ : Nat) : Bool := q.1 == 9 || (11 ≤ q.1 && q.1 ≤ 18 && q.2.1 == n) || (q.1 == 200 && q.2.1 == 0)
def gLm (n : Nat) (q : Key) (k : Nat) : Bool := gTm n q k || (q.1 == 40 && k == 15)
theorem LdM_land {w w' : PM} {n : Nat} (he : eqx (gLm n) w w') {x x' : Int32} (hx : x' = x) : ∀ {ld : Option (Nat × List Cl)}, (∀ y, ld = some y → y.1 < n) → LdM w x ld → LdM w' x' ld
  | none, _, y => hx.trans y
  | some y, hn, h => by
    have h1 := hn y rfl
    obtain ⟨a1, a2, a3, a4, a5⟩ := h
    refine ⟨hx.trans a1, a2, (he.1 _ _ ?_).trans a3, a4, ?_⟩
    · unfold gLm gTm
      simp only [Bool.or_eq_false_iff, beq_eq_false_iff_ne, Bool.and_eq_false_iff, decide_eq_false_iff_not]
      omega
    · have g57 : ∀ k, k < 100 * y.1 + 100 → w'.1 (57, 0, 0) k = w.1 (57, 0, 0) k := fun k hk => he.1 _ _ (by
        unfold gLm gTm
        simp only [Bool.or_eq_false_iff, beq_eq_false_iff_ne, Bool.and_eq_false_iff, decide_eq_false_iff_not]
        omega)
      have g52 : ∀ s k, 52 ≤ s → s ≤ 56 → k < 10 * y.1 + 10 → w'.1 (s, 0, 0) k = w.1 (s, 0, 0) k := fun s k h1 h2 hk => he.1 _ _ (by
        unfold gLm gTm
        simp only [Bool.or_eq_false_iff, beq_eq_false_iff_ne, Bool.and_eq_false_iff, decide_eq_false_iff_not]
        omega)
      have bd : ∀ {cs : List Cl} {a : Nat}, clM w y.1 a cs → ∀ z, z ∈ cs → z.1 ≠ 4 → z.2.2.1.2 ≤ 100 := by
        intro cs
        induction cs with
        | nil => intro a _ z hz; cases hz
        | cons c cs ih =>
          intro a h z hz h4
          rcases List.mem_cons.mp hz with rfl | hz
          · exact (h.1.2.2.2.1 h4).2.2.2.1
          · exact ih h.2 z hz h4
      exact clM_fr (B := 100) g57 (fun s k h1 h2 h3 h4 => g52 s k h1 h2 (by omega)) (bd a5) a5
theorem VlR_land {u u' w w' : PM} {v n : Nat} {ks : Ks} {k q1 q2 : Nat} (hu : eqx (gLc n) u u') (hw : eqx (gLm n) w w') (hk0 : ∀ x, x = ks.1.1 ∨ x = ks.1.2.1 ∨ x = ks.1.2.2.1 ∨ x = ks.1.2.2.2.1 ∨ x = ks.1.2.2.2.2 ∨ x = k → gLm n (40, 0, 0) x = false) (hks : ∀ s i, s = ks.2.1 ∨ s = ks.2.2.1 ∨ s = ks.2.2.2.1 ∨ s = ks.2.2.2.2.1 ∨ s = ks.2.2.2.2.2.1 ∨ s = ks.2.2.2.2.2.2.1 ∨ s = ks.2.2.2.2.2.2.2.1 ∨ s = ks.2.2.2.2.2.2.2.2.1 ∨ s = ks.2.2.2.2.2.2.2.2.2 ∨ s = q1 ∨ s = q2 → gLm n (s, 0, 0) i = false) (h : VlR u w v ks k q1 q2 n) : VlR u' w' v ks k q1 q2 n := by
  obtain ⟨V, N, ⟨a1, a2, a3, a4, a5, a6⟩, ⟨b1, b2, b3⟩, hk, ⟨⟨d1, d2, d3, d4⟩, d5, d6, d7⟩, ⟨e1, e2⟩⟩ := h
  have hld : ∀ y, V.2.2.2.2.2 = some y → y.1 < n := fun y hy => (hk.2.2.2 y hy).1
  have gs : ∀ s i f, s = 1 ∨ s = 3 ∨ s = 5 ∨ s = 6 ∨ s = 7 → gLc n (s, v, i) f = false := fun s i f hs => by
    rcases hs with rfl | rfl | rfl | rfl | rfl <;> rfl
  have gr : gLc n (200, v + 1, 0) 0 = false := by
    unfold gLc
    simp
  refine ⟨V, N, ⟨a1.trans (cF_kept hu (fun i f => gs 3 i f (by simp))).symm, a2.trans (cW_kept hu (fun i f => gs 5 i f (by simp))).symm, (hu.1 _ _ (gs 1 0 _ (by simp))).trans a3, (hu.1 _ _ (gs 1 0 _ (by simp))).trans a4, (hu.1 _ _ (gs 1 0 _ (by simp))).trans a5, ?_⟩, ⟨(hu.1 _ _ (gs 1 0 _ (by simp))).trans b1, b2, fun i hi => ⟨(hu.1 _ _ (gs 6 0 _ (by simp))).trans (b3 i hi).1, (hu.1 _ _ (gs 7 0 _ (by simp))).trans (b3 i hi).2⟩⟩, hk, ⟨⟨(hw.1 _ _ (hk0 _ (by simp))).trans d1, (hw.1 _ _ (hk0 _ (by simp))).trans d2, (hw.1 _ _ (hk0 _ (by simp))).trans d3, (hw.1 _ _ (hk0 _ (by simp))).trans d4⟩, fun i hi => ?_, fun a b ha hb => (hw.1 _ _ (hks _ _ (by simp))).trans (d6 a b ha hb), LdM_land hw (hw.1 _ _ (hk0 _ (by simp))) hld d7⟩, ⟨(hw.1 _ _ (hk0 _ (by simp))).trans e1, fun i hi => ⟨(hw.1 _ _ (hks _ _ (by simp))).trans (e2 i hi).1, (hw.1 _ _ (hks _ _ (by simp))).trans (e2 i hi).2⟩⟩⟩
  · rw [hu.2.2 _ gr]
    cases ho : u.2.2 (v + 1) with
    | none =>
      rw [ho] at a6
      cases hl : V.2.2.2.2.2 with
      | none => trivial
      | some y => rw [hl] at a6; exact a6
    | some pp =>
      rw [ho] at a6
      cases hl : V.2.2.2.2.2 with
      | none => rw [hl] at a6; exact a6
      | some y =>
        rw [hl] at a6
        have := hld y hl
        refine ⟨a6.1, a6.2.1, LandC_kept hu (fun s i h1 h2 => ?_) a6.2.2⟩
        have := a6.1
        unfold gLc
        simp only [Bool.or_eq_false_iff, beq_eq_false_iff_ne, Bool.and_eq_false_iff, decide_eq_false_iff_not]
        omega
  · obtain ⟨c1, c2, c3, c4, c5, c6, c7⟩ := d5 i hi
    exact ⟨(hw.1 _ _ (hks _ _ (by simp))).trans c1, (hw.1 _ _ (hks _ _ (by simp))).trans c2, (hw.1 _ _ (hks _ _ (by simp))).trans c3, (hw.1 _ _ (hks _ _ (by simp))).trans c4, (hw.1 _ _ (hks _ _ (by simp))).trans c5, fun z => ⟨(hw.1 _ _ (hks _ _ (by simp))).trans (c6 z).1, (hw.1 _ _ (hks _ _ (by simp))).trans (c6 z).2⟩, fun z => (hw.1 _ _ (hks _ _ (by simp))).trans (c7 z)⟩
theorem gLm_40 {n x : Nat} (h : x = 0 ∨ x = 1 ∨ x = 2 ∨ x = 3 ∨ x = 14 ∨ x = 46 ∨ (60 ≤ x ∧ x ≤ 66) ∨ x = 78 ∨ x = 13) : gLm n (40, 0, 0) x = false := by
  unfold gLm gTm
  simp only [Bool.or_eq_false_iff, beq_eq_false_iff_ne, Bool.and_eq_false_iff, decide_eq_false_iff_not]
  omega
theorem gLm_s {n s i : Nat} (h : (41 ≤ s ∧ s ≤ 49) ∨ (70 ≤ s ∧ s ≤ 92) ∨ s = 59) : gLm n (s, 0, 0) i = false := by
  unfold gLm gTm
  simp only [Bool.or_eq_false_iff, beq_eq_false_iff_ne, Bool.and_eq_false_iff, decide_eq_false_iff_not]
  omega
theorem VlR_up {u w : PM} {v n : Nat} {ks : Ks} {k q1 q2 : Nat} (h : VlR u w v ks k q1 q2 n) : VlR u w v ks k q1 q2 (n + 1) := by
  obtain ⟨V, N, a1, a2, a3, a4, a5⟩ := h
  exact ⟨V, N, a1, a2, ⟨a3.1, a3.2.1, a3.2.2.1, fun y hy => ⟨by have := (a3.2.2.2 y hy).1; omega, (a3.2.2.2 y hy).2⟩⟩, a4, a5⟩
theorem O_6 {u w : PM} (h : Rel u w) : ∃ r u' w', f_X9_land u = some (r, u') ∧ f_X10_land w = some (r, w') ∧ Rel u' w' := by
  obtain ⟨n, ⟨hn, hb1, hb2, hb3⟩, hV, hI, ⟨L, hL, hr1, hr2, hr3⟩, hT, hA⟩ := id h
  unfold f_X9_land f_X10_land
  rw [hb1, hb2, if_neg (nI_pos (by omega))]
  by_cases h5 : n = 5
  · subst h5
    rw [if_neg (show ¬ nI 5 < 5 by decide), if_pos (show nI 5 = 5 from rfl)]
    exact ⟨_, _, _, rfl, rfl, h⟩
  · have hn5 : n < 5 := by omega
    rw [if_pos (show nI n < (5 : Int32) from nI_lt (b := 5) hn5 (by omega)), if_neg (show ¬ nI n = (5 : Int32) from fun z => h5 ((nI_eq (b := 5) (by omega) (by omega)).mp z)), if_neg (nI_in hn5 (by omega)), nI_clamp (show n < 2 ^ 31 by omega)]
    -- the bytes
    have hTT : ∀ i, i < L → (u.1 (10, 0, 0) i).toNatClampNeg < 256 ∧ u.1 (10, 0, 0) i = nI (u.1 (10, 0, 0) i).toNatClampNeg ∧ w.1 (50, 0, 0) i = sB (u.1 (10, 0, 0) i).toNatClampNeg := fun i hi => by
      obtain ⟨b, h1, h2, h3⟩ := hr3 i hi
      rw [h2, nI_clamp (show b < 2 ^ 31 by omega)]
      exact ⟨h1, rfl, h3⟩
    have gTc11 : ∀ k, gLc n (11, n, 0) k = true := fun k => by simp [gLc]
    have eu1 : eqx (gLc n) u (pi (pi (pi (pr u 0 (some n)) (11, n, 0) 0 (0 : Int32)) (11, n, 0) 1 (0 : Int32)) (9, 0, 0) 2 (0 : Int32)) := (((eqx.rf.pr rfl).pi (gTc11 0)).pi (gTc11 1)).pi rfl
    have ew1 : eqx (gLm n) w (pi (pi w (40, 0, 0) 16 (0 : Int32)) (40, 0, 0) 27 ((100 : Int32) * nI n)) := (eqx.rf.pi rfl).pi rfl
    have n9 : ¬ ((11, n, 0) : Key) = (9, 0, 0) := fun z => by have z2 : 11 = 9 := congrArg Prod.fst z; omega
    have v110 : (pi (pi (pi (pr u 0 (some n)) (11, n, 0) 0 (0 : Int32)) (11, n, 0) 1 (0 : Int32)) (9, 0, 0) 2 (0 : Int32)).1 (11, n, 0) 0 = nI 0 := by
      rw [p_i, if_neg (fun z => n9 z.2), p_i, if_neg (by simp)]
      exact p_at _ _ _ _
    have v111 : (pi (pi (pi (pr u 0 (some n)) (11, n, 0) 0 (0 : Int32)) (11, n, 0) 1 (0 : Int32)) (9, 0, 0) 2 (0 : Int32)).1 (11, n, 0) 1 = nI 0 := by
      rw [p_i, if_neg (fun z => n9 z.2)]
      exact p_at _ _ _ _
    have v92 : (pi (pi (pi (pr u 0 (some n)) (11, n, 0) 0 (0 : Int32)) (11, n, 0) 1 (0 : Int32)) (9, 0, 0) 2 (0 : Int32)).1 (9, 0, 0) 2 = nI 0 := p_at _ _ _ _
    have v91 : (pi (pi (pi (pr u 0 (some n)) (11, n, 0) 0 (0 : Int32)) (11, n, 0) 1 (0 : Int32)) (9, 0, 0) 2 (0 : Int32)).1 (9, 0, 0) 1 = nI L := by
      have n9' : ¬ ((9, 0, 0) : Key) = (11, n, 0) := fun z => by have z2 : 9 = 11 := congrArg Prod.fst z; omega
      rw [p_i, if_neg (by simp), p_i, if_neg (fun z => n9' z.2), p_i, if_neg (fun z => n9' z.2)]
      exact hr1
    have vr : (pi (pi (pi (pr u 0 (some n)) (11, n, 0) 0 (0 : Int32)) (11, n, 0) 1 (0 : Int32)) (9, 0, 0) 2 (0 : Int32)).2.2 0 = some n := by
      show (if (0 : Nat) = 0 then some n else u.2.2 0) = some n
      rw [if_pos rfl]
    have w16 : (pi (pi w (40, 0, 0) 16 (0 : Int32)) (40, 0, 0) 27 ((100 : Int32) * nI n)).1 (40, 0, 0) 16 = nI 0 := by
      rw [p_i, if_neg (by simp)]
      exact p_at _ _ _ _
    have w27 : (pi (pi w (40, 0, 0) 16 (0 : Int32)) (40, 0, 0) 27 ((100 : Int32) * nI n)).1 (40, 0, 0) 27 = nI (100 * n + 0) := by
      rw [show (100 : Int32) * nI n = nI (100 * n + 0) by rw [L_100, pk_mul]; rfl]
      exact p_at _ _ _ _
    have w15 : (pi (pi w (40, 0, 0) 16 (0 : Int32)) (40, 0, 0) 27 ((100 : Int32) * nI n)).1 (40, 0, 0) 15 = nI L := by
      rw [p_i, if_neg (by simp), p_i, if_neg (by simp)]
      exact hr2
    unfold f_X6_parse f_X10_goesText
    generalize pi (pi (pi (pr u 0 (some n)) (11, n, 0) 0 (0 : Int32)) (11, n, 0) 1 (0 : Int32)) (9, 0, 0) 2 (0 : Int32) = u1 at eu1 v110 v111 v92 v91 vr ⊢
    generalize pi (pi w (40, 0, 0) 16 (0 : Int32)) (40, 0, 0) 27 ((100 : Int32) * nI n) = w1 at ew1 w16 w27 w15 ⊢
    have hx : Ctx u1 w1 n L (fun i => (u.1 (10, 0, 0) i).toNatClampNeg) := ⟨hL, hn5, vr, v91, w15, fun i hi => ⟨(hTT i hi).1, (eu1.1 _ _ rfl).trans (hTT i hi).2.1, (ew1.1 _ _ rfl).trans (hTT i hi).2.2⟩⟩
    obtain ⟨e, e', k1, k2, u', w', k3, k4, k5⟩ := text_loop hx (fun k hk => (ew1.1 _ _ (gLm_s (by omega))).trans (hb3 k hk)) 2000 0 0 [] [] u1 w1 rfl (by omega) (by omega) eqx.rf eqx.rf v92 (by omega) v110 v111 trivial w16 w27 trivial (by simp) trivial trivial (fun x hx => by cases hx) (fun x hx => by cases hx)
    have hu' : eqx (gLc n) u u' := eu1.tr (k3.mono (fun q k z => by
      unfold gLc at z
      unfold gTc
      simp only [Bool.or_eq_false_iff, beq_eq_false_iff_ne, Bool.and_eq_false_iff, decide_eq_false_iff_not] at z ⊢
      omega))
    have hw' : eqx (gLm n) w w' := ew1.tr (k4.mono (fun q k z => by
      unfold gLm at z
      simp only [Bool.or_eq_false_iff] at z
      exact z.1))
    rw [show am_loop f_X6_parse_L34 2000 ((1 : Int32), u1) = _ from k1, show am_loop (f_X10_goesText_L15 (nI n)) 2000 ((0 : Int32), w1) = _ from k2, Option.bind_some, Option.bind_some]
    -- the rest of the relation
    have hu2 : eqx (gLc n) u (pi u' (9, 0, 0) 1 (0 : Int32)) := hu'.pi rfl
    have hw2 : eqx (gLm n) w (pi w' (40, 0, 0) 15 (0 : Int32)) := hw'.pi (by simp [gLm])
    have rd : ∀ {u2 w2 : PM}, u2.1 (9, 0, 0) 1 = 0 → w2.1 (40, 0, 0) 15 = 0 → RdR u2 w2 := fun h1 h2 => ⟨0, by omega, h1, h2, fun i hi => by omega⟩
    have tp : ∀ {u2 w2 : PM}, (∀ t, u2.1 (32, t, 0) = u.1 (32, t, 0) ∧ u2.2.1 (33, t, 0) = u.2.1 (33, t, 0)) → (∀ s, s = 90 ∨ s = 91 → w2.1 (s, 0, 0) = w.1 (s, 0, 0)) → w2.2.1 (92, 0, 0) = w.2.1 (92, 0, 0) → TpR u2 w2 := fun h1 h2 h3 t ht => by
      obtain ⟨s, z, a1, a2, a3, a4, a5, a6, a7⟩ := hT t ht
      refine ⟨s, z, a1, a2, by rw [(h1 t).1]; exact a3, by rw [h2 90 (by simp)]; exact a4, by rw [(h1 t).1]; exact a5, by rw [h2 91 (by simp)]; exact a6, fun i hi => ?_⟩
      rw [(h1 t).2, h3]
      exact a7 i hi
    have ac : ∀ {u2 w2 : PM}, (∀ k, u2.1 (29, 0, 0) k = u.1 (29, 0, 0) k ∧ u2.1 (30, 0, 0) k = u.1 (30, 0, 0) k) → w2.1 (40, 0, 0) 78 = w.1 (40, 0, 0) 78 → (∀ k, w2.1 (89, 0, 0) k = w.1 (89, 0, 0) k) → AcR u2 w2 := fun h1 h2 h3 => by
      obtain ⟨r, a1, a2, a3, a4⟩ := hA
      refine ⟨r, a1, (h1 0).1.trans a2, h2.trans a3, fun i hi => ?_⟩
      rw [(h1 i).2, h3]
      exact a4 i hi
    have im : ImR (pi u' (9, 0, 0) 1 (0 : Int32)) (pi w' (40, 0, 0) 15 (0 : Int32)) n := by
      obtain ⟨b, a1, a2, a3⟩ := hI
      exact ⟨b, (hu2.1 _ _ rfl).trans a1, (hw2.1 _ _ (gLm_40 (by omega))).trans a2, fun z => VlR_land hu2 hw2 (fun x hx => gLm_40 (by simp only [kI] at hx; omega)) (fun s i hs => gLm_s (by simp only [kI] at hs; omega)) (a3 z)⟩
    have vl : VlR (pi u' (9, 0, 0) 1 (0 : Int32)) (pi w' (40, 0, 0) 15 (0 : Int32)) 0 kP 46 70 71 n := VlR_land hu2 hw2 (fun x hx => gLm_40 (by simp only [kP] at hx; omega)) (fun s i hs => gLm_s (by simp only [kP] at hs; omega)) hV
    have hb3' : ∀ i, i < 19 → (pi w' (40, 0, 0) 15 (0 : Int32)).1 (59, 0, 0) i = wlA.getD i 0 := fun i hi => (hw2.1 _ _ (gLm_s (by omega))).trans (hb3 i hi)
    have u6 : (pi u' (9, 0, 0) 1 (0 : Int32)).1 (0, 0, 0) 6 = nI n := (hu2.1 _ _ rfl).trans hb1
    have w13 : (pi w' (40, 0, 0) 15 (0 : Int32)).1 (40, 0, 0) 13 = nI n := (hw2.1 _ _ (gLm_40 (by omega))).trans hb2
    rcases k5 with ⟨rfl, k6, j, j1, j2, j3⟩ | ⟨rfl, rfl, cs, c1, c2, c3⟩
    · -- a fault
      have fail : Rel (pi u' (9, 0, 0) 1 (0 : Int32)) (pi w' (40, 0, 0) 15 (0 : Int32)) := ⟨n, ⟨hn, u6, w13, hb3'⟩, vl, im, rd (p_at _ _ _ _) (p_at _ _ _ _), tp (fun t => ⟨funext fun k => hu2.1 _ _ rfl, funext fun k => hu2.2.1 _ _ rfl⟩) (fun s hs => funext fun k => hw2.1 _ _ (gLm_s (by omega))) (funext fun k => hw2.2.1 _ _ (gLm_s (by omega))), ac (fun k => ⟨hu2.1 _ _ rfl, hu2.1 _ _ rfl⟩) (hw2.1 _ _ (gLm_40 (by omega))) (fun k => hw2.1 _ _ (gLm_s (by omega)))⟩
      dsimp only
      rw [Option.bind_some]
      dsimp only
      rw [if_pos rfl, j2]
      rcases k6 with rfl | rfl
      · dsimp only
        rw [Option.bind_some]
        dsimp only
        rw [if_pos rfl, j3]
        exact ⟨_, _, _, rfl, rfl, fail⟩
      · dsimp only
        rw [Option.bind_some]
        dsimp only
        rw [if_pos rfl, j3]
        exact ⟨_, _, _, rfl, rfl, fail⟩
    · dsimp only
      rw [Option.bind_some, Option.bind_some]
      dsimp only
      rw [if_neg one_ne, if_neg one_ne]
      have u6' : u'.1 (0, 0, 0) 6 = nI n := (hu'.1 _ _ rfl).trans hb1
      have w13' : w'.1 (40, 0, 0) 13 = nI n := (hw'.1 _ _ (gLm_40 (by omega))).trans hb2
      have lC : LandC (pi u' (9, 0, 0) 1 (0 : Int32)) n cs := LandC_kept (g := fun q _ => q.1 == 9) (eqx.rf.pi rfl) (fun s i h1 h2 => beq_eq_false_iff_ne.mpr (by show s ≠ 9; omega)) c1
      have lM : LandM (pi w' (40, 0, 0) 15 (0 : Int32)) n cs := by
        have q : ∀ s k, s ≠ 40 → (pi w' (40, 0, 0) 15 (0 : Int32)).1 (s, 0, 0) k = w'.1 (s, 0, 0) k := fun s k hs => by rw [p_i, if_neg (fun z => hs (congrArg Prod.fst z.2))]
        have y := LdM_L (w := w') (w' := pi w' (40, 0, 0) 15 (0 : Int32)) (g := fun q _ => q.1 == 40) (x := nI n) (x' := nI n) (ld := some (n, cs)) (eqx.rf.pi rfl) (fun s i h1 h2 => beq_eq_false_iff_ne.mpr (by show s ≠ 40; omega)) rfl ⟨rfl, hn5, c2⟩
        exact y.2.2
      rw [u6', w13', nI_1]
      generalize hU : pi u' (9, 0, 0) 1 (0 : Int32) = U at hu2 vl im lC u6 ⊢
      generalize hW : pi w' (40, 0, 0) 15 (0 : Int32) = W at hw2 vl im lM w13 hb3' ⊢
      have U9 : U.1 (9, 0, 0) 1 = 0 := by rw [← hU]; exact p_at _ _ _ _
      have W15 : W.1 (40, 0, 0) 15 = 0 := by rw [← hW]; exact p_at _ _ _ _
      have eU : eqx (fun q k => (q.1 == 0 && k == 6) || (q.1 == 200 && q.2.1 == 1)) U (pi (pr U 1 (some n)) (0, 0, 0) 6 (nI (n + 1))) := (eqx.rf.pr rfl).pi rfl
      have eW : eqx (fun q k => q.1 == 40 && (k == 13 || k == 14)) W (pi (pi W (40, 0, 0) 14 (nI n)) (40, 0, 0) 13 (nI (n + 1))) := (eqx.rf.pi rfl).pi rfl
      have r1 : (pi (pr U 1 (some n)) (0, 0, 0) 6 (nI (n + 1))).2.2 (0 + 1) = some n := by
        show (if (1 : Nat) = 1 then some n else U.2.2 1) = some n
        rw [if_pos rfl]
      have W14 : (pi (pi W (40, 0, 0) 14 (nI n)) (40, 0, 0) 13 (nI (n + 1))).1 (40, 0, 0) 14 = nI n := by
        rw [p_i, if_neg (by simp)]
        exact p_at _ _ _ _
      have W13 : (pi (pi W (40, 0, 0) 14 (nI n)) (40, 0, 0) 13 (nI (n + 1))).1 (40, 0, 0) 13 = nI (n + 1) := p_at _ _ _ _
      have U6 : (pi (pr U 1 (some n)) (0, 0, 0) 6 (nI (n + 1))).1 (0, 0, 0) 6 = nI (n + 1) := p_at _ _ _ _
      generalize pi (pr U 1 (some n)) (0, 0, 0) 6 (nI (n + 1)) = U2 at eU r1 U6 ⊢
      generalize pi (pi W (40, 0, 0) 14 (nI n)) (40, 0, 0) 13 (nI (n + 1)) = W2 at eW W14 W13 ⊢
      have eu : eqx (fun q k => gLc n q k || (q.1 == 0 && k == 6) || (q.1 == 200 && q.2.1 == 1)) u U2 := (hu2.mono (fun q k z => by simp only [Bool.or_eq_false_iff] at z; exact z.1.1)).tr (eU.mono (fun q k z => by simp only [Bool.or_eq_false_iff] at z ⊢; exact ⟨z.1.2, z.2⟩))
      refine ⟨_, U2, W2, rfl, rfl, n + 1, ⟨by omega, U6, W13, fun i hi => (eW.1 _ _ rfl).trans (hb3' i hi)⟩, ?_, ?_, rd ((eU.1 _ _ rfl).trans U9) ((eW.1 _ _ rfl).trans W15), tp (fun t => ⟨funext fun k => (eU.1 _ _ rfl).trans (hu2.1 _ _ rfl), funext fun k => (eU.2.1 _ _ rfl).trans (hu2.2.1 _ _ rfl)⟩) (fun s hs => funext fun k => (eW.1 _ _ (by rcases hs with rfl | rfl <;> rfl)).trans (hw2.1 _ _ (gLm_s (by omega)))) (funext fun k => (eW.2.1 _ _ rfl).trans (hw2.2.1 _ _ (gLm_s (by omega)))), ac (fun k => ⟨(eU.1 _ _ rfl).trans (hu2.1 _ _ rfl), (eU.1 _ _ rfl).trans (hu2.1 _ _ rfl)⟩) ((eW.1 _ _ rfl).trans (hw2.1 _ _ (gLm_40 (by omega)))) (fun k => (eW.1 _ _ rfl).trans (hw2.1 _ _ (gLm_s (by omega))))⟩
      · obtain ⟨V, N, ⟨a1, a2, a3, a4, a5, a6⟩, ⟨b1, b2, b3⟩, hk, ⟨⟨d1, d2, d3, d4⟩, d5, d6, d7⟩, ⟨e1, e2⟩⟩ := vl
        refine ⟨(V.1, V.2.1, V.2.2.1, V.2.2.2.1, V.2.2.2.2.1, some (n, cs)), N, ⟨a1.trans (cF_kept eU (fun _ _ => rfl)).symm, a2.trans (cW_kept eU (fun _ _ => rfl)).symm, (eU.1 _ _ rfl).trans a3, (eU.1 _ _ rfl).trans a4, (eU.1 _ _ rfl).trans a5, ?_⟩, ⟨(eU.1 _ _ rfl).trans b1, b2, fun i hi => ⟨(eU.1 _ _ rfl).trans (b3 i hi).1, (eU.1 _ _ rfl).trans (b3 i hi).2⟩⟩, ⟨hk.1, hk.2.1, hk.2.2.1, fun y hy => ?_⟩, ⟨⟨(eW.1 _ _ rfl).trans d1, (eW.1 _ _ rfl).trans d2, (eW.1 _ _ rfl).trans d3, (eW.1 _ _ rfl).trans d4⟩, fun i hi => ?_, fun a b ha hb => (eW.1 _ _ rfl).trans (d6 a b ha hb), ?_⟩, ⟨(eW.1 _ _ rfl).trans e1, fun i hi => ⟨(eW.1 _ _ rfl).trans (e2 i hi).1, (eW.1 _ _ rfl).trans (e2 i hi).2⟩⟩⟩
        · rw [r1]
          exact ⟨rfl, hn5, LandC_kept eU (fun s i h1 h2 => by
            simp only [Bool.or_eq_false_iff, beq_eq_false_iff_ne, Bool.and_eq_false_iff]
            omega) lC⟩
        · cases hy
          exact ⟨by show n < n + 1; omega, c3⟩
        · obtain ⟨c1, c2, c3, c4, c5, c6, c7⟩ := d5 i hi
          exact ⟨(eW.1 _ _ rfl).trans c1, (eW.1 _ _ rfl).trans c2, (eW.1 _ _ rfl).trans c3, (eW.1 _ _ rfl).trans c4, (eW.1 _ _ rfl).trans c5, fun z => ⟨(eW.1 _ _ rfl).trans (c6 z).1, (eW.1 _ _ rfl).trans (c6 z).2⟩, fun z => (eW.1 _ _ rfl).trans (c7 z)⟩
        · exact LdM_L (w := W) (w' := W2) (x := nI n) (ld := some (n, cs)) eW (fun s i h1 h2 => by
            simp only [beq_eq_false_iff_ne, Bool.and_eq_false_iff]
            omega) W14 ⟨rfl, hn5, lM⟩
      · obtain ⟨b, a1, a2, a3⟩ := im
        refine ⟨b, (eU.1 _ _ rfl).trans a1, (eW.1 _ _ rfl).trans a2, fun z => VlR_up ?_⟩
        obtain ⟨V, N, q1, ⟨b1, b2, b3⟩, hk, ⟨⟨d1, d2, d3, d4⟩, d5, d6, d7⟩, ⟨e1, e2⟩⟩ := a3 z
        refine ⟨V, N, RepC_kept eU (fun s hs i f => by rcases hs with rfl | rfl | rfl <;> rfl) (fun s p i h1 h2 => by
            simp only [Bool.or_eq_false_iff, beq_eq_false_iff_ne, Bool.and_eq_false_iff]
            omega) rfl q1, ⟨(eU.1 _ _ rfl).trans b1, b2, fun i hi => ⟨(eU.1 _ _ rfl).trans (b3 i hi).1, (eU.1 _ _ rfl).trans (b3 i hi).2⟩⟩, hk, ⟨⟨(eW.1 _ _ rfl).trans d1, (eW.1 _ _ rfl).trans d2, (eW.1 _ _ rfl).trans d3, (eW.1 _ _ rfl).trans d4⟩, fun i hi => ?_, fun a b ha hb => (eW.1 _ _ rfl).trans (d6 a b ha hb), LdM_L eW (fun s i h1 h2 => by
            simp only [beq_eq_false_iff_ne, Bool.and_eq_false_iff]
            omega) (eW.1 _ _ rfl) d7⟩, ⟨(eW.1 _ _ rfl).trans e1, fun i hi => ⟨(eW.1 _ _ rfl).trans (e2 i hi).1, (eW.1 _ _ rfl).trans (e2 i hi).2⟩⟩⟩
        obtain ⟨c1, c2, c3, c4, c5, c6, c7⟩ := d5 i hi
        exact ⟨(eW.1 _ _ rfl).trans c1, (eW.1 _ _ rfl).trans c2, (eW.1 _ _ rfl).trans c3, (eW.1 _ _ rfl).trans c4, (eW.1 _ _ rfl).trans c5, fun z => ⟨(eW.1 _ _ rfl).trans (c6 z).1, (eW.1 _ _ rfl).trans (c6 z).2⟩, fun z => (eW.1 _ _ rfl).trans (c7 z)⟩
