/-! clauses, sums, what a keeper does: on both sides -/
def clC (u : PM) (p : Nat) : Nat → List Cl → Prop
  | _, [] => True
  | c, x :: cs => (u.1 (12, p, 0) c = nI x.1 ∧ u.1 (13, p, 0) c = x.2.1 ∧ u.1 (14, p, 0) c = nI x.2.2.1.1 ∧ u.1 (15, p, 0) c = nI x.2.2.1.2 ∧ x.1 < 5 ∧ (x.1 ≠ 4 → x.2.2.1.2 = x.2.2.1.1 + x.2.2.2.length ∧ x.2.2.1.2 ≤ 100 ∧ tkC u p x.2.2.1.1 x.2.2.2 ∧ dpT x.2.2.2 0 = some 1) ∧ (x.1 = 4 → x.2.2.1.1 < 3 ∧ x.2.2.1.2 < 3)) ∧ clC u p (c + 1) cs
def LandC (u : PM) (p : Nat) (cs : List Cl) : Prop := u.1 (11, p, 0) 0 = nI cs.length ∧ cs.length ≤ 10 ∧ clC u p 0 cs
def clM (w : PM) (p : Nat) : Nat → List Cl → Prop
  | _, [] => True
  | c, x :: cs => (w.1 (52, 0, 0) (10 * p + c) = nI x.1 ∧ w.1 (54, 0, 0) (10 * p + c) = x.2.1 ∧ (x.1 = 4 → w.1 (53, 0, 0) (10 * p + c) = nI (3 * x.2.2.1.1 + x.2.2.1.2)) ∧ (x.1 ≠ 4 → w.1 (55, 0, 0) (10 * p + c) = nI (100 * p + x.2.2.1.1) ∧ w.1 (56, 0, 0) (10 * p + c) = nI (100 * p + x.2.2.1.2) ∧ x.2.2.1.2 = x.2.2.1.1 + x.2.2.2.length ∧ x.2.2.1.2 ≤ 100 ∧ tkM w (100 * p + x.2.2.1.1) x.2.2.2 ∧ dpT x.2.2.2 0 = some 1) ∧ x.1 < 5 ∧ (x.1 = 4 → x.2.2.1.1 < 3 ∧ x.2.2.1.2 < 3)) ∧ clM w p (c + 1) cs
def LandM (w : PM) (p : Nat) (cs : List Cl) : Prop := w.1 (51, 0, 0) p = nI cs.length ∧ cs.length ≤ 10 ∧ clM w p 0 cs
def LdC (u : PM) : Option Nat → Option (Nat × List Cl) → Prop
  | none, none => True
  | some p, some x => p = x.1 ∧ p < 5 ∧ LandC u p x.2
  | _, _ => False
def LdM (w : PM) (x : Int32) : Option (Nat × List Cl) → Prop
  | none => x = -1
  | some y => x = nI y.1 ∧ y.1 < 5 ∧ LandM w y.1 y.2
def RepC (u : PM) (v : Nat) (V : Vil) : Prop := V.1 = cF u v ∧ V.2.1 = cW u v ∧ u.1 (1, v, 0) 0 = nI V.2.2.1 ∧ u.1 (1, v, 0) 3 = V.2.2.2.1 ∧ u.1 (1, v, 0) 4 = V.2.2.2.2.1 ∧ LdC u (u.2.2 (v + 1)) V.2.2.2.2.2
/-- what holds of every village -/
def WF (V : Vil) : Prop := V.2.2.1 ≤ 6 ∧ (∀ h, h < 6 → V.1 h 1 = 0 ∨ V.1 h 1 = 1) ∧ (∀ h, h < V.2.2.1 → ∃ k, k < 7 ∧ V.1 h 2 = nI k) ∧ (∀ h, h < V.2.2.1 → V.1 h 5 = 0 ∨ ((V.1 h 5 = 1 ∨ V.1 h 5 = 2) ∧ ∃ g, g < V.2.2.1 ∧ V.1 h 7 = nI g)) ∧ (∀ a b, a < 6 → b < 6 → ∃ n, n < 10 ∧ V.2.1 a b = nI n) ∧ (∀ a b, a < 6 → b < 6 → V.2.1 a b = V.2.1 b a) ∧ (∀ a b, a < 6 → b < 6 → V.2.2.1 ≤ b → V.2.1 a b = 0)
def RMw (w : PM) (V : Vil) : Prop := w.1 (40, 0, 0) 0 = nI V.2.2.1 ∧ w.1 (40, 0, 0) 34 = nI (lit V.1 V.2.2.1) ∧ w.1 (40, 0, 0) 33 = V.2.2.2.2.1 ∧ (∀ h, h < V.2.2.1 → w.1 (62, 0, 0) h = V.1 h 0 ∧ w.1 (63, 0, 0) h = V.1 h 2 ∧ w.1 (64, 0, 0) h = V.1 h 3 ∧ w.1 (44, 0, 0) h = V.1 h 4) ∧ (∀ a b, a < V.2.2.1 → b < V.2.2.1 → w.1 (49, 0, 0) (6 * a + b) = V.2.1 a b) ∧ LdM w (w.1 (40, 0, 0) 14) V.2.2.2.2.2
/-- what may change of the reference while it looks at how an hour began -/
def gW (q : Key) (k : Nat) : Bool := !((q.1 == 40 && (k == 0 || k == 14 || k == 33 || k == 34)) || q.1 == 44 || q.1 == 49 || (51 ≤ q.1 && q.1 ≤ 57) || q.1 == 62 || q.1 == 63 || q.1 == 64)
theorem tkM_kept {w w' : PM} (h : eqx gW w w') : ∀ {ts : List Tok} {a : Nat}, tkM w a ts → tkM w' a ts
  | [], _, _ => trivial
  | _ :: _, _, x => ⟨(h.1 _ _ rfl).trans x.1, tkM_kept h x.2⟩
theorem clM_kept {w w' : PM} {p : Nat} (h : eqx gW w w') : ∀ {cs : List Cl} {c : Nat}, clM w p c cs → clM w' p c cs
  | [], _, _ => trivial
  | _ :: _, _, ⟨⟨a1, a2, a3, a4, a5⟩, r⟩ => ⟨⟨(h.1 _ _ rfl).trans a1, (h.1 _ _ rfl).trans a2, fun z => (h.1 _ _ rfl).trans (a3 z), fun z => by
      obtain ⟨b1, b2, b3, b4, b5, b6⟩ := a4 z
      exact ⟨(h.1 _ _ rfl).trans b1, (h.1 _ _ rfl).trans b2, b3, b4, tkM_kept h b5, b6⟩, a5⟩, clM_kept h r⟩
theorem LandM_kept {w w' : PM} {p : Nat} {cs : List Cl} (h : eqx gW w w') (x : LandM w p cs) : LandM w' p cs := ⟨(h.1 _ _ rfl).trans x.1, x.2.1, clM_kept h x.2.2⟩
theorem LdM_kept {w w' : PM} {x : Int32} (h : eqx gW w w') : ∀ {ld : Option (Nat × List Cl)}, LdM w x ld → LdM w' x ld
  | none, y => y
  | some _, y => ⟨y.1, y.2.1, LandM_kept h y.2.2⟩
theorem RMw_kept {w w' : PM} {V : Vil} (h : eqx gW w w') (x : RMw w V) : RMw w' V := by
  obtain ⟨a1, a2, a3, a4, a5, a6⟩ := x
  refine ⟨(h.1 _ _ rfl).trans a1, (h.1 _ _ rfl).trans a2, (h.1 _ _ rfl).trans a3, fun i hi => ?_, fun a b ha hb => (h.1 _ _ rfl).trans (a5 a b ha hb), ?_⟩
  · obtain ⟨b1, b2, b3, b4⟩ := a4 i hi
    exact ⟨(h.1 _ _ rfl).trans b1, (h.1 _ _ rfl).trans b2, (h.1 _ _ rfl).trans b3, (h.1 _ _ rfl).trans b4⟩
  · rw [show w'.1 (40, 0, 0) 14 = w.1 (40, 0, 0) 14 from h.1 _ _ rfl]
    exact LdM_kept h a6
theorem gP_W {q : Key} {k : Nat} (h : gW q k = false) : gP q k = false := by
  unfold gP
  rw [beq_eq_false_iff_ne]
  intro e
  unfold gW at h
  rw [e] at h
  cases h
def fcA (V : Vil) (h : Nat) (wt : Int32) (f : Nat) : Int32 :=
  if f = 0 then wt else if f = 1 then V.2.2.2.2.1 - V.2.2.2.2.1 / 24 * 24 else if f = 2 then nI h else if f = 3 then V.1 h 2 else if f = 4 then V.1 h 0 else nI (pop (lit V.1 V.2.2.1))
def sumL (F : Nat → Int32) (k : Nat) : List Cl → Int32 → Int32
  | [], s => s
  | x :: cs, s => sumL F k cs (if x.1 = k ∧ hoA F x.2.2.2 = true then s + x.2.1 else s)
def capA (k : Nat) (s : Int32) : Int32 := if k = 0 then (if 100 < s then 100 else s) else (if 99 < s then 99 else s)
def sumA (V : Vil) (k h : Nat) (wt : Int32) : Int32 := match V.2.2.2.2.2 with
  | none => 0
  | some y => capA k (sumL (fcA V h wt) k y.2 0)
def gF (q : Key) (_ : Nat) : Bool := q.1 == 8
theorem tkC_kept {g : Key → Nat → Bool} {u u' : PM} {p : Nat} (h : eqx g u u') (hg : ∀ s i, 11 ≤ s → s ≤ 18 → g (s, p, 0) i = false) : ∀ {ts : List Tok} {a : Nat}, tkC u p a ts → tkC u' p a ts
  | [], _, _ => trivial
  | _ :: _, _, x => ⟨(h.1 _ _ (hg _ _ (by omega) (by omega))).trans x.1, fun z => ⟨(h.1 _ _ (hg _ _ (by omega) (by omega))).trans (x.2.1 z).1, (h.1 _ _ (hg _ _ (by omega) (by omega))).trans (x.2.1 z).2⟩, tkC_kept h hg x.2.2⟩
theorem clC_kept {g : Key → Nat → Bool} {u u' : PM} {p : Nat} (h : eqx g u u') (hg : ∀ s i, 11 ≤ s → s ≤ 18 → g (s, p, 0) i = false) : ∀ {cs : List Cl} {c : Nat}, clC u p c cs → clC u' p c cs
  | [], _, _ => trivial
  | _ :: _, _, ⟨⟨a1, a2, a3, a4, a5, a6, a7⟩, r⟩ => ⟨⟨(h.1 _ _ (hg _ _ (by omega) (by omega))).trans a1, (h.1 _ _ (hg _ _ (by omega) (by omega))).trans a2, (h.1 _ _ (hg _ _ (by omega) (by omega))).trans a3, (h.1 _ _ (hg _ _ (by omega) (by omega))).trans a4, a5, fun z => by
      obtain ⟨b1, b2, b3, b4⟩ := a6 z
      exact ⟨b1, b2, tkC_kept h hg b3, b4⟩, a7⟩, clC_kept h hg r⟩
theorem LandC_kept {g : Key → Nat → Bool} {u u' : PM} {p : Nat} {cs : List Cl} (h : eqx g u u') (hg : ∀ s i, 11 ≤ s → s ≤ 18 → g (s, p, 0) i = false) (x : LandC u p cs) : LandC u' p cs := ⟨(h.1 _ _ (hg _ _ (by omega) (by omega))).trans x.1, x.2.1, clC_kept h hg x.2.2⟩
theorem LdC_kept {g : Key → Nat → Bool} {u u' : PM} (h : eqx g u u') (hg : ∀ s p i, 11 ≤ s → s ≤ 18 → g (s, p, 0) i = false) : ∀ {o : Option Nat} {ld : Option (Nat × List Cl)}, LdC u o ld → LdC u' o ld
  | none, none, _ => trivial
  | some _, some _, y => ⟨y.1, y.2.1, LandC_kept h (fun s i h1 h2 => hg s _ i h1 h2) y.2.2⟩
  | none, some _, y => y
  | some _, none, y => y
theorem cF_kept {g : Key → Nat → Bool} {u u' : PM} {v : Nat} (h : eqx g u u') (hg : ∀ i f, g (3, v, i) f = false) : cF u' v = cF u v := funext fun i => funext fun f => by
  unfold cF
  rw [h.1 _ _ (hg i f)]
theorem cW_kept {g : Key → Nat → Bool} {u u' : PM} {v : Nat} (h : eqx g u u') (hg : ∀ i f, g (5, v, i) f = false) : cW u' v = cW u v := funext fun i => funext fun f => by
  unfold cW
  rw [h.1 _ _ (hg i f)]
/-- a village stays, if nothing of it changes -/
theorem RepC_kept {g : Key → Nat → Bool} {u u' : PM} {v : Nat} {V : Vil} (h : eqx g u u') (hg : ∀ s, s = 1 ∨ s = 3 ∨ s = 5 → ∀ i f, g (s, v, i) f = false) (hl : ∀ s p i, 11 ≤ s → s ≤ 18 → g (s, p, 0) i = false) (hr : g (200, v + 1, 0) 0 = false) (x : RepC u v V) : RepC u' v V := by
  obtain ⟨a1, a2, a3, a4, a5, a6⟩ := x
  refine ⟨a1.trans (cF_kept h (hg 3 (by simp))).symm, a2.trans (cW_kept h (hg 5 (by simp))).symm, (h.1 _ _ (hg 1 (by simp) _ _)).trans a3, (h.1 _ _ (hg 1 (by simp) _ _)).trans a4, (h.1 _ _ (hg 1 (by simp) _ _)).trans a5, ?_⟩
  rw [h.2.2 _ hr]
  exact LdC_kept h hl a6
theorem RepC_gF {u u' : PM} {v : Nat} {V : Vil} (h : eqx gF u u') (x : RepC u v V) : RepC u' v V :=
  RepC_kept h (fun s hs i f => by rcases hs with rfl | rfl | rfl <;> rfl) (fun s p i h1 h2 => beq_eq_false_iff_ne.mpr (by show s ≠ 8; omega)) rfl x
theorem c_sum_l {u : PM} {p v k N : Nat} {F : Nat → Int32} (hp : u.2.2 (v + 1) = some p) (hp5 : p < 5) (hk : k < 4) (hN : u.1 (11, p, 0) 0 = nI N) (h10 : N ≤ 10) (hF : ∀ f, f < 6 → u.1 (8, v, 0) f = F f) : ∀ (cs : List Cl) (c : Nat) (s : Int32) (n : Nat), clC u p c cs → c + cs.length = N → cs.length < n → am_loop (f_X8_sum_L89 v (nI k) u) n (s, nI c) = some (sumL F k cs s)
  | [], c, s, 0, _, _, h => by omega
  | [], c, s, n + 1, _, hl, _ => by
    have hl : c = N := hl
    subst hl
    refine am_loop_e ?_
    unfold f_X8_sum_L89
    simp (disch := omega) only [↓reduceIte, hp, hp5, hN, i_le, Nat.le_refl, if_true]
    rfl
  | x :: cs, c, s, 0, _, _, h => by omega
  | x :: cs, c, s, n + 1, hc, hl, hn => by
    simp only [List.length_cons] at hl hn
    obtain ⟨⟨a1, a2, a3, a4, a5, a6, a7⟩, r⟩ := hc
    have e1 : ¬ N ≤ c := by omega
    have e2 : ¬ 10 ≤ c := by omega
    have key : f_X8_sum_L89 v (nI k) u (s, nI c) = some (.inl (if x.1 = k ∧ hoA F x.2.2.2 = true then s + x.2.1 else s, nI (c + 1))) := by
      unfold f_X8_sum_L89
      simp (disch := omega) only [↓reduceIte, hp, hp5, hN, L_10, i_le, i_lt0, i_cl, i_eq, e1, e2, a1, a2, if_true, if_false, or_self, nI_1]
      by_cases hx : x.1 = k
      · obtain ⟨b1, b2, b3, b4⟩ := a6 (by omega)
        rw [if_pos hx, c_holds (F := F) (ts := x.2.2.2) (by omega) a3 (by rw [a4, b1]) (by omega) hF b3 b4, Option.bind_some]
        cases hoA F x.2.2.2
        · simp [hx]
        · simp [hx]
      · simp [hx]
    rw [am_loop_s key]
    exact c_sum_l hp hp5 hk hN h10 hF cs (c + 1) _ n r (by omega) (by omega)
theorem c_facts (u : PM) (v : Nat) (wt : Int32) (h : Nat) (x : Int32) : eqx gF u (pi (pi (pi (pi (pi u (8, v, 0) 0 wt) (8, v, 0) 1 ((u.1 (1, v, 0) 4) - (u.1 (1, v, 0) 4) / (24 : Int32) * (24 : Int32))) (8, v, 0) 2 (nI h)) (8, v, 0) 3 (u.1 (3, v, h) 2)) (8, v, 0) 4 (u.1 (3, v, h) 0)) ∧ eqx gF u (pi (pi (pi (pi (pi (pi u (8, v, 0) 0 wt) (8, v, 0) 1 ((u.1 (1, v, 0) 4) - (u.1 (1, v, 0) 4) / (24 : Int32) * (24 : Int32))) (8, v, 0) 2 (nI h)) (8, v, 0) 3 (u.1 (3, v, h) 2)) (8, v, 0) 4 (u.1 (3, v, h) 0)) (8, v, 0) 5 x) ∧ ∀ f, f < 6 → (pi (pi (pi (pi (pi (pi u (8, v, 0) 0 wt) (8, v, 0) 1 ((u.1 (1, v, 0) 4) - (u.1 (1, v, 0) 4) / (24 : Int32) * (24 : Int32))) (8, v, 0) 2 (nI h)) (8, v, 0) 3 (u.1 (3, v, h) 2)) (8, v, 0) 4 (u.1 (3, v, h) 0)) (8, v, 0) 5 x).1 (8, v, 0) f = if f = 0 then wt else if f = 1 then (u.1 (1, v, 0) 4) - (u.1 (1, v, 0) 4) / (24 : Int32) * (24 : Int32) else if f = 2 then nI h else if f = 3 then u.1 (3, v, h) 2 else if f = 4 then u.1 (3, v, h) 0 else x := by
  have e5 : eqx gF u (pi (pi (pi (pi (pi u (8, v, 0) 0 wt) (8, v, 0) 1 ((u.1 (1, v, 0) 4) - (u.1 (1, v, 0) 4) / (24 : Int32) * (24 : Int32))) (8, v, 0) 2 (nI h)) (8, v, 0) 3 (u.1 (3, v, h) 2)) (8, v, 0) 4 (u.1 (3, v, h) 0)) := ((((eqx.rf.pi rfl).pi rfl).pi rfl).pi rfl).pi rfl
  refine ⟨e5, e5.pi rfl, fun f hf => ?_⟩
  have : f = 0 ∨ f = 1 ∨ f = 2 ∨ f = 3 ∨ f = 4 ∨ f = 5 := by omega
  rcases this with rfl | rfl | rfl | rfl | rfl | rfl <;> simp [p_i]
theorem c_sum {u : PM} {v k h : Nat} {V : Vil} (hR : RepC u v V) (hW : WF V) (hk : k < 4) (hh : h < V.2.2.1) (wt : Int32) : ∃ u', f_X8_sum v (nI k) (nI h) wt u = some (sumA V k h wt, u') ∧ eqx gF u u' := by
  obtain ⟨F, W, H, w0, hr, ld⟩ := V
  obtain ⟨a1, a2, a3, a4, a5, a6⟩ := hR
  simp only at a1 a2 a3 a4 a5 a6 hh
  have h6 : H ≤ 6 := hW.1
  unfold f_X8_sum
  rw [c_find a3 h6 hh, Option.bind_some]
  simp only [show h < 6 by omega, if_true]
  unfold sumA
  simp only
  cases ho : u.2.2 (v + 1) with
  | none =>
    rw [ho] at a6
    cases ld with
    | some y => exact a6.elim
    | none => exact ⟨u, rfl, eqx.rf⟩
  | some p =>
    rw [ho] at a6
    cases ld with
    | none => exact a6.elim
    | some y =>
      obtain ⟨rfl, hp, hL⟩ := a6
      simp only [hp, if_true]
      obtain ⟨e5, e6, hFF⟩ := c_facts u v wt h (nI (pop (lit (cF u v) H)))
      rw [c_litBits (H := H) ((e5.1 _ _ rfl).trans a3) h6, cF_kept e5 (fun _ _ => rfl), Option.bind_some, c_bc (lit_64 _ h6), Option.bind_some]
      have hL2 : LandC _ _ _ := LandC_kept e6 (fun s i h1 h2 => beq_eq_false_iff_ne.mpr (by show s ≠ 8; omega)) hL
      have key : am_loop (f_X8_sum_L89 v (nI k) _) 2000 ((0 : Int32), (0 : Int32)) = some _ := c_sum_l (p := y.1) (N := y.2.length) (F := fcA (F, W, H, w0, hr, some y) h wt) ((e6.2.2 _ rfl).trans ho) hp hk hL2.1 hL2.2.1 (fun f hf => (hFF f hf).trans ?_) y.2 0 0 2000 hL2.2.2 (by omega) (by have := hL2.2.1; omega)
      · rw [key, Option.bind_some]
        unfold capA
        simp (disch := omega) only [i_eq0]
        by_cases hk0 : k = 0
        · rw [if_pos hk0, if_pos hk0]
          exact ⟨_, rfl, e6⟩
        · rw [if_neg hk0, if_neg hk0]
          exact ⟨_, rfl, e6⟩
      · unfold fcA
        simp only [a1, a5, cF_at (u := u) (v := v) (show h < 6 by omega) (show 2 < 9 by omega), cF_at (u := u) (v := v) (show h < 6 by omega) (show 0 < 9 by omega)]
theorem m_fact {w : PM} {V : Vil} {h f : Nat} (hR : RMw w V) (h6 : V.2.2.1 ≤ 6) (hh : h < V.2.2.1) (hf : f < 6) (wt : Int32) : f_X10_factOf (nI f) (nI h) wt w = some (fcA V h wt f) := by
  obtain ⟨a1, a2, a3, a4, a5, a6⟩ := hR
  obtain ⟨b1, b2, b3, b4⟩ := a4 h hh
  have e6 : ¬ 6 ≤ h := by omega
  unfold f_X10_factOf fcA
  have : f = 0 ∨ f = 1 ∨ f = 2 ∨ f = 3 ∨ f = 4 ∨ f = 5 := by omega
  rcases this with rfl | rfl | rfl | rfl | rfl | rfl <;> simp (disch := omega) only [↓reduceIte, i_eq0, L_1, L_2, L_3, L_4, i_eq, i_lt0, i_cl, e6, or_self, if_true, if_false, a2, a3, b1, b2, m_ones (lit_64 V.1 h6), Option.bind_some] <;> simp
theorem m_first {w : PM} {p : Nat} (h : w.1 (40, 0, 0) 14 = nI p) (hp : p < 5) : f_X10_first w = some (nI (10 * p)) := by
  unfold f_X10_first
  rw [h, if_pos (nI_pos' (by omega)), L_10, pk_mul]
theorem m_behind {w : PM} {p n : Nat} (h : w.1 (40, 0, 0) 14 = nI p) (hp : p < 5) (h2 : w.1 (51, 0, 0) p = nI n) : f_X10_behind w = some (nI (10 * p + n)) := by
  have e : ¬ 5 ≤ p := by omega
  unfold f_X10_behind
  rw [h, if_pos (nI_pos' (by omega))]
  simp (disch := omega) only [↓reduceIte, i_lt0, i_cl, e, or_self, if_false, h2, L_10, pk_mul, nI_add]
theorem m_sum_l {w0 : PM} {V : Vil} {p k h : Nat} {wt : Int32} (h6 : V.2.2.1 ≤ 6) (hh : h < V.2.2.1) (hp : w0.1 (40, 0, 0) 14 = nI p) (hp5 : p < 5) (hk : k < 4) {N : Nat} (hN : w0.1 (51, 0, 0) p = nI N) (h10 : N ≤ 10) (hR : RMw w0 V) : ∀ (cs : List Cl) (c : Nat) (s : Int32) (n : Nat) (w : PM), clM w0 p c cs → eqx gP w0 w → c + cs.length = N → cs.length < n → ∃ w', am_loop (f_X10_sumOf_L9 (nI k) (nI h) wt) n (s, nI (10 * p + c), w) = some (sumL (fcA V h wt) k cs s, w') ∧ eqx gP w0 w'
  | [], c, s, 0, w, _, _, _, h => by omega
  | [], c, s, n + 1, w, _, he, hl, _ => by
    have hl : c = N := hl
    subst hl
    refine ⟨w, am_loop_e ?_, he⟩
    unfold f_X10_sumOf_L9
    simp (disch := omega) only [↓reduceIte, m_behind ((he.1 _ _ rfl).trans hp) hp5 ((he.1 _ _ rfl).trans hN), Option.bind_some, i_le, Nat.le_refl, if_true, sumL]
  | x :: cs, c, s, 0, w, _, _, _, h => by omega
  | x :: cs, c, s, n + 1, w, hc, he, hl, hn => by
    simp only [List.length_cons] at hl hn
    obtain ⟨⟨a1, a2, a3, a4, a5, a6⟩, r⟩ := hc
    have e1 : ¬ 10 * p + N ≤ 10 * p + c := by omega
    have e2 : ¬ 50 ≤ 10 * p + c := by omega
    have key : ∃ w1, f_X10_sumOf_L9 (nI k) (nI h) wt (s, nI (10 * p + c), w) = some (.inl (if x.1 = k ∧ hoA (fcA V h wt) x.2.2.2 = true then s + x.2.1 else s, nI (10 * p + (c + 1)), w1)) ∧ eqx gP w0 w1 := by
      unfold f_X10_sumOf_L9
      simp (disch := omega) only [↓reduceIte, m_behind ((he.1 _ _ rfl).trans hp) hp5 ((he.1 _ _ rfl).trans hN), Option.bind_some, i_le, i_lt0, i_cl, i_eq, e1, e2, (he.1 _ _ rfl).trans a1, if_true, if_false, or_self, nI_1, Int32.add_zero]
      by_cases hx : x.1 = k
      · obtain ⟨b1, b2, b3, b4, b5, b6⟩ := a4 (by omega)
        have hM : RMw w V := RMw_kept (he.mono (fun _ _ => gP_W)) hR
        obtain ⟨w1, q1, q2⟩ := m_holds (w := w) (h := h) (wt := wt) (F := fcA V h wt) (ts := x.2.2.2) (c := 10 * p + c) (a := 100 * p + x.2.2.1.1) (by omega) ((he.1 _ _ rfl).trans b1) (by rw [(he.1 _ _ rfl).trans b2, b3, Nat.add_assoc]) (by omega) (by omega) (fun w' hw f hf => m_fact (RMw_kept (hw.mono (fun _ _ => gP_W)) hM) h6 hh hf wt) (tkM_kept (he.mono (fun _ _ => gP_W)) b5) b6
        rw [if_pos hx, q1, Option.bind_some]
        have t3 : w1.1 (54, 0, 0) (10 * p + c) = x.2.1 := ((he.tr q2).1 _ _ rfl).trans a2
        cases hoA (fcA V h wt) x.2.2.2
        · exact ⟨w1, by simp; rfl, he.tr q2⟩
        · exact ⟨w1, by simp [hx, t3]; rfl, he.tr q2⟩
      · exact ⟨w, by simp [hx]; rfl, he⟩
    obtain ⟨w1, q1, q2⟩ := key
    rw [am_loop_s q1]
    exact m_sum_l h6 hh hp hp5 hk hN h10 hR cs (c + 1) _ n w1 r q2 (by omega) (by omega)
theorem m_min100 (s : Int32) (w : PM) (n : Int32) : f_X10_min s n w = some (if n < s then n else s) := by
  unfold f_X10_min
  by_cases h : n < s
  · rw [if_pos h, if_pos (Int32.le_of_lt h)]
  · rw [if_neg h]
    by_cases h2 : n ≤ s
    · rw [if_pos h2, Int32.le_antisymm h2 (Int32.not_lt.mp h)]
    · rw [if_neg h2]
theorem m_sum {w : PM} {V : Vil} {k h : Nat} (hR : RMw w V) (hW : WF V) (hk : k < 4) (hh : h < V.2.2.1) (wt : Int32) : ∃ w', f_X10_sumOf (nI k) (nI h) wt w = some (sumA V k h wt, w') ∧ eqx gP w w' := by
  have h6 : V.2.2.1 ≤ 6 := hW.1
  have hL : LdM w _ _ := hR.2.2.2.2.2
  have fin : ∀ (s : Int32) (w' : PM), eqx gP w w' → ∃ w'', (if nI k = 0 then (f_X10_min s (100 : Int32) w').bind fun r15 => some (r15, w') else (f_X10_min s (99 : Int32) w').bind fun r13 => some (r13, w')) = some (capA k s, w'') ∧ eqx gP w w'' := by
    intro s w' he
    unfold capA
    simp (disch := omega) only [m_min100, Option.bind_some, i_eq0]
    by_cases hk0 : k = 0
    · rw [if_pos hk0, if_pos hk0]; exact ⟨w', rfl, he⟩
    · rw [if_neg hk0, if_neg hk0]; exact ⟨w', rfl, he⟩
  unfold f_X10_sumOf sumA
  cases hld : V.2.2.2.2.2 with
  | none =>
    rw [hld] at hL
    have hm : w.1 (40, 0, 0) 14 = -1 := hL
    have e1 : f_X10_first w = some 0 := by
      unfold f_X10_first
      rw [hm, if_neg (by decide)]
    have e2 : am_loop (f_X10_sumOf_L9 (nI k) (nI h) wt) 2000 (0, 0, w) = some (0, w) := by
      refine am_loop_e ?_
      unfold f_X10_sumOf_L9 f_X10_behind
      simp only [hm]
      rw [if_neg (by decide), Option.bind_some, if_pos (by decide)]
    rw [e1, Option.bind_some, e2, Option.bind_some]
    obtain ⟨w'', q1, q2⟩ := fin 0 w eqx.rf
    refine ⟨w'', ?_, q2⟩
    refine q1.trans ?_
    unfold capA
    split <;> rfl
  | some y =>
    rw [hld] at hL
    obtain ⟨b1, b2, b3, b4, b5⟩ := hL
    rw [m_first b1 b2, Option.bind_some]
    obtain ⟨w', q1, q2⟩ := m_sum_l (wt := wt) h6 hh b1 b2 hk b3 b4 hR y.2 0 0 2000 w b5 eqx.rf (by omega) (by omega)
    rw [Nat.add_zero] at q1
    rw [q1, Option.bind_some]
    exact fin _ w' q2
