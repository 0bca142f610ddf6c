/-! the relation of class and reference -/
def cC (q : Key) (k : Nat) : Nat :=
  if q.1 = 0 then 6
  else if q.1 = 1 ∨ q.1 = 3 ∨ q.1 = 5 ∨ q.1 = 6 ∨ q.1 = 7 then (if q.2.1 = 0 then 1 else if q.2.1 = 1 then 2 else 0)
  else if q.1 = 9 then (if k = 1 then 3 else 0)
  else if q.1 = 10 then 3
  else if 11 ≤ q.1 ∧ q.1 ≤ 18 then 7
  else if q.1 = 29 then (if k = 0 then 5 else 0)
  else if q.1 = 30 then 5
  else if q.1 = 32 ∨ q.1 = 33 then 4
  else if q.1 = 200 then (if q.2.1 = 1 then 1 else if q.2.1 = 2 then 2 else 0)
  else 0
def cM (q : Key) (k : Nat) : Nat :=
  if q.1 = 40 then (if k = 0 ∨ k = 1 ∨ k = 2 ∨ k = 3 ∨ k = 14 ∨ k = 46 then 1 else if k = 13 ∨ k = 60 then 6 else if 61 ≤ k ∧ k ≤ 66 then 2 else if k = 15 then 3 else if k = 78 then 5 else 0)
  else if 41 ≤ q.1 ∧ q.1 ≤ 49 then 1
  else if q.1 = 50 then 3
  else if 51 ≤ q.1 ∧ q.1 ≤ 57 then 7
  else if q.1 = 59 then 6
  else if q.1 = 70 ∨ q.1 = 71 then 1
  else if 78 ≤ q.1 ∧ q.1 ≤ 88 then 2
  else if q.1 = 89 then 5
  else if 90 ≤ q.1 ∧ q.1 ≤ 92 then 4
  else 0
def chC (A : List Nat) : PM → PM → Prop := eqx (fun q k => A.contains (cC q k))
def chM (A : List Nat) : PM → PM → Prop := eqx (fun q k => A.contains (cM q k))
def byR (a b : Int32) : Prop := ∃ n, n < 256 ∧ a = nI n ∧ b = (if n < 128 then nI n else nI n - nI 256)
def RdR (u w : PM) : Prop := ∃ L, L ≤ 100 ∧ u.1 (9, 0, 0) 1 = nI L ∧ w.1 (40, 0, 0) 15 = nI L ∧ ∀ i, i < L → byR (u.1 (10, 0, 0) i) (w.1 (50, 0, 0) i)
def TpR1 (u w : PM) (t : Nat) : Prop := ∃ (s : Int32) (z : Nat), (s = -1 ∨ ∃ k, k < 5 ∧ s = nI k) ∧ z ≤ 60 ∧ u.1 (32, t, 0) 0 = s ∧ w.1 (90, 0, 0) t = s ∧ u.1 (32, t, 0) 1 = nI z ∧ w.1 (91, 0, 0) t = nI z ∧ ∀ i, i < 60 → u.2.1 (33, t, 0) i = w.2.1 (92, 0, 0) (60 * t + i) ∧ (s = 4 → u.2.1 (33, t, 0) i = 0 ∨ u.2.1 (33, t, 0) i = 1)
def TpR (u w : PM) : Prop := ∀ t, t < 6 → TpR1 u w t
def AcR (u w : PM) : Prop := ∃ r, r ≤ 100 ∧ u.1 (29, 0, 0) 0 = nI r ∧ w.1 (40, 0, 0) 78 = nI r ∧ ∀ i, i < 20 → u.1 (30, 0, 0) i = w.1 (89, 0, 0) i
def RN (w : PM) (k q1 q2 : Nat) (N : Nig) : Prop := w.1 (40, 0, 0) k = nI N.1 ∧ ∀ i, i < 12 → w.1 (q1, 0, 0) i = N.2.1 i ∧ w.1 (q2, 0, 0) i = N.2.2 i
def okV (V : Vil) (n : Nat) : Prop := WF V ∧ (∃ hh, hh ≤ 9999 ∧ V.2.2.2.2.1 = nI hh) ∧ (∃ wt, wt < 3 ∧ V.2.2.2.1 = nI wt) ∧ ∀ y, V.2.2.2.2.2 = some y → y.1 < n ∧ ∀ x, x ∈ y.2 → ∃ k, k < 100 ∧ x.2.1 = nI k
def VlR (u w : PM) (v : Nat) (ks : Ks) (k q1 q2 n : Nat) : Prop := ∃ V N, RepC u v V ∧ RepN u v N ∧ okV V n ∧ RP w ks V ∧ RN w k q1 q2 N
def wlA : List Int32 := [111, 117, 116, 98, 117, 114, 110, 104, 111, 114, 110, 110, 101, 120, 116, 110, 101, 101, 100]
def BsR (u w : PM) (n : Nat) : Prop := n ≤ 5 ∧ u.1 (0, 0, 0) 6 = nI n ∧ w.1 (40, 0, 0) 13 = nI n ∧ ∀ i, i < 19 → w.1 (59, 0, 0) i = wlA.getD i 0
def ImR (u w : PM) (n : Nat) : Prop := ∃ b : Bool, u.1 (0, 0, 0) 3 = b2i b ∧ w.1 (40, 0, 0) 60 = b2i b ∧ (b = true → VlR u w 1 kI 66 87 88 n)
def Rel (u w : PM) : Prop := ∃ n, BsR u w n ∧ VlR u w 0 kP 46 70 71 n ∧ ImR u w n ∧ RdR u w ∧ TpR u w ∧ AcR u w
section REL
variable {A : List Nat} {u u' w w' : PM}
theorem chC_1 {c : Nat} (h : chC A u u') (hA : A.contains c = false) {q : Key} {k : Nat} (hq : cC q k = c) : u'.1 q k = u.1 q k := h.1 q k (by
  show A.contains (_ : Nat) = false
  rw [hq]
  exact hA)
theorem chM_1 {c : Nat} (h : chM A w w') (hA : A.contains c = false) {q : Key} {k : Nat} (hq : cM q k = c) : w'.1 q k = w.1 q k := h.1 q k (by
  show A.contains (_ : Nat) = false
  rw [hq]
  exact hA)
theorem BsR_k {n : Nat} (hu : chC A u u') (hw : chM A w w') (h6 : A.contains 6 = false) (x : BsR u w n) : BsR u' w' n :=
  ⟨x.1, (chC_1 hu h6 (by rfl)).trans x.2.1, (chM_1 hw h6 (by rfl)).trans x.2.2.1, fun i hi => (chM_1 hw h6 (by rfl)).trans (x.2.2.2 i hi)⟩
theorem RdR_k (hu : chC A u u') (hw : chM A w w') (h3 : A.contains 3 = false) (x : RdR u w) : RdR u' w' := by
  obtain ⟨L, a1, a2, a3, a4⟩ := x
  refine ⟨L, a1, (chC_1 hu h3 (by rfl)).trans a2, (chM_1 hw h3 (by rfl)).trans a3, fun i hi => ?_⟩
  rw [chC_1 hu h3 (q := (10, 0, 0)) (by rfl), chM_1 hw h3 (q := (50, 0, 0)) (by rfl)]
  exact a4 i hi
theorem TpR_k (hu : chC A u u') (hw : chM A w w') (h4 : A.contains 4 = false) (x : TpR u w) : TpR u' w' := by
  intro t ht
  obtain ⟨s, z, a1, a2, a3, a4, a5, a6, a7⟩ := x t ht
  refine ⟨s, z, a1, a2, (chC_1 hu h4 (by rfl)).trans a3, (chM_1 hw h4 (by rfl)).trans a4, (chC_1 hu h4 (by rfl)).trans a5, (chM_1 hw h4 (by rfl)).trans a6, fun i hi => ?_⟩
  rw [hu.2.1 (33, t, 0) i h4, hw.2.1 (92, 0, 0) (60 * t + i) h4]
  exact a7 i hi
theorem AcR_k (hu : chC A u u') (hw : chM A w w') (h5 : A.contains 5 = false) (x : AcR u w) : AcR u' w' := by
  obtain ⟨r, a1, a2, a3, a4⟩ := x
  refine ⟨r, a1, (chC_1 hu h5 (by rfl)).trans a2, (chM_1 hw h5 (by rfl)).trans a3, fun i hi => ?_⟩
  rw [chC_1 hu h5 (q := (30, 0, 0)) (by rfl), chM_1 hw h5 (q := (89, 0, 0)) (by rfl)]
  exact a4 i hi
theorem cC_land {s p i : Nat} (h1 : 11 ≤ s) (h2 : s ≤ 18) : cC (s, p, 0) i = 7 := by
  unfold cC
  rw [if_neg (by show ¬ s = 0; omega), if_neg (by show ¬ (s = 1 ∨ s = 3 ∨ s = 5 ∨ s = 6 ∨ s = 7); omega), if_neg (by show ¬ s = 9; omega), if_neg (by show ¬ s = 10; omega), if_pos ⟨h1, h2⟩]
theorem chM_gL (hw : chM A w w') (h7 : A.contains 7 = false) : eqx (fun q _ => !(51 ≤ q.1 && q.1 ≤ 57)) w w' := by
  refine eqx.mono hw (fun q k h => ?_)
  have h1 : 51 ≤ q.1 ∧ q.1 ≤ 57 := by simpa using h
  have : cM q k = 7 := by
    unfold cM
    rw [if_neg (by omega), if_neg (by omega), if_neg (by omega), if_pos h1]
  show A.contains (cM q k) = false
  rw [this]
  exact h7
theorem tkM_L {g : Key → Nat → Bool} {w w' : PM} (h : eqx g w w') (hg : ∀ s i, 51 ≤ s → s ≤ 57 → g (s, 0, 0) i = false) : ∀ {ts : List Tok} {a : Nat}, tkM w a ts → tkM w' a ts
  | [], _, _ => trivial
  | _ :: _, _, x => ⟨(h.1 _ _ (hg _ _ (by omega) (by omega))).trans x.1, tkM_L h hg x.2⟩
theorem clM_L {g : Key → Nat → Bool} {w w' : PM} {p : Nat} (h : eqx g w w') (hg : ∀ s i, 51 ≤ s → s ≤ 57 → g (s, 0, 0) i = false) : ∀ {cs : List Cl} {c : Nat}, clM w p c cs → clM w' p c cs
  | [], _, _ => trivial
  | _ :: _, _, ⟨⟨a1, a2, a3, a4, a5⟩, r⟩ => ⟨⟨(h.1 _ _ (hg _ _ (by omega) (by omega))).trans a1, (h.1 _ _ (hg _ _ (by omega) (by omega))).trans a2, fun z => (h.1 _ _ (hg _ _ (by omega) (by omega))).trans (a3 z), fun z => by
      obtain ⟨b1, b2, b3, b4, b5, b6⟩ := a4 z
      exact ⟨(h.1 _ _ (hg _ _ (by omega) (by omega))).trans b1, (h.1 _ _ (hg _ _ (by omega) (by omega))).trans b2, b3, b4, tkM_L h hg b5, b6⟩, a5⟩, clM_L h hg r⟩
theorem LdM_L {g : Key → Nat → Bool} {w w' : PM} {x x' : Int32} (h : eqx g w w') (hg : ∀ s i, 51 ≤ s → s ≤ 57 → g (s, 0, 0) i = false) (hx : x' = x) : ∀ {ld : Option (Nat × List Cl)}, LdM w x ld → LdM w' x' ld
  | none, y => hx.trans y
  | some _, y => ⟨hx.trans y.1, y.2.1, (h.1 _ _ (hg _ _ (by omega) (by omega))).trans y.2.2.1, y.2.2.2.1, clM_L h hg y.2.2.2.2⟩
theorem chM_L (hw : chM A w w') (h7 : A.contains 7 = false) {x x' : Int32} (hx : x' = x) {ld : Option (Nat × List Cl)} (y : LdM w x ld) : LdM w' x' ld :=
  LdM_L (chM_gL hw h7) (fun s i h1 h2 => by simp [h1, h2]) hx y
theorem VlR0_k {n : Nat} (hu : chC A u u') (hw : chM A w w') (h1 : A.contains 1 = false) (h7 : A.contains 7 = false) (x : VlR u w 0 kP 46 70 71 n) : VlR u' w' 0 kP 46 70 71 n := by
  obtain ⟨V, N, a1, a2, a3, a4, a5⟩ := x
  refine ⟨V, N, RepC_kept hu (fun s hs i f => by rcases hs with rfl | rfl | rfl <;> exact h1) (fun s p i g1 g2 => by show A.contains (cC _ _) = false; rw [cC_land g1 g2]; exact h7) h1 a1, ⟨(chC_1 hu h1 (by rfl)).trans a2.1, a2.2.1, fun i hi => ⟨(chC_1 hu h1 (by rfl)).trans (a2.2.2 i hi).1, (chC_1 hu h1 (by rfl)).trans (a2.2.2 i hi).2⟩⟩, a3, ?_, ⟨(chM_1 hw h1 (by rfl)).trans a5.1, fun i hi => ⟨(chM_1 hw h1 (by rfl)).trans (a5.2 i hi).1, (chM_1 hw h1 (by rfl)).trans (a5.2 i hi).2⟩⟩⟩
  obtain ⟨⟨b1, b2, b3, b4⟩, b5, b6, b7⟩ := a4
  refine ⟨⟨(chM_1 hw h1 (by rfl)).trans b1, (chM_1 hw h1 (by rfl)).trans b2, (chM_1 hw h1 (by rfl)).trans b3, (chM_1 hw h1 (by rfl)).trans b4⟩, fun h hh => ?_, fun a b ha hb => (chM_1 hw h1 (by rfl)).trans (b6 a b ha hb), chM_L hw h7 (chM_1 hw h1 (by rfl)) b7⟩
  obtain ⟨c1, c2, c3, c4, c5, c6, c7⟩ := b5 h hh
  exact ⟨(chM_1 hw h1 (by rfl)).trans c1, (chM_1 hw h1 (by rfl)).trans c2, (chM_1 hw h1 (by rfl)).trans c3, (chM_1 hw h1 (by rfl)).trans c4, (chM_1 hw h1 (by rfl)).trans c5, fun z => ⟨(chM_1 hw h1 (by rfl)).trans (c6 z).1, (chM_1 hw h1 (by rfl)).trans (c6 z).2⟩, fun z => (chM_1 hw h1 (by rfl)).trans (c7 z)⟩
theorem VlR1_k {n : Nat} (hu : chC A u u') (hw : chM A w w') (h1 : A.contains 2 = false) (h7 : A.contains 7 = false) (x : VlR u w 1 kI 66 87 88 n) : VlR u' w' 1 kI 66 87 88 n := by
  obtain ⟨V, N, a1, a2, a3, a4, a5⟩ := x
  refine ⟨V, N, RepC_kept hu (fun s hs i f => by rcases hs with rfl | rfl | rfl <;> exact h1) (fun s p i g1 g2 => by show A.contains (cC _ _) = false; rw [cC_land g1 g2]; exact h7) h1 a1, ⟨(chC_1 hu h1 (by rfl)).trans a2.1, a2.2.1, fun i hi => ⟨(chC_1 hu h1 (by rfl)).trans (a2.2.2 i hi).1, (chC_1 hu h1 (by rfl)).trans (a2.2.2 i hi).2⟩⟩, a3, ?_, ⟨(chM_1 hw h1 (by rfl)).trans a5.1, fun i hi => ⟨(chM_1 hw h1 (by rfl)).trans (a5.2 i hi).1, (chM_1 hw h1 (by rfl)).trans (a5.2 i hi).2⟩⟩⟩
  obtain ⟨⟨b1, b2, b3, b4⟩, b5, b6, b7⟩ := a4
  refine ⟨⟨(chM_1 hw h1 (by rfl)).trans b1, (chM_1 hw h1 (by rfl)).trans b2, (chM_1 hw h1 (by rfl)).trans b3, (chM_1 hw h1 (by rfl)).trans b4⟩, fun h hh => ?_, fun a b ha hb => (chM_1 hw h1 (by rfl)).trans (b6 a b ha hb), chM_L hw h7 (chM_1 hw h1 (by rfl)) b7⟩
  obtain ⟨c1, c2, c3, c4, c5, c6, c7⟩ := b5 h hh
  exact ⟨(chM_1 hw h1 (by rfl)).trans c1, (chM_1 hw h1 (by rfl)).trans c2, (chM_1 hw h1 (by rfl)).trans c3, (chM_1 hw h1 (by rfl)).trans c4, (chM_1 hw h1 (by rfl)).trans c5, fun z => ⟨(chM_1 hw h1 (by rfl)).trans (c6 z).1, (chM_1 hw h1 (by rfl)).trans (c6 z).2⟩, fun z => (chM_1 hw h1 (by rfl)).trans (c7 z)⟩
theorem ImR_k {n : Nat} (hu : chC A u u') (hw : chM A w w') (h1 : A.contains 2 = false) (h7 : A.contains 7 = false) (h6 : A.contains 6 = false) (x : ImR u w n) : ImR u' w' n := by
  obtain ⟨b, a1, a2, a3⟩ := x
  exact ⟨b, (chC_1 hu h6 (by rfl)).trans a1, (chM_1 hw h6 (by rfl)).trans a2, fun z => VlR1_k hu hw h1 h7 (a3 z)⟩
theorem Rel_0 (h : Rel u w) (hu : chC [0] u u') (hw : chM [0] w w') : Rel u' w' := by
  obtain ⟨n, a1, a2, a3, a4, a5, a6⟩ := h
  exact ⟨n, BsR_k hu hw rfl a1, VlR0_k hu hw rfl rfl a2, ImR_k hu hw rfl rfl rfl a3, RdR_k hu hw rfl a4, TpR_k hu hw rfl a5, AcR_k hu hw rfl a6⟩
end REL
