/-! THE FIRST MEMORY: what the two constructors leave, and that it's related -/
noncomputable def u0 : PM := ((am_W 526).1, (am_W 526).2.1, fun _ => none)
theorem WL_len : WL.length = 526 := by decide +kernel
theorem W_i0 {m : Nat} {q : Key} {k : Nat} (h : ini q k = 0) : (am_W m).1 q k = 0 := by
  show @ite _ (Wr m q k) (Classical.propDecidable _) (ini q k) 0 = 0
  by_cases w : Wr m q k
  · rw [if_pos w]; exact h
  · rw [if_neg w]
theorem W_l0 {m : Nat} {q : Key} {k : Nat} (h : inl q k = 0) : (am_W m).2.1 q k = 0 := by
  show @ite _ (Wr m q k) (Classical.propDecidable _) (inl q k) 0 = 0
  by_cases w : Wr m q k
  · rw [if_pos w]; exact h
  · rw [if_neg w]
theorem Wr_all {q : Key} {k : Nat} (h : (q, k) ∈ WL) : Wr 526 q k := by
  obtain ⟨j, hj⟩ := List.getElem?_of_mem h
  have h1 := (List.getElem?_eq_some_iff.mp hj).1
  rw [WL_len] at h1
  exact ⟨j, h1, hj⟩
theorem W_i1 {q : Key} {k : Nat} (h : (q, k) ∈ WL) : (am_W 526).1 q k = ini q k := if_pos (Wr_all h)
theorem lay_all : kA.all (fun q => (List.range (am_ln q.1)).all fun k => (layN q k).isNone || decide ((q, k) ∈ WL)) = true := by decide +kernel
theorem lay_at {q : Key} {k : Nat} (hq : q ∈ kA) (hk : k < am_ln q.1) : (am_W 526).2.2 q k = layN q k := by
  show @ite _ (Wr 526 q k) (Classical.propDecidable _) (layN q k) none = layN q k
  by_cases w : Wr 526 q k
  · rw [if_pos w]
  · rw [if_neg w]
    have h := List.all_eq_true.mp (List.all_eq_true.mp lay_all q hq) k (List.mem_range.mpr hk)
    rw [Bool.or_eq_true] at h
    rcases h with h | h
    · exact (Option.isNone_iff_eq_none.mp h).symm
    · exact absurd (Wr_all (of_decide_eq_true h)) w
theorem mg_W : ∀ q ∈ kA, (mg u0 u0).1 q = (am_W 526).1 q ∧ (mg u0 u0).2.1 q = (am_W 526).2.1 q ∧ ∀ k, k < am_ln q.1 → (mg u0 u0).2.2 q k = (am_W 526).2.2 q k := by
  intro q hq
  refine ⟨funext fun k => ite_self _, funext fun k => ite_self _, fun k hk => ?_⟩
  rw [lay_at hq hk]
  exact ite_self _
theorem at_refs {b : BA} {D : va_G} {cT : Nat → ClassId} {H : Heap} {M M' : AM} {q : Key} (h1 : M'.1 q = M.1 q) (h2 : M'.2.1 q = M.2.1 q) (h3 : ∀ k, k < am_ln q.1 → M'.2.2 q k = M.2.2 q k) (h : va_at D vwCl (am_ad b q, am_ce b cT M q) H) : va_at D vwCl (am_ad b q, am_ce b cT M' q) H := by
  by_cases c1 : am_kd q.1 < 11
  · have e : am_ce b cT M' q = am_ce b cT M q := by
      rw [am_ce_obj b cT M c1, am_ce_obj b cT M' c1]
      refine congrArg (fun l => Sum.inr (am_kd q.1, l)) (List.map_congr_left fun k hk => ?_)
      unfold am_fv
      rw [h1, h2, h3 k (List.mem_range.mp hk)]
    rw [e]
    exact h
  · by_cases c2 : 14 ≤ am_kd q.1
    · rw [am_ce_q b cT M c2] at h
      rw [am_ce_q b cT M' c2]
      have h9 : H[am_ad b q]? = some (vp_cell (cT (am_kd q.1)) (am_ln q.1, .inr (.inr (.inr (.inr (fun i => (M.2.2 q i).map (fun q => am_ad b q))))))) := h
      show H[am_ad b q]? = some (vp_cell (cT (am_kd q.1)) (am_ln q.1, .inr (.inr (.inr (.inr (fun i => (M'.2.2 q i).map (fun q => am_ad b q)))))))
      rw [h9, vp_cell_q, vp_cell_q]
      refine congrArg some ?_
      unfold arrV
      congr 1
      refine congrArg (fun f : Fin (am_ln q.1) → Value => Array.ofFn f) (funext fun j => ?_)
      dsimp only
      rw [h3 j.val j.isLt]
    · have e : am_ce b cT M' q = am_ce b cT M q := by
        unfold am_ce
        rw [if_neg c1, if_neg c1]
        by_cases c3 : am_kd q.1 = 12
        · rw [if_pos c3, if_pos c3, h2]
        · rw [if_neg c3, if_neg c3, if_pos (show am_kd q.1 < 14 by omega), if_pos (show am_kd q.1 < 14 by omega), h1]
      rw [e]
      exact h
theorem am_w_get {b : BA} {cT : Nat → ClassId} {ks : List Key} {M : AM} {i : Nat} {q : Key} (h : ks[i]? = some q) : (am_w b cT ks M)[i]? = some (am_ad b q, am_ce b cT M q) := by
  unfold am_w
  rw [List.getElem?_map, h]
  rfl
theorem X1_swap {b : BA} {D : va_G} {cT : Nat → ClassId} {A : Nat → Prop} {al : Bool} {ks : List Key} {M M' : AM} {s : State} {H : Heap} {locs : List Loc} (hks : ∀ q ∈ ks, M'.1 q = M.1 q ∧ M'.2.1 q = M.2.1 q ∧ ∀ k, k < am_ln q.1 → M'.2.2 q k = M.2.2 q k)
    (h : am_X1 b D cT A al ks M s H locs) : am_X1 b D cT A al ks M' s H locs := by
  obtain ⟨hP, hD, hK, hS, hA, hal⟩ := h
  refine ⟨fun k x hx => ?_, ⟨fun i j x y hx hy e => ?_, fun k x hx => ?_⟩, hK, hS, hA, hal⟩
  · obtain ⟨q, hq, rfl⟩ := am_w_of hx
    obtain ⟨g1, g2, g3⟩ := hks q (List.mem_of_getElem? hq)
    exact at_refs g1 g2 g3 (hP k _ (am_w_get hq))
  · obtain ⟨q, hq, rfl⟩ := am_w_of hx
    obtain ⟨q', hq', rfl⟩ := am_w_of hy
    exact hD.1 i j _ _ (am_w_get hq) (am_w_get hq') e
  · obtain ⟨q, hq, rfl⟩ := am_w_of hx
    have h9 := hD.2 k _ (am_w_get (M := M) hq)
    exact h9
theorem u0_i {q : Key} {k : Nat} (h : ini q k = 0) : u0.1 q k = 0 := W_i0 h
theorem tp_in : ∀ t, t < 6 → (((32, t, 0) : Key), 0) ∈ WL ∧ (((90, 0, 0) : Key), t) ∈ WL := by decide +kernel
theorem lt_in : ∀ i, i < 19 → (((59, 0, 0) : Key), i) ∈ WL := by decide +kernel
theorem Rel_start : Rel u0 u0 := by
  have z3 : ∀ h f, u0.1 (3, 0, h) f = 0 := fun h f => u0_i rfl
  have cf : ∀ h f, cF u0 0 h f = 0 := fun h f => by
    unfold cF
    rw [z3, ite_self]
  have cw : ∀ x y, cW u0 0 x y = 0 := fun x y => by
    unfold cW
    rw [show u0.1 (5, 0, x) y = 0 from u0_i rfl, ite_self]
  refine ⟨0, ⟨by omega, u0_i rfl, u0_i rfl, fun i hi => ?_⟩, ⟨(cF u0 0, cW u0 0, 0, 0, 0, none), (0, fun _ => 0, fun _ => 0), ⟨rfl, rfl, u0_i rfl, u0_i rfl, u0_i rfl, trivial⟩, ⟨u0_i rfl, by omega, fun i _ => ⟨u0_i rfl, u0_i rfl⟩⟩, ⟨⟨by show (0 : Nat) ≤ 6; omega, fun h _ => Or.inl (cf h 1), fun h hh => absurd hh (Nat.not_lt_zero _), fun h hh => absurd hh (Nat.not_lt_zero _), fun x y _ _ => ⟨0, by omega, cw x y⟩, fun x y _ _ => (cw x y).trans (cw y x).symm, fun x y _ _ _ => cw x y⟩, ⟨0, by omega, rfl⟩, ⟨0, by omega, rfl⟩, fun y hy => by cases hy⟩, ⟨⟨u0_i rfl, u0_i rfl, u0_i rfl, u0_i rfl⟩, fun h hh => absurd hh (Nat.not_lt_zero _), fun x y hx _ => absurd hx (Nat.not_lt_zero _), ?_⟩, ⟨u0_i rfl, fun i _ => ⟨u0_i rfl, u0_i rfl⟩⟩⟩,
    ⟨false, u0_i rfl, u0_i rfl, fun h => by cases h⟩, ⟨0, by omega, u0_i rfl, u0_i rfl, fun i hi => absurd hi (Nat.not_lt_zero _)⟩, fun t ht => ⟨-1, 0, Or.inl rfl, by omega, ?_, ?_, u0_i rfl, u0_i rfl, fun i _ => ⟨(W_l0 rfl).trans (W_l0 rfl).symm, fun h => absurd h (by decide)⟩⟩, ⟨0, by omega, u0_i rfl, u0_i rfl, fun i _ => (u0_i rfl).trans (u0_i rfl).symm⟩⟩
  · exact (W_i1 (lt_in i hi)).trans rfl
  · show u0.1 (40, 0, 0) 14 = -1
    exact (W_i1 (by decide +kernel)).trans rfl
  · exact (W_i1 (tp_in t ht).1).trans rfl
  · exact (W_i1 (tp_in t ht).2).trans rfl
