/-! ends on the class's side -/
theorem pl_at (u : PM) (q : Key) (k : Nat) (x : Int64) : (pl u q k x).2.1 q k = x := by
  rw [p_l, if_pos ⟨rfl, rfl⟩]
def gV3 (q : Key) (_ : Nat) : Bool := q.1 == 8 || (20 ≤ q.1 && q.1 ≤ 24) || ((q.1 == 1 || q.1 == 3 || q.1 == 5 || q.1 == 6 || q.1 == 7) && q.2.1 == 3) || (q.1 == 200 && q.2.1 == 4)
theorem gV_F {q : Key} {k : Nat} (h : gV3 q k = false) : gF q k = false := by
  unfold gV3 at h
  unfold gF
  simp only [Bool.or_eq_false_iff, beq_eq_false_iff_ne, Bool.and_eq_false_iff, decide_eq_false_iff_not] at h ⊢
  omega
theorem gV_Wg {q : Key} {k : Nat} (h : gV3 q k = false) : gWg q k = false := by
  unfold gV3 at h
  unfold gWg
  simp only [Bool.or_eq_false_iff, beq_eq_false_iff_ne, Bool.and_eq_false_iff, decide_eq_false_iff_not] at h ⊢
  omega
theorem gV_Ps {q : Key} {k : Nat} (h : gV3 q k = false) : gPs 3 q k = false := by
  unfold gV3 at h
  unfold gPs gX1 gH
  simp only [Bool.or_eq_false_iff, beq_eq_false_iff_ne, Bool.and_eq_false_iff, decide_eq_false_iff_not] at h ⊢
  omega
theorem gV_Cp {q : Key} {k : Nat} (h : gV3 q k = false) : gCp 3 q k = false := by
  unfold gV3 at h
  unfold gCp
  simp only [Bool.or_eq_false_iff, beq_eq_false_iff_ne, Bool.and_eq_false_iff, decide_eq_false_iff_not] at h ⊢
  omega
def gV8 (q : Key) (k : Nat) : Bool := gV3 q k || (q.1 == 28 && (k == 0 || k == 1))
theorem gV8_3 {q : Key} {k : Nat} (h : gV8 q k = false) : gV3 q k = false := by
  unfold gV8 at h
  simp only [Bool.or_eq_false_iff] at h
  exact h.1
theorem k_gV8 {u u' : PM} (h : eqx gV8 u u') : chC [0] u u' := toC h (fun q k z => by
  unfold gV8 gV3 at z
  simp only [Bool.or_eq_true, Bool.and_eq_true, beq_iff_eq, decide_eq_true_eq] at z
  rcases z with (((z | z) | z) | z) | z
  · exact cC_8 (by omega)
  · exact cC_8 (by omega)
  · exact cC_v (by omega) (by omega)
  · exact cC_r (by omega) (by omega)
  · exact cC_8 (by omega))
theorem RepC_pl {u : PM} {v k : Nat} {V : Vil} {x : Int64} (hR : RepC u v V) : RepC (pl u (28, 0, 0) k x) v V :=
  RepC_kept (g := fun q _ => q.1 == 28) (eqx.rf.pl rfl) (fun s hs i f => by rcases hs with rfl | rfl | rfl <;> rfl) (fun s p i h1 h2 => beq_eq_false_iff_ne.mpr (by show s ≠ 28; omega)) rfl hR
theorem c_share {u : PM} {V : Vil} {w s : Nat} (hR : RepC u 3 V) (hW : WF V) (hA : okA V) (h3 : V.2.2.1 ≤ 3) (hs : s < 8) : ∃ u', f_X4_shareOf (nI w) (nI s) u = some (lN (if s < 2 ^ V.2.2.1 then shN V w s V.2.2.1 else 0), u') ∧ eqx gF u u' := by
  have key : ∀ i0 : Nat, ∃ e, am_loop (f_X4_shareOf_L22 (nI w) (nI s)) 2000 (lN i0, (0 : Int32), u) = some e ∧ e.1 = lN (i0 * shN V w s V.2.2.1) ∧ eqx gF u e.2 := fun i0 => by
    refine am_cnt (f := f_X4_shareOf_L22 (nI w) (nI s)) (s := (lN i0, (0 : Int32), u)) (fun j t => t.1 = lN (i0 * shN V w s j) ∧ t.2.1 = nI j ∧ eqx gF u t.2.2) (fun e => e.1 = lN (i0 * shN V w s V.2.2.1) ∧ eqx gF u e.2) V.2.2.1 ⟨by show lN i0 = lN (i0 * 1); rw [Nat.mul_one], rfl, eqx.rf⟩ (by omega) ?_ ?_
    · rintro j ⟨x, y, t⟩ hj ⟨rfl, rfl, he⟩
      dsimp only at he
      have hR' := RepC_gF he hR
      have e1 : t.1 (3, 3, j) 1 = V.1 j 1 := by rw [hR'.1]; exact cF_at (by omega) (by omega)
      have hsh : shN V w s (j + 1) = shN V w s j * facN V w s j := rfl
      unfold f_X4_shareOf_L22
      dsimp only
      rw [hR'.2.2.1, if_neg (nI_ge hj (by omega)), if_neg (show ¬ (3 : Int32) ≤ nI j from nI_ge (b := 3) (by omega) (by omega)), if_neg (nI_in (show j < 6 by omega) (by omega)), nI_clamp (show j < 2 ^ 31 by omega), b_tb0 s (by omega) j (by omega), nI_1, e1]
      by_cases z : V.1 j 1 = 0
      · rw [if_pos z]
        by_cases b : s.testBit j = true
        · rw [if_pos b, if_neg one_ne]
          refine ⟨_, rfl, ?_, rfl, he⟩
          show lN (i0 * shN V w s j) * lN 0 = _
          rw [lN_mul, hsh, facN, if_pos z, if_pos b, Nat.mul_assoc]
        · rw [if_neg b, if_pos rfl]
          refine ⟨_, rfl, ?_, rfl, he⟩
          show lN (i0 * shN V w s j) * lN 100 = _
          rw [lN_mul, hsh, facN, if_pos z, if_neg b, Nat.mul_assoc]
      · obtain ⟨u', q1, q2⟩ := c_sum hR' hW (show 0 < 4 by omega) hj (nI w)
        obtain ⟨e2, e3, -⟩ := sN_e hA 0 j (nI w)
        rw [if_neg z, show f_X8_sum 3 (0 : Int32) (nI j) (nI w) t = some (sumA V 0 j (nI w), u') from q1, Option.bind_some]
        dsimp only
        rw [e2]
        by_cases b : s.testBit j = true
        · rw [if_pos b, if_neg one_ne, nI_l (by omega)]
          refine ⟨_, rfl, ?_, rfl, he.tr q2⟩
          show lN (i0 * shN V w s j) * lN (sN V 0 j (nI w)) = _
          rw [lN_mul, hsh, facN, if_neg z, if_pos b, Nat.mul_assoc]
        · rw [if_neg b, if_pos rfl, L_100, i_sub e3, nI_l (by omega)]
          refine ⟨_, rfl, ?_, rfl, he.tr q2⟩
          show lN (i0 * shN V w s j) * lN (100 - sN V 0 j (nI w)) = _
          rw [lN_mul, hsh, facN, if_neg z, if_neg b, Nat.mul_assoc]
    · rintro ⟨x, y, t⟩ ⟨rfl, rfl, he⟩
      dsimp only at he
      have hR' := RepC_gF he hR
      unfold f_X4_shareOf_L22
      dsimp only
      rw [hR'.2.2.1, if_pos (Int32.le_refl _)]
      exact ⟨_, rfl, rfl, he⟩
  have p8 := p2_8 _ h3
  unfold f_X4_shareOf
  rw [hR.2.2.1, b_shl _ hW.1]
  by_cases z : s < 2 ^ V.2.2.1
  · obtain ⟨⟨e1, e2⟩, k1, rfl, k2⟩ := key 1
    rw [if_pos (nI_lt z (by omega)), if_pos z, show am_loop (f_X4_shareOf_L22 (nI w) (nI s)) 2000 ((1 : Int64), (0 : Int32), u) = _ from k1, Option.bind_some, Nat.one_mul]
    exact ⟨e2, rfl, k2⟩
  · obtain ⟨⟨e1, e2⟩, k1, rfl, k2⟩ := key 0
    rw [if_neg (nI_nlt (by omega) (by omega)), if_neg z, show am_loop (f_X4_shareOf_L22 (nI w) (nI s)) 2000 ((0 : Int64), (0 : Int32), u) = _ from k1, Option.bind_some, Nat.zero_mul]
    exact ⟨e2, rfl, k2⟩
/-- one course: village, odds, worth, weather, what is left of the course's number -/
abbrev Crs : Type := Vil × Nat × Nat × Nat × Nat
def stepC (x : Crs) : Crs := (hourA x.1 (nI (x.2.2.2.2 % 24 / 8)) (nI (x.2.2.2.2 % 8)), x.2.1 * t1N x.1 x.2.2.2.1 (x.2.2.2.2 % 24 / 8) (x.2.2.2.2 % 8), x.2.2.1 + wN x.1 (x.2.2.2.2 % 24 / 8) x.1.2.2.1, x.2.2.2.2 % 24 / 8, x.2.2.2.2 / 24)
def crs (V : Vil) (a c : Nat) : Nat → Crs
  | 0 => (V, 1, 0, a, c)
  | k + 1 => stepC (crs V a c k)
def CK (V : Vil) (x : Crs) : Prop := WF x.1 ∧ okA x.1 ∧ x.1.2.2.1 = V.2.2.1 ∧ x.1.2.2.2.1 = nI x.2.2.2.1 ∧ x.2.2.2.1 < 3 ∧ x.2.2.2.2 < 1000
theorem okA_h {V : Vil} (h : okA V) (a b : Int32) : okA (hourA V a b) := h
theorem crs_ok {V : Vil} {a c : Nat} (hW : WF V) (hA : okA V) (hwt : V.2.2.2.1 = nI a) (ha : a < 3) (hc : c < 1000) : ∀ k, CK V (crs V a c k)
  | 0 => ⟨hW, hA, rfl, hwt, ha, hc⟩
  | k + 1 => by
    obtain ⟨h1, h2, h3, h4, h5, h6⟩ := crs_ok hW hA hwt ha hc k
    refine ⟨WF_hour h1 _ _, okA_h h2 _ _, h3, rfl, ?_, ?_⟩
    · show (crs V a c k).2.2.2.2 % 24 / 8 < 3
      omega
    · show (crs V a c k).2.2.2.2 / 24 < 1000
      omega
theorem crs_p {V : Vil} {a c : Nat} (hW : WF V) (hA : okA V) (h3 : V.2.2.1 ≤ 3) (hwt : V.2.2.2.1 = nI a) (ha : a < 3) (hc : c < 1000) : ∀ k, (crs V a c k).2.1 ≤ 10000000 ^ k
  | 0 => Nat.le_refl _
  | k + 1 => by
    obtain ⟨h1, h2, h4, -⟩ := crs_ok hW hA hwt ha hc k
    rw [Nat.pow_succ]
    exact Nat.mul_le_mul (crs_p hW hA h3 hwt ha hc k) (t1N_le7 h2 (by omega) _ _ _)
theorem crs_0 {V : Vil} {a c k : Nat} (h : (crs V a c k).2.1 = 0) : ∀ n, (crs V a c (k + n)).2.1 = 0
  | 0 => h
  | n + 1 => by
    show (crs V a c (k + n)).2.1 * _ = 0
    rw [crs_0 h n, Nat.zero_mul]
theorem t1N_m (V : Vil) (a w s : Nat) : fN V a w * (if s < 2 ^ V.2.2.1 then shN V w s V.2.2.1 else 0) = t1N V a w s := by
  unfold t1N
  split
  · rfl
  · exact Nat.mul_zero _
def eC (V : Vil) (a c n : Nat) : Nat := if lit (crs V a c n).1.1 V.2.2.1 = 0 then (crs V a c n).2.1 else 0
def wC (V : Vil) (a c n : Nat) : Nat := (crs V a c n).2.1 * (crs V a c n).2.2.1
theorem p7_14 : ∀ k, k ≤ 2 → 10000000 ^ k ≤ 100000000000000 := by decide
theorem c_fol {u : PM} {V : Vil} {N : Nig} {n c a e W : Nat} (hR : RepC u 0 V) (hN : RepN u 0 N) (hW : WF V) (hA : okA V) (h3 : V.2.2.1 ≤ 3) (ha : a < 3) (hwt : V.2.2.2.1 = nI a) (hn : n ≤ 2) (hc : c < 1000) (he : u.2.1 (28, 0, 0) 0 = lN e) (hw : u.2.1 (28, 0, 0) 1 = lN W) : ∃ u', f_X4_follow 0 (nI n) (nI c) u = some u' ∧ eqx gV8 u u' ∧ u'.2.1 (28, 0, 0) 0 = lN (e + eC V a c n) ∧ u'.2.1 (28, 0, 0) 1 = lN (W + wC V a c n) := by
  obtain ⟨u1, q1, q2, q3, q4⟩ := c_copy (v := 3) (w := 0) (by decide) hR hW hN
  have g2 : eqx gV3 u (pi (pi u1 (20, 0, 0) 0 (0 : Int32)) (20, 0, 0) 1 (0 : Int32)) := eqx.pi (eqx.pi (q2.mono (fun _ _ => gV_Cp)) rfl) rfl
  have r2 : RepC (pi (pi u1 (20, 0, 0) 0 (0 : Int32)) (20, 0, 0) 1 (0 : Int32)) 3 V := RepC_gWx (eqx.pi (eqx.pi eqx.rf rfl) rfl) q3
  have w2 : (pi (pi u1 (20, 0, 0) 0 (0 : Int32)) (20, 0, 0) 1 (0 : Int32)).1 (20, 0, 0) 0 = nI 0 := by simp [p_i]; rfl
  unfold f_X4_follow f_X1_begin
  rw [q1, Option.bind_some, Option.bind_some]
  generalize (pi (pi u1 (20, 0, 0) 0 (0 : Int32)) (20, 0, 0) 1 (0 : Int32)) = u2 at g2 r2 w2
  obtain ⟨E, k1, k2⟩ := am_inv0 (f := f_X4_follow_L22 (nI n)) (s := ((1 : Int64), nI c, (0 : Int32), u2)) (fun k t => t.1 = lN (crs V a c k).2.1 ∧ t.2.1 = nI (crs V a c k).2.2.2.2 ∧ t.2.2.1 = nI k ∧ RepC t.2.2.2 3 (crs V a c k).1 ∧ t.2.2.2.1 (20, 0, 0) 0 = nI (crs V a c k).2.2.1 ∧ eqx gV3 u t.2.2.2)
    (fun E => (∃ s, E = .inl s ∧ eqx gV3 u s ∧ (crs V a c n).2.1 = 0) ∨ ∃ s, E = .inr (lN (crs V a c n).2.1, s) ∧ RepC s 3 (crs V a c n).1 ∧ s.1 (20, 0, 0) 0 = nI (crs V a c n).2.2.1 ∧ eqx gV3 u s) n ⟨rfl, rfl, rfl, r2, w2, g2⟩ (by omega) (by
    rintro k ⟨x5, x7, x8, s⟩ hk ⟨rfl, rfl, rfl, h4, h5, h6⟩
    dsimp only at h4 h5 h6
    obtain ⟨c1, c2, c3, c4, c5, c6⟩ := crs_ok hW hA hwt ha hc k
    have cp := crs_p hW hA h3 hwt ha hc k
    have cp1 := crs_p hW hA h3 hwt ha hc (k + 1)
    have p14 := p7_14 (k + 1) (by omega)
    have cs : crs V a c (k + 1) = stepC (crs V a c k) := rfl
    generalize hX : crs V a c k = X at c1 c2 c3 c4 c5 c6 h4 h5 cp cs
    obtain ⟨V1, p1, wo1, a1, rs⟩ := X
    dsimp only at c1 c2 c3 c4 c5 c6 h4 h5 cp
    obtain ⟨u9, s1, s2⟩ := c_share (w := rs % 24 / 8) (s := rs % 8) h4 c1 c2 (by omega) (by omega)
    have f1 := fN_e c2 a1 (rs % 24 / 8)
    have cst : (crs V a c (k + 1)).2.1 = p1 * t1N V1 a1 (rs % 24 / 8) (rs % 8) := by rw [cs]; rfl
    unfold f_X4_follow_L22
    dsimp only
    rw [if_neg (nI_ge hk (by omega)), if_neg (show ¬ (2 : Int32) ≤ nI k from nI_ge (b := 2) (by omega) (by omega)), L_24, L_8, pk_rem (a := rs) (d := 24) (by omega) (by omega) (by omega), pk_div (a := rs % 24) (d := 8) (by omega) (by omega) (by omega), pk_rem (a := rs) (d := 8) (by omega) (by omega) (by omega), show s.1 (1, 3, 0) 3 = nI a1 from h4.2.2.2.1.trans c4, c_follow h4 c5 (show rs % 24 / 8 < 3 by omega), Option.bind_some, s1, Option.bind_some]
    dsimp only
    rw [f1.1, nI_l (by omega), lN_mul, t1N_m, lN_mul]
    simp only [l_eq0 (show p1 * t1N V1 a1 (rs % 24 / 8) (rs % 8) < 2 ^ 63 by rw [← cst]; omega)]
    by_cases z : p1 * t1N V1 a1 (rs % 24 / 8) (rs % 8) = 0
    · right
      rw [if_pos z]
      refine ⟨_, rfl, Or.inl ⟨u9, rfl, h6.tr (s2.mono (fun _ _ => gV_F)), ?_⟩⟩
      have := crs_0 (cst.trans z) (n - (k + 1))
      rw [show k + 1 + (n - (k + 1)) = n by omega] at this
      exact this
    · left
      rw [if_neg z]
      have h9 := RepC_gF s2 h4
      obtain ⟨t1, a1', a2, a3, a4⟩ := c_weigh h9 c1 (nI (rs % 24 / 8))
      obtain ⟨t2, b1, b2, b3⟩ := c_pass (RepC_gWx (a2.mono (fun _ _ => gWg_Wx)) h9) c1 (nI (rs % 24 / 8)) (nI (rs % 8))
      rw [a1', Option.bind_some, b1, Option.bind_some]
      refine ⟨_, rfl, ?_, ?_, nI_1 k, ?_, ?_, ?_⟩
      · rw [cst]
      · rw [cs]
        exact pk_div (a := rs) (d := 24) (by omega) (by omega) (by omega)
      · rw [cs]
        exact b3
      · rw [cs]
        show t2.1 (20, 0, 0) 0 = nI (wo1 + wN V1 (rs % 24 / 8) V1.2.2.1)
        rw [b2.1 _ _ rfl, a3, show u9.1 (20, 0, 0) 0 = nI wo1 from (s2.1 _ _ rfl).trans h5, wS_n c2]
      · exact ((h6.tr (s2.mono (fun _ _ => gV_F))).tr (a2.mono (fun _ _ => gV_Wg))).tr (b2.mono (fun _ _ => gV_Ps))) (by
    rintro ⟨x5, x7, x8, s⟩ ⟨rfl, rfl, rfl, h4, h5, h6⟩
    dsimp only at h4 h5 h6
    unfold f_X4_follow_L22
    dsimp only
    rw [if_pos (Int32.le_refl _)]
    exact ⟨_, rfl, Or.inr ⟨s, rfl, h4, h5, h6⟩⟩)
  rw [k1, Option.bind_some]
  have g8 : ∀ {s : PM}, eqx gV3 u s → eqx gV8 u s := fun h => h.mono (fun _ _ => gV8_3)
  rcases k2 with ⟨s, rfl, m1, m2⟩ | ⟨s, rfl, m1, m2, m3⟩
  · refine ⟨s, rfl, g8 m1, ?_, ?_⟩
    · rw [m1.2.1 _ _ rfl, he]
      unfold eC
      rw [m2]
      split <;> rfl
    · rw [m1.2.1 _ _ rfl, hw]
      unfold wC
      rw [m2, Nat.zero_mul]
      rfl
  · obtain ⟨c1, c2, c3, c4, c5, c6⟩ := crs_ok hW hA hwt ha hc n
    have ee : s.2.1 (28, 0, 0) 1 + lN (crs V a c n).2.1 * (s.1 (20, 0, 0) 0).toInt64 = lN (W + wC V a c n) := by
      have wb : (crs V a c n).2.2.1 < 2 ^ 31 := by
        have hb : ∀ k, (crs V a c k).2.2.1 ≤ 297 * k := fun k => by
          induction k with
          | zero => exact Nat.le_refl _
          | succ k ih =>
            obtain ⟨d1, d2, d3, -⟩ := crs_ok hW hA hwt ha hc k
            have := wN_le d2 ((crs V a c k).2.2.2.2 % 24 / 8) (crs V a c k).1.2.2.1
            show (crs V a c k).2.2.1 + wN (crs V a c k).1 ((crs V a c k).2.2.2.2 % 24 / 8) (crs V a c k).1.2.2.1 ≤ 297 * (k + 1)
            rw [d3] at this ⊢
            omega
        have := hb n
        omega
      rw [m3.2.1 _ _ rfl, hw, m2, nI_l wb, lN_mul, lN_add]
      rfl
    dsimp only
    rw [ee, c_litV (RepC_pl m1) c1.1, Option.bind_some]
    have l64 := lit_64 (crs V a c n).1.1 c1.1
    have e8 : eqx gV8 u (pl s (28, 0, 0) 1 (lN (W + wC V a c n))) := (g8 m3).pl rfl
    have v1 : (pl s (28, 0, 0) 1 (lN (W + wC V a c n))).2.1 (28, 0, 0) 1 = lN (W + wC V a c n) := pl_at _ _ _ _
    have v0 : s.2.1 (28, 0, 0) 0 = lN e := (m3.2.1 _ _ rfl).trans he
    simp only [nI_pop l64]
    have hl : (nI (lit (crs V a c n).1.1 (crs V a c n).1.2.2.1) = 0) = (lit (crs V a c n).1.1 V.2.2.1 = 0) := by
      rw [i_eq0 (by omega), c3]
    simp only [hl]
    by_cases z : lit (crs V a c n).1.1 V.2.2.1 = 0
    · rw [if_pos z]
      refine ⟨_, rfl, e8.pl rfl, ?_, ?_⟩
      · rw [p_l, if_pos ⟨rfl, rfl⟩, v0, lN_add]
        unfold eC
        rw [if_pos z]
      · rw [p_l, if_neg (by simp)]
        exact v1
    · rw [if_neg z]
      refine ⟨_, rfl, e8, ?_, v1⟩
      rw [p_l, if_neg (by simp), v0]
      unfold eC
      rw [if_neg z, Nat.add_zero]
/-- below the line -/
def bel (H : Nat) : Nat → Nat
  | 0 => 1
  | k + 1 => bel H k * 10 * 100 ^ H
theorem bel_ok : ∀ H, H ≤ 3 → ∀ n, n ≤ 2 → 0 < bel H n ∧ bel H n < 2 ^ 63 := by decide +kernel
theorem c_beg {u : PM} {H n : Nat} (h3 : H ≤ 3) (hn : n ≤ 2) : ∃ u', f_X4_begin (nI H) (nI n) u = some (nI (24 ^ n), u') ∧ eqx (fun q _ => q.1 == 28) u u' ∧ u'.2.1 (28, 0, 0) 0 = lN 0 ∧ u'.2.1 (28, 0, 0) 1 = lN 0 ∧ u'.2.1 (28, 0, 0) 2 = lN (bel H n) := by
  have inner : ∀ (t : PM) (c2 c3 c4 : Int32) (b : Nat), t.2.1 (28, 0, 0) 2 = lN b → ∃ t', am_loop (f_X4_begin_L52 (nI H) c2 c3 c4) 2000 ((0 : Int32), t) = some t' ∧ eqx (fun q k => q.1 == 28 && k == 2) t t' ∧ t'.2.1 (28, 0, 0) 2 = lN (b * 100 ^ H) := fun t c2 c3 c4 b hb => by
    refine am_cnt (f := f_X4_begin_L52 (nI H) c2 c3 c4) (s := ((0 : Int32), t)) (fun j x => x.1 = nI j ∧ eqx (fun q k => q.1 == 28 && k == 2) t x.2 ∧ x.2.2.1 (28, 0, 0) 2 = lN (b * 100 ^ j)) (fun t' => eqx (fun q k => q.1 == 28 && k == 2) t t' ∧ t'.2.1 (28, 0, 0) 2 = lN (b * 100 ^ H)) H ⟨rfl, eqx.rf, by rw [Nat.pow_zero, Nat.mul_one]; exact hb⟩ (by omega) ?_ ?_
    · rintro j ⟨x, s⟩ hj ⟨rfl, h1, h2⟩
      dsimp only at h1 h2
      unfold f_X4_begin_L52
      dsimp only
      rw [if_neg (nI_ge hj (by omega)), if_neg (show ¬ (3 : Int32) ≤ nI j from nI_ge (b := 3) (by omega) (by omega)), nI_1, h2]
      refine ⟨_, rfl, rfl, h1.pl rfl, ?_⟩
      rw [p_l, if_pos ⟨rfl, rfl⟩, show (100 : Int64) = lN 100 from rfl, lN_mul, Nat.mul_assoc, ← Nat.pow_succ]
    · rintro ⟨x, s⟩ ⟨rfl, h1, h2⟩
      unfold f_X4_begin_L52
      dsimp only
      rw [if_pos (Int32.le_refl _)]
      exact ⟨_, rfl, h1, h2⟩
  unfold f_X4_begin
  obtain ⟨⟨y6, u7⟩, k1, rfl, k2, k3, k4, k5⟩ := am_cnt (f := f_X4_begin_L20 (nI H) (nI n)) (s := ((1 : Int32), (0 : Int32), (pl (pl (pl u (28, 0, 0) 0 (0 : Int64)) (28, 0, 0) 1 (0 : Int64)) (28, 0, 0) 2 (1 : Int64)))) (fun k x => x.1 = nI (24 ^ k) ∧ x.2.1 = nI k ∧ eqx (fun q _ => q.1 == 28) u x.2.2 ∧ x.2.2.2.1 (28, 0, 0) 0 = lN 0 ∧ x.2.2.2.1 (28, 0, 0) 1 = lN 0 ∧ x.2.2.2.1 (28, 0, 0) 2 = lN (bel H k)) (fun x => x.1 = nI (24 ^ n) ∧ eqx (fun q _ => q.1 == 28) u x.2 ∧ x.2.2.1 (28, 0, 0) 0 = lN 0 ∧ x.2.2.1 (28, 0, 0) 1 = lN 0 ∧ x.2.2.1 (28, 0, 0) 2 = lN (bel H n)) n ⟨rfl, rfl, ((eqx.rf.pl rfl).pl rfl).pl rfl, rfl, rfl, rfl⟩ (by omega) (by
    rintro k ⟨x, y, s⟩ hk ⟨rfl, rfl, h1, h2, h3', h4⟩
    dsimp only at h1 h2 h3' h4
    have e4 : (pl s (28, 0, 0) 2 (s.2.1 (28, 0, 0) 2 * (10 : Int64))).2.1 (28, 0, 0) 2 = lN (bel H k * 10) := by
      rw [p_l, if_pos ⟨rfl, rfl⟩, h4, show (10 : Int64) = lN 10 from rfl, lN_mul]
    obtain ⟨t', r1, r2, r3⟩ := inner _ (nI n) (nI (24 ^ k) * (24 : Int32)) (nI k) _ e4
    unfold f_X4_begin_L20
    dsimp only
    rw [if_neg (nI_ge hk (by omega)), if_neg (show ¬ (2 : Int32) ≤ nI k from nI_ge (b := 2) (by omega) (by omega)), r1, Option.bind_some, nI_1]
    refine ⟨_, rfl, ?_, rfl, (h1.pl rfl).tr (r2.mono (fun q k z => by simp only [Bool.and_eq_false_iff]; exact Or.inl z)), ?_, ?_, r3⟩
    · dsimp only
      rw [L_24, i_mul, Nat.pow_succ]
    · dsimp only
      rw [r2.2.1 _ _ rfl, p_l, if_neg (by simp)]
      exact h2
    · dsimp only
      rw [r2.2.1 _ _ rfl, p_l, if_neg (by simp)]
      exact h3') (by
    rintro ⟨x, y, s⟩ ⟨rfl, rfl, h1, h2, h3', h4⟩
    unfold f_X4_begin_L20
    dsimp only
    rw [if_pos (Int32.le_refl _)]
    exact ⟨_, rfl, rfl, h1, h2, h3', h4⟩)
  rw [k1, Option.bind_some]
  exact ⟨u7, rfl, k2, k3, k4, k5⟩
theorem p24 : ∀ n, n ≤ 2 → 24 ^ n ≤ 576 := by decide
/-- all courses -/
theorem c_all {u : PM} {V : Vil} {N : Nig} {n a : Nat} (c2 c3 : Int32) (hR : RepC u 0 V) (hN : RepN u 0 N) (hW : WF V) (hA : okA V) (h3 : V.2.2.1 ≤ 3) (ha : a < 3) (hwt : V.2.2.2.1 = nI a) (hn : n ≤ 2) (he : u.2.1 (28, 0, 0) 0 = lN 0) (hw : u.2.1 (28, 0, 0) 1 = lN 0) : ∃ u', am_loop (f_X9_ends_L63 (nI n) c2 c3 (nI (24 ^ n))) 2000 ((0 : Int32), u) = some u' ∧ eqx gV8 u u' ∧ u'.2.1 (28, 0, 0) 0 = lN (sm (fun c => eC V a c n) (24 ^ n)) ∧ u'.2.1 (28, 0, 0) 1 = lN (sm (fun c => wC V a c n) (24 ^ n)) := by
  have p := p24 n hn
  refine am_cnt (f := f_X9_ends_L63 (nI n) c2 c3 (nI (24 ^ n))) (s := ((0 : Int32), u)) (fun j x => x.1 = nI j ∧ eqx gV8 u x.2 ∧ x.2.2.1 (28, 0, 0) 0 = lN (sm (fun c => eC V a c n) j) ∧ x.2.2.1 (28, 0, 0) 1 = lN (sm (fun c => wC V a c n) j)) (fun u' => eqx gV8 u u' ∧ u'.2.1 (28, 0, 0) 0 = lN (sm (fun c => eC V a c n) (24 ^ n)) ∧ u'.2.1 (28, 0, 0) 1 = lN (sm (fun c => wC V a c n) (24 ^ n))) (24 ^ n) ⟨rfl, eqx.rf, he, hw⟩ (by omega) ?_ ?_
  · rintro j ⟨x, s⟩ hj ⟨rfl, h1, h2, h3'⟩
    dsimp only at h1 h2 h3'
    obtain ⟨t, r1, r2, r3, r4⟩ := c_fol (c := j) (RepC_k (k_gV8 h1) rfl rfl hR) (RepN_k (k_gV8 h1) rfl hN) hW hA h3 ha hwt hn (by omega) h2 h3'
    unfold f_X9_ends_L63
    dsimp only
    rw [if_neg (nI_ge hj (by omega)), r1, Option.bind_some, nI_1]
    exact ⟨_, rfl, rfl, h1.tr r2, r3, r4⟩
  · rintro ⟨x, s⟩ ⟨rfl, h1, h2, h3'⟩
    unfold f_X9_ends_L63
    dsimp only
    rw [if_pos (Int32.le_refl _)]
    exact ⟨_, rfl, h1, h2, h3'⟩
