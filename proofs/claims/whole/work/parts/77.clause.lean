/-! a clause on both sides -/
section CL
variable {u0 u w0 w : PM} {p g0 L i : Nat} {T : Nat → Nat} {ts : List Tok}
theorem hd_m {c kd a m : Nat} {ls : List Nat} (hx : Ctx u0 w0 p L T) (hm : MWs w L T i) (ham : a + m ≤ 19) (hls : ∀ j, j < ls.length → wlA.getD (a + (0 + j)) 0 = nI (ls.getD j 0) ∧ ls.getD j 0 < 128) (hl : m = ls.length) (hM : f_X10_takesHead (nI c) w = (f_X10_takesWord (nI a) (nI m) (pi w (52, 0, 0) c (nI kd))).bind (fun (x : Int32 × PM) => if x.1 = 0 ∨ x.1 = 1 then some (x.1, x.2) else none)) : ∃ r w', f_X10_takesHead (nI c) w = some (r, w') ∧ w'.1 (52, 0, 0) c = nI kd ∧ eqx (fun q k => g17 q k || (q.1 == 52 && k == c)) w w' ∧ (((mt T L ls i).1 = true ∧ pk T L (mt T L ls i).2 = 32 ∧ r = 1 ∧ MWs w' L T ((mt T L ls i).2 + 1)) ∨ (((mt T L ls i).1 = false ∨ pk T L (mt T L ls i).2 ≠ 32) ∧ r = 0 ∧ MWs w' L T (mt T L ls i).2)) := by
  have he : eqx (fun q k => g17 q k || (q.1 == 52 && k == c)) w (pi w (52, 0, 0) c (nI kd)) := eqx.rf.pi (by simp)
  have hm1 : MWs (pi w (52, 0, 0) c (nI kd)) L T i := MWs_fr hm he rfl (fun _ => rfl) (fun _ => rfl) (by rw [p_i, if_neg (fun z => by have z2 : 40 = 52 := congrArg Prod.fst z.2; omega)]; exact hm.2.2.2.1) hm.2.2.2.2
  obtain ⟨r, w', a1, a2, a3⟩ := n_word hx ham hls hl hm1
  refine ⟨r, w', ?_, ?_, he.tr (a2.mono (fun q k z => by simp only [Bool.or_eq_false_iff] at z; exact z.1)), a3⟩
  · rw [hM, a1, Option.bind_some]
    dsimp only
    rcases a3 with ⟨-, -, rfl, -⟩ | ⟨-, rfl, -⟩
    · rw [if_pos (Or.inr rfl)]
    · rw [if_pos (Or.inl rfl)]
  · rw [a2.1 _ _ rfl]
    exact p_at _ _ _ _
theorem hd_c {t kd : Nat} (hx : Ctx u0 w0 p L T) (hc : CE u0 u p g0 L i ts) (ht : t < 6) (hC : f_X6_takeWord u = (f_X6_takeAll t u).bind (fun (x : Int32 × PM) => if x.1 = 0 then some ((-1 : Int32), x.2) else some (nI kd, x.2))) : ((mt T L (tX.getD t []) i).1 = true ∧ ∃ u', f_X6_takeWord u = some (nI kd, u') ∧ CE u0 u' p g0 L (mt T L (tX.getD t []) i).2 ts) ∨ ((mt T L (tX.getD t []) i).1 = false ∧ ∃ u', f_X6_takeWord u = some (-1, u') ∧ CE u0 u' p g0 L (mt T L (tX.getD t []) i).2 ts) := by
  rcases c_alls hx ht hc with ⟨a1, u', a2, a3⟩ | ⟨a1, u', a2, a3⟩
  · refine Or.inl ⟨a1, u', ?_, a3⟩
    rw [hC, a2, Option.bind_some]
    dsimp only
    rw [if_neg one_ne]
  · refine Or.inr ⟨a1, u', ?_, a3⟩
    rw [hC, a2, Option.bind_some]
    dsimp only
    rw [if_pos rfl]
theorem head_ok {c : Nat} (hx : Ctx u0 w0 p L T) (hcc : c < 50) (hc : CE u0 u p g0 L i ts) (hm : MWs w L T i) : ∃ (ls : List Nat) (kd : Nat), kd < 5 ∧ (∀ x, x ∈ ls → x < 256) ∧ (((mt T L ls i).1 = true ∧ ∃ u', f_X6_takeWord u = some (nI kd, u') ∧ CE u0 u' p g0 L (mt T L ls i).2 ts) ∨ ((mt T L ls i).1 = false ∧ ∃ u', f_X6_takeWord u = some (-1, u') ∧ CE u0 u' p g0 L (mt T L ls i).2 ts)) ∧
    ∃ r w', f_X10_takesHead (nI c) w = some (r, w') ∧ w'.1 (52, 0, 0) c = nI kd ∧ eqx (fun q k => g17 q k || (q.1 == 52 && k == c)) w w' ∧ (((mt T L ls i).1 = true ∧ pk T L (mt T L ls i).2 = 32 ∧ r = 1 ∧ MWs w' L T ((mt T L ls i).2 + 1)) ∨ (((mt T L ls i).1 = false ∨ pk T L (mt T L ls i).2 ≠ 32) ∧ r = 0 ∧ MWs w' L T (mt T L ls i).2)) := by
  have hlt := pkT_lt hx i
  have q1 : ∀ d, d < 128 → (cS (pk T L i) = nI d) = (pk T L i = d) := fun d hd => cS_eq hlt hd
  have q2 : ∀ d, d < 128 → (mS (pk T L i) = nI d) = (pk T L i = d) := fun d hd => mS_eq hlt hd
  have hC0 : ∀ d, d < 128 → pk T L i = d → cS (pk T L i) = nI d := fun d hd h => (q1 d hd).mpr h
  have hC1 : ∀ d, d < 128 → pk T L i ≠ d → ¬ cS (pk T L i) = nI d := fun d hd h z => h ((q1 d hd).mp z)
  have hM0 : ∀ d, d < 128 → pk T L i = d → mS (pk T L i) = nI d := fun d hd h => (q2 d hd).mpr h
  have hM1 : ∀ d, d < 128 → pk T L i ≠ d → ¬ mS (pk T L i) = nI d := fun d hd h z => h ((q2 d hd).mp z)
  have bnd := nI_in (show c < 50 by omega) (by omega)
  have clm := nI_clamp (show c < 2 ^ 31 by omega)
  by_cases h98 : pk T L i = 98
  · refine ⟨tX.getD 1 [], 1, by omega, by decide, hd_c hx hc (by omega) ?_, hd_m (a := 3) (m := 4) hx hm (by omega) (by decide) rfl ?_⟩
    · unfold f_X6_takeWord
      rw [c_sg hx hc, Option.bind_some, if_pos (show cS (pk T L i) = (98 : Int32) from hC0 98 (by omega) h98)]
      rfl
    · unfold f_X10_takesHead
      rw [n_third hx hm, Option.bind_some, n_nx hx hm, Option.bind_some, if_pos (show mS (pk T L i) = (98 : Int32) from hM0 98 (by omega) h98), if_neg bnd, clm]
      rfl
  by_cases h104 : pk T L i = 104
  · refine ⟨tX.getD 2 [], 2, by omega, by decide, hd_c hx hc (by omega) ?_, hd_m (a := 7) (m := 4) hx hm (by omega) (by decide) rfl ?_⟩
    · unfold f_X6_takeWord
      rw [c_sg hx hc, Option.bind_some, if_neg (show ¬ cS (pk T L i) = (98 : Int32) from hC1 98 (by omega) h98), if_pos (show cS (pk T L i) = (104 : Int32) from hC0 104 (by omega) h104)]
      rfl
    · unfold f_X10_takesHead
      rw [n_third hx hm, Option.bind_some, n_nx hx hm, Option.bind_some, if_neg (show ¬ mS (pk T L i) = (98 : Int32) from hM1 98 (by omega) h98), if_pos (show mS (pk T L i) = (104 : Int32) from hM0 104 (by omega) h104), if_neg bnd, clm]
      rfl
  by_cases h111 : pk T L i = 111
  · refine ⟨tX.getD 0 [], 0, by omega, by decide, hd_c hx hc (by omega) ?_, hd_m (a := 0) (m := 3) hx hm (by omega) (by decide) rfl ?_⟩
    · unfold f_X6_takeWord
      rw [c_sg hx hc, Option.bind_some, if_neg (show ¬ cS (pk T L i) = (98 : Int32) from hC1 98 (by omega) h98), if_neg (show ¬ cS (pk T L i) = (104 : Int32) from hC1 104 (by omega) h104), if_pos (show cS (pk T L i) = (111 : Int32) from hC0 111 (by omega) h111)]
      rfl
    · unfold f_X10_takesHead
      rw [n_third hx hm, Option.bind_some, n_nx hx hm, Option.bind_some, if_neg (show ¬ mS (pk T L i) = (98 : Int32) from hM1 98 (by omega) h98), if_neg (show ¬ mS (pk T L i) = (104 : Int32) from hM1 104 (by omega) h104), if_pos (show mS (pk T L i) = (111 : Int32) from hM0 111 (by omega) h111), if_neg bnd, clm]
      rfl
  have hC : f_X6_takeWord u = (f_X6_takeAll 3 u).bind (fun (x : Int32 × PM) => if x.1 = 0 then some ((-1 : Int32), x.2) else (f_X6_sign x.2).bind fun r15 => if r15 = (120 : Int32) then (f_X6_takeAll 4 x.2).bind (fun (y : Int32 × PM) => if y.1 = 0 then some ((-1 : Int32), y.2) else some ((4 : Int32), y.2)) else (f_X6_takeAll 5 x.2).bind (fun (y : Int32 × PM) => if y.1 = 0 then some ((-1 : Int32), y.2) else some ((3 : Int32), y.2))) := by
    unfold f_X6_takeWord
    rw [c_sg hx hc, Option.bind_some, if_neg (show ¬ cS (pk T L i) = (98 : Int32) from hC1 98 (by omega) h98), if_neg (show ¬ cS (pk T L i) = (104 : Int32) from hC1 104 (by omega) h104), if_neg (show ¬ cS (pk T L i) = (111 : Int32) from hC1 111 (by omega) h111)]
  have hlt2 := pkT_lt hx (i + 2)
  have hmt := mt_le [110, 101] i hc.2.2.1 (by decide) (T := T)
  -- the class behind "ne", with the word's rest
  have cls : ∀ (t kd : Nat) (b : List Nat), t < 6 → tX.getD t [] = b → (pk T L (i + 2) = 120 → t = 4 ∧ kd = 4) → (pk T L (i + 2) ≠ 120 → t = 5 ∧ kd = 3) → ((mt T L ([110, 101] ++ b) i).1 = true ∧ ∃ u', f_X6_takeWord u = some (nI kd, u') ∧ CE u0 u' p g0 L (mt T L ([110, 101] ++ b) i).2 ts) ∨ ((mt T L ([110, 101] ++ b) i).1 = false ∧ ∃ u', f_X6_takeWord u = some (-1, u') ∧ CE u0 u' p g0 L (mt T L ([110, 101] ++ b) i).2 ts) := by
    intro t kd b ht hb k1 k2
    rw [mt_app]
    rcases c_alls hx (t := 3) (by omega) hc with ⟨a1, u1, a2, a3⟩ | ⟨a1, u1, a2, a3⟩
    · have a1 : (mt T L [110, 101] i).1 = true := a1
      have a3 : CE u0 u1 p g0 L (mt T L [110, 101] i).2 ts := a3
      rw [if_pos a1]
      have e2 : (mt T L [110, 101] i).2 = i + 2 := hmt.2.2 a1
      rw [e2] at a3 ⊢
      rw [hC, a2, Option.bind_some]
      dsimp only
      rw [if_neg one_ne, c_sg hx a3, Option.bind_some]
      have r := c_alls hx ht a3
      rw [hb] at r
      by_cases h120 : pk T L (i + 2) = 120
      · obtain ⟨rfl, rfl⟩ := k1 h120
        rw [if_pos (show cS (pk T L (i + 2)) = (120 : Int32) from (cS_eq (c := 120) hlt2 (by omega)).mpr h120)]
        rcases r with ⟨b1, u2, b2, b3⟩ | ⟨b1, u2, b2, b3⟩
        · refine Or.inl ⟨b1, u2, ?_, b3⟩
          rw [b2, Option.bind_some]
          dsimp only
          rw [if_neg one_ne]
          rfl
        · refine Or.inr ⟨b1, u2, ?_, b3⟩
          rw [b2, Option.bind_some]
          dsimp only
          rw [if_pos rfl]
      · obtain ⟨rfl, rfl⟩ := k2 h120
        rw [if_neg (show ¬ cS (pk T L (i + 2)) = (120 : Int32) from fun z => h120 ((cS_eq (c := 120) hlt2 (by omega)).mp z))]
        rcases r with ⟨b1, u2, b2, b3⟩ | ⟨b1, u2, b2, b3⟩
        · refine Or.inl ⟨b1, u2, ?_, b3⟩
          rw [b2, Option.bind_some]
          dsimp only
          rw [if_neg one_ne]
          rfl
        · refine Or.inr ⟨b1, u2, ?_, b3⟩
          rw [b2, Option.bind_some]
          dsimp only
          rw [if_pos rfl]
    · have a1 : (mt T L [110, 101] i).1 = false := a1
      rw [if_neg (by rw [a1]; simp)]
      refine Or.inr ⟨a1, u1, ?_, a3⟩
      rw [hC, a2, Option.bind_some]
      dsimp only
      rw [if_pos rfl]
  by_cases h120 : pk T L (i + 2) = 120
  · refine ⟨[110, 101] ++ [120, 116], 4, by omega, by decide, cls 4 4 _ (by omega) rfl (fun _ => ⟨rfl, rfl⟩) (fun z => absurd h120 z), hd_m (a := 11) (m := 4) hx hm (by omega) (by decide) rfl ?_⟩
    unfold f_X10_takesHead
    rw [n_third hx hm, Option.bind_some, n_nx hx hm, Option.bind_some, if_neg (show ¬ mS (pk T L i) = (98 : Int32) from hM1 98 (by omega) h98), if_neg (show ¬ mS (pk T L i) = (104 : Int32) from hM1 104 (by omega) h104), if_neg (show ¬ mS (pk T L i) = (111 : Int32) from hM1 111 (by omega) h111), if_pos (show mS (pk T L (i + 2)) = (120 : Int32) from (mS_eq (c := 120) hlt2 (by omega)).mpr h120), if_neg bnd, clm, if_pos (show mS (pk T L (i + 2)) = (120 : Int32) from (mS_eq (c := 120) hlt2 (by omega)).mpr h120)]
    rfl
  · have hn := show ¬ mS (pk T L (i + 2)) = (120 : Int32) from fun z => h120 ((mS_eq (c := 120) hlt2 (by omega)).mp z)
    refine ⟨[110, 101] ++ [101, 100], 3, by omega, by decide, cls 5 3 _ (by omega) rfl (fun z => absurd z h120) (fun _ => ⟨rfl, rfl⟩), hd_m (a := 15) (m := 4) hx hm (by omega) (by decide) rfl ?_⟩
    unfold f_X10_takesHead
    rw [n_third hx hm, Option.bind_some, n_nx hx hm, Option.bind_some, if_neg (show ¬ mS (pk T L i) = (98 : Int32) from hM1 98 (by omega) h98), if_neg (show ¬ mS (pk T L i) = (104 : Int32) from hM1 104 (by omega) h104), if_neg (show ¬ mS (pk T L i) = (111 : Int32) from hM1 111 (by omega) h111), if_neg hn, if_neg bnd, clm, if_neg hn]
    rfl
def gF3 (c : Nat) (q : Key) (k : Nat) : Bool := g17 q k || (q.1 == 53 && k == c)
theorem g17_F3 {c : Nat} {q : Key} {k : Nat} (h : gF3 c q k = false) : g17 q k = false := by
  unfold gF3 at h
  simp only [Bool.or_eq_false_iff] at h
  exact h.1
/-- a weather's figure and the blank behind it -/
theorem fig_ok {c s : Nat} (hx : Ctx u0 w0 p L T) (hcc : c < 50) (hs : s < 3) (hc : CE u0 u p g0 L i ts) (hm : MWs w L T i) (h53 : w.1 (53, 0, 0) c = nI s) :
    (f_X6_takeWeather u = some (-1, u) ∧ f_X10_takesFigure (nI c) w = some (0, w)) ∨
    (isW (pk T L i) = true ∧ ∃ u1, f_X6_takeWeather u = some (nI (pk T L i - 48), u1) ∧ CE u0 u1 p g0 L (i + 1) ts ∧
      ((f_X6_take (nI 32) u1 = some (0, u1) ∧ ∃ w', f_X10_takesFigure (nI c) w = some (0, w') ∧ MWs w' L T (i + 1) ∧ eqx (gF3 c) w w') ∨
       (∃ u2 w', f_X6_take (nI 32) u1 = some (1, u2) ∧ CE u0 u2 p g0 L (i + 2) ts ∧ f_X10_takesFigure (nI c) w = some (1, w') ∧ MWs w' L T (i + 2) ∧ w'.1 (53, 0, 0) c = nI (3 * s + (pk T L i - 48)) ∧ eqx (gF3 c) w w'))) := by
  have hlt := pkT_lt hx i
  have d1 := c_wea _ hlt
  unfold f_X6_takeWeather f_X10_takesFigure
  rw [c_sg hx hc, Option.bind_some, n_nx hx hm, Option.bind_some, m_in, m_wea _ hlt, Option.bind_some]
  by_cases e : isW (pk T L i) = true
  · rw [if_pos e] at d1
    obtain ⟨a1, a2, a3⟩ := d1
    have hd := isW_lt e
    have hi : i < L := pk_i (T := T) rfl (by omega)
    have hc1 := c_at (j := i + 1) (x := u.1 (9, 0, 0) 2 + (1 : Int32)) hc (by rw [hc.2.1, nI_1]) (by omega)
    right
    rw [if_neg a1, if_pos a2, a3, if_pos e, if_neg one_ne, if_neg (nI_in (show c < 50 by omega) (by omega)), nI_clamp (show c < 2 ^ 31 by omega), Option.bind_some, h53, m_weav _ hlt e s hs, hm.2.2.2.1, nI_1]
    refine ⟨e, _, rfl, hc1, ?_⟩
    have he : eqx (gF3 c) w (pi (pi w (53, 0, 0) c (nI (3 * s + (pk T L i - 48)))) (40, 0, 0) 16 (nI (i + 1))) := (eqx.rf.pi (by simp [gF3])).pi rfl
    have hm1 := MWs_fr hm he rfl (fun _ => rfl) (fun _ => rfl) (p_at _ _ _ _) (show i + 1 ≤ L by omega)
    have hv : (pi (pi w (53, 0, 0) c (nI (3 * s + (pk T L i - 48)))) (40, 0, 0) 16 (nI (i + 1))).1 (53, 0, 0) c = nI (3 * s + (pk T L i - 48)) := by
      rw [p_i, if_neg (fun z => by have z2 : 53 = 40 := congrArg Prod.fst z.2; omega)]
      exact p_at _ _ _ _
    rcases n_tk hx hm1 (c := 32) (by omega) with ⟨e1, w1, b1, b2, b3⟩ | ⟨e1, b1⟩
    · rcases c_tk hx hc1 (c := 32) (by omega) with ⟨-, u2, c1, c2⟩ | ⟨e2, -⟩
      · right
        refine ⟨u2, w1, c1, c2, ?_, b2, (b3.1 _ _ rfl).trans hv, he.tr (b3.mono (fun _ _ => g17_F3))⟩
        rw [show f_X10_takesSign (32 : Int32) _ = _ from b1, Option.bind_some]
        dsimp only
        rw [if_pos (Or.inr rfl)]
      · exact absurd e1 e2
    · rcases c_tk hx hc1 (c := 32) (by omega) with ⟨e2, -⟩ | ⟨-, c1⟩
      · exact absurd e2 e1
      · left
        refine ⟨c1, _, ?_, hm1, he⟩
        rw [show f_X10_takesSign (32 : Int32) _ = _ from b1, Option.bind_some]
        dsimp only
        rw [if_pos (Or.inl rfl)]
  · rw [if_neg e] at d1
    left
    rw [if_neg e, if_pos rfl]
    refine ⟨?_, rfl⟩
    by_cases z : cS (pk T L i) - (48 : Int32) < 0
    · rw [if_pos z]
    · rw [if_neg z, if_neg (d1.resolve_left z)]
theorem mkCtx (hx : Ctx u0 w0 p L T) (hc : CE u0 u p g0 L i ts) (hm : MWs w L T i) : Ctx u w p L T :=
  ⟨hx.1, hx.2.1, (hc.1.2.2 _ rfl).trans hx.2.2.1, (hc.1.1 _ _ rfl).trans hx.2.2.2.1, hm.1, fun k hk => ⟨(hx.2.2.2.2.2 k hk).1, (hc.1.1 _ _ rfl).trans (hx.2.2.2.2.2 k hk).2.1, hm.2.1 k hk⟩⟩
def gEM (p g0 c : Nat) (q : Key) (k : Nat) : Bool := gM p g0 c q k || (q.1 == 55 && k == c)
theorem gM_EM {p g0 c : Nat} {q : Key} {k : Nat} (h : gEM p g0 c q k = false) : gM p g0 c q k = false := by
  unfold gEM at h
  simp only [Bool.or_eq_false_iff] at h
  exact h.1
theorem E_ok {c : Nat} (hx : Ctx u0 w0 p L T) (hc1 : 10 * p ≤ c) (hc2 : c < 10 * p + 10) (hi : 1 ≤ i) (hc : CE u0 u p g0 L i ts) (hm : MWs w L T i) (h27 : w.1 (40, 0, 0) 27 = nI (100 * p + ts.length)) (ht : tkM w (100 * p) ts) (hl : ts.length ≤ i) : ∃ r u' w', f_X6_E (0 : Int32) u = some (r, u') ∧ f_X10_takesE (nI c) w = some (r, w') ∧ eqx (gE p ts.length) u u' ∧ eqx (gEM p ts.length c) w w' ∧
    ((r = 0 ∧ ∃ j, j ≤ L ∧ u'.1 (9, 0, 0) 2 = nI j ∧ w'.1 (40, 0, 0) 16 = nI j) ∨ (r = 1 ∧ ∃ (j : Nat) (new : List Tok), i < j ∧ j ≤ L ∧ u'.1 (9, 0, 0) 2 = nI j ∧ w'.1 (40, 0, 0) 16 = nI j ∧ u'.1 (11, p, 0) 1 = nI (ts ++ new).length ∧ tkC u' p 0 (ts ++ new) ∧ w'.1 (40, 0, 0) 27 = nI (100 * p + (ts ++ new).length) ∧ tkM w' (100 * p) (ts ++ new) ∧ w'.1 (55, 0, 0) c = nI (100 * p + ts.length) ∧ w'.1 (56, 0, 0) c = nI (100 * p + (ts ++ new).length) ∧ dpT new 0 = some 1 ∧ (ts ++ new).length ≤ j)) := by
  have hp5 := hx.2.1
  have hLL := hx.1
  have hiL := hc.2.2.1
  have n57 : ¬ ((57, 0, 0) : Key) = (40, 0, 0) := fun z => by have z2 : 57 = 40 := congrArg Prod.fst z; omega
  have n575 : ¬ ((57, 0, 0) : Key) = (55, 0, 0) := fun z => by have z2 : 57 = 55 := congrArg Prod.fst z; omega
  have n405 : ¬ ((40, 0, 0) : Key) = (55, 0, 0) := fun z => by have z2 : 40 = 55 := congrArg Prod.fst z; omega
  have e1 : eqx (gEM p ts.length c) w (pi (pi (pi w (40, 0, 0) 28 (0 : Int32)) (40, 0, 0) 29 (0 : Int32)) (55, 0, 0) c (w.1 (40, 0, 0) 27)) := ((eqx.rf.pi rfl).pi rfl).pi (by simp [gEM])
  have v55 : (pi (pi (pi w (40, 0, 0) 28 (0 : Int32)) (40, 0, 0) 29 (0 : Int32)) (55, 0, 0) c (w.1 (40, 0, 0) 27)).1 (55, 0, 0) c = nI (100 * p + ts.length) := (p_at _ _ _ _).trans h27
  have v : ∀ k, k ≠ 28 → k ≠ 29 → (pi (pi (pi w (40, 0, 0) 28 (0 : Int32)) (40, 0, 0) 29 (0 : Int32)) (55, 0, 0) c (w.1 (40, 0, 0) 27)).1 (40, 0, 0) k = w.1 (40, 0, 0) k := fun k k1 k2 => by
    rw [p_i, if_neg (fun z => n405 z.2), p_i, if_neg (fun z => k2 z.1), p_i, if_neg (fun z => k1 z.1)]
  have v28 : (pi (pi (pi w (40, 0, 0) 28 (0 : Int32)) (40, 0, 0) 29 (0 : Int32)) (55, 0, 0) c (w.1 (40, 0, 0) 27)).1 (40, 0, 0) 28 = 0 := by
    rw [p_i, if_neg (fun z => n405 z.2), p_i, if_neg (by simp)]
    exact p_at _ _ _ _
  have v29 : (pi (pi (pi w (40, 0, 0) 28 (0 : Int32)) (40, 0, 0) 29 (0 : Int32)) (55, 0, 0) c (w.1 (40, 0, 0) 27)).1 (40, 0, 0) 29 = 0 := by
    rw [p_i, if_neg (fun z => n405 z.2)]
    exact p_at _ _ _ _
  have v57 : ∀ k, (pi (pi (pi w (40, 0, 0) 28 (0 : Int32)) (40, 0, 0) 29 (0 : Int32)) (55, 0, 0) c (w.1 (40, 0, 0) 27)).1 (57, 0, 0) k = w.1 (57, 0, 0) k := fun k => by
    rw [p_i, if_neg (fun z => n575 z.2), p_i, if_neg (fun z => n57 z.2), p_i, if_neg (fun z => n57 z.2)]
  unfold f_X10_takesE
  rw [if_neg (nI_in (show c < 50 by omega) (by omega)), nI_clamp (show c < 2 ^ 31 by omega)]
  generalize pi (pi (pi w (40, 0, 0) 28 (0 : Int32)) (40, 0, 0) 29 (0 : Int32)) (55, 0, 0) c (w.1 (40, 0, 0) 27) = w1 at e1 v55 v v28 v29 v57 ⊢
  have hm1 : MWs w1 L T i := MWs_fr hm e1 rfl (fun _ => rfl) (fun _ => rfl) ((v 16 (by omega) (by omega)).trans hm.2.2.2.1) hm.2.2.2.2
  have hx1 : Ctx u w1 p L T := mkCtx hx hc hm1
  have hcE : CE u u p ts.length L i ts := ⟨eqx.rf, hc.2.1, hiL, hc.2.2.2.1, hc.2.2.2.2.1, Nat.le_refl _⟩
  have hmE : ME w1 w1 p ts.length c L i ts [] := ⟨eqx.rf, hm1.2.2.2.1, hiL, (v 27 (by omega) (by omega)).trans h27, tkM_fr (fun k _ => v57 k) ht, v28, v29, fun j hj => by simp at hj, by simpa using hl, Nat.le_refl _⟩
  obtain ⟨r, u', a1, a2⟩ := either_ok (te := fun _ _ => none) hx1 (part_ok (g0 := ts.length) hx1 hc1 hc2 8 0 (by omega) (by omega) (by omega)) i u w1 ts [] hcE hmE (Or.inl rfl) rfl hi
  have a1 : f_X6_E (0 : Int32) u = some (r, u') := a1
  rcases a2 with ⟨rfl, j, b1, b2, b3, w', mm, b4, b5, b6, b7⟩ | ⟨rfl, j, new, b1, b2, b3, h38, h124, w2, mm, jb, kb, tsM, b4, b5, b6, b7⟩
  · have := b7 (2000 - mm)
    rw [show 2000 - mm + mm = 2000 by omega] at this
    refine ⟨0, u', w', a1, ?_, b1, e1.tr (b6.mono (fun _ _ => gM_EM)), Or.inl ⟨rfl, j, b3, b2, b5⟩⟩
    rw [this]
    rfl
  · obtain ⟨w3, d1, d2, d3⟩ := it_top (c := c) hx1 hc1 hc2 b5 h38 h124
    rw [b6] at d2 d3
    have := b7 (1999 - mm + 1)
    have hj := b2.2.2.1
    rw [show 1999 - mm + 1 + mm = 2000 by omega, am_loop_e d1] at this
    refine ⟨1, u', w3, a1, ?_, b2.1, e1.tr (d2.1.mono (fun _ _ => gM_EM)), Or.inr ⟨rfl, j, new, b1, hj, b2.2.1, d2.2.1, b2.2.2.2.1, b2.2.2.2.2.1, d2.2.2.2.1, d2.2.2.2.2.1, ?_, d3, b3 0 (by omega), ?_⟩⟩
    · rw [this]
      rfl
    · rw [d2.1.1 _ _ rfl]
      exact v55
    · have := d2.2.2.2.2.2.2.2.2.1
      simpa using this
end CL
