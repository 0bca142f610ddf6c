/-! THE LAW: rules over both worlds and the script -/
theorem room_le {s : State} {pl : Platform} {R R' : Room} (h1 : R'.frames ≤ R.frames) (h2 : R'.cells ≤ R.cells) (h3 : R'.slots ≤ R.slots) (h4 : R'.locals ≤ R.locals) (h : s.hasRoom pl R = true) : s.hasRoom pl R' = true := by
  simp only [State.hasRoom, Bool.and_eq_true, decide_eq_true_eq] at h ⊢
  obtain ⟨⟨⟨⟨a, b, c, d, e, f⟩, g⟩, i⟩, j⟩ := h
  exact ⟨⟨⟨⟨by omega, by omega, by omega, by omega, by omega, f⟩, by omega⟩, by omega⟩, j⟩
theorem W_room {p : Program} {l : Launch} {e : Env} {R R' : Room} {s : State} {m : MethodId} {args : Array Value} {below : List Frame} {meth : Method} {c : Code} {H : Heap} {locs : List Loc} {cells slots : Nat} {Q : State → Prop} {g : JFrame} (h1 : R'.frames ≤ R.frames) (h2 : R'.cells ≤ R.cells) (h3 : R'.slots ≤ R.slots) (h4 : R'.locals ≤ R.locals)
    (k : W p l e R' s m args below meth c H locs cells slots Q g) : W p l e R s m args below meth c H locs cells slots Q g := fun T hT X => k T hT { X with room := room_le h1 h2 h3 h4 X.room }
/-- the end: some memory at these keys, with this answer -/
def am_QE (b : BA) (D : va_G) (cT : Nat → ClassId) (A : Nat → Prop) (r : Option AV) (ks : List Key) : Array Value → State → Outcome → State → Prop := fun a st o t => ∃ M, am_Q b D cT A false r ks M a st o t
def XS (E : BA → (Nat → Prop) → State → Prop) (l : Launch) (md : MD) (d mc ms : Nat) (al : Bool) (T : Option AV × List Key × AM) (ks : List Key) (kc kn : Nat) (pc : Nat) (L : List (Option AV)) (st : List AV) (M : AM) : Prop :=
  ∀ (p : Program) (e : Env) (s : State) (m : MethodId) (args : Array Value) (below : List Frame) (meth : Method) (c : Code) (H : Heap) (locs : List Loc) (b : BA) (D : va_G) (cT : Nat → ClassId) (A : Nat → Prop) (ls : Array Slot),
    am_X0 md p s m args meth c → am_X1 b D cT A al ks M s H locs → E b A s → lv_has ls md.2.2.1 (am_lv b 0 L) →
    W p l e (am_rm d mc ms) s m args below meth c H locs kc kn (MQ below (am_QE b D cT A T.1 T.2.1) args s mc ms A) (F0 m pc ls (st.map (am_cv b)))
/-- the script is an old array, of L ints xs -/
def sE (N : Nat) (xs : Nat → Int32) : BA → (Nat → Prop) → State → Prop := fun b A s => va_X (b.2.1 100) N xs s s.heap ∧ b.2.1 100 < s.heap.size ∧ ¬ A (b.2.1 100)
/-- both memories in one -/
def mg (u w : PM) : AM := (fun q k => if q.1 < 40 then u.1 q k else w.1 q k, fun q k => if q.1 < 40 then u.2.1 q k else w.2.1 q k, fun q k => if q.1 < 40 then lay u.2.2 q k else lay w.2.2 q k)
theorem kC_lt : kC.all (fun q => decide (q.1 < 40)) = true := by decide +kernel
theorem kM_ge : kM.all (fun q => !decide (q.1 < 40)) = true := by decide +kernel
theorem mg_C (b : BA) (cT : Nat → ClassId) (u w : PM) : am_w b cT kC (mg u w) = am_w b cT kC (en u) := by
  unfold am_w
  refine List.map_congr_left (fun q hq => ?_)
  have h := List.all_eq_true.mp kC_lt q hq
  rw [decide_eq_true_eq] at h
  rw [am_ce_congr b cT (M := en u) (M' := mg u w) (funext fun k => if_pos h) (funext fun k => if_pos h) (funext fun k => if_pos h)]
theorem mg_M (b : BA) (cT : Nat → ClassId) (u w : PM) : am_w b cT kM (mg u w) = am_w b cT kM (en w) := by
  unfold am_w
  refine List.map_congr_left (fun q hq => ?_)
  have h := List.all_eq_true.mp kM_ge q hq
  rw [Bool.not_eq_true', decide_eq_false_iff_not] at h
  rw [am_ce_congr b cT (M := en w) (M' := mg u w) (funext fun k => if_neg h) (funext fun k => if_neg h) (funext fun k => if_neg h)]
theorem mg_A (b : BA) (cT : Nat → ClassId) (u w : PM) : am_w b cT kA (mg u w) = am_w b cT kC (en u) ++ am_w b cT kM (en w) := by
  rw [← mg_C b cT u w, ← mg_M b cT u w]
  unfold am_w kA
  rw [List.map_append]
theorem am_len (b : BA) (cT : Nat → ClassId) (ks : List Key) (M : AM) : (am_w b cT ks M).length = ks.length := List.length_map _
/-- a call that works in one part of the world: k1 before or behind k2 -/
theorem am_partW {b : BA} {D : va_G} {cT : Nat → ClassId} {A : Nat → Prop} {s : State} {H H1 : Heap} {w1 w2 v1 : va_W} (hP : va_P D vwCl (w1 ++ w2) H) (hD : va_D A (w1 ++ w2)) (hP1 : va_P D vwCl v1 H1) (hD1 : va_D (va_A w1 H.size) v1) (hA : ∀ q, va_A w1 H.size q → A q) (hk : ∀ q : Nat, q < H.size → ¬ va_A w1 H.size q → H1[q]? = H[q]?) :
    va_P D vwCl (v1 ++ w2) H1 ∧ va_D A (v1 ++ w2) := by
  have at2 : ∀ (k : Nat) (x : Nat × va_E), w2[k]? = some x → (w1 ++ w2)[w1.length + k]? = some x := fun k x h => by
    rw [List.getElem?_append_right (by omega), Nat.add_sub_cancel_left]
    exact h
  have out : ∀ (k : Nat) (x : Nat × va_E), w2[k]? = some x → x.1 < H.size ∧ ¬ va_A w1 H.size x.1 := fun k x h => by
    have hl := (hP _ x (at2 k x h)).lt
    refine ⟨hl, fun h9 => ?_⟩
    rcases h9 with ⟨j, e, hj⟩ | h9
    · have hj2 : (w1 ++ w2)[j]? = some (x.1, e) := by
        rw [List.getElem?_append_left ((List.getElem?_eq_some_iff.mp hj).1)]
        exact hj
      have := hD.1 _ _ x (x.1, e) (at2 k x h) hj2 rfl
      have := (List.getElem?_eq_some_iff.mp hj).1
      omega
    · omega
  refine ⟨hP1.app (fun k x h => ?_), (hD1.weaken (fun _ q _ h => hA q.1 h)).app ⟨fun i j x y hx hy hxy => ?_, fun k x h => hD.2 _ x (at2 k x h)⟩ (fun i j x y hx hy hxy => ?_)⟩
  · obtain ⟨g1, g2⟩ := out k x h
    exact (hP _ x (at2 k x h)).kept (hk x.1 g1 g2)
  · have := hD.1 _ _ x y (at2 i x hx) (at2 j y hy) hxy
    omega
  · exact (out j y hy).2 (by rw [← hxy]; exact hD1.2 i x hx)
theorem va_Psw {D : va_G} {H : Heap} {w1 w2 : va_W} (h : va_P D vwCl (w1 ++ w2) H) : va_P D vwCl (w2 ++ w1) H := by
  have h1 : va_P D vwCl w1 H := fun k q hk => h k q (by rw [List.getElem?_append_left ((List.getElem?_eq_some_iff.mp hk).1)]; exact hk)
  have h2 : va_P D vwCl w2 H := fun k q hk => h (w1.length + k) q (by rw [List.getElem?_append_right (by omega), Nat.add_sub_cancel_left]; exact hk)
  exact h2.app h1
theorem va_Dsw {A : Nat → Prop} {w1 w2 : va_W} (h : va_D A (w1 ++ w2)) : va_D A (w2 ++ w1) := by
  have a1 : ∀ (k : Nat) (q : Nat × va_E), w1[k]? = some q → (w1 ++ w2)[k]? = some q := fun k q hk => by rw [List.getElem?_append_left ((List.getElem?_eq_some_iff.mp hk).1)]; exact hk
  have a2 : ∀ (k : Nat) (q : Nat × va_E), w2[k]? = some q → (w1 ++ w2)[w1.length + k]? = some q := fun k q hk => by rw [List.getElem?_append_right (by omega), Nat.add_sub_cancel_left]; exact hk
  have h1 : va_D A w1 := ⟨fun i j x y hx hy hxy => h.1 i j x y (a1 i x hx) (a1 j y hy) hxy, fun k q hk => h.2 k q (a1 k q hk)⟩
  have h2 : va_D A w2 := ⟨fun i j x y hx hy hxy => by have := h.1 _ _ x y (a2 i x hx) (a2 j y hy) hxy; omega, fun k q hk => h.2 _ q (a2 k q hk)⟩
  refine h2.app h1 (fun i j x y hx hy hxy => ?_)
  have := h.1 _ _ x y (a2 i x hx) (a1 j y hy) hxy
  have := (List.getElem?_eq_some_iff.mp hy).1
  omega
section LR
variable {E : BA → (Nat → Prop) → State → Prop} {l : Launch} {md md2 : MD} {d d2 mc ms mc2 ms2 : Nat} {al : Bool} {T T2 : Option AV × List Key × AM} {ks : List Key} {kc kn pc : Nat} {L L' : List (Option AV)} {st as : List AV} {M M' : AM} {q : Key} {k : Nat} {u u' w w' : PM} {r : Option AV}
set_option maxHeartbeats 2000000 in
theorem s_callC {idx n : Nat} (hw : MW md.1.cls idx md2 n) (hv : MV md2) (hE2 : Ev l md2 d2 0 0 false (vR (0, 0, 0) :: as) kC (en u) (r, kC, en u')) (hdd : d2 + 1 ≤ d) (hd : decode md.2.1 pc = .ok (.invokevirtual idx, 3)) (hcl : md2.1.cls = RX9) (hn : as.length = n) (hst : (st.map am_cat).sum ≤ 8) (hcm : kc ≤ mc) (hsm : kn ≤ ms)
    (kk : XS E l md d mc ms false T kA kc kn (pc + 3) L (r.toList ++ st) (mg u' w)) : XS E l md d mc ms false T kA kc kn pc L (as.reverse ++ vR (0, 0, 0) :: st) (mg u w) := by
  intro p e s m args below meth c H locs b D cT A ls h0 h1 hE hl9
  obtain ⟨w1, w2, w3, w4, w5⟩ := hw
  have hP0 := h1.1
  have hD0 := h1.2.1
  rw [mg_A] at hP0 hD0
  skip
  have hX1 : am_X1 b D cT A false kC (en u) s H locs := ⟨fun k q hk => hP0 k q (by rw [List.getElem?_append_left ((List.getElem?_eq_some_iff.mp hk).1)]; exact hk), ⟨fun i j x y hx hy hxy => hD0.1 i j x y (by rw [List.getElem?_append_left ((List.getElem?_eq_some_iff.mp hx).1)]; exact hx) (by rw [List.getElem?_append_left ((List.getElem?_eq_some_iff.mp hy).1)]; exact hy) hxy, fun k q hk => hD0.2 k q (by rw [List.getElem?_append_left ((List.getElem?_eq_some_iff.mp hk).1)]; exact hk)⟩, h1.2.2.1, h1.2.2.2.1, h1.2.2.2.2.1, fun h => by cases h⟩
  obtain ⟨i, hi, hwi⟩ := am_w_at (b := b) (cT := cT) (M := en u) (kC_mem (s := 0) (by decide) (by decide) (by decide) : ((0, 0, 0) : Key) ∈ kC)
  rw [am_ce_obj b cT _ (by decide)] at hwi
  have hcw : ∃ F N, vwCl[am_kd ((0, 0, 0) : Key).1]? = some (md2.1.cls, F, N) := by
    rw [hcl]
    exact ⟨_, _, rfl⟩
  obtain ⟨F9, N9, hcw⟩ := hcw
  have hrun : va_Run p l e (am_rm d mc ms) s m args below meth c H locs kc kn 0 0 (F0 m pc ls (List.map (am_cv b) (as.reverse ++ vR (0, 0, 0) :: st))) (st.map (am_cv b)) (am_Q b D cT (va_A (am_w b cT kC (en u)) H.size) false r kC (en u') (Value.ref (am_ad b (0, 0, 0)) :: as.map (am_cv b)).toArray) (va_A (am_w b cT kC (en u)) H.size) := by
    rw [am_mapA]
    refine va_runV (Ts := Wd) (own := md.1.cls) (C := md2.1.cls) (As := as.map (am_cv b)) ⟨h0.1, h0.2.1, h0.2.2.2.2.2.2.1, h0.2.2.2.2.1, h0.2.2.2.1⟩ (hE2 b D cT H.size)
      (cwV n h0.2.2.2.1 (fun w hw => ?_) rfl rfl rfl ⟨rfl, w4.1, w4.2.1, w4.2.2⟩ ⟨?_, ?_⟩) ⟨am_blind, va_recv h1.2.2.1 hX1.1 hcw hwi, fun U hU hW => am_pre hX1 _ U hU hW⟩ rfl (by rw [List.length_map]; exact hn) hl9.1 rfl (lv_room (by rw [am_cat_sum]; exact hst)) hd ⟨hcm, hsm⟩
    · have hm : w ∈ Wd := by
        unfold wsV at hw
        rcases List.mem_append.mp hw with h | h
        · simp only [List.mem_cons, List.not_mem_nil, or_false] at h
          rcases h with rfl | rfl | rfl | rfl
          · exact w1
          · exact hv.1
          · exact hv.2
          · exact w2
        · exact (am_good w3 w h).1
      exact ⟨hm, Wd_good hm⟩
    · show d2 + 1 ≤ d
      exact hdd
    · show 8 + (md2.2.2.1 + 11) + 40 * d2 ≤ 40 * d
      omega
  intro T0 hT X
  obtain ⟨v, st₀, t, T', L9, g0, X', hL, e1, e2, ⟨⟨hv9, hP2, hK2, hD2, -⟩, hz, hk⟩, st9⟩ := hrun T0 hT X
  cases hv9
  rw [g0] at hz hk
  have hA1 := am_freeA hX1
  obtain ⟨p1, p2⟩ := am_partW (b := b) (cT := cT) (s := s) hP0 hD0 (by rw [← e1] at hP2; exact hP2) hD2 hA1 (fun q g1 g2 => by rw [e1]; exact hk q g1 g2)
  have hS := h1.2.2.2.1
  skip
  obtain ⟨t2, a1, b1⟩ := kk p e s m args below meth c T'.heap (locs ++ L9) b D cT A ls h0 ⟨by rw [mg_A]; exact p1, by rw [mg_A]; exact p2, h1.2.2.1,
    ⟨Nat.le_trans hS.1 (by rw [e1]; exact hz), fun q g1 g2 => by rw [e1, hk q (Nat.lt_of_lt_of_le g1 hS.1) (fun z => g2 (hA1 q z))]; exact hS.2.1 q g1 g2, fun q hq => by
      rcases List.mem_append.mp hq with h | h
      · exact hS.2.2 q h
      · exact hA1 _ (hL q h)⟩, h1.2.2.2.2.1, fun h => by cases h⟩ hE hl9 T' rfl X'
  rw [← am_mapR] at a1
  exact ⟨t2, st9 t2 a1, b1⟩
set_option maxHeartbeats 2000000 in
theorem s_callM {idx n : Nat} (hw : MW md.1.cls idx md2 n) (hv : MV md2) (hE2 : Ev l md2 d2 0 0 false (vR (40, 0, 0) :: as) kM (en w) (r, kM, en w')) (hdd : d2 + 1 ≤ d) (hd : decode md.2.1 pc = .ok (.invokevirtual idx, 3)) (hcl : md2.1.cls = RX10) (hn : as.length = n) (hst : (st.map am_cat).sum ≤ 8) (hcm : kc ≤ mc) (hsm : kn ≤ ms)
    (kk : XS E l md d mc ms false T kA kc kn (pc + 3) L (r.toList ++ st) (mg u w')) : XS E l md d mc ms false T kA kc kn pc L (as.reverse ++ vR (40, 0, 0) :: st) (mg u w) := by
  intro p e s m args below meth c H locs b D cT A ls h0 h1 hE hl9
  obtain ⟨w1, w2, w3, w4, w5⟩ := hw
  have hP0 := h1.1
  have hD0 := h1.2.1
  rw [mg_A] at hP0 hD0
  replace hP0 := va_Psw hP0
  replace hD0 := va_Dsw hD0
  have hX1 : am_X1 b D cT A false kM (en w) s H locs := ⟨fun k q hk => hP0 k q (by rw [List.getElem?_append_left ((List.getElem?_eq_some_iff.mp hk).1)]; exact hk), ⟨fun i j x y hx hy hxy => hD0.1 i j x y (by rw [List.getElem?_append_left ((List.getElem?_eq_some_iff.mp hx).1)]; exact hx) (by rw [List.getElem?_append_left ((List.getElem?_eq_some_iff.mp hy).1)]; exact hy) hxy, fun k q hk => hD0.2 k q (by rw [List.getElem?_append_left ((List.getElem?_eq_some_iff.mp hk).1)]; exact hk)⟩, h1.2.2.1, h1.2.2.2.1, h1.2.2.2.2.1, fun h => by cases h⟩
  obtain ⟨i, hi, hwi⟩ := am_w_at (b := b) (cT := cT) (M := en w) (kM_mem (s := 40) (by decide) : ((40, 0, 0) : Key) ∈ kM)
  rw [am_ce_obj b cT _ (by decide)] at hwi
  have hcw : ∃ F N, vwCl[am_kd ((40, 0, 0) : Key).1]? = some (md2.1.cls, F, N) := by
    rw [hcl]
    exact ⟨_, _, rfl⟩
  obtain ⟨F9, N9, hcw⟩ := hcw
  have hrun : va_Run p l e (am_rm d mc ms) s m args below meth c H locs kc kn 0 0 (F0 m pc ls (List.map (am_cv b) (as.reverse ++ vR (40, 0, 0) :: st))) (st.map (am_cv b)) (am_Q b D cT (va_A (am_w b cT kM (en w)) H.size) false r kM (en w') (Value.ref (am_ad b (40, 0, 0)) :: as.map (am_cv b)).toArray) (va_A (am_w b cT kM (en w)) H.size) := by
    rw [am_mapA]
    refine va_runV (Ts := Wd) (own := md.1.cls) (C := md2.1.cls) (As := as.map (am_cv b)) ⟨h0.1, h0.2.1, h0.2.2.2.2.2.2.1, h0.2.2.2.2.1, h0.2.2.2.1⟩ (hE2 b D cT H.size)
      (cwV n h0.2.2.2.1 (fun w hw => ?_) rfl rfl rfl ⟨rfl, w4.1, w4.2.1, w4.2.2⟩ ⟨?_, ?_⟩) ⟨am_blind, va_recv h1.2.2.1 hX1.1 hcw hwi, fun U hU hW => am_pre hX1 _ U hU hW⟩ rfl (by rw [List.length_map]; exact hn) hl9.1 rfl (lv_room (by rw [am_cat_sum]; exact hst)) hd ⟨hcm, hsm⟩
    · have hm : w ∈ Wd := by
        unfold wsV at hw
        rcases List.mem_append.mp hw with h | h
        · simp only [List.mem_cons, List.not_mem_nil, or_false] at h
          rcases h with rfl | rfl | rfl | rfl
          · exact w1
          · exact hv.1
          · exact hv.2
          · exact w2
        · exact (am_good w3 w h).1
      exact ⟨hm, Wd_good hm⟩
    · show d2 + 1 ≤ d
      exact hdd
    · show 8 + (md2.2.2.1 + 11) + 40 * d2 ≤ 40 * d
      omega
  intro T0 hT X
  obtain ⟨v, st₀, t, T', L9, g0, X', hL, e1, e2, ⟨⟨hv9, hP2, hK2, hD2, -⟩, hz, hk⟩, st9⟩ := hrun T0 hT X
  cases hv9
  rw [g0] at hz hk
  have hA1 := am_freeA hX1
  obtain ⟨p1, p2⟩ := am_partW (b := b) (cT := cT) (s := s) hP0 hD0 (by rw [← e1] at hP2; exact hP2) hD2 hA1 (fun q g1 g2 => by rw [e1]; exact hk q g1 g2)
  have hS := h1.2.2.2.1
  replace p1 := va_Psw p1
  replace p2 := va_Dsw p2
  obtain ⟨t2, a1, b1⟩ := kk p e s m args below meth c T'.heap (locs ++ L9) b D cT A ls h0 ⟨by rw [mg_A]; exact p1, by rw [mg_A]; exact p2, h1.2.2.1,
    ⟨Nat.le_trans hS.1 (by rw [e1]; exact hz), fun q g1 g2 => by rw [e1, hk q (Nat.lt_of_lt_of_le g1 hS.1) (fun z => g2 (hA1 q z))]; exact hS.2.1 q g1 g2, fun q hq => by
      rcases List.mem_append.mp hq with h | h
      · exact hS.2.2 q h
      · exact hA1 _ (hL q h)⟩, h1.2.2.2.2.1, fun h => by cases h⟩ hE hl9 T' rfl X'
  rw [← am_mapR] at a1
  exact ⟨t2, st9 t2 a1, b1⟩

theorem s_iconst {n : Int} {v : Int32} (hd : decode md.2.1 pc = .ok (.iconst n, 1)) (hv : Int32.ofInt n = v) (k : XS E l md d mc ms al T ks kc kn (pc + 1) L (vI v :: st) M) : XS E l md d mc ms al T ks kc kn pc L st M := fun p e s m args below meth c H locs b D cT A ls h0 h1 hE hl => lv_iconst h0.1 h0.2.1 hd hv (k p e s m args below meth c H locs b D cT A ls h0 h1 hE hl)
theorem s_bipush {n : Int} {v : Int32} (hd : decode md.2.1 pc = .ok (.bipush n, 2)) (hv : (Int8.ofInt n).toInt32 = v) (k : XS E l md d mc ms al T ks kc kn (pc + 2) L (vI v :: st) M) : XS E l md d mc ms al T ks kc kn pc L st M := fun p e s m args below meth c H locs b D cT A ls h0 h1 hE hl => lv_bipush h0.1 h0.2.1 hd hv (k p e s m args below meth c H locs b D cT A ls h0 h1 hE hl)
theorem s_ldc2 {i : Nat} {v : Int64} (hd : decode md.2.1 pc = .ok (.ldc2_w i, 3)) (hc : Cond.constantLong md.1.cls i v ∈ Wd) (k : XS E l md d mc ms al T ks kc kn (pc + 3) L (vJ v :: st) M) : XS E l md d mc ms al T ks kc kn pc L st M := fun p e s m args below meth c H locs b D cT A ls h0 h1 hE hl => lv_ldc2 h0.1 h0.2.1 h0.2.2.2.2.1 (h0.2.2.2.1 _ hc) hd (k p e s m args below meth c H locs b D cT A ls h0 h1 hE hl)
theorem s_iload_n {i : Fin 4} {x : Int32} (hd : decode md.2.1 pc = .ok (.iload_n i, 1)) (hi : L[(i : Nat)]? = some (some (vI x))) (k : XS E l md d mc ms al T ks kc kn (pc + 1) L (vI x :: st) M) : XS E l md d mc ms al T ks kc kn pc L st M := fun p e s m args below meth c H locs b D cT A ls h0 h1 hE hl => lv_iload_n h0.1 h0.2.1 hd rfl (am_lv_at hl hi) (k p e s m args below meth c H locs b D cT A ls h0 h1 hE hl)
theorem s_aload_n {i : Fin 4} {x : Key} (hd : decode md.2.1 pc = .ok (.aload_n i, 1)) (hi : L[(i : Nat)]? = some (some (vR x))) (k : XS E l md d mc ms al T ks kc kn (pc + 1) L (vR x :: st) M) : XS E l md d mc ms al T ks kc kn pc L st M := fun p e s m args below meth c H locs b D cT A ls h0 h1 hE hl => lv_aload_n h0.1 h0.2.1 hd rfl (am_lv_at hl hi) (k p e s m args below meth c H locs b D cT A ls h0 h1 hE hl)
theorem s_istore_n {i : Fin 4} {x : Int32} (hd : decode md.2.1 pc = .ok (.istore_n i, 1)) (hn : (i : Nat) < md.2.2.1) (hs : am_st1 L (i : Nat) (vI x) = some L') (k : XS E l md d mc ms al T ks kc kn (pc + 1) L' st M) : XS E l md d mc ms al T ks kc kn pc L (vI x :: st) M := fun p e s m args below meth c H locs b D cT A ls h0 h1 hE hl => lv_istore_n h0.1 h0.2.1 hd rfl hl hn rfl (fun ls' hl' => k p e s m args below meth c H locs b D cT A ls' h0 h1 hE (am_lv_st1 hs rfl hl'))
theorem s_astore_n {i : Fin 4} {x : Key} (hd : decode md.2.1 pc = .ok (.astore_n i, 1)) (hn : (i : Nat) < md.2.2.1) (hs : am_st1 L (i : Nat) (vR x) = some L') (k : XS E l md d mc ms al T ks kc kn (pc + 1) L' st M) : XS E l md d mc ms al T ks kc kn pc L (vR x :: st) M := fun p e s m args below meth c H locs b D cT A ls h0 h1 hE hl => lv_astore_n h0.1 h0.2.1 hd rfl hl hn rfl (fun ls' hl' => k p e s m args below meth c H locs b D cT A ls' h0 h1 hE (am_lv_st1 hs rfl hl'))
theorem s_iadd {x y : Int32} (hd : decode md.2.1 pc = .ok (.iadd, 1))  (k : XS E l md d mc ms al T ks kc kn (pc + 1) L (vI (x + y) :: st) M) : XS E l md d mc ms al T ks kc kn pc L (vI y :: vI x :: st) M := fun p e s m args below meth c H locs b D cT A ls h0 h1 hE hl => lv_iadd h0.1 h0.2.1 hd  (k p e s m args below meth c H locs b D cT A ls h0 h1 hE hl)
theorem s_isub {x y : Int32} (hd : decode md.2.1 pc = .ok (.isub, 1))  (k : XS E l md d mc ms al T ks kc kn (pc + 1) L (vI (x - y) :: st) M) : XS E l md d mc ms al T ks kc kn pc L (vI y :: vI x :: st) M := fun p e s m args below meth c H locs b D cT A ls h0 h1 hE hl => lv_isub h0.1 h0.2.1 hd  (k p e s m args below meth c H locs b D cT A ls h0 h1 hE hl)
theorem s_iand {x y : Int32} (hd : decode md.2.1 pc = .ok (.iand, 1))  (k : XS E l md d mc ms al T ks kc kn (pc + 1) L (vI (x &&& y) :: st) M) : XS E l md d mc ms al T ks kc kn pc L (vI y :: vI x :: st) M := fun p e s m args below meth c H locs b D cT A ls h0 h1 hE hl => lv_iand h0.1 h0.2.1 hd  (k p e s m args below meth c H locs b D cT A ls h0 h1 hE hl)
theorem s_lshl {x : Int64} {y : Int32} (hd : decode md.2.1 pc = .ok (.lshl, 1))  (k : XS E l md d mc ms al T ks kc kn (pc + 1) L (vJ (x <<< (y.toInt64 &&& 63)) :: st) M) : XS E l md d mc ms al T ks kc kn pc L (vI y :: vJ x :: st) M := fun p e s m args below meth c H locs b D cT A ls h0 h1 hE hl => lv_lshl h0.1 h0.2.1 hd rfl (k p e s m args below meth c H locs b D cT A ls h0 h1 hE hl)
theorem s_land {x y : Int64} (hd : decode md.2.1 pc = .ok (.land, 1))  (k : XS E l md d mc ms al T ks kc kn (pc + 1) L (vJ (x &&& y) :: st) M) : XS E l md d mc ms al T ks kc kn pc L (vJ y :: vJ x :: st) M := fun p e s m args below meth c H locs b D cT A ls h0 h1 hE hl => lv_land h0.1 h0.2.1 hd  (k p e s m args below meth c H locs b D cT A ls h0 h1 hE hl)
theorem s_lor {x y : Int64} (hd : decode md.2.1 pc = .ok (.lor, 1))  (k : XS E l md d mc ms al T ks kc kn (pc + 1) L (vJ (x ||| y) :: st) M) : XS E l md d mc ms al T ks kc kn pc L (vJ y :: vJ x :: st) M := fun p e s m args below meth c H locs b D cT A ls h0 h1 hE hl => lv_lor h0.1 h0.2.1 hd  (k p e s m args below meth c H locs b D cT A ls h0 h1 hE hl)
theorem s_lcmp {x y : Int64} (hd : decode md.2.1 pc = .ok (.lcmp, 1))  (k : XS E l md d mc ms al T ks kc kn (pc + 1) L (vI (lg_cmp x y) :: st) M) : XS E l md d mc ms al T ks kc kn pc L (vJ y :: vJ x :: st) M := fun p e s m args below meth c H locs b D cT A ls h0 h1 hE hl => W.lcmp h0.1 h0.2.1 hd  (k p e s m args below meth c H locs b D cT A ls h0 h1 hE hl)
theorem s_i2l {x : Int32} (hd : decode md.2.1 pc = .ok (.i2l, 1))  (k : XS E l md d mc ms al T ks kc kn (pc + 1) L (vJ x.toInt64 :: st) M) : XS E l md d mc ms al T ks kc kn pc L (vI x :: st) M := fun p e s m args below meth c H locs b D cT A ls h0 h1 hE hl => lv_i2l h0.1 h0.2.1 hd rfl (k p e s m args below meth c H locs b D cT A ls h0 h1 hE hl)
theorem s_dup {a : AV} (hd : decode md.2.1 pc = .ok (.dup, 1)) (ha : am_cat a = 1) (k : XS E l md d mc ms al T ks kc kn (pc + 1) L (a :: a :: st) M) : XS E l md d mc ms al T ks kc kn pc L (a :: st) M := fun p e s m args below meth c H locs b D cT A ls h0 h1 hE hl => lv_dup h0.1 h0.2.1 hd (by rw [am_cat_eq]; exact ha) (k p e s m args below meth c H locs b D cT A ls h0 h1 hE hl)
theorem s_goto {off : Int} {tgt : Nat} (hd : decode md.2.1 pc = .ok (.goto off, 3)) (ht : (pc : Int) + off = (tgt : Int)) (k : XS E l md d mc ms al T ks kc kn tgt L st M) : XS E l md d mc ms al T ks kc kn pc L st M := fun p e s m args below meth c H locs b D cT A ls h0 h1 hE hl => lv_goto h0.1 h0.2.1 hd ht (k p e s m args below meth c H locs b D cT A ls h0 h1 hE hl)
theorem s_if_eq {x : Int32} {off : Int} {tgt : Nat} (hd : decode md.2.1 pc = .ok (.ifCond .eq off, 3)) (ht : (pc : Int) + off = (tgt : Int)) (kt : x = 0 → XS E l md d mc ms al T ks kc kn tgt L st M) (kf : ¬ x = 0 → XS E l md d mc ms al T ks kc kn (pc + 3) L st M) : XS E l md d mc ms al T ks kc kn pc L (vI x :: st) M := fun p e s m args below meth c H locs b D cT A ls h0 h1 hE hl => lv_if_eq h0.1 h0.2.1 hd ht (fun h => kt h p e s m args below meth c H locs b D cT A ls h0 h1 hE hl) (fun h => kf h p e s m args below meth c H locs b D cT A ls h0 h1 hE hl)
theorem s_if_ne {x : Int32} {off : Int} {tgt : Nat} (hd : decode md.2.1 pc = .ok (.ifCond .ne off, 3)) (ht : (pc : Int) + off = (tgt : Int)) (kt : ¬ x = 0 → XS E l md d mc ms al T ks kc kn tgt L st M) (kf : x = 0 → XS E l md d mc ms al T ks kc kn (pc + 3) L st M) : XS E l md d mc ms al T ks kc kn pc L (vI x :: st) M := fun p e s m args below meth c H locs b D cT A ls h0 h1 hE hl => lv_if_ne h0.1 h0.2.1 hd ht (fun h => kt h p e s m args below meth c H locs b D cT A ls h0 h1 hE hl) (fun h => kf h p e s m args below meth c H locs b D cT A ls h0 h1 hE hl)
theorem s_icmp_eq {x y : Int32} {off : Int} {tgt : Nat} (hd : decode md.2.1 pc = .ok (.if_icmp .eq off, 3)) (ht : (pc : Int) + off = (tgt : Int)) (kt : x = y → XS E l md d mc ms al T ks kc kn tgt L st M) (kf : ¬ x = y → XS E l md d mc ms al T ks kc kn (pc + 3) L st M) : XS E l md d mc ms al T ks kc kn pc L (vI y :: vI x :: st) M := fun p e s m args below meth c H locs b D cT A ls h0 h1 hE hl => lv_icmp_eq h0.1 h0.2.1 hd ht (fun h => kt h p e s m args below meth c H locs b D cT A ls h0 h1 hE hl) (fun h => kf h p e s m args below meth c H locs b D cT A ls h0 h1 hE hl)
theorem s_icmp_gt {x y : Int32} {off : Int} {tgt : Nat} (hd : decode md.2.1 pc = .ok (.if_icmp .gt off, 3)) (ht : (pc : Int) + off = (tgt : Int)) (kt : y < x → XS E l md d mc ms al T ks kc kn tgt L st M) (kf : ¬ y < x → XS E l md d mc ms al T ks kc kn (pc + 3) L st M) : XS E l md d mc ms al T ks kc kn pc L (vI y :: vI x :: st) M := fun p e s m args below meth c H locs b D cT A ls h0 h1 hE hl => lv_icmp_gt h0.1 h0.2.1 hd ht (fun h => kt h p e s m args below meth c H locs b D cT A ls h0 h1 hE hl) (fun h => kf h p e s m args below meth c H locs b D cT A ls h0 h1 hE hl)
theorem s_iinc {i : Nat} {n : Int} {x v : Int32} (hd : decode md.2.1 pc = .ok (.iinc i n, 3)) (hi : L[i]? = some (some (vI x))) (hv : x + Int32.ofInt n = v) (hn : i < md.2.2.1) (hs : am_st1 L i (vI v) = some L') (k : XS E l md d mc ms al T ks kc kn (pc + 3) L' st M) : XS E l md d mc ms al T ks kc kn pc L st M := by
  intro p e s m args below meth c H locs b D cT A ls h0 h1 hE hl
  obtain ⟨j, hj⟩ := List.getElem?_of_mem (am_lv_get b L i 0 _ hi)
  rw [Nat.zero_add] at hj
  exact lv_iinc h0.1 h0.2.1 hd hl hj hv hn rfl (fun ls' hl' => k p e s m args below meth c H locs b D cT A ls' h0 h1 hE (am_lv_st1 hs rfl hl'))
theorem s_tswIn {dflt lo hi : Int} {offs : Array Int} {len : Nat} {x kx : Int32} {off : Int} {tgt : Nat} (hd : decode md.2.1 pc = .ok (.tableswitch dflt lo hi offs, len)) (hx : x = kx) (h1 : ¬ kx.toInt < lo) (h2 : ¬ hi < kx.toInt) (ho : offs[(kx.toInt - lo).toNat]? = some off) (ht : (pc : Int) + off = (tgt : Int)) (k : XS E l md d mc ms al T ks kc kn tgt L st M) : XS E l md d mc ms al T ks kc kn pc L (vI x :: st) M := by
  subst hx
  exact fun p e s m args below meth c H locs b D cT A ls h0 hh1 hE hl => lv_tableIn h0.1 h0.2.1 hd h1 h2 ho ht (k p e s m args below meth c H locs b D cT A ls h0 hh1 hE hl)
theorem s_tswOut {dflt lo hi : Int} {offs : Array Int} {len : Nat} {x : Int32} {tgt : Nat} (hd : decode md.2.1 pc = .ok (.tableswitch dflt lo hi offs, len)) (h : x.toInt < lo ∨ hi < x.toInt) (ht : (pc : Int) + dflt = (tgt : Int)) (k : XS E l md d mc ms al T ks kc kn tgt L st M) : XS E l md d mc ms al T ks kc kn pc L (vI x :: st) M :=
  fun p e s m args below meth c H locs b D cT A ls h0 hh1 hE hl => lv_tableOut h0.1 h0.2.1 hd h ht (k p e s m args below meth c H locs b D cT A ls h0 hh1 hE hl)
theorem s_weak (h9 : am_le L' L) (k : XS E l md d mc ms al T ks kc kn pc L' st M) : XS E l md d mc ms al T ks kc kn pc L st M := by
  intro p e s m args below meth c H locs b D cT A ls h0 h1 hE hl
  refine k p e s m args below meth c H locs b D cT A ls h0 h1 hE ⟨hl.1, hl.2.1, fun q hq => ?_⟩
  obtain ⟨i, a, h2, rfl⟩ := am_lv_of b L' 0 q hq
  rw [Nat.zero_add]
  exact am_lv_at hl (am_le_get h9 h2)

theorem s_al (kk : XS E l md d mc ms false T ks kc kn pc L st M) : XS E l md d mc ms true T ks kc kn pc L st M := fun p e s m args below meth c H locs b D cT A ls h0 h1 hE hl => kk p e s m args below meth c H locs b D cT A ls h0 ⟨h1.1, h1.2.1, h1.2.2.1, h1.2.2.2.1, h1.2.2.2.2.1, fun h => by cases h⟩ hE hl
theorem s_sld {N n z : Nat} {xs : Nat → Int32} {x : Int32} (hd : decode md.2.1 pc = .ok (.iaload, 1)) (hn : x.toNatClampNeg = n) (hin : vp_in x N) (kk : XS (sE N xs) l md d mc ms al T ks kc kn (pc + 1) L (vI (xs n) :: st) M) : XS (sE N xs) l md d mc ms al T ks kc kn pc L (vI x :: vR (95, 100, z) :: st) M := by
  subst hn
  exact fun p e s m args below meth c H locs b D cT A ls h0 h1 hE hl => va_sld h0.1 h0.2.1 hE.1 hE.2.1 hE.2.2 h1.2.2.2.1 hin hd (kk p e s m args below meth c H locs b D cT A ls h0 h1 hE hl)
theorem s_slen {N z : Nat} {xs : Nat → Int32} (hd : decode md.2.1 pc = .ok (.arraylength, 1)) (kk : XS (sE N xs) l md d mc ms al T ks kc kn (pc + 1) L (vI (nI N) :: st) M) : XS (sE N xs) l md d mc ms al T ks kc kn pc L (vR (95, 100, z) :: st) M :=
  fun p e s m args below meth c H locs b D cT A ls h0 h1 hE hl => va_slen h0.1 h0.2.1 hE.1 hE.2.1 hE.2.2 h1.2.2.2.1 hd (kk p e s m args below meth c H locs b D cT A ls h0 h1 hE hl)
theorem s_iret {x : Int32} {ty : FieldType} (hd : decode md.2.1 pc = .ok (.ireturn, 1)) (hr : md.2.2.2 = some ty) (hn : narrow ty (.int x) = .int x) (hc : kc ≤ mc) (hs : kn ≤ ms) (hT : T.1 = some (vI x)) (hK : T.2.1 = ks) : XS E l md d mc ms al T ks kc kn pc L [vI x] M := by
  intro p e s m args below meth c H locs b D cT A ls h0 h1 _ hl T0 hT0 X
  obtain ⟨t, a1, o, b1, b2, b3, b4⟩ := r_iret hd hr hn hc hs p e s m args below meth c H locs b D cT A ls h0 h1 hl T0 hT0 X
  refine ⟨t, a1, o, b1, b2, ⟨M, ?_⟩, b4⟩
  rw [hT, hK]
  exact ⟨⟨b3.1.1, b3.1.2.1, b3.1.2.2.1, b3.1.2.2.2.1, fun h => by cases h⟩, b3.2⟩
end LR
theorem nI_cl (i k : Nat) {N : Nat} (h : i + 6 ≤ N ∧ N ≤ 3072) (hk : k < 100 := by decide) : (nI i + Int32.ofNat k).toNatClampNeg = i + k := by
  show (nI i + nI k).toNatClampNeg = i + k
  rw [nI_add, nI_clamp (by omega)]
theorem nI_vp (i k : Nat) {N : Nat} (hk : k < 6) (h : i + 6 ≤ N ∧ N ≤ 3072) : vp_in (nI i + Int32.ofNat k) N := by
  show vp_in (nI i + nI k) N
  rw [nI_add]
  exact nI_in (by omega) (by omega)
