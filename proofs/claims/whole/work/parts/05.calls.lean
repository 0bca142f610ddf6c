/-! RULES of the layer: calls -/
section CR
variable {l : Launch} {md md2 : MD} {d d2 mc ms mc2 ms2 : Nat} {al : Bool} {T T2 : Option AV × List Key × AM} {ks : List Key} {kc kn pc : Nat} {L L' : List (Option AV)} {st as : List AV} {M M' : AM} {q : Key} {k : Nat}
theorem am_call {p : Program} {e : Env} {R : Room} {s : State} {m : MethodId} {args : Array Value} {below : List Frame} {meth : Method} {c : Code} {H : Heap} {locs : List Loc} {Q : State → Prop} {ls : Array Slot} {rest st0 : List Value} {b : BA} {D : va_G} {cT : Nat → ClassId} {A A1 : Nat → Prop} {a : Array Value} {r : Option AV} {ks2 : List Key}
    (h1 : am_X1 b D cT A al ks M s H locs) (hA : ∀ q, A1 q → A q) (hr : va_Run p l e R s m args below meth c H locs kc kn mc2 ms2 (F0 m pc ls st0) rest (am_Q b D cT A1 al r ks2 M' a) A1)
    (kk : ∀ (H1 : Heap) (locs1 : List Loc), am_X1 b D cT A al ks2 M' s H1 locs1 → W p l e R s m args below meth c H1 locs1 (kc + mc2) (kn + ms2) Q (F0 m (pc + 3) ls ((r.map (am_cv b)).toList ++ rest))) : W p l e R s m args below meth c H locs kc kn Q (F0 m pc ls st0) := by
  intro T hT X
  obtain ⟨v, st₀, t, T', L, g0, X', hL, e1, e2, ⟨⟨hv, hP2, hK2, hD2, hal2⟩, hz, hk⟩, st⟩ := hr T hT X
  cases hv
  rw [g0] at hz hk
  have hS := h1.2.2.2.1
  obtain ⟨t2, a1, b1⟩ := kk T'.heap (locs ++ L) ⟨by rw [e1]; exact hP2, hD2.weaken (fun _ q _ h => hA q.1 h), h1.2.2.1,
    ⟨Nat.le_trans hS.1 (by rw [e1]; exact hz), fun q g1 g2 => by rw [e1, hk q (Nat.lt_of_lt_of_le g1 hS.1) (fun z => g2 (hA q z))]; exact hS.2.1 q g1 g2, fun q hq => by
      rcases List.mem_append.mp hq with h | h
      · exact hS.2.2 q h
      · exact hA _ (hL q h)⟩, h1.2.2.2.2.1, fun ha => by rw [e1]; exact hal2 ha⟩ T' rfl X'
  exact ⟨t2, st t2 a1, b1⟩
def MW (own : String) (idx : Nat) (md2 : MD) (n : Nat) : Prop := Cond.methodLink own idx md2.1 ∈ Wd ∧ Cond.initialized md2.1.cls ∈ Wd ∧ Cond.code md2.1 md2.2.1 md2.2.2.1 md2.2.2.2 ∈ Wd ∧ (md2.1.cls ≠ "java/lang/invoke/MethodHandle" ∧ md2.1.cls ≠ "java/lang/invoke/VarHandle" ∧ (parseMethodDescriptor md2.1.desc).map (fun d => d.parameters.length) = some n) ∧ md2.2.2.1 ≤ 21
def MV (md2 : MD) : Prop := Cond.instanceMethod md2.1 ∈ Wd ∧ Cond.selects md2.1.cls md2.1 md2.1 ∈ Wd
theorem am_good {md2 : MD} (h : Cond.code md2.1 md2.2.1 md2.2.2.1 md2.2.2.2 ∈ Wd) : GoodIn Wd (Cond.code md2.1 md2.2.1 md2.2.2.1 md2.2.2.2 :: Wd) := by
  intro w hw
  rcases List.mem_cons.mp hw with rfl | hw
  · exact ⟨h, Wd_good h⟩
  · exact ⟨hw, Wd_good hw⟩
theorem am_blind {as : List Value} {b : BA} {D : va_G} {cT : Nat → ClassId} {sz : Nat} : FrameBlind (va_Pc as (fun U => U.heap.size = sz ∧ va_P D vwCl (am_w b cT ks M) U.heap ∧ va_K D vwCl (am_tys cT) U ∧ va_D (fun _ => True) (am_w b cT ks M) ∧ am_SE b (va_A (am_w b cT ks M) sz) U U.heap ∧ (al = true → U.heap.size = b.1 + ks.length))) := by
  intro a U g mk q
  obtain ⟨q0, q1, qP, qK, qD, qE, qal⟩ := q
  exact ⟨q0, q1, qP, va_K.moved (u := U) (U := U.calling g mk a) (Vm.Alike.refl U.vm) qK, qD, am_SE.same (u := U) rfl qE, qal⟩
theorem am_freeA {s : State} {H : Heap} {locs : List Loc} {A : Nat → Prop} {b : BA} {D : va_G} {cT : Nat → ClassId} (h1 : am_X1 b D cT A al ks M s H locs) : ∀ q, va_A (am_w b cT ks M) H.size q → A q := by
  intro q h
  rcases h with ⟨k, e, h⟩ | h
  · exact h1.2.1.2 k (q, e) h
  · exact h1.2.2.2.2.1.1 q (Nat.le_trans h1.2.2.2.1.1 h)
theorem am_pre {s : State} {H : Heap} {locs : List Loc} {A : Nat → Prop} {b : BA} {D : va_G} {cT : Nat → ClassId} (h1 : am_X1 b D cT A al ks M s H locs) (as : List Value) : ∀ U : State, U.heap = H → s.WarmedH U.vm → va_Pc as (fun U => U.heap.size = H.size ∧ va_P D vwCl (am_w b cT ks M) U.heap ∧ va_K D vwCl (am_tys cT) U ∧ va_D (fun _ => True) (am_w b cT ks M) ∧ am_SE b (va_A (am_w b cT ks M) H.size) U U.heap ∧ (al = true → U.heap.size = b.1 + ks.length)) as.toArray U :=
  fun U hU hW => ⟨rfl, by rw [hU], by rw [hU]; exact h1.1, va_K.moved hW.alike h1.2.2.1, h1.2.1.weaken (fun _ _ _ _ => trivial), by rw [hU]; exact ((h1.2.2.2.2.1.2.kept h1.2.2.2.1.2.1).narrow (am_freeA h1)).moved hW, fun ha => by rw [hU]; exact h1.2.2.2.2.2 ha⟩
theorem am_mapA (b : BA) (as : List AV) (st : List AV) (a : AV) : (as.reverse ++ a :: st).map (am_cv b) = (as.map (am_cv b)).reverse ++ am_cv b a :: st.map (am_cv b) := by simp
theorem am_mapS (b : BA) (as : List AV) (st : List AV) : (as.reverse ++ st).map (am_cv b) = (as.map (am_cv b)).reverse ++ st.map (am_cv b) := by simp
theorem am_mapR (b : BA) (r : Option AV) (st : List AV) : (r.map (am_cv b)).toList ++ st.map (am_cv b) = (r.toList ++ st).map (am_cv b) := by cases r <;> simp
set_option maxHeartbeats 1000000 in
theorem r_callV {idx n ci : Nat} {F : u_T} {N : Nat} (hw : MW md.1.cls idx md2 n) (hv : MV md2) (hE : Ev l md2 d2 mc2 ms2 al (vR q :: as) ks M T2) (hdd : d2 + 1 ≤ d) (hd : decode md.2.1 pc = .ok (.invokevirtual idx, 3)) (hq : q ∈ ks) (hk : am_kd q.1 = ci) (hc : vwCl[ci]? = some (md2.1.cls, F, N)) (hn : as.length = n) (hst : (st.map am_cat).sum ≤ 8) (hcm : kc + mc2 ≤ mc) (hsm : kn + ms2 ≤ ms)
    (kk : X l md d mc ms al T T2.2.1 (kc + mc2) (kn + ms2) (pc + 3) L (T2.1.toList ++ st) T2.2.2) : X l md d mc ms al T ks kc kn pc L (as.reverse ++ vR q :: st) M := by
  intro p e s m args below meth c H locs b D cT A ls h0 h1 hl9
  obtain ⟨w1, w2, w3, w4, w5⟩ := hw
  obtain ⟨i, hi, hwi⟩ := am_w_at (b := b) (cT := cT) (M := M) hq
  rw [am_ce_obj b cT M (by rw [hk]; exact am_ci hc), hk] at hwi
  rw [am_mapA]
  refine am_call (A1 := va_A (am_w b cT ks M) H.size) h1 (am_freeA h1) (va_runV (Ts := Wd) (own := md.1.cls) (C := md2.1.cls) (As := as.map (am_cv b)) ⟨h0.1, h0.2.1, h0.2.2.2.2.2.2.1, h0.2.2.2.2.1, h0.2.2.2.1⟩ (hE b D cT H.size)
    (cwV n h0.2.2.2.1 (fun w hw => ?_) rfl rfl rfl ⟨rfl, w4.1, w4.2.1, w4.2.2⟩ ⟨?_, ?_⟩) ⟨am_blind, va_recv h1.2.2.1 h1.1 hc hwi, fun U hU hW => am_pre h1 _ U hU hW⟩ rfl (by rw [List.length_map]; exact hn) hl9.1 rfl (lv_room (by rw [am_cat_sum]; exact hst)) hd ⟨hcm, hsm⟩) (fun H1 locs1 h2 => ?_)
  · have hm : w ∈ Wd := by
      unfold wsV at hw
      rcases List.mem_append.mp hw with h | h
      · simp only [List.mem_cons, List.not_mem_nil, or_false] at h
        rcases h with rfl | rfl | rfl | rfl
        · exact w1
        · exact hv.1
        · exact hv.2
        · exact w2
      · exact (am_good w3 w h).1
    exact ⟨hm, Wd_good hm⟩
  · show d2 + 1 ≤ d
    exact hdd
  · show 8 + (md2.2.2.1 + 11) + 40 * d2 ≤ 40 * d
    omega
  · rw [am_mapR]
    exact kk p e s m args below meth c H1 locs1 b D cT A ls h0 h2 hl9
set_option maxHeartbeats 1000000 in
theorem r_callI {idx n : Nat} (hw : MW md.1.cls idx md2 n) (hv : Cond.instanceMethod md2.1 ∈ Wd) (hy : md2.1.name = "<init>") (hvoid : md2.2.2.2 = none) (hE : Ev l md2 d2 mc2 ms2 al (vR q :: as) ks M T2) (hdd : d2 + 1 ≤ d) (hd : decode md.2.1 pc = .ok (.invokespecial idx, 3)) (hn : as.length = n) (hst : (st.map am_cat).sum ≤ 8) (hcm : kc + mc2 ≤ mc) (hsm : kn + ms2 ≤ ms)
    (kk : X l md d mc ms al T T2.2.1 (kc + mc2) (kn + ms2) (pc + 3) L (T2.1.toList ++ st) T2.2.2) : X l md d mc ms al T ks kc kn pc L (as.reverse ++ vR q :: st) M := by
  intro p e s m args below meth c H locs b D cT A ls h0 h1 hl9
  obtain ⟨w1, w2, w3, w4, w5⟩ := hw
  have hE2 := hE b D cT H.size
  rw [hvoid] at hE2 w3
  rw [am_mapA]
  have hG : GoodIn Wd (Cond.code md2.1 md2.2.1 md2.2.2.1 none :: Wd) := fun w hw => by
    rcases List.mem_cons.mp hw with rfl | hw
    · exact ⟨w3, Wd_good w3⟩
    · exact ⟨hw, Wd_good hw⟩
  refine am_call (A1 := va_A (am_w b cT ks M) H.size) h1 (am_freeA h1) (va_runI (Ts := Wd) (own := md.1.cls) (As := as.map (am_cv b)) ⟨h0.1, h0.2.1, h0.2.2.2.2.2.2.1, h0.2.2.2.2.1, h0.2.2.2.1⟩ hE2
    (cwI n h0.2.2.2.1 hG rfl rfl rfl (h0.2.2.2.1 _ w2) (h0.2.2.2.1 _ w1) (h0.2.2.2.1 _ hv) hy w4 ⟨?_, ?_⟩) ⟨am_blind, fun U hU hW => am_pre h1 _ U hU hW⟩ rfl (by rw [List.length_map]; exact hn) hl9.1 rfl (lv_room (by rw [am_cat_sum]; exact hst)) hd ⟨hcm, hsm⟩) (fun H1 locs1 h2 => ?_)
  · show d2 + 1 ≤ d
    exact hdd
  · show 8 + (md2.2.2.1 + 11) + 40 * d2 ≤ 40 * d
    omega
  · rw [am_mapR]
    exact kk p e s m args below meth c H1 locs1 b D cT A ls h0 h2 hl9
set_option maxHeartbeats 1000000 in
theorem r_callS {idx n : Nat} (hw : MW md.1.cls idx md2 n) (hv : Cond.static md2.1 ∈ Wd) (hE : Ev l md2 d2 mc2 ms2 al as ks M T2) (hdd : d2 + 1 ≤ d) (hd : decode md.2.1 pc = .ok (.invokestatic idx, 3)) (hn : as.length = n) (hst : (st.map am_cat).sum ≤ 8) (hcm : kc + mc2 ≤ mc) (hsm : kn + ms2 ≤ ms)
    (kk : X l md d mc ms al T T2.2.1 (kc + mc2) (kn + ms2) (pc + 3) L (T2.1.toList ++ st) T2.2.2) : X l md d mc ms al T ks kc kn pc L (as.reverse ++ st) M := by
  intro p e s m args below meth c H locs b D cT A ls h0 h1 hl9
  obtain ⟨w1, w2, w3, w4, w5⟩ := hw
  rw [am_mapS]
  refine am_call (A1 := va_A (am_w b cT ks M) H.size) h1 (am_freeA h1) (va_runS (Ts := Wd) (own := md.1.cls) (As := as.map (am_cv b)) ⟨h0.1, h0.2.1, h0.2.2.2.2.2.2.1, h0.2.2.2.2.1, h0.2.2.2.1⟩ (hE b D cT H.size)
    ⟨callB_of n h0.2.2.2.1 (am_good w3) rfl rfl rfl (h0.2.2.2.1 _ w2) (h0.2.2.2.1 _ w1) w4 ⟨?_, ?_⟩, h0.2.2.2.1 _ hv⟩ ⟨am_blind, fun U hU hW => am_pre h1 _ U hU hW⟩ rfl (by rw [List.length_map]; exact hn) hl9.1 rfl (lv_room (by rw [am_cat_sum]; exact hst)) hd ⟨hcm, hsm⟩) (fun H1 locs1 h2 => ?_)
  · show d2 + 1 ≤ d
    exact hdd
  · show 8 + (md2.2.2.1 + 11) + 40 * d2 ≤ 40 * d
    omega
  · rw [am_mapR]
    exact kk p e s m args below meth c H1 locs1 b D cT A ls h0 h2 hl9
theorem r_objInit {idx : Nat} (w1 : Cond.methodLink md.1.cls idx Lib.objectInit ∈ Wd) (w2 : Cond.instanceMethod Lib.objectInit ∈ Wd) (w3 : Cond.code Lib.objectInit ⟨#[0xb1]⟩ 1 none ∈ Wd) (hd : decode md.2.1 pc = .ok (.invokespecial idx, 3)) (hdd : 1 ≤ d) (hst : (st.map am_cat).sum ≤ 8)
    (kk : X l md d mc ms al T ks kc kn (pc + 3) L st M) : X l md d mc ms al T ks kc kn pc L (vR q :: st) M := by
  intro p e s m args below meth c H locs b D cT A ls h0 h1 hl9
  refine W.objInit h0.1 h0.2.1 h0.2.2.2.2.1 (h0.2.2.2.1 _ w1) (h0.2.2.2.1 _ w2) (h0.2.2.2.1 _ w3) rfl (by rw [h0.2.2.2.2.2.2.1]; exact hl9.1) rfl hd hdd ?_ (kk p e s m args below meth c H locs b D cT A ls h0 h1 hl9)
  have := am_cat_sum b st
  show 2 * 0 + ((st.map (am_cv b)).map fun v => v.category).sum + 12 ≤ 40 * d
  rw [this]
  omega
theorem r_mmin {x y : Int32} {idx : Nat} (w1 : Cond.methodLink md.1.cls idx Lib.Math.min.name ∈ Wd) (w2 : Cond.static Lib.Math.min.name ∈ Wd) (w3 : Cond.initialized "java/lang/Math" ∈ Wd) (w4 : Cond.code Lib.Math.min.name Lib.Math.min.code 2 (some .int) ∈ Wd) (hd : decode md.2.1 pc = .ok (.invokestatic idx, 3)) (hdd : 1 ≤ d) (hst : (st.map am_cat).sum ≤ 8) (hcm : kc ≤ mc) (hsm : kn ≤ ms)
    (kk : X l md d mc ms al T ks kc kn (pc + 3) L (vI (if y < x then y else x) :: st) M) : X l md d mc ms al T ks kc kn pc L (vI y :: vI x :: st) M := by
  intro p e s m args below meth c H locs b D cT A ls h0 h1 hl9
  refine va_mmin h0.1 h0.2.1 (by rw [h0.2.2.2.2.2.2.1]; exact hl9.1.symm) h0.2.2.2.2.1 (h0.2.2.2.1 _ w1) (h0.2.2.2.1 _ w2) (h0.2.2.2.1 _ w3) (h0.2.2.2.1 _ w4) hdd ?_ hcm hsm hd (kk p e s m args below meth c H locs b D cT A ls h0 h1 hl9)
  show ((st.map (am_cv b)).map fun v => v.category).sum + 13 ≤ 40 * d
  rw [am_cat_sum]
  omega
theorem r_mmax {x y : Int32} {idx : Nat} (w1 : Cond.methodLink md.1.cls idx Lib.Math.max.name ∈ Wd) (w2 : Cond.static Lib.Math.max.name ∈ Wd) (w3 : Cond.initialized "java/lang/Math" ∈ Wd) (w4 : Cond.code Lib.Math.max.name Lib.Math.max.code 2 (some .int) ∈ Wd) (hd : decode md.2.1 pc = .ok (.invokestatic idx, 3)) (hdd : 1 ≤ d) (hst : (st.map am_cat).sum ≤ 8) (hcm : kc ≤ mc) (hsm : kn ≤ ms)
    (kk : X l md d mc ms al T ks kc kn (pc + 3) L (vI (if x < y then y else x) :: st) M) : X l md d mc ms al T ks kc kn pc L (vI y :: vI x :: st) M := by
  intro p e s m args below meth c H locs b D cT A ls h0 h1 hl9
  refine va_mmax h0.1 h0.2.1 (by rw [h0.2.2.2.2.2.2.1]; exact hl9.1.symm) h0.2.2.2.2.1 (h0.2.2.2.1 _ w1) (h0.2.2.2.1 _ w2) (h0.2.2.2.1 _ w3) (h0.2.2.2.1 _ w4) hdd ?_ hcm hsm hd (kk p e s m args below meth c H locs b D cT A ls h0 h1 hl9)
  show ((st.map (am_cv b)).map fun v => v.category).sum + 13 ≤ 40 * d
  rw [am_cat_sum]
  omega
def am_cpi (M : AM) (q : Key) (f : Nat → Int32) : AM := (fun q' k => if q' = q then f k else M.1 q' k, M.2)
def am_cpl (M : AM) (q : Key) (f : Nat → Int64) : AM := (M.1, fun q' k => if q' = q then f k else M.2.1 q' k, M.2.2)
def CP (own : String) (idx : Nat) : Prop := Cond.methodLink own idx arraycopyName ∈ Wd ∧ Cond.native arraycopyName ∈ Wd ∧ Cond.static arraycopyName ∈ Wd ∧ Cond.initialized "java/lang/System" ∈ Wd
theorem am_set_P {b : BA} {cT : Nat → ClassId} {D : va_G} {A : Nat → Prop} {H1 : Heap} {j : Nat} {e : va_E} (hj : ks[j]? = some q) (hD : va_D A (am_w b cT ks M)) (he : e = am_ce b cT M' q) (hsame : ∀ q', q' ≠ q → am_ce b cT M' q' = am_ce b cT M q')
    (hP : va_P D vwCl ((am_w b cT ks M).set j (am_ad b q, e)) H1) : va_P D vwCl (am_w b cT ks M') H1 ∧ va_D A (am_w b cT ks M') := by
  have hwj : (am_w b cT ks M)[j]? = some (am_ad b q, am_ce b cT M q) := by unfold am_w; rw [List.getElem?_map, hj]; rfl
  have hlj := (List.getElem?_eq_some_iff.mp hwj).1
  refine ⟨fun i x hx => ?_, fun i1 i2 x y hx hy hxy => ?_, fun i x hx => ?_⟩
  · obtain ⟨z, hz, rfl⟩ := am_w_of hx
    have hwi : (am_w b cT ks M)[i]? = some (am_ad b z, am_ce b cT M z) := by unfold am_w; rw [List.getElem?_map, hz]; rfl
    by_cases ez : z = q
    · subst ez
      have hij := hD.1 i j _ _ hwi hwj rfl
      subst hij
      refine hP i _ ?_
      rw [List.getElem?_set_self hlj, he]
    · rw [hsame z ez]
      refine hP i _ ?_
      rw [List.getElem?_set_ne (fun h9 => ez ?_)]
      · exact hwi
      · subst h9
        exact (Option.some.inj (hj.symm.trans hz)).symm
  · obtain ⟨z, hz, rfl⟩ := am_w_of hx
    obtain ⟨z2, hz2, rfl⟩ := am_w_of hy
    exact hD.1 i1 i2 (am_ad b z, am_ce b cT M z) (am_ad b z2, am_ce b cT M z2) (by unfold am_w; rw [List.getElem?_map, hz]; rfl) (by unfold am_w; rw [List.getElem?_map, hz2]; rfl) hxy
  · obtain ⟨z, hz, rfl⟩ := am_w_of hx
    exact hD.2 i (am_ad b z, am_ce b cT M z) (by unfold am_w; rw [List.getElem?_map, hz]; rfl)
set_option maxHeartbeats 1000000 in
theorem r_copyi {q0 q1 : Key} {idx : Nat} {sp dp n : Int32} (hw : CP md.1.cls idx) (hd : decode md.2.1 pc = .ok (.invokestatic idx, 3)) (hq0 : q0 ∈ ks) (hq1 : q1 ∈ ks) (hk0 : am_kd q0.1 = 11) (hk1 : am_kd q1.1 = 11) (g1 : ¬ sp < 0) (g2 : ¬ dp < 0) (g3 : ¬ n < 0) (g4 : sp.toNatClampNeg + n.toNatClampNeg ≤ am_ln q0.1) (g5 : dp.toNatClampNeg + n.toNatClampNeg ≤ am_ln q1.1) (hdd : 1 ≤ d) (hst : (st.map am_cat).sum ≤ 8)
    (kk : X l md d mc ms false T ks kc kn (pc + 3) L st (am_cpi M q1 (va_cpy (M.1 q0) (M.1 q1) sp.toNatClampNeg dp.toNatClampNeg n.toNatClampNeg))) : X l md d mc ms false T ks kc kn pc L (vI n :: vI dp :: vR q1 :: vI sp :: vR q0 :: st) M := by
  intro p e s m args below meth c H locs b D cT A ls h0 h1 hl9
  obtain ⟨i, hi, hwi⟩ := am_w_at (b := b) (cT := cT) (M := M) hq0
  obtain ⟨j, hj, hwj⟩ := am_w_at (b := b) (cT := cT) (M := M) hq1
  rw [am_ce_i b cT M (Or.inl hk0), hk0] at hwi
  rw [am_ce_i b cT M (Or.inl hk1), hk1] at hwj
  refine va_copyi (D := D) (cl := vwCl) (A := A) (ty := .int) h0.1 h0.2.1 (by rw [h0.2.2.2.2.2.2.1]; exact hl9.1.symm) h0.2.2.2.2.1 (h0.2.2.2.1 _ hw.1) (h0.2.2.2.1 _ hw.2.1) (h0.2.2.2.1 _ hw.2.2.1) (h0.2.2.2.1 _ hw.2.2.2) h1.2.2.1 h1.1 h1.2.1 h1.2.2.2.1 i j 0 0 hwi hwj rfl rfl rfl g1 g2 g3 g4 g5 (fun _ _ => rfl) hdd ?_ hd (fun H1 locs1 hP1 hD1 hS1 => ?_)
  · show ((st.map (am_cv b)).map fun v => v.category).sum + _ ≤ 40 * d
    rw [am_cat_sum]
    have : nativeFrameWords "java/lang/System" "arraycopy" 5 + 11 ≤ 32 := by decide
    omega
  · obtain ⟨u1, u2⟩ := am_set_P (M' := am_cpi M q1 (va_cpy (M.1 q0) (M.1 q1) sp.toNatClampNeg dp.toNatClampNeg n.toNatClampNeg)) hj h1.2.1 (by
      rw [am_ce_i b cT _ (Or.inl hk1), hk1]
      congr 4
      funext z
      exact (if_pos rfl).symm) (fun q' h => am_ce_congr b cT (by funext z; exact if_neg h) rfl rfl) hP1
    exact kk p e s m args below meth c H1 locs1 b D cT A ls h0 ⟨u1, u2, h1.2.2.1, hS1, h1.2.2.2.2.1, fun ha => by cases ha⟩ hl9
set_option maxHeartbeats 1000000 in
theorem r_copyl {q0 q1 : Key} {idx : Nat} {sp dp n : Int32} (hw : CP md.1.cls idx) (hd : decode md.2.1 pc = .ok (.invokestatic idx, 3)) (hq0 : q0 ∈ ks) (hq1 : q1 ∈ ks) (hk0 : am_kd q0.1 = 12) (hk1 : am_kd q1.1 = 12) (g1 : ¬ sp < 0) (g2 : ¬ dp < 0) (g3 : ¬ n < 0) (g4 : sp.toNatClampNeg + n.toNatClampNeg ≤ am_ln q0.1) (g5 : dp.toNatClampNeg + n.toNatClampNeg ≤ am_ln q1.1) (hdd : 1 ≤ d) (hst : (st.map am_cat).sum ≤ 8)
    (kk : X l md d mc ms false T ks kc kn (pc + 3) L st (am_cpl M q1 (va_cpy (M.2.1 q0) (M.2.1 q1) sp.toNatClampNeg dp.toNatClampNeg n.toNatClampNeg))) : X l md d mc ms false T ks kc kn pc L (vI n :: vI dp :: vR q1 :: vI sp :: vR q0 :: st) M := by
  intro p e s m args below meth c H locs b D cT A ls h0 h1 hl9
  obtain ⟨i, hi, hwi⟩ := am_w_at (b := b) (cT := cT) (M := M) hq0
  obtain ⟨j, hj, hwj⟩ := am_w_at (b := b) (cT := cT) (M := M) hq1
  rw [am_ce_l b cT M hk0] at hwi
  rw [am_ce_l b cT M hk1] at hwj
  refine va_copyl (D := D) (cl := vwCl) (A := A) (ty := .long) h0.1 h0.2.1 (by rw [h0.2.2.2.2.2.2.1]; exact hl9.1.symm) h0.2.2.2.2.1 (h0.2.2.2.1 _ hw.1) (h0.2.2.2.1 _ hw.2.1) (h0.2.2.2.1 _ hw.2.2.1) (h0.2.2.2.1 _ hw.2.2.2) h1.2.2.1 h1.1 h1.2.1 h1.2.2.2.1 i j 1 1 hwi hwj rfl rfl rfl g1 g2 g3 g4 g5 (fun _ _ => rfl) hdd ?_ hd (fun H1 locs1 hP1 hD1 hS1 => ?_)
  · show ((st.map (am_cv b)).map fun v => v.category).sum + _ ≤ 40 * d
    rw [am_cat_sum]
    have : nativeFrameWords "java/lang/System" "arraycopy" 5 + 11 ≤ 32 := by decide
    omega
  · obtain ⟨u1, u2⟩ := am_set_P (M' := am_cpl M q1 (va_cpy (M.2.1 q0) (M.2.1 q1) sp.toNatClampNeg dp.toNatClampNeg n.toNatClampNeg)) hj h1.2.1 (by
      rw [am_ce_l b cT _ hk1]
      congr 5
      funext z
      exact (if_pos rfl).symm) (fun q' h => am_ce_congr b cT rfl (by funext z; exact if_neg h) rfl) hP1
    exact kk p e s m args below meth c H1 locs1 b D cT A ls h0 ⟨u1, u2, h1.2.2.1, hS1, h1.2.2.2.2.1, fun ha => by cases ha⟩ hl9
end CR
