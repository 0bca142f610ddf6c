/-! RULES of the layer: answers, fields, arrays -/
section MR
variable {l : Launch} {md : MD} {d mc ms : Nat} {al : Bool} {T : Option AV × List Key × AM} {ks : List Key} {kc kn pc : Nat} {L L' : List (Option AV)} {st : List AV} {M M' : AM} {q : Key} {k : Nat}
theorem am_w_at {b : BA} {cT : Nat → ClassId} {M : AM} (h : q ∈ ks) : ∃ i : Nat, ks[i]? = some q ∧ (am_w b cT ks M)[i]? = some (am_ad b q, am_ce b cT M q) := by
  obtain ⟨i, hi⟩ := List.getElem?_of_mem h
  exact ⟨i, hi, by unfold am_w; rw [List.getElem?_map, hi]; rfl⟩
theorem am_w_of {b : BA} {cT : Nat → ClassId} {M : AM} {i : Nat} {x : Nat × va_E} (h : (am_w b cT ks M)[i]? = some x) : ∃ q, ks[i]? = some q ∧ x = (am_ad b q, am_ce b cT M q) := by
  unfold am_w at h
  rw [List.getElem?_map] at h
  cases hk : ks[i]? with
  | none => rw [hk] at h; cases h
  | some q => rw [hk] at h; exact ⟨q, rfl, (Option.some.inj h).symm⟩
theorem am_ce_obj (b : BA) (cT : Nat → ClassId) (M : AM) (h : am_kd q.1 < 11) : am_ce b cT M q = .inr (am_kd q.1, (List.range (am_ln q.1)).map (am_fv b M q)) := if_pos h
theorem am_ce_i (b : BA) (cT : Nat → ClassId) (M : AM) (h : am_kd q.1 = 11 ∨ am_kd q.1 = 13) : am_ce b cT M q = .inl (cT (am_kd q.1), am_ln q.1, .inl (M.1 q)) := by
  unfold am_ce
  rw [if_neg (by omega), if_neg (by omega), if_pos (by omega)]
theorem am_ce_l (b : BA) (cT : Nat → ClassId) (M : AM) (h : am_kd q.1 = 12) : am_ce b cT M q = .inl (cT 12, am_ln q.1, .inr (.inl (M.2.1 q))) := by
  unfold am_ce
  rw [if_neg (by omega), if_pos h]
theorem am_ce_q (b : BA) (cT : Nat → ClassId) (M : AM) (h : 14 ≤ am_kd q.1) : am_ce b cT M q = .inl (cT (am_kd q.1), am_ln q.1, .inr (.inr (.inr (.inr (fun i => (M.2.2 q i).map (fun q => am_ad b q)))))) := by
  unfold am_ce
  rw [if_neg (by omega), if_neg (by omega), if_neg (by omega)]
theorem am_ce_congr (b : BA) (cT : Nat → ClassId) {M M' : AM} (h1 : M'.1 q = M.1 q) (h2 : M'.2.1 q = M.2.1 q) (h3 : M'.2.2 q = M.2.2 q) : am_ce b cT M' q = am_ce b cT M q := by
  have e : am_fv b M' q = am_fv b M q := by
    funext k
    unfold am_fv
    rw [h1, h2, h3]
  unfold am_ce
  rw [e, h1, h2, h3]
/-- one cell of the world changes -/
theorem am_P_upd {b : BA} {cT : Nat → ClassId} {D : va_G} {A : Nat → Prop} {H H1 : Heap} (hq : q ∈ ks) (hP : va_P D vwCl (am_w b cT ks M) H) (hD : va_D A (am_w b cT ks M)) (hsame : ∀ q', q' ≠ q → am_ce b cT M' q' = am_ce b cT M q')
    (hnew : va_at D vwCl (am_ad b q, am_ce b cT M' q) H1) (oq : ∀ a : Nat, a ≠ am_ad b q → H1[a]? = H[a]?) : va_P D vwCl (am_w b cT ks M') H1 ∧ va_D A (am_w b cT ks M') := by
  obtain ⟨j, hj, hwj⟩ := am_w_at (b := b) (cT := cT) (M := M) hq
  refine ⟨fun i x hx => ?_, fun i1 i2 x y hx hy hxy => ?_, fun i x hx => ?_⟩
  · obtain ⟨z, hz, rfl⟩ := am_w_of hx
    by_cases e : z = q
    · subst e
      exact hnew
    · rw [hsame z e]
      have hwi : (am_w b cT ks M)[i]? = some (am_ad b z, am_ce b cT M z) := by unfold am_w; rw [List.getElem?_map, hz]; rfl
      refine (hP i _ hwi).kept (oq _ fun h9 => e ?_)
      have hij := hD.1 i j _ _ hwi hwj h9
      subst hij
      exact Option.some.inj (hz.symm.trans hj)
  · obtain ⟨z, hz, rfl⟩ := am_w_of hx
    obtain ⟨z2, hz2, rfl⟩ := am_w_of hy
    exact hD.1 i1 i2 (am_ad b z, am_ce b cT M z) (am_ad b z2, am_ce b cT M z2) (by unfold am_w; rw [List.getElem?_map, hz]; rfl) (by unfold am_w; rw [List.getElem?_map, hz2]; rfl) hxy
  · obtain ⟨z, hz, rfl⟩ := am_w_of hx
    exact hD.2 i (am_ad b z, am_ce b cT M z) (by unfold am_w; rw [List.getElem?_map, hz]; rfl)
/-! answers -/
theorem r_iret {x : Int32} {ty : FieldType} (hd : decode md.2.1 pc = .ok (.ireturn, 1)) (hr : md.2.2.2 = some ty) (hn : narrow ty (.int x) = .int x) (hc : kc ≤ mc) (hs : kn ≤ ms) : X l md d mc ms al (some (vI x), ks, M) ks kc kn pc L [vI x] M := by
  intro p e s m args below meth c H locs b D cT A ls h0 h1 hl
  refine W.widen (k := mc) (n := ms) hc hs ?_
  exact W.zret (v := x) h0.1 h0.2.1 (h0.2.2.1.trans hr) hn (fun t ht hW => ⟨⟨rfl, by rw [ht]; exact h1.1, va_K.moved hW.alike h1.2.2.1, h1.2.1, fun ha => by rw [ht]; exact h1.2.2.2.2.2 ha⟩, h1.2.2.2.1.F ht⟩) h1.2.2.2.1.2.2 hd (hlocks := h0.2.2.2.2.2.1)
theorem r_lret {x : Int64} (hd : decode md.2.1 pc = .ok (.lreturn, 1)) (hr : md.2.2.2 = some .long) (hc : kc ≤ mc) (hs : kn ≤ ms) : X l md d mc ms al (some (vJ x), ks, M) ks kc kn pc L [vJ x] M := by
  intro p e s m args below meth c H locs b D cT A ls h0 h1 hl
  refine W.widen (k := mc) (n := ms) hc hs ?_
  exact W.lret (v := x) h0.1 h0.2.1 (h0.2.2.1.trans hr) (fun t ht hW => ⟨⟨rfl, by rw [ht]; exact h1.1, va_K.moved hW.alike h1.2.2.1, h1.2.1, fun ha => by rw [ht]; exact h1.2.2.2.2.2 ha⟩, h1.2.2.2.1.F ht⟩) h1.2.2.2.1.2.2 hd (hlocks := h0.2.2.2.2.2.1)
theorem r_aret {x : Option Key} {n : String} (hd : decode md.2.1 pc = .ok (.areturn, 1)) (hr : md.2.2.2 = some (.object n)) (hc : kc ≤ mc) (hs : kn ≤ ms) : X l md d mc ms al (some (vO x), ks, M) ks kc kn pc L [vO x] M := by
  intro p e s m args below meth c H locs b D cT A ls h0 h1 hl
  refine W.widen (k := mc) (n := ms) hc hs ?_
  exact W.aret (v := am_rv b x) h0.1 h0.2.1 (h0.2.2.1.trans hr) (Or.inl ⟨n, rfl⟩) (by cases x with
    | none => exact Or.inl rfl
    | some z => exact Or.inr ⟨_, rfl⟩) (fun t ht hW => ⟨⟨rfl, by rw [ht]; exact h1.1, va_K.moved hW.alike h1.2.2.1, h1.2.1, fun ha => by rw [ht]; exact h1.2.2.2.2.2 ha⟩, h1.2.2.2.1.F ht⟩) h1.2.2.2.1.2.2 hd (hlocks := h0.2.2.2.2.2.1)
theorem r_vret (hd : decode md.2.1 pc = .ok (.return_, 1)) (hr : md.2.2.2 = none) (hc : kc ≤ mc) (hs : kn ≤ ms) : X l md d mc ms al (none, ks, M) ks kc kn pc L [] M := by
  intro p e s m args below meth c H locs b D cT A ls h0 h1 hl
  refine W.widen (k := mc) (n := ms) hc hs ?_
  exact W.vret h0.1 h0.2.1 (h0.2.2.1.trans hr) (fun t ht hW => ⟨⟨rfl, by rw [ht]; exact h1.1, va_K.moved hW.alike h1.2.2.1, h1.2.1, fun ha => by rw [ht]; exact h1.2.2.2.2.2 ha⟩, h1.2.2.2.1.F ht⟩) h1.2.2.2.1.2.2 hd (hlocks := h0.2.2.2.2.2.1)
/-! fields: what the tables say of an entry of a class's pool -/
def FW (own : String) (idx ci k t : Nat) : Prop := ∃ (C : String) (F : u_T) (N : Nat), vwCl[ci]? = some (C, F, N) ∧ k < N ∧ (∀ w ∈ u_ws C F N, w ∈ Wd) ∧ Cond.fieldLink own idx (F k).1 (F k).2.1 (F k).2.2.1 ∈ Wd ∧ am_ft ci k = t
def FP (own : String) (idx ci k : Nat) (ty : FieldType) (fin : Bool) : Prop := ∃ (C : String) (F : u_T) (N : Nat) (ty0 : Nat → FieldType), vwCl[ci]? = some (C, F, N) ∧ k < N ∧ (∀ w ∈ u_ws C F N, w ∈ Wd) ∧ Cond.fieldLink own idx (F k).1 (F k).2.1 (F k).2.2.1 ∈ Wd ∧
  (∀ k, k < N → parseFieldDescriptor (F k).2.2.1 = some (ty0 k)) ∧ (∀ a, a < N → ∀ b, b < N → a ≠ b → (F a).2.1 ≠ (F b).2.1) ∧ (F k).2.2.2 = fin ∧ ty0 k = ty ∧ (fin = true → (F k).1 = own)
theorem am_ci {ci : Nat} {r : vw_C} (h : vwCl[ci]? = some r) : ci < 11 := (List.getElem?_eq_some_iff.mp h).1
theorem r_get {a : AV} {idx ci t : Nat} (hw : FW md.1.cls idx ci k t) (hd : decode md.2.1 pc = .ok (.getfield idx, 3)) (hq : q ∈ ks) (hk : am_kd q.1 = ci) (hl : k < am_ln q.1) (ha : ∀ b, am_ft ci k = t → am_fv b M q k = am_cv b a) (kk : X l md d mc ms al T ks kc kn (pc + 3) L (a :: st) M) : X l md d mc ms al T ks kc kn pc L (vR q :: st) M := by
  intro p e s m args below meth c H locs b D cT A ls h0 h1 hl9
  obtain ⟨C, F, N, hc, hkN, hin, hlink, hft⟩ := hw
  obtain ⟨i, hi, hwi⟩ := am_w_at (b := b) (cT := cT) (M := M) hq
  have hci := am_ci hc
  rw [am_ce_obj b cT M (by rw [hk]; exact hci)] at hwi
  refine va_get (D := D) (cl := vwCl) (v := am_cv b a) h0.1 h0.2.1 h0.2.2.2.1 hin h0.2.2.2.2.1 h1.2.2.1 h1.1 i hwi (by rw [hk]; exact hc) k hkN (h0.2.2.2.1 _ hlink) (fun _ h9 => h9) ?_ hd (kk p e s m args below meth c H locs b D cT A ls h0 h1 hl9)
  rw [List.getElem?_map, List.getElem?_range hl, ← ha b hft]
  rfl
theorem r_geti {idx ci : Nat} (hw : FW md.1.cls idx ci k 0) (hd : decode md.2.1 pc = .ok (.getfield idx, 3)) (hq : q ∈ ks) (hk : am_kd q.1 = ci) (hl : k < am_ln q.1) (kk : X l md d mc ms al T ks kc kn (pc + 3) L (vI (M.1 q k) :: st) M) : X l md d mc ms al T ks kc kn pc L (vR q :: st) M :=
  r_get hw hd hq hk hl (fun b h => by unfold am_fv; rw [hk, h]; rfl) kk
theorem r_getl {idx ci : Nat} (hw : FW md.1.cls idx ci k 1) (hd : decode md.2.1 pc = .ok (.getfield idx, 3)) (hq : q ∈ ks) (hk : am_kd q.1 = ci) (hl : k < am_ln q.1) (kk : X l md d mc ms al T ks kc kn (pc + 3) L (vJ (M.2.1 q k) :: st) M) : X l md d mc ms al T ks kc kn pc L (vR q :: st) M :=
  r_get hw hd hq hk hl (fun b h => by unfold am_fv; rw [hk, h]; rfl) kk
theorem r_getr {idx ci : Nat} {z : Option Key} (hw : FW md.1.cls idx ci k 2) (hd : decode md.2.1 pc = .ok (.getfield idx, 3)) (hq : q ∈ ks) (hk : am_kd q.1 = ci) (hl : k < am_ln q.1) (hz : M.2.2 q k = z) (kk : X l md d mc ms al T ks kc kn (pc + 3) L (vO z :: st) M) : X l md d mc ms al T ks kc kn pc L (vR q :: st) M :=
  r_get hw hd hq hk hl (fun b h => by unfold am_fv; rw [hk, h, hz]; rfl) kk
theorem am_put {p : Program} {e : Env} {R : Room} {s : State} {m : MethodId} {args : Array Value} {below : List Frame} {meth : Method} {c : Code} {H : Heap} {locs : List Loc} {Q : State → Prop} {ls : Array Slot} {rest : List Value} {b : BA} {D : va_G} {cT : Nat → ClassId} {A : Nat → Prop} {v : Value} {idx ci : Nat} {ty : FieldType} {fin : Bool}
    (h0 : am_X0 md p s m args meth c) (h1 : am_X1 b D cT A al ks M s H locs) (hw : FP md.1.cls idx ci k ty fin) (hi0 : fin = true → md.1.name = "<init>") (hd : decode md.2.1 pc = .ok (.putfield idx, 3)) (hq : q ∈ ks) (hk : am_kd q.1 = ci) (hl : k < am_ln q.1)
    (hn : narrow ty v = v) (hfit : fits ty v = true) (hsame : ∀ q', q' ≠ q → am_ce b cT M' q' = am_ce b cT M q') (hfv : ∀ j, am_fv b M' q j = if j = k then v else am_fv b M q j)
    (kk : ∀ (H1 : Heap) (locs1 : List Loc), am_X1 b D cT A al ks M' s H1 locs1 → W p l e R s m args below meth c H1 locs1 kc kn Q (F0 m (pc + 3) ls rest)) : W p l e R s m args below meth c H locs kc kn Q (F0 m pc ls (v :: .ref (am_ad b q) :: rest)) := by
  obtain ⟨C, F, N, ty0, hc, hkN, hin, hlink, hty, hnm, hfin, hty1, hdecl⟩ := hw
  obtain ⟨i, hi, hwi⟩ := am_w_at (b := b) (cT := cT) (M := M) hq
  have hci : am_kd q.1 < 11 := by rw [hk]; exact am_ci hc
  rw [am_ce_obj b cT M hci, hk] at hwi
  have hts := h0.2.2.2.1
  have hown := h0.2.2.2.2.1
  have hap := va_apart (own := md.1.cls) hts hin ty0 hty hnm h1.2.2.1 hc
  obtain ⟨r, g1, cell, q1, q2, q3, q4⟩ := h1.1 i _ hwi
  have hr : r = (C, F, N) := Option.some.inj (g1.symm.trans hc)
  subst hr
  obtain ⟨hSl, hfc, kC, hkC, hkind⟩ := h1.2.2.1.1 ci _ hc
  obtain ⟨cf, kf, fi, f, hi2, hsl⟩ := hSl k hkN
  have hlay := hts _ (hin _ (u_in_lay hkN))
  have hpd : parseFieldDescriptor (F k).2.2.1 = some ty := by rw [hty k hkN, hty1]
  have hst := (u_facts hfc hkC (u_lays hts hin hkN) hi2).1
  have fin9 : ∀ H1 : Heap, H1[am_ad b q]? = some (cell.setSlot f.slot v) → H1.size = H.size → (∀ z : Nat, z ≠ am_ad b q → H1[z]? = H[z]?) → am_X1 b D cT A al ks M' s H1 (locs ++ [⟨am_ad b q, f.slot⟩]) := by
    intro H1 e1 e2 e3
    rw [hsl] at e1
    have hlen : k < ((List.range (am_ln q.1)).map (am_fv b M q)).length := by simpa using hl
    have hset : ((List.range (am_ln q.1)).map (am_fv b M q)).set k v = (List.range (am_ln q.1)).map (am_fv b M' q) := by
      apply List.ext_getElem?
      intro j
      rw [List.getElem?_set, List.getElem?_map, List.getElem?_map]
      by_cases hj : k = j
      · subst hj
        rw [if_pos rfl, if_pos hlen, List.getElem?_range hl]
        show some v = some (am_fv b M' q k)
        rw [hfv, if_pos rfl]
      · rw [if_neg hj]
        by_cases hjl : j < am_ln q.1
        · rw [List.getElem?_range hjl]
          show some (am_fv b M q j) = some (am_fv b M' q j)
          rw [hfv, if_neg (Ne.symm hj)]
        · rw [List.getElem?_eq_none (by simpa using hjl)]
          rfl
    have hnew : va_at D vwCl (am_ad b q, am_ce b cT M' q) H1 := by
      rw [am_ce_obj b cT M' hci, hk, ← hset]
      exact ⟨_, hc, t_OB.to (V := updV (vp_V _) k v) ⟨_, e1, q2, q3, t_set q4 hap hkN v⟩ (fun j _ => vp_updV_set hlen v j)⟩
    obtain ⟨u1, u2⟩ := am_P_upd hq h1.1 h1.2.1 hsame hnew e3
    exact ⟨u1, u2, h1.2.2.1, h1.2.2.2.1.put e2 e3 (h1.2.1.2 i _ hwi), h1.2.2.2.2.1, fun ha => by rw [e2]; exact h1.2.2.2.2.2 ha⟩
  cases fin with
  | false =>
    unfold u_lay at hlay
    rw [if_neg (by rw [hfin]; decide)] at hlay
    have h6 := u_store hfc hkC hkind hlay hi2 hpd hn hfit
    refine W.putK h0.1 h0.2.1 (f := f) ⟨hown, h0.2.2.2.1 _ hlink, ⟨_, _, _, hi2⟩, hst⟩ (by rw [q2]; exact h6) q1 q3 (by rw [hsl]; exact k2_hasslot (q4 k hkN)) rfl rfl hd fun H1 e1 e2 e3 => ?_
    exact kk H1 _ (fin9 H1 e1 e2 e3)
  | true =>
    unfold u_lay at hlay
    rw [if_pos hfin] at hlay
    have hcf : m.cls = cf := by
      obtain ⟨_, _, c', _, _, _, -, -, hf', -, -, -, hown2, -⟩ := Cond.laysFinal_spec hlay
      have e1 : c' = cf := by have := hi2.symm.trans hf'; simp at this; exact this.1.symm
      rw [hdecl rfl] at hown2
      rw [← e1]; exact Option.some.inj (hown.symm.trans hown2)
    have h6 := u_fits hfc hkC hkind (Or.inr hlay) hi2 hpd hn hfit
    refine W.putFinK h0.1 h0.2.1 hown (h0.2.2.2.1 _ hlink) hi2 hst hcf (h0.2.2.2.2.2.2.2.trans (hi0 rfl)) (by rw [q2]; exact h6) q1 q3 (by rw [hsl]; exact k2_hasslot (q4 k hkN)) rfl rfl hd fun H1 e1 e2 e3 => ?_
    exact kk H1 _ (fin9 H1 e1 e2 e3)
def am_ui (M : AM) (q : Key) (k : Nat) (x : Int32) : AM := (fun q' k' => if k' = k ∧ q' = q then x else M.1 q' k', M.2)
def am_ul (M : AM) (q : Key) (k : Nat) (x : Int64) : AM := (M.1, fun q' k' => if k' = k ∧ q' = q then x else M.2.1 q' k', M.2.2)
def am_ur (M : AM) (q : Key) (k : Nat) (x : Option Key) : AM := (M.1, M.2.1, fun q' k' => if k' = k ∧ q' = q then x else M.2.2 q' k')
theorem am_ui_o {q' : Key} {x : Int32} (h : q' ≠ q) : (am_ui M q k x).1 q' = M.1 q' := funext fun j => if_neg (fun h9 => h h9.2)
theorem am_ul_o {q' : Key} {x : Int64} (h : q' ≠ q) : (am_ul M q k x).2.1 q' = M.2.1 q' := funext fun j => if_neg (fun h9 => h h9.2)
theorem am_ur_o {q' : Key} {x : Option Key} (h : q' ≠ q) : (am_ur M q k x).2.2 q' = M.2.2 q' := funext fun j => if_neg (fun h9 => h h9.2)
theorem am_fv_ui {b : BA} {x : Int32} (h : am_ft (am_kd q.1) k = 0) (j : Nat) : am_fv b (am_ui M q k x) q j = if j = k then .int x else am_fv b M q j := by
  by_cases hj : j = k
  · subst hj
    rw [if_pos rfl]
    unfold am_fv
    rw [h]
    show Value.int (if j = j ∧ q = q then x else M.1 q j) = _
    rw [if_pos ⟨rfl, rfl⟩]
  · rw [if_neg hj]
    unfold am_fv
    have e : (am_ui M q k x).1 q j = M.1 q j := if_neg (fun h9 => hj h9.1)
    rw [e]
    rfl
theorem am_fv_ul {b : BA} {x : Int64} (h : am_ft (am_kd q.1) k = 1) (j : Nat) : am_fv b (am_ul M q k x) q j = if j = k then .long x else am_fv b M q j := by
  by_cases hj : j = k
  · subst hj
    rw [if_pos rfl]
    unfold am_fv
    rw [h]
    show Value.long (if j = j ∧ q = q then x else M.2.1 q j) = _
    rw [if_pos ⟨rfl, rfl⟩]
  · rw [if_neg hj]
    unfold am_fv
    have e : (am_ul M q k x).2.1 q j = M.2.1 q j := if_neg (fun h9 => hj h9.1)
    rw [e]
    rfl
theorem am_fv_ur {b : BA} {x : Option Key} (h : am_ft (am_kd q.1) k = 2) (j : Nat) : am_fv b (am_ur M q k x) q j = if j = k then am_rv b x else am_fv b M q j := by
  by_cases hj : j = k
  · subst hj
    rw [if_pos rfl]
    unfold am_fv
    rw [h]
    show am_rv b (if j = j ∧ q = q then x else M.2.2 q j) = _
    rw [if_pos ⟨rfl, rfl⟩]
  · rw [if_neg hj]
    unfold am_fv
    have e : (am_ur M q k x).2.2 q j = M.2.2 q j := if_neg (fun h9 => hj h9.1)
    rw [e]
    rfl
theorem r_puti {x : Int32} {idx ci : Nat} {ty : FieldType} {fin : Bool} (hw : FP md.1.cls idx ci k ty fin) (hi0 : fin = true → md.1.name = "<init>") (hd : decode md.2.1 pc = .ok (.putfield idx, 3)) (hq : q ∈ ks) (hk : am_kd q.1 = ci) (hl : k < am_ln q.1) (hft : am_ft ci k = 0) (hn : narrow ty (.int x) = .int x) (hfit : fits ty (.int x) = true)
    (kk : X l md d mc ms al T ks kc kn (pc + 3) L st (am_ui M q k x)) : X l md d mc ms al T ks kc kn pc L (vI x :: vR q :: st) M := fun p e s m args below meth c H locs b D cT A ls h0 h1 hl9 =>
  am_put h0 h1 hw hi0 hd hq hk hl hn hfit (fun q' h => am_ce_congr b cT (am_ui_o h) rfl rfl) (am_fv_ui (by rw [hk]; exact hft)) (fun H1 locs1 h2 => kk p e s m args below meth c H1 locs1 b D cT A ls h0 h2 hl9)
theorem r_putl {x : Int64} {idx ci : Nat} {fin : Bool} (hw : FP md.1.cls idx ci k .long fin) (hi0 : fin = true → md.1.name = "<init>") (hd : decode md.2.1 pc = .ok (.putfield idx, 3)) (hq : q ∈ ks) (hk : am_kd q.1 = ci) (hl : k < am_ln q.1) (hft : am_ft ci k = 1)
    (kk : X l md d mc ms al T ks kc kn (pc + 3) L st (am_ul M q k x)) : X l md d mc ms al T ks kc kn pc L (vJ x :: vR q :: st) M := fun p e s m args below meth c H locs b D cT A ls h0 h1 hl9 =>
  am_put (M' := am_ul M q k x) h0 h1 hw hi0 hd hq hk hl rfl rfl (fun q' h => am_ce_congr b cT rfl (am_ul_o h) rfl) (am_fv_ul (by rw [hk]; exact hft)) (fun H1 locs1 h2 => kk p e s m args below meth c H1 locs1 b D cT A ls h0 h2 hl9)
theorem r_putr {x : Option Key} {idx ci : Nat} {ty : FieldType} {fin : Bool} (hw : FP md.1.cls idx ci k ty fin) (hi0 : fin = true → md.1.name = "<init>") (hd : decode md.2.1 pc = .ok (.putfield idx, 3)) (hq : q ∈ ks) (hk : am_kd q.1 = ci) (hl : k < am_ln q.1) (hft : am_ft ci k = 2) (hty : ∀ v : Option Nat, narrow ty (va_rf v) = va_rf v ∧ fits ty (va_rf v) = true)
    (kk : X l md d mc ms al T ks kc kn (pc + 3) L st (am_ur M q k x)) : X l md d mc ms al T ks kc kn pc L (vO x :: vR q :: st) M := fun p e s m args below meth c H locs b D cT A ls h0 h1 hl9 =>
  am_put (M' := am_ur M q k x) h0 h1 hw hi0 hd hq hk hl (hty _).1 (hty _).2 (fun q' h => am_ce_congr b cT rfl rfl (am_ur_o h)) (am_fv_ur (by rw [hk]; exact hft)) (fun H1 locs1 h2 => kk p e s m args below meth c H1 locs1 b D cT A ls h0 h2 hl9)
/-! arrays -/
theorem r_iald {i : Int32} (hd : decode md.2.1 pc = .ok (.iaload, 1)) (hq : q ∈ ks) (hk : am_kd q.1 = 11) (hin : vp_in i (am_ln q.1)) (kk : X l md d mc ms al T ks kc kn (pc + 1) L (vI (M.1 q i.toNatClampNeg) :: st) M) : X l md d mc ms al T ks kc kn pc L (vI i :: vR q :: st) M := by
  intro p e s m args below meth c H locs b D cT A ls h0 h1 hl9
  obtain ⟨j, hj, hwj⟩ := am_w_at (b := b) (cT := cT) (M := M) hq
  rw [am_ce_i b cT M (Or.inl hk), hk] at hwj
  exact va_iald (D := D) (cl := vwCl) h0.1 h0.2.1 h1.2.2.1 h1.1 j 0 hwj rfl hin hd (kk p e s m args below meth c H locs b D cT A ls h0 h1 hl9)
theorem r_zald {i : Int32} (hd : decode md.2.1 pc = .ok (.baload, 1)) (hq : q ∈ ks) (hk : am_kd q.1 = 13) (hin : vp_in i (am_ln q.1)) (kk : X l md d mc ms al T ks kc kn (pc + 1) L (vI (M.1 q i.toNatClampNeg) :: st) M) : X l md d mc ms al T ks kc kn pc L (vI i :: vR q :: st) M := by
  intro p e s m args below meth c H locs b D cT A ls h0 h1 hl9
  obtain ⟨j, hj, hwj⟩ := am_w_at (b := b) (cT := cT) (M := M) hq
  rw [am_ce_i b cT M (Or.inr hk), hk] at hwj
  exact va_zald (D := D) (cl := vwCl) h0.1 h0.2.1 h1.2.2.1 h1.1 j 2 hwj rfl hin hd (kk p e s m args below meth c H locs b D cT A ls h0 h1 hl9)
theorem r_lald {i : Int32} (hd : decode md.2.1 pc = .ok (.laload, 1)) (hq : q ∈ ks) (hk : am_kd q.1 = 12) (hin : vp_in i (am_ln q.1)) (kk : X l md d mc ms al T ks kc kn (pc + 1) L (vJ (M.2.1 q i.toNatClampNeg) :: st) M) : X l md d mc ms al T ks kc kn pc L (vI i :: vR q :: st) M := by
  intro p e s m args below meth c H locs b D cT A ls h0 h1 hl9
  obtain ⟨j, hj, hwj⟩ := am_w_at (b := b) (cT := cT) (M := M) hq
  rw [am_ce_l b cT M hk] at hwj
  exact va_lald (D := D) (cl := vwCl) h0.1 h0.2.1 h1.2.2.1 h1.1 j 1 hwj rfl hin hd (kk p e s m args below meth c H locs b D cT A ls h0 h1 hl9)
theorem am_rf_map (b : BA) (z : Option Key) : va_rf (z.map (fun q => am_ad b q)) = am_cv b (vO z) := rfl
theorem r_aald {i : Int32} {z : Option Key} (hd : decode md.2.1 pc = .ok (.aaload, 1)) (hq : q ∈ ks) (hk : 14 ≤ am_kd q.1 ∧ am_kd q.1 < 18) (hin : vp_in i (am_ln q.1)) (hz : M.2.2 q i.toNatClampNeg = z) (kk : X l md d mc ms al T ks kc kn (pc + 1) L (vO z :: st) M) : X l md d mc ms al T ks kc kn pc L (vI i :: vR q :: st) M := by
  intro p e s m args below meth c H locs b D cT A ls h0 h1 hl9
  obtain ⟨j, hj, hwj⟩ := am_w_at (b := b) (cT := cT) (M := M) hq
  rw [am_ce_q b cT M hk.1] at hwj
  have hlt : i.toNatClampNeg < am_ln q.1 := Nat.not_le.mp fun q => hin (Or.inr q)
  subst hz
  have k2 := kk p e s m args below meth c H locs b D cT A ls h0 h1 hl9
  have go : ∀ (t0 : Nat) (ty : FieldType), ty.isReference = true → (am_tys cT)[t0]? = some (cT (am_kd q.1), ty) → W p l e (am_rm d mc ms) s m args below meth c H locs kc kn (MQ below (am_Q b D cT A al T.1 T.2.1 T.2.2) args s mc ms A) (F0 m pc ls (List.map (am_cv b) (vI i :: vR q :: st))) := fun t0 ty hre ht =>
    W.aald (v := va_rf ((M.2.2 q i.toNatClampNeg).map (fun q => am_ad b q))) (ty := ty) h0.1 h0.2.1 (h1.1 j _ hwj) ((h1.2.2.1.2 t0 _ ht).1 (am_ln q.1) (fun j => va_rf ((M.2.2 q j).map (fun q => am_ad b q)))) hre (fun q => by cases q) (by show ¬ (i < 0 ∨ (arrV _ _ _).slots.size ≤ _); rw [arrV_size]; exact hin) (by show (arrV _ _ _).slots[_]? = _; rw [arrV_read _ _ hlt]) rfl rfl hd k2
  have hcase : am_kd q.1 = 14 ∨ am_kd q.1 = 15 ∨ am_kd q.1 = 16 ∨ am_kd q.1 = 17 := by omega
  rcases hcase with h | h | h | h
  · exact go 3 (.object RX2) rfl (by rw [h]; rfl)
  · exact go 4 (.object RX3) rfl (by rw [h]; rfl)
  · exact go 5 (.object RX7) rfl (by rw [h]; rfl)
  · exact go 6 (.array .int) rfl (by rw [h]; rfl)
theorem am_row_upd {q' : Key} {x : Int32} : (am_ui M q k x).1 q = upd (M.1 q) k x := by
  funext j
  show (if j = k ∧ q = q then x else M.1 q j) = upd (M.1 q) k x j
  by_cases h : j = k
  · rw [if_pos ⟨h, rfl⟩, h]; simp [upd]
  · rw [if_neg (fun h9 => h h9.1)]; simp [upd, h]
theorem r_iast {i x : Int32} (hd : decode md.2.1 pc = .ok (.iastore, 1)) (hq : q ∈ ks) (hk : am_kd q.1 = 11) (hin : vp_in i (am_ln q.1)) (kk : X l md d mc ms al T ks kc kn (pc + 1) L st (am_ui M q i.toNatClampNeg x)) : X l md d mc ms al T ks kc kn pc L (vI x :: vI i :: vR q :: st) M := by
  intro p e s m args below meth c H locs b D cT A ls h0 h1 hl9
  obtain ⟨j, hj, hwj⟩ := am_w_at (b := b) (cT := cT) (M := M) hq
  rw [am_ce_i b cT M (Or.inl hk), hk] at hwj
  refine W.iast h0.1 h0.2.1 (h1.1 j _ hwj) ((h1.2.2.1.2 0 _ rfl).1 (am_ln q.1) (fun j => .int (M.1 q j))) (fun q => by cases q) (by show ¬ (i < 0 ∨ (arrV _ _ _).slots.size ≤ _); rw [arrV_size]; exact hin) rfl rfl hd fun H1 e1 e2 e3 => ?_
  have hnew : va_at D vwCl (am_ad b q, am_ce b cT (am_ui M q i.toNatClampNeg x) q) H1 := by
    rw [am_ce_i b cT _ (Or.inl hk), hk]
    show H1[am_ad b q]? = some (vp_cell _ _)
    rw [e1]
    rw [vp_cell_i, vp_cell_i, arrV_store]
    congr 2
    funext z
    show updV (fun j => Value.int (M.1 q j)) i.toNatClampNeg (.int x) z = Value.int (if z = i.toNatClampNeg ∧ q = q then x else M.1 q z)
    by_cases hz : z = i.toNatClampNeg
    · simp [updV, hz]
    · simp [updV, hz]
  obtain ⟨u1, u2⟩ := am_P_upd hq h1.1 h1.2.1 (fun q' h => am_ce_congr b cT (am_ui_o h) rfl rfl) hnew e3
  exact kk p e s m args below meth c H1 _ b D cT A ls h0 ⟨u1, u2, h1.2.2.1, h1.2.2.2.1.put e2 e3 (h1.2.1.2 j _ hwj), h1.2.2.2.2.1, fun ha => by rw [e2]; exact h1.2.2.2.2.2 ha⟩ hl9
theorem r_zast {i x : Int32} (hd : decode md.2.1 pc = .ok (.bastore, 1)) (hq : q ∈ ks) (hk : am_kd q.1 = 13) (hin : vp_in i (am_ln q.1)) (hx : narrow .boolean (.int x) = .int x) (kk : X l md d mc ms al T ks kc kn (pc + 1) L st (am_ui M q i.toNatClampNeg x)) : X l md d mc ms al T ks kc kn pc L (vI x :: vI i :: vR q :: st) M := by
  intro p e s m args below meth c H locs b D cT A ls h0 h1 hl9
  obtain ⟨j, hj, hwj⟩ := am_w_at (b := b) (cT := cT) (M := M) hq
  rw [am_ce_i b cT M (Or.inr hk), hk] at hwj
  refine W.zast h0.1 h0.2.1 (h1.1 j _ hwj) ((h1.2.2.1.2 2 _ rfl).1 (am_ln q.1) (fun j => .int (M.1 q j))) (fun q => by cases q) (by show ¬ (i < 0 ∨ (arrV _ _ _).slots.size ≤ _); rw [arrV_size]; exact hin) rfl rfl hd fun H1 e1 e2 e3 => ?_
  have hnew : va_at D vwCl (am_ad b q, am_ce b cT (am_ui M q i.toNatClampNeg x) q) H1 := by
    rw [am_ce_i b cT _ (Or.inr hk), hk]
    show H1[am_ad b q]? = some (vp_cell _ _)
    rw [e1, hx]
    rw [vp_cell_i, vp_cell_i, arrV_store]
    congr 2
    funext z
    show updV (fun j => Value.int (M.1 q j)) i.toNatClampNeg (.int x) z = Value.int (if z = i.toNatClampNeg ∧ q = q then x else M.1 q z)
    by_cases hz : z = i.toNatClampNeg
    · simp [updV, hz]
    · simp [updV, hz]
  obtain ⟨u1, u2⟩ := am_P_upd hq h1.1 h1.2.1 (fun q' h => am_ce_congr b cT (am_ui_o h) rfl rfl) hnew e3
  exact kk p e s m args below meth c H1 _ b D cT A ls h0 ⟨u1, u2, h1.2.2.1, h1.2.2.2.1.put e2 e3 (h1.2.1.2 j _ hwj), h1.2.2.2.2.1, fun ha => by rw [e2]; exact h1.2.2.2.2.2 ha⟩ hl9
theorem r_last {i : Int32} {x : Int64} (hd : decode md.2.1 pc = .ok (.lastore, 1)) (hq : q ∈ ks) (hk : am_kd q.1 = 12) (hin : vp_in i (am_ln q.1)) (kk : X l md d mc ms al T ks kc kn (pc + 1) L st (am_ul M q i.toNatClampNeg x)) : X l md d mc ms al T ks kc kn pc L (vJ x :: vI i :: vR q :: st) M := by
  intro p e s m args below meth c H locs b D cT A ls h0 h1 hl9
  obtain ⟨j, hj, hwj⟩ := am_w_at (b := b) (cT := cT) (M := M) hq
  rw [am_ce_l b cT M hk] at hwj
  refine W.last h0.1 h0.2.1 (h1.1 j _ hwj) ((h1.2.2.1.2 1 _ rfl).1 (am_ln q.1) (fun j => .long (M.2.1 q j))) (fun q => by cases q) (by show ¬ (i < 0 ∨ (arrV _ _ _).slots.size ≤ _); rw [arrV_size]; exact hin) rfl rfl hd fun H1 e1 e2 e3 => ?_
  have hnew : va_at D vwCl (am_ad b q, am_ce b cT (am_ul M q i.toNatClampNeg x) q) H1 := by
    rw [am_ce_l b cT _ hk]
    show H1[am_ad b q]? = some (vp_cell _ _)
    rw [e1]
    rw [vp_cell_l, vp_cell_l, arrV_store]
    congr 2
    funext z
    show updV (fun j => Value.long (M.2.1 q j)) i.toNatClampNeg (.long x) z = Value.long (if z = i.toNatClampNeg ∧ q = q then x else M.2.1 q z)
    by_cases hz : z = i.toNatClampNeg
    · simp [updV, hz]
    · simp [updV, hz]
  obtain ⟨u1, u2⟩ := am_P_upd (M' := am_ul M q i.toNatClampNeg x) hq h1.1 h1.2.1 (fun q' h => am_ce_congr b cT rfl (am_ul_o h) rfl) hnew e3
  exact kk p e s m args below meth c H1 _ b D cT A ls h0 ⟨u1, u2, h1.2.2.1, h1.2.2.2.1.put e2 e3 (h1.2.1.2 j _ hwj), h1.2.2.2.2.1, fun ha => by rw [e2]; exact h1.2.2.2.2.2 ha⟩ hl9
theorem r_alen {v : Int32} (hd : decode md.2.1 pc = .ok (.arraylength, 1)) (hq : q ∈ ks) (hk : am_kd q.1 = 11) (hv : Int32.ofNat (am_ln q.1) = v) (kk : X l md d mc ms al T ks kc kn (pc + 1) L (vI v :: st) M) : X l md d mc ms al T ks kc kn pc L (vR q :: st) M := by
  intro p e s m args below meth c H locs b D cT A ls h0 h1 hl9
  obtain ⟨j, hj, hwj⟩ := am_w_at (b := b) (cT := cT) (M := M) hq
  rw [am_ce_i b cT M (Or.inl hk), hk] at hwj
  exact va_alen (D := D) (cl := vwCl) h0.1 h0.2.1 h1.2.2.1 h1.1 j 0 hwj rfl hv hd (kk p e s m args below meth c H locs b D cT A ls h0 h1 hl9)
end MR
