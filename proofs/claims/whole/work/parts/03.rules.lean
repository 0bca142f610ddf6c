/-! RULES of the layer: an instruction each -/
section RU
variable {l : Launch} {md : MD} {d mc ms : Nat} {al : Bool} {T : Option AV × List Key × AM} {ks : List Key} {kc kn pc : Nat} {L L' : List (Option AV)} {st : List AV} {M : AM}
theorem am_lv_get (b : BA) : ∀ (L : List (Option AV)) (i j : Nat) (a : AV), L[i]? = some (some a) → (j + i, am_cv b a) ∈ am_lv b j L
  | [], i, j, a, h => by simp at h
  | none :: L, 0, j, a, h => by simp at h
  | none :: L, i + 1, j, a, h => by
    have := am_lv_get b L i (j + 1) a (by simpa using h)
    rw [show j + (i + 1) = j + 1 + i by omega]
    exact this
  | some x :: L, 0, j, a, h => by
    simp at h
    subst h
    exact List.mem_cons_self
  | some x :: L, i + 1, j, a, h => by
    have := am_lv_get b L i (j + 1) a (by simpa using h)
    rw [show j + (i + 1) = j + 1 + i by omega]
    exact List.mem_cons_of_mem _ this
theorem am_lv_of (b : BA) : ∀ (L : List (Option AV)) (j : Nat) (q : Nat × Value), q ∈ am_lv b j L → ∃ i a, L[i]? = some (some a) ∧ q = (j + i, am_cv b a)
  | [], j, q, h => by cases h
  | none :: L, j, q, h => by
    obtain ⟨i, a, h1, h2⟩ := am_lv_of b L (j + 1) q h
    exact ⟨i + 1, a, by simpa using h1, by rw [h2, show j + (i + 1) = j + 1 + i by omega]⟩
  | some x :: L, j, q, h => by
    rcases List.mem_cons.mp h with h | h
    · exact ⟨0, x, rfl, h⟩
    · obtain ⟨i, a, h1, h2⟩ := am_lv_of b L (j + 1) q h
      exact ⟨i + 1, a, by simpa using h1, by rw [h2, show j + (i + 1) = j + 1 + i by omega]⟩
theorem am_lv_at {b : BA} {ls : Array Slot} {n : Nat} (h : lv_has ls n (am_lv b 0 L)) {i : Nat} {a : AV} (hi : L[i]? = some (some a)) : ls[i]? = some (.val (am_cv b a)) := by
  have h1 := h.2.2 _ (am_lv_get b L i 0 a hi)
  simpa using h1
def am_cat : AV → Nat
  | .inr (.inl _) => 2
  | _ => 1
theorem am_cat_eq (b : BA) (a : AV) : (am_cv b a).category = am_cat a := by
  rcases a with x | y | q
  · rfl
  · rfl
  · exact am_rv_cat b q
theorem am_cat_sum (b : BA) (st : List AV) : ((st.map (am_cv b)).map fun v => v.category) = st.map am_cat := by
  rw [List.map_map]
  exact List.map_congr_left (fun a _ => am_cat_eq b a)
/-- a store to one local -/
def am_st1 (L : List (Option AV)) (i : Nat) (a : AV) : Option (List (Option AV)) := match i with
  | 0 => some (L.set 0 (some a))
  | j + 1 => match L[j]? with
    | some (some (.inr (.inl _))) => none
    | _ => some (L.set (j + 1) (some a))
def am_st2 (L : List (Option AV)) (i : Nat) (a : AV) : Option (List (Option AV)) := (am_st1 L i a).map (fun L => L.set (i + 1) none)
theorem am_st1_of {i : Nat} {a : AV} (h : am_st1 L i a = some L') : L' = L.set i (some a) ∧ ∀ j : Nat, j + 1 = i → ∀ y, L[j]? ≠ some (some (.inr (.inl y))) := by
  cases i with
  | zero =>
    simp [am_st1] at h
    exact ⟨h.symm, fun j hj => by omega⟩
  | succ j =>
    unfold am_st1 at h
    dsimp only at h
    split at h
    · cases h
    · next hne =>
      cases h
      refine ⟨rfl, fun k hk y hy => ?_⟩
      have : k = j := by omega
      subst this
      exact hne y hy
theorem am_lv_st1 {b : BA} {ls : Array Slot} {n i : Nat} {a : AV} (hst : am_st1 L i a = some L') {v : Value} (hv : v = am_cv b a)
    (h : lv_has ls n ((i, v) :: (am_lv b 0 L).filter (fun q => !(q.1 == i) && !(q.1 + 1 == i && q.2.category == 2)))) : lv_has ls n (am_lv b 0 L') := by
  obtain ⟨rfl, hno⟩ := am_st1_of hst
  refine ⟨h.1, h.2.1, fun q hq => ?_⟩
  obtain ⟨k, a2, h1, h2⟩ := am_lv_of b _ 0 q hq
  rw [Nat.zero_add] at h2
  by_cases hk : k = i
  · subst hk
    have hl : k < L.length := by
      have := (List.getElem?_eq_some_iff.mp h1).1
      simpa using this
    rw [List.getElem?_set_self hl] at h1
    have e : a2 = a := by cases h1; rfl
    rw [h2, e, ← hv]
    exact h.2.2 _ List.mem_cons_self
  · rw [List.getElem?_set_ne (Ne.symm hk)] at h1
    refine h.2.2 q (List.mem_cons_of_mem _ (List.mem_filter.mpr ⟨?_, ?_⟩))
    · rw [h2]
      have := am_lv_get b L k 0 a2 h1
      simpa using this
    · rw [h2]
      dsimp only
      have e1 : (k == i) = false := by simpa using hk
      rw [e1, am_cat_eq]
      by_cases hk2 : k + 1 = i
      · rcases a2 with x | y | z
        · simp [am_cat]
        · exact absurd h1 (hno k hk2 y)
        · simp [am_cat]
      · have e2 : (k + 1 == i) = false := by simpa using hk2
        rw [e2]
        rfl
theorem am_lv_st2 {b : BA} {ls : Array Slot} {n i : Nat} {a : AV} (hst : am_st2 L i a = some L') {v : Value} (hv : v = am_cv b a)
    (h : lv_has ls n ((i, v) :: (am_lv b 0 L).filter (fun q => !(q.1 == i) && (!(q.1 == i + 1) && !(q.1 + 1 == i && q.2.category == 2))))) : lv_has ls n (am_lv b 0 L') := by
  obtain ⟨L1, hst1, hL1⟩ : ∃ L1, am_st1 L i a = some L1 ∧ L1.set (i + 1) none = L' := by
    unfold am_st2 at hst
    cases h9 : am_st1 L i a with
    | none => rw [h9] at hst; cases hst
    | some L1 => rw [h9] at hst; exact ⟨L1, rfl, Option.some.inj hst⟩
  obtain ⟨rfl, hno⟩ := am_st1_of hst1
  subst hL1
  refine ⟨h.1, h.2.1, fun q hq => ?_⟩
  obtain ⟨k, a2, h1, h2⟩ := am_lv_of b _ 0 q hq
  rw [Nat.zero_add] at h2
  by_cases hk1 : k = i + 1
  · subst hk1
    rw [List.getElem?_set] at h1
    simp at h1
  · rw [List.getElem?_set_ne (Ne.symm hk1)] at h1
    by_cases hk : k = i
    · subst hk
      have hl : k < L.length := by
        have := (List.getElem?_eq_some_iff.mp h1).1
        simpa using this
      rw [List.getElem?_set_self hl] at h1
      have e : a2 = a := by cases h1; rfl
      rw [h2, e, ← hv]
      exact h.2.2 _ List.mem_cons_self
    · rw [List.getElem?_set_ne (Ne.symm hk)] at h1
      refine h.2.2 q (List.mem_cons_of_mem _ (List.mem_filter.mpr ⟨?_, ?_⟩))
      · rw [h2]
        have := am_lv_get b L k 0 a2 h1
        simpa using this
      · rw [h2]
        dsimp only
        have e1 : (k == i) = false := by simpa using hk
        have e3 : (k == i + 1) = false := by simpa using hk1
        rw [e1, e3, am_cat_eq]
        by_cases hk2 : k + 1 = i
        · rcases a2 with x | y | z
          · simp [am_cat]
          · exact absurd h1 (hno k hk2 y)
          · simp [am_cat]
        · have e2 : (k + 1 == i) = false := by simpa using hk2
          rw [e2]
          rfl
theorem r_iconst {n : Int} {v : Int32} (hd : decode md.2.1 pc = .ok (.iconst n, 1)) (hv : Int32.ofInt n = v) (k : X l md d mc ms al T ks kc kn (pc + 1) L (vI v :: st) M) : X l md d mc ms al T ks kc kn pc L st M := fun p e s m args below meth c H locs b D cT A ls h0 h1 hl => lv_iconst h0.1 h0.2.1 hd hv (k p e s m args below meth c H locs b D cT A ls h0 h1 hl)
theorem r_bipush {n : Int} {v : Int32} (hd : decode md.2.1 pc = .ok (.bipush n, 2)) (hv : (Int8.ofInt n).toInt32 = v) (k : X l md d mc ms al T ks kc kn (pc + 2) L (vI v :: st) M) : X l md d mc ms al T ks kc kn pc L st M := fun p e s m args below meth c H locs b D cT A ls h0 h1 hl => lv_bipush h0.1 h0.2.1 hd hv (k p e s m args below meth c H locs b D cT A ls h0 h1 hl)
theorem r_sipush {n : Int} {v : Int32} (hd : decode md.2.1 pc = .ok (.sipush n, 3)) (hv : (Int16.ofInt n).toInt32 = v) (k : X l md d mc ms al T ks kc kn (pc + 3) L (vI v :: st) M) : X l md d mc ms al T ks kc kn pc L st M := fun p e s m args below meth c H locs b D cT A ls h0 h1 hl => lv_sipush h0.1 h0.2.1 hd hv (k p e s m args below meth c H locs b D cT A ls h0 h1 hl)
theorem r_lconst {n : Fin 2} {v : Int64} (hd : decode md.2.1 pc = .ok (.lconst n, 1)) (hv : Int64.ofNat (n : Nat) = v) (k : X l md d mc ms al T ks kc kn (pc + 1) L (vJ v :: st) M) : X l md d mc ms al T ks kc kn pc L st M := fun p e s m args below meth c H locs b D cT A ls h0 h1 hl => lv_lconst h0.1 h0.2.1 hd hv (k p e s m args below meth c H locs b D cT A ls h0 h1 hl)
theorem r_ldc {i : Nat} {v : Int32} (hd : decode md.2.1 pc = .ok (.ldc i, 2)) (hc : Cond.constant md.1.cls i v ∈ Wd) (k : X l md d mc ms al T ks kc kn (pc + 2) L (vI v :: st) M) : X l md d mc ms al T ks kc kn pc L st M := fun p e s m args below meth c H locs b D cT A ls h0 h1 hl => lv_ldc h0.1 h0.2.1 h0.2.2.2.2.1 (h0.2.2.2.1 _ hc) hd (k p e s m args below meth c H locs b D cT A ls h0 h1 hl)
theorem r_ldcw {i : Nat} {v : Int32} (hd : decode md.2.1 pc = .ok (.ldc_w i, 3)) (hc : Cond.constant md.1.cls i v ∈ Wd) (k : X l md d mc ms al T ks kc kn (pc + 3) L (vI v :: st) M) : X l md d mc ms al T ks kc kn pc L st M := fun p e s m args below meth c H locs b D cT A ls h0 h1 hl => lv_ldcw h0.1 h0.2.1 h0.2.2.2.2.1 (h0.2.2.2.1 _ hc) hd (k p e s m args below meth c H locs b D cT A ls h0 h1 hl)
theorem r_ldc2 {i : Nat} {v : Int64} (hd : decode md.2.1 pc = .ok (.ldc2_w i, 3)) (hc : Cond.constantLong md.1.cls i v ∈ Wd) (k : X l md d mc ms al T ks kc kn (pc + 3) L (vJ v :: st) M) : X l md d mc ms al T ks kc kn pc L st M := fun p e s m args below meth c H locs b D cT A ls h0 h1 hl => lv_ldc2 h0.1 h0.2.1 h0.2.2.2.2.1 (h0.2.2.2.1 _ hc) hd (k p e s m args below meth c H locs b D cT A ls h0 h1 hl)
theorem r_iload_n {i : Fin 4} {x : Int32} (hd : decode md.2.1 pc = .ok (.iload_n i, 1)) (hi : L[(i : Nat)]? = some (some (vI x))) (k : X l md d mc ms al T ks kc kn (pc + 1) L (vI x :: st) M) : X l md d mc ms al T ks kc kn pc L st M := fun p e s m args below meth c H locs b D cT A ls h0 h1 hl => lv_iload_n h0.1 h0.2.1 hd rfl (am_lv_at hl hi) (k p e s m args below meth c H locs b D cT A ls h0 h1 hl)
theorem r_iload {i : Nat} {x : Int32} (hd : decode md.2.1 pc = .ok (.iload i, 2)) (hi : L[i]? = some (some (vI x))) (k : X l md d mc ms al T ks kc kn (pc + 2) L (vI x :: st) M) : X l md d mc ms al T ks kc kn pc L st M := fun p e s m args below meth c H locs b D cT A ls h0 h1 hl => lv_iload h0.1 h0.2.1 hd (am_lv_at hl hi) (k p e s m args below meth c H locs b D cT A ls h0 h1 hl)
theorem r_lload_n {i : Fin 4} {x : Int64} (hd : decode md.2.1 pc = .ok (.lload_n i, 1)) (hi : L[(i : Nat)]? = some (some (vJ x))) (k : X l md d mc ms al T ks kc kn (pc + 1) L (vJ x :: st) M) : X l md d mc ms al T ks kc kn pc L st M := fun p e s m args below meth c H locs b D cT A ls h0 h1 hl => lv_lload_n h0.1 h0.2.1 hd rfl (am_lv_at hl hi) (k p e s m args below meth c H locs b D cT A ls h0 h1 hl)
theorem r_lload {i : Nat} {x : Int64} (hd : decode md.2.1 pc = .ok (.lload i, 2)) (hi : L[i]? = some (some (vJ x))) (k : X l md d mc ms al T ks kc kn (pc + 2) L (vJ x :: st) M) : X l md d mc ms al T ks kc kn pc L st M := fun p e s m args below meth c H locs b D cT A ls h0 h1 hl => lv_lload h0.1 h0.2.1 hd (am_lv_at hl hi) (k p e s m args below meth c H locs b D cT A ls h0 h1 hl)
theorem r_aload_n {i : Fin 4} {x : Key} (hd : decode md.2.1 pc = .ok (.aload_n i, 1)) (hi : L[(i : Nat)]? = some (some (vR x))) (k : X l md d mc ms al T ks kc kn (pc + 1) L (vR x :: st) M) : X l md d mc ms al T ks kc kn pc L st M := fun p e s m args below meth c H locs b D cT A ls h0 h1 hl => lv_aload_n h0.1 h0.2.1 hd rfl (am_lv_at hl hi) (k p e s m args below meth c H locs b D cT A ls h0 h1 hl)
theorem r_aload {i : Nat} {x : Key} (hd : decode md.2.1 pc = .ok (.aload i, 2)) (hi : L[i]? = some (some (vR x))) (k : X l md d mc ms al T ks kc kn (pc + 2) L (vR x :: st) M) : X l md d mc ms al T ks kc kn pc L st M := fun p e s m args below meth c H locs b D cT A ls h0 h1 hl => lv_aload h0.1 h0.2.1 hd (am_lv_at hl hi) (k p e s m args below meth c H locs b D cT A ls h0 h1 hl)
theorem r_istore_n {i : Fin 4} {x : Int32} (hd : decode md.2.1 pc = .ok (.istore_n i, 1)) (hn : (i : Nat) < md.2.2.1) (hs : am_st1 L (i : Nat) (vI x) = some L') (k : X l md d mc ms al T ks kc kn (pc + 1) L' st M) : X l md d mc ms al T ks kc kn pc L (vI x :: st) M := fun p e s m args below meth c H locs b D cT A ls h0 h1 hl => lv_istore_n h0.1 h0.2.1 hd rfl hl hn rfl (fun ls' hl' => k p e s m args below meth c H locs b D cT A ls' h0 h1 (am_lv_st1 hs rfl hl'))
theorem r_istore {i : Nat} {x : Int32} (hd : decode md.2.1 pc = .ok (.istore i, 2)) (hn : i < md.2.2.1) (hs : am_st1 L i (vI x) = some L') (k : X l md d mc ms al T ks kc kn (pc + 2) L' st M) : X l md d mc ms al T ks kc kn pc L (vI x :: st) M := fun p e s m args below meth c H locs b D cT A ls h0 h1 hl => lv_istore h0.1 h0.2.1 hd hl hn rfl (fun ls' hl' => k p e s m args below meth c H locs b D cT A ls' h0 h1 (am_lv_st1 hs rfl hl'))
theorem r_lstore_n {i : Fin 4} {x : Int64} (hd : decode md.2.1 pc = .ok (.lstore_n i, 1)) (hn : (i : Nat) + 1 < md.2.2.1) (hs : am_st2 L (i : Nat) (vJ x) = some L') (k : X l md d mc ms al T ks kc kn (pc + 1) L' st M) : X l md d mc ms al T ks kc kn pc L (vJ x :: st) M := fun p e s m args below meth c H locs b D cT A ls h0 h1 hl => lv_lstore_n h0.1 h0.2.1 hd rfl hl hn rfl (fun ls' hl' => k p e s m args below meth c H locs b D cT A ls' h0 h1 (am_lv_st2 hs rfl hl'))
theorem r_lstore {i : Nat} {x : Int64} (hd : decode md.2.1 pc = .ok (.lstore i, 2)) (hn : i + 1 < md.2.2.1) (hs : am_st2 L i (vJ x) = some L') (k : X l md d mc ms al T ks kc kn (pc + 2) L' st M) : X l md d mc ms al T ks kc kn pc L (vJ x :: st) M := fun p e s m args below meth c H locs b D cT A ls h0 h1 hl => lv_lstore h0.1 h0.2.1 hd hl hn rfl (fun ls' hl' => k p e s m args below meth c H locs b D cT A ls' h0 h1 (am_lv_st2 hs rfl hl'))
theorem r_astore_n {i : Fin 4} {x : Key} (hd : decode md.2.1 pc = .ok (.astore_n i, 1)) (hn : (i : Nat) < md.2.2.1) (hs : am_st1 L (i : Nat) (vR x) = some L') (k : X l md d mc ms al T ks kc kn (pc + 1) L' st M) : X l md d mc ms al T ks kc kn pc L (vR x :: st) M := fun p e s m args below meth c H locs b D cT A ls h0 h1 hl => lv_astore_n h0.1 h0.2.1 hd rfl hl hn rfl (fun ls' hl' => k p e s m args below meth c H locs b D cT A ls' h0 h1 (am_lv_st1 hs rfl hl'))
theorem r_astore {i : Nat} {x : Key} (hd : decode md.2.1 pc = .ok (.astore i, 2)) (hn : i < md.2.2.1) (hs : am_st1 L i (vR x) = some L') (k : X l md d mc ms al T ks kc kn (pc + 2) L' st M) : X l md d mc ms al T ks kc kn pc L (vR x :: st) M := fun p e s m args below meth c H locs b D cT A ls h0 h1 hl => lv_astore h0.1 h0.2.1 hd hl hn rfl (fun ls' hl' => k p e s m args below meth c H locs b D cT A ls' h0 h1 (am_lv_st1 hs rfl hl'))
theorem r_iadd {x y : Int32} (hd : decode md.2.1 pc = .ok (.iadd, 1))  (k : X l md d mc ms al T ks kc kn (pc + 1) L (vI (x + y) :: st) M) : X l md d mc ms al T ks kc kn pc L (vI y :: vI x :: st) M := fun p e s m args below meth c H locs b D cT A ls h0 h1 hl => lv_iadd h0.1 h0.2.1 hd  (k p e s m args below meth c H locs b D cT A ls h0 h1 hl)
theorem r_isub {x y : Int32} (hd : decode md.2.1 pc = .ok (.isub, 1))  (k : X l md d mc ms al T ks kc kn (pc + 1) L (vI (x - y) :: st) M) : X l md d mc ms al T ks kc kn pc L (vI y :: vI x :: st) M := fun p e s m args below meth c H locs b D cT A ls h0 h1 hl => lv_isub h0.1 h0.2.1 hd  (k p e s m args below meth c H locs b D cT A ls h0 h1 hl)
theorem r_imul {x y : Int32} (hd : decode md.2.1 pc = .ok (.imul, 1))  (k : X l md d mc ms al T ks kc kn (pc + 1) L (vI (x * y) :: st) M) : X l md d mc ms al T ks kc kn pc L (vI y :: vI x :: st) M := fun p e s m args below meth c H locs b D cT A ls h0 h1 hl => lv_imul h0.1 h0.2.1 hd  (k p e s m args below meth c H locs b D cT A ls h0 h1 hl)
theorem r_iand {x y : Int32} (hd : decode md.2.1 pc = .ok (.iand, 1))  (k : X l md d mc ms al T ks kc kn (pc + 1) L (vI (x &&& y) :: st) M) : X l md d mc ms al T ks kc kn pc L (vI y :: vI x :: st) M := fun p e s m args below meth c H locs b D cT A ls h0 h1 hl => lv_iand h0.1 h0.2.1 hd  (k p e s m args below meth c H locs b D cT A ls h0 h1 hl)
theorem r_ior {x y : Int32} (hd : decode md.2.1 pc = .ok (.ior, 1))  (k : X l md d mc ms al T ks kc kn (pc + 1) L (vI (x ||| y) :: st) M) : X l md d mc ms al T ks kc kn pc L (vI y :: vI x :: st) M := fun p e s m args below meth c H locs b D cT A ls h0 h1 hl => lv_ior h0.1 h0.2.1 hd  (k p e s m args below meth c H locs b D cT A ls h0 h1 hl)
theorem r_ixor {x y : Int32} (hd : decode md.2.1 pc = .ok (.ixor, 1))  (k : X l md d mc ms al T ks kc kn (pc + 1) L (vI (x ^^^ y) :: st) M) : X l md d mc ms al T ks kc kn pc L (vI y :: vI x :: st) M := fun p e s m args below meth c H locs b D cT A ls h0 h1 hl => lv_ixor h0.1 h0.2.1 hd  (k p e s m args below meth c H locs b D cT A ls h0 h1 hl)
theorem r_ishl {x y : Int32} (hd : decode md.2.1 pc = .ok (.ishl, 1))  (k : X l md d mc ms al T ks kc kn (pc + 1) L (vI (x <<< (y &&& 31)) :: st) M) : X l md d mc ms al T ks kc kn pc L (vI y :: vI x :: st) M := fun p e s m args below meth c H locs b D cT A ls h0 h1 hl => lv_ishl h0.1 h0.2.1 hd  (k p e s m args below meth c H locs b D cT A ls h0 h1 hl)
theorem r_ishr {x y : Int32} (hd : decode md.2.1 pc = .ok (.ishr, 1))  (k : X l md d mc ms al T ks kc kn (pc + 1) L (vI (x >>> (y &&& 31)) :: st) M) : X l md d mc ms al T ks kc kn pc L (vI y :: vI x :: st) M := fun p e s m args below meth c H locs b D cT A ls h0 h1 hl => lv_ishr h0.1 h0.2.1 hd  (k p e s m args below meth c H locs b D cT A ls h0 h1 hl)
theorem r_idiv {x y : Int32} (hd : decode md.2.1 pc = .ok (.idiv, 1)) (hne : ¬ y = 0) (k : X l md d mc ms al T ks kc kn (pc + 1) L (vI (x / y) :: st) M) : X l md d mc ms al T ks kc kn pc L (vI y :: vI x :: st) M := fun p e s m args below meth c H locs b D cT A ls h0 h1 hl => lv_idiv h0.1 h0.2.1 hd hne (k p e s m args below meth c H locs b D cT A ls h0 h1 hl)
theorem r_irem {x y : Int32} (hd : decode md.2.1 pc = .ok (.irem, 1)) (hne : ¬ y = 0) (k : X l md d mc ms al T ks kc kn (pc + 1) L (vI (x - x / y * y) :: st) M) : X l md d mc ms al T ks kc kn pc L (vI y :: vI x :: st) M := fun p e s m args below meth c H locs b D cT A ls h0 h1 hl => lv_irem h0.1 h0.2.1 hd hne (k p e s m args below meth c H locs b D cT A ls h0 h1 hl)
theorem r_ineg {x : Int32} (hd : decode md.2.1 pc = .ok (.ineg, 1))  (k : X l md d mc ms al T ks kc kn (pc + 1) L (vI (-x) :: st) M) : X l md d mc ms al T ks kc kn pc L (vI x :: st) M := fun p e s m args below meth c H locs b D cT A ls h0 h1 hl => lv_ineg h0.1 h0.2.1 hd  (k p e s m args below meth c H locs b D cT A ls h0 h1 hl)
theorem r_iushr {x y : Int32} (hd : decode md.2.1 pc = .ok (.iushr, 1))  (k : X l md d mc ms al T ks kc kn (pc + 1) L (vI (x.toUInt32 >>> (y.toUInt32 &&& Int32.toUInt32 31)).toInt32 :: st) M) : X l md d mc ms al T ks kc kn pc L (vI y :: vI x :: st) M := fun p e s m args below meth c H locs b D cT A ls h0 h1 hl => lv_iushr h0.1 h0.2.1 hd rfl (k p e s m args below meth c H locs b D cT A ls h0 h1 hl)
theorem r_ladd {x y : Int64} (hd : decode md.2.1 pc = .ok (.ladd, 1))  (k : X l md d mc ms al T ks kc kn (pc + 1) L (vJ (x + y) :: st) M) : X l md d mc ms al T ks kc kn pc L (vJ y :: vJ x :: st) M := fun p e s m args below meth c H locs b D cT A ls h0 h1 hl => lv_ladd h0.1 h0.2.1 hd  (k p e s m args below meth c H locs b D cT A ls h0 h1 hl)
theorem r_lmul {x y : Int64} (hd : decode md.2.1 pc = .ok (.lmul, 1))  (k : X l md d mc ms al T ks kc kn (pc + 1) L (vJ (x * y) :: st) M) : X l md d mc ms al T ks kc kn pc L (vJ y :: vJ x :: st) M := fun p e s m args below meth c H locs b D cT A ls h0 h1 hl => lv_lmul h0.1 h0.2.1 hd  (k p e s m args below meth c H locs b D cT A ls h0 h1 hl)
theorem r_land {x y : Int64} (hd : decode md.2.1 pc = .ok (.land, 1))  (k : X l md d mc ms al T ks kc kn (pc + 1) L (vJ (x &&& y) :: st) M) : X l md d mc ms al T ks kc kn pc L (vJ y :: vJ x :: st) M := fun p e s m args below meth c H locs b D cT A ls h0 h1 hl => lv_land h0.1 h0.2.1 hd  (k p e s m args below meth c H locs b D cT A ls h0 h1 hl)
theorem r_lor {x y : Int64} (hd : decode md.2.1 pc = .ok (.lor, 1))  (k : X l md d mc ms al T ks kc kn (pc + 1) L (vJ (x ||| y) :: st) M) : X l md d mc ms al T ks kc kn pc L (vJ y :: vJ x :: st) M := fun p e s m args below meth c H locs b D cT A ls h0 h1 hl => lv_lor h0.1 h0.2.1 hd  (k p e s m args below meth c H locs b D cT A ls h0 h1 hl)
theorem r_ldiv {x y : Int64} (hd : decode md.2.1 pc = .ok (.ldiv, 1)) (hne : ¬ y = 0) (k : X l md d mc ms al T ks kc kn (pc + 1) L (vJ (x / y) :: st) M) : X l md d mc ms al T ks kc kn pc L (vJ y :: vJ x :: st) M := fun p e s m args below meth c H locs b D cT A ls h0 h1 hl => lv_ldiv h0.1 h0.2.1 hd hne (k p e s m args below meth c H locs b D cT A ls h0 h1 hl)
theorem r_lrem {x y : Int64} (hd : decode md.2.1 pc = .ok (.lrem, 1)) (hne : ¬ y = 0) (k : X l md d mc ms al T ks kc kn (pc + 1) L (vJ (x - x / y * y) :: st) M) : X l md d mc ms al T ks kc kn pc L (vJ y :: vJ x :: st) M := fun p e s m args below meth c H locs b D cT A ls h0 h1 hl => lv_lrem h0.1 h0.2.1 hd hne (k p e s m args below meth c H locs b D cT A ls h0 h1 hl)
theorem r_lshl {x : Int64} {y : Int32} (hd : decode md.2.1 pc = .ok (.lshl, 1))  (k : X l md d mc ms al T ks kc kn (pc + 1) L (vJ (x <<< (y.toInt64 &&& 63)) :: st) M) : X l md d mc ms al T ks kc kn pc L (vI y :: vJ x :: st) M := fun p e s m args below meth c H locs b D cT A ls h0 h1 hl => lv_lshl h0.1 h0.2.1 hd rfl (k p e s m args below meth c H locs b D cT A ls h0 h1 hl)
theorem r_lcmp {x y : Int64} (hd : decode md.2.1 pc = .ok (.lcmp, 1))  (k : X l md d mc ms al T ks kc kn (pc + 1) L (vI (lg_cmp x y) :: st) M) : X l md d mc ms al T ks kc kn pc L (vJ y :: vJ x :: st) M := fun p e s m args below meth c H locs b D cT A ls h0 h1 hl => W.lcmp h0.1 h0.2.1 hd  (k p e s m args below meth c H locs b D cT A ls h0 h1 hl)
theorem r_i2l {x : Int32} (hd : decode md.2.1 pc = .ok (.i2l, 1))  (k : X l md d mc ms al T ks kc kn (pc + 1) L (vJ x.toInt64 :: st) M) : X l md d mc ms al T ks kc kn pc L (vI x :: st) M := fun p e s m args below meth c H locs b D cT A ls h0 h1 hl => lv_i2l h0.1 h0.2.1 hd rfl (k p e s m args below meth c H locs b D cT A ls h0 h1 hl)
theorem r_l2i {x : Int64} (hd : decode md.2.1 pc = .ok (.l2i, 1))  (k : X l md d mc ms al T ks kc kn (pc + 1) L (vI x.toInt32 :: st) M) : X l md d mc ms al T ks kc kn pc L (vJ x :: st) M := fun p e s m args below meth c H locs b D cT A ls h0 h1 hl => lv_l2i h0.1 h0.2.1 hd rfl (k p e s m args below meth c H locs b D cT A ls h0 h1 hl)
theorem r_i2b {x : Int32} (hd : decode md.2.1 pc = .ok (.i2b, 1))  (k : X l md d mc ms al T ks kc kn (pc + 1) L (vI x.toInt8.toInt32 :: st) M) : X l md d mc ms al T ks kc kn pc L (vI x :: st) M := fun p e s m args below meth c H locs b D cT A ls h0 h1 hl => lv_i2b h0.1 h0.2.1 hd rfl (k p e s m args below meth c H locs b D cT A ls h0 h1 hl)
theorem r_i2s {x : Int32} (hd : decode md.2.1 pc = .ok (.i2s, 1))  (k : X l md d mc ms al T ks kc kn (pc + 1) L (vI x.toInt16.toInt32 :: st) M) : X l md d mc ms al T ks kc kn pc L (vI x :: st) M := fun p e s m args below meth c H locs b D cT A ls h0 h1 hl => lv_i2s h0.1 h0.2.1 hd rfl (k p e s m args below meth c H locs b D cT A ls h0 h1 hl)
theorem r_i2c {x : Int32} (hd : decode md.2.1 pc = .ok (.i2c, 1))  (k : X l md d mc ms al T ks kc kn (pc + 1) L (vI (x.toUInt32 % 65536).toInt32 :: st) M) : X l md d mc ms al T ks kc kn pc L (vI x :: st) M := fun p e s m args below meth c H locs b D cT A ls h0 h1 hl => lv_i2c h0.1 h0.2.1 hd rfl (k p e s m args below meth c H locs b D cT A ls h0 h1 hl)
theorem r_dup {a : AV} (hd : decode md.2.1 pc = .ok (.dup, 1)) (ha : am_cat a = 1) (k : X l md d mc ms al T ks kc kn (pc + 1) L (a :: a :: st) M) : X l md d mc ms al T ks kc kn pc L (a :: st) M := fun p e s m args below meth c H locs b D cT A ls h0 h1 hl => lv_dup h0.1 h0.2.1 hd (by rw [am_cat_eq]; exact ha) (k p e s m args below meth c H locs b D cT A ls h0 h1 hl)
theorem r_pop {a : AV} (hd : decode md.2.1 pc = .ok (.pop, 1)) (ha : am_cat a = 1) (k : X l md d mc ms al T ks kc kn (pc + 1) L (st) M) : X l md d mc ms al T ks kc kn pc L (a :: st) M := fun p e s m args below meth c H locs b D cT A ls h0 h1 hl => lv_pop h0.1 h0.2.1 hd (by rw [am_cat_eq]; exact ha) (k p e s m args below meth c H locs b D cT A ls h0 h1 hl)
theorem r_dup_x1 {a b2 : AV} (hd : decode md.2.1 pc = .ok (.dup_x1, 1)) (ha : am_cat a = 1) (hb : am_cat b2 = 1) (k : X l md d mc ms al T ks kc kn (pc + 1) L (a :: b2 :: a :: st) M) : X l md d mc ms al T ks kc kn pc L (a :: b2 :: st) M := fun p e s m args below meth c H locs b D cT A ls h0 h1 hl => lv_dup_x1 h0.1 h0.2.1 hd (by rw [am_cat_eq]; exact ha) (by rw [am_cat_eq]; exact hb) (k p e s m args below meth c H locs b D cT A ls h0 h1 hl)
theorem r_dup2 {a b2 : AV} (hd : decode md.2.1 pc = .ok (.dup2, 1)) (ha : am_cat a = 1) (hb : am_cat b2 = 1) (k : X l md d mc ms al T ks kc kn (pc + 1) L (a :: b2 :: a :: b2 :: st) M) : X l md d mc ms al T ks kc kn pc L (a :: b2 :: st) M := fun p e s m args below meth c H locs b D cT A ls h0 h1 hl => lv_dup2_11 h0.1 h0.2.1 hd (by rw [am_cat_eq]; exact ha) (by rw [am_cat_eq]; exact hb) (k p e s m args below meth c H locs b D cT A ls h0 h1 hl)
theorem r_iinc {i : Nat} {n : Int} {x v : Int32} (hd : decode md.2.1 pc = .ok (.iinc i n, 3)) (hi : L[i]? = some (some (vI x))) (hv : x + Int32.ofInt n = v) (hn : i < md.2.2.1) (hs : am_st1 L i (vI v) = some L') (k : X l md d mc ms al T ks kc kn (pc + 3) L' st M) : X l md d mc ms al T ks kc kn pc L st M := by
  intro p e s m args below meth c H locs b D cT A ls h0 h1 hl
  obtain ⟨j, hj⟩ := List.getElem?_of_mem (am_lv_get b L i 0 _ hi)
  rw [Nat.zero_add] at hj
  exact lv_iinc h0.1 h0.2.1 hd hl hj hv hn rfl (fun ls' hl' => k p e s m args below meth c H locs b D cT A ls' h0 h1 (am_lv_st1 hs rfl hl'))
theorem r_if_eq {x : Int32} {off : Int} {tgt : Nat} (hd : decode md.2.1 pc = .ok (.ifCond .eq off, 3)) (ht : (pc : Int) + off = (tgt : Int)) (kt : x = 0 → X l md d mc ms al T ks kc kn tgt L st M) (kf : ¬ x = 0 → X l md d mc ms al T ks kc kn (pc + 3) L st M) : X l md d mc ms al T ks kc kn pc L (vI x :: st) M := fun p e s m args below meth c H locs b D cT A ls h0 h1 hl => lv_if_eq h0.1 h0.2.1 hd ht (fun h => kt h p e s m args below meth c H locs b D cT A ls h0 h1 hl) (fun h => kf h p e s m args below meth c H locs b D cT A ls h0 h1 hl)
theorem r_if_ne {x : Int32} {off : Int} {tgt : Nat} (hd : decode md.2.1 pc = .ok (.ifCond .ne off, 3)) (ht : (pc : Int) + off = (tgt : Int)) (kt : ¬ x = 0 → X l md d mc ms al T ks kc kn tgt L st M) (kf : x = 0 → X l md d mc ms al T ks kc kn (pc + 3) L st M) : X l md d mc ms al T ks kc kn pc L (vI x :: st) M := fun p e s m args below meth c H locs b D cT A ls h0 h1 hl => lv_if_ne h0.1 h0.2.1 hd ht (fun h => kt h p e s m args below meth c H locs b D cT A ls h0 h1 hl) (fun h => kf h p e s m args below meth c H locs b D cT A ls h0 h1 hl)
theorem r_if_lt {x : Int32} {off : Int} {tgt : Nat} (hd : decode md.2.1 pc = .ok (.ifCond .lt off, 3)) (ht : (pc : Int) + off = (tgt : Int)) (kt : x < 0 → X l md d mc ms al T ks kc kn tgt L st M) (kf : ¬ x < 0 → X l md d mc ms al T ks kc kn (pc + 3) L st M) : X l md d mc ms al T ks kc kn pc L (vI x :: st) M := fun p e s m args below meth c H locs b D cT A ls h0 h1 hl => lv_if_lt h0.1 h0.2.1 hd ht (fun h => kt h p e s m args below meth c H locs b D cT A ls h0 h1 hl) (fun h => kf h p e s m args below meth c H locs b D cT A ls h0 h1 hl)
theorem r_if_ge {x : Int32} {off : Int} {tgt : Nat} (hd : decode md.2.1 pc = .ok (.ifCond .ge off, 3)) (ht : (pc : Int) + off = (tgt : Int)) (kt : 0 ≤ x → X l md d mc ms al T ks kc kn tgt L st M) (kf : ¬ 0 ≤ x → X l md d mc ms al T ks kc kn (pc + 3) L st M) : X l md d mc ms al T ks kc kn pc L (vI x :: st) M := fun p e s m args below meth c H locs b D cT A ls h0 h1 hl => lv_if_ge h0.1 h0.2.1 hd ht (fun h => kt h p e s m args below meth c H locs b D cT A ls h0 h1 hl) (fun h => kf h p e s m args below meth c H locs b D cT A ls h0 h1 hl)
theorem r_if_gt {x : Int32} {off : Int} {tgt : Nat} (hd : decode md.2.1 pc = .ok (.ifCond .gt off, 3)) (ht : (pc : Int) + off = (tgt : Int)) (kt : 0 < x → X l md d mc ms al T ks kc kn tgt L st M) (kf : ¬ 0 < x → X l md d mc ms al T ks kc kn (pc + 3) L st M) : X l md d mc ms al T ks kc kn pc L (vI x :: st) M := fun p e s m args below meth c H locs b D cT A ls h0 h1 hl => lv_if_gt h0.1 h0.2.1 hd ht (fun h => kt h p e s m args below meth c H locs b D cT A ls h0 h1 hl) (fun h => kf h p e s m args below meth c H locs b D cT A ls h0 h1 hl)
theorem r_if_le {x : Int32} {off : Int} {tgt : Nat} (hd : decode md.2.1 pc = .ok (.ifCond .le off, 3)) (ht : (pc : Int) + off = (tgt : Int)) (kt : x ≤ 0 → X l md d mc ms al T ks kc kn tgt L st M) (kf : ¬ x ≤ 0 → X l md d mc ms al T ks kc kn (pc + 3) L st M) : X l md d mc ms al T ks kc kn pc L (vI x :: st) M := fun p e s m args below meth c H locs b D cT A ls h0 h1 hl => lv_if_le h0.1 h0.2.1 hd ht (fun h => kt h p e s m args below meth c H locs b D cT A ls h0 h1 hl) (fun h => kf h p e s m args below meth c H locs b D cT A ls h0 h1 hl)
theorem r_icmp_eq {x y : Int32} {off : Int} {tgt : Nat} (hd : decode md.2.1 pc = .ok (.if_icmp .eq off, 3)) (ht : (pc : Int) + off = (tgt : Int)) (kt : x = y → X l md d mc ms al T ks kc kn tgt L st M) (kf : ¬ x = y → X l md d mc ms al T ks kc kn (pc + 3) L st M) : X l md d mc ms al T ks kc kn pc L (vI y :: vI x :: st) M := fun p e s m args below meth c H locs b D cT A ls h0 h1 hl => lv_icmp_eq h0.1 h0.2.1 hd ht (fun h => kt h p e s m args below meth c H locs b D cT A ls h0 h1 hl) (fun h => kf h p e s m args below meth c H locs b D cT A ls h0 h1 hl)
theorem r_icmp_ne {x y : Int32} {off : Int} {tgt : Nat} (hd : decode md.2.1 pc = .ok (.if_icmp .ne off, 3)) (ht : (pc : Int) + off = (tgt : Int)) (kt : ¬ x = y → X l md d mc ms al T ks kc kn tgt L st M) (kf : x = y → X l md d mc ms al T ks kc kn (pc + 3) L st M) : X l md d mc ms al T ks kc kn pc L (vI y :: vI x :: st) M := fun p e s m args below meth c H locs b D cT A ls h0 h1 hl => lv_icmp_ne h0.1 h0.2.1 hd ht (fun h => kt h p e s m args below meth c H locs b D cT A ls h0 h1 hl) (fun h => kf h p e s m args below meth c H locs b D cT A ls h0 h1 hl)
theorem r_icmp_lt {x y : Int32} {off : Int} {tgt : Nat} (hd : decode md.2.1 pc = .ok (.if_icmp .lt off, 3)) (ht : (pc : Int) + off = (tgt : Int)) (kt : x < y → X l md d mc ms al T ks kc kn tgt L st M) (kf : ¬ x < y → X l md d mc ms al T ks kc kn (pc + 3) L st M) : X l md d mc ms al T ks kc kn pc L (vI y :: vI x :: st) M := fun p e s m args below meth c H locs b D cT A ls h0 h1 hl => lv_icmp_lt h0.1 h0.2.1 hd ht (fun h => kt h p e s m args below meth c H locs b D cT A ls h0 h1 hl) (fun h => kf h p e s m args below meth c H locs b D cT A ls h0 h1 hl)
theorem r_icmp_ge {x y : Int32} {off : Int} {tgt : Nat} (hd : decode md.2.1 pc = .ok (.if_icmp .ge off, 3)) (ht : (pc : Int) + off = (tgt : Int)) (kt : y ≤ x → X l md d mc ms al T ks kc kn tgt L st M) (kf : ¬ y ≤ x → X l md d mc ms al T ks kc kn (pc + 3) L st M) : X l md d mc ms al T ks kc kn pc L (vI y :: vI x :: st) M := fun p e s m args below meth c H locs b D cT A ls h0 h1 hl => lv_icmp_ge h0.1 h0.2.1 hd ht (fun h => kt h p e s m args below meth c H locs b D cT A ls h0 h1 hl) (fun h => kf h p e s m args below meth c H locs b D cT A ls h0 h1 hl)
theorem r_icmp_gt {x y : Int32} {off : Int} {tgt : Nat} (hd : decode md.2.1 pc = .ok (.if_icmp .gt off, 3)) (ht : (pc : Int) + off = (tgt : Int)) (kt : y < x → X l md d mc ms al T ks kc kn tgt L st M) (kf : ¬ y < x → X l md d mc ms al T ks kc kn (pc + 3) L st M) : X l md d mc ms al T ks kc kn pc L (vI y :: vI x :: st) M := fun p e s m args below meth c H locs b D cT A ls h0 h1 hl => lv_icmp_gt h0.1 h0.2.1 hd ht (fun h => kt h p e s m args below meth c H locs b D cT A ls h0 h1 hl) (fun h => kf h p e s m args below meth c H locs b D cT A ls h0 h1 hl)
theorem r_icmp_le {x y : Int32} {off : Int} {tgt : Nat} (hd : decode md.2.1 pc = .ok (.if_icmp .le off, 3)) (ht : (pc : Int) + off = (tgt : Int)) (kt : x ≤ y → X l md d mc ms al T ks kc kn tgt L st M) (kf : ¬ x ≤ y → X l md d mc ms al T ks kc kn (pc + 3) L st M) : X l md d mc ms al T ks kc kn pc L (vI y :: vI x :: st) M := fun p e s m args below meth c H locs b D cT A ls h0 h1 hl => lv_icmp_le h0.1 h0.2.1 hd ht (fun h => kt h p e s m args below meth c H locs b D cT A ls h0 h1 hl) (fun h => kf h p e s m args below meth c H locs b D cT A ls h0 h1 hl)
theorem r_ifnonnull {q : Option Key} {off : Int} {tgt : Nat} (hd : decode md.2.1 pc = .ok (.ifnonnull off, 3)) (ht : (pc : Int) + off = (tgt : Int)) (kn0 : q = none → X l md d mc ms al T ks kc kn (pc + 3) L st M) (ks0 : ∀ z, q = some z → X l md d mc ms al T ks kc kn tgt L st M) : X l md d mc ms al T ks kc kn pc L (vO q :: st) M := by
  intro p e s m args below meth c H locs b D cT A ls h0 h1 hl
  cases q with
  | none => exact lv_ifnonnullN h0.1 h0.2.1 hd (kn0 rfl p e s m args below meth c H locs b D cT A ls h0 h1 hl)
  | some z => exact lv_ifnonnull h0.1 h0.2.1 hd ht (ks0 z rfl p e s m args below meth c H locs b D cT A ls h0 h1 hl)
theorem r_ifnull {q : Option Key} {off : Int} {tgt : Nat} (hd : decode md.2.1 pc = .ok (.ifnull off, 3)) (ht : (pc : Int) + off = (tgt : Int)) (kn0 : q = none → X l md d mc ms al T ks kc kn tgt L st M) (ks0 : ∀ z, q = some z → X l md d mc ms al T ks kc kn (pc + 3) L st M) : X l md d mc ms al T ks kc kn pc L (vO q :: st) M := by
  intro p e s m args below meth c H locs b D cT A ls h0 h1 hl
  cases q with
  | none => exact lv_ifnullN h0.1 h0.2.1 hd ht (kn0 rfl p e s m args below meth c H locs b D cT A ls h0 h1 hl)
  | some z => exact lv_ifnull h0.1 h0.2.1 hd (ks0 z rfl p e s m args below meth c H locs b D cT A ls h0 h1 hl)
theorem r_goto {off : Int} {tgt : Nat} (hd : decode md.2.1 pc = .ok (.goto off, 3)) (ht : (pc : Int) + off = (tgt : Int)) (k : X l md d mc ms al T ks kc kn tgt L st M) : X l md d mc ms al T ks kc kn pc L st M := fun p e s m args below meth c H locs b D cT A ls h0 h1 hl => lv_goto h0.1 h0.2.1 hd ht (k p e s m args below meth c H locs b D cT A ls h0 h1 hl)
theorem r_table {dflt lo hi : Int} {offs : Array Int} {len : Nat} {x : Int32} {tgt : Nat} (hd : decode md.2.1 pc = .ok (.tableswitch dflt lo hi offs, len)) (ho : if x.toInt < lo ∨ hi < x.toInt then (pc : Int) + dflt = (tgt : Int) else ∃ off, offs[(x.toInt - lo).toNat]? = some off ∧ (pc : Int) + off = (tgt : Int)) (k : X l md d mc ms al T ks kc kn tgt L st M) : X l md d mc ms al T ks kc kn pc L (vI x :: st) M := by
  intro p e s m args below meth c H locs b D cT A ls h0 h1 hl
  by_cases h : x.toInt < lo ∨ hi < x.toInt
  · rw [if_pos h] at ho
    exact lv_tableOut h0.1 h0.2.1 hd h ho (k p e s m args below meth c H locs b D cT A ls h0 h1 hl)
  · rw [if_neg h] at ho
    obtain ⟨off, h2, h3⟩ := ho
    exact lv_tableIn h0.1 h0.2.1 hd (fun q => h (Or.inl q)) (fun q => h (Or.inr q)) h2 h3 (k p e s m args below meth c H locs b D cT A ls h0 h1 hl)
theorem r_lookup {dflt : Int} {ps : Array (Int × Int)} {len : Nat} {x : Int32} {off : Int} {tgt : Nat} (hd : decode md.2.1 pc = .ok (.lookupswitch dflt ps, len)) (hp : (ps.toList.zip (ps.toList.drop 1)).all (fun (a, next) => a.1 < next.1) = true) (ho : Op.lookupswitch.offset ps.toList dflt x.toInt = off) (ht : (pc : Int) + off = (tgt : Int)) (k : X l md d mc ms al T ks kc kn tgt L st M) : X l md d mc ms al T ks kc kn pc L (vI x :: st) M := fun p e s m args below meth c H locs b D cT A ls h0 h1 hl => lv_lookup h0.1 h0.2.1 hd hp ho ht (k p e s m args below meth c H locs b D cT A ls h0 h1 hl)
/-- fewer known locals -/
def am_le : List (Option AV) → List (Option AV) → Prop
  | [], [] => True
  | none :: L1, _ :: L2 => am_le L1 L2
  | some a :: L1, some a2 :: L2 => a = a2 ∧ am_le L1 L2
  | _, _ => False
theorem am_le_get : ∀ {L1 L2 : List (Option AV)} (_ : am_le L1 L2) {i : Nat} {a : AV}, L1[i]? = some (some a) → L2[i]? = some (some a)
  | [], [], _, i, a, h => by simp at h
  | [], _ :: _, h0, _, _, _ => h0.elim
  | none :: L1, [], h0, _, _, _ => h0.elim
  | some _ :: L1, [], h0, _, _, _ => h0.elim
  | none :: L1, _ :: L2, _, 0, a, h => by simp at h
  | none :: L1, _ :: L2, h0, i + 1, a, h => by
    have := am_le_get (L1 := L1) (L2 := L2) h0 (i := i) (a := a) (by simpa using h)
    simpa using this
  | some x :: L1, none :: L2, h0, i, a, h => h0.elim
  | some x :: L1, some y :: L2, h0, 0, a, h => by
    rw [← h0.1]
    simpa using h
  | some x :: L1, some y :: L2, h0, i + 1, a, h => by
    have := am_le_get (L1 := L1) (L2 := L2) h0.2 (i := i) (a := a) (by simpa using h)
    simpa using this
theorem r_weak (h9 : am_le L' L) (k : X l md d mc ms al T ks kc kn pc L' st M) : X l md d mc ms al T ks kc kn pc L st M := by
  intro p e s m args below meth c H locs b D cT A ls h0 h1 hl
  refine k p e s m args below meth c H locs b D cT A ls h0 h1 ⟨hl.1, hl.2.1, fun q hq => ?_⟩
  obtain ⟨i, a, h2, rfl⟩ := am_lv_of b L' 0 q hq
  rw [Nat.zero_add]
  exact am_lv_at hl (am_le_get h9 h2)
theorem r_to {M' : AM} {st' : List AV} {pc' : Nat} (h1 : pc = pc') (h2 : L = L') (h3 : st = st') (h4 : M = M') (k : X l md d mc ms al T ks kc kn pc' L' st' M') : X l md d mc ms al T ks kc kn pc L st M := by subst h1; subst h2; subst h3; subst h4; exact k
end RU
