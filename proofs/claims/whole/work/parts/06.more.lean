/-! RULES of the layer: null, switches, loops; the memory that calls leave in its shape -/
section QR
variable {l : Launch} {md md2 : MD} {d d2 mc ms mc2 ms2 : Nat} {al : Bool} {T T2 : Option AV × List Key × AM} {ks : List Key} {kc kn pc : Nat} {L L' : List (Option AV)} {st as : List AV} {M M' : AM} {q : Key} {k : Nat}
theorem r_anull (hd : decode md.2.1 pc = .ok (.aconst_null, 1)) (k : X l md d mc ms al T ks kc kn (pc + 1) L (vN :: st) M) : X l md d mc ms al T ks kc kn pc L st M := fun p e s m args below meth c H locs b D cT A ls h0 h1 hl => lv_null h0.1 h0.2.1 hd (k p e s m args below meth c H locs b D cT A ls h0 h1 hl)
theorem r_aload_nN {i : Fin 4} (hd : decode md.2.1 pc = .ok (.aload_n i, 1)) (hi : L[(i : Nat)]? = some (some vN)) (k : X l md d mc ms al T ks kc kn (pc + 1) L (vN :: st) M) : X l md d mc ms al T ks kc kn pc L st M := fun p e s m args below meth c H locs b D cT A ls h0 h1 hl => lv_aload_nN h0.1 h0.2.1 hd rfl (am_lv_at hl hi) (k p e s m args below meth c H locs b D cT A ls h0 h1 hl)
theorem r_aloadN {i : Nat} (hd : decode md.2.1 pc = .ok (.aload i, 2)) (hi : L[i]? = some (some vN)) (k : X l md d mc ms al T ks kc kn (pc + 2) L (vN :: st) M) : X l md d mc ms al T ks kc kn pc L st M := fun p e s m args below meth c H locs b D cT A ls h0 h1 hl => lv_aloadN h0.1 h0.2.1 hd (am_lv_at hl hi) (k p e s m args below meth c H locs b D cT A ls h0 h1 hl)
theorem r_astore_nN {i : Fin 4} (hd : decode md.2.1 pc = .ok (.astore_n i, 1)) (hn : (i : Nat) < md.2.2.1) (hs : am_st1 L (i : Nat) vN = some L') (k : X l md d mc ms al T ks kc kn (pc + 1) L' st M) : X l md d mc ms al T ks kc kn pc L (vN :: st) M := fun p e s m args below meth c H locs b D cT A ls h0 h1 hl => lv_astore_nN h0.1 h0.2.1 hd rfl hl hn rfl (fun ls' hl' => k p e s m args below meth c H locs b D cT A ls' h0 h1 (am_lv_st1 hs rfl hl'))
theorem r_astoreN {i : Nat} (hd : decode md.2.1 pc = .ok (.astore i, 2)) (hn : i < md.2.2.1) (hs : am_st1 L i vN = some L') (k : X l md d mc ms al T ks kc kn (pc + 2) L' st M) : X l md d mc ms al T ks kc kn pc L (vN :: st) M := fun p e s m args below meth c H locs b D cT A ls h0 h1 hl => lv_astoreN h0.1 h0.2.1 hd hl hn rfl (fun ls' hl' => k p e s m args below meth c H locs b D cT A ls' h0 h1 (am_lv_st1 hs rfl hl'))
theorem r_ifnullR {off : Int} (hd : decode md.2.1 pc = .ok (.ifnull off, 3)) (k : X l md d mc ms al T ks kc kn (pc + 3) L st M) : X l md d mc ms al T ks kc kn pc L (vR q :: st) M := fun p e s m args below meth c H locs b D cT A ls h0 h1 hl => lv_ifnull h0.1 h0.2.1 hd (k p e s m args below meth c H locs b D cT A ls h0 h1 hl)
theorem r_ifnullN {off : Int} {tgt : Nat} (hd : decode md.2.1 pc = .ok (.ifnull off, 3)) (ht : (pc : Int) + off = (tgt : Int)) (k : X l md d mc ms al T ks kc kn tgt L st M) : X l md d mc ms al T ks kc kn pc L (vN :: st) M := fun p e s m args below meth c H locs b D cT A ls h0 h1 hl => lv_ifnullN h0.1 h0.2.1 hd ht (k p e s m args below meth c H locs b D cT A ls h0 h1 hl)
theorem r_ifnonnullR {off : Int} {tgt : Nat} (hd : decode md.2.1 pc = .ok (.ifnonnull off, 3)) (ht : (pc : Int) + off = (tgt : Int)) (k : X l md d mc ms al T ks kc kn tgt L st M) : X l md d mc ms al T ks kc kn pc L (vR q :: st) M := fun p e s m args below meth c H locs b D cT A ls h0 h1 hl => lv_ifnonnull h0.1 h0.2.1 hd ht (k p e s m args below meth c H locs b D cT A ls h0 h1 hl)
theorem r_ifnonnullN {off : Int} (hd : decode md.2.1 pc = .ok (.ifnonnull off, 3)) (k : X l md d mc ms al T ks kc kn (pc + 3) L st M) : X l md d mc ms al T ks kc kn pc L (vN :: st) M := fun p e s m args below meth c H locs b D cT A ls h0 h1 hl => lv_ifnonnullN h0.1 h0.2.1 hd (k p e s m args below meth c H locs b D cT A ls h0 h1 hl)
theorem r_tswIn {dflt lo hi : Int} {offs : Array Int} {len : Nat} {x kx : Int32} {off : Int} {tgt : Nat} (hd : decode md.2.1 pc = .ok (.tableswitch dflt lo hi offs, len)) (hx : x = kx) (h1 : ¬ kx.toInt < lo) (h2 : ¬ hi < kx.toInt) (ho : offs[(kx.toInt - lo).toNat]? = some off) (ht : (pc : Int) + off = (tgt : Int)) (k : X l md d mc ms al T ks kc kn tgt L st M) : X l md d mc ms al T ks kc kn pc L (vI x :: st) M := by
  subst hx
  exact fun p e s m args below meth c H locs b D cT A ls h0 hh1 hl => lv_tableIn h0.1 h0.2.1 hd h1 h2 ho ht (k p e s m args below meth c H locs b D cT A ls h0 hh1 hl)
theorem r_tswOut {dflt lo hi : Int} {offs : Array Int} {len : Nat} {x : Int32} {tgt : Nat} (hd : decode md.2.1 pc = .ok (.tableswitch dflt lo hi offs, len)) (h : x.toInt < lo ∨ hi < x.toInt) (ht : (pc : Int) + dflt = (tgt : Int)) (k : X l md d mc ms al T ks kc kn tgt L st M) : X l md d mc ms al T ks kc kn pc L (vI x :: st) M :=
  fun p e s m args below meth c H locs b D cT A ls h0 hh1 hl => lv_tableOut h0.1 h0.2.1 hd h ht (k p e s m args below meth c H locs b D cT A ls h0 hh1 hl)
theorem am_neI {x k : Int32} {z : Int} (h : ¬ x = k) (hk : k.toInt = z) : x.toInt ≠ z := fun e => h (Int32.toInt_inj.mp (e.trans hk.symm))
theorem r_iald' {i : Int32} {n : Nat} (hd : decode md.2.1 pc = .ok (.iaload, 1)) (hq : q ∈ ks) (hk : am_kd q.1 = 11) (hin : vp_in i (am_ln q.1)) (hi : i.toNatClampNeg = n) (kk : X l md d mc ms al T ks kc kn (pc + 1) L (vI (M.1 q n) :: st) M) : X l md d mc ms al T ks kc kn pc L (vI i :: vR q :: st) M := by subst hi; exact r_iald hd hq hk hin kk
theorem r_zald' {i : Int32} {n : Nat} (hd : decode md.2.1 pc = .ok (.baload, 1)) (hq : q ∈ ks) (hk : am_kd q.1 = 13) (hin : vp_in i (am_ln q.1)) (hi : i.toNatClampNeg = n) (kk : X l md d mc ms al T ks kc kn (pc + 1) L (vI (M.1 q n) :: st) M) : X l md d mc ms al T ks kc kn pc L (vI i :: vR q :: st) M := by subst hi; exact r_zald hd hq hk hin kk
theorem r_lald' {i : Int32} {n : Nat} (hd : decode md.2.1 pc = .ok (.laload, 1)) (hq : q ∈ ks) (hk : am_kd q.1 = 12) (hin : vp_in i (am_ln q.1)) (hi : i.toNatClampNeg = n) (kk : X l md d mc ms al T ks kc kn (pc + 1) L (vJ (M.2.1 q n) :: st) M) : X l md d mc ms al T ks kc kn pc L (vI i :: vR q :: st) M := by subst hi; exact r_lald hd hq hk hin kk
end QR
/-- a memory whose rows stay where they were made: ints, longs, which land (number) the reader has (0), which one holds in village v (v + 1) -/
abbrev PM : Type := (Key → Nat → Int32) × (Key → Nat → Int64) × (Nat → Option Nat)
def lay0 (r : Nat → Option Nat) (v : Nat) (k : Nat) : Option Key := match k with
  | 0 => some (1, 0, 0)
  | 1 => some (1, 1, 0)
  | 2 => some (1, 2, 0)
  | 4 => some (9, 0, 0)
  | 5 => some (19, 0, 0)
  | 7 => some (20, 0, 0)
  | 8 => some (25, 0, 0)
  | 9 => some (28, 0, 0)
  | 10 => some (29, 0, 0)
  | 11 => some (31, 0, 0)
  | _ => none
def lay1 (r : Nat → Option Nat) (v : Nat) (k : Nat) : Option Key := match k with
  | 1 => some (2, v, 0)
  | 2 => some (4, v, 0)
  | 5 => (r (v + 1)).map fun z => (11, z, 0)
  | 7 => some (6, v, 0)
  | 8 => some (7, v, 0)
  | 9 => some (8, v, 0)
  | _ => none
def lay9 (r : Nat → Option Nat) (v : Nat) (k : Nat) : Option Key := match k with
  | 0 => some (10, 0, 0)
  | 3 => (r 0).map fun z => (11, z, 0)
  | _ => none
def lay11 (r : Nat → Option Nat) (v : Nat) (k : Nat) : Option Key := match k with
  | 2 => some (12, v, 0)
  | 3 => some (13, v, 0)
  | 4 => some (14, v, 0)
  | 5 => some (15, v, 0)
  | 6 => some (16, v, 0)
  | 7 => some (17, v, 0)
  | 8 => some (18, v, 0)
  | _ => none
def lay20 (r : Nat → Option Nat) (v : Nat) (k : Nat) : Option Key := match k with
  | 2 => some (21, 0, 0)
  | 3 => some (22, 0, 0)
  | 4 => some (23, 0, 0)
  | 5 => some (24, 0, 0)
  | _ => none
def lay25 (r : Nat → Option Nat) (v : Nat) (k : Nat) : Option Key := match k with
  | 0 => some (26, 0, 0)
  | _ => none
def lay28 (r : Nat → Option Nat) (v : Nat) (k : Nat) : Option Key := match k with
  | 3 => some (1, 3, 0)
  | _ => none
def lay29 (r : Nat → Option Nat) (v : Nat) (k : Nat) : Option Key := match k with
  | 1 => some (30, 0, 0)
  | _ => none
def lay32 (r : Nat → Option Nat) (v : Nat) (k : Nat) : Option Key := match k with
  | 2 => some (33, v, 0)
  | _ => none
def lay40 (r : Nat → Option Nat) (v : Nat) (k : Nat) : Option Key := match k with
  | 4 => some (41, 0, 0)
  | 5 => some (42, 0, 0)
  | 6 => some (43, 0, 0)
  | 7 => some (44, 0, 0)
  | 8 => some (45, 0, 0)
  | 9 => some (46, 0, 0)
  | 10 => some (47, 0, 0)
  | 11 => some (48, 0, 0)
  | 12 => some (49, 0, 0)
  | 18 => some (50, 0, 0)
  | 19 => some (51, 0, 0)
  | 20 => some (52, 0, 0)
  | 21 => some (53, 0, 0)
  | 22 => some (54, 0, 0)
  | 23 => some (55, 0, 0)
  | 24 => some (56, 0, 0)
  | 25 => some (57, 0, 0)
  | 26 => some (58, 0, 0)
  | 30 => some (59, 0, 0)
  | 31 => some (60, 0, 0)
  | 37 => some (61, 0, 0)
  | 38 => some (62, 0, 0)
  | 39 => some (63, 0, 0)
  | 40 => some (64, 0, 0)
  | 41 => some (65, 0, 0)
  | 42 => some (66, 0, 0)
  | 43 => some (67, 0, 0)
  | 44 => some (68, 0, 0)
  | 45 => some (69, 0, 0)
  | 47 => some (70, 0, 0)
  | 48 => some (71, 0, 0)
  | 49 => some (72, 0, 0)
  | 53 => some (73, 0, 0)
  | 54 => some (74, 0, 0)
  | 55 => some (75, 0, 0)
  | 56 => some (76, 0, 0)
  | 57 => some (77, 0, 0)
  | 67 => some (78, 0, 0)
  | 68 => some (79, 0, 0)
  | 69 => some (80, 0, 0)
  | 70 => some (81, 0, 0)
  | 71 => some (82, 0, 0)
  | 72 => some (83, 0, 0)
  | 73 => some (84, 0, 0)
  | 74 => some (85, 0, 0)
  | 75 => some (86, 0, 0)
  | 76 => some (87, 0, 0)
  | 77 => some (88, 0, 0)
  | 79 => some (89, 0, 0)
  | 80 => some (90, 0, 0)
  | 81 => some (91, 0, 0)
  | 82 => some (92, 0, 0)
  | 83 => some (93, 0, 0)
  | _ => none
def lay (r : Nat → Option Nat) (q : Key) (k : Nat) : Option Key := match q with
  | (0, v, _) => lay0 r v k
  | (1, v, 0) => lay1 r v k
  | (2, v, _) => some (3, v, k)
  | (4, v, _) => some (5, v, k)
  | (9, 0, 0) => lay9 r 0 k
  | (11, v, _) => lay11 r v k
  | (19, _, _) => some (11, k, 0)
  | (20, v, _) => lay20 r v k
  | (25, v, _) => lay25 r v k
  | (26, _, _) => some (27, 0, k)
  | (28, v, _) => lay28 r v k
  | (29, v, _) => lay29 r v k
  | (31, _, _) => some (32, k, 0)
  | (32, v, _) => lay32 r v k
  | (40, v, _) => lay40 r v k
  | _ => none
def en (u : PM) : AM := (u.1, u.2.1, lay u.2.2)
def pi (u : PM) (q : Key) (k : Nat) (x : Int32) : PM := (fun q' k' => if k' = k ∧ q' = q then x else u.1 q' k', u.2)
def pl (u : PM) (q : Key) (k : Nat) (x : Int64) : PM := (u.1, fun q' k' => if k' = k ∧ q' = q then x else u.2.1 q' k', u.2.2)
def pr (u : PM) (v : Nat) (x : Option Nat) : PM := (u.1, u.2.1, fun v' => if v' = v then x else u.2.2 v')
def pci (u : PM) (q : Key) (f : Nat → Int32) : PM := (fun q' k => if q' = q then f k else u.1 q' k, u.2)
def pcl (u : PM) (q : Key) (f : Nat → Int64) : PM := (u.1, fun q' k => if q' = q then f k else u.2.1 q' k, u.2.2)
theorem en_pi (u : PM) (q : Key) (k : Nat) (x : Int32) : am_ui (en u) q k x = en (pi u q k x) := rfl
theorem en_pl (u : PM) (q : Key) (k : Nat) (x : Int64) : am_ul (en u) q k x = en (pl u q k x) := rfl
theorem en_pci (u : PM) (q : Key) (f : Nat → Int32) : am_cpi (en u) q f = en (pci u q f) := rfl
theorem en_pcl (u : PM) (q : Key) (f : Nat → Int64) : am_cpl (en u) q f = en (pcl u q f) := rfl
theorem en_pr1 (u : PM) (v : Nat) (x : Option Nat) : am_ur (en u) (1, v, 0) 5 (x.map fun z => (11, z, 0)) = en (pr u (v + 1) x) := by
  refine congrArg (fun f => (u.1, u.2.1, f)) (funext fun q => funext fun k => ?_)
  show (if k = 5 ∧ q = (1, v, 0) then _ else lay u.2.2 q k) = lay (pr u (v + 1) x).2.2 q k
  by_cases e : k = 5 ∧ q = (1, v, 0)
  · obtain ⟨rfl, rfl⟩ := e
    rw [if_pos ⟨rfl, rfl⟩]
    show _ = ((pr u (v + 1) x).2.2 (v + 1)).map _
    rw [show (pr u (v + 1) x).2.2 (v + 1) = x from if_pos rfl]
  · rw [if_neg e]
    unfold lay
    split
    all_goals (try rfl)
    · next v' =>
      unfold lay1
      split
      all_goals (try rfl)
      rw [show (pr u (v + 1) x).2.2 (v' + 1) = u.2.2 (v' + 1) from if_neg (fun h => e ⟨rfl, by rw [Nat.succ.inj h]⟩)]
theorem en_pr4 (u : PM) (x : Option Nat) : am_ur (en u) (9, 0, 0) 3 (x.map fun z => (11, z, 0)) = en (pr u 0 x) := by
  refine congrArg (fun f => (u.1, u.2.1, f)) (funext fun q => funext fun k => ?_)
  show (if k = 3 ∧ q = (9, 0, 0) then _ else lay u.2.2 q k) = lay (pr u 0 x).2.2 q k
  by_cases e : k = 3 ∧ q = (9, 0, 0)
  · obtain ⟨rfl, rfl⟩ := e
    rfl
  · rw [if_neg e]
    unfold lay
    split
    all_goals (try rfl)
    · unfold lay9
      split
      all_goals (try rfl)
      exact absurd ⟨rfl, rfl⟩ e
/-- a loop: the body goes on (inl) or leaves (inr) -/
def am_loop {S E : Type} (f : S → Option (S ⊕ E)) : Nat → S → Option E
  | 0, _ => none
  | n + 1, s => match f s with
    | none => none
    | some (.inl s') => am_loop f n s'
    | some (.inr e) => some e
theorem am_loop_of {S E : Type} {f : S → Option (S ⊕ E)} {P : S → Prop} {Pe : E → Prop} (h : ∀ s x, f s = some x → (∀ s', x = .inl s' → P s') → (∀ e, x = .inr e → Pe e) → P s) : ∀ (n : Nat) (s : S) (e : E), am_loop f n s = some e → Pe e → P s
  | 0, s, e, h1, _ => by cases h1
  | n + 1, s, e, h1, he => by
    unfold am_loop at h1
    cases hx : f s with
    | none => rw [hx] at h1; cases h1
    | some x =>
      rw [hx] at h1
      refine h s x hx (fun s' hs => ?_) (fun e' hs => ?_)
      · subst hs
        exact am_loop_of h n s' e h1 he
      · subst hs
        cases h1
        exact he
theorem am_bind {A B : Type} {o : Option A} {f : A → Option B} {r : B} (h : o.bind f = some r) : ∃ x, o = some x ∧ f x = some r := by
  cases o with
  | none => cases h
  | some x => exact ⟨x, rfl, h⟩
theorem am_if {A : Type} {c : Prop} [Decidable c] {a b : Option A} {r : A} (h : (if c then a else b) = some r) : (c → a = some r) ∧ (¬ c → b = some r) := by
  by_cases hc : c
  · rw [if_pos hc] at h; exact ⟨fun _ => h, fun h2 => absurd hc h2⟩
  · rw [if_neg hc] at h; exact ⟨fun h2 => absurd h2 hc, fun _ => h⟩
theorem am_chk {A : Type} {c : Prop} [Decidable c] {a : Option A} {r : A} (h : (if c then a else none) = some r) : c ∧ a = some r := by
  by_cases hc : c
  · rw [if_pos hc] at h; exact ⟨hc, h⟩
  · rw [if_neg hc] at h; cases h
theorem am_inj {A : Type} {a b : A} (h : some a = some b) : a = b := Option.some.inj h
theorem am_bool {x : Int32} (h : x = 0 ∨ x = 1) : narrow .boolean (.int x) = .int x ∧ fits .boolean (.int x) = true := by
  rcases h with rfl | rfl <;> exact ⟨rfl, rfl⟩
theorem vp_lt {i : Int32} {n : Nat} (h : ¬ (i < 0 ∨ n ≤ i.toNatClampNeg)) : i.toNatClampNeg < n := Nat.not_le.mp fun q => h (Or.inr q)
