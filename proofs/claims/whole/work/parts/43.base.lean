/-! THE MATHEMATICS: numbers, loops, memories alike but for some cells -/
theorem am_inv {S E : Type} {f : S → Option (S ⊕ E)} (I : Nat → S → Prop) (Q : E → Prop) (N : Nat)
    (hs : ∀ j t, j < N → I j t → (∃ t', f t = some (.inl t') ∧ I (j + 1) t') ∨ ∃ e, f t = some (.inr e) ∧ Q e)
    (he : ∀ t, I N t → ∃ e, f t = some (.inr e) ∧ Q e) : ∀ (n i : Nat) (s : S), i ≤ N → N < i + n → I i s → ∃ e, am_loop f n s = some e ∧ Q e
  | 0, i, s, h1, h2, _ => by omega
  | n + 1, i, s, h1, h2, h3 => by
    unfold am_loop
    have out : (∃ e, f s = some (.inr e) ∧ Q e) → ∃ e, (match f s with | none => none | some (.inl s') => am_loop f n s' | some (.inr e) => some e) = some e ∧ Q e := by
      rintro ⟨e, h4, h5⟩
      rw [h4]
      exact ⟨e, rfl, h5⟩
    by_cases hi : i = N
    · subst hi
      exact out (he s h3)
    · rcases hs i s (by omega) h3 with ⟨t', h4, h5⟩ | h4
      · rw [h4]
        exact am_inv I Q N hs he n (i + 1) t' (by omega) (by omega) h5
      · exact out h4
theorem am_inv0 {S E : Type} {f : S → Option (S ⊕ E)} (I : Nat → S → Prop) (Q : E → Prop) (N : Nat) {s : S} (h0 : I 0 s) (hN : N < 2000)
    (hs : ∀ j t, j < N → I j t → (∃ t', f t = some (.inl t') ∧ I (j + 1) t') ∨ ∃ e, f t = some (.inr e) ∧ Q e)
    (he : ∀ t, I N t → ∃ e, f t = some (.inr e) ∧ Q e) : ∃ e, am_loop f 2000 s = some e ∧ Q e :=
  am_inv I Q N hs he 2000 0 s (Nat.zero_le _) (by omega) h0
/-- the counted loop that never leaves early -/
theorem am_cnt {S E : Type} {f : S → Option (S ⊕ E)} (I : Nat → S → Prop) (Q : E → Prop) (N : Nat) {s : S} (h0 : I 0 s) (hN : N < 2000)
    (hs : ∀ j t, j < N → I j t → ∃ t', f t = some (.inl t') ∧ I (j + 1) t')
    (he : ∀ t, I N t → ∃ e, f t = some (.inr e) ∧ Q e) : ∃ e, am_loop f 2000 s = some e ∧ Q e :=
  am_inv0 I Q N h0 hN (fun j t hj h => Or.inl (hs j t hj h)) he
/-- the loop over known states -/
theorem am_seq {S E : Type} {f : S → Option (S ⊕ E)} (s : Nat → S) (e : E) (N : Nat) (hs : ∀ j, j < N → f (s j) = some (.inl (s (j + 1)))) (he : f (s N) = some (.inr e)) (hN : N < 2000) : am_loop f 2000 (s 0) = some e := by
  obtain ⟨e', h1, h2⟩ := am_cnt (f := f) (fun j t => t = s j) (fun x => x = e) N rfl hN (fun j t hj h => ⟨_, by rw [h]; exact hs j hj, rfl⟩) (fun t h => ⟨_, by rw [h]; exact he, rfl⟩)
  rw [h1, h2]
def eqx (g : Key → Nat → Bool) (u u' : PM) : Prop := (∀ q k, g q k = false → u'.1 q k = u.1 q k) ∧ (∀ q k, g q k = false → u'.2.1 q k = u.2.1 q k) ∧ (∀ v, g (200, v, 0) 0 = false → u'.2.2 v = u.2.2 v)
section EQX
variable {g g' : Key → Nat → Bool} {u u1 u2 : PM} {q : Key} {k : Nat}
theorem eqx.rf : eqx g u u := ⟨fun _ _ _ => rfl, fun _ _ _ => rfl, fun _ _ => rfl⟩
theorem eqx.tr (h : eqx g u u1) (h2 : eqx g u1 u2) : eqx g u u2 := ⟨fun q k e => (h2.1 q k e).trans (h.1 q k e), fun q k e => (h2.2.1 q k e).trans (h.2.1 q k e), fun v e => (h2.2.2 v e).trans (h.2.2 v e)⟩
theorem eqx.sm (h : eqx g u u1) : eqx g u1 u := ⟨fun q k e => (h.1 q k e).symm, fun q k e => (h.2.1 q k e).symm, fun v e => (h.2.2 v e).symm⟩
theorem eqx.mono (h : eqx g u u1) (hg : ∀ q k, g' q k = false → g q k = false) : eqx g' u u1 := ⟨fun q k e => h.1 q k (hg q k e), fun q k e => h.2.1 q k (hg q k e), fun v e => h.2.2 v (hg _ _ e)⟩
theorem eqx.pi {x : Int32} (h : eqx g u u1) (hg : g q k = true) : eqx g u (pi u1 q k x) := ⟨fun q' k' e => by
    show (if k' = k ∧ q' = q then x else u1.1 q' k') = _
    rw [if_neg (fun z => by rw [z.1, z.2, hg] at e; cases e)]
    exact h.1 q' k' e, h.2.1, h.2.2⟩
theorem eqx.pl {x : Int64} (h : eqx g u u1) (hg : g q k = true) : eqx g u (pl u1 q k x) := ⟨h.1, fun q' k' e => by
    show (if k' = k ∧ q' = q then x else u1.2.1 q' k') = _
    rw [if_neg (fun z => by rw [z.1, z.2, hg] at e; cases e)]
    exact h.2.1 q' k' e, h.2.2⟩
theorem eqx.pr {v : Nat} {x : Option Nat} (h : eqx g u u1) (hg : g (200, v, 0) 0 = true) : eqx g u (pr u1 v x) := ⟨h.1, h.2.1, fun v' e => by
    show (if v' = v then x else u1.2.2 v') = _
    rw [if_neg (fun z => by rw [z, hg] at e; cases e)]
    exact h.2.2 v' e⟩
theorem eqx.pci {f : Nat → Int32} (h : eqx g u u1) (hg : ∀ k, g q k = true) : eqx g u (pci u1 q f) := ⟨fun q' k' e => by
    show (if q' = q then f k' else u1.1 q' k') = _
    rw [if_neg (fun z => by rw [z, hg] at e; cases e)]
    exact h.1 q' k' e, h.2.1, h.2.2⟩
theorem eqx.pcl {f : Nat → Int64} (h : eqx g u u1) (hg : ∀ k, g q k = true) : eqx g u (pcl u1 q f) := ⟨h.1, fun q' k' e => by
    show (if q' = q then f k' else u1.2.1 q' k') = _
    rw [if_neg (fun z => by rw [z, hg] at e; cases e)]
    exact h.2.1 q' k' e, h.2.2⟩
end EQX
theorem p_i (u : PM) (q : Key) (k : Nat) (x : Int32) (q' : Key) (k' : Nat) : (pi u q k x).1 q' k' = if k' = k ∧ q' = q then x else u.1 q' k' := rfl
theorem p_i2 (u : PM) (q : Key) (k : Nat) (x : Int32) : (pi u q k x).2 = u.2 := rfl
theorem p_l (u : PM) (q : Key) (k : Nat) (x : Int64) (q' : Key) (k' : Nat) : (pl u q k x).2.1 q' k' = if k' = k ∧ q' = q then x else u.2.1 q' k' := rfl
theorem p_l1 (u : PM) (q : Key) (k : Nat) (x : Int64) : (pl u q k x).1 = u.1 := rfl
theorem p_l2 (u : PM) (q : Key) (k : Nat) (x : Int64) : (pl u q k x).2.2 = u.2.2 := rfl
theorem p_r1 (u : PM) (v : Nat) (x : Option Nat) : (pr u v x).1 = u.1 := rfl
theorem p_r2 (u : PM) (v : Nat) (x : Option Nat) : (pr u v x).2.1 = u.2.1 := rfl
theorem p_r (u : PM) (v : Nat) (x : Option Nat) (v' : Nat) : (pr u v x).2.2 v' = if v' = v then x else u.2.2 v' := rfl
theorem p_ci (u : PM) (q : Key) (f : Nat → Int32) (q' : Key) (k' : Nat) : (pci u q f).1 q' k' = if q' = q then f k' else u.1 q' k' := rfl
theorem p_ci2 (u : PM) (q : Key) (f : Nat → Int32) : (pci u q f).2 = u.2 := rfl
theorem p_cl (u : PM) (q : Key) (f : Nat → Int64) (q' : Key) (k' : Nat) : (pcl u q f).2.1 q' k' = if q' = q then f k' else u.2.1 q' k' := rfl
theorem p_cl1 (u : PM) (q : Key) (f : Nat → Int64) : (pcl u q f).1 = u.1 := rfl
theorem p_cl2 (u : PM) (q : Key) (f : Nat → Int64) : (pcl u q f).2.2 = u.2.2 := rfl
theorem i_lt0 {i : Nat} (h : i < 2147483648) : (nI i < 0) = False := eq_false (nI_pos h)
theorem i_le {a b : Nat} (h : a < 2147483648) (h2 : b < 2147483648) : (nI a ≤ nI b) = (a ≤ b) := propext (nI_leI h h2)
theorem i_lt {a b : Nat} (h : a < 2147483648) (h2 : b < 2147483648) : (nI a < nI b) = (a < b) := propext (nI_ltI h h2)
theorem i_eq {a b : Nat} (h : a < 2147483648) (h2 : b < 2147483648) : (nI a = nI b) = (a = b) := propext (nI_eq h h2)
theorem i_eq0 {a : Nat} (h : a < 2147483648) : (nI a = 0) = (a = 0) := propext (nI_eq (b := 0) h (by omega))
theorem i_le0 {a : Nat} (h : a < 2147483648) : (nI a ≤ 0) = (a = 0) := propext ((nI_leI (b := 0) h (by omega)).trans Nat.le_zero)
theorem i_0le {a : Nat} (h : a < 2147483648) : (0 ≤ nI a) = True := eq_true (nI_pos' h)
theorem i_cl {i : Nat} (h : i < 2147483648) : (nI i).toNatClampNeg = i := nI_clamp h
theorem i_mul (a b : Nat) : nI a * nI b = nI (a * b) := by
  unfold nI
  rw [Int32.ofNat_mul]
theorem i_sub {a b : Nat} (h : b ≤ a) : nI a - nI b = nI (a - b) := by
  obtain ⟨c, rfl⟩ := Nat.le.dest h
  rw [← nI_add, Nat.add_sub_cancel_left]
  rw [Int32.add_comm, Int32.add_sub_cancel]
theorem i_31 {i : Nat} (h : i < 32) : nI i &&& 31 = nI i := (show ∀ i, i < 32 → nI i &&& 31 = nI i by decide +kernel) i h
theorem L_0 : (0 : Int32) = nI 0 := rfl
theorem L_1 : (1 : Int32) = nI 1 := rfl
theorem L_2 : (2 : Int32) = nI 2 := rfl
theorem L_3 : (3 : Int32) = nI 3 := rfl
theorem L_4 : (4 : Int32) = nI 4 := rfl
theorem L_5 : (5 : Int32) = nI 5 := rfl
theorem L_6 : (6 : Int32) = nI 6 := rfl
theorem L_7 : (7 : Int32) = nI 7 := rfl
theorem L_8 : (8 : Int32) = nI 8 := rfl
theorem L_9 : (9 : Int32) = nI 9 := rfl
theorem L_10 : (10 : Int32) = nI 10 := rfl
theorem L_12 : (12 : Int32) = nI 12 := rfl
theorem L_20 : (20 : Int32) = nI 20 := rfl
theorem L_24 : (24 : Int32) = nI 24 := rfl
theorem L_32 : (32 : Int32) = nI 32 := rfl
theorem L_33 : (33 : Int32) = nI 33 := rfl
theorem L_36 : (36 : Int32) = nI 36 := rfl
theorem L_38 : (38 : Int32) = nI 38 := rfl
theorem L_40 : (40 : Int32) = nI 40 := rfl
theorem L_41 : (41 : Int32) = nI 41 := rfl
theorem L_48 : (48 : Int32) = nI 48 := rfl
theorem L_50 : (50 : Int32) = nI 50 := rfl
theorem L_57 : (57 : Int32) = nI 57 := rfl
theorem L_59 : (59 : Int32) = nI 59 := rfl
theorem L_60 : (60 : Int32) = nI 60 := rfl
theorem L_61 : (61 : Int32) = nI 61 := rfl
theorem L_62 : (62 : Int32) = nI 62 := rfl
theorem L_63 : (63 : Int32) = nI 63 := rfl
theorem L_64 : (64 : Int32) = nI 64 := rfl
theorem L_90 : (90 : Int32) = nI 90 := rfl
theorem L_99 : (99 : Int32) = nI 99 := rfl
theorem L_100 : (100 : Int32) = nI 100 := rfl
theorem L_101 : (101 : Int32) = nI 101 := rfl
theorem L_124 : (124 : Int32) = nI 124 := rfl
theorem L_200 : (200 : Int32) = nI 200 := rfl
theorem L_360 : (360 : Int32) = nI 360 := rfl
theorem L_500 : (500 : Int32) = nI 500 := rfl
theorem L_1000 : (1000 : Int32) = nI 1000 := rfl
theorem L_9999 : (9999 : Int32) = nI 9999 := rfl
theorem L_16777215 : (16777215 : Int32) = nI 16777215 := rfl
theorem L_1000000 : (1000000 : Int32) = nI 1000000 := rfl
