def R_law : String := "FireFromFireLaw"
def lw_P (b : Addr) (xs : List Int32) (args : Array Value) (s : State) : Prop := args = #[.ref b] ∧ s.IntsAt b xs ∧ xs.length ≤ 3072 ∧ (Jvm.Cond.and given_1 narrow_1).before args s = true
def lw_Q (_ : Array Value) (s : State) (o : Outcome) (t : State) : Prop := o = .returned (some (.int 1)) ∧ Framed s o t [] 600000 7302250
def lw_Z (below : List Frame) (a : Array Value) (s : State) : State → Prop := fun t => ∃ o, t.status = .running ∧ Ended t below o ∧ lw_Q a s o t
/-- the law's own end, with 1 on the stack, nothing written that was there before, its room as the claim has it -/
theorem lw_ret {p : Program} {l : Launch} {e : Env} {s : State} {m : MethodId} {below : List Frame} {meth : Method} {c : Code} {b : Nat} (hx : p.tables.exec = Jvm.exec) (hb : c.code = code) (hr : meth.sig.returnType = ret) (hlocks : meth.locks = false) {pc : Nat} {H : Heap} {ls : Array Slot} (hdg : decode code pc = .ok (.ireturn, 1)) : W p l e room_1 s m #[Value.ref b] below meth c H [] 600000 7302250 (lw_Z below #[Value.ref b] s) (F0 m pc ls [.int 1]) := by
  intro T hT X
  obtain ⟨fs, hret, hrun, hended, hW, hframe⟩ := X.leave (v := some (.int 1)) (hlocks := hlocks) (fun h => by rw [hr] at h; cases h)
  have hmeth' : T.vm.method? m = some meth := X.method'
  refine ⟨T.setFrames fs, ?_, .returned (some (.int 1)), hrun, hended, rfl, ⟨_, rfl⟩, hW, hframe⟩
  jvm_step X.here [X.here.top, hx, hb, hdg, hmeth', hr, ret, narrow_b1]
  (try refine ⟨rfl, ?_⟩); (try refine ⟨rfl, ?_⟩)
  first | (intro acts; rw [hret _ acts rfl rfl rfl]) | rw [hret _ _ rfl rfl rfl]
  exact Steps.refl _
/-- what holds at the law's entry: the machine, the code, the tables' words (any of lw_tbl by 'hts w (by decide +kernel)'), the script of L ints xs at the cell b, what the Statement gives of the start (any of its parts by flat_of_before) -/
def lw_At (p : Program) (s : State) (m : MethodId) (meth : Method) (c : Code) (b L : Nat) (xs : Nat → Int32) : Prop :=
  p.tables.exec = Jvm.exec ∧ c.code = code ∧ meth.sig.returnType = ret ∧ c.maxLocals = 4 ∧ s.vm.findClass R_law = some m.cls ∧ (∀ w ∈ lw_tbl, w.before #[Value.ref b] s = true) ∧ va_X b L xs s s.heap ∧ b < s.heap.size ∧ meth.locks = false ∧ (Jvm.Cond.and given_1 narrow_1).before #[Value.ref b] s = true
/-! THE START: the machine's state as the layer has it -/
theorem ar_p {s : State} {args : Array Value} {ty : FieldType} (h : (Cond.arrayClass ty).before args s = true) (hty : ty = .int ∨ ty = .long ∨ ty = .boolean) : ∃ c, ArrOfT s c ty ∧ va_RA s c ty := by
  obtain ⟨c, k, comp, h1, h2, h3⟩ := Cond.arrayClass_spec h
  refine ⟨c, fun n z => ⟨(fun k h => by cases h), k, h2, comp, h3⟩, ?_⟩
  rcases hty with rfl | rfl | rfl <;> exact h1
theorem ar_o {s : State} {args : Array Value} {C : String} (h : (Cond.arrayOver (.object C)).before args s = true) : ∃ c, ArrOfT s c (.object C) ∧ va_RA s c (.object C) := by
  obtain ⟨comp, c, k, h1, h2, h3, h4, h5⟩ := Cond.arrayOver_spec h
  exact ⟨c, fun n z => ⟨(fun k h => by cases h), k, h3, comp, h4⟩, k, comp, h3, h4, h1, h5⟩
theorem ar_a {s : State} {args : Array Value} {t : FieldType} (h : (Cond.arrayOver (.array t)).before args s = true) : ∃ c, ArrOfT s c (.array t) ∧ va_RA s c (.array t) := by
  obtain ⟨comp, c, k, h1, h2, h3, h4⟩ := Cond.arrayOver_specA h
  exact ⟨c, fun n z => ⟨(fun k h => by cases h), k, h2, comp, h3⟩, h4⟩
theorem kn_all {s : State} {args : Array Value} (hts : ∀ w ∈ Wd, w.before args s = true) (hti : ∀ w ∈ lw_tbl, w.before args s = true) : ∃ D : va_G, ∀ (k : Nat) (q : vw_C), vwCl[k]? = some q → u_Kn s q.1 q.2.1 q.2.2 (D.1 k) (D.2 k) := by
  have h0 : ∀ k : Nat, ∃ p : ClassId × (Nat → Nat), ∀ q : vw_C, vwCl[k]? = some q → u_Kn s q.1 q.2.1 q.2.2 p.1 p.2 := by
    intro k
    match k with
    | 0 =>
      obtain ⟨c, i, h⟩ := u_known (C := RX0) (T := TX0) (N := 5) (n := 5) hts inWd0 (hti _ (List.mem_of_getElem? (i := 318) (by decide +kernel)))
      exact ⟨(c, i), fun q hq => by
        obtain rfl := Option.some.inj (show some ((RX0, TX0, 5) : vw_C) = some q from hq)
        exact h⟩
    | 1 =>
      obtain ⟨c, i, h⟩ := u_known (C := RX1) (T := TX1) (N := 6) (n := 6) hts inWd1 (hti _ (List.mem_of_getElem? (i := 252) (by decide +kernel)))
      exact ⟨(c, i), fun q hq => by
        obtain rfl := Option.some.inj (show some ((RX1, TX1, 6) : vw_C) = some q from hq)
        exact h⟩
    | 2 =>
      obtain ⟨c, i, h⟩ := u_known (C := RX2) (T := TX2) (N := 9) (n := 9) hts inWd2 (hti _ (List.mem_of_getElem? (i := 119) (by decide +kernel)))
      exact ⟨(c, i), fun q hq => by
        obtain rfl := Option.some.inj (show some ((RX2, TX2, 9) : vw_C) = some q from hq)
        exact h⟩
    | 3 =>
      obtain ⟨c, i, h⟩ := u_known (C := RX3) (T := TX3) (N := 9) (n := 9) hts inWd3 (hti _ (List.mem_of_getElem? (i := 343) (by decide +kernel)))
      exact ⟨(c, i), fun q hq => by
        obtain rfl := Option.some.inj (show some ((RX3, TX3, 9) : vw_C) = some q from hq)
        exact h⟩
    | 4 =>
      obtain ⟨c, i, h⟩ := u_known (C := RX4) (T := TX4) (N := 4) (n := 4) hts inWd4 (hti _ (List.mem_of_getElem? (i := 294) (by decide +kernel)))
      exact ⟨(c, i), fun q hq => by
        obtain rfl := Option.some.inj (show some ((RX4, TX4, 4) : vw_C) = some q from hq)
        exact h⟩
    | 5 =>
      obtain ⟨c, i, h⟩ := u_known (C := RX5) (T := TX5) (N := 2) (n := 2) hts inWd5 (hti _ (List.mem_of_getElem? (i := 280) (by decide +kernel)))
      exact ⟨(c, i), fun q hq => by
        obtain rfl := Option.some.inj (show some ((RX5, TX5, 2) : vw_C) = some q from hq)
        exact h⟩
    | 6 =>
      obtain ⟨c, i, h⟩ := u_known (C := RX6) (T := TX6) (N := 4) (n := 4) hts inWd6 (hti _ (List.mem_of_getElem? (i := 229) (by decide +kernel)))
      exact ⟨(c, i), fun q hq => by
        obtain rfl := Option.some.inj (show some ((RX6, TX6, 4) : vw_C) = some q from hq)
        exact h⟩
    | 7 =>
      obtain ⟨c, i, h⟩ := u_known (C := RX7) (T := TX7) (N := 3) (n := 3) hts inWd7 (hti _ (List.mem_of_getElem? (i := 381) (by decide +kernel)))
      exact ⟨(c, i), fun q hq => by
        obtain rfl := Option.some.inj (show some ((RX7, TX7, 3) : vw_C) = some q from hq)
        exact h⟩
    | 8 =>
      obtain ⟨c, i, h⟩ := u_known (C := RX8) (T := TX8) (N := 10) (n := 10) hts inWd8 (hti _ (List.mem_of_getElem? (i := 110) (by decide +kernel)))
      exact ⟨(c, i), fun q hq => by
        obtain rfl := Option.some.inj (show some ((RX8, TX8, 10) : vw_C) = some q from hq)
        exact h⟩
    | 9 =>
      obtain ⟨c, i, h⟩ := u_known (C := RX9) (T := TX9) (N := 12) (n := 12) hts inWd9 (hti _ (List.mem_of_getElem? (i := 102) (by decide +kernel)))
      exact ⟨(c, i), fun q hq => by
        obtain rfl := Option.some.inj (show some ((RX9, TX9, 12) : vw_C) = some q from hq)
        exact h⟩
    | 10 =>
      obtain ⟨c, i, h⟩ := u_known (C := RX10) (T := TX10) (N := 84) (n := 84) hts inWd10 (hti _ (List.mem_of_getElem? (i := 1001) (by decide +kernel)))
      exact ⟨(c, i), fun q hq => by
        obtain rfl := Option.some.inj (show some ((RX10, TX10, 84) : vw_C) = some q from hq)
        exact h⟩
    | k + 11 => exact ⟨(0, fun _ => 0), fun q hq => by simp at hq⟩
  obtain ⟨f, hf⟩ := Classical.axiomOfChoice h0
  exact ⟨(fun k => (f k).1, fun k => (f k).2), hf⟩
def sx_tm (i : Nat) : Term := .string "FireFromFire$Reader" (sx_ix.getD i 0)
theorem sx_rf : ∀ i, i < 7 → lw_tbl[([501, 558, 559, 560, 561, 562, 594] : List Nat).getD i 0]? = some (Cond.stringRef "FireFromFire$Reader" (sx_ix.getD i 0) (sx_tx.getD i "")) := by decide +kernel
abbrev sx_fl : List Cond := flatC (Jvm.Cond.and given_1 narrow_1)
theorem sx_1 : ∀ i, i < 7 → Cond.exactly (sx_tm i) "java/lang/String" ∈ sx_fl := by decide +kernel
theorem sx_2 : ∀ i, i < 7 → Cond.eq (.field (sx_tm i) "java/lang/String" "coder" "B") (.int 0) ∈ sx_fl := by decide +kernel
theorem sx_3 : ∀ i, i < 7 → Cond.arrayOf (.field (sx_tm i) "java/lang/String" "value" "[B") .byte ∈ sx_fl := by decide +kernel
theorem sx_4 : ∀ i, i < 7 → Cond.eq (.length (.field (sx_tm i) "java/lang/String" "value" "[B")) (.int (Int32.ofNat (sx_len.getD i 0))) ∈ sx_fl := by decide +kernel
theorem sx_5 : ∀ i, i < 7 → ∀ j, j < sx_len.getD i 0 → Cond.eq (.elem (.field (sx_tm i) "java/lang/String" "value" "[B") (.int (Int32.ofNat j))) (.int ((sx_by.getD i []).getD j 0)) ∈ sx_fl := by decide +kernel
theorem sx_6 : ∀ i, i < 7 → ∀ j, j < 7 → i ≠ j → Cond.not (.eq (sx_tm i) (sx_tm j)) ∈ sx_fl ∨ Cond.not (.eq (sx_tm j) (sx_tm i)) ∈ sx_fl := by decide +kernel
theorem sx_7 : ∀ i, i < 7 → sx_len.getD i 0 < 2 ^ 31 := by decide +kernel
set_option maxHeartbeats 1000000 in
theorem se_of {s : State} {args : Array Value} (hts : ∀ w ∈ lw_tbl, w.before args s = true) (hgv : (Jvm.Cond.and given_1 narrow_1).before args s = true) : ∃ (adK adV : Nat → Nat) (fmt : Nat), ∀ base sc : Nat, am_SE (base, (fun i => if i = 100 then sc else adK i), adV, fmt) (fun q : Nat => s.heap.size ≤ q) s s.heap := by
  have hs := flat_of_before _ hgv
  have hA : ∀ a : Nat, a < s.heap.size → ¬ s.heap.size ≤ a := fun a h => Nat.not_le.mpr h
  have h1 : va_Z "java/lang/String" "COMPACT_STRINGS" "Z" (.int 1) (fun q : Nat => s.heap.size ≤ q) s s.heap := va_Zof (hts _ (List.mem_of_getElem? (i := 515) (by decide +kernel))) (hts _ (List.mem_of_getElem? (i := 93) (by decide +kernel))) (va_eqi (hs _ (by decide +kernel))) hA
  have h2 : va_Zq "jdk/internal/util/Preconditions" "SIOOBE_FORMATTER" "Ljava/util/function/BiFunction;" (fun q : Nat => s.heap.size ≤ q) s s.heap := va_Zqof (hts _ (List.mem_of_getElem? (i := 531) (by decide +kernel))) (hts _ (List.mem_of_getElem? (i := 95) (by decide +kernel))) (hs _ (by decide +kernel)) hA
  obtain ⟨adK, adV, hS, hv⟩ := vk_Sof (N := 7) (tm := sx_tm) (len := sx_len) (byt := sx_by) (A := fun q : Nat => s.heap.size ≤ q) sx_7 (fun i hi => hs _ (sx_1 i hi)) (fun i hi => hs _ (sx_2 i hi)) (fun i hi => hs _ (sx_3 i hi)) (fun i hi => hs _ (sx_4 i hi)) (fun i hi j hj => hs _ (sx_5 i hi j hj)) (fun i j hi hj hij => (sx_6 i hi j hj hij).imp (fun h => hs _ h) (fun h => hs _ h)) hA
  obtain ⟨fmt, hF⟩ : ∃ fmt : Nat, va_Z "jdk/internal/util/Preconditions" "SIOOBE_FORMATTER" "Ljava/util/function/BiFunction;" .null (fun q : Nat => s.heap.size ≤ q) s s.heap ∨ va_Z "jdk/internal/util/Preconditions" "SIOOBE_FORMATTER" "Ljava/util/function/BiFunction;" (.ref fmt) (fun q : Nat => s.heap.size ≤ q) s s.heap := by
    rcases h2 with h | ⟨t, h⟩
    · exact ⟨0, Or.inl h⟩
    · exact ⟨t, Or.inr h⟩
  refine ⟨adK, adV, fmt, fun base sc => ⟨h1, ⟨fun i hi => ?_, fun i j hi hj e => ?_⟩, fun i hi => ?_, hF, fun w hw => ?_⟩⟩
  · have e9 : (if i = 100 then sc else adK i) = adK i := if_neg (by omega)
    have h9 := hS.1 i hi
    rw [← e9] at h9
    exact h9
  · dsimp only at e
    rw [if_neg (show ¬ i = 100 by omega), if_neg (show ¬ j = 100 by omega)] at e
    exact hS.2 i j hi hj e
  · dsimp only
    rw [if_neg (show ¬ i = 100 by omega)]
    exact vk_R.of (hts _ (List.mem_of_getElem? (sx_rf i hi))) (hv i hi)
  · exact nd_same (Nd_is hw) rfl (hts w (List.mem_filter.mp hw).1)
set_option maxHeartbeats 4000000 in
theorem whole_start {p : Program} {e : Env} {s : State} {m : MethodId} {below : List Frame} {meth : Method} {c : Code} (l : Launch) (hflags : l.flags = flags0) {b L : Nat} {xs : Nat → Int32} (hL : L ≤ 3072) (C0 : lw_At p s m meth c b L xs) : W p l e room_1 s m #[Value.ref b] below meth c s.heap [] 0 0 (lw_Z below #[Value.ref b] s) (entryFrame m ([Value.ref b] : List Value).toArray 4) := by
  obtain ⟨hx, hb, hr, hml, hown, hts, hX, hbl, hlocks, hgv⟩ := C0
  have htW : ∀ w ∈ Wd, w.before #[Value.ref b] s = true := fun w hw => hts w (List.mem_filter.mp hw).1
  obtain ⟨D, hKn⟩ := kn_all htW hts
  obtain ⟨c11, k11⟩ := ar_p (ty := .int) (hts _ (List.mem_of_getElem? (i := 177) (by decide +kernel))) (by simp)
  obtain ⟨c12, k12⟩ := ar_p (ty := .long) (hts _ (List.mem_of_getElem? (i := 399) (by decide +kernel))) (by simp)
  obtain ⟨c13, k13⟩ := ar_p (ty := .boolean) (hts _ (List.mem_of_getElem? (i := 1259) (by decide +kernel))) (by simp)
  obtain ⟨c14, k14⟩ := ar_o (C := RX2) (hts _ (List.mem_of_getElem? (i := 116) (by decide +kernel)))
  obtain ⟨c15, k15⟩ := ar_o (C := RX3) (hts _ (List.mem_of_getElem? (i := 250) (by decide +kernel)))
  obtain ⟨c16, k16⟩ := ar_o (C := RX7) (hts _ (List.mem_of_getElem? (i := 342) (by decide +kernel)))
  obtain ⟨c17, k17⟩ := ar_a (t := .int) (hts _ (List.mem_of_getElem? (i := 118) (by decide +kernel)))
  obtain ⟨adK, adV, fmt, hSE⟩ := se_of hts hgv
  have hK : va_K D vwCl (am_tys (fun k => ([c11, c12, c13, c14, c15, c16, c17] : List ClassId).getD (k - 11) 0)) s := by
    refine ⟨hKn, fun k q hq => ?_⟩
    match k, hq with
    | 0, hq => obtain rfl := Option.some.inj (show some ((c11, .int) : ClassId × FieldType) = some q from hq); exact k11
    | 1, hq => obtain rfl := Option.some.inj (show some ((c12, .long) : ClassId × FieldType) = some q from hq); exact k12
    | 2, hq => obtain rfl := Option.some.inj (show some ((c13, .boolean) : ClassId × FieldType) = some q from hq); exact k13
    | 3, hq => obtain rfl := Option.some.inj (show some ((c14, .object RX2) : ClassId × FieldType) = some q from hq); exact k14
    | 4, hq => obtain rfl := Option.some.inj (show some ((c15, .object RX3) : ClassId × FieldType) = some q from hq); exact k15
    | 5, hq => obtain rfl := Option.some.inj (show some ((c16, .object RX7) : ClassId × FieldType) = some q from hq); exact k16
    | 6, hq => obtain rfl := Option.some.inj (show some ((c17, .array .int) : ClassId × FieldType) = some q from hq); exact k17
    | k + 7, hq => simp [am_tys] at hq
  have hl := lv_entry ([.ref b]) (n := 4) (Nat.le_of_ble_eq_true rfl)
  rw [lg_entry_eq]
  generalize (lg_sl ([.ref b]) ++ List.replicate (4 - (lg_sl ([.ref b])).length) Slot.unset).toArray = ls at hl ⊢
  have k0 := law_walk (l := l) (nm := meth.name) (N := L) (xs := xs) (T := (some (vI 1), kA, am_W 0)) hL rfl rfl p e s m #[Value.ref b] below meth c s.heap [] (s.heap.size, (fun i => if i = 100 then b else adK i), adV, fmt) D (fun k => ([c11, c12, c13, c14, c15, c16, c17] : List ClassId).getD (k - 11) 0) (fun q : Nat => s.heap.size ≤ q) ls
    ⟨hx, hb, hr, htW, hown, hlocks, hml, rfl⟩ ⟨fun k q h => by simp [am_w] at h, ⟨fun i j p q h => by simp [am_w] at h, fun k q h => by simp [am_w] at h⟩, hK, va_S.rf, ⟨fun q h => h, hSE s.heap.size b⟩, fun _ => rfl⟩ ⟨hX, hbl, Nat.not_le.mpr hbl⟩ hl
  have k1 := W_room (R := room_1) (R' := am_rm 2048 600000 7302250) (Nat.le_of_ble_eq_true rfl) (Nat.le_of_ble_eq_true rfl) (Nat.le_of_ble_eq_true rfl) (Nat.le_of_ble_eq_true rfl) k0
  intro T0 hT0 X0
  obtain ⟨t, a1, o, b1, b2, ⟨M9, b3⟩, L9, b4, b5⟩ := k1 T0 hT0 X0
  have ho : o = .returned (some (.int 1)) := b3.1.1
  refine ⟨t, a1, o, b1, b2, ho, b4.1, b4.2.1, b4.2.2.weaken (fun y hy hlt => absurd (b5 y hy) (Nat.not_le.mpr hlt)) (Nat.le_refl _) (Nat.le_refl _)⟩
set_option maxHeartbeats 4000000 in
theorem lw_walk (l : Launch) (hflags : l.flags = flags0) (b : Addr) (xs : List Int32) : MetFree l x (headSpec (Jvm.Cond.code x code maxLocals ret :: tables_1) room_1) (lw_P b xs) (fun _ _ _ _ _ => True) lw_Q := by
  refine MetFree.of_bodyS (code := code) (maxLocals := maxLocals) (ret := ret) (by decide) ?_ ?_
  · intro args s m h hn
    obtain ⟨meth, c, h1, h2, h3, h4, h5, h6, -, -⟩ := Cond.code_spec hn (atoms_spec (ws := Jvm.Cond.code x code maxLocals ret :: tables_1) h _ List.mem_cons_self)
    exact ⟨meth, c, h1, h2, h3, h4, h5, h6⟩
  · intro p e s m args below meth c s₁ B hml0 hP _
    obtain ⟨rfl, hx, hbd, hgv⟩ := hP
    obtain ⟨scr, harrAt, hlist, hof, hsmall⟩ := hx
    obtain ⟨hcb, hkn, -, -⟩ := State.arrayAt?_spec harrAt
    have hown : s.vm.findClass R_law = some m.cls := findClass_of_methodNamed B.named
    have hts0 : ∀ c ∈ (Jvm.Cond.code x code maxLocals ret :: tables_1), c.before #[Value.ref b] s = true := atoms_spec (ws := Jvm.Cond.code x code maxLocals ret :: tables_1) B.pre
    have hts : ∀ w ∈ lw_tbl, w.before #[Value.ref b] s = true := k2_hts_sels lw_privs (fun w hw => hts0 w (List.mem_cons_of_mem _ hw)) lw_privs_ok
    have hml : c.maxLocals = 4 := B.maxLocals_eq (hts0 _ List.mem_cons_self)
    have X₀ : Stand p l e room_1 s m #[Value.ref b] below meth c s₁ [] 0 0 := Stand.of_body B
    have hh0 : s₁.heap = s.heap := by rw [B.state]; rfl
    have hsz : scr.slots.size = xs.length := by rw [← Array.length_toList, hlist, List.length_map]
    have hval : ∀ j : Nat, j < xs.length → scr.slots[j]? = some (.int (xs.getD j 0)) := fun j hj => by
      rw [← Array.getElem?_toList, hlist]
      simp [hj]
    have hbl : b < s.heap.size := (Array.getElem?_eq_some_iff.mp hcb).1
    have hX : va_X b xs.length (fun j => xs.getD j 0) s s.heap := ⟨scr, hcb, hof, hkn, hsz, hval⟩
    have K : W p l e room_1 s m #[Value.ref b] below meth c s₁.heap [] 0 0 (lw_Z below #[Value.ref b] s) (entryFrame m ([Value.ref b] : List Value).toArray 4) := by
      rw [hh0]
      exact whole_start l hflags hbd ⟨B.exec, B.bytes, B.returns, hml, hown, hts, hX, hbl, B.notSynchronized, hgv⟩
    obtain ⟨t, a1, o, b1, b2, b3⟩ := K s₁ rfl X₀
    exact ⟨t, o, a1, b1, b2, b3⟩
theorem lw_pre_spec {args : Array Value} {s : State} (h : (Jvm.Cond.and given_1 narrow_1).before args s = true) (hr : rest_1_c.before args s = true) : ∃ (b : Addr) (xs : List Int32), lw_P b xs args s := by
  have hs := flat_of_before _ h
  have hq := flat_of_before _ hr
  have hc : (Cond.count 1).before args s = true := hs _ (by decide +kernel)
  have harr : (Cond.arrayOf (.arg 0) .int).before args s = true := hs _ (by decide +kernel)
  have hle : (Cond.le (.length (.arg 0)) (.int 3072)).before args s = true := hs _ (by decide +kernel)
  have hlen : (Cond.isInt (.length (.arg 0))).before args s = true := hq _ (by decide +kernel)
  have hall : (Cond.all (.arg 0) (.isInt (.elem (.arg 0) (.index 0)))).before args s = true := hq _ (by decide +kernel)
  obtain ⟨b, xs, hb, hx⟩ := State.ints_of_pre rfl harr hlen hall
  have hsm : xs.length < 2 ^ 31 := hx.choose_spec.2.2.2
  have hev : (Term.length (.arg 0)).eval args s none [] s = some (.int xs.length.toInt32) := hx.length_eval hb
  have hv := Cond.le_ints hev (show (Term.int 3072).eval args s none [] s = some (.int 3072) from rfl)
  have hd : xs.length.toInt32 ≤ 3072 := by
    simpa [Cond.before, Cond.holds, hv] using hle
  have hN : xs.length ≤ 3072 := (Int32.ofNat_le_ofNat hsm (by decide)).mp (show Int32.ofNat xs.length ≤ Int32.ofNat 3072 from hd)
  exact ⟨b, xs, Cond.one_arg hc (show args[0]? = some (.ref b) from hb), hx, hN, h⟩
theorem lw_comes (l : Launch) (hflags : l.flags = flags0) : Comes l x (Jvm.Cond.code x code maxLocals ret :: tables_1) room_1 (fun tb e args s => Calls_1 tb e args s ∧ rest_1 tb e args s ∧ Pre_1 tb e args s)
    (fun _ _ args s o t => lw_Q args s o t) := by
  intro p e ha hc hk s m args below hf hfit hheap happ hpre
  obtain ⟨b, xs, hP⟩ := lw_pre_spec hpre.2.2 hpre.2.1
  obtain ⟨k, o, h1, h2, h3, hQ⟩ := lw_walk l hflags b xs p e ha hc hk s m args below hf ((Spec.applies_iff_loose hf).mp happ).1 hP trivial
  exact ⟨k, o, h1, h2, h3, hQ⟩
theorem lw_frame {s t : State} {o : Outcome} {args : Array Value} (h : Framed s o t [] 600000 7302250) :
    Framed s o t (fieldLocs frame_1_writes args s ++ arrayLocs frame_1_arrays args s ++ staticLocs frame_1_statics s) 600000 7302250 := h
theorem lw_limb (L : Cond) (hL : ∀ (args : Array Value) (s t : State), L.after args s (.returned (some (.int 1))) t = true) :
    ArmFor flags0 classFile x code maxLocals ret World_1 tables_1 room_1 Calls_1 rest_1 Pre_1
      (fun tb e a s o t => Jvm.D.postC L tb e a s o t ∧ Framed s o t (fieldLocs frame_1_writes a s ++ arrayLocs frame_1_arrays a s ++ staticLocs frame_1_statics s) 600000 7302250) := by
  intro l hflags _ _ p e ha hc hk s m args below hf hfit hheap happ hpre
  obtain ⟨k, o, h1, h2, h3, rfl, hF⟩ := lw_comes l hflags p e ha hc hk s m args below hf hfit hheap happ hpre
  exact ⟨k, _, h1, h2, h3, hL args s _, lw_frame hF⟩
theorem i_vc : Claimed_1_1 ∧ Claimed_1_2 := ⟨lw_limb limb_1_1 (fun args s t => by simp [limb_1_1, Cond.after, Cond.holds, Cond.value]), lw_limb limb_1_2 (fun args s t => Cond.after_iff.mpr (by
  first | (rw [show limb_1_2 = Cond.eq .result (.int 1) from rfl, Cond.eq_ints (x := 1) (y := 1) rfl rfl]; simp; done) | (simp [limb_1_2, Cond.value, Term.eval]; done)))⟩
