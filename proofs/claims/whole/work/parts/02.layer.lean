/-! THE LAYER: cells by keys (sort, number, place), an abstract machine over them -/
abbrev Key : Type := Nat × Nat × Nat
abbrev AV : Type := Int32 ⊕ Int64 ⊕ Option Key
abbrev AM : Type := (Key → Nat → Int32) × (Key → Nat → Int64) × (Key → Nat → Option Key)
abbrev vI (x : Int32) : AV := .inl x
abbrev vJ (x : Int64) : AV := .inr (.inl x)
abbrev vO (q : Option Key) : AV := .inr (.inr q)
abbrev vN : AV := .inr (.inr none)
abbrev vR (q : Key) : AV := .inr (.inr (some q))
/-- the sorts: kind (a class of vwCl, or 11 int[] 12 long[] 13 boolean[] 14 House[] 15 Land[] 16 Tape[] 17 int[][]) and length -/
def am_kd (s : Nat) : Nat := ([9, 8, 14, 2, 17, 11, 11, 11, 11, 6, 11, 3, 11, 11, 11, 11, 11, 11, 11, 15, 1, 11, 11, 11, 11, 5, 17, 11, 4, 0, 11, 16, 7, 12, 0, 0, 0, 0, 0, 0, 10, 11, 11, 11, 11, 11, 11, 11, 11, 11, 11, 11, 11, 11, 11, 11, 11, 11, 11, 11, 11, 11, 11, 11, 11, 11, 11, 11, 11, 13, 11, 11, 11, 11, 11, 11, 11, 11, 11, 11, 11, 11, 11, 11, 11, 11, 11, 11, 11, 11, 11, 11, 12, 12] : List Nat).getD s 0
def am_ln (s : Nat) : Nat := ([12, 10, 6, 9, 6, 6, 12, 12, 6, 4, 100, 9, 10, 10, 10, 10, 100, 100, 100, 5, 6, 6, 6, 6, 6, 2, 6, 6, 4, 5, 20, 6, 3, 60, 0, 0, 0, 0, 0, 0, 84, 6, 6, 6, 6, 6, 6, 6, 6, 36, 100, 5, 50, 50, 50, 50, 50, 500, 101, 19, 9, 6, 6, 6, 6, 6, 6, 6, 6, 100, 12, 12, 36, 6, 6, 6, 6, 6, 6, 6, 6, 6, 6, 6, 6, 6, 36, 12, 12, 20, 6, 6, 360, 60] : List Nat).getD s 0
def am_nv (s : Nat) : Nat := ([1, 4, 4, 4, 4, 4, 4, 4, 4, 1, 1, 5, 5, 5, 5, 5, 5, 5, 5, 1, 1, 1, 1, 1, 1, 1, 1, 1, 1, 1, 1, 1, 6, 6, 0, 0, 0, 0, 0, 0, 1, 1, 1, 1, 1, 1, 1, 1, 1, 1, 1, 1, 1, 1, 1, 1, 1, 1, 1, 1, 1, 1, 1, 1, 1, 1, 1, 1, 1, 1, 1, 1, 1, 1, 1, 1, 1, 1, 1, 1, 1, 1, 1, 1, 1, 1, 1, 1, 1, 1, 1, 1, 1, 1] : List Nat).getD s 0
def am_nh (s : Nat) : Nat := ([1, 1, 1, 6, 1, 6, 1, 1, 1, 1, 1, 1, 1, 1, 1, 1, 1, 1, 1, 1, 1, 1, 1, 1, 1, 1, 1, 6, 1, 1, 1, 1, 1, 1, 0, 0, 0, 0, 0, 0, 1, 1, 1, 1, 1, 1, 1, 1, 1, 1, 1, 1, 1, 1, 1, 1, 1, 1, 1, 1, 1, 1, 1, 1, 1, 1, 1, 1, 1, 1, 1, 1, 1, 1, 1, 1, 1, 1, 1, 1, 1, 1, 1, 1, 1, 1, 1, 1, 1, 1, 1, 1, 1, 1] : List Nat).getD s 0
def am_vb (v : Nat) : Nat := if v < 3 then 1 + 18 * v else 72
def am_ix (q : Key) : Nat := match q with
  | (0, _, _) => 0
  | (1, v, _) => am_vb v
  | (2, v, _) => am_vb v + 1
  | (3, v, h) => am_vb v + 12 + h
  | (4, v, _) => am_vb v + 2
  | (5, v, h) => am_vb v + 3 + h
  | (6, v, _) => am_vb v + 9
  | (7, v, _) => am_vb v + 10
  | (8, v, _) => am_vb v + 11
  | (27, _, h) => 65 + h
  | (s, v, _) => if s < 11 then 46 + s else if s < 19 then 93 + 8 * v + (s - 11) else if s < 27 then (if s = 19 then 57 else 38 + s) else if s < 29 then 71 else if s < 32 then 61 + s else if s < 40 then 101 + s + 2 * v else s + 105
def kC : List Key := [(0, 0, 0), (1, 0, 0), (2, 0, 0), (4, 0, 0), (5, 0, 0), (5, 0, 1), (5, 0, 2), (5, 0, 3), (5, 0, 4), (5, 0, 5), (6, 0, 0), (7, 0, 0), (8, 0, 0), (3, 0, 0), (3, 0, 1), (3, 0, 2), (3, 0, 3), (3, 0, 4), (3, 0, 5), (1, 1, 0), (2, 1, 0), (4, 1, 0), (5, 1, 0), (5, 1, 1), (5, 1, 2), (5, 1, 3), (5, 1, 4), (5, 1, 5), (6, 1, 0), (7, 1, 0), (8, 1, 0), (3, 1, 0), (3, 1, 1), (3, 1, 2), (3, 1, 3), (3, 1, 4), (3, 1, 5), (1, 2, 0), (2, 2, 0), (4, 2, 0), (5, 2, 0), (5, 2, 1), (5, 2, 2), (5, 2, 3), (5, 2, 4), (5, 2, 5), (6, 2, 0), (7, 2, 0), (8, 2, 0), (3, 2, 0), (3, 2, 1), (3, 2, 2), (3, 2, 3), (3, 2, 4), (3, 2, 5), (9, 0, 0), (10, 0, 0), (19, 0, 0), (20, 0, 0), (21, 0, 0), (22, 0, 0), (23, 0, 0), (24, 0, 0), (25, 0, 0), (26, 0, 0), (27, 0, 0), (27, 0, 1), (27, 0, 2), (27, 0, 3), (27, 0, 4), (27, 0, 5), (28, 0, 0), (1, 3, 0), (2, 3, 0), (4, 3, 0), (5, 3, 0), (5, 3, 1), (5, 3, 2), (5, 3, 3), (5, 3, 4), (5, 3, 5), (6, 3, 0), (7, 3, 0), (8, 3, 0), (3, 3, 0), (3, 3, 1), (3, 3, 2), (3, 3, 3), (3, 3, 4), (3, 3, 5), (29, 0, 0), (30, 0, 0), (31, 0, 0), (11, 0, 0), (12, 0, 0), (13, 0, 0), (14, 0, 0), (15, 0, 0), (16, 0, 0), (17, 0, 0), (18, 0, 0), (11, 1, 0), (12, 1, 0), (13, 1, 0), (14, 1, 0), (15, 1, 0), (16, 1, 0), (17, 1, 0), (18, 1, 0), (11, 2, 0), (12, 2, 0), (13, 2, 0), (14, 2, 0), (15, 2, 0), (16, 2, 0), (17, 2, 0), (18, 2, 0), (11, 3, 0), (12, 3, 0), (13, 3, 0), (14, 3, 0), (15, 3, 0), (16, 3, 0), (17, 3, 0), (18, 3, 0), (11, 4, 0), (12, 4, 0), (13, 4, 0), (14, 4, 0), (15, 4, 0), (16, 4, 0), (17, 4, 0), (18, 4, 0), (32, 0, 0), (33, 0, 0), (32, 1, 0), (33, 1, 0), (32, 2, 0), (33, 2, 0), (32, 3, 0), (33, 3, 0), (32, 4, 0), (33, 4, 0), (32, 5, 0), (33, 5, 0)]
def kM : List Key := [(40, 0, 0), (41, 0, 0), (42, 0, 0), (43, 0, 0), (44, 0, 0), (45, 0, 0), (46, 0, 0), (47, 0, 0), (48, 0, 0), (49, 0, 0), (50, 0, 0), (51, 0, 0), (52, 0, 0), (53, 0, 0), (54, 0, 0), (55, 0, 0), (56, 0, 0), (57, 0, 0), (58, 0, 0), (59, 0, 0), (60, 0, 0), (61, 0, 0), (62, 0, 0), (63, 0, 0), (64, 0, 0), (65, 0, 0), (66, 0, 0), (67, 0, 0), (68, 0, 0), (69, 0, 0), (70, 0, 0), (71, 0, 0), (72, 0, 0), (73, 0, 0), (74, 0, 0), (75, 0, 0), (76, 0, 0), (77, 0, 0), (78, 0, 0), (79, 0, 0), (80, 0, 0), (81, 0, 0), (82, 0, 0), (83, 0, 0), (84, 0, 0), (85, 0, 0), (86, 0, 0), (87, 0, 0), (88, 0, 0), (89, 0, 0), (90, 0, 0), (91, 0, 0), (92, 0, 0), (93, 0, 0)]
def am_ty : Nat → Nat → FieldType
  | 0 => tyX0 | 1 => tyX1 | 2 => tyX2 | 3 => tyX3 | 4 => tyX4 | 5 => tyX5 | 6 => tyX6 | 7 => tyX7 | 8 => tyX8 | 9 => tyX9 | _ => tyX10
def am_ft (c k : Nat) : Nat := match am_ty c k with
  | .long => 1
  | .object _ => 2
  | .array _ => 2
  | _ => 0
/-- where things are: the first cell, the texts of the class's constants, their bytes, the formatter that the library carries -/
abbrev BA : Type := Nat × (Nat → Nat) × (Nat → Nat) × Nat
def am_ad (b : BA) (q : Key) : Nat := match q with
  | (95, i, _) => b.2.1 i
  | (96, i, _) => b.2.2.1 i
  | (97, _, _) => b.2.2.2
  | q => b.1 + am_ix q
def am_rv (b : BA) (q : Option Key) : Value := va_rf (q.map (fun q => am_ad b q))
def am_cv (b : BA) : AV → Value
  | .inl x => .int x
  | .inr (.inl y) => .long y
  | .inr (.inr q) => am_rv b q
def am_fv (b : BA) (M : AM) (q : Key) (k : Nat) : Value := match am_ft (am_kd q.1) k with
  | 0 => .int (M.1 q k)
  | 1 => .long (M.2.1 q k)
  | _ => am_rv b (M.2.2 q k)
def am_ce (b : BA) (cT : Nat → ClassId) (M : AM) (q : Key) : va_E :=
  if am_kd q.1 < 11 then .inr (am_kd q.1, (List.range (am_ln q.1)).map (am_fv b M q))
  else if am_kd q.1 = 12 then .inl (cT 12, am_ln q.1, .inr (.inl (M.2.1 q)))
  else if am_kd q.1 < 14 then .inl (cT (am_kd q.1), am_ln q.1, .inl (M.1 q))
  else .inl (cT (am_kd q.1), am_ln q.1, .inr (.inr (.inr (.inr (fun i => (M.2.2 q i).map (fun q => am_ad b q))))))
def am_w (b : BA) (cT : Nat → ClassId) (ks : List Key) (M : AM) : va_W := ks.map (fun q => (am_ad b q, am_ce b cT M q))
def am_tys (cT : Nat → ClassId) : List (ClassId × FieldType) := [(cT 11, .int), (cT 12, .long), (cT 13, .boolean), (cT 14, .object RX2), (cT 15, .object RX3), (cT 16, .object RX7), (cT 17, .array .int)]
/-- the words of the tables that any call may take along -/
def Wd : List Cond := lw_tbl.filter goodWord
theorem Wd_of {w : Cond} (h : w ∈ lw_tbl) (g : goodWord w = true) : w ∈ Wd := List.mem_filter.mpr ⟨h, g⟩
theorem Wd_good {w : Cond} (h : w ∈ Wd) : (w.onTables && w.keeps) = true ∨ ∃ ty, w = .arrayClass ty := good_of_word (List.mem_filter.mp h).2
/-- a method: its name, code, locals, answer -/
abbrev MD : Type := MethodName × ByteArray × Nat × Option FieldType
def am_rm (d mc ms : Nat) : Room := { frames := d, cells := mc, slots := ms, locals := 40 * d }
def am_X0 (md : MD) (p : Program) (s : State) (m : MethodId) (args : Array Value) (meth : Method) (c : Code) : Prop :=
  p.tables.exec = Jvm.exec ∧ c.code = md.2.1 ∧ meth.sig.returnType = md.2.2.2 ∧ (∀ w ∈ Wd, w.before args s = true) ∧ s.vm.findClass md.1.cls = some m.cls ∧ meth.locks = false ∧ c.maxLocals = md.2.2.1 ∧ meth.name = md.1.name
/-- the texts: their places in the class's pool, what they are, their lengths and bytes -/
def sx_ix : List Nat := [67, 73, 75, 77, 79, 81, 102]
def sx_tx : List String := ["out", "burn", "horn", "ne", "xt", "ed", "whikma"]
def sx_len : List Nat := [3, 4, 4, 2, 2, 2, 6]
def sx_by : List (List Int32) := [[111, 117, 116], [98, 117, 114, 110], [104, 111, 114, 110], [110, 101], [120, 116], [101, 100], [119, 104, 105, 107, 109, 97]]
/-- words of the tables that are kept another way: links of nest mates, rows of rows -/
def ndW : Cond → Bool
  | .methodLinkNest .. => true
  | .arrayOver _ => true
  | _ => false
def Nd : List Cond := lw_tbl.filter ndW
theorem Nd_of {w : Cond} (h : w ∈ lw_tbl) (g : ndW w = true) : w ∈ Nd := List.mem_filter.mpr ⟨h, g⟩
theorem Nd_is {w : Cond} (h : w ∈ Nd) : ndW w = true := (List.mem_filter.mp h).2
theorem nd_ao {ty : FieldType} {A A' : Array Value} {U U' : State} (hv : U.vm = U'.vm) (h : (Cond.arrayOver ty).before A U = true) : (Cond.arrayOver ty).before A' U' = true := by
  have h1 : (Cond.arrayOver ty).before A' (U'.setVm U.vm) = true := h
  rw [hv] at h1
  exact h1
theorem nd_same {w : Cond} (hw : ndW w = true) {A A' : Array Value} {u U : State} (hv : u.vm = U.vm) (h : w.before A u = true) : w.before A' U = true := by
  cases w with
  | methodLinkNest a i x y => exact va_tabs rfl hv h
  | arrayOver ty => exact nd_ao hv h
  | _ => simp [ndW] at hw
theorem nd_warm {w : Cond} (hw : ndW w = true) {u U : State} (hW : u.WarmedH U.vm) (h : va_Nw w u) : va_Nw w U := by
  cases w with
  | methodLinkNest a i x y => exact va_Nw.warmM hW h
  | arrayOver ty =>
    have h1 : (Cond.arrayOver ty).before #[] (u.setVm U.vm) = true := by
      rw [Cond.arrayOver_setVmC hW.alike]
      exact h
    exact nd_ao (U := u.setVm U.vm) rfl h1
  | _ => simp [ndW] at hw
/-- what of the library's texts stays as it is -/
def am_SE (b : BA) (A : Nat → Prop) (U : State) (H : Heap) : Prop :=
  va_Z "java/lang/String" "COMPACT_STRINGS" "Z" (.int 1) A U H ∧ vk_S 7 sx_len sx_by b.2.1 b.2.2.1 A U H ∧ (∀ i : Nat, i < 7 → vk_R "FireFromFire$Reader" (sx_ix.getD i 0) (sx_tx.getD i "") (b.2.1 i) U) ∧
  (va_Z "jdk/internal/util/Preconditions" "SIOOBE_FORMATTER" "Ljava/util/function/BiFunction;" .null A U H ∨ va_Z "jdk/internal/util/Preconditions" "SIOOBE_FORMATTER" "Ljava/util/function/BiFunction;" (.ref b.2.2.2) A U H) ∧ ∀ w ∈ Nd, va_Nw w U
theorem am_SE.kept {b : BA} {A : Nat → Prop} {U : State} {H H1 : Heap} (h : am_SE b A U H) (hq : ∀ a : Nat, a < H.size → ¬ A a → H1[a]? = H[a]?) : am_SE b A U H1 :=
  ⟨h.1.kept hq, h.2.1.kept hq, h.2.2.1, h.2.2.2.1.imp (fun z => z.kept hq) (fun z => z.kept hq), h.2.2.2.2⟩
theorem am_SE.narrow {b : BA} {A B : Nat → Prop} {U : State} {H : Heap} (h : am_SE b A U H) (hAB : ∀ q, B q → A q) : am_SE b B U H :=
  ⟨h.1.narrow hAB, h.2.1.narrow hAB, h.2.2.1, h.2.2.2.1.imp (fun z => z.narrow hAB) (fun z => z.narrow hAB), h.2.2.2.2⟩
theorem am_SE.moved {b : BA} {A : Nat → Prop} {u U : State} {H : Heap} (hW : u.WarmedH U.vm) (h : am_SE b A u H) : am_SE b A U H :=
  ⟨va_Z.moved hW.alike h.1, vk_S.moved hW.alike h.2.1, fun i hi => (h.2.2.1 i hi).warm hW, h.2.2.2.1.imp (va_Z.moved hW.alike) (va_Z.moved hW.alike), fun w hw => nd_warm (Nd_is hw) hW (h.2.2.2.2 w hw)⟩
theorem am_SE.same {b : BA} {A : Nat → Prop} {u U : State} {H : Heap} (hv : U.vm = u.vm) (h : am_SE b A u H) : am_SE b A U H :=
  ⟨va_Z.moved (hv ▸ Vm.Alike.refl u.vm) h.1, vk_S.moved (hv ▸ Vm.Alike.refl u.vm) h.2.1, fun i hi => (h.2.2.1 i hi).same hv, h.2.2.2.1.imp (va_Z.moved (hv ▸ Vm.Alike.refl u.vm)) (va_Z.moved (hv ▸ Vm.Alike.refl u.vm)), fun w hw => nd_same (Nd_is hw) hv.symm (h.2.2.2.2 w hw)⟩
def am_X1 (b : BA) (D : va_G) (cT : Nat → ClassId) (A : Nat → Prop) (al : Bool) (ks : List Key) (M : AM) (s : State) (H : Heap) (locs : List Loc) : Prop :=
  va_P D vwCl (am_w b cT ks M) H ∧ va_D A (am_w b cT ks M) ∧ va_K D vwCl (am_tys cT) s ∧ va_S A s.heap H locs ∧ ((∀ q, s.heap.size ≤ q → A q) ∧ am_SE b A s s.heap) ∧ (al = true → H.size = b.1 + ks.length)
def am_Q (b : BA) (D : va_G) (cT : Nat → ClassId) (A : Nat → Prop) (al : Bool) (r : Option AV) (ks : List Key) (M : AM) : Array Value → State → Outcome → State → Prop := fun _ st o t =>
  (o = .returned (r.map (am_cv b)) ∧ va_P D vwCl (am_w b cT ks M) t.heap ∧ va_K D vwCl (am_tys cT) t ∧ va_D A (am_w b cT ks M) ∧ (al = true → t.heap.size = b.1 + ks.length)) ∧ va_F A st t
def am_lv (b : BA) : Nat → List (Option AV) → List (Nat × Value)
  | _, [] => []
  | i, none :: L => am_lv b (i + 1) L
  | i, some a :: L => (i, am_cv b a) :: am_lv b (i + 1) L
/-- from here the method comes to its end with answer T.1, keys T.2.1, memory T.2.2 -/
def X (l : Launch) (md : MD) (d mc ms : Nat) (al : Bool) (T : Option AV × List Key × AM) (ks : List Key) (kc kn : Nat) (pc : Nat) (L : List (Option AV)) (st : List AV) (M : AM) : Prop :=
  ∀ (p : Program) (e : Env) (s : State) (m : MethodId) (args : Array Value) (below : List Frame) (meth : Method) (c : Code) (H : Heap) (locs : List Loc) (b : BA) (D : va_G) (cT : Nat → ClassId) (A : Nat → Prop) (ls : Array Slot),
    am_X0 md p s m args meth c → am_X1 b D cT A al ks M s H locs → lv_has ls md.2.2.1 (am_lv b 0 L) →
    W p l e (am_rm d mc ms) s m args below meth c H locs kc kn (MQ below (am_Q b D cT A al T.1 T.2.1 T.2.2) args s mc ms A) (F0 m pc ls (st.map (am_cv b)))
def Ev (l : Launch) (md : MD) (d mc ms : Nat) (al : Bool) (as : List AV) (ks : List Key) (M : AM) (T : Option AV × List Key × AM) : Prop :=
  ∀ (b : BA) (D : va_G) (cT : Nat → ClassId) (sz : Nat), Met l md.1 (Cond.code md.1 md.2.1 md.2.2.1 md.2.2.2 :: Wd) (am_rm d mc ms)
    (va_Pc (as.map (am_cv b)) (fun U => U.heap.size = sz ∧ va_P D vwCl (am_w b cT ks M) U.heap ∧ va_K D vwCl (am_tys cT) U ∧ va_D (fun _ => True) (am_w b cT ks M) ∧ am_SE b (va_A (am_w b cT ks M) sz) U U.heap ∧ (al = true → U.heap.size = b.1 + ks.length)))
    (am_Q b D cT (va_A (am_w b cT ks M) sz) al T.1 T.2.1 T.2.2) mc ms (va_A (am_w b cT ks M) sz)
/-- the locals at a method's entry -/
def am_args : List AV → List (Option AV)
  | [] => []
  | .inr (.inl y) :: as => some (vJ y) :: none :: am_args as
  | a :: as => some a :: am_args as
def am_entry (as : List AV) (n : Nat) : List (Option AV) := am_args as ++ List.replicate (n - (am_args as).length) none
theorem am_rv_cat (b : BA) (q : Option Key) : (am_rv b q).category = 1 := by cases q <;> rfl
theorem am_lv_app (b : BA) : ∀ (L1 L2 : List (Option AV)) (i : Nat), am_lv b i (L1 ++ L2) = am_lv b i L1 ++ am_lv b (i + L1.length) L2
  | [], L2, i => by simp [am_lv]
  | none :: L1, L2, i => by
    simp only [List.cons_append, am_lv, List.length_cons]
    rw [am_lv_app b L1 L2 (i + 1), show i + 1 + L1.length = i + (L1.length + 1) by omega]
  | some a :: L1, L2, i => by
    simp only [List.cons_append, am_lv, List.length_cons]
    rw [am_lv_app b L1 L2 (i + 1), show i + 1 + L1.length = i + (L1.length + 1) by omega]
theorem am_lv_none (b : BA) : ∀ (n i : Nat), am_lv b i (List.replicate n none) = []
  | 0, _ => rfl
  | n + 1, i => by
    rw [List.replicate_succ]
    exact am_lv_none b n (i + 1)
theorem am_lv_args (b : BA) : ∀ (as : List AV) (i : Nat), am_lv b i (am_args as) = lv_args i (as.map (am_cv b))
  | [], _ => rfl
  | .inl x :: as, i => by
    show (i, Value.int x) :: am_lv b (i + 1) (am_args as) = _
    rw [am_lv_args b as (i + 1)]
    rfl
  | .inr (.inl y) :: as, i => by
    show (i, Value.long y) :: am_lv b (i + 2) (am_args as) = _
    rw [am_lv_args b as (i + 2)]
    rfl
  | .inr (.inr q) :: as, i => by
    show (i, am_rv b q) :: am_lv b (i + 1) (am_args as) = _
    rw [am_lv_args b as (i + 1)]
    show _ = (i, am_rv b q) :: lv_args (if (am_rv b q).category = 2 then i + 2 else i + 1) _
    rw [am_rv_cat]
    rfl
theorem am_args_len (b : BA) : ∀ (as : List AV), (lg_sl (as.map (am_cv b))).length = (am_args as).length
  | [] => rfl
  | .inl x :: as => by
    show (lg_sl (as.map (am_cv b))).length + 1 = _
    rw [am_args_len b as]
    rfl
  | .inr (.inl y) :: as => by
    show (lg_sl (as.map (am_cv b))).length + 2 = _
    rw [am_args_len b as]
    rfl
  | .inr (.inr q) :: as => by
    show (lg_sl (am_rv b q :: as.map (am_cv b))).length = (am_args as).length + 1
    rw [← am_args_len b as]
    simp [lg_sl, am_rv_cat]
theorem am_entry_has (b : BA) (as : List AV) (n : Nat) (h : (am_args as).length ≤ n) : lv_has ((lg_sl (as.map (am_cv b)) ++ List.replicate (n - (lg_sl (as.map (am_cv b))).length) Slot.unset).toArray) n (am_lv b 0 (am_entry as n)) := by
  have h1 := lv_entry (as.map (am_cv b)) (n := n) (by rw [am_args_len]; exact h)
  unfold am_entry
  rw [am_lv_app, am_lv_none, List.append_nil, am_lv_args]
  exact h1
set_option maxHeartbeats 4000000 in
theorem Ev_of {l : Launch} {md : MD} {d mc ms : Nat} {al : Bool} {as : List AV} {ks : List Key} {M : AM} {T : Option AV × List Key × AM} (hy : plainName md.1.cls = true) (hn : (am_args as).length ≤ md.2.2.1)
    (h : X l md d mc ms al T ks 0 0 0 (am_entry as md.2.2.1) [] M) : Ev l md d mc ms al as ks M T := by
  intro b D cT sz
  refine Met.ofW (cc := md.2.1) (maxL := md.2.2.1) (ret := md.2.2.2) hy rfl ?_
  intro p e s m args below meth c s₁ B hml hv
  obtain ⟨rfl, hsz, hP, hK, hD0, hSE, hal⟩ := hv
  have hx := B.exec
  have hb := B.bytes
  have hr := B.returns
  have hts := atoms_spec (ws := Cond.code md.1 md.2.1 md.2.2.1 md.2.2.2 :: Wd) B.pre
  have hown : s.vm.findClass md.1.cls = some m.cls := findClass_of_methodNamed B.named
  have hin : meth.name = md.1.name := (name_of_methodNamed B.named B.method).1
  subst hsz
  have hD := hD0.self (sz := s.heap.size)
  rw [lg_entry_eq]
  exact h p e s m _ below meth c s.heap [] b D cT _ _ ⟨hx, hb, hr, fun w hw => hts w (List.mem_cons_of_mem _ hw), hown, B.notSynchronized, hml, hin⟩ ⟨hP, hD, hK, va_S.rf, ⟨fun q h => Or.inr h, hSE⟩, hal⟩ (am_entry_has b as _ hn)
