/-! what the rows by program stand on -/
theorem am_nb6 : (List.range 94).all (fun s => decide (am_nv s ≤ 6) && decide (am_nh s ≤ 6)) = true := by decide +kernel
theorem kC_all : (List.range 34).all (fun s => (List.range 6).all fun v => (List.range 6).all fun h => !(decide (v < am_nv s) && decide (h < am_nh s)) || kC.any (fun q => q.1 == s && (q.2.1 == v && q.2.2 == h))) = true := by decide +kernel
theorem kM_all : (List.range 94).all (fun s => decide (s < 40) || kM.any (fun q => q.1 == s && (q.2.1 == 0 && q.2.2 == 0))) = true := by decide +kernel
theorem am_any {ks : List Key} {s v h : Nat} (e : ks.any (fun q => q.1 == s && (q.2.1 == v && q.2.2 == h)) = true) : ((s, v, h) : Key) ∈ ks := by
  obtain ⟨⟨s', v', h'⟩, hm, hq⟩ := List.any_eq_true.mp e
  simp only [Bool.and_eq_true, beq_iff_eq] at hq
  obtain ⟨rfl, rfl, rfl⟩ := hq
  exact hm
theorem kC_mem {s v h : Nat} (hs : s < 34) (hv : v < am_nv s) (hh : h < am_nh s) : ((s, v, h) : Key) ∈ kC := by
  have h6 := List.all_eq_true.mp am_nb6 s (List.mem_range.mpr (by omega))
  simp only [Bool.and_eq_true, decide_eq_true_eq] at h6
  have h1 := List.all_eq_true.mp (List.all_eq_true.mp (List.all_eq_true.mp kC_all s (List.mem_range.mpr hs)) v (List.mem_range.mpr (by omega))) h (List.mem_range.mpr (by omega))
  simp only [hv, hh, decide_true, Bool.and_self, Bool.not_true, Bool.false_or] at h1
  exact am_any h1
theorem kM_mem {s : Nat} (hs : s < 94 ∧ 40 ≤ s) : ((s, 0, 0) : Key) ∈ kM := by
  have h1 := List.all_eq_true.mp kM_all s (List.mem_range.mpr hs.1)
  rw [decide_eq_false (by omega), Bool.false_or] at h1
  exact am_any h1
theorem lt_b {a b : Nat} (h : Nat.ble (a + 1) b = true) : a < b := Nat.le_of_ble_eq_true h
theorem le_b {a b : Nat} (h : Nat.ble a b = true) : a ≤ b := Nat.le_of_ble_eq_true h
theorem am_nchk {A : Type} {c : Prop} [Decidable c] {a : Option A} {r : A} (h : (if c then none else a) = some r) : ¬ c ∧ a = some r := by
  by_cases hc : c
  · rw [if_pos hc] at h; cases h
  · rw [if_neg hc] at h; exact ⟨hc, h⟩
theorem vp_lit {i : Int32} {n : Nat} (h : (decide (i < 0) || decide (n ≤ i.toNatClampNeg)) = false) : vp_in i n := by
  intro q
  simp only [Bool.or_eq_false_iff, decide_eq_false_iff_not] at h
  exact q.elim h.1 h.2
theorem vp_le {i : Int32} {n k : Nat} (h : ¬ (i < 0 ∨ n ≤ i.toNatClampNeg)) (hk : n ≤ k) : ¬ (i < 0 ∨ k ≤ i.toNatClampNeg) := fun q => h (q.imp id (fun z => Nat.le_trans hk z))
section HR
variable {l : Launch} {md md2 : MD} {d d2 mc ms mc2 ms2 : Nat} {al : Bool} {T T2 : Option AV × List Key × AM} {ks : List Key} {kc kn pc : Nat} {L L' : List (Option AV)} {st as : List AV} {M M' : AM} {q : Key} {k : Nat}
theorem r_geti_ {x : Int32} {idx ci : Nat} (hw : FW md.1.cls idx ci k 0) (hd : decode md.2.1 pc = .ok (.getfield idx, 3)) (hq : q ∈ ks) (hk : am_kd q.1 = ci) (hl : k < am_ln q.1) (hx : M.1 q k = x) (kk : X l md d mc ms al T ks kc kn (pc + 3) L (vI x :: st) M) : X l md d mc ms al T ks kc kn pc L (vR q :: st) M := by subst hx; exact r_geti hw hd hq hk hl kk
theorem r_getl_ {x : Int64} {idx ci : Nat} (hw : FW md.1.cls idx ci k 1) (hd : decode md.2.1 pc = .ok (.getfield idx, 3)) (hq : q ∈ ks) (hk : am_kd q.1 = ci) (hl : k < am_ln q.1) (hx : M.2.1 q k = x) (kk : X l md d mc ms al T ks kc kn (pc + 3) L (vJ x :: st) M) : X l md d mc ms al T ks kc kn pc L (vR q :: st) M := by subst hx; exact r_getl hw hd hq hk hl kk
theorem r_iald_ {i x : Int32} {n : Nat} (hd : decode md.2.1 pc = .ok (.iaload, 1)) (hq : q ∈ ks) (hk : am_kd q.1 = 11) (hin : vp_in i (am_ln q.1)) (hi : i.toNatClampNeg = n) (hx : M.1 q n = x) (kk : X l md d mc ms al T ks kc kn (pc + 1) L (vI x :: st) M) : X l md d mc ms al T ks kc kn pc L (vI i :: vR q :: st) M := by subst hx; exact r_iald' hd hq hk hin hi kk
theorem r_zald_ {i x : Int32} {n : Nat} (hd : decode md.2.1 pc = .ok (.baload, 1)) (hq : q ∈ ks) (hk : am_kd q.1 = 13) (hin : vp_in i (am_ln q.1)) (hi : i.toNatClampNeg = n) (hx : M.1 q n = x) (kk : X l md d mc ms al T ks kc kn (pc + 1) L (vI x :: st) M) : X l md d mc ms al T ks kc kn pc L (vI i :: vR q :: st) M := by subst hx; exact r_zald' hd hq hk hin hi kk
theorem r_lald_ {i : Int32} {x : Int64} {n : Nat} (hd : decode md.2.1 pc = .ok (.laload, 1)) (hq : q ∈ ks) (hk : am_kd q.1 = 12) (hin : vp_in i (am_ln q.1)) (hi : i.toNatClampNeg = n) (hx : M.2.1 q n = x) (kk : X l md d mc ms al T ks kc kn (pc + 1) L (vJ x :: st) M) : X l md d mc ms al T ks kc kn pc L (vI i :: vR q :: st) M := by subst hx; exact r_lald' hd hq hk hin hi kk
/-! the same over a memory in its shape -/
variable {u : PM}
theorem e_geti {idx ci : Nat} (hw : FW md.1.cls idx ci k 0) (hd : decode md.2.1 pc = .ok (.getfield idx, 3)) (hq : q ∈ ks) (hk : am_kd q.1 = ci) (hl : k < am_ln q.1) (kk : X l md d mc ms al T ks kc kn (pc + 3) L (vI (u.1 q k) :: st) (en u)) : X l md d mc ms al T ks kc kn pc L (vR q :: st) (en u) := r_geti hw hd hq hk hl kk
theorem e_geti_ {x : Int32} {idx ci : Nat} (hw : FW md.1.cls idx ci k 0) (hd : decode md.2.1 pc = .ok (.getfield idx, 3)) (hq : q ∈ ks) (hk : am_kd q.1 = ci) (hl : k < am_ln q.1) (hx : u.1 q k = x) (kk : X l md d mc ms al T ks kc kn (pc + 3) L (vI x :: st) (en u)) : X l md d mc ms al T ks kc kn pc L (vR q :: st) (en u) := r_geti_ hw hd hq hk hl hx kk
theorem e_getl {idx ci : Nat} (hw : FW md.1.cls idx ci k 1) (hd : decode md.2.1 pc = .ok (.getfield idx, 3)) (hq : q ∈ ks) (hk : am_kd q.1 = ci) (hl : k < am_ln q.1) (kk : X l md d mc ms al T ks kc kn (pc + 3) L (vJ (u.2.1 q k) :: st) (en u)) : X l md d mc ms al T ks kc kn pc L (vR q :: st) (en u) := r_getl hw hd hq hk hl kk
theorem e_getl_ {x : Int64} {idx ci : Nat} (hw : FW md.1.cls idx ci k 1) (hd : decode md.2.1 pc = .ok (.getfield idx, 3)) (hq : q ∈ ks) (hk : am_kd q.1 = ci) (hl : k < am_ln q.1) (hx : u.2.1 q k = x) (kk : X l md d mc ms al T ks kc kn (pc + 3) L (vJ x :: st) (en u)) : X l md d mc ms al T ks kc kn pc L (vR q :: st) (en u) := r_getl_ hw hd hq hk hl hx kk
theorem e_getr {idx ci : Nat} {z : Option Key} (hw : FW md.1.cls idx ci k 2) (hd : decode md.2.1 pc = .ok (.getfield idx, 3)) (hq : q ∈ ks) (hk : am_kd q.1 = ci) (hl : k < am_ln q.1) (hz : lay u.2.2 q k = z) (kk : X l md d mc ms al T ks kc kn (pc + 3) L (vO z :: st) (en u)) : X l md d mc ms al T ks kc kn pc L (vR q :: st) (en u) := r_getr hw hd hq hk hl hz kk
theorem e_aald {i : Int32} {n : Nat} {z : Option Key} (hd : decode md.2.1 pc = .ok (.aaload, 1)) (hq : q ∈ ks) (hk : 14 ≤ am_kd q.1 ∧ am_kd q.1 < 18) (hin : vp_in i (am_ln q.1)) (hi : i.toNatClampNeg = n) (hz : lay u.2.2 q n = z) (kk : X l md d mc ms al T ks kc kn (pc + 1) L (vO z :: st) (en u)) : X l md d mc ms al T ks kc kn pc L (vI i :: vR q :: st) (en u) := by subst hi; exact r_aald hd hq hk hin hz kk
theorem e_iald {i : Int32} {n : Nat} {x : Int32} (hd : decode md.2.1 pc = .ok (.iaload, 1)) (hq : q ∈ ks) (hk : am_kd q.1 = 11) (hin : vp_in i (am_ln q.1)) (hi : i.toNatClampNeg = n) (hx : u.1 q n = x) (kk : X l md d mc ms al T ks kc kn (pc + 1) L (vI x :: st) (en u)) : X l md d mc ms al T ks kc kn pc L (vI i :: vR q :: st) (en u) := r_iald_ hd hq hk hin hi hx kk
theorem e_zald {i : Int32} {n : Nat} {x : Int32} (hd : decode md.2.1 pc = .ok (.baload, 1)) (hq : q ∈ ks) (hk : am_kd q.1 = 13) (hin : vp_in i (am_ln q.1)) (hi : i.toNatClampNeg = n) (hx : u.1 q n = x) (kk : X l md d mc ms al T ks kc kn (pc + 1) L (vI x :: st) (en u)) : X l md d mc ms al T ks kc kn pc L (vI i :: vR q :: st) (en u) := r_zald_ hd hq hk hin hi hx kk
theorem e_lald {i : Int32} {n : Nat} {x : Int64} (hd : decode md.2.1 pc = .ok (.laload, 1)) (hq : q ∈ ks) (hk : am_kd q.1 = 12) (hin : vp_in i (am_ln q.1)) (hi : i.toNatClampNeg = n) (hx : u.2.1 q n = x) (kk : X l md d mc ms al T ks kc kn (pc + 1) L (vJ x :: st) (en u)) : X l md d mc ms al T ks kc kn pc L (vI i :: vR q :: st) (en u) := r_lald_ hd hq hk hin hi hx kk
theorem e_puti {x : Int32} {idx ci : Nat} {ty : FieldType} (hw : FP md.1.cls idx ci k ty false) (hd : decode md.2.1 pc = .ok (.putfield idx, 3)) (hq : q ∈ ks) (hk : am_kd q.1 = ci) (hl : k < am_ln q.1) (hft : am_ft ci k = 0) (hn : narrow ty (.int x) = .int x) (hfit : fits ty (.int x) = true) (kk : X l md d mc ms al T ks kc kn (pc + 3) L st (en (pi u q k x))) : X l md d mc ms al T ks kc kn pc L (vI x :: vR q :: st) (en u) := r_puti hw (fun h => by cases h) hd hq hk hl hft hn hfit kk
theorem e_putl {x : Int64} {idx ci : Nat} (hw : FP md.1.cls idx ci k .long false) (hd : decode md.2.1 pc = .ok (.putfield idx, 3)) (hq : q ∈ ks) (hk : am_kd q.1 = ci) (hl : k < am_ln q.1) (hft : am_ft ci k = 1) (kk : X l md d mc ms al T ks kc kn (pc + 3) L st (en (pl u q k x))) : X l md d mc ms al T ks kc kn pc L (vJ x :: vR q :: st) (en u) := r_putl hw (fun h => by cases h) hd hq hk hl hft kk
theorem e_put1 {v : Nat} {x : Option Nat} {idx : Nat} {ty : FieldType} (hw : FP md.1.cls idx 8 5 ty false) (hd : decode md.2.1 pc = .ok (.putfield idx, 3)) (hq : ((1, v, 0) : Key) ∈ ks) (hty : ∀ v : Option Nat, narrow ty (va_rf v) = va_rf v ∧ fits ty (va_rf v) = true) (kk : X l md d mc ms al T ks kc kn (pc + 3) L st (en (pr u (v + 1) x))) : X l md d mc ms al T ks kc kn pc L (vO (x.map fun z => (11, z, 0)) :: vR (1, v, 0) :: st) (en u) := r_putr hw (fun h => by cases h) hd hq rfl (lt_b rfl) rfl hty (by rw [en_pr1]; exact kk)
theorem e_put4 {x : Option Nat} {idx : Nat} {ty : FieldType} (hw : FP md.1.cls idx 6 3 ty false) (hd : decode md.2.1 pc = .ok (.putfield idx, 3)) (hq : ((9, 0, 0) : Key) ∈ ks) (hty : ∀ v : Option Nat, narrow ty (va_rf v) = va_rf v ∧ fits ty (va_rf v) = true) (kk : X l md d mc ms al T ks kc kn (pc + 3) L st (en (pr u 0 x))) : X l md d mc ms al T ks kc kn pc L (vO (x.map fun z => (11, z, 0)) :: vR (9, 0, 0) :: st) (en u) := r_putr hw (fun h => by cases h) hd hq rfl (lt_b rfl) rfl hty (by rw [en_pr4]; exact kk)
theorem e_iast {i x : Int32} {n : Nat} (hd : decode md.2.1 pc = .ok (.iastore, 1)) (hq : q ∈ ks) (hk : am_kd q.1 = 11) (hin : vp_in i (am_ln q.1)) (hi : i.toNatClampNeg = n) (kk : X l md d mc ms al T ks kc kn (pc + 1) L st (en (pi u q n x))) : X l md d mc ms al T ks kc kn pc L (vI x :: vI i :: vR q :: st) (en u) := by subst hi; exact r_iast hd hq hk hin kk
theorem e_zast {i x : Int32} {n : Nat} (hd : decode md.2.1 pc = .ok (.bastore, 1)) (hq : q ∈ ks) (hk : am_kd q.1 = 13) (hin : vp_in i (am_ln q.1)) (hi : i.toNatClampNeg = n) (hx : narrow .boolean (.int x) = .int x) (kk : X l md d mc ms al T ks kc kn (pc + 1) L st (en (pi u q n x))) : X l md d mc ms al T ks kc kn pc L (vI x :: vI i :: vR q :: st) (en u) := by subst hi; exact r_zast hd hq hk hin hx kk
theorem e_last {i : Int32} {x : Int64} {n : Nat} (hd : decode md.2.1 pc = .ok (.lastore, 1)) (hq : q ∈ ks) (hk : am_kd q.1 = 12) (hin : vp_in i (am_ln q.1)) (hi : i.toNatClampNeg = n) (kk : X l md d mc ms al T ks kc kn (pc + 1) L st (en (pl u q n x))) : X l md d mc ms al T ks kc kn pc L (vJ x :: vI i :: vR q :: st) (en u) := by subst hi; exact r_last hd hq hk hin kk
theorem e_copyi {q0 q1 : Key} {idx a b c : Nat} {sp dp n : Int32} (hw : CP md.1.cls idx) (hd : decode md.2.1 pc = .ok (.invokestatic idx, 3)) (hq0 : q0 ∈ ks) (hq1 : q1 ∈ ks) (hk0 : am_kd q0.1 = 11) (hk1 : am_kd q1.1 = 11) (g1 : ¬ sp < 0) (g2 : ¬ dp < 0) (g3 : ¬ n < 0) (ga : sp.toNatClampNeg = a) (gb : dp.toNatClampNeg = b) (gc : n.toNatClampNeg = c) (g4 : a + c ≤ am_ln q0.1) (g5 : b + c ≤ am_ln q1.1) (hdd : 1 ≤ d) (hst : (st.map am_cat).sum ≤ 8)
    (kk : X l md d mc ms false T ks kc kn (pc + 3) L st (en (pci u q1 (va_cpy (u.1 q0) (u.1 q1) a b c)))) : X l md d mc ms false T ks kc kn pc L (vI n :: vI dp :: vR q1 :: vI sp :: vR q0 :: st) (en u) := by subst ga; subst gb; subst gc; exact r_copyi hw hd hq0 hq1 hk0 hk1 g1 g2 g3 g4 g5 hdd hst kk
theorem e_copyl {q0 q1 : Key} {idx a b c : Nat} {sp dp n : Int32} (hw : CP md.1.cls idx) (hd : decode md.2.1 pc = .ok (.invokestatic idx, 3)) (hq0 : q0 ∈ ks) (hq1 : q1 ∈ ks) (hk0 : am_kd q0.1 = 12) (hk1 : am_kd q1.1 = 12) (g1 : ¬ sp < 0) (g2 : ¬ dp < 0) (g3 : ¬ n < 0) (ga : sp.toNatClampNeg = a) (gb : dp.toNatClampNeg = b) (gc : n.toNatClampNeg = c) (g4 : a + c ≤ am_ln q0.1) (g5 : b + c ≤ am_ln q1.1) (hdd : 1 ≤ d) (hst : (st.map am_cat).sum ≤ 8)
    (kk : X l md d mc ms false T ks kc kn (pc + 3) L st (en (pcl u q1 (va_cpy (u.2.1 q0) (u.2.1 q1) a b c)))) : X l md d mc ms false T ks kc kn pc L (vI n :: vI dp :: vR q1 :: vI sp :: vR q0 :: st) (en u) := by subst ga; subst gb; subst gc; exact r_copyl hw hd hq0 hq1 hk0 hk1 g1 g2 g3 g4 g5 hdd hst kk
end HR
theorem inWd0 : ∀ w ∈ u_ws RX0 TX0 5, w ∈ Wd := fun w hw => by
  have h1 := List.all_eq_true.mp (show (u_ws RX0 TX0 5).all (fun w => decide (w ∈ lw_tbl) && goodWord w) = true by decide +kernel) w hw
  simp only [Bool.and_eq_true, decide_eq_true_eq] at h1
  exact Wd_of h1.1 h1.2
theorem inWd1 : ∀ w ∈ u_ws RX1 TX1 6, w ∈ Wd := fun w hw => by
  have h1 := List.all_eq_true.mp (show (u_ws RX1 TX1 6).all (fun w => decide (w ∈ lw_tbl) && goodWord w) = true by decide +kernel) w hw
  simp only [Bool.and_eq_true, decide_eq_true_eq] at h1
  exact Wd_of h1.1 h1.2
theorem inWd2 : ∀ w ∈ u_ws RX2 TX2 9, w ∈ Wd := fun w hw => by
  have h1 := List.all_eq_true.mp (show (u_ws RX2 TX2 9).all (fun w => decide (w ∈ lw_tbl) && goodWord w) = true by decide +kernel) w hw
  simp only [Bool.and_eq_true, decide_eq_true_eq] at h1
  exact Wd_of h1.1 h1.2
theorem inWd3 : ∀ w ∈ u_ws RX3 TX3 9, w ∈ Wd := fun w hw => by
  have h1 := List.all_eq_true.mp (show (u_ws RX3 TX3 9).all (fun w => decide (w ∈ lw_tbl) && goodWord w) = true by decide +kernel) w hw
  simp only [Bool.and_eq_true, decide_eq_true_eq] at h1
  exact Wd_of h1.1 h1.2
theorem inWd4 : ∀ w ∈ u_ws RX4 TX4 4, w ∈ Wd := fun w hw => by
  have h1 := List.all_eq_true.mp (show (u_ws RX4 TX4 4).all (fun w => decide (w ∈ lw_tbl) && goodWord w) = true by decide +kernel) w hw
  simp only [Bool.and_eq_true, decide_eq_true_eq] at h1
  exact Wd_of h1.1 h1.2
theorem inWd5 : ∀ w ∈ u_ws RX5 TX5 2, w ∈ Wd := fun w hw => by
  have h1 := List.all_eq_true.mp (show (u_ws RX5 TX5 2).all (fun w => decide (w ∈ lw_tbl) && goodWord w) = true by decide +kernel) w hw
  simp only [Bool.and_eq_true, decide_eq_true_eq] at h1
  exact Wd_of h1.1 h1.2
theorem inWd6 : ∀ w ∈ u_ws RX6 TX6 4, w ∈ Wd := fun w hw => by
  have h1 := List.all_eq_true.mp (show (u_ws RX6 TX6 4).all (fun w => decide (w ∈ lw_tbl) && goodWord w) = true by decide +kernel) w hw
  simp only [Bool.and_eq_true, decide_eq_true_eq] at h1
  exact Wd_of h1.1 h1.2
theorem inWd7 : ∀ w ∈ u_ws RX7 TX7 3, w ∈ Wd := fun w hw => by
  have h1 := List.all_eq_true.mp (show (u_ws RX7 TX7 3).all (fun w => decide (w ∈ lw_tbl) && goodWord w) = true by decide +kernel) w hw
  simp only [Bool.and_eq_true, decide_eq_true_eq] at h1
  exact Wd_of h1.1 h1.2
theorem inWd8 : ∀ w ∈ u_ws RX8 TX8 10, w ∈ Wd := fun w hw => by
  have h1 := List.all_eq_true.mp (show (u_ws RX8 TX8 10).all (fun w => decide (w ∈ lw_tbl) && goodWord w) = true by decide +kernel) w hw
  simp only [Bool.and_eq_true, decide_eq_true_eq] at h1
  exact Wd_of h1.1 h1.2
theorem inWd9 : ∀ w ∈ u_ws RX9 TX9 12, w ∈ Wd := fun w hw => by
  have h1 := List.all_eq_true.mp (show (u_ws RX9 TX9 12).all (fun w => decide (w ∈ lw_tbl) && goodWord w) = true by decide +kernel) w hw
  simp only [Bool.and_eq_true, decide_eq_true_eq] at h1
  exact Wd_of h1.1 h1.2
theorem inWd10 : ∀ w ∈ u_ws RX10 TX10 84, w ∈ Wd := fun w hw => by
  have h1 := List.all_eq_true.mp (show (u_ws RX10 TX10 84).all (fun w => decide (w ∈ lw_tbl) && goodWord w) = true by decide +kernel) w hw
  simp only [Bool.and_eq_true, decide_eq_true_eq] at h1
  exact Wd_of h1.1 h1.2
