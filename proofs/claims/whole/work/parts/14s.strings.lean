/-! RULES of the layer: the class's texts and the library's ways with them -/
abbrev RF : Type := Int32 → PM → Option (Int32 × PM)
section SR
variable {l : Launch} {md md2 : MD} {d d2 mc ms mc2 ms2 : Nat} {al : Bool} {T T2 : Option AV × List Key × AM} {ks : List Key} {kc kn pc : Nat} {L L' : List (Option AV)} {st as : List AV} {M M' : AM} {q : Key} {k : Nat}
def s_len (i : Nat) : Int32 := Int32.ofNat (sx_len.getD i 0)
def s_by (i k : Nat) : Int32 := (sx_by.getD i []).getD k 0
theorem r_ldcS {i idx : Nat} (hi : i < 7) (hx : sx_ix.getD i 0 = idx) (ho : md.1.cls = "FireFromFire$Reader") (hd : decode md.2.1 pc = .ok (.ldc idx, 2)) (kk : X l md d mc ms al T ks kc kn (pc + 2) L (vR (95, i, 0) :: st) M) : X l md d mc ms al T ks kc kn pc L st M := by
  intro p e s m args below meth c H locs b D cT A ls h0 h1 hl9
  subst hx
  exact va_ldcS h0.1 h0.2.1 (by rw [← ho]; exact h0.2.2.2.2.1) (h1.2.2.2.2.1.2.2.2.1 i hi) hd (kk p e s m args below meth c H locs b D cT A ls h0 h1 hl9)
theorem r_getSV {i z idx : Nat} (hi : i < 7) (hlink : Cond.fieldLink md.1.cls idx "java/lang/String" "value" "[B" ∈ Wd) (hd : decode md.2.1 pc = .ok (.getfield idx, 3)) (kk : X l md d mc ms al T ks kc kn (pc + 3) L (vR (96, i, z) :: st) M) : X l md d mc ms al T ks kc kn pc L (vR (95, i, z) :: st) M := by
  intro p e s m args below meth c H locs b D cT A ls h0 h1 hl9
  exact vk_getf h0.1 h0.2.1 (h1.2.2.2.2.1.2.2.1.1 i hi).2.2.1 h1.2.2.2.1 h0.2.2.2.2.1 (h0.2.2.2.1 _ hlink) (fun _ h9 => h9) hd (kk p e s m args below meth c H locs b D cT A ls h0 h1 hl9)
theorem r_getSC {i z idx : Nat} (hi : i < 7) (hlink : Cond.fieldLink md.1.cls idx "java/lang/String" "coder" "B" ∈ Wd) (hd : decode md.2.1 pc = .ok (.getfield idx, 3)) (kk : X l md d mc ms al T ks kc kn (pc + 3) L (vI 0 :: st) M) : X l md d mc ms al T ks kc kn pc L (vR (95, i, z) :: st) M := by
  intro p e s m args below meth c H locs b D cT A ls h0 h1 hl9
  exact vk_getf h0.1 h0.2.1 (h1.2.2.2.2.1.2.2.1.1 i hi).2.1 h1.2.2.2.1 h0.2.2.2.2.1 (h0.2.2.2.1 _ hlink) (fun _ h9 => h9) hd (kk p e s m args below meth c H locs b D cT A ls h0 h1 hl9)
theorem r_getsC {idx : Nat} (hlink : Cond.fieldLink md.1.cls idx "java/lang/String" "COMPACT_STRINGS" "Z" ∈ Wd) (hd : decode md.2.1 pc = .ok (.getstatic idx, 3)) (kk : X l md d mc ms al T ks kc kn (pc + 3) L (vI 1 :: st) M) : X l md d mc ms al T ks kc kn pc L st M := by
  intro p e s m args below meth c H locs b D cT A ls h0 h1 hl9
  exact va_gets h0.1 h0.2.1 h1.2.2.2.2.1.2.1 h1.2.2.2.1 h0.2.2.2.2.1 (h0.2.2.2.1 _ hlink) (fun _ h9 => h9) hd (kk p e s m args below meth c H locs b D cT A ls h0 h1 hl9)
theorem r_getsF {idx : Nat} (hlink : Cond.fieldLink md.1.cls idx "jdk/internal/util/Preconditions" "SIOOBE_FORMATTER" "Ljava/util/function/BiFunction;" ∈ Wd) (hd : decode md.2.1 pc = .ok (.getstatic idx, 3)) (k1 : X l md d mc ms al T ks kc kn (pc + 3) L (vN :: st) M) (k2 : X l md d mc ms al T ks kc kn (pc + 3) L (vR (97, 0, 0) :: st) M) : X l md d mc ms al T ks kc kn pc L st M := by
  intro p e s m args below meth c H locs b D cT A ls h0 h1 hl9
  rcases h1.2.2.2.2.1.2.2.2.2.1 with h | h
  · exact va_gets h0.1 h0.2.1 h h1.2.2.2.1 h0.2.2.2.2.1 (h0.2.2.2.1 _ hlink) (fun _ h9 => h9) hd (k1 p e s m args below meth c H locs b D cT A ls h0 h1 hl9)
  · exact va_gets h0.1 h0.2.1 h h1.2.2.2.1 h0.2.2.2.2.1 (h0.2.2.2.1 _ hlink) (fun _ h9 => h9) hd (k2 p e s m args below meth c H locs b D cT A ls h0 h1 hl9)
theorem r_alenS {i z : Nat} (hi : i < 7) (hd : decode md.2.1 pc = .ok (.arraylength, 1)) (kk : X l md d mc ms al T ks kc kn (pc + 1) L (vI (s_len i) :: st) M) : X l md d mc ms al T ks kc kn pc L (vR (96, i, z) :: st) M := by
  intro p e s m args below meth c H locs b D cT A ls h0 h1 hl9
  exact va_tlen h0.1 h0.2.1 (h1.2.2.2.2.1.2.2.1.1 i hi).2.2.2 h1.2.2.2.1 rfl hd (kk p e s m args below meth c H locs b D cT A ls h0 h1 hl9)
theorem r_baldS {i z : Nat} {j : Int32} (hi : i < 7) (hd : decode md.2.1 pc = .ok (.baload, 1)) (hin : ¬ (j < 0 ∨ sx_len.getD i 0 ≤ j.toNatClampNeg)) (kk : X l md d mc ms al T ks kc kn (pc + 1) L (vI (s_by i j.toNatClampNeg) :: st) M) : X l md d mc ms al T ks kc kn pc L (vI j :: vR (96, i, z) :: st) M := by
  intro p e s m args below meth c H locs b D cT A ls h0 h1 hl9
  exact va_tb h0.1 h0.2.1 (h1.2.2.2.2.1.2.2.1.1 i hi).2.2.2 h1.2.2.2.1 hin rfl hd (kk p e s m args below meth c H locs b D cT A ls h0 h1 hl9)
set_option maxHeartbeats 1000000 in
theorem r_callT {idx n i z : Nat} (hi : i < 7) (hw : MW md.1.cls idx md2 n) (hv : MV md2) (hE : Ev l md2 d2 mc2 ms2 al (vR (95, i, z) :: as) ks M T2) (hdd : d2 + 1 ≤ d) (hd : decode md.2.1 pc = .ok (.invokevirtual idx, 3)) (hc : md2.1.cls = "java/lang/String") (hn : as.length = n) (hst : (st.map am_cat).sum ≤ 8) (hcm : kc + mc2 ≤ mc) (hsm : kn + ms2 ≤ ms)
    (kk : X l md d mc ms al T T2.2.1 (kc + mc2) (kn + ms2) (pc + 3) L (T2.1.toList ++ st) T2.2.2) : X l md d mc ms al T ks kc kn pc L (as.reverse ++ vR (95, i, z) :: st) M := by
  intro p e s m args below meth c H locs b D cT A ls h0 h1 hl9
  obtain ⟨w1, w2, w3, w4, w5⟩ := hw
  rw [am_mapA]
  refine am_call (A1 := va_A (am_w b cT ks M) H.size) h1 (am_freeA h1) (va_runV (Ts := Wd) (own := md.1.cls) (C := md2.1.cls) (As := as.map (am_cv b)) ⟨h0.1, h0.2.1, h0.2.2.2.2.2.2.1, h0.2.2.2.2.1, h0.2.2.2.1⟩ (hE b D cT H.size)
    (cwV n h0.2.2.2.1 (fun w hw => ?_) rfl rfl rfl ⟨rfl, w4.1, w4.2.1, w4.2.2⟩ ⟨?_, ?_⟩) ⟨am_blind, by rw [hc]; exact vk_recv h1.2.2.2.2.1.2.2.1 hi h1.2.2.2.1, fun U hU hW => am_pre h1 _ U hU hW⟩ rfl (by rw [List.length_map]; exact hn) hl9.1 rfl (lv_room (by rw [am_cat_sum]; exact hst)) hd ⟨hcm, hsm⟩) (fun H1 locs1 h2 => ?_)
  · have hm : w ∈ Wd := by
      unfold wsV at hw
      rcases List.mem_append.mp hw with h | h
      · simp only [List.mem_cons, List.not_mem_nil, or_false] at h
        rcases h with rfl | rfl | rfl | rfl
        · exact w1
        · exact hv.1
        · exact hv.2
        · exact w2
      · exact (am_good w3 w h).1
    exact ⟨hm, Wd_good hm⟩
  · show d2 + 1 ≤ d
    exact hdd
  · show 8 + (md2.2.2.1 + 11) + 40 * d2 ≤ 40 * d
    omega
  · rw [am_mapR]
    exact kk p e s m args below meth c H1 locs1 b D cT A ls h0 h2 hl9
end SR
