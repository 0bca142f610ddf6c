/-! the image, and back -/
theorem pcp_x (w : PM) (a b n : Nat) : eqx (fun q _ => q.1 == b) w (pcp w a b n) := ⟨fun q k e => by
    show (if k < n ∧ q = (b, 0, 0) then _ else w.1 q k) = _
    rw [if_neg (fun z => by rw [z.2] at e; simp at e)], fun _ _ _ => rfl, fun _ _ => rfl⟩
theorem pcp_v (w : PM) (a b n : Nat) {k : Nat} (h : k < n) : (pcp w a b n).1 (b, 0, 0) k = w.1 (a, 0, 0) k := if_pos ⟨h, rfl⟩
def cps : List (Nat × Nat) → PM → PM
  | [], w => w
  | p :: r, w => cps r (pcp w p.1 p.2 (am_ln p.2))
theorem cps_x : ∀ (L : List (Nat × Nat)) (w : PM), eqx (fun q _ => L.any (fun p => q.1 == p.2)) w (cps L w)
  | [], w => eqx.rf
  | p :: r, w => ((pcp_x w p.1 p.2 (am_ln p.2)).mono (fun q k h => by
      simp only [List.any_cons, Bool.or_eq_false_iff] at h
      exact h.1)).tr ((cps_x r _).mono (fun q k h => by
      simp only [List.any_cons, Bool.or_eq_false_iff] at h
      exact h.2))
theorem cps_v : ∀ (L : List (Nat × Nat)) (w : PM), (L.map Prod.snd).Nodup → (∀ p, p ∈ L → ∀ q, q ∈ L → p.1 ≠ q.2) → ∀ p, p ∈ L → ∀ k, k < am_ln p.2 → (cps L w).1 (p.2, 0, 0) k = w.1 (p.1, 0, 0) k
  | [], w, _, _, p, hp, _, _ => by cases hp
  | p0 :: r, w, hn, hd, p, hp, k, hk => by
    rw [List.map_cons, List.nodup_cons] at hn
    rcases List.mem_cons.mp hp with e | hp'
    · subst e
      show (cps r (pcp w p.1 p.2 (am_ln p.2))).1 (p.2, 0, 0) k = _
      rw [(cps_x r _).1 (p.2, 0, 0) k (by
        rw [List.any_eq_false]
        intro q hq z
        have z : p.2 = q.2 := by simpa using z
        exact hn.1 (List.mem_map.mpr ⟨q, hq, z.symm⟩))]
      exact pcp_v w p.1 p.2 _ hk
    · show (cps r (pcp w p0.1 p0.2 (am_ln p0.2))).1 (p.2, 0, 0) k = _
      rw [cps_v r _ hn.2 (fun a ha b hb => hd a (List.mem_cons_of_mem _ ha) b (List.mem_cons_of_mem _ hb)) p hp' k hk]
      exact (pcp_x w p0.1 p0.2 _).1 _ _ (beq_eq_false_iff_ne.mpr (hd p hp p0 List.mem_cons_self))
def Lim : List (Nat × Nat) := [(41, 78), (42, 79), (43, 80), (44, 81), (45, 82), (46, 83), (47, 84), (48, 85), (49, 86), (70, 87), (71, 88)]
def Lun : List (Nat × Nat) := [(78, 41), (79, 42), (80, 43), (81, 44), (82, 45), (83, 46), (84, 47), (85, 48), (86, 49), (87, 70), (88, 71)]
def wim (u : PM) : PM := pi (pi (pi (pi (pi (pi (pi u (40, 0, 0) 60 (1 : Int32)) (40, 0, 0) 61 (u.1 (40, 0, 0) 14)) (40, 0, 0) 62 (u.1 (40, 0, 0) 0)) (40, 0, 0) 63 (u.1 (40, 0, 0) 1)) (40, 0, 0) 64 (u.1 (40, 0, 0) 2)) (40, 0, 0) 65 (u.1 (40, 0, 0) 3)) (40, 0, 0) 66 (u.1 (40, 0, 0) 46)
def wun (u : PM) : PM := pi (pi (pi (pi (pi (pi u (40, 0, 0) 14 (u.1 (40, 0, 0) 61)) (40, 0, 0) 0 (u.1 (40, 0, 0) 62)) (40, 0, 0) 1 (u.1 (40, 0, 0) 63)) (40, 0, 0) 2 (u.1 (40, 0, 0) 64)) (40, 0, 0) 3 (u.1 (40, 0, 0) 65)) (40, 0, 0) 46 (u.1 (40, 0, 0) 66)
theorem image_eq (w : PM) : f_X10_image w = some ((cps Lim (wim w)).1 (40, 0, 0) 2, cps Lim (wim w)) := rfl
theorem undo_eq (w : PM) : f_X10_undo w = if w.1 (40, 0, 0) 60 = 0 then some ((-3 : Int32), w) else some ((cps Lun (wun w)).1 (40, 0, 0) 2, cps Lun (wun w)) := rfl
theorem RP_mv {w w' : PM} {ks ks' : Ks} {V : Vil} (hR : RP w ks V) (h6 : V.2.2.1 ≤ 6) (h0 : w'.1 (40, 0, 0) ks'.1.1 = w.1 (40, 0, 0) ks.1.1 ∧ w'.1 (40, 0, 0) ks'.1.2.1 = w.1 (40, 0, 0) ks.1.2.1 ∧ w'.1 (40, 0, 0) ks'.1.2.2.1 = w.1 (40, 0, 0) ks.1.2.2.1 ∧ w'.1 (40, 0, 0) ks'.1.2.2.2.1 = w.1 (40, 0, 0) ks.1.2.2.2.1 ∧ w'.1 (40, 0, 0) ks'.1.2.2.2.2 = w.1 (40, 0, 0) ks.1.2.2.2.2)
    (hr : ∀ h, h < 6 → w'.1 (ks'.2.1, 0, 0) h = w.1 (ks.2.1, 0, 0) h ∧ w'.1 (ks'.2.2.1, 0, 0) h = w.1 (ks.2.2.1, 0, 0) h ∧ w'.1 (ks'.2.2.2.1, 0, 0) h = w.1 (ks.2.2.2.1, 0, 0) h ∧ w'.1 (ks'.2.2.2.2.1, 0, 0) h = w.1 (ks.2.2.2.2.1, 0, 0) h ∧ w'.1 (ks'.2.2.2.2.2.1, 0, 0) h = w.1 (ks.2.2.2.2.2.1, 0, 0) h ∧ w'.1 (ks'.2.2.2.2.2.2.1, 0, 0) h = w.1 (ks.2.2.2.2.2.2.1, 0, 0) h ∧ w'.1 (ks'.2.2.2.2.2.2.2.1, 0, 0) h = w.1 (ks.2.2.2.2.2.2.2.1, 0, 0) h ∧ w'.1 (ks'.2.2.2.2.2.2.2.2.1, 0, 0) h = w.1 (ks.2.2.2.2.2.2.2.2.1, 0, 0) h)
    (hw : ∀ k, k < 36 → w'.1 (ks'.2.2.2.2.2.2.2.2.2, 0, 0) k = w.1 (ks.2.2.2.2.2.2.2.2.2, 0, 0) k) {g : Key → Nat → Bool} (he : eqx g w w') (hg : ∀ s i, 51 ≤ s → s ≤ 57 → g (s, 0, 0) i = false) : RP w' ks' V := by
  obtain ⟨⟨b1, b2, b3, b4⟩, b5, b6, b7⟩ := hR
  obtain ⟨a1, a2, a3, a4, a5⟩ := h0
  refine ⟨⟨a1.trans b1, a2.trans b2, a3.trans b3, a4.trans b4⟩, fun h hh => ?_, fun a b ha hb => (hw _ (by omega)).trans (b6 a b ha hb), LdM_L he hg a5 b7⟩
  obtain ⟨c1, c2, c3, c4, c5, c6, c7⟩ := b5 h hh
  obtain ⟨d1, d2, d3, d4, d5, d6, d7, d8⟩ := hr h (by omega)
  exact ⟨d1.trans c1, d2.trans c2, d3.trans c3, d4.trans c4, d5.trans c5, fun z => ⟨d6.trans (c6 z).1, d7.trans (c6 z).2⟩, fun z => d8.trans (c7 z)⟩
theorem k_gCp1 {u u' : PM} (h : eqx (gCp 1) u u') : chC [2, 6] u u' := toCA h (fun q k z => by
  unfold gCp at z
  simp only [Bool.or_eq_true, Bool.and_eq_true, beq_iff_eq] at z
  have : cC q k = 2 := by
    unfold cC
    rcases z with z | z
    · rw [if_neg (by omega), if_pos (by omega), if_neg (by omega), if_pos (by omega)]
    · rw [if_neg (by omega), if_neg (by omega), if_neg (by omega), if_neg (by omega), if_neg (by omega), if_neg (by omega), if_neg (by omega), if_neg (by omega), if_pos (by omega), if_neg (by omega), if_pos (by omega)]
  rw [this]
  rfl)
theorem k_gCp0 {u u' : PM} (h : eqx (gCp 0) u u') : chC [1] u u' := toCA h (fun q k z => by
  unfold gCp at z
  simp only [Bool.or_eq_true, Bool.and_eq_true, beq_iff_eq] at z
  have : cC q k = 1 := by
    unfold cC
    rcases z with z | z
    · rw [if_neg (by omega), if_pos (by omega), if_pos (by omega)]
    · rw [if_neg (by omega), if_neg (by omega), if_neg (by omega), if_neg (by omega), if_neg (by omega), if_neg (by omega), if_neg (by omega), if_neg (by omega), if_pos (by omega), if_pos (by omega)]
  rw [this]
  rfl)
def gIm (q : Key) (k : Nat) : Bool := (q.1 == 40 && (60 ≤ k && k ≤ 66)) || (78 ≤ q.1 && q.1 ≤ 88)
def gUn (q : Key) (k : Nat) : Bool := (q.1 == 40 && (k == 0 || k == 1 || k == 2 || k == 3 || k == 14 || k == 46)) || (41 ≤ q.1 && q.1 ≤ 49) || q.1 == 70 || q.1 == 71
theorem im_x (w : PM) : eqx gIm w (cps Lim (wim w)) := (((((((eqx.rf.pi rfl).pi rfl).pi rfl).pi rfl).pi rfl).pi rfl).pi rfl).tr ((cps_x Lim _).mono (fun q k h => by
  unfold gIm at h
  simp only [Lim, List.any_cons, List.any_nil, and_true, Bool.or_eq_false_iff, Bool.and_eq_false_iff, beq_eq_false_iff_ne, decide_eq_false_iff_not] at h ⊢
  omega))
theorem un_x (w : PM) : eqx gUn w (cps Lun (wun w)) := ((((((eqx.rf.pi rfl).pi rfl).pi rfl).pi rfl).pi rfl).pi rfl).tr ((cps_x Lun _).mono (fun q k h => by
  unfold gUn at h
  simp only [Lun, List.any_cons, List.any_nil, and_true, Bool.or_eq_false_iff, Bool.and_eq_false_iff, beq_eq_false_iff_ne, decide_eq_false_iff_not] at h ⊢
  omega))
theorem im_40 (w : PM) (k : Nat) : (cps Lim (wim w)).1 (40, 0, 0) k = (wim w).1 (40, 0, 0) k := (cps_x Lim _).1 _ _ rfl
theorem un_40 (w : PM) (k : Nat) : (cps Lun (wun w)).1 (40, 0, 0) k = (wun w).1 (40, 0, 0) k := (cps_x Lun _).1 _ _ rfl
theorem im_v (w : PM) {a b : Nat} (h : (a, b) ∈ Lim) {k : Nat} (hk : k < am_ln b) (ha : gIm (a, 0, 0) k = false) : (cps Lim (wim w)).1 (b, 0, 0) k = w.1 (a, 0, 0) k := by
  rw [cps_v Lim (wim w) (by decide) (by decide) (a, b) h k hk]
  exact (((((((eqx.rf.pi (g := gIm) rfl).pi rfl).pi rfl).pi rfl).pi rfl).pi rfl).pi rfl : eqx gIm w (wim w)).1 _ _ ha
theorem un_v (w : PM) {a b : Nat} (h : (a, b) ∈ Lun) {k : Nat} (hk : k < am_ln b) (ha : gUn (a, 0, 0) k = false) : (cps Lun (wun w)).1 (b, 0, 0) k = w.1 (a, 0, 0) k := by
  rw [cps_v Lun (wun w) (by decide) (by decide) (a, b) h k hk]
  exact ((((((eqx.rf.pi (g := gUn) rfl).pi rfl).pi rfl).pi rfl).pi rfl).pi rfl : eqx gUn w (wun w)).1 _ _ ha
theorem O_24 {u w : PM} (h : Rel u w) : ∃ r u' w', f_X9_image u = some (r, u') ∧ f_X10_image w = some (r, w') ∧ Rel u' w' := by
  obtain ⟨n, a1, ⟨V, N, hC, hN, hk, hP, hQ⟩, a3, a4, a5, a6⟩ := h
  have h6 := hk.1.1
  obtain ⟨u1, q1, q2, q3, q4⟩ := c_copy (v := 1) (w := 0) (by decide) hC hk.1 hN
  have e1 : chC [2, 6] u u1 := k_gCp1 q2
  have eu : chC [2, 6] u (pi u1 (0, 0, 0) 3 (1 : Int32)) := eqx.pi e1 rfl
  have eq0 : eqx (fun q _ => q.1 == 0) u1 (pi u1 (0, 0, 0) 3 (1 : Int32)) := eqx.rf.pi rfl
  have em := im_x w
  have ew : chM [2, 6] w (cps Lim (wim w)) := toMA em (fun q k z => by
    unfold gIm at z
    simp only [Bool.or_eq_true, Bool.and_eq_true, beq_iff_eq, decide_eq_true_eq] at z
    by_cases e : q.1 = 40
    · by_cases e6 : k = 60
      · have : cM q k = 6 := by
          unfold cM
          rw [if_pos e, if_neg (by omega), if_pos (by omega)]
        rw [this]; rfl
      · have : cM q k = 2 := by
          unfold cM
          rw [if_pos e, if_neg (by omega), if_neg (by omega), if_pos (by omega)]
        rw [this]; rfl
    · have : cM q k = 2 := by
        unfold cM
        rw [if_neg e, if_neg (by omega), if_neg (by omega), if_neg (by omega), if_neg (by omega), if_neg (by omega), if_pos (by omega)]
      rw [this]; rfl)
  unfold f_X9_image
  rw [q1, Option.bind_some, image_eq]
  have r4 : u1.1 (1, 0, 0) 4 = (cps Lim (wim w)).1 (40, 0, 0) 2 := by
    rw [q2.1 _ _ rfl, em.1 _ _ rfl, hC.2.2.2.2.1]
    exact hP.1.2.2.1.symm
  rw [r4]
  refine ⟨_, _, _, rfl, rfl, n, ⟨a1.1, ?_, ?_, fun i hi => (em.1 _ _ rfl).trans (a1.2.2.2 i hi)⟩, VlR0_k eu ew rfl rfl ⟨V, N, hC, hN, hk, hP, hQ⟩, ⟨true, ?_, ?_, fun _ => ⟨V, N, ?_, ⟨(eq0.1 _ _ rfl).trans q4.1, q4.2.1, fun i hi => ⟨(eq0.1 _ _ rfl).trans (q4.2.2 i hi).1, (eq0.1 _ _ rfl).trans (q4.2.2 i hi).2⟩⟩, hk, ?_, ?_⟩⟩, RdR_k eu ew rfl a4, TpR_k eu ew rfl a5, AcR_k eu ew rfl a6⟩
  · show (pi u1 (0, 0, 0) 3 (1 : Int32)).1 (0, 0, 0) 6 = _
    rw [p_i, if_neg (by simp), q2.1 _ _ rfl]
    exact a1.2.1
  · rw [em.1 _ _ rfl]
    exact a1.2.2.1
  · show (pi u1 (0, 0, 0) 3 (1 : Int32)).1 (0, 0, 0) 3 = 1
    simp [p_i]
  · rw [im_40]
    simp [wim, p_i]
    rfl
  · exact RepC_kept (g := fun q k => q.1 == 0) (eqx.rf.pi rfl) (fun s hs i f => by rcases hs with rfl | rfl | rfl <;> rfl) (fun s p i g1 g2 => beq_eq_false_iff_ne.mpr (by show s ≠ 0; omega)) rfl q3
  · refine RP_mv (ks := kP) (ks' := kI) hP h6 ⟨?_, ?_, ?_, ?_, ?_⟩ (fun h hh => ?_) (fun k hk => ?_) em (fun s i g1 g2 => ?_)
    · show (cps Lim (wim w)).1 (40, 0, 0) 62 = w.1 (40, 0, 0) 0
      rw [im_40]; simp [wim, p_i]
    · show (cps Lim (wim w)).1 (40, 0, 0) 63 = w.1 (40, 0, 0) 1
      rw [im_40]; simp [wim, p_i]
    · show (cps Lim (wim w)).1 (40, 0, 0) 64 = w.1 (40, 0, 0) 2
      rw [im_40]; simp [wim, p_i]
    · show (cps Lim (wim w)).1 (40, 0, 0) 65 = w.1 (40, 0, 0) 3
      rw [im_40]; simp [wim, p_i]
    · show (cps Lim (wim w)).1 (40, 0, 0) 61 = w.1 (40, 0, 0) 14
      rw [im_40]; simp [wim, p_i]
    · exact ⟨im_v w (a := 41) (b := 78) (by decide) hh rfl, im_v w (a := 42) (b := 79) (by decide) hh rfl, im_v w (a := 43) (b := 80) (by decide) hh rfl, im_v w (a := 44) (b := 81) (by decide) hh rfl, im_v w (a := 45) (b := 82) (by decide) hh rfl, im_v w (a := 46) (b := 83) (by decide) hh rfl, im_v w (a := 47) (b := 84) (by decide) hh rfl, im_v w (a := 48) (b := 85) (by decide) hh rfl⟩
    · exact im_v w (a := 49) (b := 86) (by decide) hk rfl
    · unfold gIm
      simp only [Bool.or_eq_false_iff, Bool.and_eq_false_iff, beq_eq_false_iff_ne, decide_eq_false_iff_not]
      omega
  · refine ⟨?_, fun i hi => ⟨?_, ?_⟩⟩
    · rw [im_40]; simp [wim, p_i]; exact hQ.1
    · exact (im_v w (a := 70) (b := 87) (by decide) hi rfl).trans (hQ.2 i hi).1
    · exact (im_v w (a := 71) (b := 88) (by decide) hi rfl).trans (hQ.2 i hi).2
theorem O_25 {u w : PM} (h : Rel u w) : ∃ r u' w', f_X9_undo u = some (r, u') ∧ f_X10_undo w = some (r, w') ∧ Rel u' w' := by
  obtain ⟨n, a1, a2, ⟨b, b1, b2, b3⟩, a4, a5, a6⟩ := id h
  unfold f_X9_undo
  rw [undo_eq, b1, b2]
  cases b with
  | false =>
    rw [if_pos (show b2i false = 0 from rfl), if_pos (show b2i false = 0 from rfl)]
    exact ⟨_, _, _, rfl, rfl, h⟩
  | true =>
    rw [if_neg (show ¬ b2i true = 0 from one_ne), if_neg (show ¬ b2i true = 0 from one_ne)]
    obtain ⟨V, N, hC, hN, hk, hP, hQ⟩ := b3 rfl
    have h6 := hk.1.1
    obtain ⟨u1, q1, q2, q3, q4⟩ := c_copy (v := 0) (w := 1) (by decide) hC hk.1 hN
    have eu : chC [1] u u1 := k_gCp0 q2
    have em := un_x w
    have ew : chM [1] w (cps Lun (wun w)) := toMA em (fun q k z => by
      unfold gUn at z
      simp only [Bool.or_eq_true, Bool.and_eq_true, beq_iff_eq, decide_eq_true_eq] at z
      have : cM q k = 1 := by
        unfold cM
        by_cases e : q.1 = 40
        · rw [if_pos e, if_pos (by omega)]
        · rw [if_neg e]
          by_cases e2 : 41 ≤ q.1 ∧ q.1 ≤ 49
          · rw [if_pos e2]
          · rw [if_neg e2, if_neg (by omega), if_neg (by omega), if_neg (by omega), if_pos (by omega)]
      rw [this]; rfl)
    rw [q1, Option.bind_some]
    have r4 : u1.1 (1, 0, 0) 4 = (cps Lun (wun w)).1 (40, 0, 0) 2 := by
      rw [q3.2.2.2.2.1, un_40]
      simp [wun, p_i]
      exact hP.1.2.2.1.symm
    rw [r4]
    refine ⟨_, _, _, rfl, rfl, n, BsR_k eu ew rfl a1, ⟨V, N, q3, q4, hk, ?_, ?_⟩, ImR_k eu ew rfl rfl rfl ⟨true, b1, b2, b3⟩, RdR_k eu ew rfl a4, TpR_k eu ew rfl a5, AcR_k eu ew rfl a6⟩
    · refine RP_mv (ks := kI) (ks' := kP) hP h6 ⟨?_, ?_, ?_, ?_, ?_⟩ (fun h hh => ?_) (fun k hk => ?_) em (fun s i g1 g2 => ?_)
      · show (cps Lun (wun w)).1 (40, 0, 0) 0 = w.1 (40, 0, 0) 62
        rw [un_40]; simp [wun, p_i]
      · show (cps Lun (wun w)).1 (40, 0, 0) 1 = w.1 (40, 0, 0) 63
        rw [un_40]; simp [wun, p_i]
      · show (cps Lun (wun w)).1 (40, 0, 0) 2 = w.1 (40, 0, 0) 64
        rw [un_40]; simp [wun, p_i]
      · show (cps Lun (wun w)).1 (40, 0, 0) 3 = w.1 (40, 0, 0) 65
        rw [un_40]; simp [wun, p_i]
      · show (cps Lun (wun w)).1 (40, 0, 0) 14 = w.1 (40, 0, 0) 61
        rw [un_40]; simp [wun, p_i]
      · exact ⟨un_v w (a := 78) (b := 41) (by decide) hh rfl, un_v w (a := 79) (b := 42) (by decide) hh rfl, un_v w (a := 80) (b := 43) (by decide) hh rfl, un_v w (a := 81) (b := 44) (by decide) hh rfl, un_v w (a := 82) (b := 45) (by decide) hh rfl, un_v w (a := 83) (b := 46) (by decide) hh rfl, un_v w (a := 84) (b := 47) (by decide) hh rfl, un_v w (a := 85) (b := 48) (by decide) hh rfl⟩
      · exact un_v w (a := 86) (b := 49) (by decide) hk rfl
      · unfold gUn
        simp only [Bool.or_eq_false_iff, Bool.and_eq_false_iff, beq_eq_false_iff_ne, decide_eq_false_iff_not]
        omega
    · refine ⟨?_, fun i hi => ⟨?_, ?_⟩⟩
      · rw [un_40]; simp [wun, p_i]; exact hQ.1
      · exact (un_v w (a := 87) (b := 70) (by decide) hi rfl).trans (hQ.2 i hi).1
      · exact (un_v w (a := 88) (b := 71) (by decide) hi rfl).trans (hQ.2 i hi).2
