/-! the reference: lattice -/
def zo_keep (a : Nat) : Prop := a < 133 ∨ (134 ≤ a ∧ a ≤ 137) ∨ (144 ≤ a ∧ a ≤ 148) ∨ a = 153 ∨ a = 169 ∨ a = 170
def zo_ks (k : Nat) : Prop := k ≤ 3 ∨ k = 8 ∨ k = 17 ∨ k = 36 ∨ 53 ≤ k
/-- nothing but the reference's scratch has changed -/
def zo_fr (h h' : zm_M) : Prop := h'.2 = h.2 ∧ (∀ a, zo_keep a → h'.1 a = h.1 a) ∧ ∀ k, zo_ks k → h'.1 133 k = h.1 133 k
theorem zo_fr.rf (h : zm_M) : zo_fr h h := ⟨rfl, fun _ _ => rfl, fun _ _ => rfl⟩
theorem zo_fr.tr {h h' h'' : zm_M} (a : zo_fr h h') (b : zo_fr h' h'') : zo_fr h h'' := ⟨b.1.trans a.1, fun x hx => (b.2.1 x hx).trans (a.2.1 x hx), fun x hx => (b.2.2 x hx).trans (a.2.2 x hx)⟩
theorem zo_fr.of {h h' : zm_M} (e1 : h'.2 = h.2) (e2 : ∀ a, (a < 154 ∨ 168 < a) → h'.1 a = h.1 a) : zo_fr h h' := ⟨e1, fun a ha => e2 a (by unfold zo_keep at ha; omega), fun k _ => by rw [e2 133 (by omega)]⟩
theorem zo_F_fr {h h' : zm_M} {F : zs_F} (hf : zo_fr h h') (hF : zo_F h.1 F) : zo_F h'.1 F := by
  unfold zo_F
  rw [hf.2.2 1 (by unfold zo_ks; omega), hf.2.1 134 (by unfold zo_keep; omega)]
  exact hF
theorem zO_fr {h h' : zm_M} {F : zs_F} {sp : Nat → Nat} {U : zs_U} {Q : zs_Q} (hf : zo_fr h h') (hO : zO h F sp U Q) : zO h' F sp U Q := by
  obtain ⟨o1, ⟨o2, o2w⟩, ⟨o3, o3w⟩, ⟨o4, o4w⟩, o5, o6⟩ := hO
  refine ⟨by rw [hf.1]; exact o1, ⟨zo_F_fr hf o2, o2w⟩, ⟨?_, o3w⟩, ⟨?_, o4w⟩, ?_, o6⟩
  · unfold zo_S
    rw [hf.2.1 136 (by unfold zo_keep; omega)]
    exact o3
  · unfold zo_U
    rw [hf.2.2 2 (by unfold zo_ks; omega), hf.2.1 135 (by unfold zo_keep; omega)]
    exact o4
  · unfold zo_Q
    rw [hf.2.2 36 (by unfold zo_ks; omega), hf.2.1 153 (by unfold zo_keep; omega)]
    exact o5
theorem zp_m2 {P : Nat → Nat → Option Nat} (hp : zp_mo P) : P 133 50 = some 166 ∧ P 133 51 = some 167 ∧ P 133 52 = some 168 := by
  refine ⟨?_, ?_, ?_⟩ <;> simp only [hp]
set_option maxHeartbeats 4000000 in
set_option maxRecDepth 100000 in
theorem k_Mo_levelOf {d : Nat} {T : zm_T} {h : zm_M} {R : zm_R} {n s : Nat} (hn : n < 27) (hs : s < 3) (hR : R (some (.inl (nI (n / 3 ^ (2 - s) % 3)))) h) : zm_C (d + 1) T m_Mo_levelOf [.inl (nI n), .inl (nI s)] h R := by
  refine st_Mo_levelOf [] 9 ?_
  simp only [↓zq, ↓reduceIte, zr_si2, zr_sr1, zr_cp2, zr_tl, zr_tn, shq, List.contains_nil, List.contains_cons, Nat.reduceBEq, Bool.false_or, Bool.or_false, Bool.true_or, Bool.false_eq_true, if_false, if_true, true_and, and_true, List.set_cons_zero, List.set_cons_succ, List.length_cons, List.length_nil, Nat.reduceAdd, Nat.reduceLeDiff, Nat.le_refl, Nat.zero_le, true_or, or_true, zn_cl, ↓jj_Mo_levelOf]
  have e : ∀ s, s < 3 → ∀ n, n < 27 → (¬ nI s = 0 → ¬ nI s = 1 → nI n - nI n / 3 * 3 = nI (n / 3 ^ (2 - s) % 3)) ∧ (nI s = 1 → nI n / 3 - nI n / 3 / 3 * 3 = nI (n / 3 ^ (2 - s) % 3)) ∧ (nI s = 0 → nI n / 9 = nI (n / 3 ^ (2 - s) % 3)) := by decide +kernel
  obtain ⟨e1, e2, e3⟩ := e s hs n hn
  exact ⟨fun q => ⟨fun q2 => ⟨by decide, by rw [e1 q q2]; exact hR⟩, fun q2 => ⟨by decide, by decide, by rw [e2 q2]; exact hR⟩⟩, fun q => ⟨by decide, by rw [e3 q]; exact hR⟩⟩
set_option maxHeartbeats 4000000 in
set_option maxRecDepth 100000 in
theorem k_Mo_isBelow {d : Nat} {T : zm_T} {h : zm_M} {R : zm_R} {nd ot : Nat} (h1 : nd < 27) (h2 : ot < 27) (hR : R (some (.inl (if zs_blw nd ot = true then 1 else 0))) h) : zm_C (d + 2) T m_Mo_isBelow [.inl (nI nd), .inl (nI ot)] h R := by
  have step : ∀ (s : Nat), s < 3 → (nd / 3 ^ (2 - s) % 3 < ot / 3 ^ (2 - s) % 3 → R (some (.inl 0)) h) → (¬ nd / 3 ^ (2 - s) % 3 < ot / 3 ^ (2 - s) % 3 → zm_W (zm_md m_Mo_isBelow) (d + 2) T R 2 [some (.inl (nI nd)), some (.inl (nI ot)), some (.inl (nI (s + 1)))] [] h) → zm_W (zm_md m_Mo_isBelow) (d + 2) T R 2 [some (.inl (nI nd)), some (.inl (nI ot)), some (.inl (nI s))] [] h := by
    intro s hs a1 a2
    refine zm_go g_Mo_isBelow [2] 30 (by decide +kernel) ok_Mo_isBelow _ rfl ?_
    simp only [↓zq, ↓reduceIte, zr_si2, zr_sr1, zr_cp2, zr_tl, zr_tn, shq, List.contains_nil, List.contains_cons, Nat.reduceBEq, Bool.false_or, Bool.or_false, Bool.true_or, Bool.false_eq_true, if_false, if_true, true_and, and_true, List.set_cons_zero, List.set_cons_succ, List.length_cons, List.length_nil, Nat.reduceAdd, Nat.reduceLeDiff, Nat.le_refl, Nat.zero_le, true_or, or_true, zn_cl, ↓jj_Mo_isBelow]
    refine ⟨fun z => absurd z (nI_ge (b := 3) hs (by decide)), fun _ => ?_⟩
    refine k_Mo_levelOf h1 hs ?_
    simp only [↓zq, ↓reduceIte, zr_si2, zr_sr1, zr_cp2, zr_tl, zr_tn, shq, List.contains_nil, List.contains_cons, Nat.reduceBEq, Bool.false_or, Bool.or_false, Bool.true_or, Bool.false_eq_true, if_false, if_true, true_and, and_true, List.set_cons_zero, List.set_cons_succ, List.length_cons, List.length_nil, Nat.reduceAdd, Nat.reduceLeDiff, Nat.le_refl, Nat.zero_le, true_or, or_true, zn_cl, ↓jj_Mo_isBelow]
    refine k_Mo_levelOf h2 hs ?_
    simp only [↓zq, ↓reduceIte, zr_si2, zr_sr1, zr_cp2, zr_tl, zr_tn, shq, List.contains_nil, List.contains_cons, Nat.reduceBEq, Bool.false_or, Bool.or_false, Bool.true_or, Bool.false_eq_true, if_false, if_true, true_and, and_true, List.set_cons_zero, List.set_cons_succ, List.length_cons, List.length_nil, Nat.reduceAdd, Nat.reduceLeDiff, Nat.le_refl, Nat.zero_le, true_or, or_true, zn_cl, ↓jj_Mo_isBelow, nI_1]
    rw [zn_le (by omega) (by omega)]
    exact ⟨fun z => a2 (by omega), fun z => a1 (by omega)⟩
  have eb : zs_blw nd ot = true ↔ ot / 9 % 3 ≤ nd / 9 % 3 ∧ ot / 3 % 3 ≤ nd / 3 % 3 ∧ ot % 3 ≤ nd % 3 := by
    unfold zs_blw
    simp only [Bool.and_eq_true, decide_eq_true_eq, and_assoc]
  refine st_Mo_isBelow [2] 9 ?_
  simp only [↓zq, ↓reduceIte, zr_si2, zr_sr1, zr_cp2, zr_tl, zr_tn, shq, List.contains_nil, List.contains_cons, Nat.reduceBEq, Bool.false_or, Bool.or_false, Bool.true_or, Bool.false_eq_true, if_false, if_true, true_and, and_true, List.set_cons_zero, List.set_cons_succ, List.length_cons, List.length_nil, Nat.reduceAdd, Nat.reduceLeDiff, Nat.le_refl, Nat.zero_le, true_or, or_true, zn_cl, ↓jj_Mo_isBelow]
  refine step 0 (by decide) (fun z => ?_) (fun z0 => step 1 (by decide) (fun z => ?_) (fun z1 => step 2 (by decide) (fun z => ?_) (fun z2 => ?_)))
  · rw [if_neg (by rw [eb]; simp at z; omega)] at hR; exact hR
  · rw [if_neg (by rw [eb]; simp at z; omega)] at hR; exact hR
  · rw [if_neg (by rw [eb]; simp at z; omega)] at hR; exact hR
  · rw [if_pos (by rw [eb]; simp at z0 z1 z2; omega)] at hR
    refine zm_go g_Mo_isBelow [2] 30 (by decide +kernel) ok_Mo_isBelow _ rfl ?_
    simp only [↓zq, ↓reduceIte, zr_si2, zr_sr1, zr_cp2, zr_tl, zr_tn, shq, List.contains_nil, List.contains_cons, Nat.reduceBEq, Bool.false_or, Bool.or_false, Bool.true_or, Bool.false_eq_true, if_false, if_true, true_and, and_true, List.set_cons_zero, List.set_cons_succ, List.length_cons, List.length_nil, Nat.reduceAdd, Nat.reduceLeDiff, Nat.le_refl, Nat.zero_le, true_or, or_true, zn_cl, ↓jj_Mo_isBelow]
    exact ⟨fun _ => hR, fun z => absurd (by decide) z⟩
theorem zs_tab_gn {sp : Nat → Nat} {F : zs_F} (nd : Nat) : zs_some (fun k => (zs_tal sp (zs_nr nd) F 0 F.1 zs_t0 k).1) 512 = zs_gn sp F nd := by
  refine zs_some_congr 512 (fun k _ => ?_)
  rw [zs_tal_cnt]
  simp [zs_t0]
set_option maxHeartbeats 4000000 in
set_option maxRecDepth 100000 in
theorem k_Mo_groupsBy {d : Nat} {h : zm_M} {R : zm_R} {F : zs_F} {sp : Nat → Nat} {U : zs_U} {Q : zs_Q} {nd : Nat} (hO : zO h F sp U Q) (hnd : nd < 27) (hR : ∀ h' : zm_M, h'.2 = h.2 → (∀ a, (a < 154 ∨ 157 < a ∧ a ≠ 166) → h'.1 a = h.1 a) → R (some (.inl (nI (zs_gn sp F nd)))) h') : zm_C (d + 4) TT m_Mo_groupsBy [.inr (some 133), .inl (nI nd)] h R := by
  obtain ⟨o1, ⟨o2, o2w⟩, ⟨o3, o3w⟩, ⟨o4, o4w⟩, o5, o6⟩ := id hO
  have hw1 := o2w.1
  obtain ⟨p50, p51, p52⟩ := zp_m2 o1
  have tail : ∀ g : zm_M, g.2 = h.2 → (∀ a, a ≠ 166 → g.1 a = h.1 a) → (∀ k, k < 6 → g.1 166 k = nI (zs_nr nd k)) → ∀ o, zm_W (zm_md m_Mo_groupsBy) (d + 4) TT R 35 [some (.inr (some 133)), some (.inl (nI nd)), o] [] g := by
    intro g e1 e2 e3 o
    refine zm_go g_Mo_groupsBy [2] 30 (by decide +kernel) ok_Mo_groupsBy _ rfl ?_
    simp only [↓zq, ↓reduceIte, zr_si2, zr_sr1, zr_cp2, zr_tl, zr_tn, shq, List.contains_nil, List.contains_cons, Nat.reduceBEq, Bool.false_or, Bool.or_false, Bool.true_or, Bool.false_eq_true, if_false, if_true, true_and, and_true, List.set_cons_zero, List.set_cons_succ, List.length_cons, List.length_nil, Nat.reduceAdd, Nat.reduceLeDiff, Nat.le_refl, Nat.zero_le, true_or, or_true, zn_cl, ↓jj_Mo_groupsBy]
    refine k_Mo_clears (by rw [e1]; exact o1) (fun g1 f1 f2 => ?_)
    have q50 : g1.2 133 50 = some 166 := by rw [f1.1, e1]; exact p50
    have fm : g1.1 133 1 = nI F.1 := by rw [f1.2 133 (by omega), e2 133 (by decide)]; exact o2.1
    simp only [↓zq, ↓reduceIte, zr_si2, zr_sr1, zr_cp2, zr_tl, zr_tn, shq, List.contains_nil, List.contains_cons, Nat.reduceBEq, Bool.false_or, Bool.or_false, Bool.true_or, Bool.false_eq_true, if_false, if_true, true_and, and_true, List.set_cons_zero, List.set_cons_succ, List.length_cons, List.length_nil, Nat.reduceAdd, Nat.reduceLeDiff, Nat.le_refl, Nat.zero_le, true_or, or_true, zn_cl, ↓jj_Mo_groupsBy, q50, fm]
    rw [show nI F.1 = nI (0 + F.1) by rw [Nat.zero_add], show (0 : Int32) = nI 0 from rfl]
    refine k_Mo_addsFacts (F := F) (B := 0) (sp := sp) (row := zs_nr nd) (tab := zs_t0) (by rw [f1.1, e1]; exact o1) ?_ o2w (by omega) f2 (zw_T_0 0) (by omega) (by decide) ⟨6, rfl, by decide, by decide, fun k hk => ?_⟩ (zw_R_nr hnd) ?_ o3w (fun g2 t1 t2 => ?_)
    · unfold zo_F
      rw [f1.2 133 (by omega), e2 133 (by decide), f1.2 134 (by omega), e2 134 (by decide)]
      exact o2
    · rw [f1.2 166 (by omega), Nat.zero_add]
      exact e3 k hk
    · unfold zo_S
      rw [f1.2 136 (by omega), e2 136 (by decide)]
      exact o3
    · simp only [↓zq, ↓reduceIte, zr_si2, zr_sr1, zr_cp2, zr_tl, zr_tn, shq, List.contains_nil, List.contains_cons, Nat.reduceBEq, Bool.false_or, Bool.or_false, Bool.true_or, Bool.false_eq_true, if_false, if_true, true_and, and_true, List.set_cons_zero, List.set_cons_succ, List.length_cons, List.length_nil, Nat.reduceAdd, Nat.reduceLeDiff, Nat.le_refl, Nat.zero_le, true_or, or_true, zn_cl, ↓jj_Mo_groupsBy]
      have wT : zw_T (0 + F.1) (zs_tal sp (zs_nr nd) F 0 F.1 zs_t0) := zw_T_tal (lo := 0) o2w (zw_T_0 0) F.1 (by omega)
      refine k_Mo_groupsThere (by rw [t1.1, f1.1, e1]; exact o1) t2 wT (by omega) ?_
      rw [zs_tab_gn]
      simp only [↓zq, ↓reduceIte, zr_si2, zr_sr1, zr_cp2, zr_tl, zr_tn, shq, List.contains_nil, List.contains_cons, Nat.reduceBEq, Bool.false_or, Bool.or_false, Bool.true_or, Bool.false_eq_true, if_false, if_true, true_and, and_true, List.set_cons_zero, List.set_cons_succ, List.length_cons, List.length_nil, Nat.reduceAdd, Nat.reduceLeDiff, Nat.le_refl, Nat.zero_le, true_or, or_true, zn_cl, ↓jj_Mo_groupsBy]
      refine hR g2 (t1.1.trans (f1.1.trans e1)) (fun a ha => ?_)
      rw [t1.2 a (by omega), f1.2 a (by omega), e2 a (by omega)]
  have step : ∀ (s : Nat), s < 3 → ∀ g : zm_M, g.2 = h.2 → (∀ g' : zm_M, g'.2 = h.2 → (∀ a, a ≠ 166 → g'.1 a = g.1 a) → g'.1 166 s = nI (zs_nr nd s) → g'.1 166 (3 + s) = 255 → (∀ k, k ≠ s → k ≠ 3 + s → g'.1 166 k = g.1 166 k) → zm_W (zm_md m_Mo_groupsBy) (d + 4) TT R 2 [some (.inr (some 133)), some (.inl (nI nd)), some (.inl (nI (s + 1)))] [] g') → zm_W (zm_md m_Mo_groupsBy) (d + 4) TT R 2 [some (.inr (some 133)), some (.inl (nI nd)), some (.inl (nI s))] [] g := by
    intro s hs g e1 nx
    have q50 : g.2 133 50 = some 166 := by rw [e1]; exact p50
    have v1 : vp_in (nI s) 6 := vp_in_nI (by omega) (by decide)
    have c1 := nI_clamp (show s < 2 ^ 31 by omega)
    have v2 : vp_in (nI (3 + s)) 6 := vp_in_nI (by omega) (by decide)
    have c2 := nI_clamp (show 3 + s < 2 ^ 31 by omega)
    have e3 : (3 : Int32) + nI s = nI (3 + s) := by rw [show (3 : Int32) = nI 3 from rfl, nI_add]
    refine zm_go g_Mo_groupsBy [2, 35] 30 (by decide +kernel) ok_Mo_groupsBy _ rfl ?_
    simp only [↓zq, ↓reduceIte, zr_si2, zr_sr1, zr_cp2, zr_tl, zr_tn, shq, List.contains_nil, List.contains_cons, Nat.reduceBEq, Bool.false_or, Bool.or_false, Bool.true_or, Bool.false_eq_true, if_false, if_true, true_and, and_true, List.set_cons_zero, List.set_cons_succ, List.length_cons, List.length_nil, Nat.reduceAdd, Nat.reduceLeDiff, Nat.le_refl, Nat.zero_le, true_or, or_true, zn_cl, ↓jj_Mo_groupsBy, q50, v1, c1]
    refine ⟨fun z => absurd z (nI_ge (b := 3) hs (by decide)), fun _ => ?_⟩
    refine k_Mo_levelOf hnd hs ?_
    simp only [↓zq, ↓reduceIte, zr_si2, zr_sr1, zr_cp2, zr_tl, zr_tn, shq, List.contains_nil, List.contains_cons, Nat.reduceBEq, Bool.false_or, Bool.or_false, Bool.true_or, Bool.false_eq_true, if_false, if_true, true_and, and_true, List.set_cons_zero, List.set_cons_succ, List.length_cons, List.length_nil, Nat.reduceAdd, Nat.reduceLeDiff, Nat.le_refl, Nat.zero_le, true_or, or_true, zn_cl, ↓jj_Mo_groupsBy, q50, v1, c1, v2, c2, e3, nI_1]
    refine nx _ (by exact e1) (fun a ha => ?_) ?_ ?_ (fun k a1 a2 => ?_)
    · funext j
      simp only [zr_si1]
      rw [if_neg (by omega), if_neg (by omega)]
    · simp only [zr_si1]
      rw [if_neg (by omega), if_pos ⟨trivial, trivial⟩]
      unfold zs_nr
      rw [if_pos hs]
    · simp [zr_si1]
    · simp only [zr_si1]
      rw [if_neg (by omega), if_neg (by omega)]
  refine st_Mo_groupsBy [2] 9 ?_
  simp only [↓zq, ↓reduceIte, zr_si2, zr_sr1, zr_cp2, zr_tl, zr_tn, shq, List.contains_nil, List.contains_cons, Nat.reduceBEq, Bool.false_or, Bool.or_false, Bool.true_or, Bool.false_eq_true, if_false, if_true, true_and, and_true, List.set_cons_zero, List.set_cons_succ, List.length_cons, List.length_nil, Nat.reduceAdd, Nat.reduceLeDiff, Nat.le_refl, Nat.zero_le, true_or, or_true, zn_cl, ↓jj_Mo_groupsBy]
  refine step 0 (by decide) h rfl (fun g0 a1 a2 a3 a4 a5 => step 1 (by decide) g0 a1 (fun g1 b1 b2 b3 b4 b5 => step 2 (by decide) g1 b1 (fun g2 c1 c2 c3 c4 c5 => ?_)))
  refine zm_go g_Mo_groupsBy [2, 35] 30 (by decide +kernel) ok_Mo_groupsBy _ rfl ?_
  simp only [↓zq, ↓reduceIte, zr_si2, zr_sr1, zr_cp2, zr_tl, zr_tn, shq, List.contains_nil, List.contains_cons, Nat.reduceBEq, Bool.false_or, Bool.or_false, Bool.true_or, Bool.false_eq_true, if_false, if_true, true_and, and_true, List.set_cons_zero, List.set_cons_succ, List.length_cons, List.length_nil, Nat.reduceAdd, Nat.reduceLeDiff, Nat.le_refl, Nat.zero_le, true_or, or_true, zn_cl, ↓jj_Mo_groupsBy]
  refine ⟨fun _ => tail g2 c1 (fun a ha => (c2 a ha).trans ((b2 a ha).trans (a2 a ha))) (fun k hk => ?_) _, fun z => absurd (by decide) z⟩
  rcases (show k = 0 ∨ k = 1 ∨ k = 2 ∨ k = 3 ∨ k = 4 ∨ k = 5 by omega) with rfl | rfl | rfl | rfl | rfl | rfl
  · rw [c5 0 (by decide) (by decide), b5 0 (by decide) (by decide)]; exact a3
  · rw [c5 1 (by decide) (by decide)]; exact b3
  · exact c3
  · rw [c5 3 (by decide) (by decide), b5 3 (by decide) (by decide)]; exact a4
  · rw [c5 4 (by decide) (by decide)]; exact b4
  · exact c4
set_option maxHeartbeats 4000000 in
set_option maxRecDepth 100000 in
theorem k_Mo_laysLattice {d : Nat} {h : zm_M} {R : zm_R} {F : zs_F} {sp : Nat → Nat} {U : zs_U} {Q : zs_Q} (hO : zO h F sp U Q) (hR : ∀ h' : zm_M, zo_fr h h' → (∀ nd, nd < 27 → h'.1 167 nd = nI (zs_gn sp F nd)) → R none h') : zm_C (d + 5) TT m_Mo_laysLattice [.inr (some 133)] h R := by
  obtain ⟨p50, p51, p52⟩ := zp_m2 hO.1
  have loop : ∀ (n i : Nat), i + n = 27 → ∀ g : zm_M, g.2 = h.2 → (∀ a, (a < 154 ∨ 168 < a) → g.1 a = h.1 a) → (∀ nd, nd < i → g.1 167 nd = nI (zs_gn sp F nd)) → zm_W (zm_md m_Mo_laysLattice) (d + 5) TT R 2 [some (.inr (some 133)), some (.inl (nI i))] [] g := by
    intro n
    induction n with
    | zero =>
      intro i hi g e1 e2 e3
      have : i = 27 := by omega
      subst this
      refine zm_go g_Mo_laysLattice [2] 30 (by decide +kernel) ok_Mo_laysLattice _ rfl ?_
      simp only [↓zq, ↓reduceIte, zr_si2, zr_sr1, zr_cp2, zr_tl, zr_tn, shq, List.contains_nil, List.contains_cons, Nat.reduceBEq, Bool.false_or, Bool.or_false, Bool.true_or, Bool.false_eq_true, if_false, if_true, true_and, and_true, List.set_cons_zero, List.set_cons_succ, List.length_cons, List.length_nil, Nat.reduceAdd, Nat.reduceLeDiff, Nat.le_refl, Nat.zero_le, true_or, or_true, zn_cl, ↓jj_Mo_laysLattice]
      exact ⟨fun _ => hR g (zo_fr.of e1 e2) e3, fun z => absurd (Int32.le_refl _) z⟩
    | succ n ih =>
      intro i hi g e1 e2 e3
      have ih := ih (i + 1) (by omega)
      have q51 : g.2 133 51 = some 167 := by rw [e1]; exact p51
      have v1 : vp_in (nI i) 27 := vp_in_nI (by omega) (by decide)
      have c1 := nI_clamp (show i < 2 ^ 31 by omega)
      refine zm_go g_Mo_laysLattice [2] 30 (by decide +kernel) ok_Mo_laysLattice _ rfl ?_
      simp only [↓zq, ↓reduceIte, zr_si2, zr_sr1, zr_cp2, zr_tl, zr_tn, shq, List.contains_nil, List.contains_cons, Nat.reduceBEq, Bool.false_or, Bool.or_false, Bool.true_or, Bool.false_eq_true, if_false, if_true, true_and, and_true, List.set_cons_zero, List.set_cons_succ, List.length_cons, List.length_nil, Nat.reduceAdd, Nat.reduceLeDiff, Nat.le_refl, Nat.zero_le, true_or, or_true, zn_cl, ↓jj_Mo_laysLattice, q51]
      refine ⟨fun z => absurd z (nI_ge (b := 27) (by omega) (by decide)), fun _ => ?_⟩
      refine k_Mo_groupsBy (zO_fr (zo_fr.of e1 e2) hO) (by omega) (fun g' f1 f2 => ?_)
      simp only [↓zq, ↓reduceIte, zr_si2, zr_sr1, zr_cp2, zr_tl, zr_tn, shq, List.contains_nil, List.contains_cons, Nat.reduceBEq, Bool.false_or, Bool.or_false, Bool.true_or, Bool.false_eq_true, if_false, if_true, true_and, and_true, List.set_cons_zero, List.set_cons_succ, List.length_cons, List.length_nil, Nat.reduceAdd, Nat.reduceLeDiff, Nat.le_refl, Nat.zero_le, true_or, or_true, zn_cl, ↓jj_Mo_laysLattice, v1, c1, nI_1]
      refine ih _ (f1.trans e1) (fun a ha => ?_) (fun nd hnd => ?_)
      · funext j
        simp only [zr_si1]
        rw [if_neg (by omega), f2 a (by omega), e2 a ha]
      · simp only [zr_si1]
        by_cases e : nd = i
        · rw [if_pos ⟨trivial, e⟩, e]
        · rw [if_neg (by omega), f2 167 (by decide)]
          exact e3 nd (by omega)
  refine st_Mo_laysLattice [2] 9 ?_
  simp only [↓zq, ↓reduceIte, zr_si2, zr_sr1, zr_cp2, zr_tl, zr_tn, shq, List.contains_nil, List.contains_cons, Nat.reduceBEq, Bool.false_or, Bool.or_false, Bool.true_or, Bool.false_eq_true, if_false, if_true, true_and, and_true, List.set_cons_zero, List.set_cons_succ, List.length_cons, List.length_nil, Nat.reduceAdd, Nat.reduceLeDiff, Nat.le_refl, Nat.zero_le, true_or, or_true, zn_cl, ↓jj_Mo_laysLattice]
  exact loop 27 0 rfl h rfl (fun _ _ => rfl) (fun nd hnd => absurd hnd (Nat.not_lt_zero nd))
set_option maxHeartbeats 4000000 in
set_option maxRecDepth 100000 in
theorem k_Mo_hasN {d : Nat} {T : zm_T} {h : zm_M} {R : zm_R} {x v : Nat} (hx : x < 2 ^ 31) (hv : v < 32) (hR : R (some (.inl (if x.testBit v = true then 1 else 0))) h) : zm_C (d + 1) T m_Mo_has [.inl (nI x), .inl (nI v)] h R := by
  refine st_Mo_has [] 9 ?_
  simp only [↓zq, ↓reduceIte, zr_si2, zr_sr1, zr_cp2, zr_tl, zr_tn, shq, List.contains_nil, List.contains_cons, Nat.reduceBEq, Bool.false_or, Bool.or_false, Bool.true_or, Bool.false_eq_true, if_false, if_true, true_and, and_true, List.set_cons_zero, List.set_cons_succ, List.length_cons, List.length_nil, Nat.reduceAdd, Nat.reduceLeDiff, Nat.le_refl, Nat.zero_le, true_or, or_true, zn_cl, ↓jj_Mo_has]
  rw [zn_bitM hx hv]
  refine ⟨fun z => ?_, fun z => ?_⟩
  · rw [if_neg z] at hR; exact hR
  · rw [if_pos z] at hR; exact hR
set_option maxHeartbeats 4000000 in
set_option maxRecDepth 100000 in
theorem k_Mo_priceBy {d : Nat} {h : zm_M} {R : zm_R} {x n : Nat} {G : Nat → Nat} (hp : zp_mo h.2) (hx : x < 2 ^ 27) (hn : h.1 133 1 = nI n) (hn2 : n ≤ 512) (hG : ∀ nd, nd < 27 → h.1 167 nd = nI (G nd)) (hG2 : ∀ nd, G nd ≤ 512) (hR : R (some (.inl (nI (zs_prc G n x)))) h) : zm_C (d + 3) TT m_Mo_priceBy [.inr (some 133), .inl (nI x)] h R := by
  obtain ⟨p50, p51, p52⟩ := zp_m2 hp
  have lle : ∀ nd t, zs_lst G n x nd t ≤ 512 := fun nd t => Nat.le_trans (zs_lst_le G n x nd t) hn2
  have loopI : ∀ (m t nd : Nat), t + m = 27 → nd < 27 → (∀ o, zm_W (zm_md m_Mo_priceBy) (d + 3) TT R 4 [some (.inr (some 133)), some (.inl (nI x)), some (.inl (nI (zs_cum (fun nd => zs_lst G n x nd 27) (nd + 1)))), some (.inl (nI (nd + 1))), some (.inl (nI (zs_lst G n x nd 27))), o] [] h) → zm_W (zm_md m_Mo_priceBy) (d + 3) TT R 19 [some (.inr (some 133)), some (.inl (nI x)), some (.inl (nI (zs_cum (fun nd => zs_lst G n x nd 27) nd))), some (.inl (nI nd)), some (.inl (nI (zs_lst G n x nd t))), some (.inl (nI t))] [] h := by
    intro m
    induction m with
    | zero =>
      intro t nd ht hnd nx
      have : t = 27 := by omega
      subst this
      rw [zs_cum] at nx
      refine zm_go g_Mo_priceBy [4, 19] 30 (by decide +kernel) ok_Mo_priceBy _ rfl ?_
      simp only [↓zq, ↓reduceIte, zr_si2, zr_sr1, zr_cp2, zr_tl, zr_tn, shq, List.contains_nil, List.contains_cons, Nat.reduceBEq, Bool.false_or, Bool.or_false, Bool.true_or, Bool.false_eq_true, if_false, if_true, true_and, and_true, List.set_cons_zero, List.set_cons_succ, List.length_cons, List.length_nil, Nat.reduceAdd, Nat.reduceLeDiff, Nat.le_refl, Nat.zero_le, true_or, or_true, zn_cl, ↓jj_Mo_priceBy, nI_add, nI_1]
      exact ⟨fun _ => nx _, fun z => absurd (Int32.le_refl _) z⟩
    | succ m ih =>
      intro t nd ht hnd nx
      have ih := ih (t + 1) nd (by omega) hnd nx
      rw [zs_lst] at ih
      have v1 : vp_in (nI t) 27 := vp_in_nI (by omega) (by decide)
      have c1 := nI_clamp (show t < 2 ^ 31 by omega)
      have g1 := hG t (by omega)
      have l1 := lle nd t
      have l2 := hG2 t
      refine zm_go g_Mo_priceBy [4, 19] 30 (by decide +kernel) ok_Mo_priceBy _ rfl ?_
      simp only [↓zq, ↓reduceIte, zr_si2, zr_sr1, zr_cp2, zr_tl, zr_tn, shq, List.contains_nil, List.contains_cons, Nat.reduceBEq, Bool.false_or, Bool.or_false, Bool.true_or, Bool.false_eq_true, if_false, if_true, true_and, and_true, List.set_cons_zero, List.set_cons_succ, List.length_cons, List.length_nil, Nat.reduceAdd, Nat.reduceLeDiff, Nat.le_refl, Nat.zero_le, true_or, or_true, zn_cl, ↓jj_Mo_priceBy]
      refine ⟨fun z => absurd z (nI_ge (b := 27) (by omega) (by decide)), fun _ => ?_⟩
      refine k_Mo_hasN (by omega) (by omega) ?_
      simp only [↓zq, ↓reduceIte, zr_si2, zr_sr1, zr_cp2, zr_tl, zr_tn, shq, List.contains_nil, List.contains_cons, Nat.reduceBEq, Bool.false_or, Bool.or_false, Bool.true_or, Bool.false_eq_true, if_false, if_true, true_and, and_true, List.set_cons_zero, List.set_cons_succ, List.length_cons, List.length_nil, Nat.reduceAdd, Nat.reduceLeDiff, Nat.le_refl, Nat.zero_le, true_or, or_true, zn_cl, ↓jj_Mo_priceBy, nI_1]
      cases e1 : x.testBit t
      · rw [e1] at ih
        simp only [Bool.false_eq_true, false_and, if_false] at ih ⊢
        exact ⟨fun _ => ih, fun z => absurd trivial z⟩
      · rw [e1] at ih
        simp only [true_and, if_true] at ih ⊢
        refine ⟨fun z => absurd z (by decide), fun _ => ?_⟩
        refine k_Mo_isBelow hnd (by omega) ?_
        simp only [↓zq, ↓reduceIte, zr_si2, zr_sr1, zr_cp2, zr_tl, zr_tn, shq, List.contains_nil, List.contains_cons, Nat.reduceBEq, Bool.false_or, Bool.or_false, Bool.true_or, Bool.false_eq_true, if_false, if_true, true_and, and_true, List.set_cons_zero, List.set_cons_succ, List.length_cons, List.length_nil, Nat.reduceAdd, Nat.reduceLeDiff, Nat.le_refl, Nat.zero_le, true_or, or_true, zn_cl, ↓jj_Mo_priceBy, p51, v1, c1, g1, nI_1]
        cases e2 : zs_blw nd t
        · rw [e2] at ih
          simp only [Bool.false_eq_true, if_false] at ih ⊢
          exact ⟨fun _ => ih, fun z => absurd trivial z⟩
        · rw [e2] at ih
          simp only [if_true] at ih ⊢
          refine ⟨fun z => absurd z (by decide), fun _ => ?_⟩
          refine k_Mo_min (fun z => ?_) (fun z => ?_)
          · rw [zn_le (by omega) (by omega)] at z
            rw [Nat.min_eq_right z] at ih
            simp only [↓zq, ↓reduceIte, zr_si2, zr_sr1, zr_cp2, zr_tl, zr_tn, shq, List.contains_nil, List.contains_cons, Nat.reduceBEq, Bool.false_or, Bool.or_false, Bool.true_or, Bool.false_eq_true, if_false, if_true, true_and, and_true, List.set_cons_zero, List.set_cons_succ, List.length_cons, List.length_nil, Nat.reduceAdd, Nat.reduceLeDiff, Nat.le_refl, Nat.zero_le, true_or, or_true, zn_cl, ↓jj_Mo_priceBy, nI_1]
            exact ih
          · rw [zn_le (by omega) (by omega)] at z
            rw [Nat.min_eq_left (by omega)] at ih
            simp only [↓zq, ↓reduceIte, zr_si2, zr_sr1, zr_cp2, zr_tl, zr_tn, shq, List.contains_nil, List.contains_cons, Nat.reduceBEq, Bool.false_or, Bool.or_false, Bool.true_or, Bool.false_eq_true, if_false, if_true, true_and, and_true, List.set_cons_zero, List.set_cons_succ, List.length_cons, List.length_nil, Nat.reduceAdd, Nat.reduceLeDiff, Nat.le_refl, Nat.zero_le, true_or, or_true, zn_cl, ↓jj_Mo_priceBy, nI_1]
            exact ih
  have loopO : ∀ (m nd : Nat), nd + m = 27 → ∀ o1 o2, zm_W (zm_md m_Mo_priceBy) (d + 3) TT R 4 [some (.inr (some 133)), some (.inl (nI x)), some (.inl (nI (zs_cum (fun nd => zs_lst G n x nd 27) nd))), some (.inl (nI nd)), o1, o2] [] h := by
    intro m
    induction m with
    | zero =>
      intro nd hnd o1 o2
      have : nd = 27 := by omega
      subst this
      unfold zs_prc at hR
      generalize zs_cum (fun nd => zs_lst G n x nd 27) 27 = y at hR ⊢
      refine zm_go g_Mo_priceBy [4, 19] 30 (by decide +kernel) ok_Mo_priceBy _ rfl ?_
      simp only [↓zq, ↓reduceIte, zr_si2, zr_sr1, zr_cp2, zr_tl, zr_tn, shq, List.contains_nil, List.contains_cons, Nat.reduceBEq, Bool.false_or, Bool.or_false, Bool.true_or, Bool.false_eq_true, if_false, if_true, true_and, and_true, List.set_cons_zero, List.set_cons_succ, List.length_cons, List.length_nil, Nat.reduceAdd, Nat.reduceLeDiff, Nat.le_refl, Nat.zero_le, true_or, or_true, zn_cl, ↓jj_Mo_priceBy]
      exact ⟨fun _ => hR, fun z => absurd (Int32.le_refl _) z⟩
    | succ m ih =>
      intro nd hnd o1 o2
      have ih := ih (nd + 1) (by omega)
      refine zm_go g_Mo_priceBy [4, 19] 30 (by decide +kernel) ok_Mo_priceBy _ rfl ?_
      simp only [↓zq, ↓reduceIte, zr_si2, zr_sr1, zr_cp2, zr_tl, zr_tn, shq, List.contains_nil, List.contains_cons, Nat.reduceBEq, Bool.false_or, Bool.or_false, Bool.true_or, Bool.false_eq_true, if_false, if_true, true_and, and_true, List.set_cons_zero, List.set_cons_succ, List.length_cons, List.length_nil, Nat.reduceAdd, Nat.reduceLeDiff, Nat.le_refl, Nat.zero_le, true_or, or_true, zn_cl, ↓jj_Mo_priceBy, hn]
      refine ⟨fun z => absurd z (nI_ge (b := 27) (by omega) (by decide)), fun _ => ?_⟩
      exact loopI 27 0 nd rfl (by omega) (fun o => ih _ o)
  refine st_Mo_priceBy [4, 19] 9 ?_
  simp only [↓zq, ↓reduceIte, zr_si2, zr_sr1, zr_cp2, zr_tl, zr_tn, shq, List.contains_nil, List.contains_cons, Nat.reduceBEq, Bool.false_or, Bool.or_false, Bool.true_or, Bool.false_eq_true, if_false, if_true, true_and, and_true, List.set_cons_zero, List.set_cons_succ, List.length_cons, List.length_nil, Nat.reduceAdd, Nat.reduceLeDiff, Nat.le_refl, Nat.zero_le, true_or, or_true, zn_cl, ↓jj_Mo_priceBy]
  exact loopO 27 0 rfl none none
