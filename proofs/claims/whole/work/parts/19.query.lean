/-! what the class answers of questions: the state as queries see it -/
def zc_sc (a : Nat) : Prop := (33 ≤ a ∧ a ≤ 35) ∨ (73 ≤ a ∧ a ≤ 98 ∧ a ≠ 93)
def zC (h : zm_M) (pi : Nat → Nat) (F : zs_F) (sp : Nat → Nat) (U : zs_U) (Q : zs_Q) : Prop := zp_ok h.2 ∧ zc_P h.2 pi ∧ (zc_F h.1 F ∧ zw_F F) ∧ (zc_S h.1 sp ∧ zw_S sp) ∧ (zc_U h.1 sp F 36 (fun s => 38 + 4 * pi s) U ∧ zw_U F.1 U) ∧ zc_Q h.1 Q ∧ zw_Q Q
/-- nothing but scratch has changed -/
def zc_fr (h h' : zm_M) : Prop := h'.2 = h.2 ∧ ∀ a, ¬ zc_sc a → h'.1 a = h.1 a
theorem zc_fr.rf (h : zm_M) : zc_fr h h := ⟨rfl, fun _ _ => rfl⟩
theorem zc_fr.tr {h h' h'' : zm_M} (a : zc_fr h h') (b : zc_fr h' h'') : zc_fr h h'' := ⟨b.1.trans a.1, fun x hx => (b.2 x hx).trans (a.2 x hx)⟩
theorem zc_F_fr {h h' : zm_M} {F : zs_F} (hf : zc_fr h h') (hF : zc_F h.1 F) : zc_F h'.1 F := by
  unfold zc_F
  rw [hf.2 30 (by unfold zc_sc; omega), hf.2 31 (by unfold zc_sc; omega), hf.2 32 (by unfold zc_sc; omega)]
  exact hF
theorem zc_S_fr {h h' : zm_M} {sp : Nat → Nat} (hf : zc_fr h h') (hF : zc_S h.1 sp) : zc_S h'.1 sp := by
  unfold zc_S
  rw [hf.2 29 (by unfold zc_sc; omega)]
  exact hF
theorem zc_Y_fr {h h' : zm_M} {sp : Nat → Nat} {F : zs_F} {a : Nat} {row : Nat → Nat} (ha : (35 < a ∧ a < 70) ∨ 98 < a) (hf : zc_fr h h') (hY : zc_Y h.1 sp F a row) : zc_Y h'.1 sp F a row := by
  unfold zc_Y zc_R
  rw [hf.2 a (by unfold zc_sc; omega), hf.2 (a + 1) (by unfold zc_sc; omega), hf.2 (a + 1 + 1) (by unfold zc_sc; omega), hf.2 (a + 1 + 2) (by unfold zc_sc; omega)]
  exact hY
theorem zC_fr {h h' : zm_M} {pi : Nat → Nat} {F : zs_F} {sp : Nat → Nat} {U : zs_U} {Q : zs_Q} (hf : zc_fr h h') (hC : zC h pi F sp U Q) : zC h' pi F sp U Q := by
  obtain ⟨c1, c2, ⟨c3, c4⟩, ⟨c5, c6⟩, ⟨c7, c8⟩, c9, c10⟩ := hC
  refine ⟨by rw [hf.1]; exact c1, by rw [hf.1]; exact c2, ⟨zc_F_fr hf c3, c4⟩, ⟨zc_S_fr hf c5, c6⟩, ⟨⟨?_, fun s hs => zc_Y_fr ?_ hf (c7.2 s hs)⟩, c8⟩, ⟨?_, fun hq => ?_⟩, c10⟩
  · rw [hf.2 36 (by unfold zc_sc; omega)]
    exact c7.1
  · have := (c2.1 s (by have := c8.1; omega)).2
    dsimp only
    omega
  · rw [hf.2 0 (by unfold zc_sc; omega)]
    exact c9.1
  · obtain ⟨q1, q2⟩ := c9.2 hq
    refine ⟨zc_R_fr q1 (hf.2 _ (by unfold zc_sc; omega)) (hf.2 _ (by unfold zc_sc; omega)), ?_⟩
    rw [hf.2 70 (by unfold zc_sc; omega)]
    exact q2
theorem zk_cutQ {P : Nat → Nat → Option Nat} (hp : zp_ok P) : zk_cut P 70 := by
  refine ⟨rfl, rfl, rfl, ?_, ?_⟩ <;> simp only [hp]
theorem zk_shp28 {P : Nat → Nat → Option Nat} (hp : zp_ok P) : zk_shp P 28 := by
  refine ⟨rfl, rfl, ?_⟩ <;> simp only [hp]
theorem zk_tabs {P : Nat → Nat → Option Nat} (hp : zp_ok P) {t : Nat} (ht : t = 73 ∨ t = 79 ∨ t = 85) : zk_tab P t := by
  rcases ht with rfl | rfl | rfl <;> (refine ⟨rfl, rfl, rfl, rfl, rfl, rfl, ?_, ?_, ?_, ?_, ?_⟩ <;> simp only [hp])
/-- summaries of the shelf -/
def zk_sum (P : Nat → Nat → Option Nat) (a : Nat) : Prop := (zm_sh TT a).1 = 11 ∧ P a 0 = some (a + 1) ∧ zk_cut P (a + 1)
theorem zk_sums {P : Nat → Nat → Option Nat} (hp : zp_ok P) {i : Nat} (hi : i < 8) : zk_sum P (38 + 4 * i) := by
  rcases (show i = 0 ∨ i = 1 ∨ i = 2 ∨ i = 3 ∨ i = 4 ∨ i = 5 ∨ i = 6 ∨ i = 7 by omega) with rfl | rfl | rfl | rfl | rfl | rfl | rfl | rfl <;> (refine ⟨rfl, ?_, rfl, rfl, rfl, ?_, ?_⟩ <;> simp only [hp, Nat.reduceMul, Nat.reduceAdd])
theorem zk_sumsK {P : Nat → Nat → Option Nat} (hp : zp_ok P) {i : Nat} (hi : i < 8) : zk_sum P (101 + 4 * i) := by
  rcases (show i = 0 ∨ i = 1 ∨ i = 2 ∨ i = 3 ∨ i = 4 ∨ i = 5 ∨ i = 6 ∨ i = 7 by omega) with rfl | rfl | rfl | rfl | rfl | rfl | rfl | rfl <;> (refine ⟨rfl, ?_, rfl, rfl, rfl, ?_, ?_⟩ <;> simp only [hp, Nat.reduceMul, Nat.reduceAdd])
set_option maxHeartbeats 4000000 in
set_option maxRecDepth 100000 in
theorem k_Shelf_at {d : Nat} {h : zm_M} {R : zm_R} {pi : Nat → Nat} {F : zs_F} {sp : Nat → Nat} {U : zs_U} {Q : zs_Q} {i : Int32} (hC : zC h pi F sp U Q) (h1 : ∀ s : Nat, s < U.1 → i = nI s → R (some (.inr (some (38 + 4 * pi s)))) h) (h0 : (∀ s : Nat, s < U.1 → ¬ i = nI s) → R (some (.inr none)) h) : zm_C (d + 1) TT m_Shelf_at [.inr (some 36), .inl i] h R := by
  obtain ⟨c1, c2, c3, c4, ⟨c7, c8⟩, c9, c10⟩ := hC
  have p0 : h.2 36 0 = some 37 := by simp only [c1]
  refine st_Shelf_at [] 30 ?_
  have hs := c7.1
  have h8 := c8.1
  simp only [↓zq, ↓reduceIte, zr_si2, zr_sr1, zr_cp2, zr_tl, zr_tn, shq, List.contains_nil, List.contains_cons, Nat.reduceBEq, Bool.false_or, Bool.or_false, Bool.true_or, Bool.false_eq_true, if_false, if_true, true_and, and_true, List.set_cons_zero, List.set_cons_succ, List.length_cons, List.length_nil, Nat.reduceAdd, Nat.reduceLeDiff, Nat.le_refl, Nat.zero_le, true_or, or_true, zn_cl, ↓jj_Shelf_at, p0, hs]
  refine ⟨fun z => h0 (fun s hs e => ?_), fun z => ?_⟩
  · rw [e] at z
    exact absurd z (nI_pos (by omega))
  · obtain ⟨j, hj, rfl⟩ := nI_of z
    rw [zn_le (by omega) hj]
    refine ⟨fun z2 => h0 (fun s hs e => ?_), fun z2 => ⟨fun z3 => ?_, fun z3 => ⟨vp_in_nI (by omega) (by decide), ?_⟩⟩⟩
    · have := (nI_eq hj (by omega)).mp e
      omega
    · exact absurd z3 (nI_ge (b := 8) (by omega) (by decide))
    · rw [nI_clamp hj, (c2.1 j (by omega)).1]
      exact h1 j (by omega) rfl
theorem zs_grp_le (sp row : Nat → Nat) (F : zs_F) (u : Nat) : zs_grp sp row F u ≤ 512 := zs_some_le _ 512
/-- what a summary costs -/
def zs_cost (sp : Nat → Nat) (F : zs_F) (row : Nat → Nat) : Nat := zs_grp sp row F (row 7) + (F.1 - row 7)
set_option maxHeartbeats 4000000 in
set_option maxRecDepth 100000 in
theorem k_KS_costOf {d : Nat} {h : zm_M} {R : zm_R} {pi : Nat → Nat} {F : zs_F} {sp : Nat → Nat} {U : zs_U} {Q : zs_Q} {s : Nat} (hC : zC h pi F sp U Q) (hs : s < U.1) (hR : R (some (.inl (nI (zs_cost sp F (U.2 s))))) h) : zm_C (d + 1) TT m_KS_costOf [.inr (some 0), .inr (some (38 + 4 * pi s))] h R := by
  obtain ⟨c1, c2, ⟨c3, c3w⟩, c4, ⟨c7, c8⟩, c9, c10⟩ := hC
  have h8 := c8.1
  have hp := (c2.1 s (by omega)).2
  obtain ⟨k1, k2, k3⟩ := zk_sums c1 hp
  obtain ⟨y1, y2, y3, y4⟩ := c7.2 s hs
  obtain ⟨-, -, -, wu⟩ := c8.2 s hs
  have p5 : h.2 0 5 = some 30 := by simp only [c1]
  refine st_KS_costOf [] 30 ?_
  have f1 := c3.1
  dsimp only at y3 y4
  simp only [↓zq, ↓reduceIte, zr_si2, zr_sr1, zr_cp2, zr_tl, zr_tn, shq, List.contains_nil, List.contains_cons, Nat.reduceBEq, Bool.false_or, Bool.or_false, Bool.true_or, Bool.false_eq_true, if_false, if_true, true_and, and_true, List.set_cons_zero, List.set_cons_succ, List.length_cons, List.length_nil, Nat.reduceAdd, Nat.reduceLeDiff, Nat.le_refl, Nat.zero_le, true_or, or_true, zn_cl, ↓jj_KS_costOf, p5, k1, f1, y3, y4]
  rw [nI_add, pk_sub (by omega)]
  have := zs_grp_le sp (U.2 s) F (U.2 s 7)
  rw [show zs_grp sp (U.2 s) F (U.2 s 7) + F.1 - U.2 s 7 = zs_cost sp F (U.2 s) by unfold zs_cost; omega]
  exact hR
set_option maxHeartbeats 4000000 in
set_option maxRecDepth 100000 in
theorem k_KS_isCovering {d : Nat} {h : zm_M} {R : zm_R} {pi : Nat → Nat} {F : zs_F} {sp : Nat → Nat} {U : zs_U} {Q : zs_Q} {s : Nat} (hC : zC h pi F sp U Q) (hs : s < U.1) (hR : R (some (.inl (if Q.1 = true ∧ zs_cov sp (U.2 s) Q.2 = true then 1 else 0))) h) : zm_C (d + 6) TT m_KS_isCovering [.inr (some 0), .inr (some (38 + 4 * pi s))] h R := by
  obtain ⟨c1, c2, c3, ⟨c4, c4w⟩, ⟨c7, c8⟩, c9, c10⟩ := hC
  have h8 := c8.1
  have hp := (c2.1 s (by omega)).2
  obtain ⟨k1, k2, k3⟩ := zk_sums c1 hp
  obtain ⟨y1, y2, y3, y4⟩ := c7.2 s hs
  obtain ⟨wr, w1, w2, wu⟩ := c8.2 s hs
  have p4 : h.2 0 4 = some 28 := by simp only [c1]
  have p7 : h.2 0 7 = some 70 := by simp only [c1]
  have q1 := c9.1
  refine st_KS_isCovering [] 30 ?_
  simp only [↓zq, ↓reduceIte, zr_si2, zr_sr1, zr_cp2, zr_tl, zr_tn, shq, List.contains_nil, List.contains_cons, Nat.reduceBEq, Bool.false_or, Bool.or_false, Bool.true_or, Bool.false_eq_true, if_false, if_true, true_and, and_true, List.set_cons_zero, List.set_cons_succ, List.length_cons, List.length_nil, Nat.reduceAdd, Nat.reduceLeDiff, Nat.le_refl, Nat.zero_le, true_or, or_true, zn_cl, ↓jj_KS_isCovering, p4, p7, k1, k2, q1]
  cases hq : Q.1
  · simp only [hq, Bool.false_eq_true, false_and, if_false] at hR ⊢
    exact ⟨fun _ => hR, fun z => absurd trivial z⟩
  · simp only [hq, true_and, if_true] at hR ⊢
    refine ⟨fun z => absurd z (by decide), fun _ => ?_⟩
    obtain ⟨q2, q3⟩ := c9.2 hq
    obtain ⟨wq, wq2⟩ := c10 hq
    rw [q3]
    refine k_KS_partsFor wq2 ?_
    simp only [↓zq, ↓reduceIte, zr_si2, zr_sr1, zr_cp2, zr_tl, zr_tn, shq, List.contains_nil, List.contains_cons, Nat.reduceBEq, Bool.false_or, Bool.or_false, Bool.true_or, Bool.false_eq_true, if_false, if_true, true_and, and_true, List.set_cons_zero, List.set_cons_succ, List.length_cons, List.length_nil, Nat.reduceAdd, Nat.reduceLeDiff, Nat.le_refl, Nat.zero_le, true_or, or_true, zn_cl, ↓jj_KS_isCovering, p4, p7, k1, k2, q1]
    have hpf : ∀ w, w ≤ 6 → zs_pf w < 256 := by decide
    have hk3 := k3.1
    refine ⟨hk3, ?_⟩
    refine k_Cut_keepsAll (p := zs_pf (Q.2 6)) hk3 y2 (by omega) (hpf _ wq2) ?_
    simp only [↓zq, ↓reduceIte, zr_si2, zr_sr1, zr_cp2, zr_tl, zr_tn, shq, List.contains_nil, List.contains_cons, Nat.reduceBEq, Bool.false_or, Bool.or_false, Bool.true_or, Bool.false_eq_true, if_false, if_true, true_and, and_true, List.set_cons_zero, List.set_cons_succ, List.length_cons, List.length_nil, Nat.reduceAdd, Nat.reduceLeDiff, Nat.le_refl, Nat.zero_le, true_or, or_true, zn_cl, ↓jj_KS_isCovering, p4, p7, k1, k2, q1]
    unfold zs_cov at hR
    by_cases e : U.2 s 6 &&& zs_pf (Q.2 6) = zs_pf (Q.2 6)
    · simp only [e, decide_true, Bool.true_and, if_true] at hR ⊢
      refine ⟨fun z => absurd z (by decide), fun _ => ⟨hk3, ?_⟩⟩
      refine k_Cut_coversSides k3 y1 wr (zk_cutQ c1) q2 wq (zk_shp28 c1) c4 c4w ?_
      simp only [↓zq, ↓reduceIte, zr_si2, zr_sr1, zr_cp2, zr_tl, zr_tn, shq, List.contains_nil, List.contains_cons, Nat.reduceBEq, Bool.false_or, Bool.or_false, Bool.true_or, Bool.false_eq_true, if_false, if_true, true_and, and_true, List.set_cons_zero, List.set_cons_succ, List.length_cons, List.length_nil, Nat.reduceAdd, Nat.reduceLeDiff, Nat.le_refl, Nat.zero_le, true_or, or_true, zn_cl, ↓jj_KS_isCovering, p4, p7, k1, k2, q1]
      cases e2 : zs_covS sp (U.2 s) Q.2
      · simp only [e2, Bool.false_eq_true, if_false] at hR ⊢
        exact ⟨fun _ => hR, fun z => absurd trivial z⟩
      · simp only [e2, if_true] at hR ⊢
        exact ⟨fun z => absurd z (by decide), fun _ => hR⟩
    · simp only [e, decide_false, Bool.false_and, Bool.false_eq_true, if_false] at hR ⊢
      exact ⟨fun _ => hR, fun z => absurd trivial z⟩
