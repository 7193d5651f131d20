/-! public queries of the class: groups, covers, answers -/
theorem zs_sg_le (sp q : Nat → Nat) (F : zs_F) (k : Nat) : zs_sg sp q F k ≤ 24000 := by
  unfold zs_sg zs_md
  split
  · exact Nat.le_trans (zs_some_le _ 100) (by decide)
  · exact Nat.le_trans (zs_some_le _ 100) (by decide)
theorem zw_T_at {F : zs_F} {sp : Nat → Nat} {U : zs_U} {Q : zs_Q} {o : Option Nat} (hs : zw_S sp) (hw : zw_F F) (hU : zw_U F.1 U) (ho : ∀ s, o = some s → s < U.1) : zw_T 240 (zs_at F sp U Q o) := by
  cases o with
  | none => exact zw_T_F hw
  | some s => exact zw_T_A hs hw (hU.2 s (ho s rfl)).2.2.2
theorem zs_at_le {F : zs_F} {sp : Nat → Nat} {U : zs_U} {Q : zs_Q} {o : Option Nat} (hs : zw_S sp) (hw : zw_F F) (hU : zw_U F.1 U) (ho : ∀ s, o = some s → s < U.1) (k : Nat) : zs_val (zs_at F sp U Q o) (zs_sg sp Q.2 F) (Q.2 6) k ≤ 24000 := zs_val_le (zw_T_at hs hw hU ho) (fun _ => zs_sg_le _ _ _ _)
set_option maxHeartbeats 4000000 in
set_option maxRecDepth 100000 in
theorem k_KS_tallyWay {d : Nat} {h : zm_M} {R : zm_R} {pi : Nat → Nat} {F : zs_F} {sp : Nat → Nat} {U : zs_U} {Q : zs_Q} {o : Option Nat} (hC : zC h pi F sp U Q) (hq : Q.1 = true) (ho : ∀ s, o = some s → s < U.1 ∧ Q.2 6 ≤ 4) (hR : ∀ (h' : zm_M) (t : Nat), zc_fr h h' → (t = 79 ∨ t = 85) → zc_A h'.1 t (zs_at F sp U Q o) (zs_sg sp Q.2 F) (Q.2 6) → R (some (.inr (some t))) h') : zm_C (d + 6) TT m_KS_tallyAnswer [.inr (some 0), .inr (o.map (fun s => 38 + 4 * pi s))] h R := by
  cases o with
  | none => exact k_KS_tallyAnswerF hC hq (fun h' e1 e2 e3 => hR h' 79 e1 (Or.inl rfl) e3)
  | some s =>
    obtain ⟨hs, h4⟩ := ho s rfl
    exact k_KS_tallyAnswerS hC hq hs (fun h' e1 e2 e3 e4 => hR h' 85 e1 (Or.inr rfl) ⟨e4, fun z => absurd z (by omega)⟩)
theorem zs_way_ok {F : zs_F} {sp : Nat → Nat} {U : zs_U} {Q : zs_Q} (hU : zw_U F.1 U) (hQ : zw_Q Q) (hq : Q.1 = true) : ∀ s, zs_way F sp U Q = some s → s < U.1 ∧ Q.2 6 ≤ 4 ∧ zs_cov sp (U.2 s) Q.2 = true := fun s hs => by
  obtain ⟨a, b⟩ := zs_wy_cov hs
  obtain ⟨wr, w1, w2, wu⟩ := hU.2 s a
  exact ⟨a, (zs_cov_in b w2 (hQ hq).2).2, b⟩
set_option maxHeartbeats 4000000 in
set_option maxRecDepth 100000 in
theorem k_Shelf_atWay {d : Nat} {h : zm_M} {R : zm_R} {pi : Nat → Nat} {F : zs_F} {sp : Nat → Nat} {U : zs_U} {Q : zs_Q} {o : Option Nat} (hC : zC h pi F sp U Q) (ho : ∀ s, o = some s → s < U.1) (hR : R (some (.inr (o.map (fun s => 38 + 4 * pi s)))) h) : zm_C (d + 1) TT m_Shelf_at [.inr (some 36), .inl (zs_wv o)] h R := by
  have h8 := hC.2.2.2.2.1.2.1
  refine k_Shelf_at hC (fun s hs e => ?_) (fun e => ?_)
  · cases o with
    | none =>
      have n3 : ∀ s, s < 8 → ¬ (-3 : Int32) = nI s := by decide
      exact absurd e (n3 s (by omega))
    | some s' =>
      have := (nI_eq (by have := ho s' rfl; omega) (by omega)).mp e
      subst this
      exact hR
  · cases o with
    | none => exact hR
    | some s' => exact absurd rfl (e s' (ho s' rfl))
set_option maxHeartbeats 4000000 in
set_option maxRecDepth 100000 in
theorem k_KS_group {d : Nat} {h : zm_M} {R : zm_R} {pi : Nat → Nat} {F : zs_F} {sp : Nat → Nat} {U : zs_U} {Q : zs_Q} {x i y : Int32} (hC : zC h pi F sp U Q) (hR : ∀ h' : zm_M, zc_fr h h' → R (some (.inl (A_group F sp U x i y))) h') : zm_C (d + 6) TT m_KS_group [.inr (some 0), .inl x, .inl i, .inl y] h R := by
  obtain ⟨p0, p1, p2, p4, p5, p6, p7, p9, p10, p11, p12, p14⟩ := zC_p hC
  obtain ⟨c1, c2, ⟨c3, c3w⟩, ⟨c4, c4w⟩, ⟨c7, c8⟩, c9, c10⟩ := id hC
  have h8 := c8.1
  unfold A_group at hR
  have R0 := hR h (zc_fr.rf h)
  refine st_KS_group [] 9 ?_
  simp only [↓zq, ↓reduceIte, zr_si2, zr_sr1, zr_cp2, zr_tl, zr_tn, shq, List.contains_nil, List.contains_cons, Nat.reduceBEq, Bool.false_or, Bool.or_false, Bool.true_or, Bool.false_eq_true, if_false, if_true, true_and, and_true, List.set_cons_zero, List.set_cons_succ, List.length_cons, List.length_nil, Nat.reduceAdd, Nat.reduceLeDiff, Nat.le_refl, Nat.zero_le, true_or, or_true, zn_cl, ↓jj_KS_group, p6]
  refine k_Shelf_at hC (fun s hs e => ?_) (fun e => ?_)
  · subst e
    rw [zs_ix_of hs (by omega)] at hR R0
    simp only [] at hR R0
    have hp := (c2.1 s (by omega)).2
    obtain ⟨k1, k2, k3⟩ := zk_sums c1 hp
    obtain ⟨y1, y2, y3, y4⟩ := c7.2 s hs
    obtain ⟨wr, w1, w2, wu⟩ := c8.2 s hs
    have k31 := k3.1
    have wS := zw_T_S (sp := sp) (row := U.2 s) c3w wu
    simp only [↓zq, ↓reduceIte, zr_si2, zr_sr1, zr_cp2, zr_tl, zr_tn, shq, List.contains_nil, List.contains_cons, Nat.reduceBEq, Bool.false_or, Bool.or_false, Bool.true_or, Bool.false_eq_true, if_false, if_true, true_and, and_true, List.set_cons_zero, List.set_cons_succ, List.length_cons, List.length_nil, Nat.reduceAdd, Nat.reduceLeDiff, Nat.le_refl, Nat.zero_le, true_or, or_true, zn_cl, ↓jj_KS_group]
    refine ⟨fun z => (by cases z), fun _ => ⟨fun z => ?_, fun z => ?_⟩⟩
    · rw [if_pos z] at R0
      exact R0
    · rw [if_neg z] at hR R0
      obtain ⟨j, hj, rfl⟩ := nI_of z
      rw [nI_clamp hj] at hR R0
      rcases zs_cas y 7 (by decide) with ⟨w, hw, rfl⟩ | e
      · rw [zs_ix_of hw (by decide)] at hR
        simp only [] at hR
        refine ⟨fun z => absurd z (nI_pos (by omega)), fun _ => ⟨fun _ => ?_, fun z => absurd (nI_le (b := 6) (by omega) (by decide)) z⟩⟩
        refine k_KS_tallyGroups hC hs (fun g e1 e2 e3 => ?_)
        have q9 : g.2 0 9 = some 73 := by rw [e1]; exact p9
        have gf : zc_fr h g := zc_fr_tab (Or.inl rfl) e1 (fun a ha => e2 a (by omega))
        have gk := zk_tabs (P := g.2) (by rw [e1]; exact c1) (Or.inl rfl)
        have k2' : g.2 (38 + 4 * pi s) 0 = some (38 + 4 * pi s + 1) := by rw [e1]; exact k2
        have y2' : g.1 (38 + 4 * pi s + 1) 2 = nI (U.2 s 6) := by rw [e2 _ (by omega)]; exact y2
        simp only [↓zq, ↓reduceIte, zr_si2, zr_sr1, zr_cp2, zr_tl, zr_tn, shq, List.contains_nil, List.contains_cons, Nat.reduceBEq, Bool.false_or, Bool.or_false, Bool.true_or, Bool.false_eq_true, if_false, if_true, true_and, and_true, List.set_cons_zero, List.set_cons_succ, List.length_cons, List.length_nil, Nat.reduceAdd, Nat.reduceLeDiff, Nat.le_refl, Nat.zero_le, true_or, or_true, zn_cl, ↓jj_KS_group, q9]
        refine k_Table_keyAt gk e3 wS (by decide) (fun z => absurd z (nI_pos hj)) (fun j' hj' e => ?_)
        have e := (nI_eq hj hj').mp e
        subst e
        have hRR := hR g gf
        cases en : zs_nth (fun k => (zs_tabS sp F (U.2 s) k).1) j 512 with
        | none =>
          rw [en] at hRR
          simp only [↓zq, ↓reduceIte, zr_si2, zr_sr1, zr_cp2, zr_tl, zr_tn, shq, List.contains_nil, List.contains_cons, Nat.reduceBEq, Bool.false_or, Bool.or_false, Bool.true_or, Bool.false_eq_true, if_false, if_true, true_and, and_true, List.set_cons_zero, List.set_cons_succ, List.length_cons, List.length_nil, Nat.reduceAdd, Nat.reduceLeDiff, Nat.le_refl, Nat.zero_le, true_or, or_true, zn_cl, ↓jj_KS_group, zs_opt]
          exact ⟨fun z => absurd z (by decide), fun _ => hRR⟩
        | some k =>
          obtain ⟨k5, kn, -⟩ := zs_nth_spec 512 en
          rw [en] at hRR
          simp only [] at hRR
          simp only [↓zq, ↓reduceIte, zr_si2, zr_sr1, zr_cp2, zr_tl, zr_tn, shq, List.contains_nil, List.contains_cons, Nat.reduceBEq, Bool.false_or, Bool.or_false, Bool.true_or, Bool.false_eq_true, if_false, if_true, true_and, and_true, List.set_cons_zero, List.set_cons_succ, List.length_cons, List.length_nil, Nat.reduceAdd, Nat.reduceLeDiff, Nat.le_refl, Nat.zero_le, true_or, or_true, zn_cl, ↓jj_KS_group, zs_opt, k1, k2', k31, y2']
          refine ⟨fun _ => ?_, fun z => absurd (nI_pos' (by omega)) z⟩
          rw [show (3 : Int32) = nI 3 from rfl, zn_le (by decide) (by omega)]
          refine ⟨fun z3 => ?_, fun z3 => ?_⟩
          · rw [if_neg (by omega)] at hRR
            rw [pk_sub z3, zn_bitN (by omega) (by omega)]
            refine ⟨fun z4 => ?_, fun z4 => ?_⟩
            · rw [if_pos (by simpa using z4)] at hRR
              simp only [↓zq, ↓reduceIte, zr_si2, zr_sr1, zr_cp2, zr_tl, zr_tn, shq, List.contains_nil, List.contains_cons, Nat.reduceBEq, Bool.false_or, Bool.or_false, Bool.true_or, Bool.false_eq_true, if_false, if_true, true_and, and_true, List.set_cons_zero, List.set_cons_succ, List.length_cons, List.length_nil, Nat.reduceAdd, Nat.reduceLeDiff, Nat.le_refl, Nat.zero_le, true_or, or_true, zn_cl, ↓jj_KS_group, q9]
              refine k_Table_valueAt (sg := zs_none) gk e3 wS (by decide) k5 (by omega) (fun h5 => absurd h5 (by omega)) ?_
              simp only [↓zq, ↓reduceIte, zr_si2, zr_sr1, zr_cp2, zr_tl, zr_tn, shq, List.contains_nil, List.contains_cons, Nat.reduceBEq, Bool.false_or, Bool.or_false, Bool.true_or, Bool.false_eq_true, if_false, if_true, true_and, and_true, List.set_cons_zero, List.set_cons_succ, List.length_cons, List.length_nil, Nat.reduceAdd, Nat.reduceLeDiff, Nat.le_refl, Nat.zero_le, true_or, or_true, zn_cl, ↓jj_KS_group]
              exact hRR
            · rw [if_neg (by rw [z4]; decide)] at hRR
              exact hRR
          · rw [if_pos (by omega)] at hRR
            refine k_KS_numberIn k5 (by omega) ?_
            simp only [↓zq, ↓reduceIte, zr_si2, zr_sr1, zr_cp2, zr_tl, zr_tn, shq, List.contains_nil, List.contains_cons, Nat.reduceBEq, Bool.false_or, Bool.or_false, Bool.true_or, Bool.false_eq_true, if_false, if_true, true_and, and_true, List.set_cons_zero, List.set_cons_succ, List.length_cons, List.length_nil, Nat.reduceAdd, Nat.reduceLeDiff, Nat.le_refl, Nat.zero_le, true_or, or_true, zn_cl, ↓jj_KS_group]
            exact hRR
      · rw [zs_ix_no e] at R0
        have e : y < 0 ∨ (7 : Int32) ≤ y := e
        rcases e with e | e
        · exact ⟨fun _ => R0, fun z => absurd e z⟩
        · exact ⟨fun _ => R0, fun z => ⟨fun z2 => (by exfalso; clear hR R0; (simp only [Int32.lt_iff_toInt_lt, Int32.le_iff_toInt_le, ← Int32.toInt_inj, zi_c] at *; omega)), fun _ => R0⟩⟩
  · rw [zs_ix_no2 (by omega) e] at R0
    simp only [↓zq, ↓reduceIte, zr_si2, zr_sr1, zr_cp2, zr_tl, zr_tn, shq, List.contains_nil, List.contains_cons, Nat.reduceBEq, Bool.false_or, Bool.or_false, Bool.true_or, Bool.false_eq_true, if_false, if_true, true_and, and_true, List.set_cons_zero, List.set_cons_succ, List.length_cons, List.length_nil, Nat.reduceAdd, Nat.reduceLeDiff, Nat.le_refl, Nat.zero_le, true_or, or_true, zn_cl, ↓jj_KS_group]
    exact ⟨fun _ => R0, fun z => absurd trivial z⟩
set_option maxHeartbeats 4000000 in
set_option maxRecDepth 100000 in
theorem k_KS_coverIs {d : Nat} {h : zm_M} {R : zm_R} {pi : Nat → Nat} {F : zs_F} {sp : Nat → Nat} {U : zs_U} {Q : zs_Q} {x y : Int32} (hC : zC h pi F sp U Q) (hR : ∀ h' : zm_M, zc_fr h h' → R (some (.inl (A_coverIs F sp U Q x y))) h') : zm_C (d + 7) TT m_KS_coverIs [.inr (some 0), .inl x, .inl y] h R := by
  obtain ⟨p0, p1, p2, p4, p5, p6, p7, p9, p10, p11, p12, p14⟩ := zC_p hC
  obtain ⟨c1, c2, ⟨c3, c3w⟩, ⟨c4, c4w⟩, ⟨c7, c8⟩, c9, c10⟩ := id hC
  have h8 := c8.1
  unfold A_coverIs at hR
  have R0 := hR h (zc_fr.rf h)
  refine st_KS_coverIs [] 9 ?_
  simp only [↓zq, ↓reduceIte, zr_si2, zr_sr1, zr_cp2, zr_tl, zr_tn, shq, List.contains_nil, List.contains_cons, Nat.reduceBEq, Bool.false_or, Bool.or_false, Bool.true_or, Bool.false_eq_true, if_false, if_true, true_and, and_true, List.set_cons_zero, List.set_cons_succ, List.length_cons, List.length_nil, Nat.reduceAdd, Nat.reduceLeDiff, Nat.le_refl, Nat.zero_le, true_or, or_true, zn_cl, ↓jj_KS_coverIs, p6]
  refine k_Shelf_at hC (fun s hs e => ?_) (fun e => ?_)
  · subst e
    rw [zs_ix_of hs (by omega)] at hR R0
    simp only [] at hR R0
    have hp := (c2.1 s (by omega)).2
    obtain ⟨k1, k2, k3⟩ := zk_sums c1 hp
    obtain ⟨y1, y2, y3, y4⟩ := c7.2 s hs
    obtain ⟨wr, w1, w2, wu⟩ := c8.2 s hs
    have k31 := k3.1
    have wS := zw_T_S (sp := sp) (row := U.2 s) c3w wu
    simp only [↓zq, ↓reduceIte, zr_si2, zr_sr1, zr_cp2, zr_tl, zr_tn, shq, List.contains_nil, List.contains_cons, Nat.reduceBEq, Bool.false_or, Bool.or_false, Bool.true_or, Bool.false_eq_true, if_false, if_true, true_and, and_true, List.set_cons_zero, List.set_cons_succ, List.length_cons, List.length_nil, Nat.reduceAdd, Nat.reduceLeDiff, Nat.le_refl, Nat.zero_le, true_or, or_true, zn_cl, ↓jj_KS_coverIs]
    refine ⟨fun z => (by cases z), fun _ => ?_⟩
    rcases zs_cas y 4 (by decide) with ⟨w, hw, rfl⟩ | e
    · rw [zs_ix_of hw (by decide)] at hR R0
      simp only [] at hR R0
      refine ⟨fun z => absurd z (nI_pos (by omega)), fun _ => ⟨fun _ => ?_, fun z => absurd (nI_le (b := 3) (by omega) (by decide)) z⟩⟩
      refine k_KS_isCovering hC hs ?_
      simp only [↓zq, ↓reduceIte, zr_si2, zr_sr1, zr_cp2, zr_tl, zr_tn, shq, List.contains_nil, List.contains_cons, Nat.reduceBEq, Bool.false_or, Bool.or_false, Bool.true_or, Bool.false_eq_true, if_false, if_true, true_and, and_true, List.set_cons_zero, List.set_cons_succ, List.length_cons, List.length_nil, Nat.reduceAdd, Nat.reduceLeDiff, Nat.le_refl, Nat.zero_le, true_or, or_true, zn_cl, ↓jj_KS_coverIs]
      by_cases ec : Q.1 = true ∧ zs_cov sp (U.2 s) Q.2 = true
      · rw [if_pos ec] at hR R0
        rw [if_pos ec]
        obtain ⟨q2, q3⟩ := c9.2 ec.1
        obtain ⟨wq, wq2⟩ := c10 ec.1
        simp only [↓zq, ↓reduceIte, zr_si2, zr_sr1, zr_cp2, zr_tl, zr_tn, shq, List.contains_nil, List.contains_cons, Nat.reduceBEq, Bool.false_or, Bool.or_false, Bool.true_or, Bool.false_eq_true, if_false, if_true, true_and, and_true, List.set_cons_zero, List.set_cons_succ, List.length_cons, List.length_nil, Nat.reduceAdd, Nat.reduceLeDiff, Nat.le_refl, Nat.zero_le, true_or, or_true, zn_cl, ↓jj_KS_coverIs, p5, p7, k1, k2, k31, y3]
        refine ⟨fun _ => ?_, fun z => absurd z (by decide)⟩
        rcases (show w = 0 ∨ w = 1 ∨ w = 2 ∨ w = 3 by omega) with rfl | rfl | rfl | rfl
        · refine ⟨fun _ => ?_, fun z => absurd rfl z⟩
          refine k_Cut_leftOutFor k3 y1 wr (zk_cutQ c1) q2 wq ?_
          simp only [↓zq, ↓reduceIte, zr_si2, zr_sr1, zr_cp2, zr_tl, zr_tn, shq, List.contains_nil, List.contains_cons, Nat.reduceBEq, Bool.false_or, Bool.or_false, Bool.true_or, Bool.false_eq_true, if_false, if_true, true_and, and_true, List.set_cons_zero, List.set_cons_succ, List.length_cons, List.length_nil, Nat.reduceAdd, Nat.reduceLeDiff, Nat.le_refl, Nat.zero_le, true_or, or_true, zn_cl, ↓jj_KS_coverIs]
          exact R0
        · refine ⟨fun z => absurd z (by decide), fun _ => ⟨fun _ => ?_, fun z => absurd rfl z⟩⟩
          refine k_Cut_rolledUpFor k3 y1 wr (zk_cutQ c1) q2 wq ?_
          simp only [↓zq, ↓reduceIte, zr_si2, zr_sr1, zr_cp2, zr_tl, zr_tn, shq, List.contains_nil, List.contains_cons, Nat.reduceBEq, Bool.false_or, Bool.or_false, Bool.true_or, Bool.false_eq_true, if_false, if_true, true_and, and_true, List.set_cons_zero, List.set_cons_succ, List.length_cons, List.length_nil, Nat.reduceAdd, Nat.reduceLeDiff, Nat.le_refl, Nat.zero_le, true_or, or_true, zn_cl, ↓jj_KS_coverIs]
          exact R0
        · refine ⟨fun z => absurd z (by decide), fun _ => ⟨fun z => absurd z (by decide), fun _ => ⟨fun _ => ?_, fun z => absurd rfl z⟩⟩⟩
          refine k_Facts_letBy c1 c3 c3w wu (zk_cutQ c1) q2 wq ?_
          simp only [↓zq, ↓reduceIte, zr_si2, zr_sr1, zr_cp2, zr_tl, zr_tn, shq, List.contains_nil, List.contains_cons, Nat.reduceBEq, Bool.false_or, Bool.or_false, Bool.true_or, Bool.false_eq_true, if_false, if_true, true_and, and_true, List.set_cons_zero, List.set_cons_succ, List.length_cons, List.length_nil, Nat.reduceAdd, Nat.reduceLeDiff, Nat.le_refl, Nat.zero_le, true_or, or_true, zn_cl, ↓jj_KS_coverIs]
          exact R0
        · refine ⟨fun z => absurd z (by decide), fun _ => ⟨fun z => absurd z (by decide), fun _ => ⟨fun z => absurd z (by decide), fun _ => ?_⟩⟩⟩
          refine k_KS_tallyGroups hC hs (fun g e1 e2 e3 => ?_)
          have gf : zc_fr h g := zc_fr_tab (Or.inl rfl) e1 (fun a ha => e2 a (by omega))
          have k2' : g.2 (38 + 4 * pi s) 0 = some (38 + 4 * pi s + 1) := by rw [e1]; exact k2
          simp only [↓zq, ↓reduceIte, zr_si2, zr_sr1, zr_cp2, zr_tl, zr_tn, shq, List.contains_nil, List.contains_cons, Nat.reduceBEq, Bool.false_or, Bool.or_false, Bool.true_or, Bool.false_eq_true, if_false, if_true, true_and, and_true, List.set_cons_zero, List.set_cons_succ, List.length_cons, List.length_nil, Nat.reduceAdd, Nat.reduceLeDiff, Nat.le_refl, Nat.zero_le, true_or, or_true, zn_cl, ↓jj_KS_coverIs, k1, k2']
          refine k_KS_groupsInside (zC_fr gf hC) ec.1 hs e3 wS (by decide) ?_
          simp only [↓zq, ↓reduceIte, zr_si2, zr_sr1, zr_cp2, zr_tl, zr_tn, shq, List.contains_nil, List.contains_cons, Nat.reduceBEq, Bool.false_or, Bool.or_false, Bool.true_or, Bool.false_eq_true, if_false, if_true, true_and, and_true, List.set_cons_zero, List.set_cons_succ, List.length_cons, List.length_nil, Nat.reduceAdd, Nat.reduceLeDiff, Nat.le_refl, Nat.zero_le, true_or, or_true, zn_cl, ↓jj_KS_coverIs]
          exact hR g gf
      · rw [if_neg ec] at R0
        rw [if_neg ec]
        exact ⟨fun z => absurd rfl z, fun _ => R0⟩
    · rw [zs_ix_no e] at R0
      have e : y < 0 ∨ (4 : Int32) ≤ y := e
      rcases e with e | e
      · exact ⟨fun _ => R0, fun z => absurd e z⟩
      · exact ⟨fun _ => R0, fun z => ⟨fun z2 => (by exfalso; clear hR R0; (simp only [Int32.lt_iff_toInt_lt, Int32.le_iff_toInt_le, ← Int32.toInt_inj, zi_c] at *; omega)), fun _ => R0⟩⟩
  · rw [zs_ix_no2 (by omega) e] at R0
    simp only [↓zq, ↓reduceIte, zr_si2, zr_sr1, zr_cp2, zr_tl, zr_tn, shq, List.contains_nil, List.contains_cons, Nat.reduceBEq, Bool.false_or, Bool.or_false, Bool.true_or, Bool.false_eq_true, if_false, if_true, true_and, and_true, List.set_cons_zero, List.set_cons_succ, List.length_cons, List.length_nil, Nat.reduceAdd, Nat.reduceLeDiff, Nat.le_refl, Nat.zero_le, true_or, or_true, zn_cl, ↓jj_KS_coverIs]
    exact ⟨fun _ => R0, fun z => absurd trivial z⟩
set_option maxHeartbeats 4000000 in
set_option maxRecDepth 100000 in
theorem k_KS_way {d : Nat} {h : zm_M} {R : zm_R} {pi : Nat → Nat} {F : zs_F} {sp : Nat → Nat} {U : zs_U} {Q : zs_Q} {y : Int32} (hC : zC h pi F sp U Q) (hR : R (some (.inl (A_way F sp U Q y))) h) : zm_C (d + 8) TT m_KS_way [.inr (some 0), .inl y] h R := by
  obtain ⟨p0, p1, p2, p4, p5, p6, p7, p9, p10, p11, p12, p14⟩ := zC_p hC
  obtain ⟨c1, c2, ⟨c3, c3w⟩, ⟨c4, c4w⟩, ⟨c7, c8⟩, c9, c10⟩ := id hC
  have f1 := c3.1
  have q1 := c9.1
  unfold A_way at hR
  have main : ∀ w, w < 2 → y = nI w → zm_W (zm_md m_KS_way) (d + 8) TT R 11 [some (.inr (some 0)), some (.inl y), none, none] [] h := by
    intro w hw e
    subst e
    rw [zs_ix_of hw (by decide)] at hR
    simp only [] at hR
    refine zm_go g_KS_way [] 30 (by decide +kernel) ok_KS_way _ rfl ?_
    simp only [↓zq, ↓reduceIte, zr_si2, zr_sr1, zr_cp2, zr_tl, zr_tn, shq, List.contains_nil, List.contains_cons, Nat.reduceBEq, Bool.false_or, Bool.or_false, Bool.true_or, Bool.false_eq_true, if_false, if_true, true_and, and_true, List.set_cons_zero, List.set_cons_succ, List.length_cons, List.length_nil, Nat.reduceAdd, Nat.reduceLeDiff, Nat.le_refl, Nat.zero_le, true_or, or_true, zn_cl, ↓jj_KS_way, q1]
    cases hq : Q.1
    · rw [hq] at hR
      simp only [Bool.false_eq_true, if_true, if_false] at hR ⊢
      exact ⟨fun z => absurd trivial z, fun _ => hR⟩
    · simp only [hq, Bool.true_eq_false, if_false, if_true] at hR ⊢
      refine ⟨fun _ => ?_, fun z => absurd z (by decide)⟩
      refine k_KS_cheapestWay hC hq ?_
      have wo := fun s hs => (zs_way_ok c8 c10 hq (F := F) (sp := sp) s hs).1
      rw [show (zs_wy sp F U Q.2 U.1).1 = zs_way F sp U Q from rfl]
      generalize zs_way F sp U Q = o at *
      simp only [↓zq, ↓reduceIte, zr_si2, zr_sr1, zr_cp2, zr_tl, zr_tn, shq, List.contains_nil, List.contains_cons, Nat.reduceBEq, Bool.false_or, Bool.or_false, Bool.true_or, Bool.false_eq_true, if_false, if_true, true_and, and_true, List.set_cons_zero, List.set_cons_succ, List.length_cons, List.length_nil, Nat.reduceAdd, Nat.reduceLeDiff, Nat.le_refl, Nat.zero_le, true_or, or_true, zn_cl, ↓jj_KS_way, p6]
      rcases (show w = 0 ∨ w = 1 by omega) with rfl | rfl
      · exact ⟨fun z => absurd rfl z, fun _ => hR⟩
      · refine ⟨fun _ => ?_, fun z => absurd z (by decide)⟩
        refine k_Shelf_atWay (o := o) hC wo ?_
        cases o with
        | none =>
          simp only [↓zq, ↓reduceIte, zr_si2, zr_sr1, zr_cp2, zr_tl, zr_tn, shq, List.contains_nil, List.contains_cons, Nat.reduceBEq, Bool.false_or, Bool.or_false, Bool.true_or, Bool.false_eq_true, if_false, if_true, true_and, and_true, List.set_cons_zero, List.set_cons_succ, List.length_cons, List.length_nil, Nat.reduceAdd, Nat.reduceLeDiff, Nat.le_refl, Nat.zero_le, true_or, or_true, zn_cl, ↓jj_KS_way, p5, f1, Option.map_none]
          exact ⟨fun z => absurd trivial z, fun _ => hR⟩
        | some s =>
          simp only [↓zq, ↓reduceIte, zr_si2, zr_sr1, zr_cp2, zr_tl, zr_tn, shq, List.contains_nil, List.contains_cons, Nat.reduceBEq, Bool.false_or, Bool.or_false, Bool.true_or, Bool.false_eq_true, if_false, if_true, true_and, and_true, List.set_cons_zero, List.set_cons_succ, List.length_cons, List.length_nil, Nat.reduceAdd, Nat.reduceLeDiff, Nat.le_refl, Nat.zero_le, true_or, or_true, zn_cl, ↓jj_KS_way, p5, f1, Option.map_some]
          refine ⟨fun _ => ?_, fun z => (by cases z)⟩
          refine k_KS_costOf hC (wo s rfl) ?_
          simp only [↓zq, ↓reduceIte, zr_si2, zr_sr1, zr_cp2, zr_tl, zr_tn, shq, List.contains_nil, List.contains_cons, Nat.reduceBEq, Bool.false_or, Bool.or_false, Bool.true_or, Bool.false_eq_true, if_false, if_true, true_and, and_true, List.set_cons_zero, List.set_cons_succ, List.length_cons, List.length_nil, Nat.reduceAdd, Nat.reduceLeDiff, Nat.le_refl, Nat.zero_le, true_or, or_true, zn_cl, ↓jj_KS_way]
          exact hR
  refine st_KS_way [11] 9 ?_
  simp only [↓zq, ↓reduceIte, zr_si2, zr_sr1, zr_cp2, zr_tl, zr_tn, shq, List.contains_nil, List.contains_cons, Nat.reduceBEq, Bool.false_or, Bool.or_false, Bool.true_or, Bool.false_eq_true, if_false, if_true, true_and, and_true, List.set_cons_zero, List.set_cons_succ, List.length_cons, List.length_nil, Nat.reduceAdd, Nat.reduceLeDiff, Nat.le_refl, Nat.zero_le, true_or, or_true, zn_cl, ↓jj_KS_way]
  refine ⟨fun z => main 0 (by decide) z, fun z => ⟨fun z1 => main 1 (by decide) z1, fun z1 => ?_⟩⟩
  rcases zs_cas y 2 (by decide) with ⟨w, hw, rfl⟩ | e
  · rcases (show w = 0 ∨ w = 1 by omega) with rfl | rfl
    · exact absurd rfl z
    · exact absurd rfl z1
  · rw [zs_ix_no e] at hR
    exact hR
set_option maxHeartbeats 4000000 in
set_option maxRecDepth 100000 in
theorem k_KS_answer {d : Nat} {h : zm_M} {R : zm_R} {pi : Nat → Nat} {F : zs_F} {sp : Nat → Nat} {U : zs_U} {Q : zs_Q} {i y : Int32} (hC : zC h pi F sp U Q) (hR : ∀ h' : zm_M, zc_fr h h' → R (some (.inl (A_answer F sp U Q i y))) h') : zm_C (d + 8) TT m_KS_answer [.inr (some 0), .inl i, .inl y] h R := by
  obtain ⟨p0, p1, p2, p4, p5, p6, p7, p9, p10, p11, p12, p14⟩ := zC_p hC
  obtain ⟨c1, c2, ⟨c3, c3w⟩, ⟨c4, c4w⟩, ⟨c7, c8⟩, c9, c10⟩ := id hC
  have q1 := c9.1
  unfold A_answer at hR
  have R0 := hR h (zc_fr.rf h)
  refine st_KS_answer [] 9 ?_
  simp only [↓zq, ↓reduceIte, zr_si2, zr_sr1, zr_cp2, zr_tl, zr_tn, shq, List.contains_nil, List.contains_cons, Nat.reduceBEq, Bool.false_or, Bool.or_false, Bool.true_or, Bool.false_eq_true, if_false, if_true, true_and, and_true, List.set_cons_zero, List.set_cons_succ, List.length_cons, List.length_nil, Nat.reduceAdd, Nat.reduceLeDiff, Nat.le_refl, Nat.zero_le, true_or, or_true, zn_cl, ↓jj_KS_answer]
  refine k_KS_isAnswerPlace (fun w hw e z => ?_) (fun e => ?_)
  · subst e
    rw [if_neg z, zs_ix_of hw (by decide)] at hR R0
    simp only [] at hR R0
    simp only [↓zq, ↓reduceIte, zr_si2, zr_sr1, zr_cp2, zr_tl, zr_tn, shq, List.contains_nil, List.contains_cons, Nat.reduceBEq, Bool.false_or, Bool.or_false, Bool.true_or, Bool.false_eq_true, if_false, if_true, true_and, and_true, List.set_cons_zero, List.set_cons_succ, List.length_cons, List.length_nil, Nat.reduceAdd, Nat.reduceLeDiff, Nat.le_refl, Nat.zero_le, true_or, or_true, zn_cl, ↓jj_KS_answer, q1]
    refine ⟨fun _ => ?_, fun z => absurd z (by decide)⟩
    cases hq : Q.1
    · rw [hq] at R0
      simp only [Bool.false_eq_true, if_true, if_false] at R0 ⊢
      exact ⟨fun z => absurd trivial z, fun _ => R0⟩
    · simp only [hq, Bool.true_eq_false, if_false, if_true] at hR ⊢
      refine ⟨fun _ => ?_, fun z => absurd z (by decide)⟩
      obtain ⟨wq, wq2⟩ := c10 hq
      simp only [↓zq, ↓reduceIte, zr_si2, zr_sr1, zr_cp2, zr_tl, zr_tn, shq, List.contains_nil, List.contains_cons, Nat.reduceBEq, Bool.false_or, Bool.or_false, Bool.true_or, Bool.false_eq_true, if_false, if_true, true_and, and_true, List.set_cons_zero, List.set_cons_succ, List.length_cons, List.length_nil, Nat.reduceAdd, Nat.reduceLeDiff, Nat.le_refl, Nat.zero_le, true_or, or_true, zn_cl, ↓jj_KS_answer, p6]
      refine k_KS_cheapestWay hC hq ?_
      have wo := fun s hs => zs_way_ok c8 c10 hq (F := F) (sp := sp) s hs
      rw [show (zs_wy sp F U Q.2 U.1).1 = zs_way F sp U Q from rfl]
      generalize zs_way F sp U Q = o at *
      simp only [↓zq, ↓reduceIte, zr_si2, zr_sr1, zr_cp2, zr_tl, zr_tn, shq, List.contains_nil, List.contains_cons, Nat.reduceBEq, Bool.false_or, Bool.or_false, Bool.true_or, Bool.false_eq_true, if_false, if_true, true_and, and_true, List.set_cons_zero, List.set_cons_succ, List.length_cons, List.length_nil, Nat.reduceAdd, Nat.reduceLeDiff, Nat.le_refl, Nat.zero_le, true_or, or_true, zn_cl, ↓jj_KS_answer]
      refine k_Shelf_atWay (o := o) hC (fun s hs => (wo s hs).1) ?_
      simp only [↓zq, ↓reduceIte, zr_si2, zr_sr1, zr_cp2, zr_tl, zr_tn, shq, List.contains_nil, List.contains_cons, Nat.reduceBEq, Bool.false_or, Bool.or_false, Bool.true_or, Bool.false_eq_true, if_false, if_true, true_and, and_true, List.set_cons_zero, List.set_cons_succ, List.length_cons, List.length_nil, Nat.reduceAdd, Nat.reduceLeDiff, Nat.le_refl, Nat.zero_le, true_or, or_true, zn_cl, ↓jj_KS_answer]
      refine k_KS_tallyWay (o := o) hC hq (fun s hs => ⟨(wo s hs).1, (wo s hs).2.1⟩) (fun g t e1 e2 e3 => ?_)
      have gC := zC_fr e1 hC
      have gk := zk_tabs (P := g.2) gC.1 (t := t) (by omega)
      have k0 := gk.1
      have wT := zw_T_at (Q := Q) (o := o) c4w c3w c8 (fun s hs => (wo s hs).1)
      simp only [↓zq, ↓reduceIte, zr_si2, zr_sr1, zr_cp2, zr_tl, zr_tn, shq, List.contains_nil, List.contains_cons, Nat.reduceBEq, Bool.false_or, Bool.or_false, Bool.true_or, Bool.false_eq_true, if_false, if_true, true_and, and_true, List.set_cons_zero, List.set_cons_succ, List.length_cons, List.length_nil, Nat.reduceAdd, Nat.reduceLeDiff, Nat.le_refl, Nat.zero_le, true_or, or_true, zn_cl, ↓jj_KS_answer, k0]
      refine k_Table_keyAt gk e3.1 wT (by decide) (fun z2 => absurd z2 z) (fun j hj e => ?_)
      subst e
      simp only [↓zq, ↓reduceIte, zr_si2, zr_sr1, zr_cp2, zr_tl, zr_tn, shq, List.contains_nil, List.contains_cons, Nat.reduceBEq, Bool.false_or, Bool.or_false, Bool.true_or, Bool.false_eq_true, if_false, if_true, true_and, and_true, List.set_cons_zero, List.set_cons_succ, List.length_cons, List.length_nil, Nat.reduceAdd, Nat.reduceLeDiff, Nat.le_refl, Nat.zero_le, true_or, or_true, zn_cl, ↓jj_KS_answer]
      refine k_KS_answerAt (by have := gC.1; simp only [this]) (gC.2.2.2.2.2.1.2 hq).2 wq2 gk e3 wT (by decide) (fun k hk => zs_nth_lt hk) hw ?_
      simp only [↓zq, ↓reduceIte, zr_si2, zr_sr1, zr_cp2, zr_tl, zr_tn, shq, List.contains_nil, List.contains_cons, Nat.reduceBEq, Bool.false_or, Bool.or_false, Bool.true_or, Bool.false_eq_true, if_false, if_true, true_and, and_true, List.set_cons_zero, List.set_cons_succ, List.length_cons, List.length_nil, Nat.reduceAdd, Nat.reduceLeDiff, Nat.le_refl, Nat.zero_le, true_or, or_true, zn_cl, ↓jj_KS_answer]
      have hRR := hR g e1
      unfold zs_tA at hRR
      rw [nI_clamp hj] at hRR
      exact hRR
  · simp only [↓zq, ↓reduceIte, zr_si2, zr_sr1, zr_cp2, zr_tl, zr_tn, shq, List.contains_nil, List.contains_cons, Nat.reduceBEq, Bool.false_or, Bool.or_false, Bool.true_or, Bool.false_eq_true, if_false, if_true, true_and, and_true, List.set_cons_zero, List.set_cons_succ, List.length_cons, List.length_nil, Nat.reduceAdd, Nat.reduceLeDiff, Nat.le_refl, Nat.zero_le, true_or, or_true, zn_cl, ↓jj_KS_answer]
    refine ⟨fun z => absurd trivial z, fun _ => ?_⟩
    by_cases z : i < 0
    · rw [if_pos z] at R0
      exact R0
    · rw [if_neg z, zs_ix_no] at R0
      · exact R0
      · rcases e with e | e | e
        · exact absurd e z
        · exact Or.inl e
        · exact Or.inr (show (4 : Int32) ≤ y by clear hR R0; (simp only [Int32.lt_iff_toInt_lt, Int32.le_iff_toInt_le, ← Int32.toInt_inj, zi_c] at *; omega))
set_option maxHeartbeats 4000000 in
set_option maxRecDepth 100000 in
theorem k_KS_ranked {d : Nat} {h : zm_M} {R : zm_R} {pi : Nat → Nat} {F : zs_F} {sp : Nat → Nat} {U : zs_U} {Q : zs_Q} {i y : Int32} (hC : zC h pi F sp U Q) (hR : ∀ h' : zm_M, zc_fr h h' → R (some (.inl (A_ranked F sp U Q i y))) h') : zm_C (d + 8) TT m_KS_ranked [.inr (some 0), .inl i, .inl y] h R := by
  obtain ⟨p0, p1, p2, p4, p5, p6, p7, p9, p10, p11, p12, p14⟩ := zC_p hC
  obtain ⟨c1, c2, ⟨c3, c3w⟩, ⟨c4, c4w⟩, ⟨c7, c8⟩, c9, c10⟩ := id hC
  have q1 := c9.1
  unfold A_ranked at hR
  have R0 := hR h (zc_fr.rf h)
  refine st_KS_ranked [] 9 ?_
  simp only [↓zq, ↓reduceIte, zr_si2, zr_sr1, zr_cp2, zr_tl, zr_tn, shq, List.contains_nil, List.contains_cons, Nat.reduceBEq, Bool.false_or, Bool.or_false, Bool.true_or, Bool.false_eq_true, if_false, if_true, true_and, and_true, List.set_cons_zero, List.set_cons_succ, List.length_cons, List.length_nil, Nat.reduceAdd, Nat.reduceLeDiff, Nat.le_refl, Nat.zero_le, true_or, or_true, zn_cl, ↓jj_KS_ranked]
  refine k_KS_isAnswerPlace (fun w hw e z => ?_) (fun e => ?_)
  · subst e
    rw [if_neg z, zs_ix_of hw (by decide)] at hR R0
    simp only [] at hR R0
    simp only [↓zq, ↓reduceIte, zr_si2, zr_sr1, zr_cp2, zr_tl, zr_tn, shq, List.contains_nil, List.contains_cons, Nat.reduceBEq, Bool.false_or, Bool.or_false, Bool.true_or, Bool.false_eq_true, if_false, if_true, true_and, and_true, List.set_cons_zero, List.set_cons_succ, List.length_cons, List.length_nil, Nat.reduceAdd, Nat.reduceLeDiff, Nat.le_refl, Nat.zero_le, true_or, or_true, zn_cl, ↓jj_KS_ranked, q1]
    refine ⟨fun _ => ?_, fun z => absurd z (by decide)⟩
    cases hq : Q.1
    · rw [hq] at R0
      simp only [Bool.false_eq_true, if_true, if_false] at R0 ⊢
      exact ⟨fun z => absurd trivial z, fun _ => R0⟩
    · simp only [hq, Bool.true_eq_false, if_false, if_true] at hR ⊢
      refine ⟨fun _ => ?_, fun z => absurd z (by decide)⟩
      obtain ⟨wq, wq2⟩ := c10 hq
      simp only [↓zq, ↓reduceIte, zr_si2, zr_sr1, zr_cp2, zr_tl, zr_tn, shq, List.contains_nil, List.contains_cons, Nat.reduceBEq, Bool.false_or, Bool.or_false, Bool.true_or, Bool.false_eq_true, if_false, if_true, true_and, and_true, List.set_cons_zero, List.set_cons_succ, List.length_cons, List.length_nil, Nat.reduceAdd, Nat.reduceLeDiff, Nat.le_refl, Nat.zero_le, true_or, or_true, zn_cl, ↓jj_KS_ranked, p6]
      refine k_KS_cheapestWay hC hq ?_
      have wo := fun s hs => zs_way_ok c8 c10 hq (F := F) (sp := sp) s hs
      rw [show (zs_wy sp F U Q.2 U.1).1 = zs_way F sp U Q from rfl]
      generalize zs_way F sp U Q = o at *
      simp only [↓zq, ↓reduceIte, zr_si2, zr_sr1, zr_cp2, zr_tl, zr_tn, shq, List.contains_nil, List.contains_cons, Nat.reduceBEq, Bool.false_or, Bool.or_false, Bool.true_or, Bool.false_eq_true, if_false, if_true, true_and, and_true, List.set_cons_zero, List.set_cons_succ, List.length_cons, List.length_nil, Nat.reduceAdd, Nat.reduceLeDiff, Nat.le_refl, Nat.zero_le, true_or, or_true, zn_cl, ↓jj_KS_ranked]
      refine k_Shelf_atWay (o := o) hC (fun s hs => (wo s hs).1) ?_
      simp only [↓zq, ↓reduceIte, zr_si2, zr_sr1, zr_cp2, zr_tl, zr_tn, shq, List.contains_nil, List.contains_cons, Nat.reduceBEq, Bool.false_or, Bool.or_false, Bool.true_or, Bool.false_eq_true, if_false, if_true, true_and, and_true, List.set_cons_zero, List.set_cons_succ, List.length_cons, List.length_nil, Nat.reduceAdd, Nat.reduceLeDiff, Nat.le_refl, Nat.zero_le, true_or, or_true, zn_cl, ↓jj_KS_ranked]
      refine k_KS_tallyWay (o := o) hC hq (fun s hs => ⟨(wo s hs).1, (wo s hs).2.1⟩) (fun g t e1 e2 e3 => ?_)
      have gC := zC_fr e1 hC
      have gk := zk_tabs (P := g.2) gC.1 (t := t) (by omega)
      have k0 := gk.1
      have wT := zw_T_at (Q := Q) (o := o) c4w c3w c8 (fun s hs => (wo s hs).1)
      obtain ⟨j, hj, rfl⟩ := nI_of z
      have q7 : g.2 0 7 = some 70 := by have := gC.1; simp only [this]
      have qw := (gC.2.2.2.2.2.1.2 hq).2
      simp only [↓zq, ↓reduceIte, zr_si2, zr_sr1, zr_cp2, zr_tl, zr_tn, shq, List.contains_nil, List.contains_cons, Nat.reduceBEq, Bool.false_or, Bool.or_false, Bool.true_or, Bool.false_eq_true, if_false, if_true, true_and, and_true, List.set_cons_zero, List.set_cons_succ, List.length_cons, List.length_nil, Nat.reduceAdd, Nat.reduceLeDiff, Nat.le_refl, Nat.zero_le, true_or, or_true, zn_cl, ↓jj_KS_ranked, k0, q7, qw]
      refine k_Table_rankedKeyAt gk e3 wT (by decide) wq2 (fun k _ => zs_at_le c4w c3w c8 (fun s hs => (wo s hs).1) k) hj (fun o' ho' => ?_)
      have eo := zs_rkd_one ho' (zs_rkf_rkd _ _ _ _)
      subst eo
      simp only [↓zq, ↓reduceIte, zr_si2, zr_sr1, zr_cp2, zr_tl, zr_tn, shq, List.contains_nil, List.contains_cons, Nat.reduceBEq, Bool.false_or, Bool.or_false, Bool.true_or, Bool.false_eq_true, if_false, if_true, true_and, and_true, List.set_cons_zero, List.set_cons_succ, List.length_cons, List.length_nil, Nat.reduceAdd, Nat.reduceLeDiff, Nat.le_refl, Nat.zero_le, true_or, or_true, zn_cl, ↓jj_KS_ranked]
      refine k_KS_answerAt q7 qw wq2 gk e3 wT (by decide) (fun k hk => (ho'.2 k hk).1) hw ?_
      simp only [↓zq, ↓reduceIte, zr_si2, zr_sr1, zr_cp2, zr_tl, zr_tn, shq, List.contains_nil, List.contains_cons, Nat.reduceBEq, Bool.false_or, Bool.or_false, Bool.true_or, Bool.false_eq_true, if_false, if_true, true_and, and_true, List.set_cons_zero, List.set_cons_succ, List.length_cons, List.length_nil, Nat.reduceAdd, Nat.reduceLeDiff, Nat.le_refl, Nat.zero_le, true_or, or_true, zn_cl, ↓jj_KS_ranked]
      have hRR := hR g e1
      rw [nI_clamp hj] at hRR
      exact hRR
  · simp only [↓zq, ↓reduceIte, zr_si2, zr_sr1, zr_cp2, zr_tl, zr_tn, shq, List.contains_nil, List.contains_cons, Nat.reduceBEq, Bool.false_or, Bool.or_false, Bool.true_or, Bool.false_eq_true, if_false, if_true, true_and, and_true, List.set_cons_zero, List.set_cons_succ, List.length_cons, List.length_nil, Nat.reduceAdd, Nat.reduceLeDiff, Nat.le_refl, Nat.zero_le, true_or, or_true, zn_cl, ↓jj_KS_ranked]
    refine ⟨fun z => absurd trivial z, fun _ => ?_⟩
    by_cases z : i < 0
    · rw [if_pos z] at R0
      exact R0
    · rw [if_neg z, zs_ix_no] at R0
      · exact R0
      · rcases e with e | e | e
        · exact absurd e z
        · exact Or.inl e
        · exact Or.inr (show (4 : Int32) ≤ y by clear hR R0; (simp only [Int32.lt_iff_toInt_lt, Int32.le_iff_toInt_le, ← Int32.toInt_inj, zi_c] at *; omega))
set_option maxHeartbeats 4000000 in
set_option maxRecDepth 100000 in
theorem k_KS_answerBy {d : Nat} {h : zm_M} {R : zm_R} {pi : Nat → Nat} {F : zs_F} {sp : Nat → Nat} {U : zs_U} {Q : zs_Q} {x i y : Int32} (hC : zC h pi F sp U Q) (hR : ∀ h' : zm_M, zc_fr h h' → R (some (.inl (A_answerBy F sp U Q x i y))) h') : zm_C (d + 8) TT m_KS_answerBy [.inr (some 0), .inl x, .inl i, .inl y] h R := by
  obtain ⟨p0, p1, p2, p4, p5, p6, p7, p9, p10, p11, p12, p14⟩ := zC_p hC
  obtain ⟨c1, c2, ⟨c3, c3w⟩, ⟨c4, c4w⟩, ⟨c7, c8⟩, c9, c10⟩ := id hC
  have q1 := c9.1
  have h8 := c8.1
  unfold A_answerBy at hR
  have R0 := hR h (zc_fr.rf h)
  -- the answer at its end
  have fin : ∀ (o : Option Nat) (w : Nat), w < 4 → Q.1 = true → ¬ i < 0 → y = nI w → (∀ s, o = some s → s < U.1 ∧ Q.2 6 ≤ 4) → (∀ h' : zm_M, zc_fr h h' → R (some (.inl (zs_tA F sp U Q o i w))) h') → zm_W (zm_md m_KS_answerBy) (d + 8) TT R 58 [some (.inr (some 0)), some (.inl x), some (.inl i), some (.inl y), some (.inr (o.map (fun s => 38 + 4 * pi s))), none] [] h := by
    intro o w hw hq z e wo hRo
    subst e
    obtain ⟨wq, wq2⟩ := c10 hq
    refine zm_go g_KS_answerBy [] 30 (by decide +kernel) ok_KS_answerBy _ rfl ?_
    simp only [↓zq, ↓reduceIte, zr_si2, zr_sr1, zr_cp2, zr_tl, zr_tn, shq, List.contains_nil, List.contains_cons, Nat.reduceBEq, Bool.false_or, Bool.or_false, Bool.true_or, Bool.false_eq_true, if_false, if_true, true_and, and_true, List.set_cons_zero, List.set_cons_succ, List.length_cons, List.length_nil, Nat.reduceAdd, Nat.reduceLeDiff, Nat.le_refl, Nat.zero_le, true_or, or_true, zn_cl, ↓jj_KS_answerBy]
    refine k_KS_tallyWay (o := o) hC hq wo (fun g t e1 e2 e3 => ?_)
    have gC := zC_fr e1 hC
    have gk := zk_tabs (P := g.2) gC.1 (t := t) (by omega)
    have k0 := gk.1
    have wT := zw_T_at (Q := Q) (o := o) c4w c3w c8 (fun s hs => (wo s hs).1)
    simp only [↓zq, ↓reduceIte, zr_si2, zr_sr1, zr_cp2, zr_tl, zr_tn, shq, List.contains_nil, List.contains_cons, Nat.reduceBEq, Bool.false_or, Bool.or_false, Bool.true_or, Bool.false_eq_true, if_false, if_true, true_and, and_true, List.set_cons_zero, List.set_cons_succ, List.length_cons, List.length_nil, Nat.reduceAdd, Nat.reduceLeDiff, Nat.le_refl, Nat.zero_le, true_or, or_true, zn_cl, ↓jj_KS_answerBy, k0]
    refine k_Table_keyAt gk e3.1 wT (by decide) (fun z2 => absurd z2 z) (fun j hj e => ?_)
    subst e
    simp only [↓zq, ↓reduceIte, zr_si2, zr_sr1, zr_cp2, zr_tl, zr_tn, shq, List.contains_nil, List.contains_cons, Nat.reduceBEq, Bool.false_or, Bool.or_false, Bool.true_or, Bool.false_eq_true, if_false, if_true, true_and, and_true, List.set_cons_zero, List.set_cons_succ, List.length_cons, List.length_nil, Nat.reduceAdd, Nat.reduceLeDiff, Nat.le_refl, Nat.zero_le, true_or, or_true, zn_cl, ↓jj_KS_answerBy]
    refine k_KS_answerAt (by have := gC.1; simp only [this]) (gC.2.2.2.2.2.1.2 hq).2 wq2 gk e3 wT (by decide) (fun k hk => zs_nth_lt hk) hw ?_
    simp only [↓zq, ↓reduceIte, zr_si2, zr_sr1, zr_cp2, zr_tl, zr_tn, shq, List.contains_nil, List.contains_cons, Nat.reduceBEq, Bool.false_or, Bool.or_false, Bool.true_or, Bool.false_eq_true, if_false, if_true, true_and, and_true, List.set_cons_zero, List.set_cons_succ, List.length_cons, List.length_nil, Nat.reduceAdd, Nat.reduceLeDiff, Nat.le_refl, Nat.zero_le, true_or, or_true, zn_cl, ↓jj_KS_answerBy]
    have hRR := hRo g e1
    unfold zs_tA at hRR
    rw [nI_clamp hj] at hRR
    exact hRR
  have bad : (i < 0 ∨ y < 0 ∨ 3 < y) → R (some (.inl (-1))) h := fun e => by
    by_cases z : i < 0
    · rw [if_pos z] at R0
      exact R0
    · rw [if_neg z, zs_ix_no (x := y)] at R0
      · exact R0
      · rcases e with e | e | e
        · exact absurd e z
        · exact Or.inl e
        · exact Or.inr (show (4 : Int32) ≤ y by clear hR R0 fin; (simp only [Int32.lt_iff_toInt_lt, Int32.le_iff_toInt_le, ← Int32.toInt_inj, zi_c] at *; omega))
  refine st_KS_answerBy [58] 9 ?_
  simp only [↓zq, ↓reduceIte, zr_si2, zr_sr1, zr_cp2, zr_tl, zr_tn, shq, List.contains_nil, List.contains_cons, Nat.reduceBEq, Bool.false_or, Bool.or_false, Bool.true_or, Bool.false_eq_true, if_false, if_true, true_and, and_true, List.set_cons_zero, List.set_cons_succ, List.length_cons, List.length_nil, Nat.reduceAdd, Nat.reduceLeDiff, Nat.le_refl, Nat.zero_le, true_or, or_true, zn_cl, ↓jj_KS_answerBy, p6]
  refine k_Shelf_at hC (fun s hs e => ?_) (fun e => ?_)
  · subst e
    simp only [↓zq, ↓reduceIte, zr_si2, zr_sr1, zr_cp2, zr_tl, zr_tn, shq, List.contains_nil, List.contains_cons, Nat.reduceBEq, Bool.false_or, Bool.or_false, Bool.true_or, Bool.false_eq_true, if_false, if_true, true_and, and_true, List.set_cons_zero, List.set_cons_succ, List.length_cons, List.length_nil, Nat.reduceAdd, Nat.reduceLeDiff, Nat.le_refl, Nat.zero_le, true_or, or_true, zn_cl, ↓jj_KS_answerBy]
    refine ⟨fun _ => ?_, fun z => (by cases z)⟩
    refine k_KS_isAnswerPlace (fun w hw e z => ?_) (fun e => ?_)
    · rw [if_neg z, e, zs_ix_of hw (by decide)] at hR R0
      simp only [] at hR R0
      rw [zs_ix_of hs (by omega)] at hR R0
      simp only [] at hR R0
      simp only [↓zq, ↓reduceIte, zr_si2, zr_sr1, zr_cp2, zr_tl, zr_tn, shq, List.contains_nil, List.contains_cons, Nat.reduceBEq, Bool.false_or, Bool.or_false, Bool.true_or, Bool.false_eq_true, if_false, if_true, true_and, and_true, List.set_cons_zero, List.set_cons_succ, List.length_cons, List.length_nil, Nat.reduceAdd, Nat.reduceLeDiff, Nat.le_refl, Nat.zero_le, true_or, or_true, zn_cl, ↓jj_KS_answerBy, q1]
      refine ⟨fun _ => ?_, fun z => absurd z (by decide)⟩
      cases hq : Q.1
      · rw [hq] at R0
        simp only [Bool.false_eq_true, if_true, if_false] at R0 ⊢
        exact ⟨fun z => absurd trivial z, fun _ => R0⟩
      · simp only [hq, Bool.true_eq_false, if_false, if_true] at hR R0 ⊢
        refine ⟨fun _ => ⟨fun z => (by cases z), fun _ => ?_⟩, fun z => absurd z (by decide)⟩
        refine k_KS_isCovering hC hs ?_
        simp only [↓zq, ↓reduceIte, zr_si2, zr_sr1, zr_cp2, zr_tl, zr_tn, shq, List.contains_nil, List.contains_cons, Nat.reduceBEq, Bool.false_or, Bool.or_false, Bool.true_or, Bool.false_eq_true, if_false, if_true, true_and, and_true, List.set_cons_zero, List.set_cons_succ, List.length_cons, List.length_nil, Nat.reduceAdd, Nat.reduceLeDiff, Nat.le_refl, Nat.zero_le, true_or, or_true, zn_cl, ↓jj_KS_answerBy]
        simp only [hq, true_and]
        obtain ⟨wr, w1, w2, wu⟩ := c8.2 s hs
        cases e2 : zs_cov sp (U.2 s) Q.2
        · rw [e2] at R0
          simp only [Bool.false_eq_true, if_false] at R0 ⊢
          exact ⟨fun z => absurd trivial z, fun _ => R0⟩
        · simp only [e2, if_true] at hR ⊢
          refine ⟨fun _ => ?_, fun z => absurd z (by decide)⟩
          exact fin (some s) w hw hq z e (fun s' hs' => (by cases hs'; exact ⟨hs, (zs_cov_in e2 w2 (c10 hq).2).2⟩)) hR
    · simp only [↓zq, ↓reduceIte, zr_si2, zr_sr1, zr_cp2, zr_tl, zr_tn, shq, List.contains_nil, List.contains_cons, Nat.reduceBEq, Bool.false_or, Bool.or_false, Bool.true_or, Bool.false_eq_true, if_false, if_true, true_and, and_true, List.set_cons_zero, List.set_cons_succ, List.length_cons, List.length_nil, Nat.reduceAdd, Nat.reduceLeDiff, Nat.le_refl, Nat.zero_le, true_or, or_true, zn_cl, ↓jj_KS_answerBy]
      exact ⟨fun z => absurd trivial z, fun _ => bad e⟩
  · rw [zs_ix_no2 (by omega) e] at hR R0
    simp only [↓zq, ↓reduceIte, zr_si2, zr_sr1, zr_cp2, zr_tl, zr_tn, shq, List.contains_nil, List.contains_cons, Nat.reduceBEq, Bool.false_or, Bool.or_false, Bool.true_or, Bool.false_eq_true, if_false, if_true, true_and, and_true, List.set_cons_zero, List.set_cons_succ, List.length_cons, List.length_nil, Nat.reduceAdd, Nat.reduceLeDiff, Nat.le_refl, Nat.zero_le, true_or, or_true, zn_cl, ↓jj_KS_answerBy]
    refine ⟨fun z => absurd trivial z, fun _ => ⟨fun z3 => ?_, fun z3 => ?_⟩⟩
    · by_cases z : i < 0
      · rw [if_pos z] at R0
        exact R0
      · rw [if_neg z] at R0
        cases ei : zs_ix y 4 with
        | none => rw [ei] at R0; exact R0
        | some w =>
          rw [ei] at R0
          simp only [] at R0
          rw [if_neg z3] at R0
          exact R0
    · refine k_KS_isAnswerPlace (fun w hw e z => ?_) (fun e => ?_)
      · rw [if_neg z, e, zs_ix_of hw (by decide)] at hR R0
        simp only [z3, if_true] at hR R0
        simp only [↓zq, ↓reduceIte, zr_si2, zr_sr1, zr_cp2, zr_tl, zr_tn, shq, List.contains_nil, List.contains_cons, Nat.reduceBEq, Bool.false_or, Bool.or_false, Bool.true_or, Bool.false_eq_true, if_false, if_true, true_and, and_true, List.set_cons_zero, List.set_cons_succ, List.length_cons, List.length_nil, Nat.reduceAdd, Nat.reduceLeDiff, Nat.le_refl, Nat.zero_le, true_or, or_true, zn_cl, ↓jj_KS_answerBy, q1]
        refine ⟨fun _ => ?_, fun z => absurd z (by decide)⟩
        cases hq : Q.1
        · rw [hq] at R0
          simp only [Bool.false_eq_true, if_true, if_false] at R0 ⊢
          exact ⟨fun z => absurd trivial z, fun _ => R0⟩
        · simp only [hq, Bool.true_eq_false, if_false, if_true] at hR R0 ⊢
          refine ⟨fun _ => ⟨fun _ => ?_, fun z => absurd trivial z⟩, fun z => absurd z (by decide)⟩
          exact fin none w hw hq z e (fun s' hs' => (by cases hs')) hR
      · simp only [↓zq, ↓reduceIte, zr_si2, zr_sr1, zr_cp2, zr_tl, zr_tn, shq, List.contains_nil, List.contains_cons, Nat.reduceBEq, Bool.false_or, Bool.or_false, Bool.true_or, Bool.false_eq_true, if_false, if_true, true_and, and_true, List.set_cons_zero, List.set_cons_succ, List.length_cons, List.length_nil, Nat.reduceAdd, Nat.reduceLeDiff, Nat.le_refl, Nat.zero_le, true_or, or_true, zn_cl, ↓jj_KS_answerBy]
        exact ⟨fun z => absurd trivial z, fun _ => bad e⟩
set_option maxHeartbeats 4000000 in
set_option maxRecDepth 100000 in
theorem k_KS_unlike {d : Nat} {h : zm_M} {R : zm_R} {pi : Nat → Nat} {F : zs_F} {sp : Nat → Nat} {U : zs_U} {Q : zs_Q} {x : Int32} (hC : zC h pi F sp U Q) (hR : ∀ h' : zm_M, zc_fr h h' → R (some (.inl (A_unlike F sp U Q x))) h') : zm_C (d + 7) TT m_KS_unlike [.inr (some 0), .inl x] h R := by
  obtain ⟨p0, p1, p2, p4, p5, p6, p7, p9, p10, p11, p12, p14⟩ := zC_p hC
  obtain ⟨c1, c2, ⟨c3, c3w⟩, ⟨c4, c4w⟩, ⟨c7, c8⟩, c9, c10⟩ := id hC
  have h8 := c8.1
  unfold A_unlike at hR
  have R0 := hR h (zc_fr.rf h)
  refine st_KS_unlike [] 9 ?_
  simp only [↓zq, ↓reduceIte, zr_si2, zr_sr1, zr_cp2, zr_tl, zr_tn, shq, List.contains_nil, List.contains_cons, Nat.reduceBEq, Bool.false_or, Bool.or_false, Bool.true_or, Bool.false_eq_true, if_false, if_true, true_and, and_true, List.set_cons_zero, List.set_cons_succ, List.length_cons, List.length_nil, Nat.reduceAdd, Nat.reduceLeDiff, Nat.le_refl, Nat.zero_le, true_or, or_true, zn_cl, ↓jj_KS_unlike, p6]
  refine k_Shelf_at hC (fun s hs e => ?_) (fun e => ?_)
  · subst e
    rw [zs_ix_of hs (by omega)] at hR R0
    simp only [] at hR R0
    simp only [↓zq, ↓reduceIte, zr_si2, zr_sr1, zr_cp2, zr_tl, zr_tn, shq, List.contains_nil, List.contains_cons, Nat.reduceBEq, Bool.false_or, Bool.or_false, Bool.true_or, Bool.false_eq_true, if_false, if_true, true_and, and_true, List.set_cons_zero, List.set_cons_succ, List.length_cons, List.length_nil, Nat.reduceAdd, Nat.reduceLeDiff, Nat.le_refl, Nat.zero_le, true_or, or_true, zn_cl, ↓jj_KS_unlike]
    refine ⟨fun _ => ?_, fun z => (by cases z)⟩
    refine k_KS_isCovering hC hs ?_
    simp only [↓zq, ↓reduceIte, zr_si2, zr_sr1, zr_cp2, zr_tl, zr_tn, shq, List.contains_nil, List.contains_cons, Nat.reduceBEq, Bool.false_or, Bool.or_false, Bool.true_or, Bool.false_eq_true, if_false, if_true, true_and, and_true, List.set_cons_zero, List.set_cons_succ, List.length_cons, List.length_nil, Nat.reduceAdd, Nat.reduceLeDiff, Nat.le_refl, Nat.zero_le, true_or, or_true, zn_cl, ↓jj_KS_unlike]
    obtain ⟨wr, w1, w2, wu⟩ := c8.2 s hs
    by_cases ec : Q.1 = true ∧ zs_cov sp (U.2 s) Q.2 = true
    · rw [if_pos ec] at hR
      rw [if_pos ec]
      obtain ⟨wq, wq2⟩ := c10 ec.1
      have h4 := (zs_cov_in ec.2 w2 wq2).2
      refine ⟨fun _ => ?_, fun z => absurd z (by decide)⟩
      refine k_KS_tallyAnswerS hC ec.1 hs (fun g e1 e2 e3 e4 => ?_)
      simp only [↓zq, ↓reduceIte, zr_si2, zr_sr1, zr_cp2, zr_tl, zr_tn, shq, List.contains_nil, List.contains_cons, Nat.reduceBEq, Bool.false_or, Bool.or_false, Bool.true_or, Bool.false_eq_true, if_false, if_true, true_and, and_true, List.set_cons_zero, List.set_cons_succ, List.length_cons, List.length_nil, Nat.reduceAdd, Nat.reduceLeDiff, Nat.le_refl, Nat.zero_le, true_or, or_true, zn_cl, ↓jj_KS_unlike]
      have gC := zC_fr e1 hC
      refine k_KS_tallyAnswerF gC ec.1 (fun g2 f1 f2 f3 => ?_)
      have gC2 := zC_fr f1 gC
      have q7 : g2.2 0 7 = some 70 := by have := gC2.1; simp only [this]
      have qw := (gC2.2.2.2.2.2.1.2 ec.1).2
      simp only [↓zq, ↓reduceIte, zr_si2, zr_sr1, zr_cp2, zr_tl, zr_tn, shq, List.contains_nil, List.contains_cons, Nat.reduceBEq, Bool.false_or, Bool.or_false, Bool.true_or, Bool.false_eq_true, if_false, if_true, true_and, and_true, List.set_cons_zero, List.set_cons_succ, List.length_cons, List.length_nil, Nat.reduceAdd, Nat.reduceLeDiff, Nat.le_refl, Nat.zero_le, true_or, or_true, zn_cl, ↓jj_KS_unlike, q7, qw]
      have lA : ∀ k, k < 512 → zs_val (zs_tabA sp F (U.2 s) Q.2) (zs_sg sp Q.2 F) (Q.2 6) k < 2 ^ 20 := fun k _ => by
        have : zs_val (zs_tabA sp F (U.2 s) Q.2) (zs_sg sp Q.2 F) (Q.2 6) k ≤ 24000 := zs_at_le (o := some s) (Q := Q) c4w c3w c8 (fun s' hs' => by cases hs'; exact hs) k
        omega
      have lF : ∀ k, k < 512 → zs_val (zs_tabF sp F Q.2) (zs_sg sp Q.2 F) (Q.2 6) k < 2 ^ 20 := fun k _ => by
        have : zs_val (zs_tabF sp F Q.2) (zs_sg sp Q.2 F) (Q.2 6) k ≤ 24000 := zs_at_le (o := none) (U := U) (Q := Q) c4w c3w c8 (fun s' hs' => by cases hs') k
        omega
      refine k_Table_unlikeGroups (B := 240) (s1 := zs_sg sp Q.2 F) (s2 := zs_sg sp Q.2 F) (zk_tabs gC2.1 (Or.inr (Or.inr rfl))) ⟨zc_T_fr e4 (fun a a1 a2 => f2 a (by omega)), fun z => absurd z (by omega)⟩ (zw_T_A c4w c3w wu) (zk_tabs gC2.1 (Or.inr (Or.inl rfl))) f3 (zw_T_F c3w) (by decide) wq2 lA lF ?_
      simp only [↓zq, ↓reduceIte, zr_si2, zr_sr1, zr_cp2, zr_tl, zr_tn, shq, List.contains_nil, List.contains_cons, Nat.reduceBEq, Bool.false_or, Bool.or_false, Bool.true_or, Bool.false_eq_true, if_false, if_true, true_and, and_true, List.set_cons_zero, List.set_cons_succ, List.length_cons, List.length_nil, Nat.reduceAdd, Nat.reduceLeDiff, Nat.le_refl, Nat.zero_le, true_or, or_true, zn_cl, ↓jj_KS_unlike]
      exact hR g2 (e1.tr f1)
    · rw [if_neg ec] at R0
      rw [if_neg ec]
      exact ⟨fun z => absurd rfl z, fun _ => R0⟩
  · rw [zs_ix_no2 (by omega) e] at R0
    simp only [↓zq, ↓reduceIte, zr_si2, zr_sr1, zr_cp2, zr_tl, zr_tn, shq, List.contains_nil, List.contains_cons, Nat.reduceBEq, Bool.false_or, Bool.or_false, Bool.true_or, Bool.false_eq_true, if_false, if_true, true_and, and_true, List.set_cons_zero, List.set_cons_succ, List.length_cons, List.length_nil, Nat.reduceAdd, Nat.reduceLeDiff, Nat.le_refl, Nat.zero_le, true_or, or_true, zn_cl, ↓jj_KS_unlike]
    exact ⟨fun z => absurd trivial z, fun _ => R0⟩
set_option maxHeartbeats 4000000 in
set_option maxRecDepth 100000 in
theorem k_KS_madeOf {d : Nat} {h : zm_M} {R : zm_R} {pi : Nat → Nat} {F : zs_F} {sp : Nat → Nat} {U : zs_U} {Q : zs_Q} {x : Int32} (hC : zC h pi F sp U Q) (hR : R (some (.inl (A_madeOf sp U x))) h) : zm_C (d + 6) TT m_KS_madeOf [.inr (some 0), .inl x] h R := by
  obtain ⟨p0, p1, p2, p4, p5, p6, p7, p9, p10, p11, p12, p14⟩ := zC_p hC
  obtain ⟨c1, c2, ⟨c3, c3w⟩, ⟨c4, c4w⟩, ⟨c7, c8⟩, c9, c10⟩ := id hC
  have h8 := c8.1
  have u1 := c7.1
  unfold A_madeOf at hR
  have main : ∀ s, s < U.1 → x = nI s → zm_W (zm_md m_KS_madeOf) (d + 6) TT R 15 [some (.inr (some 0)), some (.inl x), some (.inr (some (38 + 4 * pi s))), none, none, none] [] h := by
    intro s hs e
    subst e
    rw [zs_ix_of hs (by omega)] at hR
    simp only [] at hR
    have hp := (c2.1 s (by omega)).2
    obtain ⟨k1, k2, k3⟩ := zk_sums c1 hp
    obtain ⟨y1, y2, y3, y4⟩ := c7.2 s hs
    obtain ⟨wr, w1, w2, wu⟩ := c8.2 s hs
    have k31 := k3.1
    have loop : ∀ (n i : Nat), i + n = U.1 → ∀ o, zm_W (zm_md m_KS_madeOf) (d + 6) TT R 20 [some (.inr (some 0)), some (.inl (nI s)), some (.inr (some (38 + 4 * pi s))), some (.inl (nI (zs_bits (zs_can sp U s) i))), some (.inl (nI i)), o] [] h := by
      intro n
      induction n with
      | zero =>
        intro i hi o
        have : i = U.1 := by omega
        rw [this]
        refine zm_go g_KS_madeOf [20] 30 (by decide +kernel) ok_KS_madeOf _ rfl ?_
        simp only [↓zq, ↓reduceIte, zr_si2, zr_sr1, zr_cp2, zr_tl, zr_tn, shq, List.contains_nil, List.contains_cons, Nat.reduceBEq, Bool.false_or, Bool.or_false, Bool.true_or, Bool.false_eq_true, if_false, if_true, true_and, and_true, List.set_cons_zero, List.set_cons_succ, List.length_cons, List.length_nil, Nat.reduceAdd, Nat.reduceLeDiff, Nat.le_refl, Nat.zero_le, true_or, or_true, zn_cl, ↓jj_KS_madeOf, p6, u1]
        exact ⟨fun _ => hR, fun z => absurd (Int32.le_refl _) z⟩
      | succ n ih =>
        intro i hi o
        have hiU : i < U.1 := by omega
        have ih := ih (i + 1) (by omega)
        rw [zs_bits] at ih
        have hpi := (c2.1 i (by omega)).2
        obtain ⟨m1, m2, m3⟩ := zk_sums c1 hpi
        obtain ⟨z1, z2, z3, z4⟩ := c7.2 i hiU
        obtain ⟨vr, v1, v2, vu⟩ := c8.2 i hiU
        have m31 := m3.1
        have bl := zs_bits_lt (zs_can sp U s) i
        refine zm_go g_KS_madeOf [20] 30 (by decide +kernel) ok_KS_madeOf _ rfl ?_
        simp only [↓zq, ↓reduceIte, zr_si2, zr_sr1, zr_cp2, zr_tl, zr_tn, shq, List.contains_nil, List.contains_cons, Nat.reduceBEq, Bool.false_or, Bool.or_false, Bool.true_or, Bool.false_eq_true, if_false, if_true, true_and, and_true, List.set_cons_zero, List.set_cons_succ, List.length_cons, List.length_nil, Nat.reduceAdd, Nat.reduceLeDiff, Nat.le_refl, Nat.zero_le, true_or, or_true, zn_cl, ↓jj_KS_madeOf, p6, u1]
        refine ⟨fun z => absurd z (nI_ge hiU (by omega)), fun _ => ?_⟩
        refine k_Shelf_at hC (fun s' hs' e => ?_) (fun z => absurd rfl (z i hiU))
        have e := (nI_eq (by omega) (by omega)).mp e
        subst e
        simp only [↓zq, ↓reduceIte, zr_si2, zr_sr1, zr_cp2, zr_tl, zr_tn, shq, List.contains_nil, List.contains_cons, Nat.reduceBEq, Bool.false_or, Bool.or_false, Bool.true_or, Bool.false_eq_true, if_false, if_true, true_and, and_true, List.set_cons_zero, List.set_cons_succ, List.length_cons, List.length_nil, Nat.reduceAdd, Nat.reduceLeDiff, Nat.le_refl, Nat.zero_le, true_or, or_true, zn_cl, ↓jj_KS_madeOf, k1, k2, k31, y2, m1, m2, m31, p4, nI_1]
        rw [zn_eq (by omega) (by omega)]
        refine ⟨fun e => ?_, fun e => ⟨fun z => (by cases z), fun _ => ?_⟩⟩
        · rw [if_neg (by simp [zs_can, e]), Nat.add_zero] at ih
          exact ih _
        · refine k_Cut_keepsAll m31 z2 (by omega) (by omega) ?_
          simp only [↓zq, ↓reduceIte, zr_si2, zr_sr1, zr_cp2, zr_tl, zr_tn, shq, List.contains_nil, List.contains_cons, Nat.reduceBEq, Bool.false_or, Bool.or_false, Bool.true_or, Bool.false_eq_true, if_false, if_true, true_and, and_true, List.set_cons_zero, List.set_cons_succ, List.length_cons, List.length_nil, Nat.reduceAdd, Nat.reduceLeDiff, Nat.le_refl, Nat.zero_le, true_or, or_true, zn_cl, ↓jj_KS_madeOf, k1, k2, k31, y2, m1, m2, m31, p4, nI_1]
          by_cases e2 : U.2 i 6 &&& U.2 s 6 = U.2 s 6
          · rw [if_pos e2]
            refine ⟨fun z => absurd z (by decide), fun _ => ?_⟩
            refine k_Cut_coversSides m3 z1 vr k3 y1 wr (zk_shp28 c1) c4 c4w ?_
            simp only [↓zq, ↓reduceIte, zr_si2, zr_sr1, zr_cp2, zr_tl, zr_tn, shq, List.contains_nil, List.contains_cons, Nat.reduceBEq, Bool.false_or, Bool.or_false, Bool.true_or, Bool.false_eq_true, if_false, if_true, true_and, and_true, List.set_cons_zero, List.set_cons_succ, List.length_cons, List.length_nil, Nat.reduceAdd, Nat.reduceLeDiff, Nat.le_refl, Nat.zero_le, true_or, or_true, zn_cl, ↓jj_KS_madeOf, nI_1]
            cases e3 : zs_covS sp (U.2 i) (U.2 s)
            · simp only [Bool.false_eq_true, if_false]
              rw [if_neg (by simp [zs_can, e3]), Nat.add_zero] at ih
              exact ⟨fun _ => ih _, fun z => absurd trivial z⟩
            · simp only [if_true]
              rw [if_pos (by simp [zs_can, e, e2, e3])] at ih
              refine ⟨fun z => absurd z (by decide), fun _ => ?_⟩
              rw [zn_or8 i (by omega) _ bl]
              exact ih _
          · rw [if_neg e2]
            rw [if_neg (by simp [zs_can, e2]), Nat.add_zero] at ih
            exact ⟨fun _ => ih _, fun z => absurd rfl z⟩
    refine zm_go g_KS_madeOf [20] 30 (by decide +kernel) ok_KS_madeOf _ rfl ?_
    simp only [↓zq, ↓reduceIte, zr_si2, zr_sr1, zr_cp2, zr_tl, zr_tn, shq, List.contains_nil, List.contains_cons, Nat.reduceBEq, Bool.false_or, Bool.or_false, Bool.true_or, Bool.false_eq_true, if_false, if_true, true_and, and_true, List.set_cons_zero, List.set_cons_succ, List.length_cons, List.length_nil, Nat.reduceAdd, Nat.reduceLeDiff, Nat.le_refl, Nat.zero_le, true_or, or_true, zn_cl, ↓jj_KS_madeOf]
    exact loop U.1 0 (by omega) _
  refine st_KS_madeOf [15] 9 ?_
  simp only [↓zq, ↓reduceIte, zr_si2, zr_sr1, zr_cp2, zr_tl, zr_tn, shq, List.contains_nil, List.contains_cons, Nat.reduceBEq, Bool.false_or, Bool.or_false, Bool.true_or, Bool.false_eq_true, if_false, if_true, true_and, and_true, List.set_cons_zero, List.set_cons_succ, List.length_cons, List.length_nil, Nat.reduceAdd, Nat.reduceLeDiff, Nat.le_refl, Nat.zero_le, true_or, or_true, zn_cl, ↓jj_KS_madeOf, p6]
  refine k_Shelf_at hC (fun s hs e => ?_) (fun e => ?_)
  · have main := main s hs e
    simp only [↓zq, ↓reduceIte, zr_si2, zr_sr1, zr_cp2, zr_tl, zr_tn, shq, List.contains_nil, List.contains_cons, Nat.reduceBEq, Bool.false_or, Bool.or_false, Bool.true_or, Bool.false_eq_true, if_false, if_true, true_and, and_true, List.set_cons_zero, List.set_cons_succ, List.length_cons, List.length_nil, Nat.reduceAdd, Nat.reduceLeDiff, Nat.le_refl, Nat.zero_le, true_or, or_true, zn_cl, ↓jj_KS_madeOf]
    exact ⟨fun _ => main, fun z => (by cases z)⟩
  · rw [zs_ix_no2 (by omega) e] at hR
    simp only [↓zq, ↓reduceIte, zr_si2, zr_sr1, zr_cp2, zr_tl, zr_tn, shq, List.contains_nil, List.contains_cons, Nat.reduceBEq, Bool.false_or, Bool.or_false, Bool.true_or, Bool.false_eq_true, if_false, if_true, true_and, and_true, List.set_cons_zero, List.set_cons_succ, List.length_cons, List.length_nil, Nat.reduceAdd, Nat.reduceLeDiff, Nat.le_refl, Nat.zero_le, true_or, or_true, zn_cl, ↓jj_KS_madeOf]
    exact ⟨fun z => absurd trivial z, fun _ => hR⟩
