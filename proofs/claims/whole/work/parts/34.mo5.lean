/-! into which group one of a summary goes -/
theorem zs_own_tb (sp : Nat → Nat) (side lev lets n v : Nat) : (zs_own sp side lev lets n).testBit v = (decide (v < 8) && (lets.testBit v && decide (zs_num sp side lev v = n))) := zs_bits_tb _ 8 v
theorem zs_gi {sp row q : Nat → Nat} {key i : Nat} (hw : zw_R row) (hwq : zw_R q) (hi : i < 3) (hc : zs_cov1 sp row q i = true) :
    (zs_fst (zs_own sp i (row i) (row (3 + i)) (zs_dig key i)) 8 = none → zs_lie1 sp row q key i = false) ∧
    ∀ v, zs_fst (zs_own sp i (row i) (row (3 + i)) (zs_dig key i)) 8 = some v → v < 8 ∧ (q (3 + i)).testBit v = zs_lie1 sp row q key i ∧ (zs_lie1 sp row q key i = true → zs_num sp i (q i) v = zs_rn sp row q key i) := by
  unfold zs_cov1 at hc
  simp only [Bool.and_eq_true, decide_eq_true_eq, List.all_eq_true, List.mem_range] at hc
  obtain ⟨⟨h1, h2⟩, h3⟩ := hc
  have h4 := h3 (zs_dig key i) (zs_dig_lt _ _)
  simp only [zs_whl, Bool.or_eq_true, decide_eq_true_eq] at h4
  have lo := zs_own_lt sp i (row i) (row (3 + i)) (zs_dig key i)
  constructor
  · intro hn
    have hz : zs_own sp i (row i) (row (3 + i)) (zs_dig key i) = 0 := by
      apply Nat.eq_of_testBit_eq
      intro v
      rw [Nat.zero_testBit]
      by_cases hv : v < 8
      · exact zs_fst_none 8 hn v hv
      · rw [zs_own_tb]
        simp [hv]
    simp [zs_lie1, hz]
  · intro v hv
    obtain ⟨v8, vb⟩ := zs_fst_some 8 hv
    have vb2 := vb
    rw [zs_own_tb] at vb2
    simp only [Bool.and_eq_true, decide_eq_true_eq] at vb2
    have hlie : zs_lie1 sp row q key i = (q (3 + i)).testBit v := by
      rcases h4 with h4 | h4
      · have : (zs_own sp i (row i) (row (3 + i)) (zs_dig key i) &&& q (3 + i)).testBit v = false := by rw [h4, Nat.zero_testBit]
        rw [Nat.testBit_and, vb, Bool.true_and] at this
        simp [zs_lie1, h4, this]
      · have : (zs_own sp i (row i) (row (3 + i)) (zs_dig key i) &&& q (3 + i)).testBit v = true := by rw [h4]; exact vb
        rw [Nat.testBit_and, vb, Bool.true_and] at this
        have hne : ¬ zs_own sp i (row i) (row (3 + i)) (zs_dig key i) = 0 := fun e => by rw [e, Nat.zero_testBit] at vb; cases vb
        simp [zs_lie1, h4, this, hne]
    refine ⟨v8, hlie.symm, fun _ => ?_⟩
    unfold zs_rn
    have hnum := vb2.2.2
    have l1 := (zw_R_at hw hi).1
    have l2 := (zw_R_at hwq hi).1
    by_cases e : row i = q i
    · rw [if_pos e, ← e]
      exact hnum
    · rw [if_neg e]
      by_cases e0 : row i = 0
      · rw [if_pos e0]
        rw [e0] at hnum
        have : v = zs_dig key i := by simpa [zs_num] using hnum
        rw [this]
      · rw [if_neg e0]
        have : q i = 2 := by omega
        rw [this]
        simp [zs_num]
set_option maxHeartbeats 4000000 in
set_option maxRecDepth 100000 in
theorem k_Mo_goesInto {d : Nat} {h : zm_M} {R : zm_R} {F : zs_F} {sp : Nat → Nat} {U : zs_U} {Q : zs_Q} {s key : Nat} (hO : zO h F sp U Q) (hq : Q.1 = true) (hs : s < U.1) (hk : key < 512) (hcov : zs_covS sp (U.2 s) Q.2 = true) (hR : R (some (.inl (if zs_lies sp (U.2 s) Q.2 key = true then nI (zs_rk sp (U.2 s) Q.2 key) else -1))) h) : zm_C (d + 4) TT m_Mo_goesInto [.inr (some 133), .inl (nI s), .inl (nI key)] h R := by
  obtain ⟨o1, ⟨o2, o2w⟩, ⟨o3, o3w⟩, ⟨o4, o4w⟩, o5, o6⟩ := id hO
  obtain ⟨wr, w1, w2, wu⟩ := o4w.2 s hs
  obtain ⟨wq, wq2⟩ := o6 hq
  obtain ⟨p4, p5, p6, p7, p35, p37, p38, p39, p40⟩ := zp_m o1
  have hc : ∀ i, i < 3 → zs_cov1 sp (U.2 s) Q.2 i = true := by
    unfold zs_covS at hcov
    simp only [Bool.and_eq_true] at hcov
    intro i hi
    rcases (show i = 0 ∨ i = 1 ∨ i = 2 by omega) with rfl | rfl | rfl
    · exact hcov.1.1
    · exact hcov.1.2
    · exact hcov.2
  have no : ∀ i, i < 3 → zs_lie1 sp (U.2 s) Q.2 key i = false → R (some (.inl (-1))) h := by
    intro i hi e
    rw [if_neg] at hR
    · exact hR
    · intro z
      unfold zs_lies at z
      have := List.all_eq_true.mp z i (List.mem_range.mpr hi)
      rw [e] at this
      cases this
  have step : ∀ (i acc : Nat), i < 3 → acc < 64 → (zs_lie1 sp (U.2 s) Q.2 key i = true → ∀ o, zm_W (zm_md m_Mo_goesInto) (d + 4) TT R 5 [some (.inr (some 133)), some (.inl (nI s)), some (.inl (nI key)), some (.inl (nI (8 * acc + zs_rn sp (U.2 s) Q.2 key i))), some (.inl (nI (i + 1))), o] [] h) → ∀ o, zm_W (zm_md m_Mo_goesInto) (d + 4) TT R 5 [some (.inr (some 133)), some (.inl (nI s)), some (.inl (nI key)), some (.inl (nI acc)), some (.inl (nI i)), o] [] h := by
    intro i acc hi ha h1 o
    obtain ⟨g1, g2⟩ := zs_gi (key := key) wr wq hi (hc i hi)
    have e4 : (3 : Int32) + nI i = nI (3 + i) := nI_add 3 i
    have hv1 : vp_in (nI (3 + i)) 7 := vp_in_nI (by omega) (by omega)
    have hv2 : vp_in (nI i) 7 := vp_in_nI (by omega) (by omega)
    have hc1 := nI_clamp (show 3 + i < 2 ^ 31 by omega)
    have hc2 := nI_clamp (show i < 2 ^ 31 by omega)
    have hr1 := o5.2 hq (3 + i) (by omega)
    have hr2 := o5.2 hq i (by omega)
    refine zm_go g_Mo_goesInto [5] 30 (by decide +kernel) ok_Mo_goesInto _ rfl ?_
    simp only [↓zq, ↓reduceIte, zr_si2, zr_sr1, zr_cp2, zr_tl, zr_tn, shq, List.contains_nil, List.contains_cons, Nat.reduceBEq, Bool.false_or, Bool.or_false, Bool.true_or, Bool.false_eq_true, if_false, if_true, true_and, and_true, List.set_cons_zero, List.set_cons_succ, List.length_cons, List.length_nil, Nat.reduceAdd, Nat.reduceLeDiff, Nat.le_refl, Nat.zero_le, true_or, or_true, zn_cl, ↓jj_Mo_goesInto, nI_1]
    refine ⟨fun z => absurd z (nI_ge (b := 3) hi (by decide)), fun _ => ?_⟩
    refine k_Mo_numberOf hk hi ?_
    simp only [↓zq, ↓reduceIte, zr_si2, zr_sr1, zr_cp2, zr_tl, zr_tn, shq, List.contains_nil, List.contains_cons, Nat.reduceBEq, Bool.false_or, Bool.or_false, Bool.true_or, Bool.false_eq_true, if_false, if_true, true_and, and_true, List.set_cons_zero, List.set_cons_succ, List.length_cons, List.length_nil, Nat.reduceAdd, Nat.reduceLeDiff, Nat.le_refl, Nat.zero_le, true_or, or_true, zn_cl, ↓jj_Mo_goesInto, nI_1]
    refine k_Mo_standsFor hO hs hi (zs_dig_lt _ _) ?_
    cases e : zs_fst (zs_own sp i (U.2 s i) (U.2 s (3 + i)) (zs_dig key i)) 8 with
    | none =>
      simp only [↓zq, ↓reduceIte, zr_si2, zr_sr1, zr_cp2, zr_tl, zr_tn, shq, List.contains_nil, List.contains_cons, Nat.reduceBEq, Bool.false_or, Bool.or_false, Bool.true_or, Bool.false_eq_true, if_false, if_true, true_and, and_true, List.set_cons_zero, List.set_cons_succ, List.length_cons, List.length_nil, Nat.reduceAdd, Nat.reduceLeDiff, Nat.le_refl, Nat.zero_le, true_or, or_true, zn_cl, ↓jj_Mo_goesInto, nI_1, zs_opt]
      exact ⟨fun _ => no i hi (g1 e), fun z => absurd trivial z⟩
    | some v =>
      obtain ⟨v8, vq, vn⟩ := g2 v e
      have hne : ∀ v, v < 8 → ¬ nI v = -1 := by decide
      simp only [↓zq, ↓reduceIte, zr_si2, zr_sr1, zr_cp2, zr_tl, zr_tn, shq, List.contains_nil, List.contains_cons, Nat.reduceBEq, Bool.false_or, Bool.or_false, Bool.true_or, Bool.false_eq_true, if_false, if_true, true_and, and_true, List.set_cons_zero, List.set_cons_succ, List.length_cons, List.length_nil, Nat.reduceAdd, Nat.reduceLeDiff, Nat.le_refl, Nat.zero_le, true_or, or_true, zn_cl, ↓jj_Mo_goesInto, nI_1, zs_opt, p35, e4, hv1, hc1, hr1]
      refine ⟨fun z => absurd z (hne v v8), fun _ => ?_⟩
      refine k_Mo_has (zw_R_at wq hi).2 v8 ?_
      rw [vq]
      cases e2 : zs_lie1 sp (U.2 s) Q.2 key i
      · simp only [↓zq, ↓reduceIte, zr_si2, zr_sr1, zr_cp2, zr_tl, zr_tn, shq, List.contains_nil, List.contains_cons, Nat.reduceBEq, Bool.false_or, Bool.or_false, Bool.true_or, Bool.false_eq_true, if_false, if_true, true_and, and_true, List.set_cons_zero, List.set_cons_succ, List.length_cons, List.length_nil, Nat.reduceAdd, Nat.reduceLeDiff, Nat.le_refl, Nat.zero_le, true_or, or_true, zn_cl, ↓jj_Mo_goesInto, nI_1]
        exact ⟨fun z => absurd trivial z, fun _ => no i hi e2⟩
      · simp only [↓zq, ↓reduceIte, zr_si2, zr_sr1, zr_cp2, zr_tl, zr_tn, shq, List.contains_nil, List.contains_cons, Nat.reduceBEq, Bool.false_or, Bool.or_false, Bool.true_or, Bool.false_eq_true, if_false, if_true, true_and, and_true, List.set_cons_zero, List.set_cons_succ, List.length_cons, List.length_nil, Nat.reduceAdd, Nat.reduceLeDiff, Nat.le_refl, Nat.zero_le, true_or, or_true, zn_cl, ↓jj_Mo_goesInto, nI_1, p35, hv2, hc2, hr2]
        refine ⟨fun _ => ?_, fun z => absurd z (by decide)⟩
        refine k_Mo_numberAt p6 o3 hi (zw_R_at wq hi).1 v8 ?_
        simp only [↓zq, ↓reduceIte, zr_si2, zr_sr1, zr_cp2, zr_tl, zr_tn, shq, List.contains_nil, List.contains_cons, Nat.reduceBEq, Bool.false_or, Bool.or_false, Bool.true_or, Bool.false_eq_true, if_false, if_true, true_and, and_true, List.set_cons_zero, List.set_cons_succ, List.length_cons, List.length_nil, Nat.reduceAdd, Nat.reduceLeDiff, Nat.le_refl, Nat.zero_le, true_or, or_true, zn_cl, ↓jj_Mo_goesInto, nI_1, zn_8, nI_add]
        rw [vn e2]
        exact h1 e2 _
  have r0 := zs_rn_lt (row := U.2 s) (q := Q.2) (key := key) o3w (show 0 < 3 by decide)
  have r1 := zs_rn_lt (row := U.2 s) (q := Q.2) (key := key) o3w (show 1 < 3 by decide)
  refine st_Mo_goesInto [5] 30 ?_
  simp only [↓zq, ↓reduceIte, zr_si2, zr_sr1, zr_cp2, zr_tl, zr_tn, shq, List.contains_nil, List.contains_cons, Nat.reduceBEq, Bool.false_or, Bool.or_false, Bool.true_or, Bool.false_eq_true, if_false, if_true, true_and, and_true, List.set_cons_zero, List.set_cons_succ, List.length_cons, List.length_nil, Nat.reduceAdd, Nat.reduceLeDiff, Nat.le_refl, Nat.zero_le, true_or, or_true, zn_cl, ↓jj_Mo_goesInto]
  refine step 0 0 (by decide) (by decide) (fun l0 o => ?_) _
  refine step 1 _ (by decide) (by omega) (fun l1 o => ?_) _
  refine step 2 _ (by decide) (by omega) (fun l2 o => ?_) _
  refine zm_go g_Mo_goesInto [5] 30 (by decide +kernel) ok_Mo_goesInto _ rfl ?_
  simp only [↓zq, ↓reduceIte, zr_si2, zr_sr1, zr_cp2, zr_tl, zr_tn, shq, List.contains_nil, List.contains_cons, Nat.reduceBEq, Bool.false_or, Bool.or_false, Bool.true_or, Bool.false_eq_true, if_false, if_true, true_and, and_true, List.set_cons_zero, List.set_cons_succ, List.length_cons, List.length_nil, Nat.reduceAdd, Nat.reduceLeDiff, Nat.le_refl, Nat.zero_le, true_or, or_true, zn_cl, ↓jj_Mo_goesInto]
  refine ⟨fun _ => ?_, fun z => absurd (by decide) z⟩
  rw [if_pos] at hR
  · unfold zs_rk at hR
    rw [show 8 * (8 * (8 * 0 + zs_rn sp (U.2 s) Q.2 key 0) + zs_rn sp (U.2 s) Q.2 key 1) + zs_rn sp (U.2 s) Q.2 key 2 = 64 * zs_rn sp (U.2 s) Q.2 key 0 + 8 * zs_rn sp (U.2 s) Q.2 key 1 + zs_rn sp (U.2 s) Q.2 key 2 by omega]
    exact hR
  · unfold zs_lies
    simp only [List.all_eq_true, List.mem_range]
    intro k hk3
    rcases (show k = 0 ∨ k = 1 ∨ k = 2 by omega) with rfl | rfl | rfl
    · exact l0
    · exact l1
    · exact l2
set_option maxHeartbeats 4000000 in
set_option maxRecDepth 100000 in
theorem k_Mo_takenOf {d : Nat} {h : zm_M} {R : zm_R} {F : zs_F} {sp : Nat → Nat} {U : zs_U} {Q : zs_Q} {s : Nat} (hO : zO h F sp U Q) (hq : Q.1 = true) (hs : s < U.1) (hcov : zs_covS sp (U.2 s) Q.2 = true) (hR : ∀ h' : zm_M, zo_f4 h h' → R (some (.inl (nI (zs_ins sp (U.2 s) Q.2 (zs_tabS sp F (U.2 s)) 512)))) h') : zm_C (d + 5) TT m_Mo_takenOf [.inr (some 133), .inl (nI s)] h R := by
  obtain ⟨o1, ⟨o2, o2w⟩, ⟨o3, o3w⟩, ⟨o4, o4w⟩, o5, o6⟩ := id hO
  obtain ⟨wr, w1, w2, wu⟩ := o4w.2 s hs
  have wS := zw_T_S (sp := sp) (row := U.2 s) o2w wu
  have loop : ∀ g : zm_M, zo_f4 h g → zo_T g.1 (zs_tabS sp F (U.2 s)) → ∀ (n i : Nat), i + n = 512 → zm_W (zm_md m_Mo_takenOf) (d + 5) TT R 9 [some (.inr (some 133)), some (.inl (nI s)), some (.inl (nI (zs_ins sp (U.2 s) Q.2 (zs_tabS sp F (U.2 s)) i))), some (.inl (nI i))] [] g := by
    intro g e1 e2 n
    have hO' := zO_f4 e1 hO
    obtain ⟨p4, p5, p6, p7, p35, p37, p38, p39, p40⟩ := zp_m hO'.1
    induction n with
    | zero =>
      intro i hi
      have : i = 512 := by omega
      subst this
      have hR := hR g e1
      generalize zs_ins sp (U.2 s) Q.2 (zs_tabS sp F (U.2 s)) 512 = x at hR ⊢
      refine zm_go g_Mo_takenOf [9] 30 (by decide +kernel) ok_Mo_takenOf _ rfl ?_
      simp only [↓zq, ↓reduceIte, zr_si2, zr_sr1, zr_cp2, zr_tl, zr_tn, shq, List.contains_nil, List.contains_cons, Nat.reduceBEq, Bool.false_or, Bool.or_false, Bool.true_or, Bool.false_eq_true, if_false, if_true, true_and, and_true, List.set_cons_zero, List.set_cons_succ, List.length_cons, List.length_nil, Nat.reduceAdd, Nat.reduceLeDiff, Nat.le_refl, Nat.zero_le, true_or, or_true, zn_cl, ↓jj_Mo_takenOf]
      exact ⟨fun _ => hR, fun z => absurd (Int32.le_refl _) z⟩
    | succ n ih =>
      intro i hi
      have hi5 : i < 512 := by omega
      have ih := ih (i + 1) (by omega)
      rw [zs_ins] at ih
      have hv : vp_in (nI i) 512 := vp_in_nI hi5 (by decide)
      have hcl := nI_clamp (show i < 2 ^ 31 by omega)
      have t1 := (e2 i hi5).1
      have hb := (wS i).1
      refine zm_go g_Mo_takenOf [9] 30 (by decide +kernel) ok_Mo_takenOf _ rfl ?_
      simp only [↓zq, ↓reduceIte, zr_si2, zr_sr1, zr_cp2, zr_tl, zr_tn, shq, List.contains_nil, List.contains_cons, Nat.reduceBEq, Bool.false_or, Bool.or_false, Bool.true_or, Bool.false_eq_true, if_false, if_true, true_and, and_true, List.set_cons_zero, List.set_cons_succ, List.length_cons, List.length_nil, Nat.reduceAdd, Nat.reduceLeDiff, Nat.le_refl, Nat.zero_le, true_or, or_true, zn_cl, ↓jj_Mo_takenOf, p38, hv, hcl, t1, nI_1]
      refine ⟨fun z => absurd z (nI_ge (b := 512) hi5 (by decide)), fun _ => ⟨fun z => ?_, fun z => ?_⟩⟩
      · have e : (zs_tabS sp F (U.2 s) i).1 = 0 := by
          have := (nI_leI (a := (zs_tabS sp F (U.2 s) i).1) (b := 0) (by omega) (by decide)).mp z
          omega
        rw [if_neg (fun zz => zz.1 e), Nat.add_zero] at ih
        exact ih
      · have e : ¬ (zs_tabS sp F (U.2 s) i).1 = 0 := fun e => z (by rw [e]; exact Int32.le_refl _)
        refine k_Mo_goesInto hO' hq hs hi5 hcov ?_
        cases e3 : zs_lies sp (U.2 s) Q.2 i
        · simp only [↓zq, ↓reduceIte, zr_si2, zr_sr1, zr_cp2, zr_tl, zr_tn, shq, List.contains_nil, List.contains_cons, Nat.reduceBEq, Bool.false_or, Bool.or_false, Bool.true_or, Bool.false_eq_true, if_false, if_true, true_and, and_true, List.set_cons_zero, List.set_cons_succ, List.length_cons, List.length_nil, Nat.reduceAdd, Nat.reduceLeDiff, Nat.le_refl, Nat.zero_le, true_or, or_true, zn_cl, ↓jj_Mo_takenOf, nI_1]
          rw [if_neg (by rw [e3]; simp), Nat.add_zero] at ih
          exact ⟨fun _ => ih, fun z => absurd trivial z⟩
        · simp only [↓zq, ↓reduceIte, zr_si2, zr_sr1, zr_cp2, zr_tl, zr_tn, shq, List.contains_nil, List.contains_cons, Nat.reduceBEq, Bool.false_or, Bool.or_false, Bool.true_or, Bool.false_eq_true, if_false, if_true, true_and, and_true, List.set_cons_zero, List.set_cons_succ, List.length_cons, List.length_nil, Nat.reduceAdd, Nat.reduceLeDiff, Nat.le_refl, Nat.zero_le, true_or, or_true, zn_cl, ↓jj_Mo_takenOf, nI_1]
          rw [if_pos ⟨e, e3⟩] at ih
          refine ⟨fun z => ?_, fun _ => ih⟩
          have := zs_rk_lt (row := U.2 s) (q := Q.2) (key := i) o3w
          have hp := nI_pos (show zs_rk sp (U.2 s) Q.2 i < 2 ^ 31 by omega)
          rw [z] at hp
          exact absurd (by decide) hp
  refine st_Mo_takenOf [9] 30 ?_
  simp only [↓zq, ↓reduceIte, zr_si2, zr_sr1, zr_cp2, zr_tl, zr_tn, shq, List.contains_nil, List.contains_cons, Nat.reduceBEq, Bool.false_or, Bool.or_false, Bool.true_or, Bool.false_eq_true, if_false, if_true, true_and, and_true, List.set_cons_zero, List.set_cons_succ, List.length_cons, List.length_nil, Nat.reduceAdd, Nat.reduceLeDiff, Nat.le_refl, Nat.zero_le, true_or, or_true, zn_cl, ↓jj_Mo_takenOf]
  refine k_Mo_laysSummary hO hs (fun g e1 e2 => ?_)
  simp only [↓zq, ↓reduceIte, zr_si2, zr_sr1, zr_cp2, zr_tl, zr_tn, shq, List.contains_nil, List.contains_cons, Nat.reduceBEq, Bool.false_or, Bool.or_false, Bool.true_or, Bool.false_eq_true, if_false, if_true, true_and, and_true, List.set_cons_zero, List.set_cons_succ, List.length_cons, List.length_nil, Nat.reduceAdd, Nat.reduceLeDiff, Nat.le_refl, Nat.zero_le, true_or, or_true, zn_cl, ↓jj_Mo_takenOf]
  exact loop g e1 e2 512 0 rfl
/-! the way: downward -/
def zs_wd (sp : Nat → Nat) (F : zs_F) (U : zs_U) (q : Nat → Nat) : Nat → Option Nat × Nat
  | 0 => (none, F.1)
  | n + 1 => if zs_cov sp (U.2 (U.1 - (n + 1))) q = true ∧ zs_cost sp F (U.2 (U.1 - (n + 1))) ≤ (zs_wd sp F U q n).2 then (some (U.1 - (n + 1)), zs_cost sp F (U.2 (U.1 - (n + 1)))) else zs_wd sp F U q n
theorem zs_wd_le {sp : Nat → Nat} {F : zs_F} {U : zs_U} {q : Nat → Nat} (hw : F.1 ≤ 240) : ∀ n, (zs_wd sp F U q n).2 ≤ 752
  | 0 => by unfold zs_wd; dsimp only; omega
  | n + 1 => by
    rw [zs_wd]
    split
    · exact zs_cost_le hw
    · exact zs_wd_le hw n
set_option maxHeartbeats 4000000 in
set_option maxRecDepth 100000 in
theorem k_Mo_wayNow0 {d : Nat} {h : zm_M} {R : zm_R} {F : zs_F} {sp : Nat → Nat} {U : zs_U} {Q : zs_Q} (hO : zO h F sp U Q) (hq : Q.1 = true) (hR : ∀ h' : zm_M, zo_f4 h h' → R (some (.inl (zs_wv (zs_wd sp F U Q.2 U.1).1))) h') : zm_C (d + 7) TT m_Mo_wayNow [.inr (some 133)] h R := by
  obtain ⟨o1, ⟨o2, o2w⟩, ⟨o3, o3w⟩, ⟨o4, o4w⟩, o5, o6⟩ := id hO
  have f1 := o2.1
  have u1 := o4.1
  have u8 := o4w.1
  have hw1 := o2w.1
  have loop : ∀ (n i : Nat), i + n = U.1 → ∀ g : zm_M, zo_f4 h g → zm_W (zm_md m_Mo_wayNow) (d + 7) TT R 15 [some (.inr (some 133)), some (.inl (zs_wv (zs_wd sp F U Q.2 i).1)), some (.inl (nI (zs_wd sp F U Q.2 i).2)), some (.inl (nI n - 1))] [] g := by
    intro n
    induction n with
    | zero =>
      intro i hi g e1
      have : i = U.1 := by omega
      subst this
      refine zm_go g_Mo_wayNow [15] 30 (by decide +kernel) ok_Mo_wayNow _ rfl ?_
      simp only [↓zq, ↓reduceIte, zr_si2, zr_sr1, zr_cp2, zr_tl, zr_tn, shq, List.contains_nil, List.contains_cons, Nat.reduceBEq, Bool.false_or, Bool.or_false, Bool.true_or, Bool.false_eq_true, if_false, if_true, true_and, and_true, List.set_cons_zero, List.set_cons_succ, List.length_cons, List.length_nil, Nat.reduceAdd, Nat.reduceLeDiff, Nat.le_refl, Nat.zero_le, true_or, or_true, zn_cl, ↓jj_Mo_wayNow]
      exact ⟨fun _ => hR g e1, fun z => absurd (by decide) z⟩
    | succ n ih =>
      intro i hi g e1
      have hO' := zO_f4 e1 hO
      have ih := ih (i + 1) (by omega)
      have hui : U.1 - (i + 1) = n := by omega
      rw [zs_wd, hui] at ih
      have hcl := zs_cost_le (sp := sp) (row := U.2 n) hw1
      have wl := zs_wd_le (sp := sp) (F := F) (U := U) (q := Q.2) hw1 i
      rw [nI_pred]
      have em : nI n + -1 = nI n - 1 := by grind
      refine zm_go g_Mo_wayNow [15] 30 (by decide +kernel) ok_Mo_wayNow _ rfl ?_
      simp only [↓zq, ↓reduceIte, zr_si2, zr_sr1, zr_cp2, zr_tl, zr_tn, shq, List.contains_nil, List.contains_cons, Nat.reduceBEq, Bool.false_or, Bool.or_false, Bool.true_or, Bool.false_eq_true, if_false, if_true, true_and, and_true, List.set_cons_zero, List.set_cons_succ, List.length_cons, List.length_nil, Nat.reduceAdd, Nat.reduceLeDiff, Nat.le_refl, Nat.zero_le, true_or, or_true, zn_cl, ↓jj_Mo_wayNow, em]
      refine ⟨fun z => absurd z (nI_pos (by omega)), fun _ => ?_⟩
      refine k_Mo_coversNow hO' hq (by omega) ?_
      cases e2 : zs_cov sp (U.2 n) Q.2
      · simp only [↓zq, ↓reduceIte, zr_si2, zr_sr1, zr_cp2, zr_tl, zr_tn, shq, List.contains_nil, List.contains_cons, Nat.reduceBEq, Bool.false_or, Bool.or_false, Bool.true_or, Bool.false_eq_true, if_false, if_true, true_and, and_true, List.set_cons_zero, List.set_cons_succ, List.length_cons, List.length_nil, Nat.reduceAdd, Nat.reduceLeDiff, Nat.le_refl, Nat.zero_le, true_or, or_true, zn_cl, ↓jj_Mo_wayNow, em]
        simp only [e2, Bool.false_eq_true, false_and, if_false] at ih
        exact ⟨fun _ => ih g e1, fun z => absurd trivial z⟩
      · simp only [↓zq, ↓reduceIte, zr_si2, zr_sr1, zr_cp2, zr_tl, zr_tn, shq, List.contains_nil, List.contains_cons, Nat.reduceBEq, Bool.false_or, Bool.or_false, Bool.true_or, Bool.false_eq_true, if_false, if_true, true_and, and_true, List.set_cons_zero, List.set_cons_succ, List.length_cons, List.length_nil, Nat.reduceAdd, Nat.reduceLeDiff, Nat.le_refl, Nat.zero_le, true_or, or_true, zn_cl, ↓jj_Mo_wayNow, em]
        simp only [e2, true_and] at ih
        refine ⟨fun z => absurd z (by decide), fun _ => ?_⟩
        refine k_Mo_costOf hO' (by omega) (fun g' f1 => ?_)
        simp only [↓zq, ↓reduceIte, zr_si2, zr_sr1, zr_cp2, zr_tl, zr_tn, shq, List.contains_nil, List.contains_cons, Nat.reduceBEq, Bool.false_or, Bool.or_false, Bool.true_or, Bool.false_eq_true, if_false, if_true, true_and, and_true, List.set_cons_zero, List.set_cons_succ, List.length_cons, List.length_nil, Nat.reduceAdd, Nat.reduceLeDiff, Nat.le_refl, Nat.zero_le, true_or, or_true, zn_cl, ↓jj_Mo_wayNow, em]
        rw [zn_le (by omega) (by omega)]
        refine ⟨fun z => ?_, fun z => ?_⟩
        · refine k_Mo_costOf (zO_f4 f1 hO') (by omega) (fun g'' f2 => ?_)
          simp only [↓zq, ↓reduceIte, zr_si2, zr_sr1, zr_cp2, zr_tl, zr_tn, shq, List.contains_nil, List.contains_cons, Nat.reduceBEq, Bool.false_or, Bool.or_false, Bool.true_or, Bool.false_eq_true, if_false, if_true, true_and, and_true, List.set_cons_zero, List.set_cons_succ, List.length_cons, List.length_nil, Nat.reduceAdd, Nat.reduceLeDiff, Nat.le_refl, Nat.zero_le, true_or, or_true, zn_cl, ↓jj_Mo_wayNow, em]
          rw [if_pos z] at ih
          exact ih g'' ((e1.tr f1).tr f2)
        · rw [if_neg z] at ih
          exact ih g' (e1.tr f1)
  refine st_Mo_wayNow [15] 30 ?_
  simp only [↓zq, ↓reduceIte, zr_si2, zr_sr1, zr_cp2, zr_tl, zr_tn, shq, List.contains_nil, List.contains_cons, Nat.reduceBEq, Bool.false_or, Bool.or_false, Bool.true_or, Bool.false_eq_true, if_false, if_true, true_and, and_true, List.set_cons_zero, List.set_cons_succ, List.length_cons, List.length_nil, Nat.reduceAdd, Nat.reduceLeDiff, Nat.le_refl, Nat.zero_le, true_or, or_true, zn_cl, ↓jj_Mo_wayNow, f1, u1]
  exact loop U.1 0 (by omega) h (zo_f4.rf h)
