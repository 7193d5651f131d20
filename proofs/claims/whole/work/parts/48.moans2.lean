/-! the reference: answers by facts, by a summary -/
set_option maxHeartbeats 4000000 in
set_option maxRecDepth 100000 in
theorem k_Mo_answersByFacts {d : Nat} {h : zm_M} {R : zm_R} {F : zs_F} {sp : Nat → Nat} {U : zs_U} {Q : zs_Q} (hO : zO h F sp U Q) (hq : Q.1 = true) (hR : ∀ h' : zm_M, zo_fr h h' → h'.1 160 = h.1 160 → zo_A h'.1 (zs_tabF sp F Q.2) (zs_sg sp Q.2 F) (Q.2 6) 512 → R none h') : zm_C (d + 7) TT m_Mo_answersByFacts [.inr (some 133)] h R := by
  obtain ⟨o1, ⟨o2, o2w⟩, ⟨o3, o3w⟩, ⟨o4, o4w⟩, o5, o6⟩ := id hO
  obtain ⟨p4, p5, p6, p7, p35, p37, p38, p39, p40⟩ := zp_m o1
  obtain ⟨wq, wq2⟩ := o6 hq
  have hw1 := o2w.1
  refine st_Mo_answersByFacts [] 9 ?_
  simp only [↓zq, ↓reduceIte, zr_si2, zr_sr1, zr_cp2, zr_tl, zr_tn, shq, List.contains_nil, List.contains_cons, Nat.reduceBEq, Bool.false_or, Bool.or_false, Bool.true_or, Bool.false_eq_true, if_false, if_true, true_and, and_true, List.set_cons_zero, List.set_cons_succ, List.length_cons, List.length_nil, Nat.reduceAdd, Nat.reduceLeDiff, Nat.le_refl, Nat.zero_le, true_or, or_true, zn_cl, ↓jj_Mo_answersByFacts]
  refine k_Mo_clears o1 (fun g1 f1 f2 => ?_)
  have q35 : g1.2 133 35 = some 153 := by rw [f1.1]; exact p35
  have fm : g1.1 133 1 = nI F.1 := by rw [f1.2 133 (by omega)]; exact o2.1
  have O1 := zO_f4 f1 hO
  simp only [↓zq, ↓reduceIte, zr_si2, zr_sr1, zr_cp2, zr_tl, zr_tn, shq, List.contains_nil, List.contains_cons, Nat.reduceBEq, Bool.false_or, Bool.or_false, Bool.true_or, Bool.false_eq_true, if_false, if_true, true_and, and_true, List.set_cons_zero, List.set_cons_succ, List.length_cons, List.length_nil, Nat.reduceAdd, Nat.reduceLeDiff, Nat.le_refl, Nat.zero_le, true_or, or_true, zn_cl, ↓jj_Mo_answersByFacts, q35, fm]
  rw [show nI F.1 = nI (0 + F.1) by rw [Nat.zero_add], show (0 : Int32) = nI 0 from rfl]
  refine k_Mo_addsFacts (F := F) (B := 0) (sp := sp) (row := Q.2) (tab := zs_t0) O1.1 O1.2.1.1 o2w (by omega) f2 (zw_T_0 0) (by omega) (by decide) (zO_rowQ O1 hq) wq O1.2.2.1.1 o3w (fun g2 t1 t2 => ?_)
  simp only [↓zq, ↓reduceIte, zr_si2, zr_sr1, zr_cp2, zr_tl, zr_tn, shq, List.contains_nil, List.contains_cons, Nat.reduceBEq, Bool.false_or, Bool.or_false, Bool.true_or, Bool.false_eq_true, if_false, if_true, true_and, and_true, List.set_cons_zero, List.set_cons_succ, List.length_cons, List.length_nil, Nat.reduceAdd, Nat.reduceLeDiff, Nat.le_refl, Nat.zero_le, true_or, or_true, zn_cl, ↓jj_Mo_answersByFacts]
  have O2 := zO_f4 t1 O1
  refine k_Mo_putsDown (tab := zs_tabF sp F Q.2) (B := 240) O2 hq t2 (zw_T_F o2w) (by decide) (fun _ k => ?_) (fun g3 u1 u2 => ?_)
  · unfold zs_tabF
    rw [zs_tal_cnt]
    simp [zs_t0]
  · simp only [↓zq, ↓reduceIte, zr_si2, zr_sr1, zr_cp2, zr_tl, zr_tn, shq, List.contains_nil, List.contains_cons, Nat.reduceBEq, Bool.false_or, Bool.or_false, Bool.true_or, Bool.false_eq_true, if_false, if_true, true_and, and_true, List.set_cons_zero, List.set_cons_succ, List.length_cons, List.length_nil, Nat.reduceAdd, Nat.reduceLeDiff, Nat.le_refl, Nat.zero_le, true_or, or_true, zn_cl, ↓jj_Mo_answersByFacts]
    refine hR g3 (((zo_fr.of f1.1 (fun a ha => f1.2 a (by omega))).tr (zo_fr.of t1.1 (fun a ha => t1.2 a (by omega)))).tr u1.fr) ?_ u2
    rw [u1.2.1 160 (by decide) (by decide) (by decide) (by decide), t1.2 160 (by omega), f1.2 160 (by omega)]
set_option maxHeartbeats 4000000 in
set_option maxRecDepth 100000 in
theorem k_Mo_answersBy {d : Nat} {h : zm_M} {R : zm_R} {F : zs_F} {sp : Nat → Nat} {U : zs_U} {Q : zs_Q} {s : Nat} (hO : zO h F sp U Q) (hq : Q.1 = true) (hs : s < U.1) (hcov : zs_covS sp (U.2 s) Q.2 = true) (hw4 : Q.2 6 ≤ 4) (hR : ∀ h' : zm_M, zo_fr h h' → zo_A h'.1 (zs_tabA sp F (U.2 s) Q.2) (zs_sg sp Q.2 F) (Q.2 6) 512 → R none h') : zm_C (d + 7) TT m_Mo_answersBy [.inr (some 133), .inl (nI s)] h R := by
  obtain ⟨o1, ⟨o2, o2w⟩, ⟨o3, o3w⟩, ⟨o4, o4w⟩, o5, o6⟩ := id hO
  obtain ⟨p4, p5, p6, p7, p35, p37, p38, p39, p40⟩ := zp_m o1
  obtain ⟨p42, p43, p44, p45, p46, p47, p48, p49⟩ := zp_m3 o1
  obtain ⟨wq, wq2⟩ := o6 hq
  obtain ⟨wr, w1, w2, wu⟩ := o4w.2 s hs
  have hw1 := o2w.1
  have wS := zw_T_S (sp := sp) (row := U.2 s) o2w wu
  let fr : zm_M → Prop := fun g => g.2 = h.2 ∧ ∀ a, (a < 154 ∨ 168 < a) → g.1 a = h.1 a
  have frO : ∀ g, fr g → zo_fr h g := fun g e => zo_fr.of e.1 e.2
  have held : zm_M → Prop := fun g => ∀ k, k < 512 → g.1 161 k = nI (zs_tabS sp F (U.2 s) k).2.1
  have tail : ∀ g : zm_M, fr g → zo_T g.1 (zs_rol sp (U.2 s) Q.2 (zs_tabS sp F (U.2 s)) 512 zs_t0) → ∀ o1 o2, zm_W (zm_md m_Mo_answersBy) (d + 7) TT R 141 [some (.inr (some 133)), some (.inl (nI s)), o1, o2] [] g := by
    intro g e1 e2 oa ob
    have gO := zO_fr (frO g e1) hO
    have q35 : g.2 133 35 = some 153 := by rw [e1.1]; exact p35
    have fm : g.1 133 1 = nI F.1 := gO.2.1.1.1
    refine zm_go g_Mo_answersBy [7, 74] 30 (by decide +kernel) ok_Mo_answersBy _ rfl ?_
    simp only [↓zq, ↓reduceIte, zr_si2, zr_sr1, zr_cp2, zr_tl, zr_tn, shq, List.contains_nil, List.contains_cons, Nat.reduceBEq, Bool.false_or, Bool.or_false, Bool.true_or, Bool.false_eq_true, if_false, if_true, true_and, and_true, List.set_cons_zero, List.set_cons_succ, List.length_cons, List.length_nil, Nat.reduceAdd, Nat.reduceLeDiff, Nat.le_refl, Nat.zero_le, true_or, or_true, zn_cl, ↓jj_Mo_answersBy, q35, fm]
    refine k_Mo_upTo gO hs ?_
    simp only [↓zq, ↓reduceIte, zr_si2, zr_sr1, zr_cp2, zr_tl, zr_tn, shq, List.contains_nil, List.contains_cons, Nat.reduceBEq, Bool.false_or, Bool.or_false, Bool.true_or, Bool.false_eq_true, if_false, if_true, true_and, and_true, List.set_cons_zero, List.set_cons_succ, List.length_cons, List.length_nil, Nat.reduceAdd, Nat.reduceLeDiff, Nat.le_refl, Nat.zero_le, true_or, or_true, zn_cl, ↓jj_Mo_answersBy, q35, fm]
    rw [show nI F.1 = nI (U.2 s 7 + (F.1 - U.2 s 7)) from congrArg nI (by omega), show (0 : Int32) = nI 0 from rfl]
    refine k_Mo_addsFacts (F := F) (B := 240 * 512) (sp := sp) (row := Q.2) (tab := zs_rol sp (U.2 s) Q.2 (zs_tabS sp F (U.2 s)) 512 zs_t0) gO.1 gO.2.1.1 o2w (by omega) e2 (zw_T_rol wS 512) (by omega) (by decide) (zO_rowQ gO hq) wq gO.2.2.1.1 o3w (fun g2 t1 t2 => ?_)
    simp only [↓zq, ↓reduceIte, zr_si2, zr_sr1, zr_cp2, zr_tl, zr_tn, shq, List.contains_nil, List.contains_cons, Nat.reduceBEq, Bool.false_or, Bool.or_false, Bool.true_or, Bool.false_eq_true, if_false, if_true, true_and, and_true, List.set_cons_zero, List.set_cons_succ, List.length_cons, List.length_nil, Nat.reduceAdd, Nat.reduceLeDiff, Nat.le_refl, Nat.zero_le, true_or, or_true, zn_cl, ↓jj_Mo_answersBy]
    have O2 := zO_f4 t1 gO
    refine k_Mo_putsDown (tab := zs_tabA sp F (U.2 s) Q.2) (B := 240) O2 hq t2 (zw_T_A o3w o2w wu) (by decide) (fun z => absurd z (by omega)) (fun g3 u1 u2 => ?_)
    simp only [↓zq, ↓reduceIte, zr_si2, zr_sr1, zr_cp2, zr_tl, zr_tn, shq, List.contains_nil, List.contains_cons, Nat.reduceBEq, Bool.false_or, Bool.or_false, Bool.true_or, Bool.false_eq_true, if_false, if_true, true_and, and_true, List.set_cons_zero, List.set_cons_succ, List.length_cons, List.length_nil, Nat.reduceAdd, Nat.reduceLeDiff, Nat.le_refl, Nat.zero_le, true_or, or_true, zn_cl, ↓jj_Mo_answersBy]
    exact hR g3 (((frO g e1).tr (zo_fr.of t1.1 (fun a ha => t1.2 a (by omega)))).tr u1.fr) u2
  have loop2 : ∀ (n k : Nat), k + n = 512 → ∀ g : zm_M, fr g → (∀ j, j < 512 → g.1 162 j = nI (zs_tabS sp F (U.2 s) j).1 ∧ ((zs_tabS sp F (U.2 s) j).1 ≠ 0 → g.1 161 j = nI (zs_tabS sp F (U.2 s) j).2.1 ∧ g.1 163 j = nI (zs_tabS sp F (U.2 s) j).2.2.1 ∧ g.1 164 j = nI (zs_tabS sp F (U.2 s) j).2.2.2)) → zo_T g.1 (zs_rol sp (U.2 s) Q.2 (zs_tabS sp F (U.2 s)) k zs_t0) → ∀ o, zm_W (zm_md m_Mo_answersBy) (d + 7) TT R 74 [some (.inr (some 133)), some (.inl (nI s)), some (.inl (nI k)), o] [] g := by
    intro n
    induction n with
    | zero =>
      intro k hk g e1 e2 e3 o
      have : k = 512 := by omega
      subst this
      refine zm_go g_Mo_answersBy [7, 74, 141] 30 (by decide +kernel) ok_Mo_answersBy _ rfl ?_
      simp only [↓zq, ↓reduceIte, zr_si2, zr_sr1, zr_cp2, zr_tl, zr_tn, shq, List.contains_nil, List.contains_cons, Nat.reduceBEq, Bool.false_or, Bool.or_false, Bool.true_or, Bool.false_eq_true, if_false, if_true, true_and, and_true, List.set_cons_zero, List.set_cons_succ, List.length_cons, List.length_nil, Nat.reduceAdd, Nat.reduceLeDiff, Nat.le_refl, Nat.zero_le, true_or, or_true, zn_cl, ↓jj_Mo_answersBy]
      exact ⟨fun _ => tail g e1 e3 _ _, fun z => absurd (Int32.le_refl _) z⟩
    | succ n ih =>
      intro k hk g e1 e2 e3 o
      have hk5 : k < 512 := by omega
      have ih := ih (k + 1) (by omega)
      rw [zs_rol] at ih
      have gO := zO_fr (frO g e1) hO
      have q45 : g.2 133 45 = some 161 := by rw [e1.1]; exact p45
      have q46 : g.2 133 46 = some 162 := by rw [e1.1]; exact p46
      have q47 : g.2 133 47 = some 163 := by rw [e1.1]; exact p47
      have q48 : g.2 133 48 = some 164 := by rw [e1.1]; exact p48
      have hv1 : vp_in (nI k) 512 := vp_in_nI hk5 (by decide)
      have hcl := nI_clamp (show k < 2 ^ 31 by omega)
      obtain ⟨b2, b3⟩ := e2 k hk5
      obtain ⟨v1, v2, v3, v4⟩ := wS k
      refine zm_go g_Mo_answersBy [7, 74, 141] 30 (by decide +kernel) ok_Mo_answersBy _ rfl ?_
      simp only [↓zq, ↓reduceIte, zr_si2, zr_sr1, zr_cp2, zr_tl, zr_tn, shq, List.contains_nil, List.contains_cons, Nat.reduceBEq, Bool.false_or, Bool.or_false, Bool.true_or, Bool.false_eq_true, if_false, if_true, true_and, and_true, List.set_cons_zero, List.set_cons_succ, List.length_cons, List.length_nil, Nat.reduceAdd, Nat.reduceLeDiff, Nat.le_refl, Nat.zero_le, true_or, or_true, zn_cl, ↓jj_Mo_answersBy, q46, hv1, hcl, b2, nI_1]
      rw [zn_z (by omega)]
      refine ⟨fun z => absurd z (nI_ge (b := 512) hk5 (by decide)), fun _ => ⟨fun e => ?_, fun e => ?_⟩⟩
      · obtain ⟨b1, b4, b5⟩ := b3 e
        refine k_Mo_goesInto gO hq hs hk5 hcov ?_
        simp only [↓zq, ↓reduceIte, zr_si2, zr_sr1, zr_cp2, zr_tl, zr_tn, shq, List.contains_nil, List.contains_cons, Nat.reduceBEq, Bool.false_or, Bool.or_false, Bool.true_or, Bool.false_eq_true, if_false, if_true, true_and, and_true, List.set_cons_zero, List.set_cons_succ, List.length_cons, List.length_nil, Nat.reduceAdd, Nat.reduceLeDiff, Nat.le_refl, Nat.zero_le, true_or, or_true, zn_cl, ↓jj_Mo_answersBy, q45, q46, q47, q48, hv1, hcl, b1, b2, b4, b5, nI_1]
        cases el : zs_lies sp (U.2 s) Q.2 k
        · simp only [Bool.false_eq_true, if_false]
          rw [if_neg (by rw [el]; simp)] at ih
          exact ⟨fun _ => ih g e1 e2 e3 _, fun z => absurd trivial z⟩
        · simp only [if_true]
          rw [if_pos ⟨e, el⟩] at ih
          have rl := zs_rk_lt (row := U.2 s) (q := Q.2) (key := k) o3w
          have nz : ¬ nI (zs_rk sp (U.2 s) Q.2 k) = -1 := by
            generalize zs_rk sp (U.2 s) Q.2 k = r at rl
            have e : ∀ r, r < 512 → ¬ nI r = -1 := by decide +kernel
            exact e r rl
          refine ⟨fun z => absurd z nz, fun _ => ?_⟩
          refine k_Mo_adds (B := 240 * k) gO.1 e3 (zw_T_rol wS k) (by omega) rl e v3 v4 (fun g' f1 f2 => ?_)
          simp only [↓zq, ↓reduceIte, zr_si2, zr_sr1, zr_cp2, zr_tl, zr_tn, shq, List.contains_nil, List.contains_cons, Nat.reduceBEq, Bool.false_or, Bool.or_false, Bool.true_or, Bool.false_eq_true, if_false, if_true, true_and, and_true, List.set_cons_zero, List.set_cons_succ, List.length_cons, List.length_nil, Nat.reduceAdd, Nat.reduceLeDiff, Nat.le_refl, Nat.zero_le, true_or, or_true, zn_cl, ↓jj_Mo_answersBy, nI_1]
          refine ih g' ⟨f1.1.trans e1.1, fun a ha => (f1.2 a (by omega)).trans (e1.2 a ha)⟩ (fun j hj => ?_) f2 _
          rw [f1.2 161 (by omega), f1.2 162 (by omega), f1.2 163 (by omega), f1.2 164 (by omega)]
          exact e2 j hj
      · rw [if_neg (fun z => z.1 e)] at ih
        refine ⟨fun _ => ih g e1 e2 e3 _, fun z => absurd trivial z⟩
  have loop1 : ∀ (n k : Nat), k + n = 512 → ∀ g : zm_M, fr g → zo_T g.1 (zs_tabS sp F (U.2 s)) → (∀ j, j < k → g.1 162 j = nI (zs_tabS sp F (U.2 s) j).1 ∧ ((zs_tabS sp F (U.2 s) j).1 ≠ 0 → g.1 161 j = nI (zs_tabS sp F (U.2 s) j).2.1 ∧ g.1 163 j = nI (zs_tabS sp F (U.2 s) j).2.2.1 ∧ g.1 164 j = nI (zs_tabS sp F (U.2 s) j).2.2.2)) → zm_W (zm_md m_Mo_answersBy) (d + 7) TT R 7 [some (.inr (some 133)), some (.inl (nI s)), some (.inl (nI k)), none] [] g := by
    intro n
    induction n with
    | zero =>
      intro k hk g e1 e2 e3
      have : k = 512 := by omega
      subst this
      have gO := zO_fr (frO g e1) hO
      refine zm_go g_Mo_answersBy [7, 74] 30 (by decide +kernel) ok_Mo_answersBy _ rfl ?_
      simp only [↓zq, ↓reduceIte, zr_si2, zr_sr1, zr_cp2, zr_tl, zr_tn, shq, List.contains_nil, List.contains_cons, Nat.reduceBEq, Bool.false_or, Bool.or_false, Bool.true_or, Bool.false_eq_true, if_false, if_true, true_and, and_true, List.set_cons_zero, List.set_cons_succ, List.length_cons, List.length_nil, Nat.reduceAdd, Nat.reduceLeDiff, Nat.le_refl, Nat.zero_le, true_or, or_true, zn_cl, ↓jj_Mo_answersBy]
      refine ⟨fun _ => ?_, fun z => absurd (Int32.le_refl _) z⟩
      refine k_Mo_clears gO.1 (fun g' f1 f2 => ?_)
      simp only [↓zq, ↓reduceIte, zr_si2, zr_sr1, zr_cp2, zr_tl, zr_tn, shq, List.contains_nil, List.contains_cons, Nat.reduceBEq, Bool.false_or, Bool.or_false, Bool.true_or, Bool.false_eq_true, if_false, if_true, true_and, and_true, List.set_cons_zero, List.set_cons_succ, List.length_cons, List.length_nil, Nat.reduceAdd, Nat.reduceLeDiff, Nat.le_refl, Nat.zero_le, true_or, or_true, zn_cl, ↓jj_Mo_answersBy]
      refine loop2 512 0 rfl g' ⟨f1.1.trans e1.1, fun a ha => (f1.2 a (by omega)).trans (e1.2 a ha)⟩ (fun j hj => ?_) f2 _
      rw [f1.2 161 (by omega), f1.2 162 (by omega), f1.2 163 (by omega), f1.2 164 (by omega)]
      exact e3 j hj
    | succ n ih =>
      intro k hk g e1 e2 e3
      have hk5 : k < 512 := by omega
      have ih := ih (k + 1) (by omega)
      have q37 : g.2 133 37 = some 154 := by rw [e1.1]; exact p37
      have q38 : g.2 133 38 = some 155 := by rw [e1.1]; exact p38
      have q39 : g.2 133 39 = some 156 := by rw [e1.1]; exact p39
      have q40 : g.2 133 40 = some 157 := by rw [e1.1]; exact p40
      have q45 : g.2 133 45 = some 161 := by rw [e1.1]; exact p45
      have q46 : g.2 133 46 = some 162 := by rw [e1.1]; exact p46
      have q47 : g.2 133 47 = some 163 := by rw [e1.1]; exact p47
      have q48 : g.2 133 48 = some 164 := by rw [e1.1]; exact p48
      have hv1 : vp_in (nI k) 512 := vp_in_nI hk5 (by decide)
      have hcl := nI_clamp (show k < 2 ^ 31 by omega)
      refine zm_go g_Mo_answersBy [7, 74] 30 (by decide +kernel) ok_Mo_answersBy _ rfl ?_
      simp only [↓zq, ↓reduceIte, zr_si2, zr_sr1, zr_cp2, zr_tl, zr_tn, shq, List.contains_nil, List.contains_cons, Nat.reduceBEq, Bool.false_or, Bool.or_false, Bool.true_or, Bool.false_eq_true, if_false, if_true, true_and, and_true, List.set_cons_zero, List.set_cons_succ, List.length_cons, List.length_nil, Nat.reduceAdd, Nat.reduceLeDiff, Nat.le_refl, Nat.zero_le, true_or, or_true, zn_cl, ↓jj_Mo_answersBy, q37, q38, q39, q40, q45, q46, q47, q48, hv1, hcl, nI_1]
      refine ⟨fun z => absurd z (nI_ge (b := 512) hk5 (by decide)), fun _ => ?_⟩
      obtain ⟨b2, b3, -⟩ := e2 k hk5
      refine ih _ ⟨(by exact e1.1), fun a ha => ?_⟩ (zo_T_c e2 ?_ ?_ ?_ ?_) (fun j hj => ?_)
      · funext q
        simp only [zr_si1]
        rw [if_neg (by omega), if_neg (by omega), if_neg (by omega), if_neg (by omega), e1.2 a ha]
      · funext q
        simp [zr_si1]
      · funext q
        simp [zr_si1]
      · funext q
        simp [zr_si1]
      · funext q
        simp [zr_si1]
      · by_cases ej : j = k
        · subst ej
          simp [zr_si1]
          exact ⟨b2, b3⟩
        · have := e3 j (by omega)
          simp [zr_si1, ej]
          exact this
  refine st_Mo_answersBy [7] 9 ?_
  simp only [↓zq, ↓reduceIte, zr_si2, zr_sr1, zr_cp2, zr_tl, zr_tn, shq, List.contains_nil, List.contains_cons, Nat.reduceBEq, Bool.false_or, Bool.or_false, Bool.true_or, Bool.false_eq_true, if_false, if_true, true_and, and_true, List.set_cons_zero, List.set_cons_succ, List.length_cons, List.length_nil, Nat.reduceAdd, Nat.reduceLeDiff, Nat.le_refl, Nat.zero_le, true_or, or_true, zn_cl, ↓jj_Mo_answersBy]
  refine k_Mo_laysSummary hO hs (fun g e1 e2 => ?_)
  simp only [↓zq, ↓reduceIte, zr_si2, zr_sr1, zr_cp2, zr_tl, zr_tn, shq, List.contains_nil, List.contains_cons, Nat.reduceBEq, Bool.false_or, Bool.or_false, Bool.true_or, Bool.false_eq_true, if_false, if_true, true_and, and_true, List.set_cons_zero, List.set_cons_succ, List.length_cons, List.length_nil, Nat.reduceAdd, Nat.reduceLeDiff, Nat.le_refl, Nat.zero_le, true_or, or_true, zn_cl, ↓jj_Mo_answersBy]
  exact loop1 512 0 rfl g ⟨e1.1, fun a ha => e1.2 a (by omega)⟩ e2 (fun j hj => absurd hj (Nat.not_lt_zero j))
/-! telling, ranks, differences -/
theorem zs_nth_lt {f : Nat → Nat} {i k : Nat} (h : zs_nth f i 512 = some k) : k < 512 := (zs_nth_spec 512 h).1
set_option maxHeartbeats 4000000 in
set_option maxRecDepth 100000 in
theorem k_Mo_toldOf {d : Nat} {h : zm_M} {R : zm_R} {tab : zs_tb} {sg : Nat → Nat} {w j what : Nat} (hp : zp_mo h.2) (hA : zo_A h.1 tab sg w 512) (hj : j < 2 ^ 31) (hwh : what < 4) (hR : R (some (.inl (zs_tell tab sg w (zs_nth (fun k => (tab k).1) j 512) what))) h) : zm_C (d + 2) TT m_Mo_toldOf [.inr (some 133), .inl (nI j), .inl (nI what)] h R := by
  obtain ⟨p42, p43, p44, p45, p46, p47, p48, p49⟩ := zp_m3 hp
  have sl := zs_some_le (fun k => (tab k).1) 512
  have m1 := hA.1
  refine st_Mo_toldOf [] 9 ?_
  simp only [↓zq, ↓reduceIte, zr_si2, zr_sr1, zr_cp2, zr_tl, zr_tn, shq, List.contains_nil, List.contains_cons, Nat.reduceBEq, Bool.false_or, Bool.or_false, Bool.true_or, Bool.false_eq_true, if_false, if_true, true_and, and_true, List.set_cons_zero, List.set_cons_succ, List.length_cons, List.length_nil, Nat.reduceAdd, Nat.reduceLeDiff, Nat.le_refl, Nat.zero_le, true_or, or_true, zn_cl, ↓jj_Mo_toldOf, m1, p42, p43]
  rw [zn_lt hj (by omega)]
  refine ⟨fun z => ?_, fun z => ?_⟩
  · obtain ⟨k, hk⟩ := zs_nth_ex (f := fun k => (tab k).1) 512 z
    obtain ⟨k5, kn, ks⟩ := zs_nth_spec 512 hk
    obtain ⟨a1, a2⟩ := hA.2 k k5 kn
    rw [ks] at a1 a2
    rw [hk] at hR
    have v1 : vp_in (nI j) 512 := vp_in_nI (by omega) (by decide)
    have c1 := nI_clamp hj
    simp only [v1, c1, true_and, a1, a2]
    unfold zs_tell at hR
    simp only [] at hR
    rw [show (3 : Int32) = nI 3 from rfl, zn_le (by decide) (by omega)]
    refine ⟨fun z2 => ?_, fun z2 => ?_⟩
    · rw [if_neg (by omega)] at hR
      exact hR
    · rw [if_pos (by omega)] at hR
      refine k_Mo_numberOf k5 (by omega) ?_
      simp only [↓zq, ↓reduceIte, zr_si2, zr_sr1, zr_cp2, zr_tl, zr_tn, shq, List.contains_nil, List.contains_cons, Nat.reduceBEq, Bool.false_or, Bool.or_false, Bool.true_or, Bool.false_eq_true, if_false, if_true, true_and, and_true, List.set_cons_zero, List.set_cons_succ, List.length_cons, List.length_nil, Nat.reduceAdd, Nat.reduceLeDiff, Nat.le_refl, Nat.zero_le, true_or, or_true, zn_cl, ↓jj_Mo_toldOf]
      exact hR
  · rw [zs_nth_none 512 (by omega)] at hR
    exact hR
theorem zs_some_gap {f P : Nat → Nat} (hP : ∀ k, P k ≠ 0 → f k ≠ 0) {a : Nat} : ∀ n, zs_some f (a + n) = zs_some f a → zs_some P (a + n) = zs_some P a
  | 0, _ => rfl
  | n + 1, h => by
    have h0 : zs_some f (a + (n + 1)) = zs_some f (a + n) + if f (a + n) = 0 then 0 else 1 := rfl
    have a1 := zs_some_app f a n
    have e : f (a + n) = 0 := by
      refine Classical.byContradiction (fun z => ?_)
      rw [if_neg z] at h0
      omega
    have e2 : P (a + n) = 0 := Classical.byContradiction (fun z => hP _ z e)
    have h1 : zs_some P (a + (n + 1)) = zs_some P (a + n) + if P (a + n) = 0 then 0 else 1 := rfl
    rw [h1, if_pos e2, Nat.add_zero]
    rw [if_pos e] at h0
    exact zs_some_gap hP n (by omega)
theorem zs_some_mono (f : Nat → Nat) {a b : Nat} (h : a ≤ b) : zs_some f a ≤ zs_some f b := by
  have := zs_some_app f a (b - a)
  rw [show a + (b - a) = b by omega] at this
  omega
theorem zs_some_slt {f : Nat → Nat} {a b : Nat} (h : a < b) (hf : f a ≠ 0) : zs_some f a < zs_some f b := by
  have := zs_some_mono f (show a + 1 ≤ b by omega)
  have e : zs_some f (a + 1) = zs_some f a + if f a = 0 then 0 else 1 := rfl
  rw [if_neg hf] at e
  omega
set_option maxHeartbeats 4000000 in
set_option maxRecDepth 100000 in
theorem k_Mo_aheadOf {d : Nat} {h : zm_M} {R : zm_R} {tab : zs_tb} {sg : Nat → Nat} {w k : Nat} (hp : zp_mo h.2) (hA : zo_A h.1 tab sg w 512) (hv : ∀ k, k < 512 → zs_val tab sg w k < 2 ^ 20) (hk5 : k < 512) (hkn : (tab k).1 ≠ 0) (hR : R (some (.inl (nI (zs_ahd tab sg w k)))) h) : zm_C (d + 1) TT m_Mo_aheadOf [.inr (some 133), .inl (nI (zs_some (fun k => (tab k).1) k))] h R := by
  obtain ⟨p42, p43, p44, p45, p46, p47, p48, p49⟩ := zp_m3 hp
  have sl := zs_some_le (fun k => (tab k).1) 512
  have m1 := hA.1
  unfold zs_ahd at hR
  generalize hPf : (fun j => if (tab j).1 ≠ 0 ∧ (zs_val tab sg w k < zs_val tab sg w j ∨ zs_val tab sg w j = zs_val tab sg w k ∧ j < k) then 1 else 0) = P at hR
  have hPf' : ∀ j, P j = if (tab j).1 ≠ 0 ∧ (zs_val tab sg w k < zs_val tab sg w j ∨ zs_val tab sg w j = zs_val tab sg w k ∧ j < k) then 1 else 0 := fun j => by rw [← hPf]
  have hPz : ∀ j, P j ≠ 0 → (fun k => (tab k).1) j ≠ 0 := fun j hj => by
    rw [hPf'] at hj
    intro z
    exact hj (if_neg (fun y => y.1 z))
  have skl := zs_some_slt (f := fun k => (tab k).1) (show k < 512 by omega) hkn
  obtain ⟨ak1, ak2⟩ := hA.2 k hk5 hkn
  have loop : ∀ (n j kb : Nat), j + n = zs_some (fun k => (tab k).1) 512 → kb ≤ 512 → zs_some (fun k => (tab k).1) kb = j → zm_W (zm_md m_Mo_aheadOf) (d + 1) TT R 4 [some (.inr (some 133)), some (.inl (nI (zs_some (fun k => (tab k).1) k))), some (.inl (nI (zs_some P kb))), some (.inl (nI j))] [] h := by
    intro n
    induction n with
    | zero =>
      intro j kb hj hkb hs
      have e1 := zs_some_gap hPz (a := kb) (512 - kb) (by rw [show kb + (512 - kb) = 512 by omega]; omega)
      rw [show kb + (512 - kb) = 512 by omega] at e1
      rw [← e1]
      generalize zs_some P 512 = y at hR ⊢
      have ej : j = zs_some (fun k => (tab k).1) 512 := by omega
      rw [ej]
      refine zm_go g_Mo_aheadOf [4] 30 (by decide +kernel) ok_Mo_aheadOf _ rfl ?_
      simp only [↓zq, ↓reduceIte, zr_si2, zr_sr1, zr_cp2, zr_tl, zr_tn, shq, List.contains_nil, List.contains_cons, Nat.reduceBEq, Bool.false_or, Bool.or_false, Bool.true_or, Bool.false_eq_true, if_false, if_true, true_and, and_true, List.set_cons_zero, List.set_cons_succ, List.length_cons, List.length_nil, Nat.reduceAdd, Nat.reduceLeDiff, Nat.le_refl, Nat.zero_le, true_or, or_true, zn_cl, ↓jj_Mo_aheadOf, m1]
      exact ⟨fun _ => hR, fun z => absurd (Int32.le_refl _) z⟩
    | succ n ih =>
      intro j kb hj hkb hs
      obtain ⟨k2, hk2⟩ := zs_nth_ex (f := fun k => (tab k).1) (i := j) 512 (by omega)
      obtain ⟨k25, k2n, k2s⟩ := zs_nth_spec 512 hk2
      have hle : kb ≤ k2 := by
        rcases Nat.lt_or_ge k2 kb with q | q
        · have := zs_some_slt (f := fun k => (tab k).1) q k2n
          omega
        · exact q
      have e1 := zs_some_gap hPz (a := kb) (k2 - kb) (by rw [show kb + (k2 - kb) = k2 by omega]; omega)
      rw [show kb + (k2 - kb) = k2 by omega] at e1
      have ih2 := ih (j + 1) (k2 + 1) (by omega) (by omega) (by rw [zs_some, if_neg k2n, k2s])
      clear ih
      rw [zs_some, e1] at ih2
      have hP1 : (zs_val tab sg w k < zs_val tab sg w k2 ∨ zs_val tab sg w k2 = zs_val tab sg w k ∧ k2 < k) → ¬ P k2 = 0 := fun z => by rw [hPf', if_pos ⟨k2n, z⟩]; decide
      have hP0 : ¬ (zs_val tab sg w k < zs_val tab sg w k2 ∨ zs_val tab sg w k2 = zs_val tab sg w k ∧ k2 < k) → P k2 = 0 := fun z => by rw [hPf', if_neg (fun y => z y.2)]
      obtain ⟨a1, a2⟩ := hA.2 k2 k25 k2n
      rw [k2s] at a1 a2
      have lt12 : (j < zs_some (fun k => (tab k).1) k) = (k2 < k) := by
        apply propext
        constructor
        · intro z
          rcases Nat.lt_or_ge k2 k with q | q
          · exact q
          · have := zs_some_mono (fun k => (tab k).1) q
            omega
        · intro z
          have := zs_some_slt (f := fun k => (tab k).1) z k2n
          omega
      have va := hv k hk5
      have vb := hv k2 k25
      have hv1 : vp_in (nI j) 512 := vp_in_nI (by omega) (by decide)
      have hc1 := nI_clamp (show j < 2 ^ 31 by omega)
      have hv2 : vp_in (nI (zs_some (fun k => (tab k).1) k)) 512 := vp_in_nI (by omega) (by decide)
      have hc2 := nI_clamp (show zs_some (fun k => (tab k).1) k < 2 ^ 31 by omega)
      generalize zs_some (fun k => (tab k).1) k = sk at *
      generalize hM : zs_some (fun k => (tab k).1) 512 = M at *
      refine zm_go g_Mo_aheadOf [4] 30 (by decide +kernel) ok_Mo_aheadOf _ rfl ?_
      simp only [↓zq, ↓reduceIte, zr_si2, zr_sr1, zr_cp2, zr_tl, zr_tn, shq, List.contains_nil, List.contains_cons, Nat.reduceBEq, Bool.false_or, Bool.or_false, Bool.true_or, Bool.false_eq_true, if_false, if_true, true_and, and_true, List.set_cons_zero, List.set_cons_succ, List.length_cons, List.length_nil, Nat.reduceAdd, Nat.reduceLeDiff, Nat.le_refl, Nat.zero_le, true_or, or_true, zn_cl, ↓jj_Mo_aheadOf, m1, p43, hv1, hc1, hv2, hc2, a2, ak2, nI_1]
      simp only [zn_lt (show zs_val tab sg w k < 2 ^ 31 by omega) (show zs_val tab sg w k2 < 2 ^ 31 by omega), zn_eq (show zs_val tab sg w k2 < 2 ^ 31 by omega) (show zs_val tab sg w k < 2 ^ 31 by omega), zn_le (show sk < 2 ^ 31 by omega) (show j < 2 ^ 31 by omega)]
      refine ⟨fun z => absurd z (nI_ge (by omega) (by omega)), fun _ => ⟨fun z1 => ?_, fun z1 => ⟨fun z2 => ?_, fun z2 => ⟨fun z3 => ?_, fun z3 => ?_⟩⟩⟩⟩
      · rw [if_neg (hP1 (Or.inl z1))] at ih2
        exact ih2
      · rw [if_pos (hP0 (fun y => y.elim z1 (fun q => z2 q.1)))] at ih2
        exact ih2
      · have : ¬ k2 < k := by rw [← lt12]; omega
        rw [if_pos (hP0 (fun y => y.elim z1 (fun q => this q.2)))] at ih2
        exact ih2
      · have : k2 < k := by rw [← lt12]; omega
        rw [if_neg (hP1 (Or.inr ⟨z2, this⟩))] at ih2
        exact ih2
  refine st_Mo_aheadOf [4] 9 ?_
  simp only [↓zq, ↓reduceIte, zr_si2, zr_sr1, zr_cp2, zr_tl, zr_tn, shq, List.contains_nil, List.contains_cons, Nat.reduceBEq, Bool.false_or, Bool.or_false, Bool.true_or, Bool.false_eq_true, if_false, if_true, true_and, and_true, List.set_cons_zero, List.set_cons_succ, List.length_cons, List.length_nil, Nat.reduceAdd, Nat.reduceLeDiff, Nat.le_refl, Nat.zero_le, true_or, or_true, zn_cl, ↓jj_Mo_aheadOf]
  exact loop _ 0 0 (Nat.zero_add _) (by decide) rfl
/-- ranks are apart -/
theorem zs_ahd_inj {tab : zs_tb} {sg : Nat → Nat} {w a b : Nat} (ha : a < 512) (hb : b < 512) (na : (tab a).1 ≠ 0) (nb : (tab b).1 ≠ 0) (e : zs_ahd tab sg w a = zs_ahd tab sg w b) : a = b := by
  have key : ∀ a b, a < 512 → (tab a).1 ≠ 0 → (zs_val tab sg w b < zs_val tab sg w a ∨ zs_val tab sg w a = zs_val tab sg w b ∧ a < b) → zs_ahd tab sg w a < zs_ahd tab sg w b := by
    intro a b ha na hab
    unfold zs_ahd
    refine zs_some_lt (k := a) 512 ha ?_ ?_ (fun j hj hn => ?_)
    · rw [if_pos ⟨na, hab⟩]
      decide
    · rw [if_neg]
      rintro ⟨_, h | h⟩ <;> omega
    · have h1 : (tab j).1 ≠ 0 ∧ (zs_val tab sg w a < zs_val tab sg w j ∨ zs_val tab sg w j = zs_val tab sg w a ∧ j < a) := by
        refine Classical.byContradiction (fun z => hn ?_)
        rw [if_neg z]
      rw [if_pos ⟨h1.1, by omega⟩]
      decide
  rcases Nat.lt_trichotomy a b with h | h | h
  · rcases Nat.lt_trichotomy (zs_val tab sg w a) (zs_val tab sg w b) with q | q | q
    · have := key b a hb nb (Or.inl q); omega
    · have := key a b ha na (Or.inr ⟨q, h⟩); omega
    · have := key a b ha na (Or.inl q); omega
  · exact h
  · rcases Nat.lt_trichotomy (zs_val tab sg w a) (zs_val tab sg w b) with q | q | q
    · have := key b a hb nb (Or.inl q); omega
    · have := key b a hb nb (Or.inr ⟨q.symm, h⟩); omega
    · have := key a b ha na (Or.inl q); omega
theorem zs_rkd_one {tab : zs_tb} {sg : Nat → Nat} {w i : Nat} {o o' : Option Nat} (h : zs_rkd tab sg w i o) (h' : zs_rkd tab sg w i o') : o = o' := by
  cases o with
  | none =>
    cases o' with
    | none => rfl
    | some k =>
      obtain ⟨a, b, c⟩ := h'.2 k rfl
      exact absurd c (h.1 rfl k a b)
  | some k =>
    obtain ⟨a, b, c⟩ := h.2 k rfl
    cases o' with
    | none => exact absurd c (h'.1 rfl k a b)
    | some k' =>
      obtain ⟨a', b', c'⟩ := h'.2 k' rfl
      rw [zs_ahd_inj a a' b b' (c.trans c'.symm)]
