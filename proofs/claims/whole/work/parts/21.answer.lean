/-! the answer by a summary -/
/-- groups of a summary's table, keys below k, put together by the question's -/
def zs_rol (sp row q : Nat → Nat) (tabS : zs_tb) : Nat → zs_tb → zs_tb
  | 0, t => t
  | k + 1, t => if (tabS k).1 ≠ 0 ∧ zs_lies sp row q k = true then zs_add (zs_rol sp row q tabS k t) (zs_rk sp row q k) (tabS k).1 (tabS k).2.1 (tabS k).2.2.1 (tabS k).2.2.2 else zs_rol sp row q tabS k t
theorem zs_rk_lt {sp row q : Nat → Nat} (hw : zw_S sp) {key : Nat} : zs_rk sp row q key < 512 := by
  have a := zs_rn_lt (row := row) (q := q) (key := key) hw (show 0 < 3 by decide)
  have b := zs_rn_lt (row := row) (q := q) (key := key) hw (show 1 < 3 by decide)
  have c := zs_rn_lt (row := row) (q := q) (key := key) hw (show 2 < 3 by decide)
  unfold zs_rk
  omega
theorem zw_T_rol {sp row q : Nat → Nat} {tabS : zs_tb} {C : Nat} (hC : zw_T C tabS) : ∀ k, zw_T (C * k) (zs_rol sp row q tabS k zs_t0)
  | 0 => zw_T_0 _
  | k + 1 => by
    have ih := zw_T_rol (sp := sp) (row := row) (q := q) hC k
    obtain ⟨h1, h2, h3, h4⟩ := hC k
    rw [zs_rol, Nat.mul_succ]
    split
    · exact zw_T_mono (zw_T_add ih _ h2 h3 h4) (by omega)
    · exact zw_T_mono ih (by omega)
/-- the answer by the summary of row: its groups, then the fresh facts -/
def zs_tabA (sp : Nat → Nat) (F : zs_F) (row q : Nat → Nat) : zs_tb := zs_tal sp q F (row 7) (F.1 - row 7) (zs_rol sp row q (zs_tabS sp F row) 512 zs_t0)
theorem zw_T_S {sp : Nat → Nat} {F : zs_F} {row : Nat → Nat} (hw : zw_F F) (h : row 7 ≤ F.1) : zw_T 240 (zs_tabS sp F row) := by
  have h1 := hw.1
  exact zw_T_mono (zw_T_tal (lo := 0) hw (zw_T_0 0) (row 7) (by omega)) (by omega)
set_option maxHeartbeats 4000000 in
set_option maxRecDepth 100000 in
theorem k_KS_tallyAnswerS {d : Nat} {h : zm_M} {R : zm_R} {pi : Nat → Nat} {F : zs_F} {sp : Nat → Nat} {U : zs_U} {Q : zs_Q} {s : Nat} (hC : zC h pi F sp U Q) (hq : Q.1 = true) (hs : s < U.1) (hR : ∀ h' : zm_M, zc_fr h h' → (∀ a, a < 73 ∨ 89 < a → h'.1 a = h.1 a) → h'.1 79 = h.1 79 ∧ h'.1 80 = h.1 80 ∧ h'.1 81 = h.1 81 ∧ h'.1 82 = h.1 82 ∧ h'.1 83 = h.1 83 ∧ h'.1 84 = h.1 84 → zc_T h'.1 85 (zs_tabA sp F (U.2 s) Q.2) → R (some (.inr (some 85))) h') : zm_C (d + 6) TT m_KS_tallyAnswer [.inr (some 0), .inr (some (38 + 4 * pi s))] h R := by
  obtain ⟨c1, c2, ⟨c3, c3w⟩, ⟨c4, c4w⟩, ⟨c7, c8⟩, c9, c10⟩ := id hC
  have h8 := c8.1
  have hw1 := c3w.1
  have hp := (c2.1 s (by omega)).2
  obtain ⟨k1, k2, k3⟩ := zk_sums c1 hp
  obtain ⟨y1, y2, y3, y4⟩ := c7.2 s hs
  obtain ⟨wr, w1, w2, wu⟩ := c8.2 s hs
  obtain ⟨q2, q3⟩ := c9.2 hq
  obtain ⟨wq, wq2⟩ := c10 hq
  have k31 := k3.1
  have f1 := c3.1
  have wS := zw_T_S (sp := sp) (row := U.2 s) c3w wu
  -- what stays from h to g
  have keep : ∀ g : zm_M, g.2 = h.2 → (∀ a, (a < 73 ∨ 77 < a ∧ a < 85 ∨ 89 < a) → g.1 a = h.1 a) → zC g pi F sp U Q ∧ (g.2 0 4 = some 28 ∧ g.2 0 5 = some 30 ∧ g.2 0 7 = some 70 ∧ g.2 0 9 = some 73 ∧ g.2 0 11 = some 85 ∧ g.2 (38 + 4 * pi s) 0 = some (38 + 4 * pi s + 1)) ∧ g.1 30 2 = nI F.1 ∧ g.1 (38 + 4 * pi s) 1 = nI (U.2 s 7) := by
    intro g e1 e2
    refine ⟨zC_fr ⟨e1, fun a ha => e2 a (by unfold zc_sc at ha; omega)⟩ hC, ?_, ?_, ?_⟩
    · rw [e1]
      refine ⟨?_, ?_, ?_, ?_, ?_, k2⟩ <;> simp only [c1]
    · rw [e2 30 (by omega)]
      exact f1
    · rw [e2 _ (by omega)]
      exact y3
  have tail : ∀ g : zm_M, g.2 = h.2 → (∀ a, (a < 73 ∨ 77 < a ∧ a < 85 ∨ 89 < a) → g.1 a = h.1 a) → zc_T g.1 85 (zs_rol sp (U.2 s) Q.2 (zs_tabS sp F (U.2 s)) 512 zs_t0) → ∀ o, zm_W (zm_md m_KS_tallyAnswer) (d + 6) TT R 170 [some (.inr (some 0)), some (.inr (some (38 + 4 * pi s))), o] [] g := by
    intro g e1 e2 e3 o
    obtain ⟨g1, ⟨p4, p5, p7, p9, p11, k2'⟩, f1', y3'⟩ := keep g e1 e2
    obtain ⟨c1', c2', ⟨c3', c3w'⟩, ⟨c4', c4w'⟩, ⟨c7', c8'⟩, c9', c10'⟩ := id g1
    obtain ⟨q2', q3'⟩ := c9'.2 hq
    refine zm_go g_KS_tallyAnswer [] 30 (by decide +kernel) ok_KS_tallyAnswer _ rfl ?_
    simp only [↓zq, ↓reduceIte, zr_si2, zr_sr1, zr_cp2, zr_tl, zr_tn, shq, List.contains_nil, List.contains_cons, Nat.reduceBEq, Bool.false_or, Bool.or_false, Bool.true_or, Bool.false_eq_true, if_false, if_true, true_and, and_true, List.set_cons_zero, List.set_cons_succ, List.length_cons, List.length_nil, Nat.reduceAdd, Nat.reduceLeDiff, Nat.le_refl, Nat.zero_le, true_or, or_true, zn_cl, ↓jj_KS_tallyAnswer, p4, p5, p7, p9, p11, k1, k2', f1', y3']
    rw [show nI F.1 = nI (U.2 s 7 + (F.1 - U.2 s 7)) from congrArg nI (by omega)]
    refine k_Facts_tally (F := F) (B := 240 * 512) (sp := sp) (row := Q.2) (tab := zs_rol sp (U.2 s) Q.2 (zs_tabS sp F (U.2 s)) 512 zs_t0) c1' c3' c3w (by omega) (zk_tabs c1' (Or.inr (Or.inr rfl))) e3 (zw_T_rol wS 512) (by omega) (by decide) (zk_cutQ c1') q2' wq (by decide) (zk_shp28 c1') c4' c4w (by decide) (fun g' f1 f2 f3 => ?_)
    have p11' : g'.2 0 11 = some 85 := by rw [f1]; exact p11
    simp only [↓zq, ↓reduceIte, zr_si2, zr_sr1, zr_cp2, zr_tl, zr_tn, shq, List.contains_nil, List.contains_cons, Nat.reduceBEq, Bool.false_or, Bool.or_false, Bool.true_or, Bool.false_eq_true, if_false, if_true, true_and, and_true, List.set_cons_zero, List.set_cons_succ, List.length_cons, List.length_nil, Nat.reduceAdd, Nat.reduceLeDiff, Nat.le_refl, Nat.zero_le, true_or, or_true, zn_cl, ↓jj_KS_tallyAnswer, p11']
    have e2' : ∀ a, (a < 73 ∨ 77 < a ∧ a < 85 ∨ 89 < a) → g'.1 a = h.1 a := fun a ha => (f2 a (by omega)).trans (e2 a ha)
    refine hR g' ⟨f1.trans e1, fun a ha => e2' a (by unfold zc_sc at ha; omega)⟩ (fun a ha => e2' a (by omega)) ⟨e2' _ (by omega), e2' _ (by omega), e2' _ (by omega), e2' _ (by omega), e2' _ (by omega), e2' _ (by omega)⟩ f3
  have loop : ∀ (n i : Nat), i + n = 512 → ∀ g : zm_M, g.2 = h.2 → (∀ a, (a < 73 ∨ 77 < a ∧ a < 85 ∨ 89 < a) → g.1 a = h.1 a) → zc_T g.1 73 (zs_tabS sp F (U.2 s)) → zc_T g.1 85 (zs_rol sp (U.2 s) Q.2 (zs_tabS sp F (U.2 s)) i zs_t0) → zm_W (zm_md m_KS_tallyAnswer) (d + 6) TT R 99 [some (.inr (some 0)), some (.inr (some (38 + 4 * pi s))), some (.inl (nI i))] [] g := by
    intro n
    induction n with
    | zero =>
      intro i hi g e1 e2 e3 e4
      have : i = 512 := by omega
      subst this
      refine zm_go g_KS_tallyAnswer [99, 170] 30 (by decide +kernel) ok_KS_tallyAnswer _ rfl ?_
      simp only [↓zq, ↓reduceIte, zr_si2, zr_sr1, zr_cp2, zr_tl, zr_tn, shq, List.contains_nil, List.contains_cons, Nat.reduceBEq, Bool.false_or, Bool.or_false, Bool.true_or, Bool.false_eq_true, if_false, if_true, true_and, and_true, List.set_cons_zero, List.set_cons_succ, List.length_cons, List.length_nil, Nat.reduceAdd, Nat.reduceLeDiff, Nat.le_refl, Nat.zero_le, true_or, or_true, zn_cl, ↓jj_KS_tallyAnswer]
      exact ⟨fun _ => tail g e1 e2 e4 _, fun z => absurd (Int32.le_refl _) z⟩
    | succ n ih =>
      intro i hi g e1 e2 e3 e4
      have hi5 : i < 512 := by omega
      have ih := ih (i + 1) (by omega)
      rw [zs_rol] at ih
      obtain ⟨g1, ⟨p4, p5, p7, p9, p11, k2'⟩, f1', y3'⟩ := keep g e1 e2
      obtain ⟨c1', c2', ⟨c3', c3w'⟩, ⟨c4', c4w'⟩, ⟨c7', c8'⟩, c9', c10'⟩ := id g1
      obtain ⟨q2', q3'⟩ := c9'.2 hq
      obtain ⟨k1', k2'', k3'⟩ := zk_sums c1' hp
      obtain ⟨y1', -, -, -⟩ := c7'.2 s hs
      refine zm_go g_KS_tallyAnswer [99, 170] 30 (by decide +kernel) ok_KS_tallyAnswer _ rfl ?_
      simp only [↓zq, ↓reduceIte, zr_si2, zr_sr1, zr_cp2, zr_tl, zr_tn, shq, List.contains_nil, List.contains_cons, Nat.reduceBEq, Bool.false_or, Bool.or_false, Bool.true_or, Bool.false_eq_true, if_false, if_true, true_and, and_true, List.set_cons_zero, List.set_cons_succ, List.length_cons, List.length_nil, Nat.reduceAdd, Nat.reduceLeDiff, Nat.le_refl, Nat.zero_le, true_or, or_true, zn_cl, ↓jj_KS_tallyAnswer, p4, p5, p7, p9, p11, k1, k2', k31, nI_1]
      refine ⟨fun z => absurd z (nI_ge (b := 512) hi5 (by decide)), fun _ => ?_⟩
      refine k_Table_hasKey (zk_tabs c1' (Or.inl rfl)) e3 wS (by decide) hi5 ?_
      by_cases e : (zs_tabS sp F (U.2 s) i).1 = 0
      · rw [if_pos e]
        simp only [↓zq, ↓reduceIte, zr_si2, zr_sr1, zr_cp2, zr_tl, zr_tn, shq, List.contains_nil, List.contains_cons, Nat.reduceBEq, Bool.false_or, Bool.or_false, Bool.true_or, Bool.false_eq_true, if_false, if_true, true_and, and_true, List.set_cons_zero, List.set_cons_succ, List.length_cons, List.length_nil, Nat.reduceAdd, Nat.reduceLeDiff, Nat.le_refl, Nat.zero_le, true_or, or_true, zn_cl, ↓jj_KS_tallyAnswer, p4, p5, p7, p9, p11, k1, k2', k31, nI_1]
        rw [if_neg (fun z => z.1 e)] at ih
        exact ⟨fun _ => ih g e1 e2 e3 e4, fun z => absurd trivial z⟩
      · rw [if_neg e]
        simp only [↓zq, ↓reduceIte, zr_si2, zr_sr1, zr_cp2, zr_tl, zr_tn, shq, List.contains_nil, List.contains_cons, Nat.reduceBEq, Bool.false_or, Bool.or_false, Bool.true_or, Bool.false_eq_true, if_false, if_true, true_and, and_true, List.set_cons_zero, List.set_cons_succ, List.length_cons, List.length_nil, Nat.reduceAdd, Nat.reduceLeDiff, Nat.le_refl, Nat.zero_le, true_or, or_true, zn_cl, ↓jj_KS_tallyAnswer, p4, p5, p7, p9, p11, k1, k2', k31, nI_1]
        refine ⟨fun z => absurd z (by decide), fun _ => ?_⟩
        refine k_Cut_liesIn hi5 k3' y1' wr (zk_cutQ c1') q2' wq (zk_shp28 c1') c4' c4w ?_
        simp only [↓zq, ↓reduceIte, zr_si2, zr_sr1, zr_cp2, zr_tl, zr_tn, shq, List.contains_nil, List.contains_cons, Nat.reduceBEq, Bool.false_or, Bool.or_false, Bool.true_or, Bool.false_eq_true, if_false, if_true, true_and, and_true, List.set_cons_zero, List.set_cons_succ, List.length_cons, List.length_nil, Nat.reduceAdd, Nat.reduceLeDiff, Nat.le_refl, Nat.zero_le, true_or, or_true, zn_cl, ↓jj_KS_tallyAnswer, p4, p5, p7, p9, p11, k1, k2', k31, nI_1]
        cases e5 : zs_lies sp (U.2 s) Q.2 i
        · rw [if_neg (by rw [e5]; simp)] at ih
          simp only [Bool.false_eq_true, if_false]
          exact ⟨fun _ => ih g e1 e2 e3 e4, fun z => absurd trivial z⟩
        · rw [if_pos ⟨e, e5⟩] at ih
          simp only [if_true]
          refine ⟨fun z => absurd z (by decide), fun _ => ?_⟩
          refine k_Cut_rolledKey hi5 k3' y1' wr (zk_cutQ c1') q2' wq (zk_shp28 c1') c4' c4w ?_
          simp only [↓zq, ↓reduceIte, zr_si2, zr_sr1, zr_cp2, zr_tl, zr_tn, shq, List.contains_nil, List.contains_cons, Nat.reduceBEq, Bool.false_or, Bool.or_false, Bool.true_or, Bool.false_eq_true, if_false, if_true, true_and, and_true, List.set_cons_zero, List.set_cons_succ, List.length_cons, List.length_nil, Nat.reduceAdd, Nat.reduceLeDiff, Nat.le_refl, Nat.zero_le, true_or, or_true, zn_cl, ↓jj_KS_tallyAnswer, p4, p5, p7, p9, p11, k1, k2', k31, nI_1]
          have wR := zw_T_rol (sp := sp) (row := U.2 s) (q := Q.2) wS i
          refine k_Table_addGroup (zk_tabs c1' (Or.inr (Or.inr rfl))) e4 wR (by omega) (zs_rk_lt c4w) (zk_tabs c1' (Or.inl rfl)) e3 wS (by decide) hi5 e (fun g' f1 f2 f3 => ?_)
          simp only [↓zq, ↓reduceIte, zr_si2, zr_sr1, zr_cp2, zr_tl, zr_tn, shq, List.contains_nil, List.contains_cons, Nat.reduceBEq, Bool.false_or, Bool.or_false, Bool.true_or, Bool.false_eq_true, if_false, if_true, true_and, and_true, List.set_cons_zero, List.set_cons_succ, List.length_cons, List.length_nil, Nat.reduceAdd, Nat.reduceLeDiff, Nat.le_refl, Nat.zero_le, true_or, or_true, zn_cl, ↓jj_KS_tallyAnswer, nI_1]
          refine ih g' (f1.trans e1) (fun a ha => (f2 a (by omega)).trans (e2 a ha)) ?_ f3
          exact zc_T_fr e3 (fun a h1 h2 => f2 a (by omega))
  have p4 : h.2 0 4 = some 28 := by simp only [c1]
  have p9 : h.2 0 9 = some 73 := by simp only [c1]
  have p11 : h.2 0 11 = some 85 := by simp only [c1]
  refine st_KS_tallyAnswer [99, 170] 30 ?_
  simp only [↓zq, ↓reduceIte, zr_si2, zr_sr1, zr_cp2, zr_tl, zr_tn, shq, List.contains_nil, List.contains_cons, Nat.reduceBEq, Bool.false_or, Bool.or_false, Bool.true_or, Bool.false_eq_true, if_false, if_true, true_and, and_true, List.set_cons_zero, List.set_cons_succ, List.length_cons, List.length_nil, Nat.reduceAdd, Nat.reduceLeDiff, Nat.le_refl, Nat.zero_le, true_or, or_true, zn_cl, ↓jj_KS_tallyAnswer, p11]
  refine ⟨fun _ => ?_, fun z => (by cases z)⟩
  refine k_KS_tallyGroups hC hs (fun g e1 e2 e3 => ?_)
  have p11' : g.2 0 11 = some 85 := by rw [e1]; exact p11
  simp only [↓zq, ↓reduceIte, zr_si2, zr_sr1, zr_cp2, zr_tl, zr_tn, shq, List.contains_nil, List.contains_cons, Nat.reduceBEq, Bool.false_or, Bool.or_false, Bool.true_or, Bool.false_eq_true, if_false, if_true, true_and, and_true, List.set_cons_zero, List.set_cons_succ, List.length_cons, List.length_nil, Nat.reduceAdd, Nat.reduceLeDiff, Nat.le_refl, Nat.zero_le, true_or, or_true, zn_cl, ↓jj_KS_tallyAnswer, p11']
  refine k_Table_clear (zk_tabs (by rw [e1]; exact c1) (Or.inr (Or.inr rfl))) (fun g' f1 f2 f3 => ?_)
  simp only [↓zq, ↓reduceIte, zr_si2, zr_sr1, zr_cp2, zr_tl, zr_tn, shq, List.contains_nil, List.contains_cons, Nat.reduceBEq, Bool.false_or, Bool.or_false, Bool.true_or, Bool.false_eq_true, if_false, if_true, true_and, and_true, List.set_cons_zero, List.set_cons_succ, List.length_cons, List.length_nil, Nat.reduceAdd, Nat.reduceLeDiff, Nat.le_refl, Nat.zero_le, true_or, or_true, zn_cl, ↓jj_KS_tallyAnswer, p11']
  refine loop 512 0 rfl g' (f1.trans e1) (fun a ha => (f2 a (by omega)).trans (e2 a (by omega))) (zc_T_fr e3 (fun a h1 h2 => f2 a (by omega))) f3
