/-! tables of summaries and answers -/
/-- the table of the groups of a row, of its first facts -/
def zs_tabS (sp : Nat → Nat) (F : zs_F) (row : Nat → Nat) : zs_tb := zs_tal sp row F 0 (row 7) zs_t0
theorem zc_fr_tab {h h' : zm_M} {t : Nat} (ht : t = 73 ∨ t = 79 ∨ t = 85) (e1 : h'.2 = h.2) (e2 : ∀ a, (a < t ∨ t + 4 < a) → h'.1 a = h.1 a) : zc_fr h h' := ⟨e1, fun a ha => e2 a (by unfold zc_sc at ha; omega)⟩
theorem zc_T_fr {I J : Nat → Nat → Int32} {t : Nat} {tab : zs_tb} (h : zc_T I t tab) (e : ∀ a, t ≤ a → a ≤ t + 4 → J a = I a) : zc_T J t tab := by
  unfold zc_T
  rw [e t (by omega) (by omega), e (t + 1) (by omega) (by omega), e (t + 2) (by omega) (by omega), e (t + 3) (by omega) (by omega), e (t + 4) (by omega) (by omega)]
  exact h
set_option maxHeartbeats 4000000 in
set_option maxRecDepth 100000 in
theorem k_KS_tallyGroups {d : Nat} {h : zm_M} {R : zm_R} {pi : Nat → Nat} {F : zs_F} {sp : Nat → Nat} {U : zs_U} {Q : zs_Q} {s : Nat} (hC : zC h pi F sp U Q) (hs : s < U.1) (hR : ∀ h' : zm_M, h'.2 = h.2 → (∀ a, (a < 73 ∨ 77 < a) → h'.1 a = h.1 a) → zc_T h'.1 73 (zs_tabS sp F (U.2 s)) → R none h') : zm_C (d + 5) TT m_KS_tallyGroups [.inr (some 0), .inr (some (38 + 4 * pi s))] h R := by
  obtain ⟨c1, c2, ⟨c3, c3w⟩, ⟨c4, c4w⟩, ⟨c7, c8⟩, c9, c10⟩ := hC
  have h8 := c8.1
  have hw1 := c3w.1
  have hp := (c2.1 s (by omega)).2
  obtain ⟨k1, k2, k3⟩ := zk_sums c1 hp
  obtain ⟨y1, y2, y3, y4⟩ := c7.2 s hs
  obtain ⟨wr, w1, w2, wu⟩ := c8.2 s hs
  have p4 : h.2 0 4 = some 28 := by simp only [c1]
  have p5 : h.2 0 5 = some 30 := by simp only [c1]
  have p9 : h.2 0 9 = some 73 := by simp only [c1]
  refine st_KS_tallyGroups [] 30 ?_
  simp only [↓zq, ↓reduceIte, zr_si2, zr_sr1, zr_cp2, zr_tl, zr_tn, shq, List.contains_nil, List.contains_cons, Nat.reduceBEq, Bool.false_or, Bool.or_false, Bool.true_or, Bool.false_eq_true, if_false, if_true, true_and, and_true, List.set_cons_zero, List.set_cons_succ, List.length_cons, List.length_nil, Nat.reduceAdd, Nat.reduceLeDiff, Nat.le_refl, Nat.zero_le, true_or, or_true, zn_cl, ↓jj_KS_tallyGroups, p4, p5, p9, k1, k2]
  refine k_Table_clear (zk_tabs c1 (Or.inl rfl)) (fun g e1 e2 e3 => ?_)
  have p4 : g.2 0 4 = some 28 := by rw [e1]; exact p4
  have p5 : g.2 0 5 = some 30 := by rw [e1]; exact p5
  have p9 : g.2 0 9 = some 73 := by rw [e1]; exact p9
  have k2' : g.2 (38 + 4 * pi s) 0 = some (38 + 4 * pi s + 1) := by rw [e1]; exact k2
  have y3' : g.1 (38 + 4 * pi s) 1 = nI (U.2 s 7) := by rw [e2 _ (by omega)]; exact y3
  simp only [↓zq, ↓reduceIte, zr_si2, zr_sr1, zr_cp2, zr_tl, zr_tn, shq, List.contains_nil, List.contains_cons, Nat.reduceBEq, Bool.false_or, Bool.or_false, Bool.true_or, Bool.false_eq_true, if_false, if_true, true_and, and_true, List.set_cons_zero, List.set_cons_succ, List.length_cons, List.length_nil, Nat.reduceAdd, Nat.reduceLeDiff, Nat.le_refl, Nat.zero_le, true_or, or_true, zn_cl, ↓jj_KS_tallyGroups, p4, p5, p9, k1, k2', y3']
  have hF' : zc_F g.1 F := by
    unfold zc_F
    rw [e2 30 (by omega), e2 31 (by omega), e2 32 (by omega)]
    exact c3
  have := k_Facts_tally (d := d) (R := fun w h' => zm_bl (d + 4) TT R (zm_J (zm_md 163) (d + 4) TT R g_KS_tallyGroups [] 29) 32 [(31, Instr.return_, 0, 0, 0, [])] [some (.inr (some 0)), some (.inr (some (38 + 4 * pi s)))] (w.toList ++ []) h') (h := g) (F := F) (t := 73) (b := 38 + 4 * pi s + 1) (c := 28) (lo := 0) (n := U.2 s 7) (B := 0) (sp := sp) (row := U.2 s) (tab := zs_t0) (by rw [e1]; exact c1) hF' c3w (by omega) (by rw [e1]; exact zk_tabs c1 (Or.inl rfl)) e3 (zw_T_0 0) (by omega) (by decide) (by rw [e1]; exact k3) (zc_R_fr y1 (e2 _ (by omega)) (e2 _ (by omega))) wr (by omega) (by rw [e1]; exact zk_shp28 c1) (fun v hv => by rw [e2 29 (by omega)]; exact c4 v hv) c4w (by decide) (fun g' f1 f2 f3 => ?_)
  · rw [Nat.zero_add] at this
    exact this
  · simp only [↓zq, ↓reduceIte, zr_si2, zr_sr1, zr_cp2, zr_tl, zr_tn, shq, List.contains_nil, List.contains_cons, Nat.reduceBEq, Bool.false_or, Bool.or_false, Bool.true_or, Bool.false_eq_true, if_false, if_true, true_and, and_true, List.set_cons_zero, List.set_cons_succ, List.length_cons, List.length_nil, Nat.reduceAdd, Nat.reduceLeDiff, Nat.le_refl, Nat.zero_le, true_or, or_true, zn_cl, ↓jj_KS_tallyGroups]
    exact hR g' (f1.trans e1) (fun a ha => (f2 a ha).trans (e2 a ha)) f3
/-- the value of a group -/
def zs_val (tab : zs_tb) (sg : Nat → Nat) (w k : Nat) : Nat := if (tab k).1 = 0 then 0 else if w = 0 then (tab k).2.1 else if w = 1 then (tab k).1 else if w = 2 then (tab k).2.2.1 else if w = 3 then (tab k).2.2.2 else if w = 4 then (tab k).2.1 / (tab k).1 else sg k
set_option maxHeartbeats 4000000 in
set_option maxRecDepth 100000 in
theorem k_Table_valueAt {d : Nat} {h : zm_M} {R : zm_R} {t k w B : Nat} {tab : zs_tb} {sg : Nat → Nat} (hk : zk_tab h.2 t) (hT : zc_T h.1 t tab) (hw : zw_T B tab) (hB : B < 2 ^ 20) (hk5 : k < 512) (hw6 : w ≤ 6) (hsg : 5 ≤ w → (tab k).1 ≠ 0 → h.1 (t + 5) k = nI (sg k)) (hR : R (some (.inl (nI (zs_val tab sg w k)))) h) : zm_C (d + 2) TT m_Table_valueAt [.inr (some t), .inl (nI k), .inl (nI w)] h R := by
  obtain ⟨k0, k1, k2, k3, k4, k5, p0, p1, p2, p3, p4⟩ := id hk
  obtain ⟨w1, w2, w3, w4⟩ := hw k
  refine st_Table_valueAt [] 30 ?_
  simp only [↓zq, ↓reduceIte, zr_si2, zr_sr1, zr_cp2, zr_tl, zr_tn, shq, List.contains_nil, List.contains_cons, Nat.reduceBEq, Bool.false_or, Bool.or_false, Bool.true_or, Bool.false_eq_true, if_false, if_true, true_and, and_true, List.set_cons_zero, List.set_cons_succ, List.length_cons, List.length_nil, Nat.reduceAdd, Nat.reduceLeDiff, Nat.le_refl, Nat.zero_le, true_or, or_true, zn_cl, ↓jj_Table_valueAt, k0]
  refine k_Table_hasKey hk hT hw hB hk5 ?_
  unfold zs_val at hR
  by_cases e : (tab k).1 = 0
  · rw [if_pos e] at hR ⊢
    simp only [↓zq, ↓reduceIte, zr_si2, zr_sr1, zr_cp2, zr_tl, zr_tn, shq, List.contains_nil, List.contains_cons, Nat.reduceBEq, Bool.false_or, Bool.or_false, Bool.true_or, Bool.false_eq_true, if_false, if_true, true_and, and_true, List.set_cons_zero, List.set_cons_succ, List.length_cons, List.length_nil, Nat.reduceAdd, Nat.reduceLeDiff, Nat.le_refl, Nat.zero_le, true_or, or_true, zn_cl, ↓jj_Table_valueAt, k0]
    exact ⟨fun z => absurd trivial z, fun _ => hR⟩
  · rw [if_neg e] at hR ⊢
    obtain ⟨q1, q2, q3⟩ := (hT.1 k hk5).2 e
    have hv : vp_in (nI k) 512 := vp_in_nI hk5 (by decide)
    have hcl := nI_clamp (show k < 2 ^ 31 by omega)
    have q0 := (hT.1 k hk5).1
    simp only [↓zq, ↓reduceIte, zr_si2, zr_sr1, zr_cp2, zr_tl, zr_tn, shq, List.contains_nil, List.contains_cons, Nat.reduceBEq, Bool.false_or, Bool.or_false, Bool.true_or, Bool.false_eq_true, if_false, if_true, true_and, and_true, List.set_cons_zero, List.set_cons_succ, List.length_cons, List.length_nil, Nat.reduceAdd, Nat.reduceLeDiff, Nat.le_refl, Nat.zero_le, true_or, or_true, zn_cl, ↓jj_Table_valueAt, k0, k1, k2, k3, k4, k5, p0, p1, p2, p3, p4, hv, hcl, q0, q1, q2, q3]
    refine ⟨fun _ => ?_, fun z => absurd z (by decide)⟩
    rcases (show w = 0 ∨ w = 1 ∨ w = 2 ∨ w = 3 ∨ w = 4 ∨ w = 5 ∨ w = 6 by omega) with rfl | rfl | rfl | rfl | rfl | rfl | rfl
    · exact ⟨fun _ => hR, fun z => absurd rfl z⟩
    · exact ⟨fun z => absurd z (by decide), fun _ => ⟨fun _ => hR, fun z => absurd rfl z⟩⟩
    · exact ⟨fun z => absurd z (by decide), fun _ => ⟨fun z => absurd z (by decide), fun _ => ⟨fun _ => hR, fun z => absurd rfl z⟩⟩⟩
    · exact ⟨fun z => absurd z (by decide), fun _ => ⟨fun z => absurd z (by decide), fun _ => ⟨fun z => absurd z (by decide), fun _ => ⟨fun _ => hR, fun z => absurd rfl z⟩⟩⟩⟩
    · refine ⟨fun z => absurd z (by decide), fun _ => ⟨fun z => absurd z (by decide), fun _ => ⟨fun z => absurd z (by decide), fun _ => ⟨fun z => absurd z (by decide), fun _ => ⟨fun _ => ⟨fun z => ?_, fun _ => ⟨?_, ?_⟩⟩, fun z => absurd rfl z⟩⟩⟩⟩⟩
      · have := (nI_leI (a := (tab k).1) (b := 0) (by omega) (by decide)).mp z
        omega
      · rw [zn_z (by omega)]
        exact e
      · rw [pk_div (by omega) (by omega) (by omega)]
        exact hR
    · refine ⟨fun z => absurd z (by decide), fun _ => ⟨fun z => absurd z (by decide), fun _ => ⟨fun z => absurd z (by decide), fun _ => ⟨fun z => absurd z (by decide), fun _ => ⟨fun z => absurd z (by decide), fun _ => ?_⟩⟩⟩⟩⟩
      rw [hsg (by decide) e]
      exact hR
    · refine ⟨fun z => absurd z (by decide), fun _ => ⟨fun z => absurd z (by decide), fun _ => ⟨fun z => absurd z (by decide), fun _ => ⟨fun z => absurd z (by decide), fun _ => ⟨fun z => absurd z (by decide), fun _ => ?_⟩⟩⟩⟩⟩
      rw [hsg (by decide) e]
      exact hR
/-- how many groups lie in the spans, of the keys below m -/
def zs_ins (sp row q : Nat → Nat) (tab : zs_tb) : Nat → Nat
  | 0 => 0
  | m + 1 => zs_ins sp row q tab m + if (tab m).1 ≠ 0 ∧ zs_lies sp row q m = true then 1 else 0
set_option maxHeartbeats 4000000 in
set_option maxRecDepth 100000 in
theorem k_KS_groupsInside {d : Nat} {h : zm_M} {R : zm_R} {pi : Nat → Nat} {F : zs_F} {sp : Nat → Nat} {U : zs_U} {Q : zs_Q} {s B : Nat} {tab : zs_tb} (hC : zC h pi F sp U Q) (hq : Q.1 = true) (hs : s < U.1) (hT : zc_T h.1 73 tab) (hw : zw_T B tab) (hB : B < 2 ^ 20) (hR : R (some (.inl (nI (zs_ins sp (U.2 s) Q.2 tab 512)))) h) : zm_C (d + 5) TT m_KS_groupsInside [.inr (some 0), .inr (some (38 + 4 * pi s + 1))] h R := by
  obtain ⟨c1, c2, ⟨c3, c3w⟩, ⟨c4, c4w⟩, ⟨c7, c8⟩, c9, c10⟩ := hC
  have h8 := c8.1
  have hp := (c2.1 s (by omega)).2
  obtain ⟨k1, k2, k3⟩ := zk_sums c1 hp
  obtain ⟨y1, y2, y3, y4⟩ := c7.2 s hs
  obtain ⟨wr, w1, w2, wu⟩ := c8.2 s hs
  obtain ⟨q2, q3⟩ := c9.2 hq
  obtain ⟨wq, wq2⟩ := c10 hq
  have p4 : h.2 0 4 = some 28 := by simp only [c1]
  have p7 : h.2 0 7 = some 70 := by simp only [c1]
  have p9 : h.2 0 9 = some 73 := by simp only [c1]
  have k31 := k3.1
  have loop : ∀ (n i : Nat), i + n = 512 → zm_W (zm_md m_KS_groupsInside) (d + 5) TT R 4 [some (.inr (some 0)), some (.inr (some (38 + 4 * pi s + 1))), some (.inl (nI (zs_ins sp (U.2 s) Q.2 tab i))), some (.inl (nI i))] [] h := by
    intro n
    induction n with
    | zero =>
      intro i hi
      have : i = 512 := by omega
      subst this
      refine zm_go g_KS_groupsInside [4] 30 (by decide +kernel) ok_KS_groupsInside _ rfl ?_
      generalize zs_ins sp (U.2 s) Q.2 tab 512 = x at hR
      simp only [↓zq, ↓reduceIte, zr_si2, zr_sr1, zr_cp2, zr_tl, zr_tn, shq, List.contains_nil, List.contains_cons, Nat.reduceBEq, Bool.false_or, Bool.or_false, Bool.true_or, Bool.false_eq_true, if_false, if_true, true_and, and_true, List.set_cons_zero, List.set_cons_succ, List.length_cons, List.length_nil, Nat.reduceAdd, Nat.reduceLeDiff, Nat.le_refl, Nat.zero_le, true_or, or_true, zn_cl, ↓jj_KS_groupsInside]
      exact ⟨fun _ => hR, fun z => absurd (Int32.le_refl _) z⟩
    | succ n ih =>
      intro i hi
      have hi5 : i < 512 := by omega
      have ih := ih (i + 1) (by omega)
      rw [zs_ins] at ih
      refine zm_go g_KS_groupsInside [4] 30 (by decide +kernel) ok_KS_groupsInside _ rfl ?_
      simp only [↓zq, ↓reduceIte, zr_si2, zr_sr1, zr_cp2, zr_tl, zr_tn, shq, List.contains_nil, List.contains_cons, Nat.reduceBEq, Bool.false_or, Bool.or_false, Bool.true_or, Bool.false_eq_true, if_false, if_true, true_and, and_true, List.set_cons_zero, List.set_cons_succ, List.length_cons, List.length_nil, Nat.reduceAdd, Nat.reduceLeDiff, Nat.le_refl, Nat.zero_le, true_or, or_true, zn_cl, ↓jj_KS_groupsInside, p4, p7, p9, k31, nI_1]
      refine ⟨fun z => absurd z (nI_ge (b := 512) hi5 (by decide)), fun _ => ?_⟩
      refine k_Table_hasKey (zk_tabs c1 (Or.inl rfl)) hT hw hB hi5 ?_
      simp only [↓zq, ↓reduceIte, zr_si2, zr_sr1, zr_cp2, zr_tl, zr_tn, shq, List.contains_nil, List.contains_cons, Nat.reduceBEq, Bool.false_or, Bool.or_false, Bool.true_or, Bool.false_eq_true, if_false, if_true, true_and, and_true, List.set_cons_zero, List.set_cons_succ, List.length_cons, List.length_nil, Nat.reduceAdd, Nat.reduceLeDiff, Nat.le_refl, Nat.zero_le, true_or, or_true, zn_cl, ↓jj_KS_groupsInside, p4, p7, p9, k31, nI_1]
      by_cases e : (tab i).1 = 0
      · rw [if_neg (by omega), Nat.add_zero] at ih
        rw [if_pos e]
        exact ⟨fun _ => ih, fun z => absurd rfl z⟩
      · rw [if_neg e]
        refine ⟨fun z => absurd z (by decide), fun _ => ?_⟩
        refine k_Cut_liesIn hi5 k3 y1 wr (zk_cutQ c1) q2 wq (zk_shp28 c1) c4 c4w ?_
        simp only [↓zq, ↓reduceIte, zr_si2, zr_sr1, zr_cp2, zr_tl, zr_tn, shq, List.contains_nil, List.contains_cons, Nat.reduceBEq, Bool.false_or, Bool.or_false, Bool.true_or, Bool.false_eq_true, if_false, if_true, true_and, and_true, List.set_cons_zero, List.set_cons_succ, List.length_cons, List.length_nil, Nat.reduceAdd, Nat.reduceLeDiff, Nat.le_refl, Nat.zero_le, true_or, or_true, zn_cl, ↓jj_KS_groupsInside, p4, p7, p9, k31, nI_1]
        cases e2 : zs_lies sp (U.2 s) Q.2 i
        · simp only [e2, Bool.false_eq_true, and_false, if_false, Nat.add_zero] at ih ⊢
          exact ⟨fun _ => ih, fun z => absurd trivial z⟩
        · rw [if_pos ⟨e, e2⟩] at ih
          simp only [if_true]
          refine ⟨fun z => absurd z (by decide), fun _ => ?_⟩
          exact ih
  refine st_KS_groupsInside [4] 9 ?_
  simp only [↓zq, ↓reduceIte, zr_si2, zr_sr1, zr_cp2, zr_tl, zr_tn, shq, List.contains_nil, List.contains_cons, Nat.reduceBEq, Bool.false_or, Bool.or_false, Bool.true_or, Bool.false_eq_true, if_false, if_true, true_and, and_true, List.set_cons_zero, List.set_cons_succ, List.length_cons, List.length_nil, Nat.reduceAdd, Nat.reduceLeDiff, Nat.le_refl, Nat.zero_le, true_or, or_true, zn_cl, ↓jj_KS_groupsInside]
  exact loop 512 0 rfl
/-- the way below i: the summary that is cheapest (none: the facts), and its cost -/
def zs_wy (sp : Nat → Nat) (F : zs_F) (U : zs_U) (q : Nat → Nat) : Nat → Option Nat × Nat
  | 0 => (none, F.1)
  | i + 1 => if zs_cov sp (U.2 i) q = true ∧ (zs_cost sp F (U.2 i) < (zs_wy sp F U q i).2 ∨ zs_cost sp F (U.2 i) = (zs_wy sp F U q i).2 ∧ (zs_wy sp F U q i).1 = none) then (some i, zs_cost sp F (U.2 i)) else zs_wy sp F U q i
def zs_wv (o : Option Nat) : Int32 := match o with
  | some i => nI i
  | none => -3
theorem zs_cost_le {sp : Nat → Nat} {F : zs_F} {row : Nat → Nat} (hw : F.1 ≤ 240) : zs_cost sp F row ≤ 752 := by
  have := zs_grp_le sp row F (row 7)
  unfold zs_cost
  omega
theorem zs_wy_le {sp : Nat → Nat} {F : zs_F} {U : zs_U} {q : Nat → Nat} (hw : F.1 ≤ 240) : ∀ i, (zs_wy sp F U q i).2 ≤ 752 ∧ ∀ j, (zs_wy sp F U q i).1 = some j → j < i
  | 0 => ⟨by unfold zs_wy; dsimp only; omega, fun j h => by cases h⟩
  | i + 1 => by
    obtain ⟨h1, h2⟩ := zs_wy_le (sp := sp) (F := F) (U := U) (q := q) hw i
    rw [zs_wy]
    split
    · exact ⟨zs_cost_le hw, fun j h => by cases h; omega⟩
    · exact ⟨h1, fun j h => Nat.lt_succ_of_lt (h2 j h)⟩
theorem zs_wv_none {o : Option Nat} (h : ∀ j, o = some j → j < 8) : (zs_wv o = -3) = (o = none) := by
  cases o with
  | none => simp [zs_wv]
  | some j =>
    have hj := h j rfl
    have e : ∀ j, j < 8 → ¬ nI j = -3 := by decide
    simp only [zs_wv, e j hj, reduceCtorEq]
set_option maxHeartbeats 4000000 in
set_option maxRecDepth 100000 in
theorem k_KS_cheapestWay {d : Nat} {h : zm_M} {R : zm_R} {pi : Nat → Nat} {F : zs_F} {sp : Nat → Nat} {U : zs_U} {Q : zs_Q} (hC : zC h pi F sp U Q) (hq : Q.1 = true) (hR : R (some (.inl (zs_wv (zs_wy sp F U Q.2 U.1).1))) h) : zm_C (d + 7) TT m_KS_cheapestWay [.inr (some 0)] h R := by
  obtain ⟨c1, c2, ⟨c3, c3w⟩, c4, ⟨c7, c8⟩, c9, c10⟩ := id hC
  have h8 := c8.1
  have hw1 := c3w.1
  have p5 : h.2 0 5 = some 30 := by simp only [c1]
  have p6 : h.2 0 6 = some 36 := by simp only [c1]
  have f1 := c3.1
  have u1 := c7.1
  have loop : ∀ (n i : Nat), i + n = U.1 → ∀ o1 o2, zm_W (zm_md m_KS_cheapestWay) (d + 7) TT R 13 [some (.inr (some 0)), some (.inl (zs_wv (zs_wy sp F U Q.2 i).1)), some (.inl (nI (zs_wy sp F U Q.2 i).2)), some (.inl (nI i)), o1, o2] [] h := by
    intro n
    induction n with
    | zero =>
      intro i hi o1 o2
      have : i = U.1 := by omega
      rw [this]
      refine zm_go g_KS_cheapestWay [13] 30 (by decide +kernel) ok_KS_cheapestWay _ rfl ?_
      simp only [↓zq, ↓reduceIte, zr_si2, zr_sr1, zr_cp2, zr_tl, zr_tn, shq, List.contains_nil, List.contains_cons, Nat.reduceBEq, Bool.false_or, Bool.or_false, Bool.true_or, Bool.false_eq_true, if_false, if_true, true_and, and_true, List.set_cons_zero, List.set_cons_succ, List.length_cons, List.length_nil, Nat.reduceAdd, Nat.reduceLeDiff, Nat.le_refl, Nat.zero_le, true_or, or_true, zn_cl, ↓jj_KS_cheapestWay, p6, u1]
      exact ⟨fun _ => hR, fun z => absurd (Int32.le_refl _) z⟩
    | succ n ih =>
      intro i hi o1 o2
      have hiU : i < U.1 := by omega
      have ih := ih (i + 1) (by omega)
      rw [zs_wy] at ih
      obtain ⟨wl1, wl2⟩ := zs_wy_le (sp := sp) (F := F) (U := U) (q := Q.2) hw1 i
      have hcl := zs_cost_le (sp := sp) (row := U.2 i) hw1
      have hwn := zs_wv_none (o := (zs_wy sp F U Q.2 i).1) (fun j hj => by have := wl2 j hj; omega)
      refine zm_go g_KS_cheapestWay [13] 30 (by decide +kernel) ok_KS_cheapestWay _ rfl ?_
      simp only [↓zq, ↓reduceIte, zr_si2, zr_sr1, zr_cp2, zr_tl, zr_tn, shq, List.contains_nil, List.contains_cons, Nat.reduceBEq, Bool.false_or, Bool.or_false, Bool.true_or, Bool.false_eq_true, if_false, if_true, true_and, and_true, List.set_cons_zero, List.set_cons_succ, List.length_cons, List.length_nil, Nat.reduceAdd, Nat.reduceLeDiff, Nat.le_refl, Nat.zero_le, true_or, or_true, zn_cl, ↓jj_KS_cheapestWay, p5, p6, u1, nI_1]
      refine ⟨fun z => absurd z (nI_ge (by omega) (by omega)), fun _ => ?_⟩
      refine k_Shelf_at hC (fun s hs e => ?_) (fun z => absurd rfl (z i hiU))
      have e := (nI_eq (by omega) (by omega)).mp e
      subst e
      simp only [↓zq, ↓reduceIte, zr_si2, zr_sr1, zr_cp2, zr_tl, zr_tn, shq, List.contains_nil, List.contains_cons, Nat.reduceBEq, Bool.false_or, Bool.or_false, Bool.true_or, Bool.false_eq_true, if_false, if_true, true_and, and_true, List.set_cons_zero, List.set_cons_succ, List.length_cons, List.length_nil, Nat.reduceAdd, Nat.reduceLeDiff, Nat.le_refl, Nat.zero_le, true_or, or_true, zn_cl, ↓jj_KS_cheapestWay, p5, p6, u1, nI_1]
      refine ⟨fun z => (by cases z), fun _ => ?_⟩
      refine k_KS_isCovering hC hs ?_
      simp only [↓zq, ↓reduceIte, zr_si2, zr_sr1, zr_cp2, zr_tl, zr_tn, shq, List.contains_nil, List.contains_cons, Nat.reduceBEq, Bool.false_or, Bool.or_false, Bool.true_or, Bool.false_eq_true, if_false, if_true, true_and, and_true, List.set_cons_zero, List.set_cons_succ, List.length_cons, List.length_nil, Nat.reduceAdd, Nat.reduceLeDiff, Nat.le_refl, Nat.zero_le, true_or, or_true, zn_cl, ↓jj_KS_cheapestWay, p5, p6, u1, nI_1]
      cases e2 : zs_cov sp (U.2 i) Q.2
      · simp only [hq, e2, Bool.false_eq_true, and_false, false_and, if_false] at ih ⊢
        exact ⟨fun z => absurd trivial z, fun _ => ih _ _⟩
      · simp only [hq, e2, true_and, and_self, if_true] at ih ⊢
        refine ⟨fun _ => ?_, fun z => absurd z (by decide)⟩
        refine k_KS_costOf hC hs ?_
        simp only [↓zq, ↓reduceIte, zr_si2, zr_sr1, zr_cp2, zr_tl, zr_tn, shq, List.contains_nil, List.contains_cons, Nat.reduceBEq, Bool.false_or, Bool.or_false, Bool.true_or, Bool.false_eq_true, if_false, if_true, true_and, and_true, List.set_cons_zero, List.set_cons_succ, List.length_cons, List.length_nil, Nat.reduceAdd, Nat.reduceLeDiff, Nat.le_refl, Nat.zero_le, true_or, or_true, zn_cl, ↓jj_KS_cheapestWay, p5, p6, u1, nI_1]
        rw [zn_lt (by omega) (by omega), zn_eq (by omega) (by omega), hwn]
        refine ⟨fun z => ?_, fun z => ⟨fun z2 => ?_, fun z2 => ⟨fun z3 => ?_, fun z3 => ?_⟩⟩⟩
        · rw [if_pos (Or.inl z)] at ih
          exact ih _ _
        · rw [if_neg (by omega)] at ih
          exact ih _ _
        · rw [if_neg (fun zz => zz.elim z (fun y => z3 y.2))] at ih
          exact ih _ _
        · rw [if_pos (Or.inr ⟨z2, z3⟩)] at ih
          exact ih _ _
  refine st_KS_cheapestWay [13] 9 ?_
  simp only [↓zq, ↓reduceIte, zr_si2, zr_sr1, zr_cp2, zr_tl, zr_tn, shq, List.contains_nil, List.contains_cons, Nat.reduceBEq, Bool.false_or, Bool.or_false, Bool.true_or, Bool.false_eq_true, if_false, if_true, true_and, and_true, List.set_cons_zero, List.set_cons_succ, List.length_cons, List.length_nil, Nat.reduceAdd, Nat.reduceLeDiff, Nat.le_refl, Nat.zero_le, true_or, or_true, zn_cl, ↓jj_KS_cheapestWay, p5, f1]
  exact loop U.1 0 (by omega) none none
