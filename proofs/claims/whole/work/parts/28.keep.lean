/-! cuts, summaries, shelves that are written -/
set_option maxHeartbeats 4000000 in
set_option maxRecDepth 100000 in
theorem k_Cut_clear {d : Nat} {h : zm_M} {R : zm_R} {a : Nat} (hk : zk_cut h.2 a) (hR : ∀ h' : zm_M, h'.2 = h.2 → (∀ c, (c < a ∨ a + 2 < c) → h'.1 c = h.1 c) → (∀ k, k < 3 → h'.1 (a + 1) k = 0 ∧ h'.1 (a + 2) k = 255) → h'.1 a 2 = 0 → h'.1 a 3 = 0 → R none h') : zm_C (d + 2) TT m_Cut_clear [.inr (some a)] h R := by
  obtain ⟨k1, k2, k3, k4, k5⟩ := hk
  refine st_Cut_clear [] 30 ?_
  simp only [↓zq, ↓reduceIte, zr_si2, zr_sr1, zr_cp2, zr_tl, zr_tn, shq, List.contains_nil, List.contains_cons, Nat.reduceBEq, Bool.false_or, Bool.or_false, Bool.true_or, Bool.false_eq_true, if_false, if_true, true_and, and_true, List.set_cons_zero, List.set_cons_succ, List.length_cons, List.length_nil, Nat.reduceAdd, Nat.reduceLeDiff, Nat.le_refl, Nat.zero_le, true_or, or_true, zn_cl, ↓jj_Cut_clear, k1, k4]
  refine k_fill k2 (by decide) ?_
  have e5 : (zm_fl h (a + 1) 3 0).2 a 1 = some (a + 2) := k5
  simp only [↓zq, ↓reduceIte, zr_si2, zr_sr1, zr_cp2, zr_tl, zr_tn, shq, List.contains_nil, List.contains_cons, Nat.reduceBEq, Bool.false_or, Bool.or_false, Bool.true_or, Bool.false_eq_true, if_false, if_true, true_and, and_true, List.set_cons_zero, List.set_cons_succ, List.length_cons, List.length_nil, Nat.reduceAdd, Nat.reduceLeDiff, Nat.le_refl, Nat.zero_le, true_or, or_true, zn_cl, ↓jj_Cut_clear, k1, e5]
  refine k_fill k3 (by decide) ?_
  simp only [↓zq, ↓reduceIte, zr_si2, zr_sr1, zr_cp2, zr_tl, zr_tn, shq, List.contains_nil, List.contains_cons, Nat.reduceBEq, Bool.false_or, Bool.or_false, Bool.true_or, Bool.false_eq_true, if_false, if_true, true_and, and_true, List.set_cons_zero, List.set_cons_succ, List.length_cons, List.length_nil, Nat.reduceAdd, Nat.reduceLeDiff, Nat.le_refl, Nat.zero_le, true_or, or_true, zn_cl, ↓jj_Cut_clear, k1]
  refine hR _ rfl (fun c hc => ?_) (fun k hk => ⟨?_, ?_⟩) ?_ ?_
  · funext j
    simp only [zr_si1, zm_fl]
    rw [if_neg (by omega), if_neg (by omega), if_neg (by omega), if_neg (by omega)]
  · simp only [zr_si1, zm_fl]
    rw [if_neg (by omega), if_neg (by omega), if_neg (by omega), if_pos ⟨trivial, hk⟩]
  · simp only [zr_si1, zm_fl]
    rw [if_neg (by omega), if_neg (by omega), if_pos ⟨trivial, hk⟩]
  · simp [zr_si1]
  · simp [zr_si1]
set_option maxHeartbeats 4000000 in
set_option maxRecDepth 100000 in
theorem k_Cut_copyFrom {d : Nat} {h : zm_M} {R : zm_R} {a b : Nat} (hk : zk_cut h.2 a) (hb : zk_cut h.2 b) (hab : b + 2 < a ∨ a + 2 < b) (hR : ∀ h' : zm_M, h'.2 = h.2 → (∀ c, (c < a ∨ a + 2 < c) → h'.1 c = h.1 c) → (∀ k, k < 3 → h'.1 (a + 1) k = h.1 (b + 1) k ∧ h'.1 (a + 2) k = h.1 (b + 2) k) → h'.1 a 2 = h.1 b 2 → h'.1 a 3 = h.1 b 3 → R none h') : zm_C (d + 1) TT m_Cut_copyFrom [.inr (some a), .inr (some b)] h R := by
  obtain ⟨k1, k2, k3, k4, k5⟩ := hk
  obtain ⟨b1, b2, b3, b4, b5⟩ := hb
  refine st_Cut_copyFrom [] 30 ?_
  simp only [↓zq, ↓reduceIte, zr_si2, zr_sr1, zr_cp2, zr_tl, zr_tn, shq, List.contains_nil, List.contains_cons, Nat.reduceBEq, Bool.false_or, Bool.or_false, Bool.true_or, Bool.false_eq_true, if_false, if_true, true_and, and_true, List.set_cons_zero, List.set_cons_succ, List.length_cons, List.length_nil, Nat.reduceAdd, Nat.reduceLeDiff, Nat.le_refl, Nat.zero_le, true_or, or_true, zn_cl, ↓jj_Cut_copyFrom, k1, k2, k3, k4, k5, b1, b2, b3, b4, b5]
  simp only [show ¬ (0 : Int32) < 0 by decide, show ¬ (3 : Int32) < 0 by decide, not_false_eq_true, true_and, Nat.reduceAdd, Nat.le_refl, zn_cl, Nat.zero_add]
  refine hR _ rfl (fun c hc => ?_) (fun k hk => ⟨?_, ?_⟩) ?_ ?_
  · funext j
    simp only [zr_si1, zr_cp1]
    rw [if_neg (by omega), if_neg (by omega), if_neg (by omega), if_neg (by omega)]
  · simp only [zr_si1, zr_cp1]
    rw [if_neg (by omega), if_neg (by omega), if_neg (by omega), if_pos ⟨trivial, by omega, by omega⟩, Nat.sub_zero, Nat.zero_add]
  · simp only [zr_si1, zr_cp1]
    rw [if_neg (by omega), if_neg (by omega), if_pos ⟨trivial, by omega, by omega⟩, if_neg (by omega), Nat.sub_zero, Nat.zero_add]
  · simp only [zr_si1, zr_cp1]
    rw [if_neg (by omega), if_pos ⟨trivial, trivial⟩, if_neg (by omega), if_neg (by omega)]
  · simp only [zr_si1, zr_cp1]
    rw [if_pos ⟨trivial, trivial⟩, if_neg (by omega), if_neg (by omega), if_neg (by omega)]
theorem zc_R_of {I J : Nat → Nat → Int32} {a b : Nat} {row : Nat → Nat} (h : zc_R I b row) (e : ∀ k, k < 3 → J (a + 1) k = I (b + 1) k ∧ J (a + 2) k = I (b + 2) k) : zc_R J a row := by
  obtain ⟨r0, r1, r2, r3, r4, r5⟩ := h
  exact ⟨(e 0 (by decide)).1.trans r0, (e 1 (by decide)).1.trans r1, (e 2 (by decide)).1.trans r2, (e 0 (by decide)).2.trans r3, (e 1 (by decide)).2.trans r4, (e 2 (by decide)).2.trans r5⟩
set_option maxHeartbeats 4000000 in
set_option maxRecDepth 100000 in
theorem k_Summ_copyFrom {d : Nat} {h : zm_M} {R : zm_R} {a b : Nat} (hk : zk_sum h.2 a) (hb : zk_sum h.2 b) (hab : b + 3 < a ∨ a + 3 < b) (hR : ∀ h' : zm_M, h'.2 = h.2 → (∀ c, (c < a ∨ a + 3 < c) → h'.1 c = h.1 c) → (∀ sp F row, zc_Y h.1 sp F b row → zc_Y h'.1 sp F a row) → R none h') : zm_C (d + 2) TT m_Summ_copyFrom [.inr (some a), .inr (some b)] h R := by
  obtain ⟨a1, a2, a3⟩ := hk
  obtain ⟨b1, b2, b3⟩ := hb
  have a4 := a3.1
  refine st_Summ_copyFrom [] 30 ?_
  simp only [↓zq, ↓reduceIte, zr_si2, zr_sr1, zr_cp2, zr_tl, zr_tn, shq, List.contains_nil, List.contains_cons, Nat.reduceBEq, Bool.false_or, Bool.or_false, Bool.true_or, Bool.false_eq_true, if_false, if_true, true_and, and_true, List.set_cons_zero, List.set_cons_succ, List.length_cons, List.length_nil, Nat.reduceAdd, Nat.reduceLeDiff, Nat.le_refl, Nat.zero_le, true_or, or_true, zn_cl, ↓jj_Summ_copyFrom, a1, a2, b1, b2, a4]
  refine k_Cut_copyFrom a3 b3 (by omega) (fun g e1 e2 e3 e4 e5 => ?_)
  simp only [↓zq, ↓reduceIte, zr_si2, zr_sr1, zr_cp2, zr_tl, zr_tn, shq, List.contains_nil, List.contains_cons, Nat.reduceBEq, Bool.false_or, Bool.or_false, Bool.true_or, Bool.false_eq_true, if_false, if_true, true_and, and_true, List.set_cons_zero, List.set_cons_succ, List.length_cons, List.length_nil, Nat.reduceAdd, Nat.reduceLeDiff, Nat.le_refl, Nat.zero_le, true_or, or_true, zn_cl, ↓jj_Summ_copyFrom, a1, b1]
  refine hR _ e1 (fun c hc => ?_) (fun sp F row hY => ?_)
  · funext j
    simp only [zr_si1]
    rw [if_neg (by omega), if_neg (by omega), e2 c (by omega)]
  · obtain ⟨y1, y2, y3, y4⟩ := hY
    have g1 : ∀ c, c ≠ a → ∀ k x y, (zm_si (zm_si g a 1 x) a 2 y).1 c k = g.1 c k := fun c hc k x y => by
      simp only [zr_si1]
      rw [if_neg (by omega), if_neg (by omega)]
    refine ⟨zc_R_of y1 (fun k hk => ?_), ?_, ?_, ?_⟩
    · rw [g1 _ (by omega), g1 _ (by omega)]
      exact e3 k hk
    · rw [g1 _ (by omega)]
      exact e4.trans y2
    · simp only [zr_si1]
      rw [if_neg (by omega), if_pos ⟨trivial, trivial⟩, e2 b (by omega)]
      exact y3
    · simp only [zr_si1]
      rw [if_pos ⟨trivial, trivial⟩, if_neg (by omega), e2 b (by omega)]
      exact y4
/-- a shelf at t, its summaries at ad -/
def zk_shf (h : zm_M) (t n : Nat) (ad : Nat → Nat) : Prop := (zm_sh TT t).1 = 10 ∧ zm_sh TT (t + 1) = (2, 8) ∧ h.2 t 0 = some (t + 1) ∧ (∀ s, s < 8 → h.2 (t + 1) s = some (ad s) ∧ zk_sum h.2 (ad s)) ∧ h.1 t 1 = nI n ∧ n ≤ 8
theorem zk_shf.of {h h' : zm_M} {t n : Nat} {ad : Nat → Nat} (hk : zk_shf h t n ad) (e1 : h'.2 = h.2) (e2 : h'.1 t 1 = h.1 t 1) : zk_shf h' t n ad := by
  obtain ⟨a, b, c, e, f, g⟩ := hk
  exact ⟨a, b, by rw [e1]; exact c, by rw [e1]; exact e, e2.trans f, g⟩
set_option maxHeartbeats 4000000 in
set_option maxRecDepth 100000 in
theorem k_Shelf_atG {d : Nat} {h : zm_M} {R : zm_R} {t n i : Nat} {ad : Nat → Nat} (hk : zk_shf h t n ad) (hi : i < n) (hR : R (some (.inr (some (ad i)))) h) : zm_C (d + 1) TT m_Shelf_at [.inr (some t), .inl (nI i)] h R := by
  obtain ⟨k1, k2, k3, k4, k5, k6⟩ := hk
  refine st_Shelf_at [] 30 ?_
  simp only [↓zq, ↓reduceIte, zr_si2, zr_sr1, zr_cp2, zr_tl, zr_tn, shq, List.contains_nil, List.contains_cons, Nat.reduceBEq, Bool.false_or, Bool.or_false, Bool.true_or, Bool.false_eq_true, if_false, if_true, true_and, and_true, List.set_cons_zero, List.set_cons_succ, List.length_cons, List.length_nil, Nat.reduceAdd, Nat.reduceLeDiff, Nat.le_refl, Nat.zero_le, true_or, or_true, zn_cl, ↓jj_Shelf_at, k1, k2, k3, k5]
  refine ⟨fun z => absurd z (nI_pos (by omega)), fun _ => ⟨fun z => absurd z (nI_ge hi (by omega)), fun _ => ⟨fun z => absurd z (nI_ge (b := 8) (by omega) (by decide)), fun _ => ⟨vp_in_nI (by omega) (by decide), ?_⟩⟩⟩⟩
  rw [nI_clamp (by omega), (k4 i (by omega)).1]
  exact hR
set_option maxHeartbeats 4000000 in
set_option maxRecDepth 100000 in
theorem k_Shelf_addOne {d : Nat} {h : zm_M} {R : zm_R} {t n : Nat} {ad : Nat → Nat} (hk : zk_shf h t n ad) (h0 : n = 8 → R (some (.inr none)) h) (h1 : n < 8 → R (some (.inr (some (ad n)))) (zm_si h t 1 (nI (n + 1)))) : zm_C (d + 2) TT m_Shelf_addOne [.inr (some t)] h R := by
  obtain ⟨k1, k2, k3, k4, k5, k6⟩ := id hk
  refine st_Shelf_addOne [] 30 ?_
  simp only [↓zq, ↓reduceIte, zr_si2, zr_sr1, zr_cp2, zr_tl, zr_tn, shq, List.contains_nil, List.contains_cons, Nat.reduceBEq, Bool.false_or, Bool.or_false, Bool.true_or, Bool.false_eq_true, if_false, if_true, true_and, and_true, List.set_cons_zero, List.set_cons_succ, List.length_cons, List.length_nil, Nat.reduceAdd, Nat.reduceLeDiff, Nat.le_refl, Nat.zero_le, true_or, or_true, zn_cl, ↓jj_Shelf_addOne, k1, k5, nI_1]
  refine ⟨fun z => ?_, fun z => h0 ?_⟩
  · have hn : n < 8 := by
      rcases Nat.lt_or_ge n 8 with q | q
      · exact q
      · exact absurd z (by rw [show n = 8 by omega]; decide)
    simp only [zr_si1, and_self, if_true]
    have e : nI (n + 1) - 1 = nI n := nI_pred n
    rw [e]
    refine k_Shelf_atG (n := n + 1) (ad := ad) ⟨k1, k2, k3, k4, by simp [zr_si1], by omega⟩ (by omega) ?_
    simp only [↓zq, ↓reduceIte, zr_si2, zr_sr1, zr_cp2, zr_tl, zr_tn, shq, List.contains_nil, List.contains_cons, Nat.reduceBEq, Bool.false_or, Bool.or_false, Bool.true_or, Bool.false_eq_true, if_false, if_true, true_and, and_true, List.set_cons_zero, List.set_cons_succ, List.length_cons, List.length_nil, Nat.reduceAdd, Nat.reduceLeDiff, Nat.le_refl, Nat.zero_le, true_or, or_true, zn_cl, ↓jj_Shelf_addOne]
    exact h1 hn
  · rcases Nat.lt_or_ge n 8 with q | q
    · exact absurd (nI_lt (b := 8) q (by decide)) z
    · omega
set_option maxHeartbeats 4000000 in
set_option maxRecDepth 100000 in
theorem k_Shelf_copyFrom {d : Nat} {h : zm_M} {R : zm_R} {t u n : Nat} {ad bd : Nat → Nat} (hk : (zm_sh TT t).1 = 10 ∧ zm_sh TT (t + 1) = (2, 8) ∧ h.2 t 0 = some (t + 1) ∧ ∀ s, s < 8 → h.2 (t + 1) s = some (ad s) ∧ zk_sum h.2 (ad s)) (hu : zk_shf h u n bd) (hut : u ≠ t) (hd1 : ∀ s s', s < 8 → s' < 8 → s ≠ s' → ad s + 3 < ad s' ∨ ad s' + 3 < ad s) (hd2 : ∀ s s', s < 8 → s' < 8 → bd s + 3 < ad s' ∨ ad s' + 3 < bd s) (hd3 : ∀ s, s < 8 → (t < ad s ∨ ad s + 3 < t) ∧ (u < ad s ∨ ad s + 3 < u) ∧ (t < bd s ∨ bd s + 3 < t)) (hR : ∀ h' : zm_M, h'.2 = h.2 → h'.1 t 1 = nI n → (∀ c, c ≠ t → (∀ s, s < 8 → c < ad s ∨ ad s + 3 < c) → h'.1 c = h.1 c) → (∀ s, s < n → ∀ sp F row, zc_Y h.1 sp F (bd s) row → zc_Y h'.1 sp F (ad s) row) → R none h') : zm_C (d + 3) TT m_Shelf_copyFrom [.inr (some t), .inr (some u)] h R := by
  obtain ⟨k1, k2, k3, k4⟩ := id hk
  obtain ⟨u1, u2, u3, u4, u5, u6⟩ := id hu
  have loop : ∀ (j i : Nat), i + j = n → ∀ g : zm_M, g.2 = h.2 → g.1 t 1 = nI n → (∀ c, c ≠ t → (∀ s, s < 8 → c < ad s ∨ ad s + 3 < c) → g.1 c = h.1 c) → (∀ s, s < i → ∀ sp F row, zc_Y h.1 sp F (bd s) row → zc_Y g.1 sp F (ad s) row) → ∀ o1 o2, zm_W (zm_md m_Shelf_copyFrom) (d + 3) TT R 10 [some (.inr (some t)), some (.inr (some u)), some (.inl (nI i)), o1, o2] [] g := by
    intro j
    induction j with
    | zero =>
      intro i hi g e1 e2 e3 e4 o1 o2
      have : i = n := by omega
      subst this
      refine zm_go g_Shelf_copyFrom [10] 30 (by decide +kernel) ok_Shelf_copyFrom _ rfl ?_
      simp only [↓zq, ↓reduceIte, zr_si2, zr_sr1, zr_cp2, zr_tl, zr_tn, shq, List.contains_nil, List.contains_cons, Nat.reduceBEq, Bool.false_or, Bool.or_false, Bool.true_or, Bool.false_eq_true, if_false, if_true, true_and, and_true, List.set_cons_zero, List.set_cons_succ, List.length_cons, List.length_nil, Nat.reduceAdd, Nat.reduceLeDiff, Nat.le_refl, Nat.zero_le, true_or, or_true, zn_cl, ↓jj_Shelf_copyFrom, k1, e2]
      exact ⟨fun _ => hR g e1 e2 e3 e4, fun z => absurd (Int32.le_refl _) z⟩
    | succ j ih =>
      intro i hi g e1 e2 e3 e4 o1 o2
      have gt : zk_shf g t n ad := ⟨k1, k2, by rw [e1]; exact k3, by rw [e1]; exact k4, e2, u6⟩
      have gu : zk_shf g u n bd := hu.of e1 (by rw [e3 u hut (fun s hs => (hd3 s hs).2.1)])
      refine zm_go g_Shelf_copyFrom [10] 30 (by decide +kernel) ok_Shelf_copyFrom _ rfl ?_
      simp only [↓zq, ↓reduceIte, zr_si2, zr_sr1, zr_cp2, zr_tl, zr_tn, shq, List.contains_nil, List.contains_cons, Nat.reduceBEq, Bool.false_or, Bool.or_false, Bool.true_or, Bool.false_eq_true, if_false, if_true, true_and, and_true, List.set_cons_zero, List.set_cons_succ, List.length_cons, List.length_nil, Nat.reduceAdd, Nat.reduceLeDiff, Nat.le_refl, Nat.zero_le, true_or, or_true, zn_cl, ↓jj_Shelf_copyFrom, k1, u1, e2]
      refine ⟨fun z => absurd z (nI_ge (by omega) (by omega)), fun _ => ?_⟩
      refine k_Shelf_atG gt (by omega) ?_
      simp only [↓zq, ↓reduceIte, zr_si2, zr_sr1, zr_cp2, zr_tl, zr_tn, shq, List.contains_nil, List.contains_cons, Nat.reduceBEq, Bool.false_or, Bool.or_false, Bool.true_or, Bool.false_eq_true, if_false, if_true, true_and, and_true, List.set_cons_zero, List.set_cons_succ, List.length_cons, List.length_nil, Nat.reduceAdd, Nat.reduceLeDiff, Nat.le_refl, Nat.zero_le, true_or, or_true, zn_cl, ↓jj_Shelf_copyFrom, k1, u1, e2]
      refine k_Shelf_atG gu (by omega) ?_
      have sk := (k4 i (by omega)).2
      have su := (u4 i (by omega)).2
      have sk1 := sk.1
      simp only [↓zq, ↓reduceIte, zr_si2, zr_sr1, zr_cp2, zr_tl, zr_tn, shq, List.contains_nil, List.contains_cons, Nat.reduceBEq, Bool.false_or, Bool.or_false, Bool.true_or, Bool.false_eq_true, if_false, if_true, true_and, and_true, List.set_cons_zero, List.set_cons_succ, List.length_cons, List.length_nil, Nat.reduceAdd, Nat.reduceLeDiff, Nat.le_refl, Nat.zero_le, true_or, or_true, zn_cl, ↓jj_Shelf_copyFrom, k1, u1, e2, sk1]
      refine ⟨fun z => (by cases z), fun _ => ⟨fun z => (by cases z), fun _ => ?_⟩⟩
      refine k_Summ_copyFrom (by rw [e1]; exact sk) (by rw [e1]; exact su) (hd2 i i (by omega) (by omega)) (fun g' f1 f2 f3 => ?_)
      simp only [↓zq, ↓reduceIte, zr_si2, zr_sr1, zr_cp2, zr_tl, zr_tn, shq, List.contains_nil, List.contains_cons, Nat.reduceBEq, Bool.false_or, Bool.or_false, Bool.true_or, Bool.false_eq_true, if_false, if_true, true_and, and_true, List.set_cons_zero, List.set_cons_succ, List.length_cons, List.length_nil, Nat.reduceAdd, Nat.reduceLeDiff, Nat.le_refl, Nat.zero_le, true_or, or_true, zn_cl, ↓jj_Shelf_copyFrom, nI_1]
      refine ih (i + 1) (by omega) g' (f1.trans e1) ?_ (fun c hc hs => (f2 c (hs i (by omega))).trans (e3 c hc hs)) (fun s hs sp F row hY => ?_) _ _
      · rw [f2 t (hd3 i (by omega)).1]
        exact e2
      · have hYg : zc_Y g.1 sp F (bd s) row := by
          have q : ∀ c, bd s ≤ c → c ≤ bd s + 3 → g.1 c = h.1 c := fun c c1 c2 => e3 c (by have := (hd3 s (by omega)).2.2; omega) (fun s' hs' => by have := hd2 s s' (by omega) hs'; omega)
          unfold zc_Y zc_R
          rw [q (bd s) (by omega) (by omega), q (bd s + 1) (by omega) (by omega), q (bd s + 1 + 1) (by omega) (by omega), q (bd s + 1 + 2) (by omega) (by omega)]
          exact hY
        by_cases hsi : s = i
        · subst hsi
          exact f3 sp F row hYg
        · have hY2 := e4 s (by omega) sp F row hY
          have q : ∀ c, ad s ≤ c → c ≤ ad s + 3 → g'.1 c = g.1 c := fun c c1 c2 => f2 c (by have := hd1 s i (by omega) (by omega) hsi; omega)
          unfold zc_Y zc_R
          rw [q (ad s) (by omega) (by omega), q (ad s + 1) (by omega) (by omega), q (ad s + 1 + 1) (by omega) (by omega), q (ad s + 1 + 2) (by omega) (by omega)]
          exact hY2
  refine st_Shelf_copyFrom [10] 9 ?_
  simp only [↓zq, ↓reduceIte, zr_si2, zr_sr1, zr_cp2, zr_tl, zr_tn, shq, List.contains_nil, List.contains_cons, Nat.reduceBEq, Bool.false_or, Bool.or_false, Bool.true_or, Bool.false_eq_true, if_false, if_true, true_and, and_true, List.set_cons_zero, List.set_cons_succ, List.length_cons, List.length_nil, Nat.reduceAdd, Nat.reduceLeDiff, Nat.le_refl, Nat.zero_le, true_or, or_true, zn_cl, ↓jj_Shelf_copyFrom, k1, u1, u5]
  refine loop n 0 (by omega) (zm_si h t 1 (nI n)) rfl (by simp [zr_si1]) (fun c hc _ => ?_) (fun s hs => absurd hs (Nat.not_lt_zero s)) none none
  funext j
  simp only [zr_si1]
  rw [if_neg (by omega)]
/-- the rows of the shelf behind a drop of i of n -/
def zs_rmv (pi : Nat → Nat) (i n : Nat) : Nat → Nat := fun j => if j < i then pi j else if j + 1 < n then pi (j + 1) else if j + 1 = n then pi i else pi j
def zs_rmx (i n j : Nat) : Nat := if j < i then j else if j + 1 < n then j + 1 else if j + 1 = n then i else j
theorem zs_rmx_eq (pi : Nat → Nat) (i n j : Nat) : zs_rmv pi i n j = pi (zs_rmx i n j) := by
  unfold zs_rmv zs_rmx
  repeat' split
  all_goals rfl
theorem zs_rmx_lt {i n j : Nat} (hi : i < n) (hn : n ≤ 8) (hj : j < 8) : zs_rmx i n j < 8 := by
  unfold zs_rmx
  repeat' split
  all_goals omega
theorem zs_rmv_in {pi : Nat → Nat} {i n : Nat} (hi : i < n) (hn : n ≤ 8) (h1 : ∀ j, j < 8 → pi j < 8) (h2 : ∀ i j, i < 8 → j < 8 → pi i = pi j → i = j) : (∀ j, j < 8 → zs_rmv pi i n j < 8) ∧ ∀ a b, a < 8 → b < 8 → zs_rmv pi i n a = zs_rmv pi i n b → a = b := by
  refine ⟨fun j hj => ?_, fun a b ha hb e => ?_⟩
  · rw [zs_rmx_eq]
    exact h1 _ (zs_rmx_lt hi hn hj)
  · rw [zs_rmx_eq, zs_rmx_eq] at e
    have := h2 _ _ (zs_rmx_lt hi hn ha) (zs_rmx_lt hi hn hb) e
    unfold zs_rmx at this
    repeat' split at this
    all_goals omega
set_option maxHeartbeats 4000000 in
set_option maxRecDepth 100000 in
theorem k_Shelf_remove {d : Nat} {h : zm_M} {R : zm_R} {pi : Nat → Nat} {n i : Nat} (hp : zp_ok h.2) (hP : zc_P h.2 pi) (hz : h.1 36 1 = nI n) (hn : n ≤ 8) (hi : i < n) (hR : ∀ h' : zm_M, (∀ c, c ≠ 36 → h'.1 c = h.1 c) → h'.1 36 1 = nI (n - 1) → (∀ b j, b ≠ 37 → h'.2 b j = h.2 b j) → zc_P h'.2 (zs_rmv pi i n) → R none h') : zm_C (d + 2) TT m_Shelf_remove [.inr (some 36), .inl (nI i)] h R := by
  have p0 : h.2 36 0 = some 37 := by simp only [hp]
  have ks : zk_shf h 36 n (fun s => 38 + 4 * pi s) := ⟨rfl, rfl, p0, fun s hs => ⟨(hP.1 s hs).1, zk_sums hp (hP.1 s hs).2⟩, hz, hn⟩
  have hsh : ∀ s, s < 8 → (zm_sh TT (38 + 4 * s)).1 = 11 := fun s hs => (zk_sums hp hs).1
  have loop : ∀ (k j : Nat), j + k = n → i < j → ∀ g : zm_M, g.1 = h.1 → (∀ b x, b ≠ 37 → g.2 b x = h.2 b x) → (∀ x, x < 8 → g.2 37 x = some (38 + 4 * pi (if i ≤ x ∧ x + 1 < j then x + 1 else x))) → zm_W (zm_md m_Shelf_remove) (d + 2) TT R 15 [some (.inr (some 36)), some (.inl (nI i)), some (.inr (some (38 + 4 * pi i))), some (.inl (nI j))] [] g := by
    intro k
    induction k with
    | zero =>
      intro j hj hij g e1 e2 e3
      have : j = n := by omega
      subst this
      have g0 : g.2 36 0 = some 37 := by rw [e2 36 0 (by decide)]; exact p0
      have gz : g.1 36 1 = nI j := by rw [e1]; exact hz
      obtain ⟨y, rfl⟩ : ∃ y, j = y + 1 := ⟨j - 1, by omega⟩
      refine zm_go g_Shelf_remove [15] 30 (by decide +kernel) ok_Shelf_remove _ rfl ?_
      have ep : nI (y + 1) - 1 = nI y := nI_pred y
      simp only [↓zq, ↓reduceIte, zr_si2, zr_sr1, zr_cp2, zr_tl, zr_tn, shq, List.contains_nil, List.contains_cons, Nat.reduceBEq, Bool.false_or, Bool.or_false, Bool.true_or, Bool.false_eq_true, if_false, if_true, true_and, and_true, List.set_cons_zero, List.set_cons_succ, List.length_cons, List.length_nil, Nat.reduceAdd, Nat.reduceLeDiff, Nat.le_refl, Nat.zero_le, true_or, or_true, zn_cl, ↓jj_Shelf_remove, g0, gz, ep]
      simp only [zr_si1, and_self, if_true, nI_clamp (show y < 2 ^ 31 by omega)]
      refine ⟨fun _ => ⟨hsh _ (hP.1 i (by omega)).2, vp_in_nI (by omega) (by decide), ?_⟩, fun z => absurd (Int32.le_refl _) z⟩
      refine hR _ (fun c hc => ?_) (by simp [zr_sr1, zr_si1]) (fun b x hb => ?_) ⟨fun x hx => ⟨?_, (zs_rmv_in hi hn (fun j hj => (hP.1 j hj).2) hP.2).1 x hx⟩, (zs_rmv_in hi hn (fun j hj => (hP.1 j hj).2) hP.2).2⟩
      · funext x
        simp only [zr_sr1, zr_si1]
        rw [if_neg (by omega), e1]
      · simp only [zr_sr2, zr_si2]
        rw [if_neg (by omega), e2 b x hb]
      · simp only [zr_sr2, zr_si2]
        unfold zs_rmv
        by_cases h1 : x = y
        · rw [if_pos ⟨trivial, h1⟩, if_neg (by omega), if_neg (by omega), if_pos (by omega)]
        · rw [if_neg (by omega), e3 x hx]
          by_cases h2 : x < i
          · rw [if_neg (by omega), if_pos h2]
          · by_cases h3 : x + 1 < y + 1
            · rw [if_pos ⟨by omega, h3⟩, if_neg h2, if_pos h3]
            · rw [if_neg (by omega), if_neg h2, if_neg h3, if_neg (by omega)]
    | succ k ih =>
      intro j hj hij g e1 e2 e3
      have g0 : g.2 36 0 = some 37 := by rw [e2 36 0 (by decide)]; exact p0
      have gz : g.1 36 1 = nI n := by rw [e1]; exact hz
      have gj := e3 j (by omega)
      rw [if_neg (by omega)] at gj
      obtain ⟨y, rfl⟩ : ∃ y, j = y + 1 := ⟨j - 1, by omega⟩
      have ep : nI (y + 1) - 1 = nI y := nI_pred y
      have v1 : vp_in (nI (y + 1)) 8 := vp_in_nI (by omega) (by decide)
      have v2 : vp_in (nI y) 8 := vp_in_nI (by omega) (by decide)
      have c1 := nI_clamp (show y + 1 < 2 ^ 31 by omega)
      have c2 := nI_clamp (show y < 2 ^ 31 by omega)
      have hs1 := hsh _ (hP.1 (y + 1) (by omega)).2
      refine zm_go g_Shelf_remove [15] 30 (by decide +kernel) ok_Shelf_remove _ rfl ?_
      simp only [↓zq, ↓reduceIte, zr_si2, zr_sr1, zr_cp2, zr_tl, zr_tn, shq, List.contains_nil, List.contains_cons, Nat.reduceBEq, Bool.false_or, Bool.or_false, Bool.true_or, Bool.false_eq_true, if_false, if_true, true_and, and_true, List.set_cons_zero, List.set_cons_succ, List.length_cons, List.length_nil, Nat.reduceAdd, Nat.reduceLeDiff, Nat.le_refl, Nat.zero_le, true_or, or_true, zn_cl, ↓jj_Shelf_remove, g0, gz, ep, v1, v2, c1, c2, gj, hs1, nI_1]
      refine ⟨fun z => absurd z (nI_ge (by omega) (by omega)), fun _ => ⟨fun z => absurd z (nI_ge (b := 8) (by omega) (by decide)), fun _ => ?_⟩⟩
      refine ih (y + 1 + 1) (by omega) (by omega) _ e1 (fun b x hb => ?_) (fun x hx => ?_)
      · simp only [zr_sr2]
        rw [if_neg (by omega), e2 b x hb]
      · simp only [zr_sr2]
        by_cases h1 : x = y
        · subst h1
          rw [if_pos ⟨trivial, rfl⟩, if_pos ⟨by omega, by omega⟩]
        · rw [if_neg (by omega), e3 x hx]
          by_cases h2 : i ≤ x ∧ x + 1 < y + 1
          · rw [if_pos h2, if_pos (by omega)]
          · rw [if_neg h2, if_neg (by omega)]
  refine st_Shelf_remove [15] 9 ?_
  simp only [↓zq, ↓reduceIte, zr_si2, zr_sr1, zr_cp2, zr_tl, zr_tn, shq, List.contains_nil, List.contains_cons, Nat.reduceBEq, Bool.false_or, Bool.or_false, Bool.true_or, Bool.false_eq_true, if_false, if_true, true_and, and_true, List.set_cons_zero, List.set_cons_succ, List.length_cons, List.length_nil, Nat.reduceAdd, Nat.reduceLeDiff, Nat.le_refl, Nat.zero_le, true_or, or_true, zn_cl, ↓jj_Shelf_remove]
  refine k_Shelf_atG ks hi ?_
  simp only [↓zq, ↓reduceIte, zr_si2, zr_sr1, zr_cp2, zr_tl, zr_tn, shq, List.contains_nil, List.contains_cons, Nat.reduceBEq, Bool.false_or, Bool.or_false, Bool.true_or, Bool.false_eq_true, if_false, if_true, true_and, and_true, List.set_cons_zero, List.set_cons_succ, List.length_cons, List.length_nil, Nat.reduceAdd, Nat.reduceLeDiff, Nat.le_refl, Nat.zero_le, true_or, or_true, zn_cl, ↓jj_Shelf_remove, nI_1]
  refine ⟨fun _ => ?_, fun z => (by cases z)⟩
  refine loop (n - (i + 1)) (i + 1) (by omega) (by omega) h rfl (fun _ _ _ => rfl) (fun x hx => ?_)
  rw [if_neg (by omega)]
  exact (hP.1 x hx).1
set_option maxHeartbeats 4000000 in
set_option maxRecDepth 100000 in
theorem k_KS_makeAnew {d : Nat} {h : zm_M} {R : zm_R} {F : zs_F} {sp row : Nat → Nat} {a : Nat} (hp : zp_ok h.2) (hka : zk_sum h.2 a) (ha : 35 < a ∧ a + 3 < 70) (hF : zc_F h.1 F) (hw : zw_F F) (hS : zc_S h.1 sp) (hsw : zw_S sp) (hr : zc_R h.1 (a + 1) row) (hwr : zw_R row) (hR : ∀ h' : zm_M, h'.2 = h.2 → (∀ c, c ≠ a → (c < 73 ∨ 77 < c) → h'.1 c = h.1 c) → h'.1 a 1 = nI F.1 → h'.1 a 2 = nI (zs_grp sp row F F.1) → R none h') : zm_C (d + 5) TT m_KS_makeAnew [.inr (some 0), .inr (some a)] h R := by
  obtain ⟨k1, k2, k3⟩ := hka
  have hw1 := hw.1
  have p4 : h.2 0 4 = some 28 := by simp only [hp]
  have p5 : h.2 0 5 = some 30 := by simp only [hp]
  have p9 : h.2 0 9 = some 73 := by simp only [hp]
  have f1 := hF.1
  refine st_KS_makeAnew [] 30 ?_
  simp only [↓zq, ↓reduceIte, zr_si2, zr_sr1, zr_cp2, zr_tl, zr_tn, shq, List.contains_nil, List.contains_cons, Nat.reduceBEq, Bool.false_or, Bool.or_false, Bool.true_or, Bool.false_eq_true, if_false, if_true, true_and, and_true, List.set_cons_zero, List.set_cons_succ, List.length_cons, List.length_nil, Nat.reduceAdd, Nat.reduceLeDiff, Nat.le_refl, Nat.zero_le, true_or, or_true, zn_cl, ↓jj_KS_makeAnew, p4, p5, p9, k1, k2, f1]
  have z1 : ∀ c, c ≠ a → (zm_si h a 1 (nI F.1)).1 c = h.1 c := fun c hc => by
    funext j
    simp only [zr_si1]
    rw [if_neg (by omega)]
  refine k_Table_clear (zk_tabs hp (Or.inl rfl)) (fun g e1 e2 e3 => ?_)
  have p4 : g.2 0 4 = some 28 := by rw [e1]; exact p4
  have p5 : g.2 0 5 = some 30 := by rw [e1]; exact p5
  have p9 : g.2 0 9 = some 73 := by rw [e1]; exact p9
  have k2' : g.2 a 0 = some (a + 1) := by rw [e1]; exact k2
  have y3' : g.1 a 1 = nI F.1 := by rw [e2 _ (by omega)]; simp [zr_si1]
  have eP : g.2 = h.2 := e1
  have eI : ∀ c, c ≠ a → (c < 73 ∨ 77 < c) → g.1 c = h.1 c := fun c c1 c2 => (e2 c c2).trans (z1 c c1)
  simp only [↓zq, ↓reduceIte, zr_si2, zr_sr1, zr_cp2, zr_tl, zr_tn, shq, List.contains_nil, List.contains_cons, Nat.reduceBEq, Bool.false_or, Bool.or_false, Bool.true_or, Bool.false_eq_true, if_false, if_true, true_and, and_true, List.set_cons_zero, List.set_cons_succ, List.length_cons, List.length_nil, Nat.reduceAdd, Nat.reduceLeDiff, Nat.le_refl, Nat.zero_le, true_or, or_true, zn_cl, ↓jj_KS_makeAnew, p4, p5, p9, k1, k2', y3']
  have hF' : zc_F g.1 F := by
    unfold zc_F
    rw [eI 30 (by omega) (by omega), eI 31 (by omega) (by omega), eI 32 (by omega) (by omega)]
    exact hF
  rw [show nI F.1 = nI (0 + F.1) by rw [Nat.zero_add], show (0 : Int32) = nI 0 from rfl]
  refine k_Facts_tally (F := F) (B := 0) (sp := sp) (row := row) (tab := zs_t0) (by rw [eP]; exact hp) hF' hw (by omega) (by rw [eP]; exact zk_tabs hp (Or.inl rfl)) e3 (zw_T_0 0) (by omega) (by decide) (by rw [eP]; exact k3) (zc_R_fr hr (eI _ (by omega) (by omega)) (eI _ (by omega) (by omega))) hwr (by omega) (by rw [eP]; exact zk_shp28 hp) (fun v hv => by rw [eI 29 (by omega) (by omega)]; exact hS v hv) hsw (by decide) (fun g' f1 f2 f3 => ?_)
  have q9 : g'.2 0 9 = some 73 := by rw [f1]; exact p9
  have sz := f3.2
  simp only [↓zq, ↓reduceIte, zr_si2, zr_sr1, zr_cp2, zr_tl, zr_tn, shq, List.contains_nil, List.contains_cons, Nat.reduceBEq, Bool.false_or, Bool.or_false, Bool.true_or, Bool.false_eq_true, if_false, if_true, true_and, and_true, List.set_cons_zero, List.set_cons_succ, List.length_cons, List.length_nil, Nat.reduceAdd, Nat.reduceLeDiff, Nat.le_refl, Nat.zero_le, true_or, or_true, zn_cl, ↓jj_KS_makeAnew, q9, k1, sz]
  refine hR _ (f1.trans eP) (fun c c1 c2 => ?_) ?_ ?_
  · funext j
    simp only [zr_si1]
    rw [if_neg (by omega), f2 c c2, eI c c1 c2]
  · simp only [zr_si1]
    rw [if_neg (by decide), f2 a (by omega), y3']
  · simp only [zr_si1, and_self, if_true]
    congr 1
    refine zs_some_congr 512 (fun k _ => ?_)
    rw [zs_tal_cnt]
    simp [zs_t0]
set_option maxHeartbeats 4000000 in
set_option maxRecDepth 100000 in
theorem k_Facts_add {d : Nat} {h : zm_M} {R : zm_R} {n : Nat} {t m : Int32} (hp : zp_ok h.2) (hn : h.1 30 2 = nI n) (hn2 : n < 240) (hR : R none (zm_si (zm_si (zm_si h 31 n t) 32 n m) 30 2 (nI (n + 1)))) : zm_C (d + 1) TT m_Facts_add [.inr (some 30), .inl t, .inl m] h R := by
  obtain ⟨p0, p1, -⟩ := zp_30 hp
  have v1 : vp_in (nI n) 240 := vp_in_nI hn2 (by decide)
  have c1 := nI_clamp (show n < 2 ^ 31 by omega)
  refine st_Facts_add [] 30 ?_
  simp only [↓zq, ↓reduceIte, zr_si2, zr_sr1, zr_cp2, zr_tl, zr_tn, shq, List.contains_nil, List.contains_cons, Nat.reduceBEq, Bool.false_or, Bool.or_false, Bool.true_or, Bool.false_eq_true, if_false, if_true, true_and, and_true, List.set_cons_zero, List.set_cons_succ, List.length_cons, List.length_nil, Nat.reduceAdd, Nat.reduceLeDiff, Nat.le_refl, Nat.zero_le, true_or, or_true, zn_cl, ↓jj_Facts_add, p0, p1, hn, v1, c1, nI_1, zr_si1]
  simp only [show ¬ (30 : Nat) = 31 by decide, show ¬ (30 : Nat) = 32 by decide, false_and, if_false, hn, v1, c1, true_and, nI_1]
  exact ⟨fun z => absurd z (nI_ge (b := 240) hn2 (by decide)), fun _ => hR⟩
set_option maxHeartbeats 4000000 in
set_option maxRecDepth 100000 in
theorem k_Shape_copyFrom {d : Nat} {h : zm_M} {R : zm_R} {a b : Nat} (hk : zk_shp h.2 a) (hb : zk_shp h.2 b) (hR : R none (zm_cp h (b + 1) 0 (a + 1) 0 24)) : zm_C (d + 1) TT m_Shape_copyFrom [.inr (some a), .inr (some b)] h R := by
  obtain ⟨k1, k2, k3⟩ := hk
  obtain ⟨b1, b2, b3⟩ := hb
  refine st_Shape_copyFrom [] 30 ?_
  simp only [↓zq, ↓reduceIte, zr_si2, zr_sr1, zr_cp2, zr_tl, zr_tn, shq, List.contains_nil, List.contains_cons, Nat.reduceBEq, Bool.false_or, Bool.or_false, Bool.true_or, Bool.false_eq_true, if_false, if_true, true_and, and_true, List.set_cons_zero, List.set_cons_succ, List.length_cons, List.length_nil, Nat.reduceAdd, Nat.reduceLeDiff, Nat.le_refl, Nat.zero_le, true_or, or_true, zn_cl, ↓jj_Shape_copyFrom, k1, k2, k3, b1, b2, b3]
  simp only [show ¬ (0 : Int32) < 0 by decide, show ¬ (24 : Int32) < 0 by decide, not_false_eq_true, true_and, Nat.reduceAdd, Nat.le_refl, zn_cl, Nat.zero_add]
  exact hR
set_option maxHeartbeats 4000000 in
set_option maxRecDepth 100000 in
theorem k_Shape_tell {d : Nat} {h : zm_M} {R : zm_R} {a s v c : Nat} (hk : zk_shp h.2 a) (hs : s < 3) (hv : v < 8) (hc : c < 4) (hR : R none (zm_si h (a + 1) (8 * s + v) (nI c))) : zm_C (d + 2) TT m_Shape_tell [.inr (some a), .inl (nI s), .inl (nI v), .inl (nI c)] h R := by
  obtain ⟨k1, k2, k3⟩ := hk
  refine st_Shape_tell [] 30 ?_
  simp only [↓zq, ↓reduceIte, zr_si2, zr_sr1, zr_cp2, zr_tl, zr_tn, shq, List.contains_nil, List.contains_cons, Nat.reduceBEq, Bool.false_or, Bool.or_false, Bool.true_or, Bool.false_eq_true, if_false, if_true, true_and, and_true, List.set_cons_zero, List.set_cons_succ, List.length_cons, List.length_nil, Nat.reduceAdd, Nat.reduceLeDiff, Nat.le_refl, Nat.zero_le, true_or, or_true, zn_cl, ↓jj_Shape_tell, k1, k2, k3]
  refine k_KS_isSide (fun j hj e => ?_) (fun e => ?_)
  · simp only [↓zq, ↓reduceIte, zr_si2, zr_sr1, zr_cp2, zr_tl, zr_tn, shq, List.contains_nil, List.contains_cons, Nat.reduceBEq, Bool.false_or, Bool.or_false, Bool.true_or, Bool.false_eq_true, if_false, if_true, true_and, and_true, List.set_cons_zero, List.set_cons_succ, List.length_cons, List.length_nil, Nat.reduceAdd, Nat.reduceLeDiff, Nat.le_refl, Nat.zero_le, true_or, or_true, zn_cl, ↓jj_Shape_tell, k1, k2, k3]
    refine ⟨fun z => absurd z (by decide), fun _ => ?_⟩
    refine k_KS_isValue (fun j hj e => ?_) (fun e => ?_)
    · simp only [↓zq, ↓reduceIte, zr_si2, zr_sr1, zr_cp2, zr_tl, zr_tn, shq, List.contains_nil, List.contains_cons, Nat.reduceBEq, Bool.false_or, Bool.or_false, Bool.true_or, Bool.false_eq_true, if_false, if_true, true_and, and_true, List.set_cons_zero, List.set_cons_succ, List.length_cons, List.length_nil, Nat.reduceAdd, Nat.reduceLeDiff, Nat.le_refl, Nat.zero_le, true_or, or_true, zn_cl, ↓jj_Shape_tell, k1, k2, k3]
      rw [zn_ix hs hv]
      refine ⟨fun z => absurd z (by decide), fun _ => ⟨vp_in_nI (by omega) (by decide), ?_⟩⟩
      rw [nI_clamp (by omega)]
      have e : ∀ c, c < 4 → nI c &&& 3 = nI c := by decide
      rw [e c hc]
      exact hR
    · rcases e with e | e
      · exact absurd e (nI_pos (by omega))
      · exact absurd e (nI_ge (b := 8) hv (by decide))
  · rcases e with e | e
    · exact absurd e (nI_pos (by omega))
    · exact absurd e (nI_ge (b := 3) hs (by decide))
set_option maxHeartbeats 4000000 in
set_option maxRecDepth 100000 in
theorem k_Cut_tellLevel {d : Nat} {h : zm_M} {R : zm_R} {a s : Nat} {x : Int32} (hk : zk_cut h.2 a) (hs : s < 3) (hR : R none (zm_si h (a + 1) s x)) : zm_C (d + 2) TT m_Cut_tellLevel [.inr (some a), .inl (nI s), .inl x] h R := by
  obtain ⟨k1, k2, k3, k4, k5⟩ := hk
  refine st_Cut_tellLevel [] 30 ?_
  simp only [↓zq, ↓reduceIte, zr_si2, zr_sr1, zr_cp2, zr_tl, zr_tn, shq, List.contains_nil, List.contains_cons, Nat.reduceBEq, Bool.false_or, Bool.or_false, Bool.true_or, Bool.false_eq_true, if_false, if_true, true_and, and_true, List.set_cons_zero, List.set_cons_succ, List.length_cons, List.length_nil, Nat.reduceAdd, Nat.reduceLeDiff, Nat.le_refl, Nat.zero_le, true_or, or_true, zn_cl, ↓jj_Cut_tellLevel, k1, k2, k4]
  refine k_KS_isSide (fun j hj e => ?_) (fun e => ?_)
  · simp only [↓zq, ↓reduceIte, zr_si2, zr_sr1, zr_cp2, zr_tl, zr_tn, shq, List.contains_nil, List.contains_cons, Nat.reduceBEq, Bool.false_or, Bool.or_false, Bool.true_or, Bool.false_eq_true, if_false, if_true, true_and, and_true, List.set_cons_zero, List.set_cons_succ, List.length_cons, List.length_nil, Nat.reduceAdd, Nat.reduceLeDiff, Nat.le_refl, Nat.zero_le, true_or, or_true, zn_cl, ↓jj_Cut_tellLevel, k1, k2, k4]
    refine ⟨fun z => absurd z (by decide), fun _ => ⟨vp_in_nI hs (by decide), ?_⟩⟩
    rw [nI_clamp (by omega)]
    exact hR
  · rcases e with e | e
    · exact absurd e (nI_pos (by omega))
    · exact absurd e (nI_ge (b := 3) hs (by decide))
set_option maxHeartbeats 4000000 in
set_option maxRecDepth 100000 in
theorem k_Cut_tellLets {d : Nat} {h : zm_M} {R : zm_R} {a s : Nat} {x : Int32} (hk : zk_cut h.2 a) (hs : s < 3) (hR : R none (zm_si h (a + 2) s x)) : zm_C (d + 2) TT m_Cut_tellLets [.inr (some a), .inl (nI s), .inl x] h R := by
  obtain ⟨k1, k2, k3, k4, k5⟩ := hk
  refine st_Cut_tellLets [] 30 ?_
  simp only [↓zq, ↓reduceIte, zr_si2, zr_sr1, zr_cp2, zr_tl, zr_tn, shq, List.contains_nil, List.contains_cons, Nat.reduceBEq, Bool.false_or, Bool.or_false, Bool.true_or, Bool.false_eq_true, if_false, if_true, true_and, and_true, List.set_cons_zero, List.set_cons_succ, List.length_cons, List.length_nil, Nat.reduceAdd, Nat.reduceLeDiff, Nat.le_refl, Nat.zero_le, true_or, or_true, zn_cl, ↓jj_Cut_tellLets, k1, k3, k5]
  refine k_KS_isSide (fun j hj e => ?_) (fun e => ?_)
  · simp only [↓zq, ↓reduceIte, zr_si2, zr_sr1, zr_cp2, zr_tl, zr_tn, shq, List.contains_nil, List.contains_cons, Nat.reduceBEq, Bool.false_or, Bool.or_false, Bool.true_or, Bool.false_eq_true, if_false, if_true, true_and, and_true, List.set_cons_zero, List.set_cons_succ, List.length_cons, List.length_nil, Nat.reduceAdd, Nat.reduceLeDiff, Nat.le_refl, Nat.zero_le, true_or, or_true, zn_cl, ↓jj_Cut_tellLets, k1, k3, k5]
    refine ⟨fun z => absurd z (by decide), fun _ => ⟨vp_in_nI hs (by decide), ?_⟩⟩
    rw [nI_clamp (by omega)]
    exact hR
  · rcases e with e | e
    · exact absurd e (nI_pos (by omega))
    · exact absurd e (nI_ge (b := 3) hs (by decide))
