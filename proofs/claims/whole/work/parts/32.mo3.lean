/-! covering, by the reference -/
set_option maxHeartbeats 4000000 in
set_option maxRecDepth 100000 in
theorem k_Mo_isSummary {d : Nat} {h : zm_M} {R : zm_R} {F : zs_F} {sp : Nat → Nat} {U : zs_U} {Q : zs_Q} {i : Int32} (hO : zO h F sp U Q) (h1 : ∀ s : Nat, s < U.1 → i = nI s → R (some (.inl 1)) h) (h0 : (∀ s : Nat, s < U.1 → ¬ i = nI s) → R (some (.inl 0)) h) : zm_C (d + 2) TT m_Mo_isSummary [.inr (some 133), .inl i] h R := by
  obtain ⟨o1, o2, o3, ⟨o4, o4w⟩, o5, o6⟩ := hO
  have u1 := o4.1
  have u8 := o4w.1
  refine st_Mo_isSummary [] 9 ?_
  simp only [↓zq, ↓reduceIte, zr_si2, zr_sr1, zr_cp2, zr_tl, zr_tn, shq, List.contains_nil, List.contains_cons, Nat.reduceBEq, Bool.false_or, Bool.or_false, Bool.true_or, Bool.false_eq_true, if_false, if_true, true_and, and_true, List.set_cons_zero, List.set_cons_succ, List.length_cons, List.length_nil, Nat.reduceAdd, Nat.reduceLeDiff, Nat.le_refl, Nat.zero_le, true_or, or_true, zn_cl, ↓jj_Mo_isSummary, u1]
  have key : ∀ n, n ≤ 8 → ∀ j, j < 2 ^ 31 → (nI n - 1 < nI j) = (n ≤ j) := by
    intro n hn j hj
    cases n with
    | zero =>
      have : (nI 0 - 1 < nI j) := by
        have h1 := nI_pos' hj
        have e : nI 0 - 1 = -1 := rfl
        rw [e]
        grind
      simp [this]
    | succ n =>
      rw [nI_pred, zn_lt (by omega) hj]
      exact propext (by omega)
  refine k_Mo_in (fun a b => ?_) (fun a => ?_)
  · simp only [↓zq, ↓reduceIte, zr_si2, zr_sr1, zr_cp2, zr_tl, zr_tn, shq, List.contains_nil, List.contains_cons, Nat.reduceBEq, Bool.false_or, Bool.or_false, Bool.true_or, Bool.false_eq_true, if_false, if_true, true_and, and_true, List.set_cons_zero, List.set_cons_succ, List.length_cons, List.length_nil, Nat.reduceAdd, Nat.reduceLeDiff, Nat.le_refl, Nat.zero_le, true_or, or_true, zn_cl, ↓jj_Mo_isSummary, u1]
    obtain ⟨j, hj, rfl⟩ := nI_of a
    rw [key U.1 u8 j hj] at b
    exact h1 j (by omega) rfl
  · simp only [↓zq, ↓reduceIte, zr_si2, zr_sr1, zr_cp2, zr_tl, zr_tn, shq, List.contains_nil, List.contains_cons, Nat.reduceBEq, Bool.false_or, Bool.or_false, Bool.true_or, Bool.false_eq_true, if_false, if_true, true_and, and_true, List.set_cons_zero, List.set_cons_succ, List.length_cons, List.length_nil, Nat.reduceAdd, Nat.reduceLeDiff, Nat.le_refl, Nat.zero_le, true_or, or_true, zn_cl, ↓jj_Mo_isSummary, u1]
    refine h0 (fun s hs e => ?_)
    subst e
    rcases a with a | a
    · exact absurd a (nI_pos (by omega))
    · rw [key U.1 u8 s (by omega)] at a
      omega
set_option maxHeartbeats 4000000 in
set_option maxRecDepth 100000 in
theorem k_Mo_valuesOf {d : Nat} {h : zm_M} {R : zm_R} {side lev num lets : Nat} {sp : Nat → Nat} (hp : h.2 133 6 = some 136) (hsp : zo_S h.1 sp) (hs : zw_S sp) (h1 : side < 3) (h2 : lev ≤ 2) (h3 : num < 8) (h4 : lets < 256) (hR : R (some (.inl (nI (zs_own sp side lev lets num)))) h) : zm_C (d + 2) TT m_Mo_valuesOf [.inr (some 133), .inl (nI side), .inl (nI lev), .inl (nI num), .inl (nI lets)] h R := by
  have loop : ∀ (n i : Nat), i + n = 8 → zm_W (zm_md m_Mo_valuesOf) (d + 2) TT R 6 [some (.inr (some 133)), some (.inl (nI side)), some (.inl (nI lev)), some (.inl (nI num)), some (.inl (nI lets)), some (.inl (nI (zs_bits (fun v => lets.testBit v && decide (zs_num sp side lev v = num)) i))), some (.inl (nI i))] [] h := by
    intro n
    induction n with
    | zero =>
      intro i hi
      have : i = 8 := by omega
      subst this
      refine zm_go g_Mo_valuesOf [6] 30 (by decide +kernel) ok_Mo_valuesOf _ rfl ?_
      simp only [↓zq, ↓reduceIte, zr_si2, zr_sr1, zr_cp2, zr_tl, zr_tn, shq, List.contains_nil, List.contains_cons, Nat.reduceBEq, Bool.false_or, Bool.or_false, Bool.true_or, Bool.false_eq_true, if_false, if_true, true_and, and_true, List.set_cons_zero, List.set_cons_succ, List.length_cons, List.length_nil, Nat.reduceAdd, Nat.reduceLeDiff, Nat.le_refl, Nat.zero_le, true_or, or_true, zn_cl, ↓jj_Mo_valuesOf]
      exact ⟨fun _ => hR, fun z => absurd (Int32.le_refl _) z⟩
    | succ n ih =>
      intro i hi
      have ih := ih (i + 1) (by omega)
      rw [zs_bits] at ih
      have hb := zs_bits_lt (fun v => lets.testBit v && decide (zs_num sp side lev v = num)) i
      have hn := zs_num_lt (lev := lev) hs h1 (show i < 8 by omega)
      refine zm_go g_Mo_valuesOf [6] 30 (by decide +kernel) ok_Mo_valuesOf _ rfl ?_
      simp only [↓zq, ↓reduceIte, zr_si2, zr_sr1, zr_cp2, zr_tl, zr_tn, shq, List.contains_nil, List.contains_cons, Nat.reduceBEq, Bool.false_or, Bool.or_false, Bool.true_or, Bool.false_eq_true, if_false, if_true, true_and, and_true, List.set_cons_zero, List.set_cons_succ, List.length_cons, List.length_nil, Nat.reduceAdd, Nat.reduceLeDiff, Nat.le_refl, Nat.zero_le, true_or, or_true, zn_cl, ↓jj_Mo_valuesOf, nI_1]
      refine ⟨fun z => absurd z (nI_ge (b := 8) (by omega) (by decide)), fun _ => ?_⟩
      refine k_Mo_has h4 (by omega) ?_
      cases e : lets.testBit i
      · simp only [↓zq, ↓reduceIte, zr_si2, zr_sr1, zr_cp2, zr_tl, zr_tn, shq, List.contains_nil, List.contains_cons, Nat.reduceBEq, Bool.false_or, Bool.or_false, Bool.true_or, Bool.false_eq_true, if_false, if_true, true_and, and_true, List.set_cons_zero, List.set_cons_succ, List.length_cons, List.length_nil, Nat.reduceAdd, Nat.reduceLeDiff, Nat.le_refl, Nat.zero_le, true_or, or_true, zn_cl, ↓jj_Mo_valuesOf, nI_1]
        rw [if_neg (by simp [e]), Nat.add_zero] at ih
        exact ⟨fun _ => ih, fun z => absurd trivial z⟩
      · simp only [↓zq, ↓reduceIte, zr_si2, zr_sr1, zr_cp2, zr_tl, zr_tn, shq, List.contains_nil, List.contains_cons, Nat.reduceBEq, Bool.false_or, Bool.or_false, Bool.true_or, Bool.false_eq_true, if_false, if_true, true_and, and_true, List.set_cons_zero, List.set_cons_succ, List.length_cons, List.length_nil, Nat.reduceAdd, Nat.reduceLeDiff, Nat.le_refl, Nat.zero_le, true_or, or_true, zn_cl, ↓jj_Mo_valuesOf, nI_1]
        refine ⟨fun z => absurd z (by decide), fun _ => ?_⟩
        refine k_Mo_numberAt hp hsp h1 h2 (by omega) ?_
        simp only [↓zq, ↓reduceIte, zr_si2, zr_sr1, zr_cp2, zr_tl, zr_tn, shq, List.contains_nil, List.contains_cons, Nat.reduceBEq, Bool.false_or, Bool.or_false, Bool.true_or, Bool.false_eq_true, if_false, if_true, true_and, and_true, List.set_cons_zero, List.set_cons_succ, List.length_cons, List.length_nil, Nat.reduceAdd, Nat.reduceLeDiff, Nat.le_refl, Nat.zero_le, true_or, or_true, zn_cl, ↓jj_Mo_valuesOf, nI_1]
        rw [zn_eq (by omega) (by omega), zn_or8 i (by omega) _ hb]
        refine ⟨fun z => ?_, fun z => ?_⟩
        · rw [if_neg (by simp [z]), Nat.add_zero] at ih
          exact ih
        · rw [if_pos (by simp [e, z])] at ih
          exact ih
  refine st_Mo_valuesOf [6] 9 ?_
  simp only [↓zq, ↓reduceIte, zr_si2, zr_sr1, zr_cp2, zr_tl, zr_tn, shq, List.contains_nil, List.contains_cons, Nat.reduceBEq, Bool.false_or, Bool.or_false, Bool.true_or, Bool.false_eq_true, if_false, if_true, true_and, and_true, List.set_cons_zero, List.set_cons_succ, List.length_cons, List.length_nil, Nat.reduceAdd, Nat.reduceLeDiff, Nat.le_refl, Nat.zero_le, true_or, or_true, zn_cl, ↓jj_Mo_valuesOf]
  exact loop 8 0 rfl
set_option maxHeartbeats 4000000 in
set_option maxRecDepth 100000 in
theorem k_Mo_coversSide {d : Nat} {h : zm_M} {R : zm_R} {s ra fr : Nat} {sp row q : Nat → Nat} (hs : s < 3) (hwa : zw_R row) (hr : zo_Row h.1 ra fr q) (hwb : zw_R q) (hp : h.2 133 6 = some 136) (hsp : zo_S h.1 sp) (hw : zw_S sp) (hR : R (some (.inl (if zs_cov1 sp row q s = true then 1 else 0))) h) : zm_C (d + 3) TT m_Mo_coversSide [.inr (some 133), .inl (nI s), .inl (nI (row s)), .inl (nI (row (3 + s))), .inr (some ra), .inl (nI fr)] h R := by
  obtain ⟨len, sh, hl1, hl2, hrow⟩ := hr
  obtain ⟨wa1, wa2⟩ := zw_R_at hwa hs
  obtain ⟨wb1, wb2⟩ := zw_R_at hwb hs
  have no : ¬ (row s ≤ q s ∧ q (3 + s) &&& row (3 + s) = q (3 + s)) → R (some (.inl 0)) h := fun z => by
    rw [if_neg] at hR
    · exact hR
    · intro zz
      unfold zs_cov1 at zz
      simp only [Bool.and_eq_true, decide_eq_true_eq] at zz
      exact z zz.1
  have loop : ∀ (n i : Nat), i + n = 8 → (∀ k, k < i → zs_whl sp s (row s) (row (3 + s)) (q (3 + s)) k = true) → row s ≤ q s → q (3 + s) &&& row (3 + s) = q (3 + s) → ∀ o, zm_W (zm_md m_Mo_coversSide) (d + 3) TT R 36 [some (.inr (some 133)), some (.inl (nI s)), some (.inl (nI (row s))), some (.inl (nI (row (3 + s)))), some (.inr (some ra)), some (.inl (nI fr)), some (.inl (nI (q (3 + s)))), some (.inl (nI i)), o] [] h := by
    intro n
    induction n with
    | zero =>
      intro i hi hall h1 h2 o
      have : i = 8 := by omega
      subst this
      refine zm_go g_Mo_coversSide [36] 30 (by decide +kernel) ok_Mo_coversSide _ rfl ?_
      simp only [↓zq, ↓reduceIte, zr_si2, zr_sr1, zr_cp2, zr_tl, zr_tn, shq, List.contains_nil, List.contains_cons, Nat.reduceBEq, Bool.false_or, Bool.or_false, Bool.true_or, Bool.false_eq_true, if_false, if_true, true_and, and_true, List.set_cons_zero, List.set_cons_succ, List.length_cons, List.length_nil, Nat.reduceAdd, Nat.reduceLeDiff, Nat.le_refl, Nat.zero_le, true_or, or_true, zn_cl, ↓jj_Mo_coversSide]
      refine ⟨fun _ => ?_, fun z => absurd (Int32.le_refl _) z⟩
      rw [if_pos] at hR
      · exact hR
      · unfold zs_cov1
        simp only [Bool.and_eq_true, decide_eq_true_eq, List.all_eq_true, List.mem_range]
        exact ⟨⟨h1, h2⟩, hall⟩
    | succ n ih =>
      intro i hi hall h1 h2 o
      refine zm_go g_Mo_coversSide [36] 30 (by decide +kernel) ok_Mo_coversSide _ rfl ?_
      simp only [↓zq, ↓reduceIte, zr_si2, zr_sr1, zr_cp2, zr_tl, zr_tn, shq, List.contains_nil, List.contains_cons, Nat.reduceBEq, Bool.false_or, Bool.or_false, Bool.true_or, Bool.false_eq_true, if_false, if_true, true_and, and_true, List.set_cons_zero, List.set_cons_succ, List.length_cons, List.length_nil, Nat.reduceAdd, Nat.reduceLeDiff, Nat.le_refl, Nat.zero_le, true_or, or_true, zn_cl, ↓jj_Mo_coversSide, nI_1]
      refine ⟨fun z => absurd z (nI_ge (b := 8) (by omega) (by decide)), fun _ => ?_⟩
      refine k_Mo_valuesOf hp hsp hw hs wa1 (by omega) wa2 ?_
      simp only [↓zq, ↓reduceIte, zr_si2, zr_sr1, zr_cp2, zr_tl, zr_tn, shq, List.contains_nil, List.contains_cons, Nat.reduceBEq, Bool.false_or, Bool.or_false, Bool.true_or, Bool.false_eq_true, if_false, if_true, true_and, and_true, List.set_cons_zero, List.set_cons_succ, List.length_cons, List.length_nil, Nat.reduceAdd, Nat.reduceLeDiff, Nat.le_refl, Nat.zero_le, true_or, or_true, zn_cl, ↓jj_Mo_coversSide, nI_1, zn_and, zn_andn]
      have lo := zs_own_lt sp s (row s) (row (3 + s)) i
      have lo2 := zn_andlt (q (3 + s)) lo
      have lo3 := zn_xlt lo2 lo
      rw [zn_z (by omega), zn_z (by omega), zn_xz]
      have ih := fun hh => ih (i + 1) (by omega) hh h1 h2
      have ext : zs_whl sp s (row s) (row (3 + s)) (q (3 + s)) i = true → ∀ k, k < i + 1 → zs_whl sp s (row s) (row (3 + s)) (q (3 + s)) k = true := fun z k hk => by
        rcases (show k < i ∨ k = i by omega) with e | e
        · exact hall k e
        · rw [e]; exact z
      refine ⟨fun z => ih (ext (by simp [zs_whl, z])) _, fun z => ⟨fun z2 => ih (ext (by simp [zs_whl, z2])) _, fun z2 => ?_⟩⟩
      rw [if_neg] at hR
      · exact hR
      · intro zz
        unfold zs_cov1 at zz
        simp only [Bool.and_eq_true, decide_eq_true_eq, List.all_eq_true, List.mem_range] at zz
        have := zz.2 i (by omega)
        simp only [zs_whl, Bool.or_eq_true, decide_eq_true_eq] at this
        exact this.elim z z2
  refine st_Mo_coversSide [36] 30 ?_
  have e3 : (nI fr : Int32) + 3 + nI s = nI (fr + (3 + s)) := by
    rw [show (3 : Int32) = nI 3 from rfl, nI_add, nI_add, Nat.add_assoc]
  have hv1 : vp_in (nI (fr + (3 + s))) len := vp_in_nI (by omega) (by omega)
  have hv2 : vp_in (nI (fr + s)) len := vp_in_nI (by omega) (by omega)
  have hc1 := nI_clamp (show fr + (3 + s) < 2 ^ 31 by omega)
  have hc2 := nI_clamp (show fr + s < 2 ^ 31 by omega)
  have hr1 := hrow (3 + s) (by omega)
  have hr2 := hrow s (by omega)
  simp only [↓zq, ↓reduceIte, zr_si2, zr_sr1, zr_cp2, zr_tl, zr_tn, shq, List.contains_nil, List.contains_cons, Nat.reduceBEq, Bool.false_or, Bool.or_false, Bool.true_or, Bool.false_eq_true, if_false, if_true, true_and, and_true, List.set_cons_zero, List.set_cons_succ, List.length_cons, List.length_nil, Nat.reduceAdd, Nat.reduceLeDiff, Nat.le_refl, Nat.zero_le, true_or, or_true, zn_cl, ↓jj_Mo_coversSide, sh, e3, nI_add, hv1, hv2, hc1, hc2, hr1, hr2, zn_andn]
  rw [zn_lt (by omega) (by omega)]
  have l1 := zn_andlt (row (3 + s)) wb2
  have l2 := zn_xlt l1 wb2
  rw [zn_z (by omega), zn_xz]
  refine ⟨fun z => no (by omega), fun z => ⟨fun z2 => loop 8 0 rfl (fun k hk => absurd hk (Nat.not_lt_zero k)) (by omega) z2 none, fun z2 => no (fun zz => z2 zz.2)⟩⟩
set_option maxHeartbeats 4000000 in
set_option maxRecDepth 100000 in
theorem k_Mo_coversAll {d : Nat} {h : zm_M} {R : zm_R} {F : zs_F} {sp : Nat → Nat} {U : zs_U} {Q : zs_Q} {s ra fr : Nat} {q : Nat → Nat} (hO : zO h F sp U Q) (hs : s < U.1) (hr : zo_Row h.1 ra fr q) (hwb : zw_R q) (hR : R (some (.inl (if zs_covS sp (U.2 s) q = true then 1 else 0))) h) : zm_C (d + 4) TT m_Mo_coversAll [.inr (some 133), .inl (nI s), .inr (some ra), .inl (nI fr)] h R := by
  obtain ⟨o1, ⟨o2, o2w⟩, ⟨o3, o3w⟩, ⟨o4, o4w⟩, o5, o6⟩ := id hO
  obtain ⟨wr, w1, w2, wu⟩ := o4w.2 s hs
  obtain ⟨p4, p5, p6, p7, p35, p37, p38, p39, p40⟩ := zp_m o1
  have u8 := o4w.1
  have step : ∀ (i : Nat), i < 3 → (zs_cov1 sp (U.2 s) q i = false → R (some (.inl 0)) h) → (zs_cov1 sp (U.2 s) q i = true → zm_W (zm_md m_Mo_coversAll) (d + 4) TT R 3 [some (.inr (some 133)), some (.inl (nI s)), some (.inr (some ra)), some (.inl (nI fr)), some (.inl (nI (i + 1)))] [] h) → zm_W (zm_md m_Mo_coversAll) (d + 4) TT R 3 [some (.inr (some 133)), some (.inl (nI s)), some (.inr (some ra)), some (.inl (nI fr)), some (.inl (nI i))] [] h := by
    intro i hi h0 h1
    have e3 : (nI (8 * s) : Int32) + 3 + nI i = nI (8 * s + (3 + i)) := by
      rw [show (3 : Int32) = nI 3 from rfl, nI_add, nI_add, Nat.add_assoc]
    have hv1 : vp_in (nI (8 * s + (3 + i))) 64 := vp_in_nI (by omega) (by omega)
    have hv2 : vp_in (nI (8 * s + i)) 64 := vp_in_nI (by omega) (by omega)
    have hc1 := nI_clamp (show 8 * s + (3 + i) < 2 ^ 31 by omega)
    have hc2 := nI_clamp (show 8 * s + i < 2 ^ 31 by omega)
    have hr1 := o4.2 s hs (3 + i) (by omega)
    have hr2 := o4.2 s hs i (by omega)
    refine zm_go g_Mo_coversAll [3] 30 (by decide +kernel) ok_Mo_coversAll _ rfl ?_
    simp only [↓zq, ↓reduceIte, zr_si2, zr_sr1, zr_cp2, zr_tl, zr_tn, shq, List.contains_nil, List.contains_cons, Nat.reduceBEq, Bool.false_or, Bool.or_false, Bool.true_or, Bool.false_eq_true, if_false, if_true, true_and, and_true, List.set_cons_zero, List.set_cons_succ, List.length_cons, List.length_nil, Nat.reduceAdd, Nat.reduceLeDiff, Nat.le_refl, Nat.zero_le, true_or, or_true, zn_cl, ↓jj_Mo_coversAll, p5, zn_8, e3, nI_add, hv1, hv2, hc1, hc2, hr1, hr2, nI_1]
    refine ⟨fun z => absurd z (nI_ge (b := 3) hi (by decide)), fun _ => ?_⟩
    refine k_Mo_coversSide hi wr hr hwb p6 o3 o3w ?_
    cases e : zs_cov1 sp (U.2 s) q i
    · simp only [↓zq, ↓reduceIte, zr_si2, zr_sr1, zr_cp2, zr_tl, zr_tn, shq, List.contains_nil, List.contains_cons, Nat.reduceBEq, Bool.false_or, Bool.or_false, Bool.true_or, Bool.false_eq_true, if_false, if_true, true_and, and_true, List.set_cons_zero, List.set_cons_succ, List.length_cons, List.length_nil, Nat.reduceAdd, Nat.reduceLeDiff, Nat.le_refl, Nat.zero_le, true_or, or_true, zn_cl, ↓jj_Mo_coversAll, nI_1]
      exact ⟨fun z => absurd trivial z, fun _ => h0 e⟩
    · simp only [↓zq, ↓reduceIte, zr_si2, zr_sr1, zr_cp2, zr_tl, zr_tn, shq, List.contains_nil, List.contains_cons, Nat.reduceBEq, Bool.false_or, Bool.or_false, Bool.true_or, Bool.false_eq_true, if_false, if_true, true_and, and_true, List.set_cons_zero, List.set_cons_succ, List.length_cons, List.length_nil, Nat.reduceAdd, Nat.reduceLeDiff, Nat.le_refl, Nat.zero_le, true_or, or_true, zn_cl, ↓jj_Mo_coversAll, nI_1]
      exact ⟨fun _ => h1 e, fun z => absurd z (by decide)⟩
  refine st_Mo_coversAll [3] 30 ?_
  simp only [↓zq, ↓reduceIte, zr_si2, zr_sr1, zr_cp2, zr_tl, zr_tn, shq, List.contains_nil, List.contains_cons, Nat.reduceBEq, Bool.false_or, Bool.or_false, Bool.true_or, Bool.false_eq_true, if_false, if_true, true_and, and_true, List.set_cons_zero, List.set_cons_succ, List.length_cons, List.length_nil, Nat.reduceAdd, Nat.reduceLeDiff, Nat.le_refl, Nat.zero_le, true_or, or_true, zn_cl, ↓jj_Mo_coversAll]
  unfold zs_covS at hR
  refine step 0 (by decide) (fun e => ?_) (fun e => ?_)
  · rw [e] at hR; simpa using hR
  · rw [e] at hR
    refine step 1 (by decide) (fun e => ?_) (fun e => ?_)
    · rw [e] at hR; simpa using hR
    · rw [e] at hR
      refine step 2 (by decide) (fun e => ?_) (fun e => ?_)
      · rw [e] at hR; simpa using hR
      · rw [e] at hR
        refine zm_go g_Mo_coversAll [3] 30 (by decide +kernel) ok_Mo_coversAll _ rfl ?_
        simp only [↓zq, ↓reduceIte, zr_si2, zr_sr1, zr_cp2, zr_tl, zr_tn, shq, List.contains_nil, List.contains_cons, Nat.reduceBEq, Bool.false_or, Bool.or_false, Bool.true_or, Bool.false_eq_true, if_false, if_true, true_and, and_true, List.set_cons_zero, List.set_cons_succ, List.length_cons, List.length_nil, Nat.reduceAdd, Nat.reduceLeDiff, Nat.le_refl, Nat.zero_le, true_or, or_true, zn_cl, ↓jj_Mo_coversAll]
        exact ⟨fun _ => hR, fun z => absurd (by decide) z⟩
theorem zs_pf_has : ∀ w, w ≤ 6 → ∀ p, p < 16 → (p &&& zs_pf w = zs_pf w ↔ if w ≤ 3 then p.testBit w = true else w = 4 ∧ p.testBit 0 = true ∧ p.testBit 1 = true) := by decide +kernel
set_option maxHeartbeats 4000000 in
set_option maxRecDepth 100000 in
theorem k_Mo_hasPart {d : Nat} {T : zm_T} {h : zm_M} {R : zm_R} {p w : Nat} (hp : p < 16) (hw : w ≤ 6) (hR : R (some (.inl (if p &&& zs_pf w = zs_pf w then 1 else 0))) h) : zm_C (d + 2) T m_Mo_hasPart [.inl (nI p), .inl (nI w)] h R := by
  have key := zs_pf_has w hw p hp
  refine st_Mo_hasPart [] 9 ?_
  simp only [↓zq, ↓reduceIte, zr_si2, zr_sr1, zr_cp2, zr_tl, zr_tn, shq, List.contains_nil, List.contains_cons, Nat.reduceBEq, Bool.false_or, Bool.or_false, Bool.true_or, Bool.false_eq_true, if_false, if_true, true_and, and_true, List.set_cons_zero, List.set_cons_succ, List.length_cons, List.length_nil, Nat.reduceAdd, Nat.reduceLeDiff, Nat.le_refl, Nat.zero_le, true_or, or_true, zn_cl, ↓jj_Mo_hasPart]
  refine ⟨fun z => ⟨fun z2 => ?_, fun z2 => ?_⟩, fun z => ?_⟩
  · have h4 : ¬ w = 4 := fun e => z2 (by rw [e]; rfl)
    have h3 : ¬ w ≤ 3 := fun e => absurd z (nI_nlt (a := 3) (b := w) (by omega) (by decide) |> fun e2 => by
      intro zz
      have := (nI_ltI (a := 3) (b := w) (by decide) (by omega)).mp zz
      omega)
    rw [if_neg h3] at key
    rw [if_neg (fun zz => h4 (key.mp zz).1)] at hR
    exact hR
  · have h4 : w = 4 := (nI_eq (b := 4) (by omega) (by decide)).mp z2
    subst h4
    refine k_Mo_has (v := 0) (by omega) (by decide) ?_
    rw [if_neg (by decide)] at key
    cases e0 : p.testBit 0
    · simp only [↓zq, ↓reduceIte, zr_si2, zr_sr1, zr_cp2, zr_tl, zr_tn, shq, List.contains_nil, List.contains_cons, Nat.reduceBEq, Bool.false_or, Bool.or_false, Bool.true_or, Bool.false_eq_true, if_false, if_true, true_and, and_true, List.set_cons_zero, List.set_cons_succ, List.length_cons, List.length_nil, Nat.reduceAdd, Nat.reduceLeDiff, Nat.le_refl, Nat.zero_le, true_or, or_true, zn_cl, ↓jj_Mo_hasPart]
      rw [if_neg (fun zz => by have := (key.mp zz).2.1; rw [e0] at this; cases this)] at hR
      exact ⟨fun _ => hR, fun zz => absurd trivial zz⟩
    · simp only [↓zq, ↓reduceIte, zr_si2, zr_sr1, zr_cp2, zr_tl, zr_tn, shq, List.contains_nil, List.contains_cons, Nat.reduceBEq, Bool.false_or, Bool.or_false, Bool.true_or, Bool.false_eq_true, if_false, if_true, true_and, and_true, List.set_cons_zero, List.set_cons_succ, List.length_cons, List.length_nil, Nat.reduceAdd, Nat.reduceLeDiff, Nat.le_refl, Nat.zero_le, true_or, or_true, zn_cl, ↓jj_Mo_hasPart]
      refine ⟨fun zz => absurd zz (by decide), fun _ => ?_⟩
      refine k_Mo_has (v := 1) (by omega) (by decide) ?_
      cases e1 : p.testBit 1
      · simp only [↓zq, ↓reduceIte, zr_si2, zr_sr1, zr_cp2, zr_tl, zr_tn, shq, List.contains_nil, List.contains_cons, Nat.reduceBEq, Bool.false_or, Bool.or_false, Bool.true_or, Bool.false_eq_true, if_false, if_true, true_and, and_true, List.set_cons_zero, List.set_cons_succ, List.length_cons, List.length_nil, Nat.reduceAdd, Nat.reduceLeDiff, Nat.le_refl, Nat.zero_le, true_or, or_true, zn_cl, ↓jj_Mo_hasPart]
        rw [if_neg (fun zz => by have := (key.mp zz).2.2; rw [e1] at this; cases this)] at hR
        exact ⟨fun _ => hR, fun zz => absurd trivial zz⟩
      · simp only [↓zq, ↓reduceIte, zr_si2, zr_sr1, zr_cp2, zr_tl, zr_tn, shq, List.contains_nil, List.contains_cons, Nat.reduceBEq, Bool.false_or, Bool.or_false, Bool.true_or, Bool.false_eq_true, if_false, if_true, true_and, and_true, List.set_cons_zero, List.set_cons_succ, List.length_cons, List.length_nil, Nat.reduceAdd, Nat.reduceLeDiff, Nat.le_refl, Nat.zero_le, true_or, or_true, zn_cl, ↓jj_Mo_hasPart]
        rw [if_pos (key.mpr ⟨rfl, e0, e1⟩)] at hR
        exact ⟨fun zz => absurd zz (by decide), fun _ => hR⟩
  · have h3 : w ≤ 3 := by
      rcases Nat.lt_or_ge 3 w with q | q
      · exact absurd (nI_lt (a := 3) q (by omega)) z
      · exact q
    rw [if_pos h3] at key
    refine k_Mo_has (by omega) (by omega) ?_
    cases e0 : p.testBit w
    · simp only [↓zq, ↓reduceIte, zr_si2, zr_sr1, zr_cp2, zr_tl, zr_tn, shq, List.contains_nil, List.contains_cons, Nat.reduceBEq, Bool.false_or, Bool.or_false, Bool.true_or, Bool.false_eq_true, if_false, if_true, true_and, and_true, List.set_cons_zero, List.set_cons_succ, List.length_cons, List.length_nil, Nat.reduceAdd, Nat.reduceLeDiff, Nat.le_refl, Nat.zero_le, true_or, or_true, zn_cl, ↓jj_Mo_hasPart]
      rw [if_neg (fun zz => by have := key.mp zz; rw [e0] at this; cases this)] at hR
      exact hR
    · simp only [↓zq, ↓reduceIte, zr_si2, zr_sr1, zr_cp2, zr_tl, zr_tn, shq, List.contains_nil, List.contains_cons, Nat.reduceBEq, Bool.false_or, Bool.or_false, Bool.true_or, Bool.false_eq_true, if_false, if_true, true_and, and_true, List.set_cons_zero, List.set_cons_succ, List.length_cons, List.length_nil, Nat.reduceAdd, Nat.reduceLeDiff, Nat.le_refl, Nat.zero_le, true_or, or_true, zn_cl, ↓jj_Mo_hasPart]
      rw [if_pos (key.mpr e0)] at hR
      exact hR
set_option maxHeartbeats 4000000 in
set_option maxRecDepth 100000 in
theorem k_Mo_coversNow {d : Nat} {h : zm_M} {R : zm_R} {F : zs_F} {sp : Nat → Nat} {U : zs_U} {Q : zs_Q} {s : Nat} (hO : zO h F sp U Q) (hq : Q.1 = true) (hs : s < U.1) (hR : R (some (.inl (if zs_cov sp (U.2 s) Q.2 = true then 1 else 0))) h) : zm_C (d + 5) TT m_Mo_coversNow [.inr (some 133), .inl (nI s)] h R := by
  obtain ⟨o1, ⟨o2, o2w⟩, ⟨o3, o3w⟩, ⟨o4, o4w⟩, o5, o6⟩ := id hO
  obtain ⟨wr, w1, w2, wu⟩ := o4w.2 s hs
  obtain ⟨wq, wq2⟩ := o6 hq
  obtain ⟨p4, p5, p6, p7, p35, p37, p38, p39, p40⟩ := zp_m o1
  have u8 := o4w.1
  have e6 : (nI (8 * s) : Int32) + 6 = nI (8 * s + 6) := nI_add _ 6
  have hv1 : vp_in (nI (8 * s + 6)) 64 := vp_in_nI (by omega) (by omega)
  have hv2 : vp_in (6 : Int32) 7 := zn_v
  have hc1 := nI_clamp (show 8 * s + 6 < 2 ^ 31 by omega)
  have hr1 := o4.2 s hs 6 (by omega)
  have hr2 := o5.2 hq 6 (by decide)
  refine st_Mo_coversNow [] 30 ?_
  simp only [↓zq, ↓reduceIte, zr_si2, zr_sr1, zr_cp2, zr_tl, zr_tn, shq, List.contains_nil, List.contains_cons, Nat.reduceBEq, Bool.false_or, Bool.or_false, Bool.true_or, Bool.false_eq_true, if_false, if_true, true_and, and_true, List.set_cons_zero, List.set_cons_succ, List.length_cons, List.length_nil, Nat.reduceAdd, Nat.reduceLeDiff, Nat.le_refl, Nat.zero_le, true_or, or_true, zn_cl, ↓jj_Mo_coversNow, p5, p35, zn_8, e6, hv1, hv2, hc1, hr1, hr2]
  refine k_Mo_hasPart w2 wq2 ?_
  unfold zs_cov at hR
  by_cases e : U.2 s 6 &&& zs_pf (Q.2 6) = zs_pf (Q.2 6)
  · rw [if_pos e]
    simp only [e, decide_true, Bool.true_and] at hR
    simp only [↓zq, ↓reduceIte, zr_si2, zr_sr1, zr_cp2, zr_tl, zr_tn, shq, List.contains_nil, List.contains_cons, Nat.reduceBEq, Bool.false_or, Bool.or_false, Bool.true_or, Bool.false_eq_true, if_false, if_true, true_and, and_true, List.set_cons_zero, List.set_cons_succ, List.length_cons, List.length_nil, Nat.reduceAdd, Nat.reduceLeDiff, Nat.le_refl, Nat.zero_le, true_or, or_true, zn_cl, ↓jj_Mo_coversNow, p5, p35]
    refine ⟨fun zz => absurd zz (by decide), fun _ => ?_⟩
    refine k_Mo_coversAll (fr := 0) hO hs (zO_rowQ hO hq) wq ?_
    cases e2 : zs_covS sp (U.2 s) Q.2
    · simp only [↓zq, ↓reduceIte, zr_si2, zr_sr1, zr_cp2, zr_tl, zr_tn, shq, List.contains_nil, List.contains_cons, Nat.reduceBEq, Bool.false_or, Bool.or_false, Bool.true_or, Bool.false_eq_true, if_false, if_true, true_and, and_true, List.set_cons_zero, List.set_cons_succ, List.length_cons, List.length_nil, Nat.reduceAdd, Nat.reduceLeDiff, Nat.le_refl, Nat.zero_le, true_or, or_true, zn_cl, ↓jj_Mo_coversNow]
      rw [e2] at hR
      exact ⟨fun _ => hR, fun zz => absurd trivial zz⟩
    · simp only [↓zq, ↓reduceIte, zr_si2, zr_sr1, zr_cp2, zr_tl, zr_tn, shq, List.contains_nil, List.contains_cons, Nat.reduceBEq, Bool.false_or, Bool.or_false, Bool.true_or, Bool.false_eq_true, if_false, if_true, true_and, and_true, List.set_cons_zero, List.set_cons_succ, List.length_cons, List.length_nil, Nat.reduceAdd, Nat.reduceLeDiff, Nat.le_refl, Nat.zero_le, true_or, or_true, zn_cl, ↓jj_Mo_coversNow]
      rw [e2] at hR
      exact ⟨fun zz => absurd zz (by decide), fun _ => hR⟩
  · rw [if_neg e]
    simp only [e, decide_false, Bool.false_and, Bool.false_eq_true, if_false] at hR
    simp only [↓zq, ↓reduceIte, zr_si2, zr_sr1, zr_cp2, zr_tl, zr_tn, shq, List.contains_nil, List.contains_cons, Nat.reduceBEq, Bool.false_or, Bool.or_false, Bool.true_or, Bool.false_eq_true, if_false, if_true, true_and, and_true, List.set_cons_zero, List.set_cons_succ, List.length_cons, List.length_nil, Nat.reduceAdd, Nat.reduceLeDiff, Nat.le_refl, Nat.zero_le, true_or, or_true, zn_cl, ↓jj_Mo_coversNow]
    exact ⟨fun _ => hR, fun zz => absurd trivial zz⟩
