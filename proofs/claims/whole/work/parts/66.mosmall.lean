/-! small public methods of the reference -/
set_option maxHeartbeats 4000000 in
set_option maxRecDepth 100000 in
theorem k_Mo_seed {d : Nat} {h : zm_M} {R : zm_R} {n0 : Nat} {F : zs_F} {sp : Nat → Nat} {U : zs_U} {Q : zs_Q} {B : zs_B} {L : zs_L} {x : Nat} {K : zs_K} {v : Int32} (hO : zOO h n0 F sp U Q B L x K) (hR : ∀ h' : zm_M, zo_own h h' → zOO h' n0 F sp U Q B L (D_seed x v).2 K → R (some (.inl (D_seed x v).1)) h') : zm_C (d + 2) TT m_Mo_seed [.inr (some 133), .inl v] h R := by
  refine st_Mo_seed [] 30 ?_
  simp only [↓zq, ↓reduceIte, zr_si2, zr_sr1, zr_cp2, zr_tl, zr_tn, shq, List.contains_nil, List.contains_cons, Nat.reduceBEq, Bool.false_or, Bool.or_false, Bool.true_or, Bool.false_eq_true, if_false, if_true, true_and, and_true, List.set_cons_zero, List.set_cons_succ, List.length_cons, List.length_nil, Nat.reduceAdd, Nat.reduceLeDiff, Nat.le_refl, Nat.zero_le, true_or, or_true, zn_cl, ↓jj_Mo_seed]
  refine k_Mo_in0 65535 (by decide) (fun j hj ej => ?_) (fun z => ?_)
  · subst ej
    have e : D_seed x (nI j) = (1, j) := by
      unfold D_seed
      rw [zs_ix_of hj (by decide)]
    rw [e] at hR
    simp only [↓zq, ↓reduceIte, zr_si2, zr_sr1, zr_cp2, zr_tl, zr_tn, shq, List.contains_nil, List.contains_cons, Nat.reduceBEq, Bool.false_or, Bool.or_false, Bool.true_or, Bool.false_eq_true, if_false, if_true, true_and, and_true, List.set_cons_zero, List.set_cons_succ, List.length_cons, List.length_nil, Nat.reduceAdd, Nat.reduceLeDiff, Nat.le_refl, Nat.zero_le, true_or, or_true, zn_cl, ↓jj_Mo_seed]
    refine ⟨fun _ => ?_, fun z => absurd z (by decide)⟩
    exact hR _ (zo_own_0 h 133 0 _ (by decide)) (zOO_x hO hj)
  · have e : D_seed x v = (0, x) := by
      unfold D_seed
      rw [z]
    rw [e] at hR
    simp only [↓zq, ↓reduceIte, zr_si2, zr_sr1, zr_cp2, zr_tl, zr_tn, shq, List.contains_nil, List.contains_cons, Nat.reduceBEq, Bool.false_or, Bool.or_false, Bool.true_or, Bool.false_eq_true, if_false, if_true, true_and, and_true, List.set_cons_zero, List.set_cons_succ, List.length_cons, List.length_nil, Nat.reduceAdd, Nat.reduceLeDiff, Nat.le_refl, Nat.zero_le, true_or, or_true, zn_cl, ↓jj_Mo_seed]
    exact ⟨fun z => (by first | exact absurd trivial z | exact absurd rfl z | exact absurd z (by decide)), fun _ => hR h (zo_own.rf h) hO⟩
set_option maxHeartbeats 4000000 in
set_option maxRecDepth 100000 in
theorem k_Mo_measures {d : Nat} {h : zm_M} {R : zm_R} {F : zs_F} {sp : Nat → Nat} {U : zs_U} {Q : zs_Q} (hO : zO h F sp U Q) (hR : R (some (.inl (nI (zs_sum F.2.2 F.1)))) h) : zm_C (d + 2) TT m_Mo_measures [.inr (some 133)] h R := by
  have p4 : h.2 133 4 = some 134 := by have := hO.1; simp only [this]
  have fs := hO.2.1.1.1
  have hw1 := hO.2.1.2.1
  have loop : ∀ (n i : Nat), i + n = F.1 → zm_W (zm_md m_Mo_measures) (d + 2) TT R 4 [some (.inr (some 133)), some (.inl (nI (zs_sum F.2.2 i))), some (.inl (nI i))] [] h := by
    intro n
    induction n with
    | zero =>
      intro i hi
      have : i = F.1 := by omega
      subst this
      refine zm_go g_Mo_measures [4] 30 (by decide +kernel) ok_Mo_measures _ rfl ?_
      simp only [↓zq, ↓reduceIte, zr_si2, zr_sr1, zr_cp2, zr_tl, zr_tn, shq, List.contains_nil, List.contains_cons, Nat.reduceBEq, Bool.false_or, Bool.or_false, Bool.true_or, Bool.false_eq_true, if_false, if_true, true_and, and_true, List.set_cons_zero, List.set_cons_succ, List.length_cons, List.length_nil, Nat.reduceAdd, Nat.reduceLeDiff, Nat.le_refl, Nat.zero_le, true_or, or_true, zn_cl, ↓jj_Mo_measures, fs]
      exact ⟨fun _ => hR, fun z => absurd (Int32.le_refl _) z⟩
    | succ n ih =>
      intro i hi
      refine zm_go g_Mo_measures [4] 30 (by decide +kernel) ok_Mo_measures _ rfl ?_
      simp only [↓zq, ↓reduceIte, zr_si2, zr_sr1, zr_cp2, zr_tl, zr_tn, shq, List.contains_nil, List.contains_cons, Nat.reduceBEq, Bool.false_or, Bool.or_false, Bool.true_or, Bool.false_eq_true, if_false, if_true, true_and, and_true, List.set_cons_zero, List.set_cons_succ, List.length_cons, List.length_nil, Nat.reduceAdd, Nat.reduceLeDiff, Nat.le_refl, Nat.zero_le, true_or, or_true, zn_cl, ↓jj_Mo_measures, fs]
      refine ⟨fun z => absurd z (nI_ge (by omega) (by omega)), fun _ => ?_⟩
      refine k_Mo_ofFact (k := 3) p4 (by omega) (by decide) ?_
      rw [(hO.2.1.1.2 i (by omega)).2.2.2]
      simp only [↓zq, ↓reduceIte, zr_si2, zr_sr1, zr_cp2, zr_tl, zr_tn, shq, List.contains_nil, List.contains_cons, Nat.reduceBEq, Bool.false_or, Bool.or_false, Bool.true_or, Bool.false_eq_true, if_false, if_true, true_and, and_true, List.set_cons_zero, List.set_cons_succ, List.length_cons, List.length_nil, Nat.reduceAdd, Nat.reduceLeDiff, Nat.le_refl, Nat.zero_le, true_or, or_true, zn_cl, ↓jj_Mo_measures]
      rw [nI_add, show nI i + 1 = nI (i + 1) from nI_1 i]
      exact ih (i + 1) (by omega)
  refine st_Mo_measures [4] 9 ?_
  simp only [↓zq, ↓reduceIte, zr_si2, zr_sr1, zr_cp2, zr_tl, zr_tn, shq, List.contains_nil, List.contains_cons, Nat.reduceBEq, Bool.false_or, Bool.or_false, Bool.true_or, Bool.false_eq_true, if_false, if_true, true_and, and_true, List.set_cons_zero, List.set_cons_succ, List.length_cons, List.length_nil, Nat.reduceAdd, Nat.reduceLeDiff, Nat.le_refl, Nat.zero_le, true_or, or_true, zn_cl, ↓jj_Mo_measures]
  exact loop F.1 0 (by omega)
set_option maxHeartbeats 4000000 in
set_option maxRecDepth 100000 in
theorem k_Mo_count {d : Nat} {h : zm_M} {R : zm_R} {n0 : Nat} {F : zs_F} {sp : Nat → Nat} {U : zs_U} {Q : zs_Q} {B : zs_B} {L : zs_L} {x : Nat} {K : zs_K} {v : Int32} (hO : zOO h n0 F sp U Q B L x K) (hR : R (some (.inl (A_count F U B L x v))) h) : zm_C (d + 3) TT m_Mo_count [.inr (some 133), .inl v] h R := by
  have fs := hO.1.2.1.1.1
  have us := hO.1.2.2.2.1.1.1
  have bs := hO.2.1.1.1
  have ex := hO.2.2.2.1.1
  have ls := hO.2.2.1.1.1
  refine st_Mo_count [] 30 ?_
  simp only [↓zq, ↓reduceIte, zr_si2, zr_sr1, zr_cp2, zr_tl, zr_tn, shq, List.contains_nil, List.contains_cons, Nat.reduceBEq, Bool.false_or, Bool.or_false, Bool.true_or, Bool.false_eq_true, if_false, if_true, true_and, and_true, List.set_cons_zero, List.set_cons_succ, List.length_cons, List.length_nil, Nat.reduceAdd, Nat.reduceLeDiff, Nat.le_refl, Nat.zero_le, true_or, or_true, zn_cl, ↓jj_Mo_count, fs, us, bs, ex, ls]
  rcases zs_cas v 6 (by decide) with ⟨j, hj, rfl⟩ | hno
  · unfold A_count at hR
    rw [zs_ix_of hj (by decide)] at hR
    dsimp only at hR
    rcases (show j = 0 ∨ j = 1 ∨ j = 2 ∨ j = 3 ∨ j = 4 ∨ j = 5 by omega) with rfl | rfl | rfl | rfl | rfl | rfl
    · exact ⟨fun _ => hR, fun z => absurd rfl z⟩
    · exact ⟨fun z => absurd z (by decide), fun _ => ⟨fun _ => hR, fun z => absurd rfl z⟩⟩
    · exact ⟨fun z => absurd z (by decide), fun _ => ⟨fun z => absurd z (by decide), fun _ => ⟨fun _ => hR, fun z => absurd rfl z⟩⟩⟩
    · exact ⟨fun z => absurd z (by decide), fun _ => ⟨fun z => absurd z (by decide), fun _ => ⟨fun z => absurd z (by decide), fun _ => ⟨fun _ => hR, fun z => absurd rfl z⟩⟩⟩⟩
    · refine ⟨fun z => absurd z (by decide), fun _ => ⟨fun z => absurd z (by decide), fun _ => ⟨fun z => absurd z (by decide), fun _ => ⟨fun z => absurd z (by decide), fun _ => ⟨fun _ => ?_, fun z => absurd rfl z⟩⟩⟩⟩⟩
      refine k_Mo_measures hO.1 ?_
      simp only [↓zq, ↓reduceIte, zr_si2, zr_sr1, zr_cp2, zr_tl, zr_tn, shq, List.contains_nil, List.contains_cons, Nat.reduceBEq, Bool.false_or, Bool.or_false, Bool.true_or, Bool.false_eq_true, if_false, if_true, true_and, and_true, List.set_cons_zero, List.set_cons_succ, List.length_cons, List.length_nil, Nat.reduceAdd, Nat.reduceLeDiff, Nat.le_refl, Nat.zero_le, true_or, or_true, zn_cl, ↓jj_Mo_count]
      exact hR
    · exact ⟨fun z => absurd z (by decide), fun _ => ⟨fun z => absurd z (by decide), fun _ => ⟨fun z => absurd z (by decide), fun _ => ⟨fun z => absurd z (by decide), fun _ => ⟨fun z => absurd z (by decide), fun _ => ⟨fun _ => hR, fun z => absurd rfl z⟩⟩⟩⟩⟩⟩
  · unfold A_count at hR
    rw [zs_ix_no hno] at hR
    have ne : ∀ j : Nat, j < 6 → ¬ v = nI j := fun j hj e => by
      subst e
      rcases hno with z | z
      · exact nI_pos (by omega) z
      · exact nI_ge hj (by decide) z
    exact ⟨fun z => absurd z (ne 0 (by decide)), fun _ => ⟨fun z => absurd z (ne 1 (by decide)), fun _ => ⟨fun z => absurd z (ne 2 (by decide)), fun _ => ⟨fun z => absurd z (ne 3 (by decide)), fun _ => ⟨fun z => absurd z (ne 4 (by decide)), fun _ => ⟨fun z => absurd z (ne 5 (by decide)), fun _ => hR⟩⟩⟩⟩⟩⟩
set_option maxHeartbeats 4000000 in
set_option maxRecDepth 100000 in
theorem k_Mo_renew {d : Nat} {h : zm_M} {R : zm_R} {n0 : Nat} {F : zs_F} {sp : Nat → Nat} {U : zs_U} {Q : zs_Q} {B : zs_B} {L : zs_L} {x : Nat} {K : zs_K} {v : Int32} (hO : zOO h n0 F sp U Q B L x K) (hR : ∀ h' : zm_M, zo_own h h' → zOO h' n0 F sp (D_renew F U v).2 Q B L x K → R (some (.inl (D_renew F U v).1)) h') : zm_C (d + 3) TT m_Mo_renew [.inr (some 133), .inl v] h R := by
  have p5 : h.2 133 5 = some 135 := by have := hO.1.1; simp only [this]
  have fs := hO.1.2.1.1.1
  have u8 := hO.1.2.2.2.1.2.1
  refine st_Mo_renew [] 30 ?_
  simp only [↓zq, ↓reduceIte, zr_si2, zr_sr1, zr_cp2, zr_tl, zr_tn, shq, List.contains_nil, List.contains_cons, Nat.reduceBEq, Bool.false_or, Bool.or_false, Bool.true_or, Bool.false_eq_true, if_false, if_true, true_and, and_true, List.set_cons_zero, List.set_cons_succ, List.length_cons, List.length_nil, Nat.reduceAdd, Nat.reduceLeDiff, Nat.le_refl, Nat.zero_le, true_or, or_true, zn_cl, ↓jj_Mo_renew]
  refine k_Mo_isSummary hO.1 (fun s hs es => ?_) (fun no => ?_)
  · subst es
    have e : D_renew F U (nI s) = (nI (F.1 - U.2 s 7), zs_uset U s F.1) := by
      unfold D_renew
      rw [zs_ix_of hs (by omega)]
    rw [e] at hR
    simp only [↓zq, ↓reduceIte, zr_si2, zr_sr1, zr_cp2, zr_tl, zr_tn, shq, List.contains_nil, List.contains_cons, Nat.reduceBEq, Bool.false_or, Bool.or_false, Bool.true_or, Bool.false_eq_true, if_false, if_true, true_and, and_true, List.set_cons_zero, List.set_cons_succ, List.length_cons, List.length_nil, Nat.reduceAdd, Nat.reduceLeDiff, Nat.le_refl, Nat.zero_le, true_or, or_true, zn_cl, ↓jj_Mo_renew]
    refine ⟨fun _ => ?_, fun z => absurd z (by decide)⟩
    refine k_Mo_freshOf hO.1 hs ?_
    have e8 : (8 : Int32) * nI s + 7 = nI (8 * s + 7) := zn_8s (k := 7)
    have v8 : vp_in (nI (8 * s + 7)) 64 := vp_in_nI (by omega) (by decide)
    have c8 := nI_clamp (show 8 * s + 7 < 2 ^ 31 by omega)
    simp only [↓zq, ↓reduceIte, zr_si2, zr_sr1, zr_cp2, zr_tl, zr_tn, shq, List.contains_nil, List.contains_cons, Nat.reduceBEq, Bool.false_or, Bool.or_false, Bool.true_or, Bool.false_eq_true, if_false, if_true, true_and, and_true, List.set_cons_zero, List.set_cons_succ, List.length_cons, List.length_nil, Nat.reduceAdd, Nat.reduceLeDiff, Nat.le_refl, Nat.zero_le, true_or, or_true, zn_cl, ↓jj_Mo_renew, p5, e8, v8, c8, fs]
    have z7 := zO_mk hO.1 (s := s) hs
    have z8 := zOO_up hO z7 (fun q hq => by funext j; rw [zr_si1, if_neg (by omega)]) (fun k hk => by rw [zr_si1, if_neg (by omega)]) (fun k _ => by rw [zr_si1, if_neg (by omega)]) (by rw [zr_si1, if_neg (by omega)]; exact hO.2.2.2.1.1) hO.2.2.2.1.2 (Nat.le_refl _) (Nat.le_refl _)
    exact hR _ (zo_own_0 h 135 _ _ (by decide)) z8
  · have e : D_renew F U v = (-1, U) := by
      unfold D_renew
      rw [zs_ix_no2 (by omega) no]
    rw [e] at hR
    simp only [↓zq, ↓reduceIte, zr_si2, zr_sr1, zr_cp2, zr_tl, zr_tn, shq, List.contains_nil, List.contains_cons, Nat.reduceBEq, Bool.false_or, Bool.or_false, Bool.true_or, Bool.false_eq_true, if_false, if_true, true_and, and_true, List.set_cons_zero, List.set_cons_succ, List.length_cons, List.length_nil, Nat.reduceAdd, Nat.reduceLeDiff, Nat.le_refl, Nat.zero_le, true_or, or_true, zn_cl, ↓jj_Mo_renew]
    exact ⟨fun z => (by first | exact absurd trivial z | exact absurd rfl z | exact absurd z (by decide)), fun _ => hR h (zo_own.rf h) hO⟩
set_option maxHeartbeats 4000000 in
set_option maxRecDepth 100000 in
theorem k_Mo_drop {d : Nat} {h : zm_M} {R : zm_R} {n0 : Nat} {F : zs_F} {sp : Nat → Nat} {U : zs_U} {Q : zs_Q} {B : zs_B} {L : zs_L} {x : Nat} {K : zs_K} {v : Int32} (hO : zOO h n0 F sp U Q B L x K) (hR : ∀ h' : zm_M, zo_own h h' → zOO h' n0 F sp (D_drop U v).2 Q B L x K → R (some (.inl (D_drop U v).1)) h') : zm_C (d + 3) TT m_Mo_drop [.inr (some 133), .inl v] h R := by
  have hp := hO.1.1
  have us := hO.1.2.2.2.1.1.1
  have u8 := hO.1.2.2.2.1.2.1
  refine st_Mo_drop [18] 30 ?_
  simp only [↓zq, ↓reduceIte, zr_si2, zr_sr1, zr_cp2, zr_tl, zr_tn, shq, List.contains_nil, List.contains_cons, Nat.reduceBEq, Bool.false_or, Bool.or_false, Bool.true_or, Bool.false_eq_true, if_false, if_true, true_and, and_true, List.set_cons_zero, List.set_cons_succ, List.length_cons, List.length_nil, Nat.reduceAdd, Nat.reduceLeDiff, Nat.le_refl, Nat.zero_le, true_or, or_true, zn_cl, ↓jj_Mo_drop]
  refine k_Mo_isSummary hO.1 (fun s hs es => ?_) (fun no => ?_)
  · subst es
    have e : D_drop U (nI s) = (1, zs_udel U s) := by
      unfold D_drop
      rw [zs_ix_of hs (by omega)]
    rw [e] at hR
    have e8 : (8 : Int32) * nI s + 8 = nI (8 * s + 8) := zn_8s (k := 8)
    simp only [↓zq, ↓reduceIte, zr_si2, zr_sr1, zr_cp2, zr_tl, zr_tn, shq, List.contains_nil, List.contains_cons, Nat.reduceBEq, Bool.false_or, Bool.or_false, Bool.true_or, Bool.false_eq_true, if_false, if_true, true_and, and_true, List.set_cons_zero, List.set_cons_succ, List.length_cons, List.length_nil, Nat.reduceAdd, Nat.reduceLeDiff, Nat.le_refl, Nat.zero_le, true_or, or_true, zn_cl, ↓jj_Mo_drop, e8]
    refine ⟨fun _ => ?_, fun z => absurd z (by decide)⟩
    have loop : ∀ (n i : Nat) (g : zm_M), i + n = 8 * U.1 → 8 * s + 8 ≤ i → g.2 = h.2 → (∀ a, a ≠ 135 → g.1 a = h.1 a) → (∀ k, k < 8 * s → g.1 135 k = h.1 135 k) → (∀ k, 8 * s ≤ k → k + 8 < i → g.1 135 k = h.1 135 (k + 8)) → (∀ k, i ≤ k + 8 → g.1 135 k = h.1 135 k ∨ k + 8 < i ∨ k + 8 = i ∨ True) → (∀ k, i ≤ k → g.1 135 k = h.1 135 k) → zm_W (zm_md m_Mo_drop) (d + 3) TT R 18 [some (.inr (some 133)), some (.inl (nI s)), some (.inl (nI i))] [] g := by
      intro n
      induction n with
      | zero =>
        intro i g hi hi2 g2 gI gl gm _ gh
        have : i = 8 * U.1 := by omega
        subst this
        have us' : g.1 133 2 = nI U.1 := by rw [gI 133 (by omega)]; exact us
        have em : (8 : Int32) * nI U.1 = nI (8 * U.1) := zn_8
        have ep : nI U.1 - 1 = nI (U.1 - 1) := by
          obtain ⟨q, hq⟩ : ∃ q, U.1 = q + 1 := ⟨U.1 - 1, by omega⟩
          rw [hq, nI_pred]
          rfl
        refine zm_go g_Mo_drop [18] 30 (by decide +kernel) ok_Mo_drop _ rfl ?_
        simp only [↓zq, ↓reduceIte, zr_si2, zr_sr1, zr_cp2, zr_tl, zr_tn, shq, List.contains_nil, List.contains_cons, Nat.reduceBEq, Bool.false_or, Bool.or_false, Bool.true_or, Bool.false_eq_true, if_false, if_true, true_and, and_true, List.set_cons_zero, List.set_cons_succ, List.length_cons, List.length_nil, Nat.reduceAdd, Nat.reduceLeDiff, Nat.le_refl, Nat.zero_le, true_or, or_true, zn_cl, ↓jj_Mo_drop, us', em, ep]
        refine ⟨fun _ => ?_, fun z => absurd (Int32.le_refl _) z⟩
        obtain ⟨o1, ⟨o2, o2w⟩, ⟨o3, o3w⟩, ⟨o4, o4w⟩, o5, o6⟩ := hO.1
        have qI : ∀ a, a ≠ 135 → a ≠ 133 → (zm_si g 133 2 (nI (U.1 - 1))).1 a = h.1 a := fun a h1 h2 => by
          funext j
          rw [zr_si1, if_neg (fun z => h2 z.1), gI a h1]
        have q0 : ∀ k, k ≠ 2 → (zm_si g 133 2 (nI (U.1 - 1))).1 133 k = h.1 133 k := fun k hk => by
          rw [zr_si1, if_neg (fun z => hk z.2), gI 133 (by omega)]
        have zz : zO (zm_si g 133 2 (nI (U.1 - 1))) F sp (zs_udel U s) Q := by
          refine ⟨by rw [zr_si2, g2]; exact o1, ⟨?_, o2w⟩, ⟨?_, o3w⟩, ⟨⟨?_, fun r hr k hk => ?_⟩, zw_U_del o4w hs⟩, ?_, o6⟩
          · unfold zo_F
            rw [q0 1 (by omega), qI 134 (by omega) (by omega)]
            exact o2
          · unfold zo_S
            rw [qI 136 (by omega) (by omega)]
            exact o3
          · rw [zr_si1, if_pos ⟨rfl, rfl⟩]
            rfl
          · have hr' : r < U.1 - 1 := hr
            rw [zr_si1, if_neg (by omega)]
            unfold zs_udel
            dsimp only
            by_cases z : r < s
            · rw [if_pos z, gl _ (by omega)]
              exact o4.2 r (by omega) k hk
            · rw [if_neg z, gm _ (by omega) (by omega), show 8 * r + k + 8 = 8 * (r + 1) + k by omega]
              exact o4.2 (r + 1) (by omega) k hk
          · unfold zo_Q
            rw [q0 36 (by omega), qI 153 (by omega) (by omega)]
            exact o5
        refine hR _ ⟨by rw [zr_si2]; exact g2, fun a ha => qI a (by omega) (by omega)⟩ ?_
        exact zOO_up hO zz (fun q hq => qI q (by omega) (by omega)) (fun k hk => q0 k (by omega)) (fun k _ => by rw [qI 134 (by omega) (by omega)]) (by rw [q0 0 (by omega)]; exact hO.2.2.2.1.1) hO.2.2.2.1.2 (Nat.le_refl _) (Nat.le_refl _)
      | succ n ih =>
        intro i g hi hi2 g2 gI gl gm _ gh
        have us' : g.1 133 2 = nI U.1 := by rw [gI 133 (by omega)]; exact us
        have p5 : g.2 133 5 = some 135 := by rw [g2]; simp only [hp]
        have em : (8 : Int32) * nI U.1 = nI (8 * U.1) := zn_8
        have es : nI i - 8 = nI (i - 8) := pk_sub (a := i) (b := 8) (by omega)
        have v1 : vp_in (nI i) 64 := vp_in_nI (by omega) (by decide)
        have v2 : vp_in (nI (i - 8)) 64 := vp_in_nI (by omega) (by decide)
        have c1 := nI_clamp (show i < 2 ^ 31 by omega)
        have c2 := nI_clamp (show i - 8 < 2 ^ 31 by omega)
        refine zm_go g_Mo_drop [18] 30 (by decide +kernel) ok_Mo_drop _ rfl ?_
        simp only [↓zq, ↓reduceIte, zr_si2, zr_sr1, zr_cp2, zr_tl, zr_tn, shq, List.contains_nil, List.contains_cons, Nat.reduceBEq, Bool.false_or, Bool.or_false, Bool.true_or, Bool.false_eq_true, if_false, if_true, true_and, and_true, List.set_cons_zero, List.set_cons_succ, List.length_cons, List.length_nil, Nat.reduceAdd, Nat.reduceLeDiff, Nat.le_refl, Nat.zero_le, true_or, or_true, zn_cl, ↓jj_Mo_drop, us', em, p5, es, v1, v2, c1, c2, nI_1]
        refine ⟨fun z => absurd z (nI_ge (by omega) (by omega)), fun _ => ?_⟩
        refine ih (i + 1) _ (by omega) (by omega) g2 (fun a ha => ?_) (fun k hk => ?_) (fun k h1 h2 => ?_) (fun k hk => Or.inr (Or.inr (Or.inr trivial))) (fun k hk => ?_)
        · funext j
          rw [zr_si1, if_neg (fun z => ha z.1), gI a ha]
        · rw [zr_si1, if_neg (by omega)]
          exact gl k hk
        · rw [zr_si1]
          by_cases z : k = i - 8
          · rw [if_pos ⟨rfl, z⟩, gh i (by omega), show k + 8 = i by omega]
          · rw [if_neg (by omega)]
            exact gm k h1 (by omega)
        · rw [zr_si1, if_neg (by omega)]
          exact gh k (by omega)
    exact loop (8 * U.1 - (8 * s + 8)) (8 * s + 8) h (by omega) (Nat.le_refl _) rfl (fun _ _ => rfl) (fun _ _ => rfl) (fun k h1 h2 => by omega) (fun k hk => Or.inr (Or.inr (Or.inr trivial))) (fun _ _ => rfl)
  · have e : D_drop U v = (0, U) := by
      unfold D_drop
      rw [zs_ix_no2 (by omega) no]
    rw [e] at hR
    simp only [↓zq, ↓reduceIte, zr_si2, zr_sr1, zr_cp2, zr_tl, zr_tn, shq, List.contains_nil, List.contains_cons, Nat.reduceBEq, Bool.false_or, Bool.or_false, Bool.true_or, Bool.false_eq_true, if_false, if_true, true_and, and_true, List.set_cons_zero, List.set_cons_succ, List.length_cons, List.length_nil, Nat.reduceAdd, Nat.reduceLeDiff, Nat.le_refl, Nat.zero_le, true_or, or_true, zn_cl, ↓jj_Mo_drop]
    exact ⟨fun z => (by first | exact absurd trivial z | exact absurd rfl z | exact absurd z (by decide)), fun _ => hR h (zo_own.rf h) hO⟩
