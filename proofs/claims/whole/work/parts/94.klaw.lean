/-! law (class) -/
set_option maxHeartbeats 4000000 in
set_option maxRecDepth 100000 in
theorem k_LawR_exchange {d : Nat} {h : zm_M} {R : zm_R} {w0 w1 : Nat} (h1 : h.2 3 1 = some w1) (hR : R (some (.inr (some w1))) (zm_sr h 3 1 (some w0))) : zm_C (d + 1) TT m_LawR_exchange [.inr (some 3), .inr (some w0)] h R := by
  refine st_LawR_exchange [] 30 ?_
  simp only [↓zq, ↓reduceIte, zr_si2, zr_sr1, zr_cp2, zr_tl, zr_tn, shq, List.contains_nil, List.contains_cons, Nat.reduceBEq, Bool.false_or, Bool.or_false, Bool.true_or, Bool.false_eq_true, if_false, if_true, true_and, and_true, List.set_cons_zero, List.set_cons_succ, List.length_cons, List.length_nil, Nat.reduceAdd, Nat.reduceLeDiff, Nat.le_refl, Nat.zero_le, true_or, or_true, zn_cl, ↓jj_LawR_exchange, h1]
  exact hR
theorem zc_W_2 {P : Nat → Nat → Option Nat} {w : Nat} (hW : zc_W P w) : P 0 3 = some w ∧ P 3 1 = some (23 - w) ∧ (23 - w = 4 ∨ 23 - w = 19) ∧ (w = 4 ∨ w = 19) ∧ 23 - w ≠ w := by
  rcases hW with ⟨rfl, h1, h2⟩ | ⟨rfl, h1, h2⟩
  · exact ⟨h1, h2, by decide, by decide, by decide⟩
  · exact ⟨h1, h2, by decide, by decide, by decide⟩
set_option maxHeartbeats 4000000 in
set_option maxRecDepth 100000 in
theorem k_KS_law {d : Nat} {h : zm_M} {R : zm_R} {pi : Nat → Nat} {w : Nat} {F : zs_F} {sp : Nat → Nat} {U : zs_U} {Q : zs_Q} {B : zs_B} {L : zs_L} {x : Nat} {K : zs_K} {v : Int32} (hC : zCC h pi w F sp U Q B L x K) (hR : ∀ (h' : zm_M) (w' : Nat), zc_own h h' → zCC h' pi w' F sp U Q (D_law B L v).2.1 (D_law B L v).2.2 x K → R (some (.inl (D_law B L v).1)) h') : zm_C (d + 20) TT m_KS_law [.inr (some 0), .inl v] h R := by
  obtain ⟨p0, p1, p2, p4, p5, p6, p7, p9, p10, p11, p12, p14⟩ := zC_p hC.1
  have hp := hC.1.1
  have p10' : h.2 1 0 = some 2 := by simp only [hp]
  have p30 : h.2 3 0 = some 1 := by simp only [hp]
  obtain ⟨pw, pw1, hw1, hw, hne⟩ := zc_W_2 hC.2.2.2.1.1
  obtain ⟨hB, hBw⟩ := hC.2.2.1
  have b1 := hB.1
  have b260 := hBw.1
  have hg : zg h.2 (23 - w) := ⟨p30, pw1, zk_laws hp hw1, hw1⟩
  have k1 := (zk_laws hp hw1).1
  refine st_KS_law [] 30 ?_
  simp only [↓zq, ↓reduceIte, zr_si2, zr_sr1, zr_cp2, zr_tl, zr_tn, shq, List.contains_nil, List.contains_cons, Nat.reduceBEq, Bool.false_or, Bool.or_false, Bool.true_or, Bool.false_eq_true, if_false, if_true, true_and, and_true, List.set_cons_zero, List.set_cons_succ, List.length_cons, List.length_nil, Nat.reduceAdd, Nat.reduceLeDiff, Nat.le_refl, Nat.zero_le, true_or, or_true, zn_cl, ↓jj_KS_law, p0]
  refine k_Tape_has (lo := 1) (hi := 240) (b := B.1) (by decide) (by decide) (by omega) b1 (fun n n0 n1 n2 en => ?_) (fun no => ?_)
  · subst en
    have eT := zs_tx_of n0 n1 n2 (by decide)
    simp only [↓zq, ↓reduceIte, zr_si2, zr_sr1, zr_cp2, zr_tl, zr_tn, shq, List.contains_nil, List.contains_cons, Nat.reduceBEq, Bool.false_or, Bool.or_false, Bool.true_or, Bool.false_eq_true, if_false, if_true, true_and, and_true, List.set_cons_zero, List.set_cons_succ, List.length_cons, List.length_nil, Nat.reduceAdd, Nat.reduceLeDiff, Nat.le_refl, Nat.zero_le, true_or, or_true, zn_cl, ↓jj_KS_law, p0]
    refine ⟨fun _ => ?_, fun z => absurd z (by decide)⟩
    refine k_Tape_begin p10' hB hBw n2 (by omega) (fun g1 f1 s1 => ?_)
    have r : g1.2 0 1 = some 3 := by rw [f1.1]; exact p1
    simp only [↓zq, ↓reduceIte, zr_si2, zr_sr1, zr_cp2, zr_tl, zr_tn, shq, List.contains_nil, List.contains_cons, Nat.reduceBEq, Bool.false_or, Bool.or_false, Bool.true_or, Bool.false_eq_true, if_false, if_true, true_and, and_true, List.set_cons_zero, List.set_cons_succ, List.length_cons, List.length_nil, Nat.reduceAdd, Nat.reduceLeDiff, Nat.le_refl, Nat.zero_le, true_or, or_true, zn_cl, ↓jj_KS_law, r]
    refine k_LawR_readRules (w := 23 - w) (zg_of f1.1 hg) s1 (fun g2 f2 s2 r2 => ?_)
    have r0 : g2.2 0 0 = some 1 := by rw [f2.1, f1.1]; exact p0
    simp only [↓zq, ↓reduceIte, zr_si2, zr_sr1, zr_cp2, zr_tl, zr_tn, shq, List.contains_nil, List.contains_cons, Nat.reduceBEq, Bool.false_or, Bool.or_false, Bool.true_or, Bool.false_eq_true, if_false, if_true, true_and, and_true, List.set_cons_zero, List.set_cons_succ, List.length_cons, List.length_nil, Nat.reduceAdd, Nat.reduceLeDiff, Nat.le_refl, Nat.zero_le, true_or, or_true, zn_cl, ↓jj_KS_law, r0]
    refine k_Tape_clear ?_
    obtain ⟨g3, hg3⟩ : ∃ g3 : zm_M, g3 = zm_si g2 1 1 0 := ⟨_, rfl⟩
    rw [← hg3]
    have e2 : g3.2 = h.2 := by rw [hg3]; exact f2.1.trans f1.1
    have eI : ∀ a, a ≠ 1 → (a < 15 ∨ 18 < a) → (a < 23 - w ∨ 23 - w + 6 < a) → g3.1 a = h.1 a := fun a h1 h2 h3 => by
      rw [hg3, ← f1.2 a h1 h2, ← f2.2.1 a h1 h3]
      funext j
      rw [zr_si1, if_neg (fun z => h1 z.1)]
    have e11 : g3.1 1 1 = 0 := by rw [hg3, zr_si1, if_pos ⟨rfl, rfl⟩]
    have eL : ∀ a, a ≠ 1 → g3.1 a = g2.1 a := fun a h1 => by
      rw [hg3]
      funext j
      rw [zr_si1, if_neg (fun z => h1 z.1)]
    have i4 : g3.1 1 4 = g2.1 1 4 ∧ g3.1 1 5 = g2.1 1 5 := by rw [hg3]; exact ⟨by rw [zr_si1, if_neg (by omega)], by rw [zr_si1, if_neg (by omega)]⟩
    clear hg3
    have o3 : zc_own h g3 := fun a ha => ⟨eI a (by omega) (by omega) (by omega), by rw [e2]⟩
    have r0 : g3.2 0 0 = some 1 := by rw [e2]; exact p0
    simp only [↓zq, ↓reduceIte, zr_si2, zr_sr1, zr_cp2, zr_tl, zr_tn, shq, List.contains_nil, List.contains_cons, Nat.reduceBEq, Bool.false_or, Bool.or_false, Bool.true_or, Bool.false_eq_true, if_false, if_true, true_and, and_true, List.set_cons_zero, List.set_cons_succ, List.length_cons, List.length_nil, Nat.reduceAdd, Nat.reduceLeDiff, Nat.le_refl, Nat.zero_le, true_or, or_true, zn_cl, ↓jj_KS_law, r0]
    obtain ⟨c1, c2, ⟨c3, c3w⟩, ⟨c4, c5, c5w⟩, ⟨c6, c6w⟩, c7, c7w⟩ := id hC
    have eB : zc_B g3.1 (0, B.2) := ⟨e11, fun k hk => absurd hk (Nat.not_lt_zero _)⟩
    obtain ⟨_, _, _, _, s5⟩ := s2.1
    generalize he : t_en n (p_rul B.2 n 17 zl_0.1 zl_0.2).2.1 = e at s5
    match e, s5, he with
    | .inl y, s5, he =>
      obtain ⟨t4, t1, t6, t5, tn⟩ := s5
      have u4 : g3.1 1 4 = nI y.1 := i4.1.trans t4
      have u5 : g3.1 1 5 = nI y.2 := i4.2.trans t5
      rw [u4]
      refine ⟨fun z => absurd z (nI_ne0 (by omega) (by omega)), fun _ => ?_⟩
      refine k_Tape_faultAnswer u4 u5 ?_
      simp only [↓zq, ↓reduceIte, zr_si2, zr_sr1, zr_cp2, zr_tl, zr_tn, shq, List.contains_nil, List.contains_cons, Nat.reduceBEq, Bool.false_or, Bool.or_false, Bool.true_or, Bool.false_eq_true, if_false, if_true, true_and, and_true, List.set_cons_zero, List.set_cons_succ, List.length_cons, List.length_nil, Nat.reduceAdd, Nat.reduceLeDiff, Nat.le_refl, Nat.zero_le, true_or, or_true, zn_cl, ↓jj_KS_law]
      have eD : D_law B L (nI n) = (t_an y, (0, B.2), L) := by
        unfold D_law
        rw [eT]
        dsimp only
        rw [he]
      rw [eD] at hR
      refine hR g3 w o3 ⟨zC_of (fun a _ => by rw [e2]) (fun a ha => eI a (by omega) (by omega) (by omega)) (by rw [eI 0 (by omega) (by omega) (by omega)]) c1, zc_N_of (eI 93 (by omega) (by omega) (by omega)) c2, ⟨eB, zw_B_0⟩, ⟨zc_W_of (by rw [e2]) (by rw [e2]) c4, zc_L_of (fun a h1 h2 => eI a (by omega) (by omega) (by omega)) (by rw [eI w (by omega) (by omega) (by omega)]) c5, c5w⟩, ⟨?_, c6w⟩, zc_K_of (fun a h1 h2 => eI a (by omega) (by omega) (by omega)) (fun k _ _ => by rw [eI 0 (by omega) (by omega) (by omega)]) c7w c7, c7w⟩
      rw [eI 0 (by omega) (by omega) (by omega)]
      exact c6
    | .inr p, s5, he =>
      obtain ⟨t3, tn, t4⟩ := s5
      have u4 : g3.1 1 4 = 0 := i4.1.trans t4
      have eD : D_law B L (nI n) = (nI (p_rul B.2 n 17 zl_0.1 zl_0.2).1.1, (0, B.2), ((p_rul B.2 n 17 zl_0.1 zl_0.2).1.1, (p_rul B.2 n 17 zl_0.1 zl_0.2).1.2, (p_rul B.2 n 17 zl_0.1 zl_0.2).2.2.2)) := by
        unfold D_law
        rw [eT]
        dsimp only
        rw [he]
      obtain ⟨wL, wR⟩ := D_law_ok (by omega) he
      generalize p_rul B.2 n 17 zl_0.1 zl_0.2 = PP at *
      rw [eD] at hR
      dsimp only at hR
      rw [u4]
      refine ⟨fun _ => ?_, fun z => (by first | exact absurd trivial z | exact absurd rfl z | exact absurd z (by decide))⟩
      have rr : g3.2 0 1 = some 3 ∧ g3.2 0 3 = some w := by rw [e2]; exact ⟨p1, pw⟩
      simp only [↓zq, ↓reduceIte, zr_si2, zr_sr1, zr_cp2, zr_tl, zr_tn, shq, List.contains_nil, List.contains_cons, Nat.reduceBEq, Bool.false_or, Bool.or_false, Bool.true_or, Bool.false_eq_true, if_false, if_true, true_and, and_true, List.set_cons_zero, List.set_cons_succ, List.length_cons, List.length_nil, Nat.reduceAdd, Nat.reduceLeDiff, Nat.le_refl, Nat.zero_le, true_or, or_true, zn_cl, ↓jj_KS_law, rr]
      refine k_LawR_exchange (w1 := 23 - w) (by rw [e2]; exact pw1) ?_
      have r7 : g3.1 (23 - w) 7 = nI PP.1.1 := by rw [eL (23 - w) (by omega)]; exact r2.1
      simp only [↓zq, ↓reduceIte, zr_si2, zr_sr1, zr_cp2, zr_tl, zr_tn, shq, List.contains_nil, List.contains_cons, Nat.reduceBEq, Bool.false_or, Bool.or_false, Bool.true_or, Bool.false_eq_true, if_false, if_true, true_and, and_true, List.set_cons_zero, List.set_cons_succ, List.length_cons, List.length_nil, Nat.reduceAdd, Nat.reduceLeDiff, Nat.le_refl, Nat.zero_le, true_or, or_true, zn_cl, ↓jj_KS_law]
      simp only [zr_sr2, and_self, if_true, zr_sr1]
      simp only [↓zq, ↓reduceIte, zr_si2, zr_sr1, zr_cp2, zr_tl, zr_tn, shq, List.contains_nil, List.contains_cons, Nat.reduceBEq, Bool.false_or, Bool.or_false, Bool.true_or, Bool.false_eq_true, if_false, if_true, true_and, and_true, List.set_cons_zero, List.set_cons_succ, List.length_cons, List.length_nil, Nat.reduceAdd, Nat.reduceLeDiff, Nat.le_refl, Nat.zero_le, true_or, or_true, zn_cl, ↓jj_KS_law, k1, r7]
      refine hR _ (23 - w) (o3.tr (fun a ha => ⟨rfl, ?_⟩)) ?_
      · funext j
        rw [zr_sr2, if_neg (by omega), zr_sr2, if_neg (by omega)]
      · have P2 : ∀ a j, (a = 0 → j ≠ 3) → (a = 3 → j ≠ 1) → (zm_sr (zm_sr g3 3 1 (some w)) 0 3 (some (23 - w))).2 a j = h.2 a j := fun a j h1 h2 => by
          rw [zr_sr2, if_neg (fun z => h1 z.1 z.2), zr_sr2, if_neg (fun z => h2 z.1 z.2), e2]
        have I2 : (zm_sr (zm_sr g3 3 1 (some w)) 0 3 (some (23 - w))).1 = g3.1 := rfl
        have zC9 : zC (zm_sr (zm_sr g3 3 1 (some w)) 0 3 (some (23 - w))) pi F sp U Q := by
          have zz := zC_of (h' := g3) (fun a _ => by rw [e2]) (fun a ha => eI a (by omega) (by omega) (by omega)) (by rw [eI 0 (by omega) (by omega) (by omega)]) c1
          obtain ⟨d1, d2, d3, d4, d5, d6, d7⟩ := zz
          refine ⟨zp_ok_of (fun b j h0 h1 h2 => ?_) c1.1, ?_, d3, d4, d5, d6, d7⟩
          · exact P2 b j h1 h2
          · unfold zc_P
            have : (zm_sr (zm_sr g3 3 1 (some w)) 0 3 (some (23 - w))).2 37 = h.2 37 := by funext j; exact P2 37 j (by omega) (by omega)
            rw [this]
            exact c1.2.1
        refine ⟨zC9, zc_N_of (eI 93 (by omega) (by omega) (by omega)) c2, ⟨eB, zw_B_0⟩, ⟨?_, ⟨r7, fun q hq => ?_⟩, wL⟩, ⟨?_, c6w⟩, zc_K_of (fun a h1 h2 => eI a (by omega) (by omega) (by omega)) (fun k _ _ => by rw [I2, eI 0 (by omega) (by omega) (by omega)]) c7w c7, c7w⟩
        · unfold zc_W
          have y1 : (zm_sr (zm_sr g3 3 1 (some w)) 0 3 (some (23 - w))).2 0 3 = some (23 - w) := by rw [zr_sr2, if_pos ⟨rfl, rfl⟩]
          have y2 : (zm_sr (zm_sr g3 3 1 (some w)) 0 3 (some (23 - w))).2 3 1 = some w := by rw [zr_sr2, if_neg (by omega), zr_sr2, if_pos ⟨rfl, rfl⟩]
          rw [y1, y2]
          rcases hw with rfl | rfl
          · exact Or.inr ⟨rfl, rfl, rfl⟩
          · exact Or.inl ⟨rfl, rfl, rfl⟩
        · obtain ⟨a1, a2, a3, a4⟩ := r2.2.2 q hq
          obtain ⟨b1, b2, b3, b4, b5, b6⟩ := wR q hq
          rw [I2, eL _ (by omega), eL _ (by omega), eL _ (by omega), eL _ (by omega), eL _ (by omega), eL _ (by omega)]
          refine ⟨a1.trans (if_neg (by omega)), a2, a3, a4, fun k hk => s2.2.2.2 k ?_⟩
          have hk' : k < (PP.1.2 q).2.2.2 := hk
          show k < PP.2.2.1
          omega
        · rw [I2, eI 0 (by omega) (by omega) (by omega)]
          exact c6
  · simp only [↓zq, ↓reduceIte, zr_si2, zr_sr1, zr_cp2, zr_tl, zr_tn, shq, List.contains_nil, List.contains_cons, Nat.reduceBEq, Bool.false_or, Bool.or_false, Bool.true_or, Bool.false_eq_true, if_false, if_true, true_and, and_true, List.set_cons_zero, List.set_cons_succ, List.length_cons, List.length_nil, Nat.reduceAdd, Nat.reduceLeDiff, Nat.le_refl, Nat.zero_le, true_or, or_true, zn_cl, ↓jj_KS_law]
    refine ⟨fun z => (by first | exact absurd trivial z | exact absurd rfl z | exact absurd z (by decide)), fun _ => ?_⟩
    have eD : D_law B L v = (-1, B, L) := by
      unfold D_law
      rw [zs_tx_no (by decide) no]
    rw [eD] at hR
    exact hR h w (zc_own.rf h) hC
