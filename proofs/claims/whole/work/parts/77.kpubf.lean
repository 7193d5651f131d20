/-! summary, question: public (class) -/
def zs_uadd (U : zs_U) (row : Nat → Nat) : zs_U := (U.1 + 1, fun r k => if r = U.1 then row k else U.2 r k)
theorem zw_U_add {n : Nat} {U : zs_U} {row : Nat → Nat} (hw : zw_U n U) (h8 : U.1 < 8) (hr : zw_R row ∧ 1 ≤ row 6 ∧ row 6 < 16 ∧ row 7 ≤ n) : zw_U n (zs_uadd U row) := by
  refine ⟨by unfold zs_uadd; dsimp only; omega, fun s hs => ?_⟩
  have hs' : s < U.1 + 1 := hs
  by_cases z : s = U.1
  · have : (zs_uadd U row).2 s = row := by funext k; exact if_pos z
    rw [this]
    exact hr
  · have : (zs_uadd U row).2 s = U.2 s := by funext k; exact if_neg z
    rw [this]
    exact hw.2 s (by omega)
def D_summary (F : zs_F) (sp : Nat → Nat) (U : zs_U) (B : zs_B) (v : Int32) : Int32 × zs_B × zs_U := match zs_tx B v 80 with
  | none => (-1, B, U)
  | some n => match f_ye B.2 n sp (.inr 0) with
    | .inl x => (t_an x, (0, B.2), U)
    | .inr _ => if U.1 = 8 then (-3, (0, B.2), U) else (nI U.1, (0, B.2), zs_uadd U (f_yr B.2 n sp F.1 (.inr 0)))
set_option maxHeartbeats 4000000 in
set_option maxRecDepth 100000 in
theorem k_KS_summary {d : Nat} {h : zm_M} {R : zm_R} {pi : Nat → Nat} {w : Nat} {F : zs_F} {sp : Nat → Nat} {U : zs_U} {Q : zs_Q} {B : zs_B} {L : zs_L} {x : Nat} {K : zs_K} {v : Int32} (hC : zCC h pi w F sp U Q B L x K) (hR : ∀ h' : zm_M, zc_own h h' → zCC h' pi w F sp (D_summary F sp U B v).2.2 Q (D_summary F sp U B v).2.1 L x K → R (some (.inl (D_summary F sp U B v).1)) h') : zm_C (d + 7) TT m_KS_summary [.inr (some 0), .inl v] h R := by
  obtain ⟨p0, p1, p2, p4, p5, p6, p7, p9, p10, p11, p12, p14⟩ := zC_p hC.1
  have p10' : h.2 1 0 = some 2 := by have := hC.1.1; simp only [this]
  obtain ⟨q0, q1, q2⟩ := zp_13 hC.1.1
  obtain ⟨hw, pw⟩ := zc_W_or hC.2.2.2.1.1
  obtain ⟨hB, hBw⟩ := hC.2.2.1
  have b1 := hB.1
  have b260 := hBw.1
  have u8 := hC.1.2.2.2.2.1.2.1
  have pi8 : ∀ s, s < 8 → pi s < 8 := fun s hs => (hC.1.2.1.1 s hs).2
  refine st_KS_summary [] 30 ?_
  simp only [↓zq, ↓reduceIte, zr_si2, zr_sr1, zr_cp2, zr_tl, zr_tn, shq, List.contains_nil, List.contains_cons, Nat.reduceBEq, Bool.false_or, Bool.or_false, Bool.true_or, Bool.false_eq_true, if_false, if_true, true_and, and_true, List.set_cons_zero, List.set_cons_succ, List.length_cons, List.length_nil, Nat.reduceAdd, Nat.reduceLeDiff, Nat.le_refl, Nat.zero_le, true_or, or_true, zn_cl, ↓jj_KS_summary, p0]
  refine k_Tape_has (lo := 1) (hi := 80) (b := B.1) (by decide) (by decide) (by omega) b1 (fun n n0 n1 n2 en => ?_) (fun no => ?_)
  · subst en
    have eT := zs_tx_of n0 n1 n2 (by decide)
    simp only [↓zq, ↓reduceIte, zr_si2, zr_sr1, zr_cp2, zr_tl, zr_tn, shq, List.contains_nil, List.contains_cons, Nat.reduceBEq, Bool.false_or, Bool.or_false, Bool.true_or, Bool.false_eq_true, if_false, if_true, true_and, and_true, List.set_cons_zero, List.set_cons_succ, List.length_cons, List.length_nil, Nat.reduceAdd, Nat.reduceLeDiff, Nat.le_refl, Nat.zero_le, true_or, or_true, zn_cl, ↓jj_KS_summary, p0]
    refine ⟨fun _ => ?_, fun z => absurd z (by decide)⟩
    refine k_Tape_begin p10' hB hBw n2 (by omega) (fun g1 f1 s1 => ?_)
    have r : g1.2 0 2 = some 13 ∧ g1.2 0 4 = some 28 := by rw [f1.1]; exact ⟨p2, p4⟩
    simp only [↓zq, ↓reduceIte, zr_si2, zr_sr1, zr_cp2, zr_tl, zr_tn, shq, List.contains_nil, List.contains_cons, Nat.reduceBEq, Bool.false_or, Bool.or_false, Bool.true_or, Bool.false_eq_true, if_false, if_true, true_and, and_true, List.set_cons_zero, List.set_cons_succ, List.length_cons, List.length_nil, Nat.reduceAdd, Nat.reduceLeDiff, Nat.le_refl, Nat.zero_le, true_or, or_true, zn_cl, ↓jj_KS_summary, r]
    refine k_Form_readSummary (sp := sp) F.1 (by rw [f1.1]; exact hC.1.1) s1 hC.1.2.2.2.1.2 (fun k hk => by rw [f1.2 29 (by omega) (by omega)]; exact hC.1.2.2.2.1.1 k hk) (fun g2 f2 s2 r2 k2 => ?_)
    have f2 := f1.tr f2.q
    have r0 : g2.2 0 0 = some 1 := by rw [f2.1]; exact p0
    simp only [↓zq, ↓reduceIte, zr_si2, zr_sr1, zr_cp2, zr_tl, zr_tn, shq, List.contains_nil, List.contains_cons, Nat.reduceBEq, Bool.false_or, Bool.or_false, Bool.true_or, Bool.false_eq_true, if_false, if_true, true_and, and_true, List.set_cons_zero, List.set_cons_succ, List.length_cons, List.length_nil, Nat.reduceAdd, Nat.reduceLeDiff, Nat.le_refl, Nat.zero_le, true_or, or_true, zn_cl, ↓jj_KS_summary, r0]
    refine k_Tape_clear ?_
    have f3 := f2.s 1 0
    have z3 := zCC_rd (B' := B) hC f3 (by rw [zr_si1, if_pos ⟨rfl, rfl⟩])
    obtain ⟨g3, hg3⟩ : ∃ g3 : zm_M, g3 = zm_si g2 1 1 0 := ⟨_, rfl⟩
    rw [← hg3] at f3 z3 ⊢
    have r3 : zc_R g3.1 16 (f_yr B.2 n sp F.1 (.inr 0)) := by
      subst hg3
      refine zc_R_fr r2 ?_ ?_ <;> (funext j; rw [zr_si1, if_neg (by omega)])
    have k3 : g3.1 16 2 = nI (f_yr B.2 n sp F.1 (.inr 0) 6) := by subst hg3; rw [zr_si1, if_neg (by omega)]; exact k2
    obtain ⟨_, _, _, _, s5⟩ := s2
    have r0 : g3.2 0 0 = some 1 := (zC_p z3.1).1
    simp only [↓zq, ↓reduceIte, zr_si2, zr_sr1, zr_cp2, zr_tl, zr_tn, shq, List.contains_nil, List.contains_cons, Nat.reduceBEq, Bool.false_or, Bool.or_false, Bool.true_or, Bool.false_eq_true, if_false, if_true, true_and, and_true, List.set_cons_zero, List.set_cons_succ, List.length_cons, List.length_nil, Nat.reduceAdd, Nat.reduceLeDiff, Nat.le_refl, Nat.zero_le, true_or, or_true, zn_cl, ↓jj_KS_summary, r0]
    have i4 : g3.1 1 4 = g2.1 1 4 ∧ g3.1 1 5 = g2.1 1 5 := by subst hg3; exact ⟨by rw [zr_si1, if_neg (by omega)], by rw [zr_si1, if_neg (by omega)]⟩
    clear hg3
    generalize he : f_ye B.2 n sp (.inr 0) = e at s5
    match e, s5, he with
    | .inl y, s5, he =>
      obtain ⟨t4, t1, t6, t5, tn⟩ := s5
      have u4 : g3.1 1 4 = nI y.1 := i4.1.trans t4
      have u5 : g3.1 1 5 = nI y.2 := i4.2.trans t5
      rw [u4]
      refine ⟨fun z => absurd z (nI_ne0 (by omega) (by omega)), fun _ => ?_⟩
      refine k_Tape_faultAnswer u4 u5 ?_
      simp only [↓zq, ↓reduceIte, zr_si2, zr_sr1, zr_cp2, zr_tl, zr_tn, shq, List.contains_nil, List.contains_cons, Nat.reduceBEq, Bool.false_or, Bool.or_false, Bool.true_or, Bool.false_eq_true, if_false, if_true, true_and, and_true, List.set_cons_zero, List.set_cons_succ, List.length_cons, List.length_nil, Nat.reduceAdd, Nat.reduceLeDiff, Nat.le_refl, Nat.zero_le, true_or, or_true, zn_cl, ↓jj_KS_summary]
      have eD : D_summary F sp U B (nI n) = (t_an y, (0, B.2), U) := by
        unfold D_summary
        rw [eT]
        dsimp only
        rw [he]
      rw [eD] at hR
      exact hR _ f3.own z3
    | .inr p, s5, he =>
      obtain ⟨t3, tn, t4⟩ := s5
      have u4 : g3.1 1 4 = 0 := i4.1.trans t4
      have hrw := f_yr_w (u := F.1) he
      have eD : D_summary F sp U B (nI n) = if U.1 = 8 then (-3, (0, B.2), U) else (nI U.1, (0, B.2), zs_uadd U (f_yr B.2 n sp F.1 (.inr 0))) := by
        unfold D_summary
        rw [eT]
        dsimp only
        rw [he]
      generalize f_yr B.2 n sp F.1 (.inr 0) = row at *
      rw [eD] at hR
      rw [u4]
      refine ⟨fun _ => ?_, fun z => (by first | exact absurd trivial z | exact absurd rfl z | exact absurd z (by decide))⟩
      obtain ⟨v0, v1, v2⟩ := zp_13 z3.1.1
      have rr : g3.2 0 2 = some 13 ∧ g3.2 0 6 = some 36 := ⟨(zC_p z3.1).2.2.1, (zC_p z3.1).2.2.2.2.2.1⟩
      simp only [↓zq, ↓reduceIte, zr_si2, zr_sr1, zr_cp2, zr_tl, zr_tn, shq, List.contains_nil, List.contains_cons, Nat.reduceBEq, Bool.false_or, Bool.or_false, Bool.true_or, Bool.false_eq_true, if_false, if_true, true_and, and_true, List.set_cons_zero, List.set_cons_succ, List.length_cons, List.length_nil, Nat.reduceAdd, Nat.reduceLeDiff, Nat.le_refl, Nat.zero_le, true_or, or_true, zn_cl, ↓jj_KS_summary, rr]
      have kU := zk_shfC z3.1.1 z3.1.2.1
      refine k_Shelf_addOne (t := 36) (n := U.1) (ad := fun s => 38 + 4 * pi s) ⟨kU.1, kU.2.1, kU.2.2.1, kU.2.2.2, z3.1.2.2.2.2.1.1.1, u8⟩ (fun z8 => ?_) (fun z8 => ?_)
      · simp only [↓zq, ↓reduceIte, zr_si2, zr_sr1, zr_cp2, zr_tl, zr_tn, shq, List.contains_nil, List.contains_cons, Nat.reduceBEq, Bool.false_or, Bool.or_false, Bool.true_or, Bool.false_eq_true, if_false, if_true, true_and, and_true, List.set_cons_zero, List.set_cons_succ, List.length_cons, List.length_nil, Nat.reduceAdd, Nat.reduceLeDiff, Nat.le_refl, Nat.zero_le, true_or, or_true, zn_cl, ↓jj_KS_summary]
        rw [if_pos z8] at hR
        exact ⟨fun z => (by first | exact absurd trivial z | exact absurd rfl z | exact absurd z (by decide)), fun _ => hR _ f3.own z3⟩
      · rw [if_neg (by omega)] at hR
        have ps := pi8 U.1 z8
        have ks := zk_sums z3.1.1 ps
        have ks1 := ks.1
        have ks2 : (zm_si g3 36 1 (nI (U.1 + 1))).2 (38 + 4 * pi U.1) 0 = some (38 + 4 * pi U.1 + 1) := ks.2.1
        have ks2' : g3.2 (38 + 4 * pi U.1) 0 = some (38 + 4 * pi U.1 + 1) := ks.2.1
        have rr' : g3.2 0 2 = some 13 := rr.1
        have v2' : g3.2 13 2 = some 16 := v2
        simp only [↓zq, ↓reduceIte, zr_si2, zr_sr1, zr_cp2, zr_tl, zr_tn, shq, List.contains_nil, List.contains_cons, Nat.reduceBEq, Bool.false_or, Bool.or_false, Bool.true_or, Bool.false_eq_true, if_false, if_true, true_and, and_true, List.set_cons_zero, List.set_cons_succ, List.length_cons, List.length_nil, Nat.reduceAdd, Nat.reduceLeDiff, Nat.le_refl, Nat.zero_le, true_or, or_true, zn_cl, ↓jj_KS_summary, ks1, ks2', rr', v2']
        refine ⟨fun _ => ?_, fun z => absurd z (by simp)⟩
        refine ⟨ks.2.2.1, ?_⟩
        refine k_Cut_copyFrom (a := 38 + 4 * pi U.1 + 1) (b := 16) ks.2.2 (zk_cutF z3.1.1) (by omega) (fun g4 e1 e2 e3 e4 e5 => ?_)
        have j2 : g4.2 = g3.2 := e1
        have jI : ∀ c, c ≠ 36 → (c < 39 + 4 * pi U.1 ∨ 41 + 4 * pi U.1 < c) → g4.1 c = g3.1 c := fun c h1 h2 => by
          rw [e2 c (by omega)]
          funext j
          rw [zr_si1, if_neg (by omega)]
        have j36 : g4.1 36 1 = nI (U.1 + 1) := by rw [e2 36 (by omega), zr_si1, if_pos ⟨rfl, rfl⟩]
        have jr : zc_R g4.1 (38 + 4 * pi U.1 + 1) row := by
          obtain ⟨a0, a1, a2, a3, a4, a5⟩ := r3
          have m : ∀ k, k < 3 → g4.1 (38 + 4 * pi U.1 + 1 + 1) k = g3.1 17 k ∧ g4.1 (38 + 4 * pi U.1 + 1 + 2) k = g3.1 18 k := fun k hk => by
            obtain ⟨m1, m2⟩ := e3 k hk
            rw [m1, m2, zr_si1, if_neg (by omega), zr_si1, if_neg (by omega)]
            exact ⟨rfl, rfl⟩
          refine ⟨(m 0 (by decide)).1.trans a0, (m 1 (by decide)).1.trans a1, (m 2 (by decide)).1.trans a2, (m 0 (by decide)).2.trans a3, (m 1 (by decide)).2.trans a4, (m 2 (by decide)).2.trans a5⟩
        have jk : g4.1 (38 + 4 * pi U.1 + 1) 2 = nI (row 6) := by
          rw [e4, zr_si1, if_neg (by omega)]
          exact k3
        clear e1 e2 e3 e4 e5
        simp only [↓zq, ↓reduceIte, zr_si2, zr_sr1, zr_cp2, zr_tl, zr_tn, shq, List.contains_nil, List.contains_cons, Nat.reduceBEq, Bool.false_or, Bool.or_false, Bool.true_or, Bool.false_eq_true, if_false, if_true, true_and, and_true, List.set_cons_zero, List.set_cons_succ, List.length_cons, List.length_nil, Nat.reduceAdd, Nat.reduceLeDiff, Nat.le_refl, Nat.zero_le, true_or, or_true, zn_cl, ↓jj_KS_summary]
        have zF : zc_F g4.1 F := by
          unfold zc_F
          rw [jI 30 (by omega) (by omega), jI 31 (by omega) (by omega), jI 32 (by omega) (by omega)]
          exact z3.1.2.2.1.1
        have zS : zc_S g4.1 sp := by
          unfold zc_S
          rw [jI 29 (by omega) (by omega)]
          exact z3.1.2.2.2.1.1
        refine k_KS_makeAnew (row := row) (F := F) (sp := sp) (by rw [j2]; exact z3.1.1) (by rw [j2]; exact ks) (by omega) zF z3.1.2.2.1.2 zS z3.1.2.2.2.1.2 jr hrw.1 (fun g5 y2 yI y1 yg => ?_)
        have lI : ∀ c, c ≠ 36 → (c < 38 + 4 * pi U.1 ∨ 41 + 4 * pi U.1 < c) → (c < 73 ∨ 77 < c) → g5.1 c = g3.1 c := fun c h1 h2 h3 => (yI c (by omega) h3).trans (jI c h1 (by omega))
        have l36 : g5.1 36 1 = nI (U.1 + 1) := by rw [yI 36 (by omega) (by omega)]; exact j36
        have l2 : g5.2 = g3.2 := y2.trans j2
        have lr : zc_R g5.1 (38 + 4 * pi U.1 + 1) row := zc_R_fr jr (yI _ (by omega) (by omega)) (yI _ (by omega) (by omega))
        have lk : g5.1 (38 + 4 * pi U.1 + 1) 2 = nI (row 6) := by rw [yI _ (by omega) (by omega)]; exact jk
        have rr : g5.2 0 6 = some 36 := by rw [l2]; exact (zC_p z3.1).2.2.2.2.2.1
        simp only [↓zq, ↓reduceIte, zr_si2, zr_sr1, zr_cp2, zr_tl, zr_tn, shq, List.contains_nil, List.contains_cons, Nat.reduceBEq, Bool.false_or, Bool.or_false, Bool.true_or, Bool.false_eq_true, if_false, if_true, true_and, and_true, List.set_cons_zero, List.set_cons_succ, List.length_cons, List.length_nil, Nat.reduceAdd, Nat.reduceLeDiff, Nat.le_refl, Nat.zero_le, true_or, or_true, zn_cl, ↓jj_KS_summary, rr, l36, nI_pred]
        obtain ⟨c1, c2, ⟨c3, c3w⟩, ⟨c4, c5, c5w⟩, ⟨c6, c6w⟩, c7, c7w⟩ := id z3
        have zC5 : zC g5 pi F sp (zs_uadd U row) Q := by
          refine ⟨by rw [l2]; exact c1.1, by rw [l2]; exact c1.2.1, ⟨?_, c1.2.2.1.2⟩, ⟨?_, c1.2.2.2.1.2⟩, ⟨⟨l36, fun s hs => ?_⟩, zw_U_add c1.2.2.2.2.1.2 z8 ⟨hrw.1, hrw.2.1, hrw.2.2.1, Nat.le_of_eq hrw.2.2.2⟩⟩, ⟨?_, fun hq => ?_⟩, c1.2.2.2.2.2.2⟩
          · unfold zc_F
            rw [lI 30 (by omega) (by omega) (by omega), lI 31 (by omega) (by omega) (by omega), lI 32 (by omega) (by omega) (by omega)]
            exact c1.2.2.1.1
          · unfold zc_S
            rw [lI 29 (by omega) (by omega) (by omega)]
            exact c1.2.2.2.1.1
          · have hs' : s < U.1 + 1 := hs
            by_cases z : s = U.1
            · subst z
              have er : (zs_uadd U row).2 U.1 = row := by funext k; exact if_pos rfl
              rw [er]
              refine ⟨lr, lk, ?_, ?_⟩
              · rw [hrw.2.2.2]; exact y1
              · rw [hrw.2.2.2]; exact yg
            · have er : (zs_uadd U row).2 s = U.2 s := by funext k; exact if_neg z
              rw [er]
              have pr := pi8 s (by omega)
              have ne : pi s ≠ pi U.1 := fun q => z (hC.1.2.1.2 s U.1 (by omega) (by omega) q)
              have hY := c1.2.2.2.2.1.1.2 s (by omega)
              dsimp only at hY ⊢
              unfold zc_Y zc_R at hY ⊢
              rw [lI _ (by omega) (by omega) (by omega), lI _ (by omega) (by omega) (by omega), lI _ (by omega) (by omega) (by omega), lI _ (by omega) (by omega) (by omega)]
              exact hY
          · rw [lI 0 (by omega) (by omega) (by omega)]
            exact c1.2.2.2.2.2.1.1
          · obtain ⟨o1, o2⟩ := c1.2.2.2.2.2.1.2 hq
            refine ⟨zc_R_fr o1 (lI _ (by omega) (by omega) (by omega)) (lI _ (by omega) (by omega) (by omega)), ?_⟩
            rw [lI 70 (by omega) (by omega) (by omega)]
            exact o2
        refine hR g5 (f3.own.tr (fun a ha => ⟨lI a (by omega) (by omega) (by omega), by rw [l2]⟩)) ?_
        exact zCC_up z3 zC5 ⟨by rw [l2], by rw [l2]⟩ (fun q hq => lI q (by omega) (by omega) (by omega)) (by rw [lI w (by omega) (by omega) (by omega)]) (by rw [lI 1 (by omega) (by omega) (by omega)]) (fun k hk => by rw [lI 0 (by omega) (by omega) (by omega)]) (by rw [lI 0 (by omega) (by omega) (by omega)]; exact c6) c6w (fun f hf => rfl) (Nat.le_refl _)
  · simp only [↓zq, ↓reduceIte, zr_si2, zr_sr1, zr_cp2, zr_tl, zr_tn, shq, List.contains_nil, List.contains_cons, Nat.reduceBEq, Bool.false_or, Bool.or_false, Bool.true_or, Bool.false_eq_true, if_false, if_true, true_and, and_true, List.set_cons_zero, List.set_cons_succ, List.length_cons, List.length_nil, Nat.reduceAdd, Nat.reduceLeDiff, Nat.le_refl, Nat.zero_le, true_or, or_true, zn_cl, ↓jj_KS_summary]
    refine ⟨fun z => (by first | exact absurd trivial z | exact absurd rfl z | exact absurd z (by decide)), fun _ => ?_⟩
    have eD : D_summary F sp U B v = (-1, B, U) := by
      unfold D_summary
      rw [zs_tx_no (by decide) no]
    rw [eD] at hR
    exact hR h (zc_own.rf h) hC
def D_question (F : zs_F) (sp : Nat → Nat) (Q : zs_Q) (B : zs_B) (v : Int32) : Int32 × zs_B × zs_Q := match zs_tx B v 80 with
  | none => (-1, B, Q)
  | some n => match f_qe B.2 n sp (.inr 0) with
    | .inl x => (t_an x, (0, B.2), Q)
    | .inr _ => (nI (zs_some (fun k => (zs_tabF sp F (f_qr B.2 n sp (.inr 0)) k).1) 512), (0, B.2), (true, f_qr B.2 n sp (.inr 0)))
set_option maxHeartbeats 4000000 in
set_option maxRecDepth 100000 in
theorem k_KS_question {d : Nat} {h : zm_M} {R : zm_R} {pi : Nat → Nat} {w : Nat} {F : zs_F} {sp : Nat → Nat} {U : zs_U} {Q : zs_Q} {B : zs_B} {L : zs_L} {x : Nat} {K : zs_K} {v : Int32} (hC : zCC h pi w F sp U Q B L x K) (hR : ∀ h' : zm_M, zc_own h h' → zCC h' pi w F sp U (D_question F sp Q B v).2.2 (D_question F sp Q B v).2.1 L x K → R (some (.inl (D_question F sp Q B v).1)) h') : zm_C (d + 7) TT m_KS_question [.inr (some 0), .inl v] h R := by
  obtain ⟨p0, p1, p2, p4, p5, p6, p7, p9, p10, p11, p12, p14⟩ := zC_p hC.1
  have p10' : h.2 1 0 = some 2 := by have := hC.1.1; simp only [this]
  obtain ⟨q0, q1, q2⟩ := zp_13 hC.1.1
  obtain ⟨hw, pw⟩ := zc_W_or hC.2.2.2.1.1
  obtain ⟨hB, hBw⟩ := hC.2.2.1
  have b1 := hB.1
  have b260 := hBw.1
  have u8 := hC.1.2.2.2.2.1.2.1
  have pi8 : ∀ s, s < 8 → pi s < 8 := fun s hs => (hC.1.2.1.1 s hs).2
  refine st_KS_question [] 30 ?_
  simp only [↓zq, ↓reduceIte, zr_si2, zr_sr1, zr_cp2, zr_tl, zr_tn, shq, List.contains_nil, List.contains_cons, Nat.reduceBEq, Bool.false_or, Bool.or_false, Bool.true_or, Bool.false_eq_true, if_false, if_true, true_and, and_true, List.set_cons_zero, List.set_cons_succ, List.length_cons, List.length_nil, Nat.reduceAdd, Nat.reduceLeDiff, Nat.le_refl, Nat.zero_le, true_or, or_true, zn_cl, ↓jj_KS_question, p0]
  refine k_Tape_has (lo := 1) (hi := 80) (b := B.1) (by decide) (by decide) (by omega) b1 (fun n n0 n1 n2 en => ?_) (fun no => ?_)
  · subst en
    have eT := zs_tx_of n0 n1 n2 (by decide)
    simp only [↓zq, ↓reduceIte, zr_si2, zr_sr1, zr_cp2, zr_tl, zr_tn, shq, List.contains_nil, List.contains_cons, Nat.reduceBEq, Bool.false_or, Bool.or_false, Bool.true_or, Bool.false_eq_true, if_false, if_true, true_and, and_true, List.set_cons_zero, List.set_cons_succ, List.length_cons, List.length_nil, Nat.reduceAdd, Nat.reduceLeDiff, Nat.le_refl, Nat.zero_le, true_or, or_true, zn_cl, ↓jj_KS_question, p0]
    refine ⟨fun _ => ?_, fun z => absurd z (by decide)⟩
    refine k_Tape_begin p10' hB hBw n2 (by omega) (fun g1 f1 s1 => ?_)
    have r : g1.2 0 2 = some 13 ∧ g1.2 0 4 = some 28 := by rw [f1.1]; exact ⟨p2, p4⟩
    simp only [↓zq, ↓reduceIte, zr_si2, zr_sr1, zr_cp2, zr_tl, zr_tn, shq, List.contains_nil, List.contains_cons, Nat.reduceBEq, Bool.false_or, Bool.or_false, Bool.true_or, Bool.false_eq_true, if_false, if_true, true_and, and_true, List.set_cons_zero, List.set_cons_succ, List.length_cons, List.length_nil, Nat.reduceAdd, Nat.reduceLeDiff, Nat.le_refl, Nat.zero_le, true_or, or_true, zn_cl, ↓jj_KS_question, r]
    refine k_Form_readQuestion (sp := sp) (by rw [f1.1]; exact hC.1.1) s1 hC.1.2.2.2.1.2 (fun k hk => by rw [f1.2 29 (by omega) (by omega)]; exact hC.1.2.2.2.1.1 k hk) (fun g2 f2 s2 r2 k2 => ?_)
    have f2 := f1.tr f2.q
    have r0 : g2.2 0 0 = some 1 := by rw [f2.1]; exact p0
    simp only [↓zq, ↓reduceIte, zr_si2, zr_sr1, zr_cp2, zr_tl, zr_tn, shq, List.contains_nil, List.contains_cons, Nat.reduceBEq, Bool.false_or, Bool.or_false, Bool.true_or, Bool.false_eq_true, if_false, if_true, true_and, and_true, List.set_cons_zero, List.set_cons_succ, List.length_cons, List.length_nil, Nat.reduceAdd, Nat.reduceLeDiff, Nat.le_refl, Nat.zero_le, true_or, or_true, zn_cl, ↓jj_KS_question, r0]
    refine k_Tape_clear ?_
    have f3 := f2.s 1 0
    have z3 := zCC_rd (B' := B) hC f3 (by rw [zr_si1, if_pos ⟨rfl, rfl⟩])
    obtain ⟨g3, hg3⟩ : ∃ g3 : zm_M, g3 = zm_si g2 1 1 0 := ⟨_, rfl⟩
    rw [← hg3] at f3 z3 ⊢
    have r3 : zc_R g3.1 16 (f_qr B.2 n sp (.inr 0)) := by
      subst hg3
      refine zc_R_fr r2 ?_ ?_ <;> (funext j; rw [zr_si1, if_neg (by omega)])
    have k3 : g3.1 16 3 = zt_w (f_w (t_c B.2 n (.inr 0))) := by subst hg3; rw [zr_si1, if_neg (by omega)]; exact k2
    obtain ⟨_, _, _, _, s5⟩ := s2
    have r0 : g3.2 0 0 = some 1 := (zC_p z3.1).1
    simp only [↓zq, ↓reduceIte, zr_si2, zr_sr1, zr_cp2, zr_tl, zr_tn, shq, List.contains_nil, List.contains_cons, Nat.reduceBEq, Bool.false_or, Bool.or_false, Bool.true_or, Bool.false_eq_true, if_false, if_true, true_and, and_true, List.set_cons_zero, List.set_cons_succ, List.length_cons, List.length_nil, Nat.reduceAdd, Nat.reduceLeDiff, Nat.le_refl, Nat.zero_le, true_or, or_true, zn_cl, ↓jj_KS_question, r0]
    have i4 : g3.1 1 4 = g2.1 1 4 ∧ g3.1 1 5 = g2.1 1 5 := by subst hg3; exact ⟨by rw [zr_si1, if_neg (by omega)], by rw [zr_si1, if_neg (by omega)]⟩
    clear hg3
    generalize he : f_qe B.2 n sp (.inr 0) = e at s5
    match e, s5, he with
    | .inl y, s5, he =>
      obtain ⟨t4, t1, t6, t5, tn⟩ := s5
      have u4 : g3.1 1 4 = nI y.1 := i4.1.trans t4
      have u5 : g3.1 1 5 = nI y.2 := i4.2.trans t5
      rw [u4]
      refine ⟨fun z => absurd z (nI_ne0 (by omega) (by omega)), fun _ => ?_⟩
      refine k_Tape_faultAnswer u4 u5 ?_
      simp only [↓zq, ↓reduceIte, zr_si2, zr_sr1, zr_cp2, zr_tl, zr_tn, shq, List.contains_nil, List.contains_cons, Nat.reduceBEq, Bool.false_or, Bool.or_false, Bool.true_or, Bool.false_eq_true, if_false, if_true, true_and, and_true, List.set_cons_zero, List.set_cons_succ, List.length_cons, List.length_nil, Nat.reduceAdd, Nat.reduceLeDiff, Nat.le_refl, Nat.zero_le, true_or, or_true, zn_cl, ↓jj_KS_question]
      have eD : D_question F sp Q B (nI n) = (t_an y, (0, B.2), Q) := by
        unfold D_question
        rw [eT]
        dsimp only
        rw [he]
      rw [eD] at hR
      exact hR _ f3.own z3
    | .inr p, s5, he =>
      obtain ⟨t3, tn, t4⟩ := s5
      have u4 : g3.1 1 4 = 0 := i4.1.trans t4
      have hrw := f_qr_w he
      have k3' : g3.1 16 3 = nI (f_qr B.2 n sp (.inr 0) 6) := by
        rw [k3]
        have h6 : f_w (t_c B.2 n (.inr 0)) ≤ 6 := hrw.2
        exact if_neg (by omega)
      have eD : D_question F sp Q B (nI n) = (nI (zs_some (fun k => (zs_tabF sp F (f_qr B.2 n sp (.inr 0)) k).1) 512), (0, B.2), (true, f_qr B.2 n sp (.inr 0))) := by
        unfold D_question
        rw [eT]
        dsimp only
        rw [he]
      clear k3
      generalize f_qr B.2 n sp (.inr 0) = row at *
      rw [eD] at hR
      dsimp only at hR
      rw [u4]
      refine ⟨fun _ => ?_, fun z => (by first | exact absurd trivial z | exact absurd rfl z | exact absurd z (by decide))⟩
      obtain ⟨v0, v1, v2⟩ := zp_13 z3.1.1
      have rr : g3.2 0 2 = some 13 ∧ g3.2 0 7 = some 70 := ⟨(zC_p z3.1).2.2.1, (zC_p z3.1).2.2.2.2.2.2.1⟩
      simp only [↓zq, ↓reduceIte, zr_si2, zr_sr1, zr_cp2, zr_tl, zr_tn, shq, List.contains_nil, List.contains_cons, Nat.reduceBEq, Bool.false_or, Bool.or_false, Bool.true_or, Bool.false_eq_true, if_false, if_true, true_and, and_true, List.set_cons_zero, List.set_cons_succ, List.length_cons, List.length_nil, Nat.reduceAdd, Nat.reduceLeDiff, Nat.le_refl, Nat.zero_le, true_or, or_true, zn_cl, ↓jj_KS_question, rr, v2]
      refine k_Cut_copyFrom (a := 70) (b := 16) (zk_cutQ z3.1.1) (zk_cutF z3.1.1) (by omega) (fun g4 e1 e2 e3 e4 e5 => ?_)
      simp only [↓zq, ↓reduceIte, zr_si2, zr_sr1, zr_cp2, zr_tl, zr_tn, shq, List.contains_nil, List.contains_cons, Nat.reduceBEq, Bool.false_or, Bool.or_false, Bool.true_or, Bool.false_eq_true, if_false, if_true, true_and, and_true, List.set_cons_zero, List.set_cons_succ, List.length_cons, List.length_nil, Nat.reduceAdd, Nat.reduceLeDiff, Nat.le_refl, Nat.zero_le, true_or, or_true, zn_cl, ↓jj_KS_question]
      obtain ⟨g5, hg5⟩ : ∃ g5 : zm_M, g5 = zm_si g4 0 8 1 := ⟨_, rfl⟩
      rw [← hg5]
      have l2 : g5.2 = g3.2 := by subst hg5; exact e1
      have lI : ∀ c, c ≠ 0 → (c < 70 ∨ 72 < c) → g5.1 c = g3.1 c := fun c h1 h2 => by
        subst hg5
        rw [← e2 c h2]
        funext j
        rw [zr_si1, if_neg (fun z => h1 z.1)]
      have l0 : ∀ k, k ≠ 8 → g5.1 0 k = g3.1 0 k := fun k hk => by
        subst hg5
        rw [zr_si1, if_neg (fun z => hk z.2), e2 0 (by omega)]
      have l8 : g5.1 0 8 = 1 := by subst hg5; rw [zr_si1, if_pos ⟨rfl, rfl⟩]
      have lr : zc_R g5.1 70 row := by
        obtain ⟨a0, a1, a2, a3, a4, a5⟩ := r3
        have m : ∀ k, k < 3 → g5.1 (70 + 1) k = g3.1 17 k ∧ g5.1 (70 + 2) k = g3.1 18 k := fun k hk => by
          subst hg5
          obtain ⟨m1, m2⟩ := e3 k hk
          rw [zr_si1, if_neg (by omega), zr_si1, if_neg (by omega), m1, m2]
          exact ⟨rfl, rfl⟩
        exact ⟨(m 0 (by decide)).1.trans a0, (m 1 (by decide)).1.trans a1, (m 2 (by decide)).1.trans a2, (m 0 (by decide)).2.trans a3, (m 1 (by decide)).2.trans a4, (m 2 (by decide)).2.trans a5⟩
      have lw : g5.1 70 3 = nI (row 6) := by
        subst hg5
        rw [zr_si1, if_neg (by omega), e5]
        exact k3'
      clear hg5 e1 e2 e3 e4 e5
      obtain ⟨c1, c2, ⟨c3, c3w⟩, ⟨c4, c5, c5w⟩, ⟨c6, c6w⟩, c7, c7w⟩ := id z3
      have zC5 : zC g5 pi F sp U (true, row) := by
        refine ⟨by rw [l2]; exact c1.1, by rw [l2]; exact c1.2.1, ⟨?_, c1.2.2.1.2⟩, ⟨?_, c1.2.2.2.1.2⟩, ⟨⟨?_, fun s hs => ?_⟩, c1.2.2.2.2.1.2⟩, ⟨l8, fun _ => ⟨lr, lw⟩⟩, fun _ => hrw⟩
        · unfold zc_F
          rw [lI 30 (by omega) (by omega), lI 31 (by omega) (by omega), lI 32 (by omega) (by omega)]
          exact c1.2.2.1.1
        · unfold zc_S
          rw [lI 29 (by omega) (by omega)]
          exact c1.2.2.2.1.1
        · rw [lI 36 (by omega) (by omega)]
          exact c1.2.2.2.2.1.1.1
        · have pr := pi8 s (by omega)
          have hY := c1.2.2.2.2.1.1.2 s hs
          dsimp only at hY ⊢
          unfold zc_Y zc_R at hY ⊢
          rw [lI _ (by omega) (by omega), lI _ (by omega) (by omega), lI _ (by omega) (by omega), lI _ (by omega) (by omega)]
          exact hY
      have z5 := zCC_up z3 zC5 ⟨by rw [l2], by rw [l2]⟩ (fun q hq => lI q (by omega) (by omega)) (by rw [lI w (by omega) (by omega)]) (by rw [lI 1 (by omega) (by omega)]) (fun k hk => l0 k (by omega)) (by rw [l0 13 (by omega)]; exact c6) c6w (fun f hf => rfl) (Nat.le_refl _)
      refine k_KS_tallyAnswerF zC5 rfl (fun g6 f6 i6 a6 => ?_)
      have sz : g6.1 79 5 = nI (zs_some (fun k => (zs_tabF sp F row k).1) 512) := a6.1.2
      simp only [↓zq, ↓reduceIte, zr_si2, zr_sr1, zr_cp2, zr_tl, zr_tn, shq, List.contains_nil, List.contains_cons, Nat.reduceBEq, Bool.false_or, Bool.or_false, Bool.true_or, Bool.false_eq_true, if_false, if_true, true_and, and_true, List.set_cons_zero, List.set_cons_succ, List.length_cons, List.length_nil, Nat.reduceAdd, Nat.reduceLeDiff, Nat.le_refl, Nat.zero_le, true_or, or_true, zn_cl, ↓jj_KS_question, sz]
      exact hR g6 ((f3.own.tr (fun a ha => ⟨lI a (by omega) (by omega), by rw [l2]⟩)).tr f6.own) (zCC_fr f6 z5)
  · simp only [↓zq, ↓reduceIte, zr_si2, zr_sr1, zr_cp2, zr_tl, zr_tn, shq, List.contains_nil, List.contains_cons, Nat.reduceBEq, Bool.false_or, Bool.or_false, Bool.true_or, Bool.false_eq_true, if_false, if_true, true_and, and_true, List.set_cons_zero, List.set_cons_succ, List.length_cons, List.length_nil, Nat.reduceAdd, Nat.reduceLeDiff, Nat.le_refl, Nat.zero_le, true_or, or_true, zn_cl, ↓jj_KS_question]
    refine ⟨fun z => (by first | exact absurd trivial z | exact absurd rfl z | exact absurd z (by decide)), fun _ => ?_⟩
    have eD : D_question F sp Q B v = (-1, B, Q) := by
      unfold D_question
      rw [zs_tx_no (by decide) no]
    rw [eD] at hR
    exact hR h (zc_own.rf h) hC
