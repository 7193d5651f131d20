theorem zl_o2_op {c : Nat} (hc : c = 42 ∨ c = 47 ∨ c = 37 ∨ c = 43 ∨ c = 45 ∨ c = 60 ∨ c = 62 ∨ c = 61) : zl_o2 (some (l_op c)) = zt_v c ∧ l_op c < 13 := by
  rcases hc with rfl | rfl | rfl | rfl | rfl | rfl | rfl | rfl <;> exact ⟨rfl, by decide⟩
set_option maxHeartbeats 4000000 in
set_option maxRecDepth 100000 in
theorem k_LawR_readSumL {d : Nat} {h : zm_M} {R : zm_R} {T : Nat → Nat} {n w : Nat} {s : zl_s} {y : Int32} (fac : zl_s → zl_s) (hg : zg h.2 w) (hs : zq_s h T n w s) (hfac : ∀ (h1 : zm_M) (s1 : zl_s) (K : zm_R), zg h1.2 w → zq_s h1 T n w s1 → (∀ h' : zm_M, zw_f w h1 h' → zq_s h' T n w (fac s1) → K none h') → zm_C (d + 4) TT m_LawR_readFactor [.inr (some 3), .inl y] h1 K) (hR : ∀ h' : zm_M, zw_f w h h' → zq_s h' T n w (p_suml T n fac 240 none none s) → R none h') : zm_C (d + 5) TT m_LawR_readSum [.inr (some 3), .inl y] h R := by
  have hw := hg.2.2.2
  have loop : ∀ (f i : Nat) (g : zm_M) (ts fs : Option Nat) (s' : zl_s) (l5 l6 : Option zm_V), i + f = 240 → zw_f w h g → zq_s g T n w s' → (∀ j, ts = some j → j < 13) → (∀ j, fs = some j → j < 13) → p_suml T n fac 240 none none s = p_suml T n fac f ts fs s' → zm_W (zm_md m_LawR_readSum) (d + 5) TT R 7 [some (.inr (some 3)), some (.inl y), some (.inl (zl_o2 ts)), some (.inl (zl_o2 fs)), some (.inl (nI i)), l5, l6] [] g := by
    intro f
    induction f with
    | zero =>
      intro i g ts fs s' l5 l6 hi hf hs' h1 h2 he
      have : i = 240 := by omega
      subst this
      rw [he] at hR
      refine zm_go g_LawR_readSum [7, 60] 30 (by decide +kernel) ok_LawR_readSum _ rfl ?_
      simp only [↓zq, ↓reduceIte, zr_si2, zr_sr1, zr_cp2, zr_tl, zr_tn, shq, List.contains_nil, List.contains_cons, Nat.reduceBEq, Bool.false_or, Bool.or_false, Bool.true_or, Bool.false_eq_true, if_false, if_true, true_and, and_true, List.set_cons_zero, List.set_cons_succ, List.length_cons, List.length_nil, Nat.reduceAdd, Nat.reduceLeDiff, Nat.le_refl, Nat.zero_le, true_or, or_true, zn_cl, ↓jj_LawR_readSum]
      exact ⟨fun _ => hR g hf hs', fun z => absurd (by decide) z⟩
    | succ f ih =>
      intro i g ts fs s' l5 l6 hi hf hs' h1 h2 he
      rw [p_suml_s T n fac f ts fs s'] at he
      refine zm_go g_LawR_readSum [7, 60] 30 (by decide +kernel) ok_LawR_readSum _ rfl ?_
      simp only [↓zq, ↓reduceIte, zr_si2, zr_sr1, zr_cp2, zr_tl, zr_tn, shq, List.contains_nil, List.contains_cons, Nat.reduceBEq, Bool.false_or, Bool.or_false, Bool.true_or, Bool.false_eq_true, if_false, if_true, true_and, and_true, List.set_cons_zero, List.set_cons_succ, List.length_cons, List.length_nil, Nat.reduceAdd, Nat.reduceLeDiff, Nat.le_refl, Nat.zero_le, true_or, or_true, zn_cl, ↓jj_LawR_readSum]
      refine ⟨fun z => absurd z (nI_ge (b := 240) (by omega) (by decide)), fun _ => ?_⟩
      refine hfac g s' _ (zg_of hf.1 hg) hs' (fun g2 f2 s2 => ?_)
      have f2 := hf.tr f2
      generalize fac s' = r at *
      simp only [↓zq, ↓reduceIte, zr_si2, zr_sr1, zr_cp2, zr_tl, zr_tn, shq, List.contains_nil, List.contains_cons, Nat.reduceBEq, Bool.false_or, Bool.or_false, Bool.true_or, Bool.false_eq_true, if_false, if_true, true_and, and_true, List.set_cons_zero, List.set_cons_succ, List.length_cons, List.length_nil, Nat.reduceAdd, Nat.reduceLeDiff, Nat.le_refl, Nat.zero_le, true_or, or_true, zn_cl, ↓jj_LawR_readSum]
      refine k_LawR_addWaiting (zg_of f2.1 hg) s2 h2 (fun g3 f3 s3 => ?_)
      have f3 := f2.tr f3
      have g0 : g3.2 3 0 = some 1 := by rw [f3.1]; exact hg.1
      simp only [↓zq, ↓reduceIte, zr_si2, zr_sr1, zr_cp2, zr_tl, zr_tn, shq, List.contains_nil, List.contains_cons, Nat.reduceBEq, Bool.false_or, Bool.or_false, Bool.true_or, Bool.false_eq_true, if_false, if_true, true_and, and_true, List.set_cons_zero, List.set_cons_succ, List.length_cons, List.length_nil, Nat.reduceAdd, Nat.reduceLeDiff, Nat.le_refl, Nat.zero_le, true_or, or_true, zn_cl, ↓jj_LawR_readSum, g0]
      refine k_Tape_peek s3.1 ?_
      have cl : t_c T n r.1 ≤ 256 := s3.1.c_le
      have e42 : (zt_v (t_c T n r.1) = 42) = (t_c T n r.1 = 42) := zt_v_eq (k := 42) cl (by decide)
      have e47 : (zt_v (t_c T n r.1) = 47) = (t_c T n r.1 = 47) := zt_v_eq (k := 47) cl (by decide)
      have e37 : (zt_v (t_c T n r.1) = 37) = (t_c T n r.1 = 37) := zt_v_eq (k := 37) cl (by decide)
      have e43 : (zt_v (t_c T n r.1) = 43) = (t_c T n r.1 = 43) := zt_v_eq (k := 43) cl (by decide)
      have e45 : (zt_v (t_c T n r.1) = 45) = (t_c T n r.1 = 45) := zt_v_eq (k := 45) cl (by decide)
      by_cases hm : t_c T n r.1 = 42 ∨ t_c T n r.1 = 47 ∨ t_c T n r.1 = 37
      · rw [if_pos hm] at he
        obtain ⟨o1, o2⟩ := zl_o2_op (c := t_c T n r.1) (by omega)
        have at60 : zm_W (zm_md m_LawR_readSum) (d + 5) TT R 60 [some (.inr (some 3)), some (.inl y), some (.inl (zl_o2 ts)), some (.inl (zl_o2 fs)), some (.inl (nI i)), some (.inl (zt_v (t_c T n r.1))), l6] [.inl 1] g3 := by
          refine zm_go g_LawR_readSum [7, 60] 30 (by decide +kernel) ok_LawR_readSum _ rfl ?_
          simp only [↓zq, ↓reduceIte, zr_si2, zr_sr1, zr_cp2, zr_tl, zr_tn, shq, List.contains_nil, List.contains_cons, Nat.reduceBEq, Bool.false_or, Bool.or_false, Bool.true_or, Bool.false_eq_true, if_false, if_true, true_and, and_true, List.set_cons_zero, List.set_cons_succ, List.length_cons, List.length_nil, Nat.reduceAdd, Nat.reduceLeDiff, Nat.le_refl, Nat.zero_le, true_or, or_true, zn_cl, ↓jj_LawR_readSum, g0, nI_1]
          refine ⟨fun z => absurd z (by decide), fun _ => ⟨fun _ => ?_, fun z => absurd z (by decide)⟩⟩
          refine k_Tape_step s3.1 (t_c_lt (T := T) (by show t_c T n r.1 ≠ 256; omega)) (fun g4 f4 s4 => ?_)
          simp only [↓zq, ↓reduceIte, zr_si2, zr_sr1, zr_cp2, zr_tl, zr_tn, shq, List.contains_nil, List.contains_cons, Nat.reduceBEq, Bool.false_or, Bool.or_false, Bool.true_or, Bool.false_eq_true, if_false, if_true, true_and, and_true, List.set_cons_zero, List.set_cons_succ, List.length_cons, List.length_nil, Nat.reduceAdd, Nat.reduceLeDiff, Nat.le_refl, Nat.zero_le, true_or, or_true, zn_cl, ↓jj_LawR_readSum, nI_1]
          rw [← o1]
          exact ih (i + 1) g4 ts _ (t_st r.1, lc_wait fs r.2) _ _ (by omega) (f3.tr (f4.w hw)) ⟨s4, zq_c_t hw f4 s3.2⟩ h1 (fun j hj => by cases hj; exact o2) he
        simp only [↓zq, ↓reduceIte, zr_si2, zr_sr1, zr_cp2, zr_tl, zr_tn, shq, List.contains_nil, List.contains_cons, Nat.reduceBEq, Bool.false_or, Bool.or_false, Bool.true_or, Bool.false_eq_true, if_false, if_true, true_and, and_true, List.set_cons_zero, List.set_cons_succ, List.length_cons, List.length_nil, Nat.reduceAdd, Nat.reduceLeDiff, Nat.le_refl, Nat.zero_le, true_or, or_true, zn_cl, ↓jj_LawR_readSum, g0, e42, e47, e37]
        refine ⟨fun _ => at60, fun z1 => ⟨fun _ => at60, fun z2 => ⟨fun z3 => ?_, fun _ => at60⟩⟩⟩
        omega
      · rw [if_neg hm] at he
        have at60 : zm_W (zm_md m_LawR_readSum) (d + 5) TT R 60 [some (.inr (some 3)), some (.inl y), some (.inl (zl_o2 ts)), some (.inl (zl_o2 fs)), some (.inl (nI i)), some (.inl (zt_v (t_c T n r.1))), l6] [.inl 0] g3 := by
          refine zm_go g_LawR_readSum [7, 60] 30 (by decide +kernel) ok_LawR_readSum _ rfl ?_
          simp only [↓zq, ↓reduceIte, zr_si2, zr_sr1, zr_cp2, zr_tl, zr_tn, shq, List.contains_nil, List.contains_cons, Nat.reduceBEq, Bool.false_or, Bool.or_false, Bool.true_or, Bool.false_eq_true, if_false, if_true, true_and, and_true, List.set_cons_zero, List.set_cons_succ, List.length_cons, List.length_nil, Nat.reduceAdd, Nat.reduceLeDiff, Nat.le_refl, Nat.zero_le, true_or, or_true, zn_cl, ↓jj_LawR_readSum, g0, nI_1]
          refine ⟨fun _ => ⟨fun z => (by first | exact absurd trivial z | exact absurd rfl z | exact absurd z (by decide)), fun _ => ?_⟩, fun z => (by first | exact absurd trivial z | exact absurd rfl z | exact absurd z (by decide))⟩
          refine k_LawR_addWaiting (zg_of f3.1 hg) s3 h1 (fun g4 f4 s4 => ?_)
          have f4 := f3.tr f4
          have g0 : g4.2 3 0 = some 1 := by rw [f4.1]; exact hg.1
          simp only [↓zq, ↓reduceIte, zr_si2, zr_sr1, zr_cp2, zr_tl, zr_tn, shq, List.contains_nil, List.contains_cons, Nat.reduceBEq, Bool.false_or, Bool.or_false, Bool.true_or, Bool.false_eq_true, if_false, if_true, true_and, and_true, List.set_cons_zero, List.set_cons_succ, List.length_cons, List.length_nil, Nat.reduceAdd, Nat.reduceLeDiff, Nat.le_refl, Nat.zero_le, true_or, or_true, zn_cl, ↓jj_LawR_readSum, g0, e43, e45]
          by_cases ha : t_c T n r.1 = 43 ∨ t_c T n r.1 = 45
          · rw [if_pos ha] at he
            obtain ⟨o1, o2⟩ := zl_o2_op (c := t_c T n r.1) (by omega)
            have stp : ∀ K : zm_R, (∀ g5 : zm_M, zm_W (zm_md m_LawR_readSum) (d + 5) TT R 7 [some (.inr (some 3)), some (.inl y), some (.inl (zt_v (t_c T n r.1))), some (.inl (-1)), some (.inl (nI (i + 1))), some (.inl (zt_v (t_c T n r.1))), some (.inl 0)] [] g5 → K none g5) → zm_C (d + 4) TT m_Tape_step [.inr (some 1)] g4 K := fun K hK => by
              refine k_Tape_step s4.1 (t_c_lt (T := T) (by show t_c T n r.1 ≠ 256; omega)) (fun g5 f5 s5 => hK g5 ?_)
              rw [← o1, show (-1 : Int32) = zl_o2 none from rfl]
              exact ih (i + 1) g5 _ none (t_st r.1, lc_wait ts (lc_wait fs r.2)) _ _ (by omega) (f4.tr (f5.w hw)) ⟨s5, zq_c_t hw f5 s4.2⟩ (fun j hj => by cases hj; exact o2) (fun j hj => by cases hj) he
            refine ⟨fun _ => stp _ (fun g5 h5 => ?_), fun _ => ⟨fun _ => stp _ (fun g5 h5 => ?_), fun z => ?_⟩⟩
            · simp only [↓zq, ↓reduceIte, zr_si2, zr_sr1, zr_cp2, zr_tl, zr_tn, shq, List.contains_nil, List.contains_cons, Nat.reduceBEq, Bool.false_or, Bool.or_false, Bool.true_or, Bool.false_eq_true, if_false, if_true, true_and, and_true, List.set_cons_zero, List.set_cons_succ, List.length_cons, List.length_nil, Nat.reduceAdd, Nat.reduceLeDiff, Nat.le_refl, Nat.zero_le, true_or, or_true, zn_cl, ↓jj_LawR_readSum, nI_1]
              exact h5
            · simp only [↓zq, ↓reduceIte, zr_si2, zr_sr1, zr_cp2, zr_tl, zr_tn, shq, List.contains_nil, List.contains_cons, Nat.reduceBEq, Bool.false_or, Bool.or_false, Bool.true_or, Bool.false_eq_true, if_false, if_true, true_and, and_true, List.set_cons_zero, List.set_cons_succ, List.length_cons, List.length_nil, Nat.reduceAdd, Nat.reduceLeDiff, Nat.le_refl, Nat.zero_le, true_or, or_true, zn_cl, ↓jj_LawR_readSum, nI_1]
              exact h5
            · omega
          · rw [if_neg ha] at he
            rw [he] at hR
            have hr := hR g4 f4 s4
            refine ⟨fun z => ?_, fun _ => ⟨fun z => ?_, fun _ => hr⟩⟩
            · omega
            · omega
        simp only [↓zq, ↓reduceIte, zr_si2, zr_sr1, zr_cp2, zr_tl, zr_tn, shq, List.contains_nil, List.contains_cons, Nat.reduceBEq, Bool.false_or, Bool.or_false, Bool.true_or, Bool.false_eq_true, if_false, if_true, true_and, and_true, List.set_cons_zero, List.set_cons_succ, List.length_cons, List.length_nil, Nat.reduceAdd, Nat.reduceLeDiff, Nat.le_refl, Nat.zero_le, true_or, or_true, zn_cl, ↓jj_LawR_readSum, g0, e42, e47, e37]
        refine ⟨fun z => ?_, fun _ => ⟨fun z => ?_, fun _ => ⟨fun _ => at60, fun z => ?_⟩⟩⟩
        · omega
        · omega
        · omega
  refine st_LawR_readSum [7, 60] 30 ?_
  simp only [↓zq, ↓reduceIte, zr_si2, zr_sr1, zr_cp2, zr_tl, zr_tn, shq, List.contains_nil, List.contains_cons, Nat.reduceBEq, Bool.false_or, Bool.or_false, Bool.true_or, Bool.false_eq_true, if_false, if_true, true_and, and_true, List.set_cons_zero, List.set_cons_succ, List.length_cons, List.length_nil, Nat.reduceAdd, Nat.reduceLeDiff, Nat.le_refl, Nat.zero_le, true_or, or_true, zn_cl, ↓jj_LawR_readSum]
  exact loop 240 0 h none none s none none (by omega) (zw_f.rf w h) hs (fun j hj => by cases hj) (fun j hj => by cases hj) rfl
set_option maxHeartbeats 4000000 in
set_option maxRecDepth 100000 in
theorem k_LawR_readSum {T : Nat → Nat} {n w : Nat} : ∀ (dp : Nat), dp ≤ 6 → ∀ (d : Nat) (h : zm_M) (R : zm_R) (s : zl_s), zg h.2 w → zq_s h T n w s → (∀ h' : zm_M, zw_f w h h' → zq_s h' T n w (p_sum T n dp s) → R none h') → zm_C (d + 2 * dp + 5) TT m_LawR_readSum [.inr (some 3), .inl (nI (6 - dp))] h R := by
  intro dp
  induction dp with
  | zero =>
    intro h6 d h R s hg hs hR
    refine k_LawR_readSumL (d := d) (p_fac T n id 0) hg hs (fun h1 s1 K g1 q1 hK => ?_) hR
    exact k_LawR_readFactor id (by decide) g1 q1 (fun z => absurd z (Nat.lt_irrefl 0)) hK
  | succ dp ih =>
    intro h6 d h R s hg hs hR
    refine k_LawR_readSumL (d := d + 2 * (dp + 1)) (p_fac T n (p_sum T n dp) (dp + 1)) hg hs (fun h1 s1 K g1 q1 hK => ?_) hR
    refine k_LawR_readFactor (d := d + 2 * (dp + 1)) (p_sum T n dp) h6 g1 q1 (fun _ h2 s2 K2 g2 q2 hK2 => ?_) hK
    exact (ih (by omega) d h2 K2 s2 g2 q2 hK2).mono (by omega) (fun _ _ z => z)
