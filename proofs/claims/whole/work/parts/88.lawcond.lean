/-! tests, conditions read by the class -/
def p_tb (T : Nat → Nat) (n : Nat) (sum tst cnd : zl_s → zl_s) (dp : Nat) (s : zl_s) : zl_s :=
  if t_c T n s.1 = 33 ∨ t_c T n s.1 = 40 then
    (if dp = 0 then (t_fl 5 s.1, s.2)
     else if t_c T n s.1 = 33 then ((tst (t_st s.1, s.2)).1, lc_push 10 0 (tst (t_st s.1, s.2)).2)
     else (t_tk T n 41 (cnd (t_st s.1, s.2)).1, (cnd (t_st s.1, s.2)).2))
  else if t_c T n (sum s).1 = 60 ∨ t_c T n (sum s).1 = 62 ∨ t_c T n (sum s).1 = 61 then ((sum (t_st (sum s).1, (sum s).2)).1, lc_push (l_op (t_c T n (sum s).1)) 0 (sum (t_st (sum s).1, (sum s).2)).2)
  else (t_fl 1 (sum s).1, (sum s).2)
def p_andl (T : Nat → Nat) (n : Nat) (tst : zl_s → zl_s) : Nat → Option Nat → zl_s → zl_s
  | 0, _, s => s
  | f + 1, tb, s => if t_c T n (tst s).1 = 38 then p_andl T n tst f (some ((lc_push 11 0 (lc_lead tb (tst s).2)).1 - 1)) (t_st (tst s).1, lc_push 11 0 (lc_lead tb (tst s).2)) else ((tst s).1, lc_lead tb (tst s).2)
def p_orl (T : Nat → Nat) (n : Nat) (tst : zl_s → zl_s) : Nat → Option Nat → zl_s → zl_s
  | 0, _, s => s
  | f + 1, pb, s => if t_c T n (p_andl T n tst 240 none s).1 = 124 then p_orl T n tst f (some ((lc_push 12 0 (lc_lead pb (p_andl T n tst 240 none s).2)).1 - 1)) (t_st (p_andl T n tst 240 none s).1, lc_push 12 0 (lc_lead pb (p_andl T n tst 240 none s).2)) else ((p_andl T n tst 240 none s).1, lc_lead pb (p_andl T n tst 240 none s).2)
def p_tst (T : Nat → Nat) (n : Nat) : Nat → zl_s → zl_s
  | 0 => p_tb T n (p_sum T n 0) id id 0
  | d + 1 => p_tb T n (p_sum T n (d + 1)) (p_tst T n d) (p_orl T n (p_tst T n d) 240 none) (d + 1)
theorem p_andl_s (T : Nat → Nat) (n : Nat) (tst : zl_s → zl_s) (f : Nat) (tb : Option Nat) (s : zl_s) : p_andl T n tst (f + 1) tb s = if t_c T n (tst s).1 = 38 then p_andl T n tst f (some ((lc_push 11 0 (lc_lead tb (tst s).2)).1 - 1)) (t_st (tst s).1, lc_push 11 0 (lc_lead tb (tst s).2)) else ((tst s).1, lc_lead tb (tst s).2) := rfl
theorem p_orl_s (T : Nat → Nat) (n : Nat) (tst : zl_s → zl_s) (f : Nat) (pb : Option Nat) (s : zl_s) : p_orl T n tst (f + 1) pb s = if t_c T n (p_andl T n tst 240 none s).1 = 124 then p_orl T n tst f (some ((lc_push 12 0 (lc_lead pb (p_andl T n tst 240 none s).2)).1 - 1)) (t_st (p_andl T n tst 240 none s).1, lc_push 12 0 (lc_lead pb (p_andl T n tst 240 none s).2)) else ((p_andl T n tst 240 none s).1, lc_lead pb (p_andl T n tst 240 none s).2) := rfl
theorem lc_push_le (op v : Nat) (c : zl_c) (hc : c.1 ≤ 240) : (lc_push op v c).1 ≤ 240 := by
  unfold lc_push
  split
  · dsimp only; omega
  · exact hc
set_option maxHeartbeats 4000000 in
set_option maxRecDepth 100000 in
theorem k_LawR_readTestB {d : Nat} {h : zm_M} {R : zm_R} {T : Nat → Nat} {n w dp : Nat} {s : zl_s} (sum tst cnd : zl_s → zl_s) (hdp : dp ≤ 6) (hg : zg h.2 w) (hs : zq_s h T n w s)
    (hsum : ∀ (h1 : zm_M) (s1 : zl_s) (K : zm_R), zg h1.2 w → zq_s h1 T n w s1 → (∀ h' : zm_M, zw_f w h1 h' → zq_s h' T n w (sum s1) → K none h') → zm_C (d + 6) TT m_LawR_readSum [.inr (some 3), .inl (nI (6 - dp))] h1 K)
    (htst : 0 < dp → ∀ (h1 : zm_M) (s1 : zl_s) (K : zm_R), zg h1.2 w → zq_s h1 T n w s1 → (∀ h' : zm_M, zw_f w h1 h' → zq_s h' T n w (tst s1) → K none h') → zm_C (d + 6) TT m_LawR_readTest [.inr (some 3), .inl (nI (6 - (dp - 1)))] h1 K)
    (hcnd : 0 < dp → ∀ (h1 : zm_M) (s1 : zl_s) (K : zm_R), zg h1.2 w → zq_s h1 T n w s1 → (∀ h' : zm_M, zw_f w h1 h' → zq_s h' T n w (cnd s1) → K none h') → zm_C (d + 6) TT m_LawR_readCondition [.inr (some 3), .inl (nI (6 - (dp - 1)))] h1 K)
    (hR : ∀ h' : zm_M, zw_f w h h' → zq_s h' T n w (p_tb T n sum tst cnd dp s) → R none h') : zm_C (d + 7) TT m_LawR_readTest [.inr (some 3), .inl (nI (6 - dp))] h R := by
  obtain ⟨g0, g1, g3, hw⟩ := id hg
  have k0 := g3.1
  obtain ⟨t1, c1⟩ := id hs
  have cl := t1.c_le
  unfold p_tb at hR
  refine st_LawR_readTest [137] 30 ?_
  simp only [↓zq, ↓reduceIte, zr_si2, zr_sr1, zr_cp2, zr_tl, zr_tn, shq, List.contains_nil, List.contains_cons, Nat.reduceBEq, Bool.false_or, Bool.or_false, Bool.true_or, Bool.false_eq_true, if_false, if_true, true_and, and_true, List.set_cons_zero, List.set_cons_succ, List.length_cons, List.length_nil, Nat.reduceAdd, Nat.reduceLeDiff, Nat.le_refl, Nat.zero_le, true_or, or_true, zn_cl, ↓jj_LawR_readTest, g0]
  refine k_Tape_peek t1 ?_
  have e33 : (zt_v (t_c T n s.1) = 33) = (t_c T n s.1 = 33) := zt_v_eq (k := 33) cl (by decide)
  have e40 : (zt_v (t_c T n s.1) = 40) = (t_c T n s.1 = 40) := zt_v_eq (k := 40) cl (by decide)
  have e6 : (nI (6 - dp) < 6) = (0 < dp) := by rw [show (6 : Int32) = nI 6 from rfl, zn_lt (by omega) (by omega)]; apply propext; omega
  have e1 : nI (6 - dp) + 1 = nI (6 - dp + 1) := nI_1 _
  have en : 0 < dp → 6 - dp + 1 = 6 - (dp - 1) := by omega
  by_cases hb : t_c T n s.1 = 33 ∨ t_c T n s.1 = 40
  · rw [if_pos hb] at hR
    have fl5 : dp = 0 → ∀ K : zm_R, (∀ h2 : zm_M, K none h2 = R none h2) → zm_C (d + 6) TT m_Tape_fail [.inr (some 1), .inl 5] h K := fun z K hK => by
      rw [if_pos z] at hR
      refine k_Tape_fail (f := 5) t1 (by decide) (by decide) (fun h2 f2 s2 => ?_)
      rw [hK]
      exact hR h2 (f2.w hw) ⟨s2, zq_c_t hw f2 c1⟩
    by_cases h33 : t_c T n s.1 = 33
    · have t33 := eq_true h33
      simp only [↓zq, ↓reduceIte, zr_si2, zr_sr1, zr_cp2, zr_tl, zr_tn, shq, List.contains_nil, List.contains_cons, Nat.reduceBEq, Bool.false_or, Bool.or_false, Bool.true_or, Bool.false_eq_true, if_false, if_true, true_and, and_true, List.set_cons_zero, List.set_cons_succ, List.length_cons, List.length_nil, Nat.reduceAdd, Nat.reduceLeDiff, Nat.le_refl, Nat.zero_le, true_or, or_true, zn_cl, ↓jj_LawR_readTest, g0, e33, t33, e6, e1]
      simp only [not_false_eq_true, not_true_eq_false, false_imp_iff, true_imp_iff, forall_const, and_true, true_and, and_self, false_or, or_false, Int32.reduceLT, Int32.reduceLE, Int32.reduceSub, Int32.reduceAdd]
      refine ⟨fun z => ?_, fun z => fl5 (by omega) _ (fun h2 => ?_)⟩
      · rw [if_neg (by omega), if_pos h33] at hR
        refine k_Tape_step t1 (t_c_lt (T := T) (by omega)) (fun h2 f2 s2 => ?_)
        simp only [↓zq, ↓reduceIte, zr_si2, zr_sr1, zr_cp2, zr_tl, zr_tn, shq, List.contains_nil, List.contains_cons, Nat.reduceBEq, Bool.false_or, Bool.or_false, Bool.true_or, Bool.false_eq_true, if_false, if_true, true_and, and_true, List.set_cons_zero, List.set_cons_succ, List.length_cons, List.length_nil, Nat.reduceAdd, Nat.reduceLeDiff, Nat.le_refl, Nat.zero_le, true_or, or_true, zn_cl, ↓jj_LawR_readTest]
        rw [en z]
        refine htst z h2 (t_st s.1, s.2) _ (zg_of f2.1 hg) ⟨s2, zq_c_t hw f2 c1⟩ (fun h3 f3 s3 => ?_)
        have f3 := (f2.w hw).tr f3
        have g1' : h3.2 3 1 = some w := by rw [f3.1]; exact g1
        simp only [↓zq, ↓reduceIte, zr_si2, zr_sr1, zr_cp2, zr_tl, zr_tn, shq, List.contains_nil, List.contains_cons, Nat.reduceBEq, Bool.false_or, Bool.or_false, Bool.true_or, Bool.false_eq_true, if_false, if_true, true_and, and_true, List.set_cons_zero, List.set_cons_succ, List.length_cons, List.length_nil, Nat.reduceAdd, Nat.reduceLeDiff, Nat.le_refl, Nat.zero_le, true_or, or_true, zn_cl, ↓jj_LawR_readTest, g1']
        refine ⟨k0, ?_⟩
        refine k_Law_addStep (op := 10) (v := 0) (zg_of f3.1 hg) s3 (fun h4 f4 s4 => ?_)
        simp only [↓zq, ↓reduceIte, zr_si2, zr_sr1, zr_cp2, zr_tl, zr_tn, shq, List.contains_nil, List.contains_cons, Nat.reduceBEq, Bool.false_or, Bool.or_false, Bool.true_or, Bool.false_eq_true, if_false, if_true, true_and, and_true, List.set_cons_zero, List.set_cons_succ, List.length_cons, List.length_nil, Nat.reduceAdd, Nat.reduceLeDiff, Nat.le_refl, Nat.zero_le, true_or, or_true, zn_cl, ↓jj_LawR_readTest]
        exact hR h4 (f3.tr f4) s4
      · simp only [↓zq, ↓reduceIte, zr_si2, zr_sr1, zr_cp2, zr_tl, zr_tn, shq, List.contains_nil, List.contains_cons, Nat.reduceBEq, Bool.false_or, Bool.or_false, Bool.true_or, Bool.false_eq_true, if_false, if_true, true_and, and_true, List.set_cons_zero, List.set_cons_succ, List.length_cons, List.length_nil, Nat.reduceAdd, Nat.reduceLeDiff, Nat.le_refl, Nat.zero_le, true_or, or_true, zn_cl, ↓jj_LawR_readTest]
    · have h40 : t_c T n s.1 = 40 := by omega
      have t33 := eq_false h33
      have t40 := eq_true h40
      simp only [↓zq, ↓reduceIte, zr_si2, zr_sr1, zr_cp2, zr_tl, zr_tn, shq, List.contains_nil, List.contains_cons, Nat.reduceBEq, Bool.false_or, Bool.or_false, Bool.true_or, Bool.false_eq_true, if_false, if_true, true_and, and_true, List.set_cons_zero, List.set_cons_succ, List.length_cons, List.length_nil, Nat.reduceAdd, Nat.reduceLeDiff, Nat.le_refl, Nat.zero_le, true_or, or_true, zn_cl, ↓jj_LawR_readTest, g0, e33, e40, t33, t40, e6, e1]
      simp only [not_false_eq_true, not_true_eq_false, false_imp_iff, true_imp_iff, forall_const, and_true, true_and, and_self, false_or, or_false, Int32.reduceLT, Int32.reduceLE, Int32.reduceSub, Int32.reduceAdd]
      refine ⟨fun z => ?_, fun z => fl5 (by omega) _ (fun h2 => ?_)⟩
      · rw [if_neg (by omega), if_neg h33] at hR
        refine k_Tape_step t1 (t_c_lt (T := T) (by omega)) (fun h2 f2 s2 => ?_)
        simp only [↓zq, ↓reduceIte, zr_si2, zr_sr1, zr_cp2, zr_tl, zr_tn, shq, List.contains_nil, List.contains_cons, Nat.reduceBEq, Bool.false_or, Bool.or_false, Bool.true_or, Bool.false_eq_true, if_false, if_true, true_and, and_true, List.set_cons_zero, List.set_cons_succ, List.length_cons, List.length_nil, Nat.reduceAdd, Nat.reduceLeDiff, Nat.le_refl, Nat.zero_le, true_or, or_true, zn_cl, ↓jj_LawR_readTest]
        rw [en z]
        refine hcnd z h2 (t_st s.1, s.2) _ (zg_of f2.1 hg) ⟨s2, zq_c_t hw f2 c1⟩ (fun h3 f3 s3 => ?_)
        have f3 := (f2.w hw).tr f3
        have g0' : h3.2 3 0 = some 1 := by rw [f3.1]; exact g0
        simp only [↓zq, ↓reduceIte, zr_si2, zr_sr1, zr_cp2, zr_tl, zr_tn, shq, List.contains_nil, List.contains_cons, Nat.reduceBEq, Bool.false_or, Bool.or_false, Bool.true_or, Bool.false_eq_true, if_false, if_true, true_and, and_true, List.set_cons_zero, List.set_cons_succ, List.length_cons, List.length_nil, Nat.reduceAdd, Nat.reduceLeDiff, Nat.le_refl, Nat.zero_le, true_or, or_true, zn_cl, ↓jj_LawR_readTest, g0']
        refine k_Tape_take (c := 41) s3.1 (by decide) (fun h4 f4 s4 => ?_)
        simp only [↓zq, ↓reduceIte, zr_si2, zr_sr1, zr_cp2, zr_tl, zr_tn, shq, List.contains_nil, List.contains_cons, Nat.reduceBEq, Bool.false_or, Bool.or_false, Bool.true_or, Bool.false_eq_true, if_false, if_true, true_and, and_true, List.set_cons_zero, List.set_cons_succ, List.length_cons, List.length_nil, Nat.reduceAdd, Nat.reduceLeDiff, Nat.le_refl, Nat.zero_le, true_or, or_true, zn_cl, ↓jj_LawR_readTest]
        exact hR h4 (f3.tr (f4.w hw)) ⟨s4, zq_c_t hw f4 s3.2⟩
      · simp only [↓zq, ↓reduceIte, zr_si2, zr_sr1, zr_cp2, zr_tl, zr_tn, shq, List.contains_nil, List.contains_cons, Nat.reduceBEq, Bool.false_or, Bool.or_false, Bool.true_or, Bool.false_eq_true, if_false, if_true, true_and, and_true, List.set_cons_zero, List.set_cons_succ, List.length_cons, List.length_nil, Nat.reduceAdd, Nat.reduceLeDiff, Nat.le_refl, Nat.zero_le, true_or, or_true, zn_cl, ↓jj_LawR_readTest]
  · rw [if_neg hb] at hR
    have t33 := eq_false (fun z => hb (Or.inl z))
    have t40 := eq_false (fun z => hb (Or.inr z))
    simp only [↓zq, ↓reduceIte, zr_si2, zr_sr1, zr_cp2, zr_tl, zr_tn, shq, List.contains_nil, List.contains_cons, Nat.reduceBEq, Bool.false_or, Bool.or_false, Bool.true_or, Bool.false_eq_true, if_false, if_true, true_and, and_true, List.set_cons_zero, List.set_cons_succ, List.length_cons, List.length_nil, Nat.reduceAdd, Nat.reduceLeDiff, Nat.le_refl, Nat.zero_le, true_or, or_true, zn_cl, ↓jj_LawR_readTest, g0, e33, e40, t33, t40]
    simp only [not_false_eq_true, not_true_eq_false, false_imp_iff, true_imp_iff, forall_const, and_true, true_and, and_self, false_or, or_false, Int32.reduceLT, Int32.reduceLE, Int32.reduceSub, Int32.reduceAdd]
    refine hsum h s _ hg hs (fun h2 f2 s2 => ?_)
    have g0' : h2.2 3 0 = some 1 := by rw [f2.1]; exact g0
    generalize sum s = r at *
    simp only [↓zq, ↓reduceIte, zr_si2, zr_sr1, zr_cp2, zr_tl, zr_tn, shq, List.contains_nil, List.contains_cons, Nat.reduceBEq, Bool.false_or, Bool.or_false, Bool.true_or, Bool.false_eq_true, if_false, if_true, true_and, and_true, List.set_cons_zero, List.set_cons_succ, List.length_cons, List.length_nil, Nat.reduceAdd, Nat.reduceLeDiff, Nat.le_refl, Nat.zero_le, true_or, or_true, zn_cl, ↓jj_LawR_readTest, g0']
    refine k_Tape_peek s2.1 ?_
    have cl2 : t_c T n r.1 ≤ 256 := s2.1.c_le
    have e60 : (zt_v (t_c T n r.1) = 60) = (t_c T n r.1 = 60) := zt_v_eq (k := 60) cl2 (by decide)
    have e62 : (zt_v (t_c T n r.1) = 62) = (t_c T n r.1 = 62) := zt_v_eq (k := 62) cl2 (by decide)
    have e61 : (zt_v (t_c T n r.1) = 61) = (t_c T n r.1 = 61) := zt_v_eq (k := 61) cl2 (by decide)
    by_cases hc : t_c T n r.1 = 60 ∨ t_c T n r.1 = 62 ∨ t_c T n r.1 = 61
    · rw [if_pos hc] at hR
      obtain ⟨o1, o2⟩ := zl_o2_op (c := t_c T n r.1) (by omega)
      have o1' : zt_v (t_c T n r.1) = nI (zl_sn (l_op (t_c T n r.1))) := o1.symm
      have cut : zm_W (zm_md m_LawR_readTest) (d + 7) TT R 137 [some (.inr (some 3)), some (.inl (nI (6 - dp))), some (.inl (zt_v (t_c T n s.1))), some (.inl (zt_v (t_c T n r.1)))] [] h2 := by
        refine zm_go g_LawR_readTest [137] 30 (by decide +kernel) ok_LawR_readTest _ rfl ?_
        simp only [↓zq, ↓reduceIte, zr_si2, zr_sr1, zr_cp2, zr_tl, zr_tn, shq, List.contains_nil, List.contains_cons, Nat.reduceBEq, Bool.false_or, Bool.or_false, Bool.true_or, Bool.false_eq_true, if_false, if_true, true_and, and_true, List.set_cons_zero, List.set_cons_succ, List.length_cons, List.length_nil, Nat.reduceAdd, Nat.reduceLeDiff, Nat.le_refl, Nat.zero_le, true_or, or_true, zn_cl, ↓jj_LawR_readTest, g0']
        refine k_Tape_step s2.1 (t_c_lt (T := T) (by show t_c T n r.1 ≠ 256; omega)) (fun h3 f3 s3 => ?_)
        have f3' := f2.tr (f3.w hw)
        simp only [↓zq, ↓reduceIte, zr_si2, zr_sr1, zr_cp2, zr_tl, zr_tn, shq, List.contains_nil, List.contains_cons, Nat.reduceBEq, Bool.false_or, Bool.or_false, Bool.true_or, Bool.false_eq_true, if_false, if_true, true_and, and_true, List.set_cons_zero, List.set_cons_succ, List.length_cons, List.length_nil, Nat.reduceAdd, Nat.reduceLeDiff, Nat.le_refl, Nat.zero_le, true_or, or_true, zn_cl, ↓jj_LawR_readTest]
        refine hsum h3 (t_st r.1, r.2) _ (zg_of f3'.1 hg) ⟨s3, zq_c_t hw f3 s2.2⟩ (fun h4 f4 s4 => ?_)
        have f4 := f3'.tr f4
        have g1' : h4.2 3 1 = some w := by rw [f4.1]; exact g1
        simp only [↓zq, ↓reduceIte, zr_si2, zr_sr1, zr_cp2, zr_tl, zr_tn, shq, List.contains_nil, List.contains_cons, Nat.reduceBEq, Bool.false_or, Bool.or_false, Bool.true_or, Bool.false_eq_true, if_false, if_true, true_and, and_true, List.set_cons_zero, List.set_cons_succ, List.length_cons, List.length_nil, Nat.reduceAdd, Nat.reduceLeDiff, Nat.le_refl, Nat.zero_le, true_or, or_true, zn_cl, ↓jj_LawR_readTest, g1']
        refine ⟨k0, ?_⟩
        rw [o1']
        refine k_Law_addStep (v := 0) (zg_of f4.1 hg) s4 (fun h5 f5 s5 => ?_)
        simp only [↓zq, ↓reduceIte, zr_si2, zr_sr1, zr_cp2, zr_tl, zr_tn, shq, List.contains_nil, List.contains_cons, Nat.reduceBEq, Bool.false_or, Bool.or_false, Bool.true_or, Bool.false_eq_true, if_false, if_true, true_and, and_true, List.set_cons_zero, List.set_cons_succ, List.length_cons, List.length_nil, Nat.reduceAdd, Nat.reduceLeDiff, Nat.le_refl, Nat.zero_le, true_or, or_true, zn_cl, ↓jj_LawR_readTest]
        exact hR h5 (f4.tr f5) s5
      simp only [↓zq, ↓reduceIte, zr_si2, zr_sr1, zr_cp2, zr_tl, zr_tn, shq, List.contains_nil, List.contains_cons, Nat.reduceBEq, Bool.false_or, Bool.or_false, Bool.true_or, Bool.false_eq_true, if_false, if_true, true_and, and_true, List.set_cons_zero, List.set_cons_succ, List.length_cons, List.length_nil, Nat.reduceAdd, Nat.reduceLeDiff, Nat.le_refl, Nat.zero_le, true_or, or_true, zn_cl, ↓jj_LawR_readTest, g0', e60, e61, e62]
      refine ⟨fun _ => cut, fun z1 => ⟨fun _ => cut, fun z2 => ⟨fun _ => cut, fun z3 => ?_⟩⟩⟩
      omega
    · rw [if_neg hc] at hR
      have u60 := eq_false (fun z => hc (Or.inl z))
      have u62 := eq_false (fun z => hc (Or.inr (Or.inl z)))
      have u61 := eq_false (fun z => hc (Or.inr (Or.inr z)))
      simp only [↓zq, ↓reduceIte, zr_si2, zr_sr1, zr_cp2, zr_tl, zr_tn, shq, List.contains_nil, List.contains_cons, Nat.reduceBEq, Bool.false_or, Bool.or_false, Bool.true_or, Bool.false_eq_true, if_false, if_true, true_and, and_true, List.set_cons_zero, List.set_cons_succ, List.length_cons, List.length_nil, Nat.reduceAdd, Nat.reduceLeDiff, Nat.le_refl, Nat.zero_le, true_or, or_true, zn_cl, ↓jj_LawR_readTest, g0', e60, e61, e62, u60, u61, u62]
      simp only [not_false_eq_true, not_true_eq_false, false_imp_iff, true_imp_iff, forall_const, and_true, true_and, and_self, false_or, or_false, Int32.reduceLT, Int32.reduceLE, Int32.reduceSub, Int32.reduceAdd]
      refine k_Tape_fail (f := 1) s2.1 (by decide) (by decide) (fun h3 f3 s3 => ?_)
      simp only [↓zq, ↓reduceIte, zr_si2, zr_sr1, zr_cp2, zr_tl, zr_tn, shq, List.contains_nil, List.contains_cons, Nat.reduceBEq, Bool.false_or, Bool.or_false, Bool.true_or, Bool.false_eq_true, if_false, if_true, true_and, and_true, List.set_cons_zero, List.set_cons_succ, List.length_cons, List.length_nil, Nat.reduceAdd, Nat.reduceLeDiff, Nat.le_refl, Nat.zero_le, true_or, or_true, zn_cl, ↓jj_LawR_readTest]
      exact hR h3 (f2.tr (f3.w hw)) ⟨s3, zq_c_t hw f3 s2.2⟩
set_option maxHeartbeats 4000000 in
set_option maxRecDepth 100000 in
theorem k_LawR_readConditionL {d : Nat} {h : zm_M} {R : zm_R} {T : Nat → Nat} {n w : Nat} {s : zl_s} {y : Int32} (tst : zl_s → zl_s) (hg : zg h.2 w) (hs : zq_s h T n w s) (htst : ∀ (h1 : zm_M) (s1 : zl_s) (K : zm_R), zg h1.2 w → zq_s h1 T n w s1 → (∀ h' : zm_M, zw_f w h1 h' → zq_s h' T n w (tst s1) → K none h') → zm_C (d + 7) TT m_LawR_readTest [.inr (some 3), .inl y] h1 K) (hR : ∀ h' : zm_M, zw_f w h h' → zq_s h' T n w (p_orl T n tst 240 none s) → R none h') : zm_C (d + 8) TT m_LawR_readCondition [.inr (some 3), .inl y] h R := by
  obtain ⟨_, _, ⟨k0, _⟩, hw⟩ := id hg
  have inner : ∀ (s0 : zl_s) (l2 l3 : Option zm_V), (∀ (g : zm_M) (l4 l5 : Option zm_V), zw_f w h g → zq_s g T n w (p_andl T n tst 240 none s0) → zm_W (zm_md m_LawR_readCondition) (d + 8) TT R 79 [some (.inr (some 3)), some (.inl y), l2, l3, l4, l5] [] g) → ∀ (f j : Nat) (g : zm_M) (tb : Option Nat) (s' : zl_s), j + f = 240 → zw_f w h g → zq_s g T n w s' → (∀ i, tb = some i → i < 1000) → p_andl T n tst 240 none s0 = p_andl T n tst f tb s' → zm_W (zm_md m_LawR_readCondition) (d + 8) TT R 17 [some (.inr (some 3)), some (.inl y), l2, l3, some (.inl (zl_o tb)), some (.inl (nI j))] [] g := by
    intro s0 l2 l3 hout f
    induction f with
    | zero =>
      intro j g tb s' hj hf hs' ht he
      have : j = 240 := by omega
      subst this
      rw [he] at hout
      refine zm_go g_LawR_readCondition [4, 17, 79] 30 (by decide +kernel) ok_LawR_readCondition _ rfl ?_
      simp only [↓zq, ↓reduceIte, zr_si2, zr_sr1, zr_cp2, zr_tl, zr_tn, shq, List.contains_nil, List.contains_cons, Nat.reduceBEq, Bool.false_or, Bool.or_false, Bool.true_or, Bool.false_eq_true, if_false, if_true, true_and, and_true, List.set_cons_zero, List.set_cons_succ, List.length_cons, List.length_nil, Nat.reduceAdd, Nat.reduceLeDiff, Nat.le_refl, Nat.zero_le, true_or, or_true, zn_cl, ↓jj_LawR_readCondition]
      exact ⟨fun _ => hout g _ _ hf hs', fun z => absurd (by decide) z⟩
    | succ f ih =>
      intro j g tb s' hj hf hs' ht he
      rw [p_andl_s T n tst f tb s'] at he
      refine zm_go g_LawR_readCondition [4, 17, 79] 30 (by decide +kernel) ok_LawR_readCondition _ rfl ?_
      simp only [↓zq, ↓reduceIte, zr_si2, zr_sr1, zr_cp2, zr_tl, zr_tn, shq, List.contains_nil, List.contains_cons, Nat.reduceBEq, Bool.false_or, Bool.or_false, Bool.true_or, Bool.false_eq_true, if_false, if_true, true_and, and_true, List.set_cons_zero, List.set_cons_succ, List.length_cons, List.length_nil, Nat.reduceAdd, Nat.reduceLeDiff, Nat.le_refl, Nat.zero_le, true_or, or_true, zn_cl, ↓jj_LawR_readCondition]
      refine ⟨fun z => absurd z (nI_ge (b := 240) (by omega) (by decide)), fun _ => ?_⟩
      refine htst g s' _ (zg_of hf.1 hg) hs' (fun g2 f2 s2 => ?_)
      have f2 := hf.tr f2
      generalize tst s' = r at *
      have g1' : g2.2 3 1 = some w := by rw [f2.1]; exact hg.2.1
      simp only [↓zq, ↓reduceIte, zr_si2, zr_sr1, zr_cp2, zr_tl, zr_tn, shq, List.contains_nil, List.contains_cons, Nat.reduceBEq, Bool.false_or, Bool.or_false, Bool.true_or, Bool.false_eq_true, if_false, if_true, true_and, and_true, List.set_cons_zero, List.set_cons_succ, List.length_cons, List.length_nil, Nat.reduceAdd, Nat.reduceLeDiff, Nat.le_refl, Nat.zero_le, true_or, or_true, zn_cl, ↓jj_LawR_readCondition, g1']
      refine ⟨k0, ?_⟩
      refine k_Law_leadHere (zg_of f2.1 hg) s2 ht (fun g3 f3 s3 => ?_)
      have f3 := f2.tr f3
      have g0' : g3.2 3 0 = some 1 := by rw [f3.1]; exact hg.1
      simp only [↓zq, ↓reduceIte, zr_si2, zr_sr1, zr_cp2, zr_tl, zr_tn, shq, List.contains_nil, List.contains_cons, Nat.reduceBEq, Bool.false_or, Bool.or_false, Bool.true_or, Bool.false_eq_true, if_false, if_true, true_and, and_true, List.set_cons_zero, List.set_cons_succ, List.length_cons, List.length_nil, Nat.reduceAdd, Nat.reduceLeDiff, Nat.le_refl, Nat.zero_le, true_or, or_true, zn_cl, ↓jj_LawR_readCondition, g0']
      refine k_Tape_peek s3.1 ?_
      have e38 : (zt_v (t_c T n r.1) = 38) = (t_c T n r.1 = 38) := zt_v_eq (k := 38) s3.1.c_le (by decide)
      simp only [↓zq, ↓reduceIte, zr_si2, zr_sr1, zr_cp2, zr_tl, zr_tn, shq, List.contains_nil, List.contains_cons, Nat.reduceBEq, Bool.false_or, Bool.or_false, Bool.true_or, Bool.false_eq_true, if_false, if_true, true_and, and_true, List.set_cons_zero, List.set_cons_succ, List.length_cons, List.length_nil, Nat.reduceAdd, Nat.reduceLeDiff, Nat.le_refl, Nat.zero_le, true_or, or_true, zn_cl, ↓jj_LawR_readCondition, g0', e38]
      refine ⟨fun z => ?_, fun z => ?_⟩
      · rw [if_pos z] at he
        refine k_Tape_step s3.1 (t_c_lt (T := T) (by show t_c T n r.1 ≠ 256; omega)) (fun g4 f4 s4 => ?_)
        have f4' := f3.tr (f4.w hw)
        have g1' : g4.2 3 1 = some w := by rw [f4'.1]; exact hg.2.1
        simp only [↓zq, ↓reduceIte, zr_si2, zr_sr1, zr_cp2, zr_tl, zr_tn, shq, List.contains_nil, List.contains_cons, Nat.reduceBEq, Bool.false_or, Bool.or_false, Bool.true_or, Bool.false_eq_true, if_false, if_true, true_and, and_true, List.set_cons_zero, List.set_cons_succ, List.length_cons, List.length_nil, Nat.reduceAdd, Nat.reduceLeDiff, Nat.le_refl, Nat.zero_le, true_or, or_true, zn_cl, ↓jj_LawR_readCondition, g1']
        refine ⟨k0, ?_⟩
        refine k_Law_addStep (op := 11) (v := 0) (s := (t_st r.1, lc_lead tb r.2)) (zg_of f4'.1 hg) ⟨s4, zq_c_t hw f4 s3.2⟩ (fun g5 f5 s5 => ?_)
        simp only [↓zq, ↓reduceIte, zr_si2, zr_sr1, zr_cp2, zr_tl, zr_tn, shq, List.contains_nil, List.contains_cons, Nat.reduceBEq, Bool.false_or, Bool.or_false, Bool.true_or, Bool.false_eq_true, if_false, if_true, true_and, and_true, List.set_cons_zero, List.set_cons_succ, List.length_cons, List.length_nil, Nat.reduceAdd, Nat.reduceLeDiff, Nat.le_refl, Nat.zero_le, true_or, or_true, zn_cl, ↓jj_LawR_readCondition, nI_1]
        refine ih (j + 1) g5 (some ((lc_push 11 0 (lc_lead tb r.2)).1 - 1)) _ (by omega) (f4'.tr f5) s5 (fun i hi => ?_) he
        cases hi
        have := s5.2.2.1
        dsimp only at this
        omega
      · rw [if_neg z] at he
        rw [he] at hout
        exact hout g3 _ _ f3 s3
  have outer : ∀ (f i : Nat) (g : zm_M) (pb : Option Nat) (s' : zl_s) (l4 l5 : Option zm_V), i + f = 240 → zw_f w h g → zq_s g T n w s' → (∀ i, pb = some i → i < 1000) → p_orl T n tst 240 none s = p_orl T n tst f pb s' → zm_W (zm_md m_LawR_readCondition) (d + 8) TT R 4 [some (.inr (some 3)), some (.inl y), some (.inl (zl_o pb)), some (.inl (nI i)), l4, l5] [] g := by
    intro f
    induction f with
    | zero =>
      intro i g pb s' l4 l5 hi hf hs' ht he
      have : i = 240 := by omega
      subst this
      rw [he] at hR
      refine zm_go g_LawR_readCondition [4, 17, 79] 30 (by decide +kernel) ok_LawR_readCondition _ rfl ?_
      simp only [↓zq, ↓reduceIte, zr_si2, zr_sr1, zr_cp2, zr_tl, zr_tn, shq, List.contains_nil, List.contains_cons, Nat.reduceBEq, Bool.false_or, Bool.or_false, Bool.true_or, Bool.false_eq_true, if_false, if_true, true_and, and_true, List.set_cons_zero, List.set_cons_succ, List.length_cons, List.length_nil, Nat.reduceAdd, Nat.reduceLeDiff, Nat.le_refl, Nat.zero_le, true_or, or_true, zn_cl, ↓jj_LawR_readCondition]
      exact ⟨fun _ => hR g hf hs', fun z => absurd (by decide) z⟩
    | succ f ih =>
      intro i g pb s' l4 l5 hi hf hs' ht he
      rw [p_orl_s T n tst f pb s'] at he
      refine zm_go g_LawR_readCondition [4, 17, 79] 30 (by decide +kernel) ok_LawR_readCondition _ rfl ?_
      simp only [↓zq, ↓reduceIte, zr_si2, zr_sr1, zr_cp2, zr_tl, zr_tn, shq, List.contains_nil, List.contains_cons, Nat.reduceBEq, Bool.false_or, Bool.or_false, Bool.true_or, Bool.false_eq_true, if_false, if_true, true_and, and_true, List.set_cons_zero, List.set_cons_succ, List.length_cons, List.length_nil, Nat.reduceAdd, Nat.reduceLeDiff, Nat.le_refl, Nat.zero_le, true_or, or_true, zn_cl, ↓jj_LawR_readCondition]
      refine ⟨fun z => absurd z (nI_ge (b := 240) (by omega) (by decide)), fun _ => ?_⟩
      refine inner s' _ _ (fun g2 l4 l5 f2 s2 => ?_) 240 0 g none s' (by omega) hf hs' (fun i hi => by cases hi) rfl
      generalize p_andl T n tst 240 none s' = r at *
      have g1' : g2.2 3 1 = some w := by rw [f2.1]; exact hg.2.1
      refine zm_go g_LawR_readCondition [4, 17, 79] 30 (by decide +kernel) ok_LawR_readCondition _ rfl ?_
      simp only [↓zq, ↓reduceIte, zr_si2, zr_sr1, zr_cp2, zr_tl, zr_tn, shq, List.contains_nil, List.contains_cons, Nat.reduceBEq, Bool.false_or, Bool.or_false, Bool.true_or, Bool.false_eq_true, if_false, if_true, true_and, and_true, List.set_cons_zero, List.set_cons_succ, List.length_cons, List.length_nil, Nat.reduceAdd, Nat.reduceLeDiff, Nat.le_refl, Nat.zero_le, true_or, or_true, zn_cl, ↓jj_LawR_readCondition, g1']
      refine ⟨k0, ?_⟩
      refine k_Law_leadHere (zg_of f2.1 hg) s2 ht (fun g3 f3 s3 => ?_)
      have f3 := f2.tr f3
      have g0' : g3.2 3 0 = some 1 := by rw [f3.1]; exact hg.1
      simp only [↓zq, ↓reduceIte, zr_si2, zr_sr1, zr_cp2, zr_tl, zr_tn, shq, List.contains_nil, List.contains_cons, Nat.reduceBEq, Bool.false_or, Bool.or_false, Bool.true_or, Bool.false_eq_true, if_false, if_true, true_and, and_true, List.set_cons_zero, List.set_cons_succ, List.length_cons, List.length_nil, Nat.reduceAdd, Nat.reduceLeDiff, Nat.le_refl, Nat.zero_le, true_or, or_true, zn_cl, ↓jj_LawR_readCondition, g0']
      refine k_Tape_peek s3.1 ?_
      have e124 : (zt_v (t_c T n r.1) = 124) = (t_c T n r.1 = 124) := zt_v_eq (k := 124) s3.1.c_le (by decide)
      simp only [↓zq, ↓reduceIte, zr_si2, zr_sr1, zr_cp2, zr_tl, zr_tn, shq, List.contains_nil, List.contains_cons, Nat.reduceBEq, Bool.false_or, Bool.or_false, Bool.true_or, Bool.false_eq_true, if_false, if_true, true_and, and_true, List.set_cons_zero, List.set_cons_succ, List.length_cons, List.length_nil, Nat.reduceAdd, Nat.reduceLeDiff, Nat.le_refl, Nat.zero_le, true_or, or_true, zn_cl, ↓jj_LawR_readCondition, g0', e124]
      refine ⟨fun z => ?_, fun z => ?_⟩
      · rw [if_pos z] at he
        refine k_Tape_step s3.1 (t_c_lt (T := T) (by show t_c T n r.1 ≠ 256; omega)) (fun g4 f4 s4 => ?_)
        have f4' := f3.tr (f4.w hw)
        have g1' : g4.2 3 1 = some w := by rw [f4'.1]; exact hg.2.1
        simp only [↓zq, ↓reduceIte, zr_si2, zr_sr1, zr_cp2, zr_tl, zr_tn, shq, List.contains_nil, List.contains_cons, Nat.reduceBEq, Bool.false_or, Bool.or_false, Bool.true_or, Bool.false_eq_true, if_false, if_true, true_and, and_true, List.set_cons_zero, List.set_cons_succ, List.length_cons, List.length_nil, Nat.reduceAdd, Nat.reduceLeDiff, Nat.le_refl, Nat.zero_le, true_or, or_true, zn_cl, ↓jj_LawR_readCondition, g1']
        refine ⟨k0, ?_⟩
        refine k_Law_addStep (op := 12) (v := 0) (s := (t_st r.1, lc_lead pb r.2)) (zg_of f4'.1 hg) ⟨s4, zq_c_t hw f4 s3.2⟩ (fun g5 f5 s5 => ?_)
        simp only [↓zq, ↓reduceIte, zr_si2, zr_sr1, zr_cp2, zr_tl, zr_tn, shq, List.contains_nil, List.contains_cons, Nat.reduceBEq, Bool.false_or, Bool.or_false, Bool.true_or, Bool.false_eq_true, if_false, if_true, true_and, and_true, List.set_cons_zero, List.set_cons_succ, List.length_cons, List.length_nil, Nat.reduceAdd, Nat.reduceLeDiff, Nat.le_refl, Nat.zero_le, true_or, or_true, zn_cl, ↓jj_LawR_readCondition, nI_1]
        refine ih (i + 1) g5 (some ((lc_push 12 0 (lc_lead pb r.2)).1 - 1)) _ _ _ (by omega) (f4'.tr f5) s5 (fun i hi => ?_) he
        cases hi
        have := s5.2.2.1
        dsimp only at this
        omega
      · rw [if_neg z] at he
        rw [he] at hR
        exact hR g3 f3 s3
  refine st_LawR_readCondition [4, 17, 79] 30 ?_
  simp only [↓zq, ↓reduceIte, zr_si2, zr_sr1, zr_cp2, zr_tl, zr_tn, shq, List.contains_nil, List.contains_cons, Nat.reduceBEq, Bool.false_or, Bool.or_false, Bool.true_or, Bool.false_eq_true, if_false, if_true, true_and, and_true, List.set_cons_zero, List.set_cons_succ, List.length_cons, List.length_nil, Nat.reduceAdd, Nat.reduceLeDiff, Nat.le_refl, Nat.zero_le, true_or, or_true, zn_cl, ↓jj_LawR_readCondition]
  exact outer 240 0 h none s none none (by omega) (zw_f.rf w h) hs (fun i hi => by cases hi) rfl
set_option maxHeartbeats 4000000 in
set_option maxRecDepth 100000 in
theorem k_LawR_readTest {T : Nat → Nat} {n w : Nat} : ∀ (dp : Nat), dp ≤ 6 → ∀ (d : Nat) (h : zm_M) (R : zm_R) (s : zl_s), zg h.2 w → zq_s h T n w s → (∀ h' : zm_M, zw_f w h h' → zq_s h' T n w (p_tst T n dp s) → R none h') → zm_C (d + 2 * dp + 7) TT m_LawR_readTest [.inr (some 3), .inl (nI (6 - dp))] h R := by
  intro dp
  induction dp with
  | zero =>
    intro h6 d h R s hg hs hR
    refine k_LawR_readTestB (d := d) (p_sum T n 0) id id (by decide) hg hs (fun h1 s1 K g1 q1 hK => ?_) (fun z => absurd z (Nat.lt_irrefl 0)) (fun z => absurd z (Nat.lt_irrefl 0)) hR
    exact (k_LawR_readSum 0 (by decide) d h1 K s1 g1 q1 hK).mono (by omega) (fun _ _ z => z)
  | succ dp ih =>
    intro h6 d h R s hg hs hR
    refine k_LawR_readTestB (d := d + 2 * (dp + 1)) (p_sum T n (dp + 1)) (p_tst T n dp) (p_orl T n (p_tst T n dp) 240 none) h6 hg hs (fun h1 s1 K g1 q1 hK => ?_) (fun _ h1 s1 K g1 q1 hK => ?_) (fun _ h1 s1 K g1 q1 hK => ?_) hR
    · exact (k_LawR_readSum (dp + 1) h6 d h1 K s1 g1 q1 hK).mono (by omega) (fun _ _ z => z)
    · exact (ih (by omega) d h1 K s1 g1 q1 hK).mono (by omega) (fun _ _ z => z)
    · refine zm_C.mono (k_LawR_readConditionL (d := d + 2 * dp) (p_tst T n dp) g1 q1 (fun h2 s2 K2 g2 q2 hK2 => ?_) hK) (by omega) (fun _ _ z => z)
      exact ih (by omega) d h2 K2 s2 g2 q2 hK2
