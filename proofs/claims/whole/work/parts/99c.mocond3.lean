def p_ol2 (T : Nat → Nat) (n : Nat) (tst : zl_s → zl_s) (fa : Nat) (tb : Option Nat) (fo : Nat) (pb : Option Nat) (s : zl_s) : zl_s := if t_c T n (p_andl T n tst fa tb s).1 = 124 then p_orl T n tst fo (some ((lc_push 12 0 (lc_lead pb (p_andl T n tst fa tb s).2)).1 - 1)) (t_st (p_andl T n tst fa tb s).1, lc_push 12 0 (lc_lead pb (p_andl T n tst fa tb s).2)) else ((p_andl T n tst fa tb s).1, lc_lead pb (p_andl T n tst fa tb s).2)
theorem p_orl_2 (T : Nat → Nat) (n : Nat) (tst : zl_s → zl_s) (fo : Nat) (pb : Option Nat) (s : zl_s) : p_orl T n tst (fo + 1) pb s = p_ol2 T n tst 240 none fo pb s := rfl
theorem zr_wt_j (op : Nat) (o : Option Nat) (k : zr_K) (ho : op = 11 ∨ op = 12) : zr_wt (zr_j op o k) = zr_wt k := by
  cases o with
  | none => rfl
  | some i =>
    show (if op = 11 ∨ op = 12 then 0 else 1) + zr_wt k = zr_wt k
    rw [if_pos ho, Nat.zero_add]
/-- in a condition, about to read a test -/
def r_C (d : Nat) (h : zm_M) (R : zm_R) (T : Nat → Nat) (n dp : Nat) : Prop := ∀ (m fa fo : Nat) (tb pb : Option Nat) (p : Nat) (c : zl_c) (k0 : zr_K) (g : zm_M), n < p + m → 1 ≤ p → n < p + fa → n < p + fo + 1 → c.1 + 1 + zr_wt k0 ≤ p → (zr_j 11 tb (zr_j 12 pb ((13, 0) :: k0))).length ≤ p → (∀ i, tb = some i → i < c.1) → (∀ i, pb = some i → i < c.1) → zr_f2 h g → zr_s g T n p c (zr_j 11 tb (zr_j 12 pb ((13, 0) :: k0))) (6 - dp) → (∀ x, (p_ol2 T n (p_tst T n dp) fa tb fo pb (.inr p, c)).1 = .inl x → ∀ g', zr_f2 h g' → g'.1 133 11 = t_an x → R (some (.inl 0)) g') → (∀ (tb' pb' : Option Nat) (p' : Nat) (c' : zl_c) (g' : zm_M), p < p' → zr_f2 h g' → zr_s g' T n p' c' (zr_j 11 tb' (zr_j 12 pb' ((13, 0) :: k0))) (6 - dp) → c'.1 + 1 + zr_wt k0 ≤ p' → (∀ i, tb' = some i → i < c'.1) → (∀ i, pb' = some i → i < c'.1) → t_c T n (.inr p') ≠ 38 → t_c T n (.inr p') ≠ 124 → p_ol2 T n (p_tst T n dp) fa tb fo pb (.inr p, c) = (.inr p', lc_lead pb' (lc_lead tb' c')) → r_W92 d R g') → r_W40 d R g
set_option maxHeartbeats 4000000 in
set_option maxRecDepth 100000 in
theorem r_condC {d : Nat} {h : zm_M} {R : zm_R} {T : Nat → Nat} {n dp : Nat} (hn : n ≤ 240) (hT : r_T d h R T n dp) : r_C d h R T n dp := by
  intro m
  induction m with
  | zero =>
    intro fa fo tb pb p c k0 g hm h1 hfa hfo hc hl ht hpb fg sg
    have := sg.2.1.2.2.2.2.2
    omega
  | succ m ih =>
    intro fa fo tb pb p c k0 g hm h1 hfa hfo hc hl ht hpb fg sg hb he
    have pn0 := sg.2.1.2.2.2.2.2
    obtain ⟨fa, rfl⟩ : ∃ f', fa = f' + 1 := ⟨fa - 1, by omega⟩
    have wk : zr_wt (zr_j 11 tb (zr_j 12 pb ((13, 0) :: k0))) = 1 + zr_wt k0 := by rw [zr_wt_j 11 _ _ (by decide), zr_wt_j 12 _ _ (by decide)]; rfl
    have top : ∀ x r, zr_j 11 tb (zr_j 12 pb ((13, 0) :: k0)) = x :: r → x.1 = 11 ∨ x.1 = 12 ∨ x.1 = 13 := by
      intro x r e
      cases tb with
      | some i => cases e; exact Or.inl rfl
      | none =>
        cases pb with
        | some i => cases e; exact Or.inr (Or.inl rfl)
        | none => cases e; exact Or.inr (Or.inr rfl)
    have ne : zr_j 11 tb (zr_j 12 pb ((13, 0) :: k0)) ≠ [] := by
      cases tb with
      | some i => exact fun z => by cases z
      | none =>
        cases pb with
        | some i => exact fun z => by cases z
        | none => exact fun z => by cases z
    have k0t : ∀ x r, ((13, 0) :: k0 : zr_K) = x :: r → x.1 ≠ 11 ∧ x.1 ≠ 12 := by
      intro x r e
      cases e
      exact ⟨by decide, by decide⟩
    refine hT p c _ g h1 (by rw [wk]; omega) hl (fun x r e => by have := top x r e; unfold r_cl; omega) ne fg sg (fun x hx g' f' h11 => hb x ?_ g' f' h11) (fun q hq g' f' s' => ?_)
    · have ea : (p_andl T n (p_tst T n dp) (fa + 1) tb (.inr p, c)).1 = .inl x := by rw [p_andl_s, hx, if_neg (show ¬ t_c T n (.inl x) = 38 by rw [t_c_d]; decide)]
      unfold p_ol2
      rw [ea, if_neg (show ¬ t_c T n (.inl x) = 124 by rw [t_c_d]; decide)]
    · obtain ⟨⟨a1, a2, a3, a4, a5⟩, _⟩ := p_tst_ok hn dp p c q [] h1 pn0 hn (by omega) hq
      have e1 : p_andl T n (p_tst T n dp) (fa + 1) tb (.inr p, c) = if t_c T n (.inr q) = 38 then p_andl T n (p_tst T n dp) fa (some ((lc_push 11 0 (lc_lead tb (p_tst T n dp (.inr p, c)).2)).1 - 1)) (.inr (q + 1), lc_push 11 0 (lc_lead tb (p_tst T n dp (.inr p, c)).2)) else (.inr q, lc_lead tb (p_tst T n dp (.inr p, c)).2) := by rw [p_andl_s, hq]; rfl
      generalize (p_tst T n dp (.inr p, c)).2 = c1 at *
      have l1 := lc_lead_1 tb c1
      have l2 := lc_lead_1 pb (lc_lead tb c1)
      have ht' : ∀ i, tb = some i → i < c1.1 := fun i hi => by have := ht i hi; omega
      have hpb' : ∀ i, pb = some i → i < c1.1 := fun i hi => by have := hpb i hi; omega
      intro e K hK
      refine k_Mo_ends0 s' (fun x r e => by have := top x r e; omega) (hK g' ?_)
      have cl := s'.2.1.c_le
      have s5 := s'.2.1.2.2.2.2.1
      have e41 : (zt_v (t_c T n (.inr q)) = 41) = (t_c T n (.inr q) = 41) := zt_v_eq (k := 41) cl (by decide)
      have e38 : (zt_v (t_c T n (.inr q)) = 38) = (t_c T n (.inr q) = 38) := zt_v_eq (k := 38) cl (by decide)
      have e124 : (zt_v (t_c T n (.inr q)) = 124) = (t_c T n (.inr q) = 124) := zt_v_eq (k := 124) cl (by decide)
      have hlen : (zr_j 12 pb ((13, 0) :: k0)).length ≤ (zr_j 11 tb (zr_j 12 pb ((13, 0) :: k0))).length := by
        cases tb with
        | none => exact Nat.le_refl _
        | some i => exact Nat.le_succ _
      have hlen2 : ((13, 0) :: k0 : zr_K).length ≤ (zr_j 12 pb ((13, 0) :: k0)).length := by
        cases pb with
        | none => exact Nat.le_refl _
        | some i => exact Nat.le_succ _
      by_cases h38 : t_c T n (.inr q) = 38
      · have qn : q < n := t_c_r_lt (T := T) (by omega)
        have f41 : (t_c T n (.inr q) = 41) = False := eq_false (by omega)
        have f124 : (t_c T n (.inr q) = 124) = False := eq_false (by omega)
        have t38 := eq_true h38
        rw [if_pos h38] at e1
        have eo : p_ol2 T n (p_tst T n dp) (fa + 1) tb fo pb (.inr p, c) = p_ol2 T n (p_tst T n dp) fa (some ((lc_push 11 0 (lc_lead tb c1)).1 - 1)) fo pb (.inr (q + 1), lc_push 11 0 (lc_lead tb c1)) := by
          unfold p_ol2
          rw [e1]
        obtain ⟨b1, b2, b3⟩ := lc_push_at (op := 11) (v := 0) (c := lc_lead tb c1) (by omega)
        unfold r_W92
        refine zm_go g_Mo_readsCondition [40, 92] 30 (by decide +kernel) ok_Mo_readsCondition _ rfl ?_
        simp only [↓zq, ↓reduceIte, zr_si2, zr_sr1, zr_cp2, zr_tl, zr_tn, shq, List.contains_nil, List.contains_cons, Nat.reduceBEq, Bool.false_or, Bool.or_false, Bool.true_or, Bool.false_eq_true, if_false, if_true, true_and, and_true, List.set_cons_zero, List.set_cons_succ, List.length_cons, List.length_nil, Nat.reduceAdd, Nat.reduceLeDiff, Nat.le_refl, Nat.zero_le, true_or, or_true, zn_cl, ↓jj_Mo_readsCondition]
        refine k_Mo_here s'.2.1 ?_
        simp only [↓zq, ↓reduceIte, zr_si2, zr_sr1, zr_cp2, zr_tl, zr_tn, shq, List.contains_nil, List.contains_cons, Nat.reduceBEq, Bool.false_or, Bool.or_false, Bool.true_or, Bool.false_eq_true, if_false, if_true, true_and, and_true, List.set_cons_zero, List.set_cons_succ, List.length_cons, List.length_nil, Nat.reduceAdd, Nat.reduceLeDiff, Nat.le_refl, Nat.zero_le, true_or, or_true, zn_cl, ↓jj_Mo_readsCondition, e41, f41]
        simp only [not_false_eq_true, not_true_eq_false, false_imp_iff, true_imp_iff, forall_const, and_true, true_and, and_self, false_or, or_false, Int32.reduceLT, Int32.reduceLE, Int32.reduceSub, Int32.reduceAdd]
        refine k_Mo_here s'.2.1 ?_
        simp only [↓zq, ↓reduceIte, zr_si2, zr_sr1, zr_cp2, zr_tl, zr_tn, shq, List.contains_nil, List.contains_cons, Nat.reduceBEq, Bool.false_or, Bool.or_false, Bool.true_or, Bool.false_eq_true, if_false, if_true, true_and, and_true, List.set_cons_zero, List.set_cons_succ, List.length_cons, List.length_nil, Nat.reduceAdd, Nat.reduceLeDiff, Nat.le_refl, Nat.zero_le, true_or, or_true, zn_cl, ↓jj_Mo_readsCondition, e38, t38]
        simp only [not_false_eq_true, not_true_eq_false, false_imp_iff, true_imp_iff, forall_const, and_true, true_and, and_self, false_or, or_false, Int32.reduceLT, Int32.reduceLE, Int32.reduceSub, Int32.reduceAdd]
        refine k_Mo_here s'.2.1 ?_
        simp only [↓zq, ↓reduceIte, zr_si2, zr_sr1, zr_cp2, zr_tl, zr_tn, shq, List.contains_nil, List.contains_cons, Nat.reduceBEq, Bool.false_or, Bool.or_false, Bool.true_or, Bool.false_eq_true, if_false, if_true, true_and, and_true, List.set_cons_zero, List.set_cons_succ, List.length_cons, List.length_nil, Nat.reduceAdd, Nat.reduceLeDiff, Nat.le_refl, Nat.zero_le, true_or, or_true, zn_cl, ↓jj_Mo_readsCondition, e124, f124]
        simp only [not_false_eq_true, not_true_eq_false, false_imp_iff, true_imp_iff, forall_const, and_true, true_and, and_self, false_or, or_false, Int32.reduceLT, Int32.reduceLE, Int32.reduceSub, Int32.reduceAdd]
        refine k_Mo_landsN (tb := tb) (pb := pb) s' ht' k0t (fun g2 f2 s2 => ?_)
        simp only [↓zq, ↓reduceIte, zr_si2, zr_sr1, zr_cp2, zr_tl, zr_tn, shq, List.contains_nil, List.contains_cons, Nat.reduceBEq, Bool.false_or, Bool.or_false, Bool.true_or, Bool.false_eq_true, if_false, if_true, true_and, and_true, List.set_cons_zero, List.set_cons_succ, List.length_cons, List.length_nil, Nat.reduceAdd, Nat.reduceLeDiff, Nat.le_refl, Nat.zero_le, true_or, or_true, zn_cl, ↓jj_Mo_readsCondition]
        refine k_Mo_here s2.2.1 ?_
        simp only [↓zq, ↓reduceIte, zr_si2, zr_sr1, zr_cp2, zr_tl, zr_tn, shq, List.contains_nil, List.contains_cons, Nat.reduceBEq, Bool.false_or, Bool.or_false, Bool.true_or, Bool.false_eq_true, if_false, if_true, true_and, and_true, List.set_cons_zero, List.set_cons_succ, List.length_cons, List.length_nil, Nat.reduceAdd, Nat.reduceLeDiff, Nat.le_refl, Nat.zero_le, true_or, or_true, zn_cl, ↓jj_Mo_readsCondition, e38, t38]
        simp only [not_false_eq_true, not_true_eq_false, false_imp_iff, true_imp_iff, forall_const, and_true, true_and, and_self, false_or, or_false, Int32.reduceLT, Int32.reduceLE, Int32.reduceSub, Int32.reduceAdd]
        refine k_Mo_jumps (op := 11) s2 (by decide) (by omega) (by omega) qn (fun g3 f3 s3 => ?_)
        simp only [↓zq, ↓reduceIte, zr_si2, zr_sr1, zr_cp2, zr_tl, zr_tn, shq, List.contains_nil, List.contains_cons, Nat.reduceBEq, Bool.false_or, Bool.or_false, Bool.true_or, Bool.false_eq_true, if_false, if_true, true_and, and_true, List.set_cons_zero, List.set_cons_succ, List.length_cons, List.length_nil, Nat.reduceAdd, Nat.reduceLeDiff, Nat.le_refl, Nat.zero_le, true_or, or_true, zn_cl, ↓jj_Mo_readsCondition]
        have ek : ((11, (lc_lead tb c1).1) :: zr_j 12 pb ((13, 0) :: k0) : zr_K) = zr_j 11 (some ((lc_push 11 0 (lc_lead tb c1)).1 - 1)) (zr_j 12 pb ((13, 0) :: k0)) := by rw [b1, Nat.add_sub_cancel]; rfl
        rw [ek] at s3
        refine ih fa fo _ pb (q + 1) _ k0 g3 (by omega) (by omega) (by omega) (by omega) (by omega) (by rw [← ek, List.length_cons]; omega) (fun i hi => by cases hi; omega) (fun i hi => by have := hpb' i hi; omega) ((f'.tr f2).tr f3) s3 (fun x hx g4 f4 h11 => hb x (by rw [eo]; exact hx) g4 f4 h11) (fun tb' pb' p' c' g4 r1 r2 r3 r4 r5 r6 r7 r8 r9 => he tb' pb' p' c' g4 (by omega) r2 r3 r4 r5 r6 r7 r8 (by rw [eo]; exact r9))
      · rw [if_neg h38] at e1
        by_cases h124 : t_c T n (.inr q) = 124
        · have qn : q < n := t_c_r_lt (T := T) (by omega)
          have f41 : (t_c T n (.inr q) = 41) = False := eq_false (by omega)
          have f38 : (t_c T n (.inr q) = 38) = False := eq_false h38
          have t124 := eq_true h124
          obtain ⟨fo, rfl⟩ : ∃ f', fo = f' + 1 := ⟨fo - 1, by omega⟩
          have eo : p_ol2 T n (p_tst T n dp) (fa + 1) tb (fo + 1) pb (.inr p, c) = p_ol2 T n (p_tst T n dp) 240 none fo (some ((lc_push 12 0 (lc_lead pb (lc_lead tb c1))).1 - 1)) (.inr (q + 1), lc_push 12 0 (lc_lead pb (lc_lead tb c1))) := by
            conv => lhs; unfold p_ol2
            rw [e1]
            dsimp only
            rw [if_pos h124]
            rfl
          obtain ⟨b1, b2, b3⟩ := lc_push_at (op := 12) (v := 0) (c := lc_lead pb (lc_lead tb c1)) (by omega)
          unfold r_W92
          refine zm_go g_Mo_readsCondition [40, 92] 30 (by decide +kernel) ok_Mo_readsCondition _ rfl ?_
          simp only [↓zq, ↓reduceIte, zr_si2, zr_sr1, zr_cp2, zr_tl, zr_tn, shq, List.contains_nil, List.contains_cons, Nat.reduceBEq, Bool.false_or, Bool.or_false, Bool.true_or, Bool.false_eq_true, if_false, if_true, true_and, and_true, List.set_cons_zero, List.set_cons_succ, List.length_cons, List.length_nil, Nat.reduceAdd, Nat.reduceLeDiff, Nat.le_refl, Nat.zero_le, true_or, or_true, zn_cl, ↓jj_Mo_readsCondition]
          refine k_Mo_here s'.2.1 ?_
          simp only [↓zq, ↓reduceIte, zr_si2, zr_sr1, zr_cp2, zr_tl, zr_tn, shq, List.contains_nil, List.contains_cons, Nat.reduceBEq, Bool.false_or, Bool.or_false, Bool.true_or, Bool.false_eq_true, if_false, if_true, true_and, and_true, List.set_cons_zero, List.set_cons_succ, List.length_cons, List.length_nil, Nat.reduceAdd, Nat.reduceLeDiff, Nat.le_refl, Nat.zero_le, true_or, or_true, zn_cl, ↓jj_Mo_readsCondition, e41, f41]
          simp only [not_false_eq_true, not_true_eq_false, false_imp_iff, true_imp_iff, forall_const, and_true, true_and, and_self, false_or, or_false, Int32.reduceLT, Int32.reduceLE, Int32.reduceSub, Int32.reduceAdd]
          refine k_Mo_here s'.2.1 ?_
          simp only [↓zq, ↓reduceIte, zr_si2, zr_sr1, zr_cp2, zr_tl, zr_tn, shq, List.contains_nil, List.contains_cons, Nat.reduceBEq, Bool.false_or, Bool.or_false, Bool.true_or, Bool.false_eq_true, if_false, if_true, true_and, and_true, List.set_cons_zero, List.set_cons_succ, List.length_cons, List.length_nil, Nat.reduceAdd, Nat.reduceLeDiff, Nat.le_refl, Nat.zero_le, true_or, or_true, zn_cl, ↓jj_Mo_readsCondition, e38, f38]
          simp only [not_false_eq_true, not_true_eq_false, false_imp_iff, true_imp_iff, forall_const, and_true, true_and, and_self, false_or, or_false, Int32.reduceLT, Int32.reduceLE, Int32.reduceSub, Int32.reduceAdd]
          refine k_Mo_here s'.2.1 ?_
          simp only [↓zq, ↓reduceIte, zr_si2, zr_sr1, zr_cp2, zr_tl, zr_tn, shq, List.contains_nil, List.contains_cons, Nat.reduceBEq, Bool.false_or, Bool.or_false, Bool.true_or, Bool.false_eq_true, if_false, if_true, true_and, and_true, List.set_cons_zero, List.set_cons_succ, List.length_cons, List.length_nil, Nat.reduceAdd, Nat.reduceLeDiff, Nat.le_refl, Nat.zero_le, true_or, or_true, zn_cl, ↓jj_Mo_readsCondition, e124, t124]
          simp only [not_false_eq_true, not_true_eq_false, false_imp_iff, true_imp_iff, forall_const, and_true, true_and, and_self, false_or, or_false, Int32.reduceLT, Int32.reduceLE, Int32.reduceSub, Int32.reduceAdd]
          refine k_Mo_here s'.2.1 ?_
          simp only [↓zq, ↓reduceIte, zr_si2, zr_sr1, zr_cp2, zr_tl, zr_tn, shq, List.contains_nil, List.contains_cons, Nat.reduceBEq, Bool.false_or, Bool.or_false, Bool.true_or, Bool.false_eq_true, if_false, if_true, true_and, and_true, List.set_cons_zero, List.set_cons_succ, List.length_cons, List.length_nil, Nat.reduceAdd, Nat.reduceLeDiff, Nat.le_refl, Nat.zero_le, true_or, or_true, zn_cl, ↓jj_Mo_readsCondition, e124, t124]
          simp only [not_false_eq_true, not_true_eq_false, false_imp_iff, true_imp_iff, forall_const, and_true, true_and, and_self, false_or, or_false, Int32.reduceLT, Int32.reduceLE, Int32.reduceSub, Int32.reduceAdd]
          refine k_Mo_landsA (tb := tb) (pb := pb) s' ht' hpb' k0t (fun g2 f2 s2 => ?_)
          simp only [↓zq, ↓reduceIte, zr_si2, zr_sr1, zr_cp2, zr_tl, zr_tn, shq, List.contains_nil, List.contains_cons, Nat.reduceBEq, Bool.false_or, Bool.or_false, Bool.true_or, Bool.false_eq_true, if_false, if_true, true_and, and_true, List.set_cons_zero, List.set_cons_succ, List.length_cons, List.length_nil, Nat.reduceAdd, Nat.reduceLeDiff, Nat.le_refl, Nat.zero_le, true_or, or_true, zn_cl, ↓jj_Mo_readsCondition]
          refine k_Mo_here s2.2.1 ?_
          simp only [↓zq, ↓reduceIte, zr_si2, zr_sr1, zr_cp2, zr_tl, zr_tn, shq, List.contains_nil, List.contains_cons, Nat.reduceBEq, Bool.false_or, Bool.or_false, Bool.true_or, Bool.false_eq_true, if_false, if_true, true_and, and_true, List.set_cons_zero, List.set_cons_succ, List.length_cons, List.length_nil, Nat.reduceAdd, Nat.reduceLeDiff, Nat.le_refl, Nat.zero_le, true_or, or_true, zn_cl, ↓jj_Mo_readsCondition, e38, f38]
          simp only [not_false_eq_true, not_true_eq_false, false_imp_iff, true_imp_iff, forall_const, and_true, true_and, and_self, false_or, or_false, Int32.reduceLT, Int32.reduceLE, Int32.reduceSub, Int32.reduceAdd]
          refine k_Mo_jumps (op := 12) s2 (by decide) (by omega) (by omega) qn (fun g3 f3 s3 => ?_)
          simp only [↓zq, ↓reduceIte, zr_si2, zr_sr1, zr_cp2, zr_tl, zr_tn, shq, List.contains_nil, List.contains_cons, Nat.reduceBEq, Bool.false_or, Bool.or_false, Bool.true_or, Bool.false_eq_true, if_false, if_true, true_and, and_true, List.set_cons_zero, List.set_cons_succ, List.length_cons, List.length_nil, Nat.reduceAdd, Nat.reduceLeDiff, Nat.le_refl, Nat.zero_le, true_or, or_true, zn_cl, ↓jj_Mo_readsCondition]
          have ek : ((12, (lc_lead pb (lc_lead tb c1)).1) :: (13, 0) :: k0 : zr_K) = zr_j 11 none (zr_j 12 (some ((lc_push 12 0 (lc_lead pb (lc_lead tb c1))).1 - 1)) ((13, 0) :: k0)) := by rw [b1, Nat.add_sub_cancel]; rfl
          rw [ek] at s3
          refine ih 240 fo none _ (q + 1) _ k0 g3 (by omega) (by omega) (by omega) (by omega) (by omega) (by rw [← ek, List.length_cons]; omega) (fun i hi => by cases hi) (fun i hi => by cases hi; omega) ((f'.tr f2).tr f3) s3 (fun x hx g4 f4 h11 => hb x (by rw [eo]; exact hx) g4 f4 h11) (fun tb' pb' p' c' g4 r1 r2 r3 r4 r5 r6 r7 r8 r9 => he tb' pb' p' c' g4 (by omega) r2 r3 r4 r5 r6 r7 r8 (by rw [eo]; exact r9))
        · refine he tb pb q c1 g' a1 f' s' (by omega) ht' hpb' h38 h124 ?_
          unfold p_ol2
          rw [e1]
          dsimp only
          rw [if_neg h124]
