set_option maxHeartbeats 4000000 in
set_option maxRecDepth 100000 in
theorem r_testT {d : Nat} {h : zm_M} {R : zm_R} {T : Nat → Nat} {n : Nat} (hn : n ≤ 240) : ∀ dp, dp ≤ 6 → r_T d h R T n dp := by
  intro dp
  induction dp with
  | zero =>
    intro h6 p c k g h1 hc hl hk hne fg sg hb hg
    by_cases hbr : t_c T n (.inr p) = 33 ∨ t_c T n (.inr p) = 40
    · have pn : p < n := t_c_r_lt (T := T) (by omega)
      have cl := sg.2.1.c_le
      have e33 : (zt_v (t_c T n (.inr p)) = 33) = (t_c T n (.inr p) = 33) := zt_v_eq (k := 33) cl (by decide)
      have e40 : (zt_v (t_c T n (.inr p)) = 40) = (t_c T n (.inr p) = 40) := zt_v_eq (k := 40) cl (by decide)
      have hb5 : ∀ g', zr_f2 g g' → g'.1 133 11 = t_an (5, p) → R (some (.inl 0)) g' := fun g' f' h11 => hb (5, p) (by
        show (p_tb T n (p_sum T n 0) id id 0 (.inr p, c)).1 = _
        unfold p_tb
        dsimp only
        rw [if_pos hbr, if_pos rfl]
        rfl) g' (fg.tr f') h11
      unfold r_W40
      by_cases h33 : t_c T n (.inr p) = 33
      · have t33 := eq_true h33
        refine zm_go g_Mo_readsCondition [40, 92] 30 (by decide +kernel) ok_Mo_readsCondition _ rfl ?_
        simp only [↓zq, ↓reduceIte, zr_si2, zr_sr1, zr_cp2, zr_tl, zr_tn, shq, List.contains_nil, List.contains_cons, Nat.reduceBEq, Bool.false_or, Bool.or_false, Bool.true_or, Bool.false_eq_true, if_false, if_true, true_and, and_true, List.set_cons_zero, List.set_cons_succ, List.length_cons, List.length_nil, Nat.reduceAdd, Nat.reduceLeDiff, Nat.le_refl, Nat.zero_le, true_or, or_true, zn_cl, ↓jj_Mo_readsCondition]
        refine k_Mo_here sg.2.1 ?_
        simp only [↓zq, ↓reduceIte, zr_si2, zr_sr1, zr_cp2, zr_tl, zr_tn, shq, List.contains_nil, List.contains_cons, Nat.reduceBEq, Bool.false_or, Bool.or_false, Bool.true_or, Bool.false_eq_true, if_false, if_true, true_and, and_true, List.set_cons_zero, List.set_cons_succ, List.length_cons, List.length_nil, Nat.reduceAdd, Nat.reduceLeDiff, Nat.le_refl, Nat.zero_le, true_or, or_true, zn_cl, ↓jj_Mo_readsCondition, e33, t33]
        simp only [not_false_eq_true, not_true_eq_false, false_imp_iff, true_imp_iff, forall_const, and_true, true_and, and_self, false_or, or_false, Int32.reduceLT, Int32.reduceLE, Int32.reduceSub, Int32.reduceAdd]
        refine k_Mo_here sg.2.1 ?_
        simp only [↓zq, ↓reduceIte, zr_si2, zr_sr1, zr_cp2, zr_tl, zr_tn, shq, List.contains_nil, List.contains_cons, Nat.reduceBEq, Bool.false_or, Bool.or_false, Bool.true_or, Bool.false_eq_true, if_false, if_true, true_and, and_true, List.set_cons_zero, List.set_cons_succ, List.length_cons, List.length_nil, Nat.reduceAdd, Nat.reduceLeDiff, Nat.le_refl, Nat.zero_le, true_or, or_true, zn_cl, ↓jj_Mo_readsCondition, e33, t33]
        simp only [not_false_eq_true, not_true_eq_false, false_imp_iff, true_imp_iff, forall_const, and_true, true_and, and_self, false_or, or_false, Int32.reduceLT, Int32.reduceLE, Int32.reduceSub, Int32.reduceAdd]
        refine k_Mo_opens (wh := 10) sg (by decide) pn (by omega) (fun _ g2 f2 h11 => ?_) (fun z => absurd z (by decide))
        simp only [↓zq, ↓reduceIte, zr_si2, zr_sr1, zr_cp2, zr_tl, zr_tn, shq, List.contains_nil, List.contains_cons, Nat.reduceBEq, Bool.false_or, Bool.or_false, Bool.true_or, Bool.false_eq_true, if_false, if_true, true_and, and_true, List.set_cons_zero, List.set_cons_succ, List.length_cons, List.length_nil, Nat.reduceAdd, Nat.reduceLeDiff, Nat.le_refl, Nat.zero_le, true_or, or_true, zn_cl, ↓jj_Mo_readsCondition]
        exact ⟨fun z => (by first | exact absurd trivial z | exact absurd rfl z | exact absurd z (by decide)), fun _ => hb5 g2 f2 h11⟩
      · have t33 := eq_false h33
        have t40 : (t_c T n (.inr p) = 40) = True := eq_true (by omega)
        refine zm_go g_Mo_readsCondition [40, 92] 30 (by decide +kernel) ok_Mo_readsCondition _ rfl ?_
        simp only [↓zq, ↓reduceIte, zr_si2, zr_sr1, zr_cp2, zr_tl, zr_tn, shq, List.contains_nil, List.contains_cons, Nat.reduceBEq, Bool.false_or, Bool.or_false, Bool.true_or, Bool.false_eq_true, if_false, if_true, true_and, and_true, List.set_cons_zero, List.set_cons_succ, List.length_cons, List.length_nil, Nat.reduceAdd, Nat.reduceLeDiff, Nat.le_refl, Nat.zero_le, true_or, or_true, zn_cl, ↓jj_Mo_readsCondition]
        refine k_Mo_here sg.2.1 ?_
        simp only [↓zq, ↓reduceIte, zr_si2, zr_sr1, zr_cp2, zr_tl, zr_tn, shq, List.contains_nil, List.contains_cons, Nat.reduceBEq, Bool.false_or, Bool.or_false, Bool.true_or, Bool.false_eq_true, if_false, if_true, true_and, and_true, List.set_cons_zero, List.set_cons_succ, List.length_cons, List.length_nil, Nat.reduceAdd, Nat.reduceLeDiff, Nat.le_refl, Nat.zero_le, true_or, or_true, zn_cl, ↓jj_Mo_readsCondition, e33, t33]
        simp only [not_false_eq_true, not_true_eq_false, false_imp_iff, true_imp_iff, forall_const, and_true, true_and, and_self, false_or, or_false, Int32.reduceLT, Int32.reduceLE, Int32.reduceSub, Int32.reduceAdd]
        refine k_Mo_here sg.2.1 ?_
        simp only [↓zq, ↓reduceIte, zr_si2, zr_sr1, zr_cp2, zr_tl, zr_tn, shq, List.contains_nil, List.contains_cons, Nat.reduceBEq, Bool.false_or, Bool.or_false, Bool.true_or, Bool.false_eq_true, if_false, if_true, true_and, and_true, List.set_cons_zero, List.set_cons_succ, List.length_cons, List.length_nil, Nat.reduceAdd, Nat.reduceLeDiff, Nat.le_refl, Nat.zero_le, true_or, or_true, zn_cl, ↓jj_Mo_readsCondition, e40, t40]
        simp only [not_false_eq_true, not_true_eq_false, false_imp_iff, true_imp_iff, forall_const, and_true, true_and, and_self, false_or, or_false, Int32.reduceLT, Int32.reduceLE, Int32.reduceSub, Int32.reduceAdd]
        refine k_Mo_here sg.2.1 ?_
        simp only [↓zq, ↓reduceIte, zr_si2, zr_sr1, zr_cp2, zr_tl, zr_tn, shq, List.contains_nil, List.contains_cons, Nat.reduceBEq, Bool.false_or, Bool.or_false, Bool.true_or, Bool.false_eq_true, if_false, if_true, true_and, and_true, List.set_cons_zero, List.set_cons_succ, List.length_cons, List.length_nil, Nat.reduceAdd, Nat.reduceLeDiff, Nat.le_refl, Nat.zero_le, true_or, or_true, zn_cl, ↓jj_Mo_readsCondition, e33, t33]
        simp only [not_false_eq_true, not_true_eq_false, false_imp_iff, true_imp_iff, forall_const, and_true, true_and, and_self, false_or, or_false, Int32.reduceLT, Int32.reduceLE, Int32.reduceSub, Int32.reduceAdd]
        refine k_Mo_opens (wh := 13) sg (by decide) pn (by omega) (fun _ g2 f2 h11 => ?_) (fun z => absurd z (by decide))
        simp only [↓zq, ↓reduceIte, zr_si2, zr_sr1, zr_cp2, zr_tl, zr_tn, shq, List.contains_nil, List.contains_cons, Nat.reduceBEq, Bool.false_or, Bool.or_false, Bool.true_or, Bool.false_eq_true, if_false, if_true, true_and, and_true, List.set_cons_zero, List.set_cons_succ, List.length_cons, List.length_nil, Nat.reduceAdd, Nat.reduceLeDiff, Nat.le_refl, Nat.zero_le, true_or, or_true, zn_cl, ↓jj_Mo_readsCondition]
        exact ⟨fun z => (by first | exact absurd trivial z | exact absurd rfl z | exact absurd z (by decide)), fun _ => hb5 g2 f2 h11⟩
    · exact r_cmp hn h6 h1 hc hl hk fg sg (fun z => hbr (Or.inl z)) (fun z => hbr (Or.inr z)) hb hg
  | succ dp ih =>
    intro h6 p c k g h1 hc hl hk hne fg sg hb hg
    have ihT := ih (by omega)
    have ihC := r_condC hn ihT
    by_cases hbr : t_c T n (.inr p) = 33 ∨ t_c T n (.inr p) = 40
    · have pn : p < n := t_c_r_lt (T := T) (by omega)
      have cl := sg.2.1.c_le
      have e33 : (zt_v (t_c T n (.inr p)) = 33) = (t_c T n (.inr p) = 33) := zt_v_eq (k := 33) cl (by decide)
      have e40 : (zt_v (t_c T n (.inr p)) = 40) = (t_c T n (.inr p) = 40) := zt_v_eq (k := 40) cl (by decide)
      have en : 6 - (dp + 1) + 1 = 6 - dp := by omega
      unfold r_W40
      by_cases h33 : t_c T n (.inr p) = 33
      · have ef : p_tst T n (dp + 1) (.inr p, c) = ((p_tst T n dp (.inr (p + 1), c)).1, lc_push 10 0 (p_tst T n dp (.inr (p + 1), c)).2) := by
          show p_tb T n (p_sum T n (dp + 1)) (p_tst T n dp) (p_orl T n (p_tst T n dp) 240 none) (dp + 1) (.inr p, c) = _
          unfold p_tb
          dsimp only
          rw [if_pos hbr, if_neg (by omega), if_pos h33]
          rfl
        rw [ef] at hb hg
        dsimp only at hb hg
        have t33 := eq_true h33
        refine zm_go g_Mo_readsCondition [40, 92] 30 (by decide +kernel) ok_Mo_readsCondition _ rfl ?_
        simp only [↓zq, ↓reduceIte, zr_si2, zr_sr1, zr_cp2, zr_tl, zr_tn, shq, List.contains_nil, List.contains_cons, Nat.reduceBEq, Bool.false_or, Bool.or_false, Bool.true_or, Bool.false_eq_true, if_false, if_true, true_and, and_true, List.set_cons_zero, List.set_cons_succ, List.length_cons, List.length_nil, Nat.reduceAdd, Nat.reduceLeDiff, Nat.le_refl, Nat.zero_le, true_or, or_true, zn_cl, ↓jj_Mo_readsCondition]
        refine k_Mo_here sg.2.1 ?_
        simp only [↓zq, ↓reduceIte, zr_si2, zr_sr1, zr_cp2, zr_tl, zr_tn, shq, List.contains_nil, List.contains_cons, Nat.reduceBEq, Bool.false_or, Bool.or_false, Bool.true_or, Bool.false_eq_true, if_false, if_true, true_and, and_true, List.set_cons_zero, List.set_cons_succ, List.length_cons, List.length_nil, Nat.reduceAdd, Nat.reduceLeDiff, Nat.le_refl, Nat.zero_le, true_or, or_true, zn_cl, ↓jj_Mo_readsCondition, e33, t33]
        simp only [not_false_eq_true, not_true_eq_false, false_imp_iff, true_imp_iff, forall_const, and_true, true_and, and_self, false_or, or_false, Int32.reduceLT, Int32.reduceLE, Int32.reduceSub, Int32.reduceAdd]
        refine k_Mo_here sg.2.1 ?_
        simp only [↓zq, ↓reduceIte, zr_si2, zr_sr1, zr_cp2, zr_tl, zr_tn, shq, List.contains_nil, List.contains_cons, Nat.reduceBEq, Bool.false_or, Bool.or_false, Bool.true_or, Bool.false_eq_true, if_false, if_true, true_and, and_true, List.set_cons_zero, List.set_cons_succ, List.length_cons, List.length_nil, Nat.reduceAdd, Nat.reduceLeDiff, Nat.le_refl, Nat.zero_le, true_or, or_true, zn_cl, ↓jj_Mo_readsCondition, e33, t33]
        simp only [not_false_eq_true, not_true_eq_false, false_imp_iff, true_imp_iff, forall_const, and_true, true_and, and_self, false_or, or_false, Int32.reduceLT, Int32.reduceLE, Int32.reduceSub, Int32.reduceAdd]
        refine k_Mo_opens (wh := 10) sg (by decide) pn (by omega) (fun z => absurd z (by omega)) (fun _ g2 f2 s2 => ?_)
        simp only [↓zq, ↓reduceIte, zr_si2, zr_sr1, zr_cp2, zr_tl, zr_tn, shq, List.contains_nil, List.contains_cons, Nat.reduceBEq, Bool.false_or, Bool.or_false, Bool.true_or, Bool.false_eq_true, if_false, if_true, true_and, and_true, List.set_cons_zero, List.set_cons_succ, List.length_cons, List.length_nil, Nat.reduceAdd, Nat.reduceLeDiff, Nat.le_refl, Nat.zero_le, true_or, or_true, zn_cl, ↓jj_Mo_readsCondition]
        refine ⟨fun _ => ?_, fun z => absurd z (by decide)⟩
        rw [en] at s2
        have w1 : zr_wt ((10, 0) :: k) = 1 + zr_wt k := rfl
        refine ihT (p + 1) c ((10, 0) :: k) g2 (by omega) (by rw [w1]; omega) (by rw [List.length_cons]; omega) (fun x r e => by cases e; unfold r_cl; omega) (fun z => by cases z) (fg.tr f2) s2 hb (fun p' hp' g3 f3 s3 => ?_)
        obtain ⟨⟨a1, a2, a3, a4, a5⟩, _⟩ := p_tst_ok hn dp (p + 1) c p' [] (by omega) pn hn (by omega) hp'
        intro e K hK
        rw [← en] at s3
        refine k_Mo_ends1 s3 (by omega) (fun g4 f4 s4 => ?_)
        exact hg p' hp' g4 (f3.tr f4) s4 e K hK
      · have h40 : t_c T n (.inr p) = 40 := by omega
        have ef : p_tst T n (dp + 1) (.inr p, c) = (t_tk T n 41 (p_orl T n (p_tst T n dp) 240 none (.inr (p + 1), c)).1, (p_orl T n (p_tst T n dp) 240 none (.inr (p + 1), c)).2) := by
          show p_tb T n (p_sum T n (dp + 1)) (p_tst T n dp) (p_orl T n (p_tst T n dp) 240 none) (dp + 1) (.inr p, c) = _
          unfold p_tb
          dsimp only
          rw [if_pos hbr, if_neg (by omega), if_neg h33]
          rfl
        rw [ef, p_orl_2 T n (p_tst T n dp) 239 none] at hb hg
        dsimp only at hb hg
        have t33 := eq_false h33
        have t40 := eq_true h40
        refine zm_go g_Mo_readsCondition [40, 92] 30 (by decide +kernel) ok_Mo_readsCondition _ rfl ?_
        simp only [↓zq, ↓reduceIte, zr_si2, zr_sr1, zr_cp2, zr_tl, zr_tn, shq, List.contains_nil, List.contains_cons, Nat.reduceBEq, Bool.false_or, Bool.or_false, Bool.true_or, Bool.false_eq_true, if_false, if_true, true_and, and_true, List.set_cons_zero, List.set_cons_succ, List.length_cons, List.length_nil, Nat.reduceAdd, Nat.reduceLeDiff, Nat.le_refl, Nat.zero_le, true_or, or_true, zn_cl, ↓jj_Mo_readsCondition]
        refine k_Mo_here sg.2.1 ?_
        simp only [↓zq, ↓reduceIte, zr_si2, zr_sr1, zr_cp2, zr_tl, zr_tn, shq, List.contains_nil, List.contains_cons, Nat.reduceBEq, Bool.false_or, Bool.or_false, Bool.true_or, Bool.false_eq_true, if_false, if_true, true_and, and_true, List.set_cons_zero, List.set_cons_succ, List.length_cons, List.length_nil, Nat.reduceAdd, Nat.reduceLeDiff, Nat.le_refl, Nat.zero_le, true_or, or_true, zn_cl, ↓jj_Mo_readsCondition, e33, t33]
        simp only [not_false_eq_true, not_true_eq_false, false_imp_iff, true_imp_iff, forall_const, and_true, true_and, and_self, false_or, or_false, Int32.reduceLT, Int32.reduceLE, Int32.reduceSub, Int32.reduceAdd]
        refine k_Mo_here sg.2.1 ?_
        simp only [↓zq, ↓reduceIte, zr_si2, zr_sr1, zr_cp2, zr_tl, zr_tn, shq, List.contains_nil, List.contains_cons, Nat.reduceBEq, Bool.false_or, Bool.or_false, Bool.true_or, Bool.false_eq_true, if_false, if_true, true_and, and_true, List.set_cons_zero, List.set_cons_succ, List.length_cons, List.length_nil, Nat.reduceAdd, Nat.reduceLeDiff, Nat.le_refl, Nat.zero_le, true_or, or_true, zn_cl, ↓jj_Mo_readsCondition, e40, t40]
        simp only [not_false_eq_true, not_true_eq_false, false_imp_iff, true_imp_iff, forall_const, and_true, true_and, and_self, false_or, or_false, Int32.reduceLT, Int32.reduceLE, Int32.reduceSub, Int32.reduceAdd]
        refine k_Mo_here sg.2.1 ?_
        simp only [↓zq, ↓reduceIte, zr_si2, zr_sr1, zr_cp2, zr_tl, zr_tn, shq, List.contains_nil, List.contains_cons, Nat.reduceBEq, Bool.false_or, Bool.or_false, Bool.true_or, Bool.false_eq_true, if_false, if_true, true_and, and_true, List.set_cons_zero, List.set_cons_succ, List.length_cons, List.length_nil, Nat.reduceAdd, Nat.reduceLeDiff, Nat.le_refl, Nat.zero_le, true_or, or_true, zn_cl, ↓jj_Mo_readsCondition, e33, t33]
        simp only [not_false_eq_true, not_true_eq_false, false_imp_iff, true_imp_iff, forall_const, and_true, true_and, and_self, false_or, or_false, Int32.reduceLT, Int32.reduceLE, Int32.reduceSub, Int32.reduceAdd]
        refine k_Mo_opens (wh := 13) sg (by decide) pn (by omega) (fun z => absurd z (by omega)) (fun _ g2 f2 s2 => ?_)
        simp only [↓zq, ↓reduceIte, zr_si2, zr_sr1, zr_cp2, zr_tl, zr_tn, shq, List.contains_nil, List.contains_cons, Nat.reduceBEq, Bool.false_or, Bool.or_false, Bool.true_or, Bool.false_eq_true, if_false, if_true, true_and, and_true, List.set_cons_zero, List.set_cons_succ, List.length_cons, List.length_nil, Nat.reduceAdd, Nat.reduceLeDiff, Nat.le_refl, Nat.zero_le, true_or, or_true, zn_cl, ↓jj_Mo_readsCondition]
        refine ⟨fun _ => ?_, fun z => absurd z (by decide)⟩
        rw [en] at s2
        refine ihC (n + 1) 240 239 none none (p + 1) c k g2 (by omega) (by omega) (by omega) (by omega) (by omega) (by show ((13, 0) :: k : zr_K).length ≤ p + 1; rw [List.length_cons]; omega) (fun i hi => by cases hi) (fun i hi => by cases hi) (fg.tr f2) s2 (fun x hx g' f' h11 => hb x (t_tk_i (by decide) hx) g' f' h11) (fun tb' pb' p' c' g3 r1 r2 r3 r4 r5 r6 r7 r8 r9 => ?_)
        rw [r9] at hb hg
        dsimp only at hb hg
        have cl3 := r3.2.1.c_le
        have s53 := r3.2.1.2.2.2.2.1
        have e41 : (zt_v (t_c T n (.inr p')) = 41) = (t_c T n (.inr p') = 41) := zt_v_eq (k := 41) cl3 (by decide)
        have f38 : (zt_v (t_c T n (.inr p')) = 38) = False := by rw [show (38 : Int32) = nI 38 from rfl, zt_v_eq cl3 (by decide)]; exact eq_false r7
        have f124 : (zt_v (t_c T n (.inr p')) = 124) = False := by rw [show (124 : Int32) = nI 124 from rfl, zt_v_eq cl3 (by decide)]; exact eq_false r8
        unfold r_W92
        by_cases h41 : t_c T n (.inr p') = 41
        · have t41 := eq_true h41
          have pn' : p' < n := t_c_r_lt (T := T) (by omega)
          refine zm_go g_Mo_readsCondition [40, 92] 30 (by decide +kernel) ok_Mo_readsCondition _ rfl ?_
          simp only [↓zq, ↓reduceIte, zr_si2, zr_sr1, zr_cp2, zr_tl, zr_tn, shq, List.contains_nil, List.contains_cons, Nat.reduceBEq, Bool.false_or, Bool.or_false, Bool.true_or, Bool.false_eq_true, if_false, if_true, true_and, and_true, List.set_cons_zero, List.set_cons_succ, List.length_cons, List.length_nil, Nat.reduceAdd, Nat.reduceLeDiff, Nat.le_refl, Nat.zero_le, true_or, or_true, zn_cl, ↓jj_Mo_readsCondition]
          refine k_Mo_here r3.2.1 ?_
          simp only [↓zq, ↓reduceIte, zr_si2, zr_sr1, zr_cp2, zr_tl, zr_tn, shq, List.contains_nil, List.contains_cons, Nat.reduceBEq, Bool.false_or, Bool.or_false, Bool.true_or, Bool.false_eq_true, if_false, if_true, true_and, and_true, List.set_cons_zero, List.set_cons_succ, List.length_cons, List.length_nil, Nat.reduceAdd, Nat.reduceLeDiff, Nat.le_refl, Nat.zero_le, true_or, or_true, zn_cl, ↓jj_Mo_readsCondition, e41, t41]
          simp only [not_false_eq_true, not_true_eq_false, false_imp_iff, true_imp_iff, forall_const, and_true, true_and, and_self, false_or, or_false, Int32.reduceLT, Int32.reduceLE, Int32.reduceSub, Int32.reduceAdd]
          refine k_Mo_landsA (tb := tb') (pb := pb') r3 r5 r6 (fun x r e => by cases e; exact ⟨by decide, by decide⟩) (fun g4 f4 s4 => ?_)
          obtain ⟨e1, f5, s5⟩ := zr_pop s4
          have eo' : (zm_si g4 133 15 (nI k.length)).1 133 13 - 1 = nI (6 - (dp + 1)) := by rw [s5.2.2.2.2.1, ← en, nI_pred]
          obtain ⟨f6, s6⟩ := zr_open s5 (o' := 6 - (dp + 1)) (by omega)
          obtain ⟨e7, f7, s7⟩ := zr_place s6 pn'
          have ek := s7.2.2.2.1.1
          have kn : ¬ nI k.length = 0 := by
            refine nI_ne0 ?_ (by have := s7.2.2.2.1.2.1; omega)
            exact Nat.pos_of_ne_zero (fun z => hne (List.eq_nil_of_length_eq_zero z))
          simp only [↓zq, ↓reduceIte, zr_si2, zr_sr1, zr_cp2, zr_tl, zr_tn, shq, List.contains_nil, List.contains_cons, Nat.reduceBEq, Bool.false_or, Bool.or_false, Bool.true_or, Bool.false_eq_true, if_false, if_true, true_and, and_true, List.set_cons_zero, List.set_cons_succ, List.length_cons, List.length_nil, Nat.reduceAdd, Nat.reduceLeDiff, Nat.le_refl, Nat.zero_le, true_or, or_true, zn_cl, ↓jj_Mo_readsCondition, e1, eo', e7, ek, kn]
          simp only [not_false_eq_true, not_true_eq_false, false_imp_iff, true_imp_iff, forall_const, and_true, true_and, and_self, false_or, or_false, Int32.reduceLT, Int32.reduceLE, Int32.reduceSub, Int32.reduceAdd]
          refine st_Mo_endsPiece [0] 30 ?_
          simp only [↓zq, ↓reduceIte, zr_si2, zr_sr1, zr_cp2, zr_tl, zr_tn, shq, List.contains_nil, List.contains_cons, Nat.reduceBEq, Bool.false_or, Bool.or_false, Bool.true_or, Bool.false_eq_true, if_false, if_true, true_and, and_true, List.set_cons_zero, List.set_cons_succ, List.length_cons, List.length_nil, Nat.reduceAdd, Nat.reduceLeDiff, Nat.le_refl, Nat.zero_le, true_or, or_true, zn_cl, ↓jj_Mo_endsPiece]
          refine hg (p' + 1) ?_ _ ((((r2.tr f4).tr f5).tr f6).tr f7) s7 _ _ (fun g' hw => ?_)
          · unfold t_tk
            rw [if_pos h41]
            rfl
          · simp only [↓zq, ↓reduceIte, zr_si2, zr_sr1, zr_cp2, zr_tl, zr_tn, shq, List.contains_nil, List.contains_cons, Nat.reduceBEq, Bool.false_or, Bool.or_false, Bool.true_or, Bool.false_eq_true, if_false, if_true, true_and, and_true, List.set_cons_zero, List.set_cons_succ, List.length_cons, List.length_nil, Nat.reduceAdd, Nat.reduceLeDiff, Nat.le_refl, Nat.zero_le, true_or, or_true, zn_cl, ↓jj_Mo_readsCondition]
            exact hw
        · have f41 := eq_false h41
          refine zm_go g_Mo_readsCondition [40, 92] 30 (by decide +kernel) ok_Mo_readsCondition _ rfl ?_
          simp only [↓zq, ↓reduceIte, zr_si2, zr_sr1, zr_cp2, zr_tl, zr_tn, shq, List.contains_nil, List.contains_cons, Nat.reduceBEq, Bool.false_or, Bool.or_false, Bool.true_or, Bool.false_eq_true, if_false, if_true, true_and, and_true, List.set_cons_zero, List.set_cons_succ, List.length_cons, List.length_nil, Nat.reduceAdd, Nat.reduceLeDiff, Nat.le_refl, Nat.zero_le, true_or, or_true, zn_cl, ↓jj_Mo_readsCondition]
          refine k_Mo_here r3.2.1 ?_
          simp only [↓zq, ↓reduceIte, zr_si2, zr_sr1, zr_cp2, zr_tl, zr_tn, shq, List.contains_nil, List.contains_cons, Nat.reduceBEq, Bool.false_or, Bool.or_false, Bool.true_or, Bool.false_eq_true, if_false, if_true, true_and, and_true, List.set_cons_zero, List.set_cons_succ, List.length_cons, List.length_nil, Nat.reduceAdd, Nat.reduceLeDiff, Nat.le_refl, Nat.zero_le, true_or, or_true, zn_cl, ↓jj_Mo_readsCondition, e41, f41]
          simp only [not_false_eq_true, not_true_eq_false, false_imp_iff, true_imp_iff, forall_const, and_true, true_and, and_self, false_or, or_false, Int32.reduceLT, Int32.reduceLE, Int32.reduceSub, Int32.reduceAdd]
          refine k_Mo_here r3.2.1 ?_
          simp only [↓zq, ↓reduceIte, zr_si2, zr_sr1, zr_cp2, zr_tl, zr_tn, shq, List.contains_nil, List.contains_cons, Nat.reduceBEq, Bool.false_or, Bool.or_false, Bool.true_or, Bool.false_eq_true, if_false, if_true, true_and, and_true, List.set_cons_zero, List.set_cons_succ, List.length_cons, List.length_nil, Nat.reduceAdd, Nat.reduceLeDiff, Nat.le_refl, Nat.zero_le, true_or, or_true, zn_cl, ↓jj_Mo_readsCondition, f38]
          simp only [not_false_eq_true, not_true_eq_false, false_imp_iff, true_imp_iff, forall_const, and_true, true_and, and_self, false_or, or_false, Int32.reduceLT, Int32.reduceLE, Int32.reduceSub, Int32.reduceAdd]
          refine k_Mo_here r3.2.1 ?_
          simp only [↓zq, ↓reduceIte, zr_si2, zr_sr1, zr_cp2, zr_tl, zr_tn, shq, List.contains_nil, List.contains_cons, Nat.reduceBEq, Bool.false_or, Bool.or_false, Bool.true_or, Bool.false_eq_true, if_false, if_true, true_and, and_true, List.set_cons_zero, List.set_cons_succ, List.length_cons, List.length_nil, Nat.reduceAdd, Nat.reduceLeDiff, Nat.le_refl, Nat.zero_le, true_or, or_true, zn_cl, ↓jj_Mo_readsCondition, f124, s53]
          simp only [not_false_eq_true, not_true_eq_false, false_imp_iff, true_imp_iff, forall_const, and_true, true_and, and_self, false_or, or_false, Int32.reduceLT, Int32.reduceLE, Int32.reduceSub, Int32.reduceAdd]
          refine k_Mo_wrongAt (f := 1) (q := p') ?_
          simp only [↓zq, ↓reduceIte, zr_si2, zr_sr1, zr_cp2, zr_tl, zr_tn, shq, List.contains_nil, List.contains_cons, Nat.reduceBEq, Bool.false_or, Bool.or_false, Bool.true_or, Bool.false_eq_true, if_false, if_true, true_and, and_true, List.set_cons_zero, List.set_cons_succ, List.length_cons, List.length_nil, Nat.reduceAdd, Nat.reduceLeDiff, Nat.le_refl, Nat.zero_le, true_or, or_true, zn_cl, ↓jj_Mo_readsCondition]
          obtain ⟨f4, f5⟩ := zu_n_11 g3 (t_an (1, p'))
          refine hb (1, p') ?_ _ (r2.tr f4.r) f5
          unfold t_tk
          rw [if_neg h41]
          rfl
    · exact r_cmp hn h6 h1 hc hl hk fg sg (fun z => hbr (Or.inl z)) (fun z => hbr (Or.inr z)) hb hg
/-- a rule's condition, with its brackets -/
def p_cb (T : Nat → Nat) (n : Nat) (s : zl_s) : zl_s := (t_tk T n 41 (p_orl T n (p_tst T n 5) 240 none (t_tk T n 40 s.1, s.2)).1, (p_orl T n (p_tst T n 5) 240 none (t_tk T n 40 s.1, s.2)).2)
set_option maxHeartbeats 4000000 in
set_option maxRecDepth 100000 in
theorem k_Mo_readsCondition {d : Nat} {h : zm_M} {R : zm_R} {T : Nat → Nat} {n p o : Nat} {c : zl_c} {k : zr_K} (hn : n ≤ 240) (h1 : 1 ≤ p) (hc : c.1 ≤ p) (sg : zr_s h T n p c k o) (hb : ∀ x, (p_cb T n (.inr p, c)).1 = .inl x → ∀ g', zr_f2 h g' → g'.1 133 11 = t_an x → R (some (.inl 0)) g') (hg : ∀ p', (p_cb T n (.inr p, c)).1 = .inr p' → ∀ g', zr_f2 h g' → zr_s g' T n p' (p_cb T n (.inr p, c)).2 [] 0 → R (some (.inl 1)) g') : zm_C (d + 7) TT m_Mo_readsCondition [.inr (some 133)] h R := by
  have cl := sg.2.1.c_le
  have s5 := sg.2.1.2.2.2.2.1
  have e40 : (zt_v (t_c T n (.inr p)) = 40) = (t_c T n (.inr p) = 40) := zt_v_eq (k := 40) cl (by decide)
  refine st_Mo_readsCondition [40, 92] 30 ?_
  simp only [↓zq, ↓reduceIte, zr_si2, zr_sr1, zr_cp2, zr_tl, zr_tn, shq, List.contains_nil, List.contains_cons, Nat.reduceBEq, Bool.false_or, Bool.or_false, Bool.true_or, Bool.false_eq_true, if_false, if_true, true_and, and_true, List.set_cons_zero, List.set_cons_succ, List.length_cons, List.length_nil, Nat.reduceAdd, Nat.reduceLeDiff, Nat.le_refl, Nat.zero_le, true_or, or_true, zn_cl, ↓jj_Mo_readsCondition]
  refine k_Mo_here sg.2.1 ?_
  simp only [↓zq, ↓reduceIte, zr_si2, zr_sr1, zr_cp2, zr_tl, zr_tn, shq, List.contains_nil, List.contains_cons, Nat.reduceBEq, Bool.false_or, Bool.or_false, Bool.true_or, Bool.false_eq_true, if_false, if_true, true_and, and_true, List.set_cons_zero, List.set_cons_succ, List.length_cons, List.length_nil, Nat.reduceAdd, Nat.reduceLeDiff, Nat.le_refl, Nat.zero_le, true_or, or_true, zn_cl, ↓jj_Mo_readsCondition, e40, s5]
  refine ⟨fun z => ?_, fun z => ?_⟩
  · have pn : p < n := t_c_r_lt (T := T) (by omega)
    have etk : t_tk T n 40 (.inr p) = .inr (p + 1) := by unfold t_tk; rw [if_pos z]; rfl
    unfold p_cb at hb hg
    dsimp only at hb hg
    rw [etk, p_orl_2 T n (p_tst T n 5) 239 none] at hb hg
    obtain ⟨f1, t1⟩ := zr_open sg (o' := 0) (by decide)
    have t2 : zr_f2 h (zm_si (zm_si h 133 13 0) 133 15 0) ∧ zr_s (zm_si (zm_si h 133 13 0) 133 15 0) T n p c [] 0 := by
      have t1' : zr_s (zm_si h 133 13 0) T n p c k 0 := t1
      have f1' : zr_f2 h (zm_si h 133 13 0) := f1
      obtain ⟨a1, a2, a3, ⟨a4, a5, a6⟩, a7⟩ := t1'
      refine ⟨f1'.tr ⟨rfl, fun a h1 _ _ => by funext j; rw [zr_si1, if_neg (fun z => h1 z.1)], fun j hj => by rw [zr_si1, if_neg (by omega)]⟩, a1, zu_s_i a2 rfl (by rw [zr_si1, if_neg (by omega)]) (by rw [zr_si1, if_neg (by omega)]) (by funext j; rw [zr_si1, if_neg (by omega)]), ?_, ⟨by rw [zr_si1, if_pos ⟨rfl, rfl⟩]; rfl, by decide, trivial⟩, ?_⟩
      · unfold zr_c
        rw [zr_si1, if_neg (by omega), show (zm_si (zm_si h 133 13 0) 133 15 0).1 138 = (zm_si h 133 13 0).1 138 by funext j; rw [zr_si1, if_neg (by omega)]]
        exact a3
      · rw [zr_si1, if_neg (by omega)]
        exact a7
    obtain ⟨f2, s2⟩ := t2
    refine k_Mo_opens (wh := 13) s2 (by decide) pn (by decide) (fun z => absurd z (by decide)) (fun _ g2 f3 s3 => ?_)
    simp only [↓zq, ↓reduceIte, zr_si2, zr_sr1, zr_cp2, zr_tl, zr_tn, shq, List.contains_nil, List.contains_cons, Nat.reduceBEq, Bool.false_or, Bool.or_false, Bool.true_or, Bool.false_eq_true, if_false, if_true, true_and, and_true, List.set_cons_zero, List.set_cons_succ, List.length_cons, List.length_nil, Nat.reduceAdd, Nat.reduceLeDiff, Nat.le_refl, Nat.zero_le, true_or, or_true, zn_cl, ↓jj_Mo_readsCondition]
    refine ⟨fun _ => ?_, fun z => absurd z (by decide)⟩
    have f3 := f2.tr f3
    refine r_condC (d := d) (h := h) (R := R) (dp := 5) hn (r_testT hn 5 (by decide)) (n + 1) 240 239 none none (p + 1) c [] g2 (by omega) (by omega) (by omega) (by omega) (by show c.1 + 1 + 0 ≤ p + 1; omega) (by show ([(13, 0)] : zr_K).length ≤ p + 1; simp) (fun i hi => by cases hi) (fun i hi => by cases hi) f3 s3 (fun x hx g' f' h11 => hb x (t_tk_i (by decide) hx) g' f' h11) (fun tb' pb' p' c' g3 r1 r2 r3 r4 r5 r6 r7 r8 r9 => ?_)
    rw [r9] at hb hg
    dsimp only at hb hg
    have cl3 := r3.2.1.c_le
    have s53 := r3.2.1.2.2.2.2.1
    have e41 : (zt_v (t_c T n (.inr p')) = 41) = (t_c T n (.inr p') = 41) := zt_v_eq (k := 41) cl3 (by decide)
    have f38 : (zt_v (t_c T n (.inr p')) = 38) = False := by rw [show (38 : Int32) = nI 38 from rfl, zt_v_eq cl3 (by decide)]; exact eq_false r7
    have f124 : (zt_v (t_c T n (.inr p')) = 124) = False := by rw [show (124 : Int32) = nI 124 from rfl, zt_v_eq cl3 (by decide)]; exact eq_false r8
    unfold r_W92
    by_cases h41 : t_c T n (.inr p') = 41
    · have t41 := eq_true h41
      have pn' : p' < n := t_c_r_lt (T := T) (by omega)
      refine zm_go g_Mo_readsCondition [40, 92] 30 (by decide +kernel) ok_Mo_readsCondition _ rfl ?_
      simp only [↓zq, ↓reduceIte, zr_si2, zr_sr1, zr_cp2, zr_tl, zr_tn, shq, List.contains_nil, List.contains_cons, Nat.reduceBEq, Bool.false_or, Bool.or_false, Bool.true_or, Bool.false_eq_true, if_false, if_true, true_and, and_true, List.set_cons_zero, List.set_cons_succ, List.length_cons, List.length_nil, Nat.reduceAdd, Nat.reduceLeDiff, Nat.le_refl, Nat.zero_le, true_or, or_true, zn_cl, ↓jj_Mo_readsCondition]
      refine k_Mo_here r3.2.1 ?_
      simp only [↓zq, ↓reduceIte, zr_si2, zr_sr1, zr_cp2, zr_tl, zr_tn, shq, List.contains_nil, List.contains_cons, Nat.reduceBEq, Bool.false_or, Bool.or_false, Bool.true_or, Bool.false_eq_true, if_false, if_true, true_and, and_true, List.set_cons_zero, List.set_cons_succ, List.length_cons, List.length_nil, Nat.reduceAdd, Nat.reduceLeDiff, Nat.le_refl, Nat.zero_le, true_or, or_true, zn_cl, ↓jj_Mo_readsCondition, e41, t41]
      simp only [not_false_eq_true, not_true_eq_false, false_imp_iff, true_imp_iff, forall_const, and_true, true_and, and_self, false_or, or_false, Int32.reduceLT, Int32.reduceLE, Int32.reduceSub, Int32.reduceAdd]
      refine k_Mo_landsA (tb := tb') (pb := pb') r3 r5 r6 (fun x r e => by cases e; exact ⟨by decide, by decide⟩) (fun g4 f4 s4 => ?_)
      obtain ⟨e1, f5, s5⟩ := zr_pop s4
      simp only [List.length_nil] at e1 f5 s5
      have eo' : (zm_si g4 133 15 (nI 0)).1 133 13 - 1 = nI 0 := by rw [s5.2.2.2.2.1]; rfl
      obtain ⟨f6, s6⟩ := zr_open s5 (o' := 0) (by decide)
      obtain ⟨e7, f7, s7⟩ := zr_place s6 pn'
      have ek : (zm_si (zm_si (zm_si g4 133 15 (nI 0)) 133 13 (nI 0)) 133 9 (nI (p' + 1))).1 133 15 = nI 0 := s7.2.2.2.1.1
      have kn : (nI 0 = 0) = True := eq_true rfl
      simp only [↓zq, ↓reduceIte, zr_si2, zr_sr1, zr_cp2, zr_tl, zr_tn, shq, List.contains_nil, List.contains_cons, Nat.reduceBEq, Bool.false_or, Bool.or_false, Bool.true_or, Bool.false_eq_true, if_false, if_true, true_and, and_true, List.set_cons_zero, List.set_cons_succ, List.length_cons, List.length_nil, Nat.reduceAdd, Nat.reduceLeDiff, Nat.le_refl, Nat.zero_le, true_or, or_true, zn_cl, ↓jj_Mo_readsCondition, e1, eo', e7, ek, kn]
      simp only [not_false_eq_true, not_true_eq_false, false_imp_iff, true_imp_iff, forall_const, and_true, true_and, and_self, false_or, or_false, Int32.reduceLT, Int32.reduceLE, Int32.reduceSub, Int32.reduceAdd]
      refine hg (p' + 1) ?_ _ ((((r2.tr f4).tr f5).tr f6).tr f7) s7
      unfold t_tk
      rw [if_pos h41]
      rfl
    · have f41 := eq_false h41
      refine zm_go g_Mo_readsCondition [40, 92] 30 (by decide +kernel) ok_Mo_readsCondition _ rfl ?_
      simp only [↓zq, ↓reduceIte, zr_si2, zr_sr1, zr_cp2, zr_tl, zr_tn, shq, List.contains_nil, List.contains_cons, Nat.reduceBEq, Bool.false_or, Bool.or_false, Bool.true_or, Bool.false_eq_true, if_false, if_true, true_and, and_true, List.set_cons_zero, List.set_cons_succ, List.length_cons, List.length_nil, Nat.reduceAdd, Nat.reduceLeDiff, Nat.le_refl, Nat.zero_le, true_or, or_true, zn_cl, ↓jj_Mo_readsCondition]
      refine k_Mo_here r3.2.1 ?_
      simp only [↓zq, ↓reduceIte, zr_si2, zr_sr1, zr_cp2, zr_tl, zr_tn, shq, List.contains_nil, List.contains_cons, Nat.reduceBEq, Bool.false_or, Bool.or_false, Bool.true_or, Bool.false_eq_true, if_false, if_true, true_and, and_true, List.set_cons_zero, List.set_cons_succ, List.length_cons, List.length_nil, Nat.reduceAdd, Nat.reduceLeDiff, Nat.le_refl, Nat.zero_le, true_or, or_true, zn_cl, ↓jj_Mo_readsCondition, e41, f41]
      simp only [not_false_eq_true, not_true_eq_false, false_imp_iff, true_imp_iff, forall_const, and_true, true_and, and_self, false_or, or_false, Int32.reduceLT, Int32.reduceLE, Int32.reduceSub, Int32.reduceAdd]
      refine k_Mo_here r3.2.1 ?_
      simp only [↓zq, ↓reduceIte, zr_si2, zr_sr1, zr_cp2, zr_tl, zr_tn, shq, List.contains_nil, List.contains_cons, Nat.reduceBEq, Bool.false_or, Bool.or_false, Bool.true_or, Bool.false_eq_true, if_false, if_true, true_and, and_true, List.set_cons_zero, List.set_cons_succ, List.length_cons, List.length_nil, Nat.reduceAdd, Nat.reduceLeDiff, Nat.le_refl, Nat.zero_le, true_or, or_true, zn_cl, ↓jj_Mo_readsCondition, f38]
      simp only [not_false_eq_true, not_true_eq_false, false_imp_iff, true_imp_iff, forall_const, and_true, true_and, and_self, false_or, or_false, Int32.reduceLT, Int32.reduceLE, Int32.reduceSub, Int32.reduceAdd]
      refine k_Mo_here r3.2.1 ?_
      simp only [↓zq, ↓reduceIte, zr_si2, zr_sr1, zr_cp2, zr_tl, zr_tn, shq, List.contains_nil, List.contains_cons, Nat.reduceBEq, Bool.false_or, Bool.or_false, Bool.true_or, Bool.false_eq_true, if_false, if_true, true_and, and_true, List.set_cons_zero, List.set_cons_succ, List.length_cons, List.length_nil, Nat.reduceAdd, Nat.reduceLeDiff, Nat.le_refl, Nat.zero_le, true_or, or_true, zn_cl, ↓jj_Mo_readsCondition, f124, s53]
      simp only [not_false_eq_true, not_true_eq_false, false_imp_iff, true_imp_iff, forall_const, and_true, true_and, and_self, false_or, or_false, Int32.reduceLT, Int32.reduceLE, Int32.reduceSub, Int32.reduceAdd]
      refine k_Mo_wrongAt (f := 1) (q := p') ?_
      simp only [↓zq, ↓reduceIte, zr_si2, zr_sr1, zr_cp2, zr_tl, zr_tn, shq, List.contains_nil, List.contains_cons, Nat.reduceBEq, Bool.false_or, Bool.or_false, Bool.true_or, Bool.false_eq_true, if_false, if_true, true_and, and_true, List.set_cons_zero, List.set_cons_succ, List.length_cons, List.length_nil, Nat.reduceAdd, Nat.reduceLeDiff, Nat.le_refl, Nat.zero_le, true_or, or_true, zn_cl, ↓jj_Mo_readsCondition]
      obtain ⟨f4, f5⟩ := zu_n_11 g3 (t_an (1, p'))
      refine hb (1, p') ?_ _ (r2.tr f4.r) f5
      unfold t_tk
      rw [if_neg h41]
      rfl
  · refine k_Mo_wrongAt (f := 1) (q := p) ?_
    simp only [↓zq, ↓reduceIte, zr_si2, zr_sr1, zr_cp2, zr_tl, zr_tn, shq, List.contains_nil, List.contains_cons, Nat.reduceBEq, Bool.false_or, Bool.or_false, Bool.true_or, Bool.false_eq_true, if_false, if_true, true_and, and_true, List.set_cons_zero, List.set_cons_succ, List.length_cons, List.length_nil, Nat.reduceAdd, Nat.reduceLeDiff, Nat.le_refl, Nat.zero_le, true_or, or_true, zn_cl, ↓jj_Mo_readsCondition]
    obtain ⟨f4, f5⟩ := zu_n_11 h (t_an (1, p))
    refine hb (1, p) ?_ _ f4.r f5
    unfold p_cb
    dsimp only
    have etk : t_tk T n 40 (.inr p) = .inl (1, p) := by unfold t_tk; rw [if_neg z]; rfl
    rw [etk, p_orl_d (fun x c => p_tst_d 5 x c), t_tk_d T n (by decide)]
