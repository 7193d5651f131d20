/-! conditions read by the reference -/
def r_W92 (d : Nat) (R : zm_R) (g : zm_M) : Prop := zm_W (zm_md m_Mo_readsCondition) (d + 7) TT R 92 [some (.inr (some 133))] [] g
def r_W40 (d : Nat) (R : zm_R) (g : zm_M) : Prop := zm_W (zm_md m_Mo_readsCondition) (d + 7) TT R 40 [some (.inr (some 133))] [] g
/-- a test is done: its piece may end -/
def r_E (d : Nat) (R : zm_R) (g : zm_M) : Prop := ∀ (e : Nat) (K : zm_R), (∀ g', r_W92 d R g' → K none g') → zm_W (zm_md m_Mo_endsPiece) (e + 2) TT K 0 [some (.inr (some 133))] [] g
def r_T (d : Nat) (h : zm_M) (R : zm_R) (T : Nat → Nat) (n dp : Nat) : Prop := ∀ (p : Nat) (c : zl_c) (k : zr_K) (g : zm_M), 1 ≤ p → c.1 + zr_wt k ≤ p → k.length ≤ p → r_bs k → k ≠ [] → zr_f2 h g → zr_s g T n p c k (6 - dp) → (∀ x, (p_tst T n dp (.inr p, c)).1 = .inl x → ∀ g', zr_f2 h g' → g'.1 133 11 = t_an x → R (some (.inl 0)) g') → (∀ p', (p_tst T n dp (.inr p, c)).1 = .inr p' → ∀ g', zr_f2 h g' → zr_s g' T n p' (p_tst T n dp (.inr p, c)).2 k (6 - dp) → r_E d R g') → r_W40 d R g
theorem p_tst_tb (T : Nat → Nat) (n dp : Nat) : ∃ tst cnd, p_tst T n dp = p_tb T n (p_sum T n dp) tst cnd dp := by
  cases dp with
  | zero => exact ⟨id, id, rfl⟩
  | succ dp => exact ⟨p_tst T n dp, p_orl T n (p_tst T n dp) 240 none, rfl⟩
def p_cmp (T : Nat → Nat) (n : Nat) (sum : zl_s → zl_s) (s : zl_s) : zl_s := if t_c T n (sum s).1 = 60 ∨ t_c T n (sum s).1 = 62 ∨ t_c T n (sum s).1 = 61 then ((sum (t_st (sum s).1, (sum s).2)).1, lc_push (l_op (t_c T n (sum s).1)) 0 (sum (t_st (sum s).1, (sum s).2)).2) else (t_fl 1 (sum s).1, (sum s).2)
set_option maxHeartbeats 4000000 in
set_option maxRecDepth 100000 in
theorem k_Mo_readsCompared {d : Nat} {h : zm_M} {R : zm_R} {T : Nat → Nat} {n dp p : Nat} {c : zl_c} {k : zr_K} (hn : n ≤ 240) (hdp : dp ≤ 6) (h1 : 1 ≤ p) (hc : c.1 + zr_wt k ≤ p) (hl : k.length ≤ p) (hk : r_bs k) (sg : zr_s h T n p c k (6 - dp)) (hb : ∀ x, (p_cmp T n (p_sum T n dp) (.inr p, c)).1 = .inl x → ∀ g', zr_f2 h g' → g'.1 133 11 = t_an x → R (some (.inl 0)) g') (hg : ∀ p', (p_cmp T n (p_sum T n dp) (.inr p, c)).1 = .inr p' → ∀ g', zr_f2 h g' → zr_s g' T n p' (p_cmp T n (p_sum T n dp) (.inr p, c)).2 k (6 - dp) → ∀ (e : Nat) (K : zm_R), (∀ g'', R (some (.inl 1)) g'' → K none g'') → zm_W (zm_md m_Mo_endsPiece) (e + 2) TT K 0 [some (.inr (some 133))] [] g') : zm_C (d + 6) TT m_Mo_readsCompared [.inr (some 133)] h R := by
  unfold p_cmp at hb hg
  have pn0 := sg.2.1.2.2.2.2.2
  refine st_Mo_readsCompared [52] 30 ?_
  simp only [↓zq, ↓reduceIte, zr_si2, zr_sr1, zr_cp2, zr_tl, zr_tn, shq, List.contains_nil, List.contains_cons, Nat.reduceBEq, Bool.false_or, Bool.or_false, Bool.true_or, Bool.false_eq_true, if_false, if_true, true_and, and_true, List.set_cons_zero, List.set_cons_succ, List.length_cons, List.length_nil, Nat.reduceAdd, Nat.reduceLeDiff, Nat.le_refl, Nat.zero_le, true_or, or_true, zn_cl, ↓jj_Mo_readsCompared]
  refine k_Mo_readsSum (dp := dp) hn hdp h1 hc hl hk sg (fun x hx g2 f2 h11 => ?_) (fun q hq g2 f2 s2 => ?_)
  · simp only [↓zq, ↓reduceIte, zr_si2, zr_sr1, zr_cp2, zr_tl, zr_tn, shq, List.contains_nil, List.contains_cons, Nat.reduceBEq, Bool.false_or, Bool.or_false, Bool.true_or, Bool.false_eq_true, if_false, if_true, true_and, and_true, List.set_cons_zero, List.set_cons_succ, List.length_cons, List.length_nil, Nat.reduceAdd, Nat.reduceLeDiff, Nat.le_refl, Nat.zero_le, true_or, or_true, zn_cl, ↓jj_Mo_readsCompared]
    refine ⟨fun z => (by first | exact absurd trivial z | exact absurd rfl z | exact absurd z (by decide)), fun _ => hb x ?_ g2 f2 h11⟩
    rw [hx, if_neg (by rw [t_c_d]; omega)]
    rfl
  · obtain ⟨⟨a1, a2, a3, a4, a5⟩, _⟩ := p_sum_ok hn dp p c q [] h1 pn0 hn (by omega) hq
    rw [hq] at hb hg
    generalize (p_sum T n dp (.inr p, c)).2 = c1 at *
    have cl2 := s2.2.1.c_le
    have s52 := s2.2.1.2.2.2.2.1
    have e60 : (zt_v (t_c T n (.inr q)) = 60) = (t_c T n (.inr q) = 60) := zt_v_eq (k := 60) cl2 (by decide)
    have e62 : (zt_v (t_c T n (.inr q)) = 62) = (t_c T n (.inr q) = 62) := zt_v_eq (k := 62) cl2 (by decide)
    have e61 : (zt_v (t_c T n (.inr q)) = 61) = (t_c T n (.inr q) = 61) := zt_v_eq (k := 61) cl2 (by decide)
    have hh : ∀ K : zm_R, K (some (.inl (zt_v (t_c T n (.inr q))))) g2 → zm_C (d + 5) TT m_Mo_here [.inr (some 133)] g2 K := fun K hK => k_Mo_here s2.2.1 hK
    by_cases hcm : t_c T n (.inr q) = 60 ∨ t_c T n (.inr q) = 62 ∨ t_c T n (.inr q) = 61
    · rw [if_pos hcm, show t_st (.inr q) = .inr (q + 1) from rfl] at hb hg
      dsimp only at hb hg
      have qn : q < n := t_c_r_lt (T := T) (by omega)
      have o79 : 7 ≤ l_op (t_c T n (.inr q)) ∧ l_op (t_c T n (.inr q)) ≤ 9 := by
        rcases hcm with z | z | z <;> rw [z] <;> decide
      have nm : ¬ nI (l_op (t_c T n (.inr q))) = -1 := fun z => absurd (show nI (l_op (t_c T n (.inr q))) < 0 by rw [z]; decide) (nI_pos (by omega))
      have at52 : zm_W (zm_md m_Mo_readsCompared) (d + 6) TT R 52 [some (.inr (some 133)), none] [.inl (nI (l_op (t_c T n (.inr q))))] g2 := by
        obtain ⟨e1, f3, s3⟩ := zr_place s2 qn
        refine zm_go g_Mo_readsCompared [52] 30 (by decide +kernel) ok_Mo_readsCompared _ rfl ?_
        simp only [↓zq, ↓reduceIte, zr_si2, zr_sr1, zr_cp2, zr_tl, zr_tn, shq, List.contains_nil, List.contains_cons, Nat.reduceBEq, Bool.false_or, Bool.or_false, Bool.true_or, Bool.false_eq_true, if_false, if_true, true_and, and_true, List.set_cons_zero, List.set_cons_succ, List.length_cons, List.length_nil, Nat.reduceAdd, Nat.reduceLeDiff, Nat.le_refl, Nat.zero_le, true_or, or_true, zn_cl, ↓jj_Mo_readsCompared, nm, e1]
        simp only [not_false_eq_true, not_true_eq_false, false_imp_iff, true_imp_iff, forall_const, and_true, true_and, and_self, false_or, or_false, Int32.reduceLT, Int32.reduceLE, Int32.reduceSub, Int32.reduceAdd]
        refine k_Mo_readsSum (dp := dp) hn hdp (show 1 ≤ q + 1 by omega) (by omega) (by omega) hk s3 (fun x hx g4 f4 h11 => ?_) (fun p' hp' g4 f4 s4 => ?_)
        · simp only [↓zq, ↓reduceIte, zr_si2, zr_sr1, zr_cp2, zr_tl, zr_tn, shq, List.contains_nil, List.contains_cons, Nat.reduceBEq, Bool.false_or, Bool.or_false, Bool.true_or, Bool.false_eq_true, if_false, if_true, true_and, and_true, List.set_cons_zero, List.set_cons_succ, List.length_cons, List.length_nil, Nat.reduceAdd, Nat.reduceLeDiff, Nat.le_refl, Nat.zero_le, true_or, or_true, zn_cl, ↓jj_Mo_readsCompared]
          exact ⟨fun z => (by first | exact absurd trivial z | exact absurd rfl z | exact absurd z (by decide)), fun _ => hb x hx g4 ((f2.tr f3).tr f4) h11⟩
        · obtain ⟨⟨d1, d2, d3, d4, d5⟩, _⟩ := p_sum_ok hn dp (q + 1) c1 p' [] (by omega) qn hn (by omega) hp'
          simp only [↓zq, ↓reduceIte, zr_si2, zr_sr1, zr_cp2, zr_tl, zr_tn, shq, List.contains_nil, List.contains_cons, Nat.reduceBEq, Bool.false_or, Bool.or_false, Bool.true_or, Bool.false_eq_true, if_false, if_true, true_and, and_true, List.set_cons_zero, List.set_cons_succ, List.length_cons, List.length_nil, Nat.reduceAdd, Nat.reduceLeDiff, Nat.le_refl, Nat.zero_le, true_or, or_true, zn_cl, ↓jj_Mo_readsCompared]
          refine ⟨fun _ => ?_, fun z => absurd z (by decide)⟩
          refine k_Mo_notes (v := 0) s4 (by omega) (by decide) (by omega) (fun g5 f5 s5 => ?_)
          simp only [↓zq, ↓reduceIte, zr_si2, zr_sr1, zr_cp2, zr_tl, zr_tn, shq, List.contains_nil, List.contains_cons, Nat.reduceBEq, Bool.false_or, Bool.or_false, Bool.true_or, Bool.false_eq_true, if_false, if_true, true_and, and_true, List.set_cons_zero, List.set_cons_succ, List.length_cons, List.length_nil, Nat.reduceAdd, Nat.reduceLeDiff, Nat.le_refl, Nat.zero_le, true_or, or_true, zn_cl, ↓jj_Mo_readsCompared]
          refine st_Mo_endsPiece [0] 30 ?_
          simp only [↓zq, ↓reduceIte, zr_si2, zr_sr1, zr_cp2, zr_tl, zr_tn, shq, List.contains_nil, List.contains_cons, Nat.reduceBEq, Bool.false_or, Bool.or_false, Bool.true_or, Bool.false_eq_true, if_false, if_true, true_and, and_true, List.set_cons_zero, List.set_cons_succ, List.length_cons, List.length_nil, Nat.reduceAdd, Nat.reduceLeDiff, Nat.le_refl, Nat.zero_le, true_or, or_true, zn_cl, ↓jj_Mo_endsPiece]
          refine hg p' hp' g5 (((f2.tr f3).tr f4).tr f5) s5 _ _ (fun g'' hg'' => ?_)
          simp only [↓zq, ↓reduceIte, zr_si2, zr_sr1, zr_cp2, zr_tl, zr_tn, shq, List.contains_nil, List.contains_cons, Nat.reduceBEq, Bool.false_or, Bool.or_false, Bool.true_or, Bool.false_eq_true, if_false, if_true, true_and, and_true, List.set_cons_zero, List.set_cons_succ, List.length_cons, List.length_nil, Nat.reduceAdd, Nat.reduceLeDiff, Nat.le_refl, Nat.zero_le, true_or, or_true, zn_cl, ↓jj_Mo_readsCompared]
          exact hg''
      simp only [↓zq, ↓reduceIte, zr_si2, zr_sr1, zr_cp2, zr_tl, zr_tn, shq, List.contains_nil, List.contains_cons, Nat.reduceBEq, Bool.false_or, Bool.or_false, Bool.true_or, Bool.false_eq_true, if_false, if_true, true_and, and_true, List.set_cons_zero, List.set_cons_succ, List.length_cons, List.length_nil, Nat.reduceAdd, Nat.reduceLeDiff, Nat.le_refl, Nat.zero_le, true_or, or_true, zn_cl, ↓jj_Mo_readsCompared]
      refine ⟨fun _ => hh _ ?_, fun z => absurd z (by decide)⟩
      simp only [↓zq, ↓reduceIte, zr_si2, zr_sr1, zr_cp2, zr_tl, zr_tn, shq, List.contains_nil, List.contains_cons, Nat.reduceBEq, Bool.false_or, Bool.or_false, Bool.true_or, Bool.false_eq_true, if_false, if_true, true_and, and_true, List.set_cons_zero, List.set_cons_succ, List.length_cons, List.length_nil, Nat.reduceAdd, Nat.reduceLeDiff, Nat.le_refl, Nat.zero_le, true_or, or_true, zn_cl, ↓jj_Mo_readsCompared, e60]
      refine ⟨fun z1 => hh _ ?_, fun z1 => ?_⟩
      · simp only [↓zq, ↓reduceIte, zr_si2, zr_sr1, zr_cp2, zr_tl, zr_tn, shq, List.contains_nil, List.contains_cons, Nat.reduceBEq, Bool.false_or, Bool.or_false, Bool.true_or, Bool.false_eq_true, if_false, if_true, true_and, and_true, List.set_cons_zero, List.set_cons_succ, List.length_cons, List.length_nil, Nat.reduceAdd, Nat.reduceLeDiff, Nat.le_refl, Nat.zero_le, true_or, or_true, zn_cl, ↓jj_Mo_readsCompared, e62]
        refine ⟨fun z2 => hh _ ?_, fun z2 => ?_⟩
        · simp only [↓zq, ↓reduceIte, zr_si2, zr_sr1, zr_cp2, zr_tl, zr_tn, shq, List.contains_nil, List.contains_cons, Nat.reduceBEq, Bool.false_or, Bool.or_false, Bool.true_or, Bool.false_eq_true, if_false, if_true, true_and, and_true, List.set_cons_zero, List.set_cons_succ, List.length_cons, List.length_nil, Nat.reduceAdd, Nat.reduceLeDiff, Nat.le_refl, Nat.zero_le, true_or, or_true, zn_cl, ↓jj_Mo_readsCompared, e61]
          refine ⟨fun z3 => ?_, fun z3 => ?_⟩
          · omega
          · rw [z3] at at52
            exact at52
        · rw [z2] at at52
          exact at52
      · rw [z1] at at52
        exact at52
    · rw [if_neg hcm] at hb
      have at52 : zm_W (zm_md m_Mo_readsCompared) (d + 6) TT R 52 [some (.inr (some 133)), none] [.inl (-1)] g2 := by
        refine zm_go g_Mo_readsCompared [52] 30 (by decide +kernel) ok_Mo_readsCompared _ rfl ?_
        simp only [↓zq, ↓reduceIte, zr_si2, zr_sr1, zr_cp2, zr_tl, zr_tn, shq, List.contains_nil, List.contains_cons, Nat.reduceBEq, Bool.false_or, Bool.or_false, Bool.true_or, Bool.false_eq_true, if_false, if_true, true_and, and_true, List.set_cons_zero, List.set_cons_succ, List.length_cons, List.length_nil, Nat.reduceAdd, Nat.reduceLeDiff, Nat.le_refl, Nat.zero_le, true_or, or_true, zn_cl, ↓jj_Mo_readsCompared, s52]
        simp only [not_false_eq_true, not_true_eq_false, false_imp_iff, true_imp_iff, forall_const, and_true, true_and, and_self, false_or, or_false, Int32.reduceLT, Int32.reduceLE, Int32.reduceSub, Int32.reduceAdd]
        refine k_Mo_wrongAt (f := 1) (q := q) ?_
        simp only [↓zq, ↓reduceIte, zr_si2, zr_sr1, zr_cp2, zr_tl, zr_tn, shq, List.contains_nil, List.contains_cons, Nat.reduceBEq, Bool.false_or, Bool.or_false, Bool.true_or, Bool.false_eq_true, if_false, if_true, true_and, and_true, List.set_cons_zero, List.set_cons_succ, List.length_cons, List.length_nil, Nat.reduceAdd, Nat.reduceLeDiff, Nat.le_refl, Nat.zero_le, true_or, or_true, zn_cl, ↓jj_Mo_readsCompared]
        obtain ⟨f4, f5⟩ := zu_n_11 g2 (t_an (1, q))
        exact hb (1, q) rfl _ (f2.tr f4.r) f5
      simp only [↓zq, ↓reduceIte, zr_si2, zr_sr1, zr_cp2, zr_tl, zr_tn, shq, List.contains_nil, List.contains_cons, Nat.reduceBEq, Bool.false_or, Bool.or_false, Bool.true_or, Bool.false_eq_true, if_false, if_true, true_and, and_true, List.set_cons_zero, List.set_cons_succ, List.length_cons, List.length_nil, Nat.reduceAdd, Nat.reduceLeDiff, Nat.le_refl, Nat.zero_le, true_or, or_true, zn_cl, ↓jj_Mo_readsCompared]
      refine ⟨fun _ => hh _ ?_, fun z => absurd z (by decide)⟩
      simp only [↓zq, ↓reduceIte, zr_si2, zr_sr1, zr_cp2, zr_tl, zr_tn, shq, List.contains_nil, List.contains_cons, Nat.reduceBEq, Bool.false_or, Bool.or_false, Bool.true_or, Bool.false_eq_true, if_false, if_true, true_and, and_true, List.set_cons_zero, List.set_cons_succ, List.length_cons, List.length_nil, Nat.reduceAdd, Nat.reduceLeDiff, Nat.le_refl, Nat.zero_le, true_or, or_true, zn_cl, ↓jj_Mo_readsCompared, e60]
      refine ⟨fun z1 => hh _ ?_, fun z1 => ?_⟩
      · simp only [↓zq, ↓reduceIte, zr_si2, zr_sr1, zr_cp2, zr_tl, zr_tn, shq, List.contains_nil, List.contains_cons, Nat.reduceBEq, Bool.false_or, Bool.or_false, Bool.true_or, Bool.false_eq_true, if_false, if_true, true_and, and_true, List.set_cons_zero, List.set_cons_succ, List.length_cons, List.length_nil, Nat.reduceAdd, Nat.reduceLeDiff, Nat.le_refl, Nat.zero_le, true_or, or_true, zn_cl, ↓jj_Mo_readsCompared, e62]
        refine ⟨fun z2 => hh _ ?_, fun z2 => ?_⟩
        · simp only [↓zq, ↓reduceIte, zr_si2, zr_sr1, zr_cp2, zr_tl, zr_tn, shq, List.contains_nil, List.contains_cons, Nat.reduceBEq, Bool.false_or, Bool.or_false, Bool.true_or, Bool.false_eq_true, if_false, if_true, true_and, and_true, List.set_cons_zero, List.set_cons_succ, List.length_cons, List.length_nil, Nat.reduceAdd, Nat.reduceLeDiff, Nat.le_refl, Nat.zero_le, true_or, or_true, zn_cl, ↓jj_Mo_readsCompared, e61]
          refine ⟨fun z3 => at52, fun z3 => ?_⟩
          omega
        · omega
      · omega
set_option maxHeartbeats 4000000 in
set_option maxRecDepth 100000 in
theorem r_cmp {d : Nat} {h : zm_M} {R : zm_R} {T : Nat → Nat} {n dp p : Nat} {c : zl_c} {k : zr_K} {g : zm_M} (hn : n ≤ 240) (hdp : dp ≤ 6) (h1 : 1 ≤ p) (hc : c.1 + zr_wt k ≤ p) (hl : k.length ≤ p) (hk : r_bs k) (fg : zr_f2 h g) (sg : zr_s g T n p c k (6 - dp)) (h33 : t_c T n (.inr p) ≠ 33) (h40 : t_c T n (.inr p) ≠ 40) (hb : ∀ x, (p_tst T n dp (.inr p, c)).1 = .inl x → ∀ g', zr_f2 h g' → g'.1 133 11 = t_an x → R (some (.inl 0)) g') (hg : ∀ p', (p_tst T n dp (.inr p, c)).1 = .inr p' → ∀ g', zr_f2 h g' → zr_s g' T n p' (p_tst T n dp (.inr p, c)).2 k (6 - dp) → r_E d R g') : r_W40 d R g := by
  obtain ⟨tst, cnd, htb⟩ := p_tst_tb T n dp
  have ec : p_tst T n dp (.inr p, c) = p_cmp T n (p_sum T n dp) (.inr p, c) := by
    rw [htb]
    unfold p_tb
    dsimp only
    rw [if_neg (by omega)]
    rfl
  rw [ec] at hb hg
  have cl := sg.2.1.c_le
  have e33 : (zt_v (t_c T n (.inr p)) = 33) = False := by rw [show (33 : Int32) = nI 33 from rfl, zt_v_eq cl (by decide)]; exact eq_false h33
  have e40 : (zt_v (t_c T n (.inr p)) = 40) = False := by rw [show (40 : Int32) = nI 40 from rfl, zt_v_eq cl (by decide)]; exact eq_false h40
  unfold r_W40
  refine zm_go g_Mo_readsCondition [40, 92] 30 (by decide +kernel) ok_Mo_readsCondition _ rfl ?_
  simp only [↓zq, ↓reduceIte, zr_si2, zr_sr1, zr_cp2, zr_tl, zr_tn, shq, List.contains_nil, List.contains_cons, Nat.reduceBEq, Bool.false_or, Bool.or_false, Bool.true_or, Bool.false_eq_true, if_false, if_true, true_and, and_true, List.set_cons_zero, List.set_cons_succ, List.length_cons, List.length_nil, Nat.reduceAdd, Nat.reduceLeDiff, Nat.le_refl, Nat.zero_le, true_or, or_true, zn_cl, ↓jj_Mo_readsCondition]
  refine k_Mo_here sg.2.1 ?_
  simp only [↓zq, ↓reduceIte, zr_si2, zr_sr1, zr_cp2, zr_tl, zr_tn, shq, List.contains_nil, List.contains_cons, Nat.reduceBEq, Bool.false_or, Bool.or_false, Bool.true_or, Bool.false_eq_true, if_false, if_true, true_and, and_true, List.set_cons_zero, List.set_cons_succ, List.length_cons, List.length_nil, Nat.reduceAdd, Nat.reduceLeDiff, Nat.le_refl, Nat.zero_le, true_or, or_true, zn_cl, ↓jj_Mo_readsCondition, e33]
  simp only [not_false_eq_true, not_true_eq_false, false_imp_iff, true_imp_iff, forall_const, and_true, true_and, and_self, false_or, or_false, Int32.reduceLT, Int32.reduceLE, Int32.reduceSub, Int32.reduceAdd]
  refine k_Mo_here sg.2.1 ?_
  simp only [↓zq, ↓reduceIte, zr_si2, zr_sr1, zr_cp2, zr_tl, zr_tn, shq, List.contains_nil, List.contains_cons, Nat.reduceBEq, Bool.false_or, Bool.or_false, Bool.true_or, Bool.false_eq_true, if_false, if_true, true_and, and_true, List.set_cons_zero, List.set_cons_succ, List.length_cons, List.length_nil, Nat.reduceAdd, Nat.reduceLeDiff, Nat.le_refl, Nat.zero_le, true_or, or_true, zn_cl, ↓jj_Mo_readsCondition, e40]
  simp only [not_false_eq_true, not_true_eq_false, false_imp_iff, true_imp_iff, forall_const, and_true, true_and, and_self, false_or, or_false, Int32.reduceLT, Int32.reduceLE, Int32.reduceSub, Int32.reduceAdd]
  refine k_Mo_readsCompared hn hdp h1 hc hl hk sg (fun x hx g' f' h11 => ?_) (fun p' hp' g' f' s' e K hK => ?_)
  · simp only [↓zq, ↓reduceIte, zr_si2, zr_sr1, zr_cp2, zr_tl, zr_tn, shq, List.contains_nil, List.contains_cons, Nat.reduceBEq, Bool.false_or, Bool.or_false, Bool.true_or, Bool.false_eq_true, if_false, if_true, true_and, and_true, List.set_cons_zero, List.set_cons_succ, List.length_cons, List.length_nil, Nat.reduceAdd, Nat.reduceLeDiff, Nat.le_refl, Nat.zero_le, true_or, or_true, zn_cl, ↓jj_Mo_readsCondition]
    exact ⟨fun z => (by first | exact absurd trivial z | exact absurd rfl z | exact absurd z (by decide)), fun _ => hb x hx g' (fg.tr f') h11⟩
  · refine hg p' hp' g' (fg.tr f') s' e K (fun g'' hw => hK g'' ?_)
    simp only [↓zq, ↓reduceIte, zr_si2, zr_sr1, zr_cp2, zr_tl, zr_tn, shq, List.contains_nil, List.contains_cons, Nat.reduceBEq, Bool.false_or, Bool.or_false, Bool.true_or, Bool.false_eq_true, if_false, if_true, true_and, and_true, List.set_cons_zero, List.set_cons_succ, List.length_cons, List.length_nil, Nat.reduceAdd, Nat.reduceLeDiff, Nat.le_refl, Nat.zero_le, true_or, or_true, zn_cl, ↓jj_Mo_readsCondition]
    exact ⟨fun _ => hw, fun z => absurd z (by decide)⟩
