theorem p_fc_fac (T : Nat → Nat) (n dp : Nat) : ∃ sub, p_fc T n dp = p_fac T n sub dp := by
  cases dp with
  | zero => exact ⟨id, rfl⟩
  | succ dp => exact ⟨p_sum T n dp, rfl⟩
set_option maxHeartbeats 4000000 in
set_option maxRecDepth 100000 in
theorem r_prim {d : Nat} {h : zm_M} {R Kf : zm_R} {T : Nat → Nat} {n : Nat} {k : zr_K} {dp p : Nat} {c : zl_c} {g : zm_M} {l1 : Option zm_V} (hn : n ≤ 240) (h1 : 1 ≤ p) (hc : c.1 ≤ p) (fg : zr_f2 h g) (sg : zr_s g T n p c k (6 - dp)) (h91 : t_c T n (.inr p) ≠ 91) (hK0 : ∀ g', R (some (.inl 0)) g' → Kf (some (.inl 0)) g') (hb : ∀ x, (p_fc T n dp (.inr p, c)).1 = .inl x → ∀ g', zr_f2 h g' → g'.1 133 11 = t_an x → R (some (.inl 0)) g') (hg : ∀ p', (p_fc T n dp (.inr p, c)).1 = .inr p' → ∀ g', zr_f2 h g' → zr_s g' T n p' (p_fc T n dp (.inr p, c)).2 k (6 - dp) → Kf (some (.inl 1)) g') : zm_W (zm_md m_Mo_readsFactor) (d + 4) TT Kf 0 [some (.inr (some 133)), l1] [] g := by
  obtain ⟨sub, hsub⟩ := p_fc_fac T n dp
  rw [hsub] at hb hg
  unfold p_fac at hb hg
  dsimp only at hb hg
  rw [if_neg h91] at hb hg
  have cl := sg.2.1.c_le
  have e91 : (zt_v (t_c T n (.inr p)) = 91) = False := by rw [show (91 : Int32) = nI 91 from rfl, zt_v_eq cl (by decide)]; exact eq_false h91
  have s5 := sg.2.1.2.2.2.2.1
  refine zm_go g_Mo_readsFactor [0] 30 (by decide +kernel) ok_Mo_readsFactor _ rfl ?_
  simp only [↓zq, ↓reduceIte, zr_si2, zr_sr1, zr_cp2, zr_tl, zr_tn, shq, List.contains_nil, List.contains_cons, Nat.reduceBEq, Bool.false_or, Bool.or_false, Bool.true_or, Bool.false_eq_true, if_false, if_true, true_and, and_true, List.set_cons_zero, List.set_cons_succ, List.length_cons, List.length_nil, Nat.reduceAdd, Nat.reduceLeDiff, Nat.le_refl, Nat.zero_le, true_or, or_true, zn_cl, ↓jj_Mo_readsFactor]
  refine k_Mo_here sg.2.1 ?_
  simp only [↓zq, ↓reduceIte, zr_si2, zr_sr1, zr_cp2, zr_tl, zr_tn, shq, List.contains_nil, List.contains_cons, Nat.reduceBEq, Bool.false_or, Bool.or_false, Bool.true_or, Bool.false_eq_true, if_false, if_true, true_and, and_true, List.set_cons_zero, List.set_cons_succ, List.length_cons, List.length_nil, Nat.reduceAdd, Nat.reduceLeDiff, Nat.le_refl, Nat.zero_le, true_or, or_true, zn_cl, ↓jj_Mo_readsFactor, e91]
  simp only [not_false_eq_true, not_true_eq_false, false_imp_iff, true_imp_iff, forall_const, and_true, true_and, and_self, false_or, or_false, Int32.reduceLT, Int32.reduceLE, Int32.reduceSub, Int32.reduceAdd]
  refine k_Mo_isDigit sg.2.1 (fun hd => ?_) (fun nd => ?_)
  · have nl : l_let (t_c T n (.inr p)) = 7 := by
      unfold l_let
      rw [if_neg (by omega), if_neg (by omega), if_neg (by omega), if_neg (by omega), if_neg (by omega), if_neg (by omega), if_neg (by omega)]
    rw [if_neg (fun z => z nl), if_pos hd] at hb hg
    dsimp only at hb hg
    simp only [↓zq, ↓reduceIte, zr_si2, zr_sr1, zr_cp2, zr_tl, zr_tn, shq, List.contains_nil, List.contains_cons, Nat.reduceBEq, Bool.false_or, Bool.or_false, Bool.true_or, Bool.false_eq_true, if_false, if_true, true_and, and_true, List.set_cons_zero, List.set_cons_succ, List.length_cons, List.length_nil, Nat.reduceAdd, Nat.reduceLeDiff, Nat.le_refl, Nat.zero_le, true_or, or_true, zn_cl, ↓jj_Mo_readsFactor]
    refine ⟨fun z => absurd z (by decide), fun _ => ?_⟩
    refine k_Mo_readsNumber sg.2.1 (fun x hx g2 f2 h11 => ?_) (fun p' hp' g2 f2 s2 n2 => ?_)
    · simp only [↓zq, ↓reduceIte, zr_si2, zr_sr1, zr_cp2, zr_tl, zr_tn, shq, List.contains_nil, List.contains_cons, Nat.reduceBEq, Bool.false_or, Bool.or_false, Bool.true_or, Bool.false_eq_true, if_false, if_true, true_and, and_true, List.set_cons_zero, List.set_cons_succ, List.length_cons, List.length_nil, Nat.reduceAdd, Nat.reduceLeDiff, Nat.le_refl, Nat.zero_le, true_or, or_true, zn_cl, ↓jj_Mo_readsFactor]
      exact ⟨fun z => (by first | exact absurd trivial z | exact absurd rfl z | exact absurd z (by decide)), fun _ => hK0 g2 (hb x hx g2 (fg.tr f2.r) h11)⟩
    · have pn : p < n := t_c_r_lt (T := T) (by omega)
      have vl := p_num_lt T n 6 0 0 (.inr p) (by decide) (by decide)
      simp only [↓zq, ↓reduceIte, zr_si2, zr_sr1, zr_cp2, zr_tl, zr_tn, shq, List.contains_nil, List.contains_cons, Nat.reduceBEq, Bool.false_or, Bool.or_false, Bool.true_or, Bool.false_eq_true, if_false, if_true, true_and, and_true, List.set_cons_zero, List.set_cons_succ, List.length_cons, List.length_nil, Nat.reduceAdd, Nat.reduceLeDiff, Nat.le_refl, Nat.zero_le, true_or, or_true, zn_cl, ↓jj_Mo_readsFactor, n2]
      refine ⟨fun _ => ?_, fun z => absurd z (by decide)⟩
      refine k_Mo_notes (op := 0) (zr_s_n sg f2 s2) (by decide) (by omega) (by omega) (fun g3 f3 s3 => ?_)
      simp only [↓zq, ↓reduceIte, zr_si2, zr_sr1, zr_cp2, zr_tl, zr_tn, shq, List.contains_nil, List.contains_cons, Nat.reduceBEq, Bool.false_or, Bool.or_false, Bool.true_or, Bool.false_eq_true, if_false, if_true, true_and, and_true, List.set_cons_zero, List.set_cons_succ, List.length_cons, List.length_nil, Nat.reduceAdd, Nat.reduceLeDiff, Nat.le_refl, Nat.zero_le, true_or, or_true, zn_cl, ↓jj_Mo_readsFactor]
      exact hg p' hp' g3 ((fg.tr f2.r).tr f3) s3
  · simp only [↓zq, ↓reduceIte, zr_si2, zr_sr1, zr_cp2, zr_tl, zr_tn, shq, List.contains_nil, List.contains_cons, Nat.reduceBEq, Bool.false_or, Bool.or_false, Bool.true_or, Bool.false_eq_true, if_false, if_true, true_and, and_true, List.set_cons_zero, List.set_cons_succ, List.length_cons, List.length_nil, Nat.reduceAdd, Nat.reduceLeDiff, Nat.le_refl, Nat.zero_le, true_or, or_true, zn_cl, ↓jj_Mo_readsFactor]
    refine ⟨fun _ => ?_, fun z => (by first | exact absurd trivial z | exact absurd rfl z | exact absurd z (by decide))⟩
    refine k_Mo_here sg.2.1 ?_
    simp only [↓zq, ↓reduceIte, zr_si2, zr_sr1, zr_cp2, zr_tl, zr_tn, shq, List.contains_nil, List.contains_cons, Nat.reduceBEq, Bool.false_or, Bool.or_false, Bool.true_or, Bool.false_eq_true, if_false, if_true, true_and, and_true, List.set_cons_zero, List.set_cons_succ, List.length_cons, List.length_nil, Nat.reduceAdd, Nat.reduceLeDiff, Nat.le_refl, Nat.zero_le, true_or, or_true, zn_cl, ↓jj_Mo_readsFactor]
    refine k_Mo_factOf cl ?_
    by_cases hl : l_let (t_c T n (.inr p)) = 7
    · rw [if_neg (fun z => z hl), if_neg nd] at hb
      have el : (zt_l (l_let (t_c T n (.inr p))) = -1) = True := eq_true (if_pos hl)
      simp only [↓zq, ↓reduceIte, zr_si2, zr_sr1, zr_cp2, zr_tl, zr_tn, shq, List.contains_nil, List.contains_cons, Nat.reduceBEq, Bool.false_or, Bool.or_false, Bool.true_or, Bool.false_eq_true, if_false, if_true, true_and, and_true, List.set_cons_zero, List.set_cons_succ, List.length_cons, List.length_nil, Nat.reduceAdd, Nat.reduceLeDiff, Nat.le_refl, Nat.zero_le, true_or, or_true, zn_cl, ↓jj_Mo_readsFactor, el, s5]
      simp only [not_false_eq_true, not_true_eq_false, false_imp_iff, true_imp_iff, forall_const, and_true, true_and, and_self, false_or, or_false, Int32.reduceLT, Int32.reduceLE, Int32.reduceSub, Int32.reduceAdd]
      refine k_Mo_wrongAt (f := 1) (q := p) ?_
      simp only [↓zq, ↓reduceIte, zr_si2, zr_sr1, zr_cp2, zr_tl, zr_tn, shq, List.contains_nil, List.contains_cons, Nat.reduceBEq, Bool.false_or, Bool.or_false, Bool.true_or, Bool.false_eq_true, if_false, if_true, true_and, and_true, List.set_cons_zero, List.set_cons_succ, List.length_cons, List.length_nil, Nat.reduceAdd, Nat.reduceLeDiff, Nat.le_refl, Nat.zero_le, true_or, or_true, zn_cl, ↓jj_Mo_readsFactor]
      obtain ⟨f1, f2⟩ := zu_n_11 g (t_an (1, p))
      exact hK0 _ (hb (1, p) rfl _ (fg.tr f1.r) f2)
    · rw [if_pos hl] at hg
      have ll : l_let (t_c T n (.inr p)) ≤ 7 := by
        unfold l_let
        repeat' split
        all_goals omega
      have ez : zt_l (l_let (t_c T n (.inr p))) = nI (l_let (t_c T n (.inr p))) := if_neg hl
      have nm : ¬ nI (l_let (t_c T n (.inr p))) = -1 := fun z => absurd (show nI (l_let (t_c T n (.inr p))) < 0 by rw [z]; decide) (nI_pos (by omega))
      have pn : p < n := t_c_r_lt (T := T) (fun z => hl (by rw [z]; rfl))
      rw [ez]
      simp only [↓zq, ↓reduceIte, zr_si2, zr_sr1, zr_cp2, zr_tl, zr_tn, shq, List.contains_nil, List.contains_cons, Nat.reduceBEq, Bool.false_or, Bool.or_false, Bool.true_or, Bool.false_eq_true, if_false, if_true, true_and, and_true, List.set_cons_zero, List.set_cons_succ, List.length_cons, List.length_nil, Nat.reduceAdd, Nat.reduceLeDiff, Nat.le_refl, Nat.zero_le, true_or, or_true, zn_cl, ↓jj_Mo_readsFactor, nm]
      simp only [not_false_eq_true, not_true_eq_false, false_imp_iff, true_imp_iff, forall_const, and_true, true_and, and_self, false_or, or_false, Int32.reduceLT, Int32.reduceLE, Int32.reduceSub, Int32.reduceAdd]
      refine k_Mo_notes (op := 1) sg (by decide) (by omega) (by omega) (fun g3 f3 s3 => ?_)
      obtain ⟨e1, f4, s4⟩ := zr_place s3 pn
      simp only [↓zq, ↓reduceIte, zr_si2, zr_sr1, zr_cp2, zr_tl, zr_tn, shq, List.contains_nil, List.contains_cons, Nat.reduceBEq, Bool.false_or, Bool.or_false, Bool.true_or, Bool.false_eq_true, if_false, if_true, true_and, and_true, List.set_cons_zero, List.set_cons_succ, List.length_cons, List.length_nil, Nat.reduceAdd, Nat.reduceLeDiff, Nat.le_refl, Nat.zero_le, true_or, or_true, zn_cl, ↓jj_Mo_readsFactor, e1]
      exact hg (p + 1) rfl _ ((fg.tr f3).tr f4) s4
set_option maxHeartbeats 4000000 in
set_option maxRecDepth 100000 in
theorem r_sumX {d : Nat} {h : zm_M} {R : zm_R} {T : Nat → Nat} {n : Nat} {bs : zr_K} (hn : n ≤ 240) : ∀ dp, dp ≤ 6 → r_X d h R T n bs dp := by
  intro dp
  induction dp with
  | zero =>
    intro _ p c u g l1 Kf h1 hc hl fg sg hK0 hK1 hb hg
    by_cases h91 : t_c T n (.inr p) = 91
    · have e91 : (zt_v (t_c T n (.inr p)) = 91) = True := by rw [show (91 : Int32) = nI 91 from rfl, zt_v_eq sg.2.1.c_le (by decide)]; exact eq_true h91
      have pn : p < n := t_c_r_lt (T := T) (by omega)
      refine zm_go g_Mo_readsFactor [0] 30 (by decide +kernel) ok_Mo_readsFactor _ rfl ?_
      simp only [↓zq, ↓reduceIte, zr_si2, zr_sr1, zr_cp2, zr_tl, zr_tn, shq, List.contains_nil, List.contains_cons, Nat.reduceBEq, Bool.false_or, Bool.or_false, Bool.true_or, Bool.false_eq_true, if_false, if_true, true_and, and_true, List.set_cons_zero, List.set_cons_succ, List.length_cons, List.length_nil, Nat.reduceAdd, Nat.reduceLeDiff, Nat.le_refl, Nat.zero_le, true_or, or_true, zn_cl, ↓jj_Mo_readsFactor]
      refine k_Mo_here sg.2.1 ?_
      simp only [↓zq, ↓reduceIte, zr_si2, zr_sr1, zr_cp2, zr_tl, zr_tn, shq, List.contains_nil, List.contains_cons, Nat.reduceBEq, Bool.false_or, Bool.or_false, Bool.true_or, Bool.false_eq_true, if_false, if_true, true_and, and_true, List.set_cons_zero, List.set_cons_succ, List.length_cons, List.length_nil, Nat.reduceAdd, Nat.reduceLeDiff, Nat.le_refl, Nat.zero_le, true_or, or_true, zn_cl, ↓jj_Mo_readsFactor, e91]
      simp only [not_false_eq_true, not_true_eq_false, false_imp_iff, true_imp_iff, forall_const, and_true, true_and, and_self, false_or, or_false, Int32.reduceLT, Int32.reduceLE, Int32.reduceSub, Int32.reduceAdd]
      refine k_Mo_opens (wh := 14) sg (by decide) pn (by omega) (fun _ g2 f2 h11 => ?_) (fun z => absurd z (by decide))
      simp only [↓zq, ↓reduceIte, zr_si2, zr_sr1, zr_cp2, zr_tl, zr_tn, shq, List.contains_nil, List.contains_cons, Nat.reduceBEq, Bool.false_or, Bool.or_false, Bool.true_or, Bool.false_eq_true, if_false, if_true, true_and, and_true, List.set_cons_zero, List.set_cons_succ, List.length_cons, List.length_nil, Nat.reduceAdd, Nat.reduceLeDiff, Nat.le_refl, Nat.zero_le, true_or, or_true, zn_cl, ↓jj_Mo_readsFactor]
      refine ⟨fun z => (by first | exact absurd trivial z | exact absurd rfl z | exact absurd z (by decide)), fun _ => hK0 g2 (hb (5, p) ?_ g2 (fg.tr f2) h11)⟩
      show (p_fac T n id 0 (.inr p, c)).1 = _
      unfold p_fac
      dsimp only
      rw [if_pos h91, if_pos rfl]
      rfl
    · exact r_prim hn h1 (by omega) fg sg h91 hK0 hb (fun p' hp' g' fg' sg' => hK1 g' (hg p' hp' g' fg' sg'))
  | succ dp ih =>
    intro h6 p c u g l1 Kf h1 hc hl fg sg hK0 hK1 hb hg
    have ihX := ih (by omega)
    by_cases h91 : t_c T n (.inr p) = 91
    · have e91 : (zt_v (t_c T n (.inr p)) = 91) = True := by rw [show (91 : Int32) = nI 91 from rfl, zt_v_eq sg.2.1.c_le (by decide)]; exact eq_true h91
      have pn : p < n := t_c_r_lt (T := T) (by omega)
      have efc : p_fc T n (dp + 1) (.inr p, c) = (t_tk T n 93 (p_sum T n dp (.inr (p + 1), c)).1, (p_sum T n dp (.inr (p + 1), c)).2) := by
        show p_fac T n (p_sum T n dp) (dp + 1) (.inr p, c) = _
        unfold p_fac
        dsimp only
        rw [if_pos h91, if_neg (by omega)]
        rfl
      have esum : p_sum T n dp (.inr (p + 1), c) = p_aft T n (p_fc T n dp) 239 none none (p_fc T n dp (.inr (p + 1), c)) := by rw [p_sum_fc]; rfl
      rw [efc] at hb hg
      dsimp only at hb hg
      refine zm_go g_Mo_readsFactor [0] 30 (by decide +kernel) ok_Mo_readsFactor _ rfl ?_
      simp only [↓zq, ↓reduceIte, zr_si2, zr_sr1, zr_cp2, zr_tl, zr_tn, shq, List.contains_nil, List.contains_cons, Nat.reduceBEq, Bool.false_or, Bool.or_false, Bool.true_or, Bool.false_eq_true, if_false, if_true, true_and, and_true, List.set_cons_zero, List.set_cons_succ, List.length_cons, List.length_nil, Nat.reduceAdd, Nat.reduceLeDiff, Nat.le_refl, Nat.zero_le, true_or, or_true, zn_cl, ↓jj_Mo_readsFactor]
      refine k_Mo_here sg.2.1 ?_
      simp only [↓zq, ↓reduceIte, zr_si2, zr_sr1, zr_cp2, zr_tl, zr_tn, shq, List.contains_nil, List.contains_cons, Nat.reduceBEq, Bool.false_or, Bool.or_false, Bool.true_or, Bool.false_eq_true, if_false, if_true, true_and, and_true, List.set_cons_zero, List.set_cons_succ, List.length_cons, List.length_nil, Nat.reduceAdd, Nat.reduceLeDiff, Nat.le_refl, Nat.zero_le, true_or, or_true, zn_cl, ↓jj_Mo_readsFactor, e91]
      simp only [not_false_eq_true, not_true_eq_false, false_imp_iff, true_imp_iff, forall_const, and_true, true_and, and_self, false_or, or_false, Int32.reduceLT, Int32.reduceLE, Int32.reduceSub, Int32.reduceAdd]
      refine k_Mo_opens (wh := 14) sg (by decide) pn (by omega) (fun z => absurd z (by omega)) (fun _ g2 f2 s2 => ?_)
      simp only [↓zq, ↓reduceIte, zr_si2, zr_sr1, zr_cp2, zr_tl, zr_tn, shq, List.contains_nil, List.contains_cons, Nat.reduceBEq, Bool.false_or, Bool.or_false, Bool.true_or, Bool.false_eq_true, if_false, if_true, true_and, and_true, List.set_cons_zero, List.set_cons_succ, List.length_cons, List.length_nil, Nat.reduceAdd, Nat.reduceLeDiff, Nat.le_refl, Nat.zero_le, true_or, or_true, zn_cl, ↓jj_Mo_readsFactor]
      refine ⟨fun _ => ?_, fun z => absurd z (by decide)⟩
      have f2 := fg.tr f2
      have en : 6 - (dp + 1) + 1 = 6 - dp := by omega
      rw [en] at s2
      have w1 : zr_wt (((14, 0) :: u) ++ bs) = 1 + zr_wt (u ++ bs) := rfl
      have lu : (((14, 0) :: u) ++ bs).length = (u ++ bs).length + 1 := rfl
      refine ihX (p + 1) c ((14, 0) :: u) g2 _ Kf (by omega) (by rw [w1]; omega) (by rw [lu]; omega) f2 s2 hK0 hK1 (fun x hx g' fg' h11 => hb x ?_ g' fg' h11) (fun p' hp' g' fg' sg' => ?_)
      · rw [esum]
        have : p_fc T n dp (.inr (p + 1), c) = (.inl x, (p_fc T n dp (.inr (p + 1), c)).2) := by rw [← hx]
        rw [this]
        exact t_tk_i (by decide) p_aft_d
      · obtain ⟨⟨q1, q2, q3, q4, q5⟩, _⟩ := p_fc_ok hn dp (p + 1) c p' [] (by omega) pn hn (by omega) hp'
        have e3 : p_sum T n dp (.inr (p + 1), c) = p_aft T n (p_fc T n dp) 239 none none (.inr p', (p_fc T n dp (.inr (p + 1), c)).2) := by rw [esum, ← hp']
        generalize (p_fc T n dp (.inr (p + 1), c)).2 = c1 at *
        refine r_sumA hn ihX 239 none none p' c1 ((14, 0) :: u) g' (by omega) (by omega) (by rw [w1]; show c1.1 + 0 + 0 + _ ≤ p'; omega) (by show (((14, 0) :: u) ++ bs).length ≤ p'; rw [lu]; omega) (fun x r e => by cases e; unfold r_cl; omega) (fun op hh => by cases hh) (fun op hh => by cases hh) fg' sg' (fun x hx g'' fg'' h11 => hb x (by rw [e3]; exact t_tk_i (by decide) hx) g'' fg'' h11) (fun ts' fs' p'' c' g'' b1 b2 b3 b4 b5 b6 b7 b8 => ?_)
        rw [w1] at b4
        have cl3 := b3.2.1.c_le
        have s53 := b3.2.1.2.2.2.2.1
        have e93 : (zt_v (t_c T n (.inr p'')) = 93) = (t_c T n (.inr p'') = 93) := zt_v_eq (k := 93) cl3 (by decide)
        have hap : zr_pd fs' (zr_pd ts' (((14, 0) :: u) ++ bs)) = zr_pd fs' (zr_pd ts' ((14, 0) :: u)) ++ bs := by rw [zr_pd_app, zr_pd_app]
        have h14 : ∃ x ∈ zr_pd fs' (zr_pd ts' ((14, 0) :: u)), x.1 = 14 := by
          refine ⟨(14, 0), ?_, rfl⟩
          cases fs' <;> cases ts' <;> simp [zr_pd]
        have b3' := b3
        rw [hap] at b3'
        have hos : ∀ K : zm_R, K (some (.inl 1)) g'' → zm_C (d + 4) TT m_Mo_hasOpenSum [.inr (some 133), .inl (nI bs.length)] g'' K := fun K hK => k_Mo_hasOpenSum b3' (fun _ => hK) (fun z => by
          obtain ⟨y, y1, y2⟩ := h14
          exact absurd y2 (z y y1))
        intro l2
        refine zm_go g_Mo_readsSum [14] 30 (by decide +kernel) ok_Mo_readsSum _ rfl ?_
        simp only [↓zq, ↓reduceIte, zr_si2, zr_sr1, zr_cp2, zr_tl, zr_tn, shq, List.contains_nil, List.contains_cons, Nat.reduceBEq, Bool.false_or, Bool.or_false, Bool.true_or, Bool.false_eq_true, if_false, if_true, true_and, and_true, List.set_cons_zero, List.set_cons_succ, List.length_cons, List.length_nil, Nat.reduceAdd, Nat.reduceLeDiff, Nat.le_refl, Nat.zero_le, true_or, or_true, zn_cl, ↓jj_Mo_readsSum]
        refine k_Mo_here b3.2.1 ?_
        simp only [↓zq, ↓reduceIte, zr_si2, zr_sr1, zr_cp2, zr_tl, zr_tn, shq, List.contains_nil, List.contains_cons, Nat.reduceBEq, Bool.false_or, Bool.or_false, Bool.true_or, Bool.false_eq_true, if_false, if_true, true_and, and_true, List.set_cons_zero, List.set_cons_succ, List.length_cons, List.length_nil, Nat.reduceAdd, Nat.reduceLeDiff, Nat.le_refl, Nat.zero_le, true_or, or_true, zn_cl, ↓jj_Mo_readsSum]
        refine k_Mo_sumSign cl3 ?_
        rw [zr_sg_0 b7]
        simp only [↓zq, ↓reduceIte, zr_si2, zr_sr1, zr_cp2, zr_tl, zr_tn, shq, List.contains_nil, List.contains_cons, Nat.reduceBEq, Bool.false_or, Bool.or_false, Bool.true_or, Bool.false_eq_true, if_false, if_true, true_and, and_true, List.set_cons_zero, List.set_cons_succ, List.length_cons, List.length_nil, Nat.reduceAdd, Nat.reduceLeDiff, Nat.le_refl, Nat.zero_le, true_or, or_true, zn_cl, ↓jj_Mo_readsSum]
        simp only [not_false_eq_true, not_true_eq_false, false_imp_iff, true_imp_iff, forall_const, and_true, true_and, and_self, false_or, or_false, Int32.reduceLT, Int32.reduceLE, Int32.reduceSub, Int32.reduceAdd]
        refine k_Mo_here b3.2.1 ?_
        simp only [↓zq, ↓reduceIte, zr_si2, zr_sr1, zr_cp2, zr_tl, zr_tn, shq, List.contains_nil, List.contains_cons, Nat.reduceBEq, Bool.false_or, Bool.or_false, Bool.true_or, Bool.false_eq_true, if_false, if_true, true_and, and_true, List.set_cons_zero, List.set_cons_succ, List.length_cons, List.length_nil, Nat.reduceAdd, Nat.reduceLeDiff, Nat.le_refl, Nat.zero_le, true_or, or_true, zn_cl, ↓jj_Mo_readsSum, e93]
        refine ⟨fun z => hos _ ?_, fun z => hos _ ?_⟩
        · simp only [↓zq, ↓reduceIte, zr_si2, zr_sr1, zr_cp2, zr_tl, zr_tn, shq, List.contains_nil, List.contains_cons, Nat.reduceBEq, Bool.false_or, Bool.or_false, Bool.true_or, Bool.false_eq_true, if_false, if_true, true_and, and_true, List.set_cons_zero, List.set_cons_succ, List.length_cons, List.length_nil, Nat.reduceAdd, Nat.reduceLeDiff, Nat.le_refl, Nat.zero_le, true_or, or_true, zn_cl, ↓jj_Mo_readsSum, s53]
          refine ⟨fun z2 => absurd z2 (by decide), fun _ => ?_⟩
          refine k_Mo_wrongAt (f := 1) (q := p'') ?_
          simp only [↓zq, ↓reduceIte, zr_si2, zr_sr1, zr_cp2, zr_tl, zr_tn, shq, List.contains_nil, List.contains_cons, Nat.reduceBEq, Bool.false_or, Bool.or_false, Bool.true_or, Bool.false_eq_true, if_false, if_true, true_and, and_true, List.set_cons_zero, List.set_cons_succ, List.length_cons, List.length_nil, Nat.reduceAdd, Nat.reduceLeDiff, Nat.le_refl, Nat.zero_le, true_or, or_true, zn_cl, ↓jj_Mo_readsSum]
          obtain ⟨f1, f2⟩ := zu_n_11 g'' (t_an (1, p''))
          refine hb (1, p'') ?_ _ (b2.tr f1.r) f2
          rw [e3, b8]
          unfold t_tk
          rw [if_neg z]
          rfl
        · simp only [↓zq, ↓reduceIte, zr_si2, zr_sr1, zr_cp2, zr_tl, zr_tn, shq, List.contains_nil, List.contains_cons, Nat.reduceBEq, Bool.false_or, Bool.or_false, Bool.true_or, Bool.false_eq_true, if_false, if_true, true_and, and_true, List.set_cons_zero, List.set_cons_succ, List.length_cons, List.length_nil, Nat.reduceAdd, Nat.reduceLeDiff, Nat.le_refl, Nat.zero_le, true_or, or_true, zn_cl, ↓jj_Mo_readsSum]
          refine ⟨fun z2 => absurd z2 (by decide), fun _ => ?_⟩
          have pn'' : p'' < n := t_c_r_lt (T := T) (by omega)
          refine k_Mo_closesAll b3 b5 b6 (fun x r e => by cases e; unfold r_cl; omega) (by omega) (fun g3 f3 s3 => ?_)
          have s3' : zr_s g3 T n p'' (lc_wait ts' (lc_wait fs' c')) ((14, 0) :: (u ++ bs)) (6 - dp) := s3
          obtain ⟨e1, f4, s4⟩ := zr_pop s3'
          have eo := s4.2.2.2.2.1
          have eo' : (zm_si g3 133 15 (nI (u ++ bs).length)).1 133 13 - 1 = nI (6 - (dp + 1)) := by
            rw [eo]
            have : 6 - dp = (6 - (dp + 1)) + 1 := by omega
            rw [this, nI_pred]
          obtain ⟨f5, s5⟩ := zr_open s4 (o' := 6 - (dp + 1)) (by omega)
          obtain ⟨e6, f6, s6⟩ := zr_place s5 pn''
          have e1' : g3.1 133 15 - 1 = nI (u ++ bs).length := e1
          simp only [↓zq, ↓reduceIte, zr_si2, zr_sr1, zr_cp2, zr_tl, zr_tn, shq, List.contains_nil, List.contains_cons, Nat.reduceBEq, Bool.false_or, Bool.or_false, Bool.true_or, Bool.false_eq_true, if_false, if_true, true_and, and_true, List.set_cons_zero, List.set_cons_succ, List.length_cons, List.length_nil, Nat.reduceAdd, Nat.reduceLeDiff, Nat.le_refl, Nat.zero_le, true_or, or_true, zn_cl, ↓jj_Mo_readsSum, e1', eo', e6]
          refine hg (p'' + 1) ?_ _ ((((b2.tr f3).tr f4).tr f5).tr f6) ?_ _
          · rw [e3, b8]
            unfold t_tk
            rw [if_pos z]
            rfl
          · rw [e3, b8]
            exact s6
    · exact r_prim hn h1 (by omega) fg sg h91 hK0 hb (fun p' hp' g' fg' sg' => hK1 g' (hg p' hp' g' fg' sg'))
