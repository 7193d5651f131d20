set_option maxHeartbeats 4000000 in
set_option maxRecDepth 100000 in
theorem k_Mo_readsSum {d : Nat} {h : zm_M} {R : zm_R} {T : Nat → Nat} {n dp p : Nat} {c : zl_c} {bs : zr_K} (hn : n ≤ 240) (hdp : dp ≤ 6) (h1 : 1 ≤ p) (hc : c.1 + zr_wt bs ≤ p) (hl : bs.length ≤ p) (hbs : r_bs bs) (hs : zr_s h T n p c bs (6 - dp)) (hb : ∀ x, (p_sum T n dp (.inr p, c)).1 = .inl x → ∀ h' : zm_M, zr_f2 h h' → h'.1 133 11 = t_an x → R (some (.inl 0)) h') (hg : ∀ p', (p_sum T n dp (.inr p, c)).1 = .inr p' → ∀ h' : zm_M, zr_f2 h h' → zr_s h' T n p' (p_sum T n dp (.inr p, c)).2 bs (6 - dp) → R (some (.inl 1)) h') : zm_C (d + 5) TT m_Mo_readsSum [.inr (some 133)] h R := by
  have ek := hs.2.2.2.1.1
  have esum : p_sum T n dp (.inr p, c) = p_aft T n (p_fc T n dp) 239 none none (p_fc T n dp (.inr p, c)) := by rw [p_sum_fc]; rfl
  have pn0 := hs.2.1.2.2.2.2.2
  refine st_Mo_readsSum [14] 30 ?_
  simp only [↓zq, ↓reduceIte, zr_si2, zr_sr1, zr_cp2, zr_tl, zr_tn, shq, List.contains_nil, List.contains_cons, Nat.reduceBEq, Bool.false_or, Bool.or_false, Bool.true_or, Bool.false_eq_true, if_false, if_true, true_and, and_true, List.set_cons_zero, List.set_cons_succ, List.length_cons, List.length_nil, Nat.reduceAdd, Nat.reduceLeDiff, Nat.le_refl, Nat.zero_le, true_or, or_true, zn_cl, ↓jj_Mo_readsSum, ek]
  refine st_Mo_readsFactor [0] 30 ?_
  simp only [↓zq, ↓reduceIte, zr_si2, zr_sr1, zr_cp2, zr_tl, zr_tn, shq, List.contains_nil, List.contains_cons, Nat.reduceBEq, Bool.false_or, Bool.or_false, Bool.true_or, Bool.false_eq_true, if_false, if_true, true_and, and_true, List.set_cons_zero, List.set_cons_succ, List.length_cons, List.length_nil, Nat.reduceAdd, Nat.reduceLeDiff, Nat.le_refl, Nat.zero_le, true_or, or_true, zn_cl, ↓jj_Mo_readsFactor]
  refine r_sumX (d := d) (h := h) (R := R) (bs := bs) hn dp hdp p c [] h _ _ h1 hc hl (zr_f2.rf h) hs (fun g' hg' => ?_) (fun g' hg' => ?_) (fun x hx g' fg' h11 => hb x ?_ g' fg' h11) (fun p' hp' g' fg' sg' => ?_)
  · simp only [↓zq, ↓reduceIte, zr_si2, zr_sr1, zr_cp2, zr_tl, zr_tn, shq, List.contains_nil, List.contains_cons, Nat.reduceBEq, Bool.false_or, Bool.or_false, Bool.true_or, Bool.false_eq_true, if_false, if_true, true_and, and_true, List.set_cons_zero, List.set_cons_succ, List.length_cons, List.length_nil, Nat.reduceAdd, Nat.reduceLeDiff, Nat.le_refl, Nat.zero_le, true_or, or_true, zn_cl, ↓jj_Mo_readsSum]
    exact ⟨fun z => (by first | exact absurd trivial z | exact absurd rfl z | exact absurd z (by decide)), fun _ => hg'⟩
  · simp only [↓zq, ↓reduceIte, zr_si2, zr_sr1, zr_cp2, zr_tl, zr_tn, shq, List.contains_nil, List.contains_cons, Nat.reduceBEq, Bool.false_or, Bool.or_false, Bool.true_or, Bool.false_eq_true, if_false, if_true, true_and, and_true, List.set_cons_zero, List.set_cons_succ, List.length_cons, List.length_nil, Nat.reduceAdd, Nat.reduceLeDiff, Nat.le_refl, Nat.zero_le, true_or, or_true, zn_cl, ↓jj_Mo_readsSum]
    exact ⟨fun _ => hg' _, fun z => absurd z (by decide)⟩
  · rw [esum]
    have : p_fc T n dp (.inr p, c) = (.inl x, (p_fc T n dp (.inr p, c)).2) := by rw [← hx]
    rw [this]
    exact p_aft_d
  · obtain ⟨⟨q1, q2, q3, q4, q5⟩, _⟩ := p_fc_ok hn dp p c p' [] h1 pn0 hn (by omega) hp'
    have e3 : p_sum T n dp (.inr p, c) = p_aft T n (p_fc T n dp) 239 none none (.inr p', (p_fc T n dp (.inr p, c)).2) := by rw [esum, ← hp']
    generalize (p_fc T n dp (.inr p, c)).2 = c1 at *
    refine r_sumA hn (r_sumX (d := d) (h := h) (R := R) (bs := bs) hn dp hdp) 239 none none p' c1 [] g' (by omega) (by omega) (by show c1.1 + 0 + 0 + zr_wt bs ≤ p'; omega) (by show bs.length ≤ p'; omega) hbs (fun op hh => by cases hh) (fun op hh => by cases hh) fg' sg' (fun x hx g'' fg'' h11 => hb x (by rw [e3]; exact hx) g'' fg'' h11) (fun ts' fs' p'' c' g'' b1 b2 b3 b4 b5 b6 b7 b8 => ?_)
    have b3' : zr_s g'' T n p'' c' (zr_pd fs' (zr_pd ts' []) ++ bs) (6 - dp) := by rw [zr_pd_app, zr_pd_app]; exact b3
    have no14 : ∀ x ∈ zr_pd fs' (zr_pd ts' []), x.1 ≠ 14 := by
      intro x hx
      cases fs' with
      | none =>
        cases ts' with
        | none => cases hx
        | some y =>
          have := b5 y rfl
          simp [zr_pd] at hx
          subst hx
          dsimp only
          omega
      | some w =>
        have w6 := b6 w rfl
        cases ts' with
        | none =>
          simp [zr_pd] at hx
          subst hx
          dsimp only
          omega
        | some y =>
          have := b5 y rfl
          simp [zr_pd] at hx
          rcases hx with hx | hx
          · subst hx; dsimp only; omega
          · subst hx; dsimp only; omega
    have hos : ∀ K : zm_R, K (some (.inl 0)) g'' → zm_C (d + 4) TT m_Mo_hasOpenSum [.inr (some 133), .inl (nI bs.length)] g'' K := fun K hK => k_Mo_hasOpenSum b3' (fun z => by
      obtain ⟨y, y1, y2⟩ := z
      exact absurd y2 (no14 y y1)) (fun _ => hK)
    have cl3 := b3.2.1.c_le
    have pn'' := b3.2.1.2.2.2.2.2
    have b4' : c'.1 + l_cn fs' + l_cn ts' + zr_wt bs ≤ p'' := b4
    intro l2
    have at138 : zm_W (zm_md m_Mo_readsSum) (d + 5) TT R 138 [some (.inr (some 133)), some (.inl (nI bs.length)), some (.inl (-1))] [] g'' := by
      refine zm_go g_Mo_readsSum [14, 138] 30 (by decide +kernel) ok_Mo_readsSum _ rfl ?_
      simp only [↓zq, ↓reduceIte, zr_si2, zr_sr1, zr_cp2, zr_tl, zr_tn, shq, List.contains_nil, List.contains_cons, Nat.reduceBEq, Bool.false_or, Bool.or_false, Bool.true_or, Bool.false_eq_true, if_false, if_true, true_and, and_true, List.set_cons_zero, List.set_cons_succ, List.length_cons, List.length_nil, Nat.reduceAdd, Nat.reduceLeDiff, Nat.le_refl, Nat.zero_le, true_or, or_true, zn_cl, ↓jj_Mo_readsSum]
      refine hos _ ?_
      simp only [↓zq, ↓reduceIte, zr_si2, zr_sr1, zr_cp2, zr_tl, zr_tn, shq, List.contains_nil, List.contains_cons, Nat.reduceBEq, Bool.false_or, Bool.or_false, Bool.true_or, Bool.false_eq_true, if_false, if_true, true_and, and_true, List.set_cons_zero, List.set_cons_succ, List.length_cons, List.length_nil, Nat.reduceAdd, Nat.reduceLeDiff, Nat.le_refl, Nat.zero_le, true_or, or_true, zn_cl, ↓jj_Mo_readsSum]
      refine ⟨fun _ => ?_, fun z => (by first | exact absurd trivial z | exact absurd rfl z | exact absurd z (by decide))⟩
      refine k_Mo_closesAll (k := bs) b3 b5 b6 hbs (by omega) (fun g3 f3 s3 => ?_)
      simp only [↓zq, ↓reduceIte, zr_si2, zr_sr1, zr_cp2, zr_tl, zr_tn, shq, List.contains_nil, List.contains_cons, Nat.reduceBEq, Bool.false_or, Bool.or_false, Bool.true_or, Bool.false_eq_true, if_false, if_true, true_and, and_true, List.set_cons_zero, List.set_cons_succ, List.length_cons, List.length_nil, Nat.reduceAdd, Nat.reduceLeDiff, Nat.le_refl, Nat.zero_le, true_or, or_true, zn_cl, ↓jj_Mo_readsSum]
      rw [e3, b8] at hg
      exact hg p'' rfl g3 (b2.tr f3) s3
    refine zm_go g_Mo_readsSum [14, 138] 30 (by decide +kernel) ok_Mo_readsSum _ rfl ?_
    simp only [↓zq, ↓reduceIte, zr_si2, zr_sr1, zr_cp2, zr_tl, zr_tn, shq, List.contains_nil, List.contains_cons, Nat.reduceBEq, Bool.false_or, Bool.or_false, Bool.true_or, Bool.false_eq_true, if_false, if_true, true_and, and_true, List.set_cons_zero, List.set_cons_succ, List.length_cons, List.length_nil, Nat.reduceAdd, Nat.reduceLeDiff, Nat.le_refl, Nat.zero_le, true_or, or_true, zn_cl, ↓jj_Mo_readsSum]
    refine k_Mo_here b3.2.1 ?_
    simp only [↓zq, ↓reduceIte, zr_si2, zr_sr1, zr_cp2, zr_tl, zr_tn, shq, List.contains_nil, List.contains_cons, Nat.reduceBEq, Bool.false_or, Bool.or_false, Bool.true_or, Bool.false_eq_true, if_false, if_true, true_and, and_true, List.set_cons_zero, List.set_cons_succ, List.length_cons, List.length_nil, Nat.reduceAdd, Nat.reduceLeDiff, Nat.le_refl, Nat.zero_le, true_or, or_true, zn_cl, ↓jj_Mo_readsSum]
    refine k_Mo_sumSign cl3 ?_
    rw [zr_sg_0 b7]
    simp only [↓zq, ↓reduceIte, zr_si2, zr_sr1, zr_cp2, zr_tl, zr_tn, shq, List.contains_nil, List.contains_cons, Nat.reduceBEq, Bool.false_or, Bool.or_false, Bool.true_or, Bool.false_eq_true, if_false, if_true, true_and, and_true, List.set_cons_zero, List.set_cons_succ, List.length_cons, List.length_nil, Nat.reduceAdd, Nat.reduceLeDiff, Nat.le_refl, Nat.zero_le, true_or, or_true, zn_cl, ↓jj_Mo_readsSum]
    simp only [not_false_eq_true, not_true_eq_false, false_imp_iff, true_imp_iff, forall_const, and_true, true_and, and_self, false_or, or_false, Int32.reduceLT, Int32.reduceLE, Int32.reduceSub, Int32.reduceAdd]
    refine k_Mo_here b3.2.1 ?_
    simp only [↓zq, ↓reduceIte, zr_si2, zr_sr1, zr_cp2, zr_tl, zr_tn, shq, List.contains_nil, List.contains_cons, Nat.reduceBEq, Bool.false_or, Bool.or_false, Bool.true_or, Bool.false_eq_true, if_false, if_true, true_and, and_true, List.set_cons_zero, List.set_cons_succ, List.length_cons, List.length_nil, Nat.reduceAdd, Nat.reduceLeDiff, Nat.le_refl, Nat.zero_le, true_or, or_true, zn_cl, ↓jj_Mo_readsSum]
    refine ⟨fun _ => at138, fun _ => hos _ ?_⟩
    simp only [↓zq, ↓reduceIte, zr_si2, zr_sr1, zr_cp2, zr_tl, zr_tn, shq, List.contains_nil, List.contains_cons, Nat.reduceBEq, Bool.false_or, Bool.or_false, Bool.true_or, Bool.false_eq_true, if_false, if_true, true_and, and_true, List.set_cons_zero, List.set_cons_succ, List.length_cons, List.length_nil, Nat.reduceAdd, Nat.reduceLeDiff, Nat.le_refl, Nat.zero_le, true_or, or_true, zn_cl, ↓jj_Mo_readsSum]
    exact ⟨fun _ => at138, fun z => (by first | exact absurd trivial z | exact absurd rfl z | exact absurd z (by decide))⟩
