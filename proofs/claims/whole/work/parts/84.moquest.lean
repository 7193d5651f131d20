set_option maxHeartbeats 4000000 in
set_option maxRecDepth 100000 in
theorem k_Mo_question {d : Nat} {h : zm_M} {R : zm_R} {n0 : Nat} {F : zs_F} {sp : Nat → Nat} {U : zs_U} {Q : zs_Q} {B : zs_B} {L : zs_L} {x : Nat} {K : zs_K} {v : Int32} (hO : zOO h n0 F sp U Q B L x K) (hR : ∀ h' : zm_M, zo_own h h' → zOO h' n0 F sp U (D_question F sp Q B v).2.2 (D_question F sp Q B v).2.1 L x K → R (some (.inl (D_question F sp Q B v).1)) h') : zm_C (d + 8) TT m_Mo_question [.inr (some 133), .inl v] h R := by
  have hp := hO.1.1
  have p7 : h.2 133 7 = some 137 := by simp only [hp]
  obtain ⟨hB, hBw⟩ := hO.2.1
  have b1 := hB.1
  have b260 := hBw.1
  have bad : (∀ n, v = nI n → 1 ≤ n → n ≤ 80 → n ≤ B.1 → False) → R (some (.inl (-1))) h := fun no => by
    have eD : D_question F sp Q B v = (-1, B, Q) := by
      unfold D_question
      rw [zs_tx_no (by decide) no]
    rw [eD] at hR
    exact hR h (zo_own.rf h) hO
  refine st_Mo_question [46] 30 ?_
  simp only [↓zq, ↓reduceIte, zr_si2, zr_sr1, zr_cp2, zr_tl, zr_tn, shq, List.contains_nil, List.contains_cons, Nat.reduceBEq, Bool.false_or, Bool.or_false, Bool.true_or, Bool.false_eq_true, if_false, if_true, true_and, and_true, List.set_cons_zero, List.set_cons_succ, List.length_cons, List.length_nil, Nat.reduceAdd, Nat.reduceLeDiff, Nat.le_refl, Nat.zero_le, true_or, or_true, zn_cl, ↓jj_Mo_question]
  refine k_Mo_in (fun z1 z2 => ?_) (fun z => ?_)
  · simp only [↓zq, ↓reduceIte, zr_si2, zr_sr1, zr_cp2, zr_tl, zr_tn, shq, List.contains_nil, List.contains_cons, Nat.reduceBEq, Bool.false_or, Bool.or_false, Bool.true_or, Bool.false_eq_true, if_false, if_true, true_and, and_true, List.set_cons_zero, List.set_cons_succ, List.length_cons, List.length_nil, Nat.reduceAdd, Nat.reduceLeDiff, Nat.le_refl, Nat.zero_le, true_or, or_true, zn_cl, ↓jj_Mo_question, b1]
    refine ⟨fun z => absurd z (by decide), fun _ => ⟨fun z3 => ?_, fun z3 => bad (fun m em m1 m2 m3 => ?_)⟩⟩
    · obtain ⟨n, n0', n1, n2, rfl⟩ := zs_tx_in (m := 80) (by decide) b260 z1 z2 z3
      have eT := zs_tx_of n0' n1 n2 (show 80 < 1000 by decide)
      refine k_Mo_beginsText p7 hB hBw n2 (by omega) (fun g1 e1 e2 e3 e4 e5 s1 => ?_)
      simp only [↓zq, ↓reduceIte, zr_si2, zr_sr1, zr_cp2, zr_tl, zr_tn, shq, List.contains_nil, List.contains_cons, Nat.reduceBEq, Bool.false_or, Bool.or_false, Bool.true_or, Bool.false_eq_true, if_false, if_true, true_and, and_true, List.set_cons_zero, List.set_cons_succ, List.length_cons, List.length_nil, Nat.reduceAdd, Nat.reduceLeDiff, Nat.le_refl, Nat.zero_le, true_or, or_true, zn_cl, ↓jj_Mo_question]
      have v1 : zv_f h g1 := ⟨e1, fun a h1 _ _ => e2 a h1, fun k h1 h2 _ _ h5 h6 _ _ => e3 k h1 h2 h5 h6⟩
      refine k_Mo_readsQuestion (sp := sp) (by rw [e1]; exact hp) s1 n1 (by unfold zo_S; rw [e2 136 (by omega)]; exact hO.1.2.2.1.1) hO.1.2.2.1.2 (fun y hy g f2 h11 => ?_) (fun p' hp' g f2 r2 => ?_)
      · have hf := v1.tr f2
        have eD : D_question F sp Q B (nI n) = (t_an y, (0, B.2), Q) := by
          unfold D_question
          rw [eT]
          dsimp only
          rw [hy]
        rw [eD] at hR
        obtain ⟨o1, o2⟩ := zOO_zv hO hf
        have h11' : (zm_si g 133 8 0).1 133 11 = t_an y := by rw [zr_si1, if_neg (by omega)]; exact h11
        simp only [↓zq, ↓reduceIte, zr_si2, zr_sr1, zr_cp2, zr_tl, zr_tn, shq, List.contains_nil, List.contains_cons, Nat.reduceBEq, Bool.false_or, Bool.or_false, Bool.true_or, Bool.false_eq_true, if_false, if_true, true_and, and_true, List.set_cons_zero, List.set_cons_succ, List.length_cons, List.length_nil, Nat.reduceAdd, Nat.reduceLeDiff, Nat.le_refl, Nat.zero_le, true_or, or_true, zn_cl, ↓jj_Mo_question, h11']
        exact ⟨fun z => (by first | exact absurd trivial z | exact absurd rfl z | exact absurd z (by decide)), fun _ => hR _ o1 o2⟩
      · have hf := v1.tr f2
        have hrw := f_qr_w hp'
        have eD : D_question F sp Q B (nI n) = (nI (zs_some (fun k => (zs_tabF sp F (f_qr B.2 n sp (.inr 0)) k).1) 512), (0, B.2), (true, f_qr B.2 n sp (.inr 0))) := by
          unfold D_question
          rw [eT]
          dsimp only
          rw [hp']
        generalize f_qr B.2 n sp (.inr 0) = row at *
        rw [eD] at hR
        dsimp only at hR
        obtain ⟨o1, o2⟩ := zOO_zv hO hf
        obtain ⟨g8, hg8⟩ : ∃ g8 : zm_M, g8 = zm_si g 133 8 0 := ⟨_, rfl⟩
        have r8 : ∀ k, k < 7 → g8.1 152 k = nI (row k) := fun k hk => by rw [hg8, zr_si1, if_neg (by omega)]; exact r2 k hk
        simp only [↓zq, ↓reduceIte, zr_si2, zr_sr1, zr_cp2, zr_tl, zr_tn, shq, List.contains_nil, List.contains_cons, Nat.reduceBEq, Bool.false_or, Bool.or_false, Bool.true_or, Bool.false_eq_true, if_false, if_true, true_and, and_true, List.set_cons_zero, List.set_cons_succ, List.length_cons, List.length_nil, Nat.reduceAdd, Nat.reduceLeDiff, Nat.le_refl, Nat.zero_le, true_or, or_true, zn_cl, ↓jj_Mo_question]
        rw [← hg8] at o1 o2 ⊢
        refine ⟨fun _ => ?_, fun z => absurd z (by decide)⟩
        have q34 : g8.2 133 34 = some 152 := (zp_34 o2.1.1).1
        have q35 : g8.2 133 35 = some 153 := by have := o2.1.1; simp only [this]
        have loop : ∀ (j i : Nat) (q : zm_M), i + j = 7 → q.2 = g8.2 → (∀ a, a ≠ 153 → q.1 a = g8.1 a) → (∀ k, k < i → q.1 153 k = nI (row k)) → zm_W (zm_md m_Mo_question) (d + 8) TT R 46 [some (.inr (some 133)), some (.inl (nI n)), some (.inl 1), some (.inl (nI i))] [] q := by
          intro j
          induction j with
          | zero =>
            intro i q hi q2 qI qr
            have : i = 7 := by omega
            subst this
            refine zm_go g_Mo_question [46] 30 (by decide +kernel) ok_Mo_question _ rfl ?_
            simp only [↓zq, ↓reduceIte, zr_si2, zr_sr1, zr_cp2, zr_tl, zr_tn, shq, List.contains_nil, List.contains_cons, Nat.reduceBEq, Bool.false_or, Bool.or_false, Bool.true_or, Bool.false_eq_true, if_false, if_true, true_and, and_true, List.set_cons_zero, List.set_cons_succ, List.length_cons, List.length_nil, Nat.reduceAdd, Nat.reduceLeDiff, Nat.le_refl, Nat.zero_le, true_or, or_true, zn_cl, ↓jj_Mo_question]
            refine ⟨fun _ => ?_, fun z => absurd (by decide) z⟩
            obtain ⟨qq, hqq⟩ : ∃ qq : zm_M, qq = zm_si q 133 36 1 := ⟨_, rfl⟩
            rw [← hqq]
            have m2 : qq.2 = g8.2 := by rw [hqq]; exact q2
            have mI : ∀ a, a ≠ 133 → a ≠ 153 → qq.1 a = g8.1 a := fun a h1 h2 => by
              rw [hqq, ← qI a h2]
              funext j
              rw [zr_si1, if_neg (fun z => h1 z.1)]
            have m0 : ∀ k, k ≠ 36 → qq.1 133 k = g8.1 133 k := fun k hk => by
              rw [hqq, zr_si1, if_neg (fun z => hk z.2), qI 133 (by omega)]
            have m36 : qq.1 133 36 = 1 := by rw [hqq, zr_si1, if_pos ⟨rfl, rfl⟩]
            have mr : ∀ k, k < 7 → qq.1 153 k = nI (row k) := fun k hk => by rw [hqq, zr_si1, if_neg (by omega)]; exact qr k hk
            clear hqq
            obtain ⟨c1, c3, c5, c6, c7, c7w⟩ := id o2
            have zz : zO qq F sp U (true, row) := by
              refine ⟨by rw [m2]; exact c1.1, ⟨?_, c1.2.1.2⟩, ⟨?_, c1.2.2.1.2⟩, ⟨?_, c1.2.2.2.1.2⟩, ⟨m36, fun _ => mr⟩, fun _ => hrw⟩
              · unfold zo_F
                rw [m0 1 (by omega), mI 134 (by omega) (by omega)]
                exact c1.2.1.1
              · unfold zo_S
                rw [mI 136 (by omega) (by omega)]
                exact c1.2.2.1.1
              · unfold zo_U
                rw [m0 2 (by omega), mI 135 (by omega) (by omega)]
                exact c1.2.2.2.1.1
            have z9 := zOO_up o2 zz (fun a ha => mI a (by omega) (by omega)) (fun k hk => m0 k (by omega)) (fun k _ => by rw [mI 134 (by omega) (by omega)]) (by rw [m0 0 (by omega)]; exact c6.1) c6.2 (Nat.le_refl _) (Nat.le_refl _)
            refine k_Mo_answersByFacts zz rfl (fun g9 f9 _ a9 => ?_)
            have am : g9.1 133 41 = nI (zs_some (fun k => (zs_tabF sp F row k).1) 512) := a9.1
            simp only [↓zq, ↓reduceIte, zr_si2, zr_sr1, zr_cp2, zr_tl, zr_tn, shq, List.contains_nil, List.contains_cons, Nat.reduceBEq, Bool.false_or, Bool.or_false, Bool.true_or, Bool.false_eq_true, if_false, if_true, true_and, and_true, List.set_cons_zero, List.set_cons_succ, List.length_cons, List.length_nil, Nat.reduceAdd, Nat.reduceLeDiff, Nat.le_refl, Nat.zero_le, true_or, or_true, zn_cl, ↓jj_Mo_question, am]
            exact hR g9 ((o1.tr ⟨m2, fun a ha => mI a (by omega) (by omega)⟩).tr f9.own) (zOO_fr f9 z9)
          | succ j ih =>
            intro i q hi q2 qI qr
            have p34 : q.2 133 34 = some 152 := by rw [q2]; exact q34
            have p35 : q.2 133 35 = some 153 := by rw [q2]; exact q35
            have v1 : vp_in (nI i) 7 := vp_in_nI (by omega) (by decide)
            have v2 : vp_in (nI i) 8 := vp_in_nI (by omega) (by decide)
            have c1 := nI_clamp (show i < 2 ^ 31 by omega)
            have cc : q.1 152 i = nI (row i) := by rw [qI 152 (by omega)]; exact r8 i (by omega)
            refine zm_go g_Mo_question [46] 30 (by decide +kernel) ok_Mo_question _ rfl ?_
            simp only [↓zq, ↓reduceIte, zr_si2, zr_sr1, zr_cp2, zr_tl, zr_tn, shq, List.contains_nil, List.contains_cons, Nat.reduceBEq, Bool.false_or, Bool.or_false, Bool.true_or, Bool.false_eq_true, if_false, if_true, true_and, and_true, List.set_cons_zero, List.set_cons_succ, List.length_cons, List.length_nil, Nat.reduceAdd, Nat.reduceLeDiff, Nat.le_refl, Nat.zero_le, true_or, or_true, zn_cl, ↓jj_Mo_question, p34, p35, v1, v2, c1, cc, nI_1]
            refine ⟨fun z => absurd z (nI_ge (b := 7) (by omega) (by decide)), fun _ => ?_⟩
            refine ih (i + 1) _ (by omega) q2 (fun a h1 => ?_) (fun k hk => ?_)
            · rw [← qI a h1]
              funext t
              rw [zr_si1, if_neg (fun z => h1 z.1)]
            · rw [zr_si1]
              by_cases z : k = i
              · rw [if_pos ⟨rfl, z⟩, z]
              · rw [if_neg (fun t => z t.2)]
                exact qr k (by omega)
        exact loop 7 0 g8 (by omega) rfl (fun _ _ => rfl) (fun k hk => absurd hk (Nat.not_lt_zero _))
    · subst em
      exact z3 (nI_le m3 (by omega))
  · simp only [↓zq, ↓reduceIte, zr_si2, zr_sr1, zr_cp2, zr_tl, zr_tn, shq, List.contains_nil, List.contains_cons, Nat.reduceBEq, Bool.false_or, Bool.or_false, Bool.true_or, Bool.false_eq_true, if_false, if_true, true_and, and_true, List.set_cons_zero, List.set_cons_succ, List.length_cons, List.length_nil, Nat.reduceAdd, Nat.reduceLeDiff, Nat.le_refl, Nat.zero_le, true_or, or_true, zn_cl, ↓jj_Mo_question]
    refine ⟨fun _ => bad (fun m em m1 m2 m3 => ?_), fun z => (by first | exact absurd trivial z | exact absurd rfl z | exact absurd z (by decide))⟩
    subst em
    rcases z with z | z
    · exact nI_nlt (b := 1) m1 (by omega) z
    · exact nI_nlt (a := 80) m2 (by omega) z
