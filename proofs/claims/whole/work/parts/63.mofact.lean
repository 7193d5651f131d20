set_option maxHeartbeats 4000000 in
set_option maxRecDepth 100000 in
theorem k_Mo_fact {d : Nat} {h : zm_M} {R : zm_R} {n0 : Nat} {F : zs_F} {sp : Nat → Nat} {U : zs_U} {Q : zs_Q} {B : zs_B} {L : zs_L} {x : Nat} {K : zs_K} {a b c m : Int32} (hO : zOO h n0 F sp U Q B L x K) (hR : ∀ h' : zm_M, zo_own h h' → zOO h' n0 (D_fact L F U x a b c m).2.1 sp (D_fact L F U x a b c m).2.2.1 Q B L (D_fact L F U x a b c m).2.2.2 K → R (some (.inl (D_fact L F U x a b c m).1)) h') : zm_C (d + 5) TT m_Mo_fact [.inr (some 133), .inl a, .inl b, .inl c, .inl m] h R := by
  have fs := hO.1.2.1.1.1
  have f240 := hO.1.2.1.2.1
  have no : (zs_ix a 8 = none ∨ zs_ix b 8 = none ∨ zs_ix c 8 = none ∨ zs_ix m 100 = none) → R (some (.inl (-1))) h := by
    intro z
    have e : D_fact L F U x a b c m = (-1, F, U, x) := by
      unfold D_fact
      rcases z with z | z | z | z <;> rw [z]
      · cases zs_ix a 8 <;> rfl
      · cases zs_ix a 8 <;> cases zs_ix b 8 <;> rfl
      · cases zs_ix a 8 <;> cases zs_ix b 8 <;> cases zs_ix c 8 <;> rfl
    have := hR h (zo_own.rf h)
    rw [e] at this
    exact this hO
  refine st_Mo_fact [] 30 ?_
  simp only [↓zq, ↓reduceIte, zr_si2, zr_sr1, zr_cp2, zr_tl, zr_tn, shq, List.contains_nil, List.contains_cons, Nat.reduceBEq, Bool.false_or, Bool.or_false, Bool.true_or, Bool.false_eq_true, if_false, if_true, true_and, and_true, List.set_cons_zero, List.set_cons_succ, List.length_cons, List.length_nil, Nat.reduceAdd, Nat.reduceLeDiff, Nat.le_refl, Nat.zero_le, true_or, or_true, zn_cl, ↓jj_Mo_fact]
  refine k_Mo_isValue (fun a' ha ea => ?_) (fun z => ?_)
  · subst ea
    simp only [↓zq, ↓reduceIte, zr_si2, zr_sr1, zr_cp2, zr_tl, zr_tn, shq, List.contains_nil, List.contains_cons, Nat.reduceBEq, Bool.false_or, Bool.or_false, Bool.true_or, Bool.false_eq_true, if_false, if_true, true_and, and_true, List.set_cons_zero, List.set_cons_succ, List.length_cons, List.length_nil, Nat.reduceAdd, Nat.reduceLeDiff, Nat.le_refl, Nat.zero_le, true_or, or_true, zn_cl, ↓jj_Mo_fact]
    refine ⟨fun z => absurd z (by decide), fun _ => k_Mo_isValue (fun b' hb eb => ?_) (fun z => ?_)⟩
    · subst eb
      simp only [↓zq, ↓reduceIte, zr_si2, zr_sr1, zr_cp2, zr_tl, zr_tn, shq, List.contains_nil, List.contains_cons, Nat.reduceBEq, Bool.false_or, Bool.or_false, Bool.true_or, Bool.false_eq_true, if_false, if_true, true_and, and_true, List.set_cons_zero, List.set_cons_succ, List.length_cons, List.length_nil, Nat.reduceAdd, Nat.reduceLeDiff, Nat.le_refl, Nat.zero_le, true_or, or_true, zn_cl, ↓jj_Mo_fact]
      refine ⟨fun z => absurd z (by decide), fun _ => k_Mo_isValue (fun c' hc ec => ?_) (fun z => ?_)⟩
      · subst ec
        simp only [↓zq, ↓reduceIte, zr_si2, zr_sr1, zr_cp2, zr_tl, zr_tn, shq, List.contains_nil, List.contains_cons, Nat.reduceBEq, Bool.false_or, Bool.or_false, Bool.true_or, Bool.false_eq_true, if_false, if_true, true_and, and_true, List.set_cons_zero, List.set_cons_succ, List.length_cons, List.length_nil, Nat.reduceAdd, Nat.reduceLeDiff, Nat.le_refl, Nat.zero_le, true_or, or_true, zn_cl, ↓jj_Mo_fact, fs]
        refine ⟨fun z => absurd z (by decide), fun _ => k_Mo_in0 99 (by decide) (fun m' hm em => ?_) (fun z => ?_)⟩
        · subst em
          have eD : D_fact L F U x (nI a') (nI b') (nI c') (nI m') = if F.1 = 240 then (-3, F, U, x) else (if (zs_com L F U x a' b' c' m').1 = true then nI F.1 else -6, (zs_com L F U x a' b' c' m').2) := by
            unfold D_fact
            rw [zs_ix_of ha (by decide), zs_ix_of hb (by decide), zs_ix_of hc (by decide), zs_ix_of hm (by decide)]
          have e240 : (nI F.1 = 240) = (F.1 = 240) := zn_eq (b := 240) (by omega) (by decide)
          simp only [↓zq, ↓reduceIte, zr_si2, zr_sr1, zr_cp2, zr_tl, zr_tn, shq, List.contains_nil, List.contains_cons, Nat.reduceBEq, Bool.false_or, Bool.or_false, Bool.true_or, Bool.false_eq_true, if_false, if_true, true_and, and_true, List.set_cons_zero, List.set_cons_succ, List.length_cons, List.length_nil, Nat.reduceAdd, Nat.reduceLeDiff, Nat.le_refl, Nat.zero_le, true_or, or_true, zn_cl, ↓jj_Mo_fact, fs, e240]
          refine ⟨fun _ => ⟨fun z2 => ?_, fun z2 => ?_⟩, fun z => absurd z (by decide)⟩
          · rw [if_neg z2] at eD
            rw [eD] at hR
            refine k_Mo_comes hO ha hb hc hm (by omega) (fun q h' ho hC' => ?_) (fun q h' ho hC' => ?_)
            · simp only [↓zq, ↓reduceIte, zr_si2, zr_sr1, zr_cp2, zr_tl, zr_tn, shq, List.contains_nil, List.contains_cons, Nat.reduceBEq, Bool.false_or, Bool.or_false, Bool.true_or, Bool.false_eq_true, if_false, if_true, true_and, and_true, List.set_cons_zero, List.set_cons_succ, List.length_cons, List.length_nil, Nat.reduceAdd, Nat.reduceLeDiff, Nat.le_refl, Nat.zero_le, true_or, or_true, zn_cl, ↓jj_Mo_fact]
              have := hR h' ho
              rw [zs_com_0 q] at this
              exact this hC'
            · simp only [↓zq, ↓reduceIte, zr_si2, zr_sr1, zr_cp2, zr_tl, zr_tn, shq, List.contains_nil, List.contains_cons, Nat.reduceBEq, Bool.false_or, Bool.or_false, Bool.true_or, Bool.false_eq_true, if_false, if_true, true_and, and_true, List.set_cons_zero, List.set_cons_succ, List.length_cons, List.length_nil, Nat.reduceAdd, Nat.reduceLeDiff, Nat.le_refl, Nat.zero_le, true_or, or_true, zn_cl, ↓jj_Mo_fact]
              have := hR h' ho
              rw [zs_com_1 q] at this
              exact this hC'
          · rw [if_pos z2] at eD
            rw [eD] at hR
            exact hR h (zo_own.rf h) hO
        · simp only [↓zq, ↓reduceIte, zr_si2, zr_sr1, zr_cp2, zr_tl, zr_tn, shq, List.contains_nil, List.contains_cons, Nat.reduceBEq, Bool.false_or, Bool.or_false, Bool.true_or, Bool.false_eq_true, if_false, if_true, true_and, and_true, List.set_cons_zero, List.set_cons_succ, List.length_cons, List.length_nil, Nat.reduceAdd, Nat.reduceLeDiff, Nat.le_refl, Nat.zero_le, true_or, or_true, zn_cl, ↓jj_Mo_fact]
          exact ⟨fun z => (by first | exact absurd trivial z | exact absurd rfl z | exact absurd z (by decide)), fun _ => no (Or.inr (Or.inr (Or.inr z)))⟩
      · simp only [↓zq, ↓reduceIte, zr_si2, zr_sr1, zr_cp2, zr_tl, zr_tn, shq, List.contains_nil, List.contains_cons, Nat.reduceBEq, Bool.false_or, Bool.or_false, Bool.true_or, Bool.false_eq_true, if_false, if_true, true_and, and_true, List.set_cons_zero, List.set_cons_succ, List.length_cons, List.length_nil, Nat.reduceAdd, Nat.reduceLeDiff, Nat.le_refl, Nat.zero_le, true_or, or_true, zn_cl, ↓jj_Mo_fact]
        exact ⟨fun _ => no (Or.inr (Or.inr (Or.inl (zs_ix_no z)))), fun z => (by first | exact absurd trivial z | exact absurd rfl z | exact absurd z (by decide))⟩
    · simp only [↓zq, ↓reduceIte, zr_si2, zr_sr1, zr_cp2, zr_tl, zr_tn, shq, List.contains_nil, List.contains_cons, Nat.reduceBEq, Bool.false_or, Bool.or_false, Bool.true_or, Bool.false_eq_true, if_false, if_true, true_and, and_true, List.set_cons_zero, List.set_cons_succ, List.length_cons, List.length_nil, Nat.reduceAdd, Nat.reduceLeDiff, Nat.le_refl, Nat.zero_le, true_or, or_true, zn_cl, ↓jj_Mo_fact]
      exact ⟨fun _ => no (Or.inr (Or.inl (zs_ix_no z))), fun z => (by first | exact absurd trivial z | exact absurd rfl z | exact absurd z (by decide))⟩
  · simp only [↓zq, ↓reduceIte, zr_si2, zr_sr1, zr_cp2, zr_tl, zr_tn, shq, List.contains_nil, List.contains_cons, Nat.reduceBEq, Bool.false_or, Bool.or_false, Bool.true_or, Bool.false_eq_true, if_false, if_true, true_and, and_true, List.set_cons_zero, List.set_cons_succ, List.length_cons, List.length_nil, Nat.reduceAdd, Nat.reduceLeDiff, Nat.le_refl, Nat.zero_le, true_or, or_true, zn_cl, ↓jj_Mo_fact]
    exact ⟨fun _ => no (Or.inl (zs_ix_no z)), fun z => (by first | exact absurd trivial z | exact absurd rfl z | exact absurd z (by decide))⟩
theorem zOO_x {h : zm_M} {c : Nat} {F : zs_F} {sp : Nat → Nat} {U : zs_U} {Q : zs_Q} {B : zs_B} {L : zs_L} {x y : Nat} {K : zs_K} (hO : zOO h c F sp U Q B L x K) (hy : y < 65536) : zOO (zm_si h 133 0 (nI y)) c F sp U Q B L y K := by
  refine zOO_la hO ⟨rfl, fun a h0 _ _ => ?_, fun k hk => ?_⟩ ?_ hy
  · funext j
    rw [zr_si1, if_neg (fun z => h0 z.1)]
  · rw [zr_si1, if_neg (fun z => hk z.2)]
  · rw [zr_si1, if_pos ⟨rfl, rfl⟩]
theorem zo_own_0 (h : zm_M) (a k : Nat) (y : Int32) (ha : 133 ≤ a) : zo_own h (zm_si h a k y) := ⟨rfl, fun q hq => by funext j; rw [zr_si1, if_neg (by omega)]⟩
set_option maxHeartbeats 4000000 in
set_option maxRecDepth 100000 in
theorem k_Mo_draws {d : Nat} {h : zm_M} {R : zm_R} {n0 : Nat} {F : zs_F} {sp : Nat → Nat} {U : zs_U} {Q : zs_Q} {B : zs_B} {L : zs_L} {x : Nat} {K : zs_K} {n : Int32} (hO : zOO h n0 F sp U Q B L x K) (hR : ∀ h' : zm_M, zo_own h h' → zOO h' n0 (D_draws L F U x n).2.1 sp (D_draws L F U x n).2.2.1 Q B L (D_draws L F U x n).2.2.2 K → R (some (.inl (D_draws L F U x n).1)) h') : zm_C (d + 5) TT m_Mo_draws [.inr (some 133), .inl n] h R := by
  have loop : ∀ (N i f t : Nat) (h' : zm_M) (F : zs_F) (U : zs_U) (x : Nat) (l4 l5 l6 l7 : Option zm_V), N < 61 → i + f = N → t ≤ i → zo_own h h' → zOO h' n0 F sp U Q B L x K → (∀ h'' : zm_M, zo_own h h'' → zOO h'' n0 (zs_dr L f t F U x).2.1 sp (zs_dr L f t F U x).2.2.1 Q B L (zs_dr L f t F U x).2.2.2 K → R (some (.inl (nI (zs_dr L f t F U x).1))) h'') → zm_W (zm_md m_Mo_draws) (d + 5) TT R 16 [some (.inr (some 133)), some (.inl (nI N)), some (.inl (nI t)), some (.inl (nI i)), l4, l5, l6, l7] [] h' := by
    intro N i f
    induction f generalizing i with
    | zero =>
      intro t h' F U x l4 l5 l6 l7 hN hi ht ho hO hR
      have : i = N := by omega
      subst this
      refine zm_go g_Mo_draws [16] 30 (by decide +kernel) ok_Mo_draws _ rfl ?_
      simp only [↓zq, ↓reduceIte, zr_si2, zr_sr1, zr_cp2, zr_tl, zr_tn, shq, List.contains_nil, List.contains_cons, Nat.reduceBEq, Bool.false_or, Bool.or_false, Bool.true_or, Bool.false_eq_true, if_false, if_true, true_and, and_true, List.set_cons_zero, List.set_cons_succ, List.length_cons, List.length_nil, Nat.reduceAdd, Nat.reduceLeDiff, Nat.le_refl, Nat.zero_le, true_or, or_true, zn_cl, ↓jj_Mo_draws]
      exact ⟨fun _ => hR h' ho hO, fun z => absurd (Int32.le_refl _) z⟩
    | succ f ih =>
      intro t h' F U x l4 l5 l6 l7 hN hi ht ho hO hR
      have fs := hO.1.2.1.1.1
      have f240 := hO.1.2.1.2.1
      obtain ⟨ex, hx⟩ := hO.2.2.2.1
      have g1 := nI_ge (show i < N by omega) (by omega)
      refine zm_go g_Mo_draws [16] 30 (by decide +kernel) ok_Mo_draws _ rfl ?_
      simp only [↓zq, ↓reduceIte, zr_si2, zr_sr1, zr_cp2, zr_tl, zr_tn, shq, List.contains_nil, List.contains_cons, Nat.reduceBEq, Bool.false_or, Bool.or_false, Bool.true_or, Bool.false_eq_true, if_false, if_true, true_and, and_true, List.set_cons_zero, List.set_cons_succ, List.length_cons, List.length_nil, Nat.reduceAdd, Nat.reduceLeDiff, Nat.le_refl, Nat.zero_le, true_or, or_true, zn_cl, ↓jj_Mo_draws, fs, g1]
      simp only [not_false_eq_true, not_true_eq_false, false_imp_iff, true_imp_iff, forall_const, and_true, true_and, and_self, false_or, or_false, Int32.reduceLT, Int32.reduceLE, Int32.reduceSub, Int32.reduceAdd]
      rcases Nat.lt_or_ge F.1 240 with hn | hn
      · have g2 : ¬ 240 ≤ nI F.1 := nI_ge (b := 240) hn (by decide)
        rw [zs_dr, if_neg (by omega)] at hR
        refine ⟨fun z => absurd z g2, fun _ => ?_⟩
        have xl := zs_nx_lt x
        have xl2 := zs_nx_lt (zs_nx x)
        have xl3 := zs_nx_lt (zs_nx (zs_nx x))
        have xl4 := zs_nx_lt (zs_nx (zs_nx (zs_nx x)))
        have zC1 := zOO_x hO xl
        have zC2 := zOO_x zC1 xl2
        have zC3 := zOO_x zC2 xl3
        have zC4 := zOO_x zC3 xl4
        refine k_Mo_lotGoes ex hx ?_
        simp only [↓zq, ↓reduceIte, zr_si2, zr_sr1, zr_cp2, zr_tl, zr_tn, shq, List.contains_nil, List.contains_cons, Nat.reduceBEq, Bool.false_or, Bool.or_false, Bool.true_or, Bool.false_eq_true, if_false, if_true, true_and, and_true, List.set_cons_zero, List.set_cons_succ, List.length_cons, List.length_nil, Nat.reduceAdd, Nat.reduceLeDiff, Nat.le_refl, Nat.zero_le, true_or, or_true, zn_cl, ↓jj_Mo_draws, zn_8r]
        refine ⟨by decide, k_Mo_lotGoes zC1.2.2.2.1.1 xl ?_⟩
        simp only [↓zq, ↓reduceIte, zr_si2, zr_sr1, zr_cp2, zr_tl, zr_tn, shq, List.contains_nil, List.contains_cons, Nat.reduceBEq, Bool.false_or, Bool.or_false, Bool.true_or, Bool.false_eq_true, if_false, if_true, true_and, and_true, List.set_cons_zero, List.set_cons_succ, List.length_cons, List.length_nil, Nat.reduceAdd, Nat.reduceLeDiff, Nat.le_refl, Nat.zero_le, true_or, or_true, zn_cl, ↓jj_Mo_draws, zn_8r]
        refine ⟨by decide, k_Mo_lotGoes zC2.2.2.2.1.1 xl2 ?_⟩
        simp only [↓zq, ↓reduceIte, zr_si2, zr_sr1, zr_cp2, zr_tl, zr_tn, shq, List.contains_nil, List.contains_cons, Nat.reduceBEq, Bool.false_or, Bool.or_false, Bool.true_or, Bool.false_eq_true, if_false, if_true, true_and, and_true, List.set_cons_zero, List.set_cons_succ, List.length_cons, List.length_nil, Nat.reduceAdd, Nat.reduceLeDiff, Nat.le_refl, Nat.zero_le, true_or, or_true, zn_cl, ↓jj_Mo_draws, zn_8r]
        refine ⟨by decide, k_Mo_lotGoes zC3.2.2.2.1.1 xl3 ?_⟩
        simp only [↓zq, ↓reduceIte, zr_si2, zr_sr1, zr_cp2, zr_tl, zr_tn, shq, List.contains_nil, List.contains_cons, Nat.reduceBEq, Bool.false_or, Bool.or_false, Bool.true_or, Bool.false_eq_true, if_false, if_true, true_and, and_true, List.set_cons_zero, List.set_cons_succ, List.length_cons, List.length_nil, Nat.reduceAdd, Nat.reduceLeDiff, Nat.le_refl, Nat.zero_le, true_or, or_true, zn_cl, ↓jj_Mo_draws, zn_100r]
        have o4 := (((ho.tr (zo_own_0 h' 133 0 (nI (zs_nx x)) (by decide))).tr (zo_own_0 _ 133 0 (nI (zs_nx (zs_nx x))) (by decide))).tr (zo_own_0 _ 133 0 (nI (zs_nx (zs_nx (zs_nx x)))) (by decide))).tr (zo_own_0 _ 133 0 (nI (zs_nx (zs_nx (zs_nx (zs_nx x))))) (by decide))
        refine ⟨by decide, ?_⟩
        refine k_Mo_comes zC4 (Nat.mod_lt _ (by decide)) (Nat.mod_lt _ (by decide)) (Nat.mod_lt _ (by decide)) (Nat.mod_lt _ (by decide)) hn (fun q g og hCg => ?_) (fun q g og hCg => ?_)
        · rw [zs_com_0 q] at hR
          simp only [↓zq, ↓reduceIte, zr_si2, zr_sr1, zr_cp2, zr_tl, zr_tn, shq, List.contains_nil, List.contains_cons, Nat.reduceBEq, Bool.false_or, Bool.or_false, Bool.true_or, Bool.false_eq_true, if_false, if_true, true_and, and_true, List.set_cons_zero, List.set_cons_succ, List.length_cons, List.length_nil, Nat.reduceAdd, Nat.reduceLeDiff, Nat.le_refl, Nat.zero_le, true_or, or_true, zn_cl, ↓jj_Mo_draws, nI_1]
          refine ⟨fun _ => ?_, fun z => absurd (by decide) z⟩
          exact ih (i + 1) t g _ _ _ _ _ _ _ hN (by omega) (by omega) (o4.tr og) hCg hR
        · rw [zs_com_1 q] at hR
          have gp := nI_pos (show F.1 < 2 ^ 31 by omega)
          simp only [↓zq, ↓reduceIte, zr_si2, zr_sr1, zr_cp2, zr_tl, zr_tn, shq, List.contains_nil, List.contains_cons, Nat.reduceBEq, Bool.false_or, Bool.or_false, Bool.true_or, Bool.false_eq_true, if_false, if_true, true_and, and_true, List.set_cons_zero, List.set_cons_succ, List.length_cons, List.length_nil, Nat.reduceAdd, Nat.reduceLeDiff, Nat.le_refl, Nat.zero_le, true_or, or_true, zn_cl, ↓jj_Mo_draws, nI_1]
          refine ⟨fun z => absurd z gp, fun _ => ?_⟩
          exact ih (i + 1) (t + 1) g _ _ _ _ _ _ _ hN (by omega) (by omega) (o4.tr og) hCg hR
      · have hn' : F.1 = 240 := by omega
        rw [zs_dr, if_pos hn'] at hR
        refine ⟨fun _ => hR h' ho hO, fun z => absurd ?_ z⟩
        rw [hn']
        exact Int32.le_refl _
  have e1 : (1 : Int32).toInt = 1 := rfl
  have e0 : (0 : Int32).toInt = 0 := rfl
  have e60 : (60 : Int32).toInt = 60 := rfl
  refine st_Mo_draws [16] 30 ?_
  simp only [↓zq, ↓reduceIte, zr_si2, zr_sr1, zr_cp2, zr_tl, zr_tn, shq, List.contains_nil, List.contains_cons, Nat.reduceBEq, Bool.false_or, Bool.or_false, Bool.true_or, Bool.false_eq_true, if_false, if_true, true_and, and_true, List.set_cons_zero, List.set_cons_succ, List.length_cons, List.length_nil, Nat.reduceAdd, Nat.reduceLeDiff, Nat.le_refl, Nat.zero_le, true_or, or_true, zn_cl, ↓jj_Mo_draws]
  refine k_Mo_in (fun z1 z2 => ?_) (fun z => ?_)
  · simp only [↓zq, ↓reduceIte, zr_si2, zr_sr1, zr_cp2, zr_tl, zr_tn, shq, List.contains_nil, List.contains_cons, Nat.reduceBEq, Bool.false_or, Bool.or_false, Bool.true_or, Bool.false_eq_true, if_false, if_true, true_and, and_true, List.set_cons_zero, List.set_cons_succ, List.length_cons, List.length_nil, Nat.reduceAdd, Nat.reduceLeDiff, Nat.le_refl, Nat.zero_le, true_or, or_true, zn_cl, ↓jj_Mo_draws]
    refine ⟨fun _ => ?_, fun z => absurd z (by decide)⟩
    rcases zs_cas n 61 (by decide) with ⟨j, hj, rfl⟩ | hno
    · have j0 : j ≠ 0 := fun z => by
        subst z
        exact z1 (by decide)
      have e : D_draws L F U x (nI j) = (nI (zs_dr L j 0 F U x).1, (zs_dr L j 0 F U x).2) := by
        unfold D_draws
        rw [zs_ix_of hj (by decide)]
        dsimp only
        rw [if_neg j0]
      rw [e] at hR
      exact loop j 0 j 0 h F U x _ _ _ _ hj (by omega) (Nat.le_refl _) (zo_own.rf h) hO hR
    · exfalso
      have h61 : (nI 61).toInt = 61 := rfl
      rw [Int32.lt_iff_toInt_lt] at z1 z2
      rw [Int32.lt_iff_toInt_lt, Int32.le_iff_toInt_le, h61] at hno
      omega
  · simp only [↓zq, ↓reduceIte, zr_si2, zr_sr1, zr_cp2, zr_tl, zr_tn, shq, List.contains_nil, List.contains_cons, Nat.reduceBEq, Bool.false_or, Bool.or_false, Bool.true_or, Bool.false_eq_true, if_false, if_true, true_and, and_true, List.set_cons_zero, List.set_cons_succ, List.length_cons, List.length_nil, Nat.reduceAdd, Nat.reduceLeDiff, Nat.le_refl, Nat.zero_le, true_or, or_true, zn_cl, ↓jj_Mo_draws]
    refine ⟨fun z => (by first | exact absurd trivial z | exact absurd rfl z | exact absurd z (by decide)), fun _ => ?_⟩
    have e : D_draws L F U x n = (-1, F, U, x) := by
      unfold D_draws
      rcases zs_cas n 61 (by decide) with ⟨j, hj, rfl⟩ | hno
      · rw [zs_ix_of hj (by decide)]
        dsimp only
        rw [if_pos]
        have := nI_toInt (show j < 2 ^ 31 by omega)
        rw [Int32.lt_iff_toInt_lt, Int32.lt_iff_toInt_lt] at z
        omega
      · rw [zs_ix_no hno]
    rw [e] at hR
    exact hR h (zo_own.rf h) hO
