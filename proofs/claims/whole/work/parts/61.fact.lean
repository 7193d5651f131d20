/-! fact, draws -/
def zs_com (L : zs_L) (F : zs_F) (U : zs_U) (x a b c m : Nat) : Bool × zs_F × zs_U × Nat := if zl_fd L (zs_lc F U x a b c m) 120 L.1 0 = none then (true, zs_cF F U L x a b c m, zs_cU F U L x a b c m, zs_nx x) else (false, F, U, zs_nx x)
theorem zs_com_1 {L : zs_L} {F : zs_F} {U : zs_U} {x a b c m : Nat} (h : zl_fd L (zs_lc F U x a b c m) 120 L.1 0 = none) : zs_com L F U x a b c m = (true, zs_cF F U L x a b c m, zs_cU F U L x a b c m, zs_nx x) := if_pos h
theorem zs_com_0 {L : zs_L} {F : zs_F} {U : zs_U} {x a b c m : Nat} (h : zl_fd L (zs_lc F U x a b c m) 120 L.1 0 ≠ none) : zs_com L F U x a b c m = (false, F, U, zs_nx x) := if_neg h
def D_fact (L : zs_L) (F : zs_F) (U : zs_U) (x : Nat) (a b c m : Int32) : Int32 × zs_F × zs_U × Nat := match zs_ix a 8, zs_ix b 8, zs_ix c 8, zs_ix m 100 with
  | some a, some b, some c, some m => if F.1 = 240 then (-3, F, U, x) else (if (zs_com L F U x a b c m).1 = true then nI F.1 else -6, (zs_com L F U x a b c m).2)
  | _, _, _, _ => (-1, F, U, x)
def zs_dr (L : zs_L) : Nat → Nat → zs_F → zs_U → Nat → Nat × zs_F × zs_U × Nat
  | 0, t, F, U, x => (t, F, U, x)
  | n + 1, t, F, U, x => if F.1 = 240 then (t, F, U, x) else zs_dr L n (if (zs_com L F U (zs_nx (zs_nx (zs_nx (zs_nx x)))) (zs_nx x % 8) (zs_nx (zs_nx x) % 8) (zs_nx (zs_nx (zs_nx x)) % 8) (zs_nx (zs_nx (zs_nx (zs_nx x))) % 100)).1 = true then t + 1 else t) (zs_com L F U (zs_nx (zs_nx (zs_nx (zs_nx x)))) (zs_nx x % 8) (zs_nx (zs_nx x) % 8) (zs_nx (zs_nx (zs_nx x)) % 8) (zs_nx (zs_nx (zs_nx (zs_nx x))) % 100)).2.1 (zs_com L F U (zs_nx (zs_nx (zs_nx (zs_nx x)))) (zs_nx x % 8) (zs_nx (zs_nx x) % 8) (zs_nx (zs_nx (zs_nx x)) % 8) (zs_nx (zs_nx (zs_nx (zs_nx x))) % 100)).2.2.1 (zs_com L F U (zs_nx (zs_nx (zs_nx (zs_nx x)))) (zs_nx x % 8) (zs_nx (zs_nx x) % 8) (zs_nx (zs_nx (zs_nx x)) % 8) (zs_nx (zs_nx (zs_nx (zs_nx x))) % 100)).2.2.2
def D_draws (L : zs_L) (F : zs_F) (U : zs_U) (x : Nat) (n : Int32) : Int32 × zs_F × zs_U × Nat := match zs_ix n 61 with
  | none => (-1, F, U, x)
  | some n => if n = 0 then (-1, F, U, x) else (nI (zs_dr L n 0 F U x).1, (zs_dr L n 0 F U x).2)
set_option maxHeartbeats 4000000 in
set_option maxRecDepth 100000 in
theorem k_KS_fact {d : Nat} {h : zm_M} {R : zm_R} {pi : Nat → Nat} {w : Nat} {F : zs_F} {sp : Nat → Nat} {U : zs_U} {Q : zs_Q} {B : zs_B} {L : zs_L} {x : Nat} {K : zs_K} {a b c m : Int32} (hC : zCC h pi w F sp U Q B L x K) (hR : ∀ h' : zm_M, zc_own h h' → zCC h' pi w (D_fact L F U x a b c m).2.1 sp (D_fact L F U x a b c m).2.2.1 Q B L (D_fact L F U x a b c m).2.2.2 K → R (some (.inl (D_fact L F U x a b c m).1)) h') : zm_C (d + 7) TT m_KS_fact [.inr (some 0), .inl a, .inl b, .inl c, .inl m] h R := by
  obtain ⟨p0, p1, p2, p4, p5, p6, p7, p9, p10, p11, p12, p14⟩ := zC_p hC.1
  have fs := hC.1.2.2.1.1.1
  have f240 := hC.1.2.2.1.2.1
  have no : (zs_ix a 8 = none ∨ zs_ix b 8 = none ∨ zs_ix c 8 = none ∨ zs_ix m 100 = none) → R (some (.inl (-1))) h := by
    intro z
    have e : D_fact L F U x a b c m = (-1, F, U, x) := by
      unfold D_fact
      rcases z with z | z | z | z <;> rw [z]
      · cases zs_ix a 8 <;> rfl
      · cases zs_ix a 8 <;> cases zs_ix b 8 <;> rfl
      · cases zs_ix a 8 <;> cases zs_ix b 8 <;> cases zs_ix c 8 <;> rfl
    have := hR h (zc_own.rf h)
    rw [e] at this
    exact this hC
  refine st_KS_fact [] 30 ?_
  simp only [↓zq, ↓reduceIte, zr_si2, zr_sr1, zr_cp2, zr_tl, zr_tn, shq, List.contains_nil, List.contains_cons, Nat.reduceBEq, Bool.false_or, Bool.or_false, Bool.true_or, Bool.false_eq_true, if_false, if_true, true_and, and_true, List.set_cons_zero, List.set_cons_succ, List.length_cons, List.length_nil, Nat.reduceAdd, Nat.reduceLeDiff, Nat.le_refl, Nat.zero_le, true_or, or_true, zn_cl, ↓jj_KS_fact]
  refine k_KS_isValue (fun a' ha ea => ?_) (fun z => ?_)
  · subst ea
    simp only [↓zq, ↓reduceIte, zr_si2, zr_sr1, zr_cp2, zr_tl, zr_tn, shq, List.contains_nil, List.contains_cons, Nat.reduceBEq, Bool.false_or, Bool.or_false, Bool.true_or, Bool.false_eq_true, if_false, if_true, true_and, and_true, List.set_cons_zero, List.set_cons_succ, List.length_cons, List.length_nil, Nat.reduceAdd, Nat.reduceLeDiff, Nat.le_refl, Nat.zero_le, true_or, or_true, zn_cl, ↓jj_KS_fact]
    refine ⟨fun z => absurd z (by decide), fun _ => k_KS_isValue (fun b' hb eb => ?_) (fun z => ?_)⟩
    · subst eb
      simp only [↓zq, ↓reduceIte, zr_si2, zr_sr1, zr_cp2, zr_tl, zr_tn, shq, List.contains_nil, List.contains_cons, Nat.reduceBEq, Bool.false_or, Bool.or_false, Bool.true_or, Bool.false_eq_true, if_false, if_true, true_and, and_true, List.set_cons_zero, List.set_cons_succ, List.length_cons, List.length_nil, Nat.reduceAdd, Nat.reduceLeDiff, Nat.le_refl, Nat.zero_le, true_or, or_true, zn_cl, ↓jj_KS_fact]
      refine ⟨fun z => absurd z (by decide), fun _ => k_KS_isValue (fun c' hc ec => ?_) (fun z => ?_)⟩
      · subst ec
        simp only [↓zq, ↓reduceIte, zr_si2, zr_sr1, zr_cp2, zr_tl, zr_tn, shq, List.contains_nil, List.contains_cons, Nat.reduceBEq, Bool.false_or, Bool.or_false, Bool.true_or, Bool.false_eq_true, if_false, if_true, true_and, and_true, List.set_cons_zero, List.set_cons_succ, List.length_cons, List.length_nil, Nat.reduceAdd, Nat.reduceLeDiff, Nat.le_refl, Nat.zero_le, true_or, or_true, zn_cl, ↓jj_KS_fact, p5, fs]
        refine ⟨fun z => absurd z (by decide), fun _ => ⟨fun z => no (Or.inr (Or.inr (Or.inr (zs_ix_no (Or.inl z))))), fun z0 => ⟨fun z1 => ?_, fun z1 => no (Or.inr (Or.inr (Or.inr (zs_ix_no (Or.inr ?_)))))⟩⟩⟩
        · obtain ⟨m', hm, rfl⟩ := zn_of (n := 100) (m := 100) z0 (by rw [Int32.lt_iff_toInt_lt] at z1; rw [Int32.le_iff_toInt_le]; omega)
          have eD : D_fact L F U x (nI a') (nI b') (nI c') (nI m') = if F.1 = 240 then (-3, F, U, x) else (if (zs_com L F U x a' b' c' m').1 = true then nI F.1 else -6, (zs_com L F U x a' b' c' m').2) := by
            unfold D_fact
            rw [zs_ix_of ha (by decide), zs_ix_of hb (by decide), zs_ix_of hc (by decide), zs_ix_of hm (by decide)]
          refine ⟨fun z2 => ?_, fun z2 => ?_⟩
          · have hn : F.1 < 240 := by
              have z2' : nI F.1 < nI 240 := z2
              exact (nI_ltI (by omega) (by decide)).mp z2'
            rw [if_neg (by omega)] at eD
            rw [eD] at hR
            refine k_KS_tripleOf ha hb hc ?_
            simp only [↓zq, ↓reduceIte, zr_si2, zr_sr1, zr_cp2, zr_tl, zr_tn, shq, List.contains_nil, List.contains_cons, Nat.reduceBEq, Bool.false_or, Bool.or_false, Bool.true_or, Bool.false_eq_true, if_false, if_true, true_and, and_true, List.set_cons_zero, List.set_cons_succ, List.length_cons, List.length_nil, Nat.reduceAdd, Nat.reduceLeDiff, Nat.le_refl, Nat.zero_le, true_or, or_true, zn_cl, ↓jj_KS_fact, p5]
            refine k_KS_comes hC ha hb hc hm hn (fun q h' ho hC' => ?_) (fun q h' ho hC' => ?_)
            · simp only [↓zq, ↓reduceIte, zr_si2, zr_sr1, zr_cp2, zr_tl, zr_tn, shq, List.contains_nil, List.contains_cons, Nat.reduceBEq, Bool.false_or, Bool.or_false, Bool.true_or, Bool.false_eq_true, if_false, if_true, true_and, and_true, List.set_cons_zero, List.set_cons_succ, List.length_cons, List.length_nil, Nat.reduceAdd, Nat.reduceLeDiff, Nat.le_refl, Nat.zero_le, true_or, or_true, zn_cl, ↓jj_KS_fact]
              refine ⟨fun _ => ?_, fun z => (by first | exact absurd trivial z | exact absurd rfl z | exact absurd z (by decide))⟩
              have := hR h' ho
              rw [zs_com_0 q] at this
              exact this hC'
            · have p5' : h'.2 0 5 = some 30 := (zC_p hC'.1).2.2.2.2.1
              have fs' : h'.1 30 2 = nI (F.1 + 1) := hC'.1.2.2.1.1.1
              simp only [↓zq, ↓reduceIte, zr_si2, zr_sr1, zr_cp2, zr_tl, zr_tn, shq, List.contains_nil, List.contains_cons, Nat.reduceBEq, Bool.false_or, Bool.or_false, Bool.true_or, Bool.false_eq_true, if_false, if_true, true_and, and_true, List.set_cons_zero, List.set_cons_succ, List.length_cons, List.length_nil, Nat.reduceAdd, Nat.reduceLeDiff, Nat.le_refl, Nat.zero_le, true_or, or_true, zn_cl, ↓jj_KS_fact, p5', fs', nI_pred]
              refine ⟨fun z => absurd z (by decide), fun _ => ?_⟩
              have := hR h' ho
              rw [zs_com_1 q] at this
              exact this hC'
          · have hn : F.1 = 240 := by
              have z2' : ¬ nI F.1 < nI 240 := z2
              rcases Nat.lt_or_ge F.1 240 with y | y
              · exact absurd (nI_lt y (by decide)) z2'
              · omega
            rw [if_pos hn] at eD
            rw [eD] at hR
            exact hR h (zc_own.rf h) hC
        · show (100 : Int32) ≤ m
          rw [Int32.lt_iff_toInt_lt] at z1
          rw [Int32.le_iff_toInt_le]
          omega
      · simp only [↓zq, ↓reduceIte, zr_si2, zr_sr1, zr_cp2, zr_tl, zr_tn, shq, List.contains_nil, List.contains_cons, Nat.reduceBEq, Bool.false_or, Bool.or_false, Bool.true_or, Bool.false_eq_true, if_false, if_true, true_and, and_true, List.set_cons_zero, List.set_cons_succ, List.length_cons, List.length_nil, Nat.reduceAdd, Nat.reduceLeDiff, Nat.le_refl, Nat.zero_le, true_or, or_true, zn_cl, ↓jj_KS_fact]
        exact ⟨fun _ => no (Or.inr (Or.inr (Or.inl (zs_ix_no z)))), fun z => (by first | exact absurd trivial z | exact absurd rfl z | exact absurd z (by decide))⟩
    · simp only [↓zq, ↓reduceIte, zr_si2, zr_sr1, zr_cp2, zr_tl, zr_tn, shq, List.contains_nil, List.contains_cons, Nat.reduceBEq, Bool.false_or, Bool.or_false, Bool.true_or, Bool.false_eq_true, if_false, if_true, true_and, and_true, List.set_cons_zero, List.set_cons_succ, List.length_cons, List.length_nil, Nat.reduceAdd, Nat.reduceLeDiff, Nat.le_refl, Nat.zero_le, true_or, or_true, zn_cl, ↓jj_KS_fact]
      exact ⟨fun _ => no (Or.inr (Or.inl (zs_ix_no z))), fun z => (by first | exact absurd trivial z | exact absurd rfl z | exact absurd z (by decide))⟩
  · simp only [↓zq, ↓reduceIte, zr_si2, zr_sr1, zr_cp2, zr_tl, zr_tn, shq, List.contains_nil, List.contains_cons, Nat.reduceBEq, Bool.false_or, Bool.or_false, Bool.true_or, Bool.false_eq_true, if_false, if_true, true_and, and_true, List.set_cons_zero, List.set_cons_succ, List.length_cons, List.length_nil, Nat.reduceAdd, Nat.reduceLeDiff, Nat.le_refl, Nat.zero_le, true_or, or_true, zn_cl, ↓jj_KS_fact]
    exact ⟨fun _ => no (Or.inl (zs_ix_no z)), fun z => (by first | exact absurd trivial z | exact absurd rfl z | exact absurd z (by decide))⟩
theorem zn_8r (x : Nat) : nI (zs_nx x) - nI (zs_nx x) / 8 * 8 = nI (zs_nx x % 8) := pk_rem (d := 8) (by have := zs_nx_lt x; omega) (by decide) (by decide)
theorem zn_100r (x : Nat) : nI (zs_nx x) - nI (zs_nx x) / 100 * 100 = nI (zs_nx x % 100) := pk_rem (d := 100) (by have := zs_nx_lt x; omega) (by decide) (by decide)
theorem zCC_x {h : zm_M} {pi : Nat → Nat} {w : Nat} {F : zs_F} {sp : Nat → Nat} {U : zs_U} {Q : zs_Q} {B : zs_B} {L : zs_L} {x y : Nat} {K : zs_K} (hC : zCC h pi w F sp U Q B L x K) (hy : y < 65536) : zCC (zm_si h 0 13 (nI y)) pi w F sp U Q B L y K := by
  have hw := (zc_W_or hC.2.2.2.1.1).1
  refine zCC_la hC ⟨rfl, fun a h0 _ _ _ => ?_, fun k hk => ?_, fun k _ _ => ?_⟩ ?_ hy
  · funext j
    rw [zr_si1, if_neg (fun z => h0 z.1)]
  · rw [zr_si1, if_neg (fun z => hk z.2)]
  · rw [zr_si1, if_neg (by omega)]
  · rw [zr_si1, if_pos ⟨rfl, rfl⟩]
theorem zc_own_0 (h : zm_M) (k : Nat) (y : Int32) : zc_own h (zm_si h 0 k y) := fun a ha => ⟨by funext j; rw [zr_si1, if_neg (by omega)], rfl⟩
theorem zs_dr_le (L : zs_L) : ∀ (n t : Nat) (F : zs_F) (U : zs_U) (x : Nat), (zs_dr L n t F U x).1 ≤ t + n := by
  intro n
  induction n with
  | zero => intro t F U x; exact Nat.le_refl _
  | succ n ih =>
    intro t F U x
    unfold zs_dr
    split
    · dsimp only; omega
    · refine Nat.le_trans (ih _ _ _ _) ?_
      split <;> omega
set_option maxHeartbeats 4000000 in
set_option maxRecDepth 100000 in
theorem k_KS_draws {d : Nat} {h : zm_M} {R : zm_R} {pi : Nat → Nat} {w : Nat} {F : zs_F} {sp : Nat → Nat} {U : zs_U} {Q : zs_Q} {B : zs_B} {L : zs_L} {x : Nat} {K : zs_K} {n : Int32} (hC : zCC h pi w F sp U Q B L x K) (hR : ∀ h' : zm_M, zc_own h h' → zCC h' pi w (D_draws L F U x n).2.1 sp (D_draws L F U x n).2.2.1 Q B L (D_draws L F U x n).2.2.2 K → R (some (.inl (D_draws L F U x n).1)) h') : zm_C (d + 7) TT m_KS_draws [.inr (some 0), .inl n] h R := by
  have loop : ∀ (N i f t : Nat) (h' : zm_M) (F : zs_F) (U : zs_U) (x : Nat) (l4 l5 l6 l7 : Option zm_V), N < 61 → i + f = N → t ≤ i → zc_own h h' → zCC h' pi w F sp U Q B L x K → (∀ h'' : zm_M, zc_own h h'' → zCC h'' pi w (zs_dr L f t F U x).2.1 sp (zs_dr L f t F U x).2.2.1 Q B L (zs_dr L f t F U x).2.2.2 K → R (some (.inl (nI (zs_dr L f t F U x).1))) h'') → zm_W (zm_md m_KS_draws) (d + 7) TT R 17 [some (.inr (some 0)), some (.inl (nI N)), some (.inl (nI t)), some (.inl (nI i)), l4, l5, l6, l7] [] h' := by
    intro N i f
    induction f generalizing i with
    | zero =>
      intro t h' F U x l4 l5 l6 l7 hN hi ht ho hC hR
      have : i = N := by omega
      subst this
      refine zm_go g_KS_draws [17] 30 (by decide +kernel) ok_KS_draws _ rfl ?_
      simp only [↓zq, ↓reduceIte, zr_si2, zr_sr1, zr_cp2, zr_tl, zr_tn, shq, List.contains_nil, List.contains_cons, Nat.reduceBEq, Bool.false_or, Bool.or_false, Bool.true_or, Bool.false_eq_true, if_false, if_true, true_and, and_true, List.set_cons_zero, List.set_cons_succ, List.length_cons, List.length_nil, Nat.reduceAdd, Nat.reduceLeDiff, Nat.le_refl, Nat.zero_le, true_or, or_true, zn_cl, ↓jj_KS_draws]
      exact ⟨fun _ => hR h' ho hC, fun z => absurd (Int32.le_refl _) z⟩
    | succ f ih =>
      intro t h' F U x l4 l5 l6 l7 hN hi ht ho hC hR
      obtain ⟨p0, p1, p2, p4, p5, p6, p7, p9, p10, p11, p12, p14⟩ := zC_p hC.1
      have fs := hC.1.2.2.1.1.1
      have f240 := hC.1.2.2.1.2.1
      obtain ⟨ex, hx⟩ := hC.2.2.2.2.1
      have g1 := nI_ge (show i < N by omega) (by omega)
      refine zm_go g_KS_draws [17] 30 (by decide +kernel) ok_KS_draws _ rfl ?_
      simp only [↓zq, ↓reduceIte, zr_si2, zr_sr1, zr_cp2, zr_tl, zr_tn, shq, List.contains_nil, List.contains_cons, Nat.reduceBEq, Bool.false_or, Bool.or_false, Bool.true_or, Bool.false_eq_true, if_false, if_true, true_and, and_true, List.set_cons_zero, List.set_cons_succ, List.length_cons, List.length_nil, Nat.reduceAdd, Nat.reduceLeDiff, Nat.le_refl, Nat.zero_le, true_or, or_true, zn_cl, ↓jj_KS_draws, p5, fs, g1]
      simp only [not_false_eq_true, not_true_eq_false, false_imp_iff, true_imp_iff, forall_const, and_true, true_and, and_self, false_or, or_false, Int32.reduceLT, Int32.reduceLE, Int32.reduceSub, Int32.reduceAdd]
      rcases Nat.lt_or_ge F.1 240 with hn | hn
      · have g2 : ¬ 240 ≤ nI F.1 := nI_ge (b := 240) hn (by decide)
        rw [zs_dr, if_neg (by omega)] at hR
        refine ⟨fun z => absurd z g2, fun _ => ?_⟩
        have xl := zs_nx_lt x
        have xl2 := zs_nx_lt (zs_nx x)
        have xl3 := zs_nx_lt (zs_nx (zs_nx x))
        have xl4 := zs_nx_lt (zs_nx (zs_nx (zs_nx x)))
        have zC1 := zCC_x hC xl
        have zC2 := zCC_x zC1 xl2
        have zC3 := zCC_x zC2 xl3
        have zC4 := zCC_x zC3 xl4
        refine k_KS_nextX ex hx ?_
        simp only [↓zq, ↓reduceIte, zr_si2, zr_sr1, zr_cp2, zr_tl, zr_tn, shq, List.contains_nil, List.contains_cons, Nat.reduceBEq, Bool.false_or, Bool.or_false, Bool.true_or, Bool.false_eq_true, if_false, if_true, true_and, and_true, List.set_cons_zero, List.set_cons_succ, List.length_cons, List.length_nil, Nat.reduceAdd, Nat.reduceLeDiff, Nat.le_refl, Nat.zero_le, true_or, or_true, zn_cl, ↓jj_KS_draws, zn_8r]
        refine ⟨by decide, k_KS_nextX zC1.2.2.2.2.1.1 xl ?_⟩
        simp only [↓zq, ↓reduceIte, zr_si2, zr_sr1, zr_cp2, zr_tl, zr_tn, shq, List.contains_nil, List.contains_cons, Nat.reduceBEq, Bool.false_or, Bool.or_false, Bool.true_or, Bool.false_eq_true, if_false, if_true, true_and, and_true, List.set_cons_zero, List.set_cons_succ, List.length_cons, List.length_nil, Nat.reduceAdd, Nat.reduceLeDiff, Nat.le_refl, Nat.zero_le, true_or, or_true, zn_cl, ↓jj_KS_draws, zn_8r]
        refine ⟨by decide, k_KS_nextX zC2.2.2.2.2.1.1 xl2 ?_⟩
        simp only [↓zq, ↓reduceIte, zr_si2, zr_sr1, zr_cp2, zr_tl, zr_tn, shq, List.contains_nil, List.contains_cons, Nat.reduceBEq, Bool.false_or, Bool.or_false, Bool.true_or, Bool.false_eq_true, if_false, if_true, true_and, and_true, List.set_cons_zero, List.set_cons_succ, List.length_cons, List.length_nil, Nat.reduceAdd, Nat.reduceLeDiff, Nat.le_refl, Nat.zero_le, true_or, or_true, zn_cl, ↓jj_KS_draws, zn_8r]
        refine ⟨by decide, k_KS_nextX zC3.2.2.2.2.1.1 xl3 ?_⟩
        simp only [↓zq, ↓reduceIte, zr_si2, zr_sr1, zr_cp2, zr_tl, zr_tn, shq, List.contains_nil, List.contains_cons, Nat.reduceBEq, Bool.false_or, Bool.or_false, Bool.true_or, Bool.false_eq_true, if_false, if_true, true_and, and_true, List.set_cons_zero, List.set_cons_succ, List.length_cons, List.length_nil, Nat.reduceAdd, Nat.reduceLeDiff, Nat.le_refl, Nat.zero_le, true_or, or_true, zn_cl, ↓jj_KS_draws, zn_100r]
        refine ⟨by decide, k_KS_tripleOf (Nat.mod_lt _ (by decide)) (Nat.mod_lt _ (by decide)) (Nat.mod_lt _ (by decide)) ?_⟩
        simp only [↓zq, ↓reduceIte, zr_si2, zr_sr1, zr_cp2, zr_tl, zr_tn, shq, List.contains_nil, List.contains_cons, Nat.reduceBEq, Bool.false_or, Bool.or_false, Bool.true_or, Bool.false_eq_true, if_false, if_true, true_and, and_true, List.set_cons_zero, List.set_cons_succ, List.length_cons, List.length_nil, Nat.reduceAdd, Nat.reduceLeDiff, Nat.le_refl, Nat.zero_le, true_or, or_true, zn_cl, ↓jj_KS_draws]
        have o4 := (((ho.tr (zc_own_0 h' 13 (nI (zs_nx x)))).tr (zc_own_0 _ 13 (nI (zs_nx (zs_nx x))))).tr (zc_own_0 _ 13 (nI (zs_nx (zs_nx (zs_nx x)))))).tr (zc_own_0 _ 13 (nI (zs_nx (zs_nx (zs_nx (zs_nx x))))))
        refine k_KS_comes zC4 (Nat.mod_lt _ (by decide)) (Nat.mod_lt _ (by decide)) (Nat.mod_lt _ (by decide)) (Nat.mod_lt _ (by decide)) hn (fun q g og hCg => ?_) (fun q g og hCg => ?_)
        · rw [zs_com_0 q] at hR
          simp only [↓zq, ↓reduceIte, zr_si2, zr_sr1, zr_cp2, zr_tl, zr_tn, shq, List.contains_nil, List.contains_cons, Nat.reduceBEq, Bool.false_or, Bool.or_false, Bool.true_or, Bool.false_eq_true, if_false, if_true, true_and, and_true, List.set_cons_zero, List.set_cons_succ, List.length_cons, List.length_nil, Nat.reduceAdd, Nat.reduceLeDiff, Nat.le_refl, Nat.zero_le, true_or, or_true, zn_cl, ↓jj_KS_draws, nI_1]
          refine ⟨fun _ => ?_, fun z => (by first | exact absurd trivial z | exact absurd rfl z | exact absurd z (by decide))⟩
          exact ih (i + 1) t g _ _ _ _ _ _ _ hN (by omega) (by omega) (o4.tr og) hCg hR
        · rw [zs_com_1 q] at hR
          simp only [↓zq, ↓reduceIte, zr_si2, zr_sr1, zr_cp2, zr_tl, zr_tn, shq, List.contains_nil, List.contains_cons, Nat.reduceBEq, Bool.false_or, Bool.or_false, Bool.true_or, Bool.false_eq_true, if_false, if_true, true_and, and_true, List.set_cons_zero, List.set_cons_succ, List.length_cons, List.length_nil, Nat.reduceAdd, Nat.reduceLeDiff, Nat.le_refl, Nat.zero_le, true_or, or_true, zn_cl, ↓jj_KS_draws, nI_1]
          refine ⟨fun z => absurd z (by decide), fun _ => ?_⟩
          exact ih (i + 1) (t + 1) g _ _ _ _ _ _ _ hN (by omega) (by omega) (o4.tr og) hCg hR
      · have hn' : F.1 = 240 := by omega
        rw [zs_dr, if_pos hn'] at hR
        refine ⟨fun _ => hR h' ho hC, fun z => absurd ?_ z⟩
        rw [hn']
        exact Int32.le_refl _
  refine st_KS_draws [17] 30 ?_
  simp only [↓zq, ↓reduceIte, zr_si2, zr_sr1, zr_cp2, zr_tl, zr_tn, shq, List.contains_nil, List.contains_cons, Nat.reduceBEq, Bool.false_or, Bool.or_false, Bool.true_or, Bool.false_eq_true, if_false, if_true, true_and, and_true, List.set_cons_zero, List.set_cons_succ, List.length_cons, List.length_nil, Nat.reduceAdd, Nat.reduceLeDiff, Nat.le_refl, Nat.zero_le, true_or, or_true, zn_cl, ↓jj_KS_draws]
  rcases zs_cas n 61 (by decide) with ⟨j, hj, rfl⟩ | hno
  · by_cases j0 : j = 0
    · subst j0
      refine ⟨fun _ => ?_, fun z => absurd (by decide) z⟩
      have e : D_draws L F U x (nI 0) = (-1, F, U, x) := by
        unfold D_draws
        rw [zs_ix_of hj (by decide)]
        rfl
      rw [e] at hR
      exact hR h (zc_own.rf h) hC
    · have e : D_draws L F U x (nI j) = (nI (zs_dr L j 0 F U x).1, (zs_dr L j 0 F U x).2) := by
        unfold D_draws
        rw [zs_ix_of hj (by decide)]
        dsimp only
        rw [if_neg j0]
      rw [e] at hR
      refine ⟨fun z => absurd z (nI_nlt (b := 1) (by omega) (by omega)), fun _ => ⟨fun _ => ?_, fun z => absurd (show nI j ≤ nI 60 from nI_le (by omega) (by decide)) z⟩⟩
      exact loop j 0 j 0 h F U x _ _ _ _ hj (by omega) (Nat.le_refl _) (zc_own.rf h) hC hR
  · have e : D_draws L F U x n = (-1, F, U, x) := by
      unfold D_draws
      rw [zs_ix_no hno]
    rw [e] at hR
    have hr := hR h (zc_own.rf h) hC
    refine ⟨fun _ => hr, fun z1 => ⟨fun z2 => ?_, fun _ => hr⟩⟩
    exfalso
    have h61 : (nI 61).toInt = 61 := rfl
    rw [Int32.lt_iff_toInt_lt] at z1
    rw [Int32.le_iff_toInt_le] at z2
    rw [Int32.lt_iff_toInt_lt, Int32.le_iff_toInt_le, h61] at hno
    have e1 : (1 : Int32).toInt = 1 := rfl
    have e0 : (0 : Int32).toInt = 0 := rfl
    have e60 : (60 : Int32).toInt = 60 := rfl
    omega
