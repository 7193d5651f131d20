theorem zCC_up {h h' : zm_M} {pi pi' : Nat → Nat} {w : Nat} {F F' : zs_F} {sp : Nat → Nat} {U U' : zs_U} {Q Q' : zs_Q} {B : zs_B} {L : zs_L} {x x' : Nat} {K : zs_K} (hC : zCC h pi w F sp U Q B L x K) (hC' : zC h' pi' F' sp U' Q') (e2 : h'.2 0 = h.2 0 ∧ h'.2 3 = h.2 3) (eI : ∀ a, (a = 2 ∨ a = 93 ∨ (w < a ∧ a ≤ w + 6) ∨ (99 ≤ a ∧ a < 133)) → h'.1 a = h.1 a) (ew : h'.1 w 7 = h.1 w 7) (e1 : h'.1 1 1 = h.1 1 1) (e0 : ∀ k, (15 ≤ k ∧ k ≤ 17) → h'.1 0 k = h.1 0 k) (ex : h'.1 0 13 = nI x') (hx : x' < 65536) (hF : ∀ f, f < F.1 → F'.2.1 f = F.2.1 f) (hn : F.1 ≤ F'.1) : zCC h' pi' w F' sp U' Q' B L x' K := by
  obtain ⟨c1, c2, ⟨c3, c3w⟩, ⟨c4, c5, c5w⟩, ⟨c6, c6w⟩, c7, c7w⟩ := hC
  exact ⟨hC', zc_N_of (eI 93 (by omega)) c2, ⟨zc_B_of e1 (eI 2 (by omega)) c3, c3w⟩, ⟨zc_W_of e2.1 e2.2 c4, zc_L_of (fun a h1 h2 => eI a (by omega)) ew c5, c5w⟩, ⟨ex, hx⟩, zc_K_F hF c7w (zc_K_of (fun a h1 h2 => eI a (by omega)) (fun k h1 h2 => e0 k ⟨h1, h2⟩) c7w c7), zw_K_mono hn c7w⟩
/-- what asking the law changes: x, the law's scratch -/
def zc_la (w : Nat) (h h' : zm_M) : Prop := h'.2 = h.2 ∧ (∀ a, a ≠ 0 → a ≠ w → a ≠ w + 7 → a ≠ w + 8 → h'.1 a = h.1 a) ∧ (∀ k, k ≠ 13 → h'.1 0 k = h.1 0 k) ∧ ∀ k, k ≠ 9 → k ≠ 10 → h'.1 w k = h.1 w k
theorem zl_lf.la {w : Nat} {h h1 h2 : zm_M} (hw : w ≠ 0) (a : zc_la w h h1) (b : zl_lf w h1 h2) : zc_la w h h2 := by
  refine ⟨b.1.trans a.1, fun c h1 h2 h3 h4 => (b.2.1 c h2 h3).trans (a.2.1 c h1 h2 h3 h4), fun k hk => ?_, fun k h1 h2 => (b.2.2 k h1 h2).trans (a.2.2.2 k h1 h2)⟩
  rw [b.2.1 0 (by omega) (by omega)]
  exact a.2.2.1 k hk
theorem zCC_la {h h' : zm_M} {pi : Nat → Nat} {w : Nat} {F : zs_F} {sp : Nat → Nat} {U : zs_U} {Q : zs_Q} {B : zs_B} {L : zs_L} {x x' : Nat} {K : zs_K} (hC : zCC h pi w F sp U Q B L x K) (hf : zc_la w h h') (ex : h'.1 0 13 = nI x') (hx : x' < 65536) : zCC h' pi w F sp U Q B L x' K := by
  have hw := (zc_W_or hC.2.2.2.1.1).1
  refine zCC_up hC (zC_of (fun a _ => by rw [hf.1]) (fun a ha => hf.2.1 a (by omega) (by omega) (by omega) (by omega)) (hf.2.2.1 8 (by omega)) hC.1) ⟨by rw [hf.1], by rw [hf.1]⟩ (fun a ha => hf.2.1 a (by omega) (by omega) (by omega) (by omega)) (hf.2.2.2 7 (by omega) (by omega)) (by rw [hf.2.1 1 (by omega) (by omega) (by omega) (by omega)]) (fun k hk => hf.2.2.1 k (by omega)) ex hx (fun f _ => rfl) (Nat.le_refl _)
theorem zc_la.own {w : Nat} {h h' : zm_M} (hw : w = 4 ∨ w = 19) (hf : zc_la w h h') : zc_own h h' := fun a ha => ⟨hf.2.1 a (by omega) (by omega) (by omega) (by omega), by rw [hf.1]⟩
/-- what the letters stand for as a fact comes -/
abbrev zs_lc (F : zs_F) (U : zs_U) (x a b c m : Nat) : Nat → Int32 := zs_lt a b c m F.1 U.1 (zs_nx x % 10)
abbrev zs_cF (F : zs_F) (U : zs_U) (L : zs_L) (x a b c m : Nat) : zs_F := zs_fadd F a b c (zl_cl (zl_val L (zs_lc F U x a b c m) 109 (nI m)))
abbrev zs_cU (F : zs_F) (U : zs_U) (L : zs_L) (x a b c m : Nat) : zs_U := zs_unew U (zl_val L (zs_lc F U x a b c m) 117 (-1)) (F.1 + 1)
set_option maxHeartbeats 4000000 in
set_option maxRecDepth 100000 in
theorem k_KS_comes {d : Nat} {h : zm_M} {R : zm_R} {pi : Nat → Nat} {w : Nat} {F : zs_F} {sp : Nat → Nat} {U : zs_U} {Q : zs_Q} {B : zs_B} {L : zs_L} {x : Nat} {K : zs_K} {a b c m : Nat} (hC : zCC h pi w F sp U Q B L x K) (ha : a < 8) (hb : b < 8) (hc : c < 8) (hm : m < 100) (hn : F.1 < 240)
    (h0 : zl_fd L (zs_lc F U x a b c m) 120 L.1 0 ≠ none → ∀ h' : zm_M, zc_own h h' → zCC h' pi w F sp U Q B L (zs_nx x) K → R (some (.inl 0)) h')
    (h1 : zl_fd L (zs_lc F U x a b c m) 120 L.1 0 = none → ∀ h' : zm_M, zc_own h h' → zCC h' pi w (zs_cF F U L x a b c m) sp (zs_cU F U L x a b c m) Q B L (zs_nx x) K → R (some (.inl 1)) h') : zm_C (d + 6) TT m_KS_comes [.inr (some 0), .inl (nI (64 * a + 8 * b + c)), .inl (nI m)] h R := by
  obtain ⟨hw, pw⟩ := zc_W_or hC.2.2.2.1.1
  have hp := hC.1.1
  have hkl : ∀ g : zm_M, g.2 = h.2 → zk_law g.2 w := fun g e => by rw [e]; exact zk_laws hp hw
  have kw := (zk_laws hp hw).1
  obtain ⟨p0, p1, p2, p4, p5, p6, p7, p9, p10, p11, p12, p14⟩ := zC_p hC.1
  have fs := hC.1.2.2.1.1.1
  have us := hC.1.2.2.2.2.1.1.1
  have u8 := hC.1.2.2.2.2.1.2.1
  have hL := hC.2.2.2.1.2.1
  have hLw := hC.2.2.2.1.2.2
  obtain ⟨ex, hx⟩ := hC.2.2.2.2.1
  have e10 : nI (zs_nx x) - nI (zs_nx x) / 10 * 10 = nI (zs_nx x % 10) := pk_rem (d := 10) (by have := zs_nx_lt x; omega) (by decide) (by decide)
  have ta : ∀ h' : zm_M, zc_la w h h' → h'.1 0 13 = nI (zs_nx x) → zCC h' pi w F sp U Q B L (zs_nx x) K := fun h' hf e => zCC_la hC hf e (zs_nx_lt x)
  refine st_KS_comes [] 30 ?_
  simp only [↓zq, ↓reduceIte, zr_si2, zr_sr1, zr_cp2, zr_tl, zr_tn, shq, List.contains_nil, List.contains_cons, Nat.reduceBEq, Bool.false_or, Bool.or_false, Bool.true_or, Bool.false_eq_true, if_false, if_true, true_and, and_true, List.set_cons_zero, List.set_cons_succ, List.length_cons, List.length_nil, Nat.reduceAdd, Nat.reduceLeDiff, Nat.le_refl, Nat.zero_le, true_or, or_true, zn_cl, ↓jj_KS_comes]
  refine k_KS_nextX ex hx ?_
  simp only [↓zq, ↓reduceIte, zr_si2, zr_sr1, zr_cp2, zr_tl, zr_tn, shq, List.contains_nil, List.contains_cons, Nat.reduceBEq, Bool.false_or, Bool.or_false, Bool.true_or, Bool.false_eq_true, if_false, if_true, true_and, and_true, List.set_cons_zero, List.set_cons_succ, List.length_cons, List.length_nil, Nat.reduceAdd, Nat.reduceLeDiff, Nat.le_refl, Nat.zero_le, true_or, or_true, zn_cl, ↓jj_KS_comes, e10, pw, p5, p6]
  simp only [zr_si1, show ¬ (30 : Nat) = 0 by decide, show ¬ (36 : Nat) = 0 by decide, false_and, if_false, fs, us]
  refine ⟨by decide, kw, ?_⟩
  refine k_Law_tell (hkl _ rfl) ha hb hc (by omega) (fun g e1 e2 e3 => ?_)
  have la1 : zc_la w h g := by
    refine ⟨e1, fun q q0 q1 q2 q3 => ?_, fun k hk => ?_, fun k k1 k2 => ?_⟩
    · rw [e2 q q3]
      funext j
      rw [zr_si1, if_neg (fun z => q0 z.1)]
    · rw [e2 0 (by omega), zr_si1, if_neg (fun z => hk z.2)]
    · rw [e2 w (by omega), zr_si1, if_neg (by omega)]
  have x1 : g.1 0 13 = nI (zs_nx x) := by rw [e2 0 (by omega), zr_si1, if_pos ⟨rfl, rfl⟩]
  have pg : g.2 0 3 = some w ∧ g.2 0 5 = some 30 ∧ g.2 0 6 = some 36 := by rw [la1.1]; exact ⟨pw, p5, p6⟩
  have z1 := ta g la1 x1
  simp only [↓zq, ↓reduceIte, zr_si2, zr_sr1, zr_cp2, zr_tl, zr_tn, shq, List.contains_nil, List.contains_cons, Nat.reduceBEq, Bool.false_or, Bool.or_false, Bool.true_or, Bool.false_eq_true, if_false, if_true, true_and, and_true, List.set_cons_zero, List.set_cons_succ, List.length_cons, List.length_nil, Nat.reduceAdd, Nat.reduceLeDiff, Nat.le_refl, Nat.zero_le, true_or, or_true, zn_cl, ↓jj_KS_comes, pg]
  refine ⟨kw, k_Law_refuses (hkl g la1.1) z1.2.2.2.1.2.1 hLw e3 (fun g2 f2 => ?_)⟩
  have la2 := f2.la (by omega) la1
  have x2 : g2.1 0 13 = nI (zs_nx x) := by rw [f2.2.1 0 (by omega) (by omega)]; exact x1
  have z2 := ta g2 la2 x2
  have e3' : ∀ v, v < 7 → g2.1 (w + 8) v = zs_lt a b c m F.1 U.1 (zs_nx x % 10) v := fun v hv => by rw [f2.2.1 _ (by omega) (by omega)]; exact e3 v hv
  have pg2 : g2.2 0 3 = some w ∧ g2.2 0 5 = some 30 ∧ g2.2 0 6 = some 36 := by rw [la2.1]; exact ⟨pw, p5, p6⟩
  simp only [↓zq, ↓reduceIte, zr_si2, zr_sr1, zr_cp2, zr_tl, zr_tn, shq, List.contains_nil, List.contains_cons, Nat.reduceBEq, Bool.false_or, Bool.or_false, Bool.true_or, Bool.false_eq_true, if_false, if_true, true_and, and_true, List.set_cons_zero, List.set_cons_succ, List.length_cons, List.length_nil, Nat.reduceAdd, Nat.reduceLeDiff, Nat.le_refl, Nat.zero_le, true_or, or_true, zn_cl, ↓jj_KS_comes, pg2]
  by_cases hfd : zl_fd L (zs_lc F U x a b c m) 120 L.1 0 = none
  · rw [if_pos hfd]
    refine ⟨fun _ => ⟨kw, ?_⟩, fun z => (by first | exact absurd trivial z | exact absurd rfl z | exact absurd z (by decide))⟩
    refine k_Law_measureFor (hkl g2 la2.1) z2.2.2.2.1.2.1 hLw hm e3' (fun g3 f3 => ?_)
    have la3 := f3.la (by omega) la2
    have x3 : g3.1 0 13 = nI (zs_nx x) := by rw [f3.2.1 0 (by omega) (by omega)]; exact x2
    have z3 := ta g3 la3 x3
    have e3'' : ∀ v, v < 7 → g3.1 (w + 8) v = zs_lt a b c m F.1 U.1 (zs_nx x % 10) v := fun v hv => by rw [f3.2.1 _ (by omega) (by omega)]; exact e3' v hv
    have pg3 : g3.2 0 3 = some w ∧ g3.2 0 5 = some 30 ∧ g3.2 0 6 = some 36 := by rw [la3.1]; exact ⟨pw, p5, p6⟩
    simp only [↓zq, ↓reduceIte, zr_si2, zr_sr1, zr_cp2, zr_tl, zr_tn, shq, List.contains_nil, List.contains_cons, Nat.reduceBEq, Bool.false_or, Bool.or_false, Bool.true_or, Bool.false_eq_true, if_false, if_true, true_and, and_true, List.set_cons_zero, List.set_cons_succ, List.length_cons, List.length_nil, Nat.reduceAdd, Nat.reduceLeDiff, Nat.le_refl, Nat.zero_le, true_or, or_true, zn_cl, ↓jj_KS_comes, pg3]
    refine ⟨kw, k_Law_summaryToRenew (hkl g3 la3.1) z3.2.2.2.1.2.1 hLw e3'' (fun g4 f4 => ?_)⟩
    have la4 := f4.la (by omega) la3
    have x4 : g4.1 0 13 = nI (zs_nx x) := by rw [f4.2.1 0 (by omega) (by omega)]; exact x3
    have z4 := ta g4 la4 x4
    have pg4 : g4.2 0 3 = some w ∧ g4.2 0 5 = some 30 ∧ g4.2 0 6 = some 36 := by rw [la4.1]; exact ⟨pw, p5, p6⟩
    simp only [↓zq, ↓reduceIte, zr_si2, zr_sr1, zr_cp2, zr_tl, zr_tn, shq, List.contains_nil, List.contains_cons, Nat.reduceBEq, Bool.false_or, Bool.or_false, Bool.true_or, Bool.false_eq_true, if_false, if_true, true_and, and_true, List.set_cons_zero, List.set_cons_succ, List.length_cons, List.length_nil, Nat.reduceAdd, Nat.reduceLeDiff, Nat.le_refl, Nat.zero_le, true_or, or_true, zn_cl, ↓jj_KS_comes, pg4]
    obtain ⟨mm, hmm⟩ : ∃ mm, mm = zl_cl (zl_val L (zs_lc F U x a b c m) 109 (nI m)) := ⟨_, rfl⟩
    have mlt : mm < 100 := by rw [hmm]; exact zl_cl_lt _
    have add : ∀ g' : zm_M, g' = zm_si (zm_si (zm_si g4 31 F.1 (nI (64 * a + 8 * b + c))) 32 F.1 (nI mm)) 30 2 (nI (F.1 + 1)) → zc_own g4 g' ∧ g'.2 = g4.2 ∧ zCC g' pi w (zs_fadd F a b c mm) sp U Q B L (zs_nx x) K := by
      intro g' eg
      have eI : ∀ q, (q < 30 ∨ 32 < q) → g'.1 q = g4.1 q := fun q hq => by
        subst eg
        funext j
        rw [zr_si1, if_neg (by omega), zr_si1, if_neg (by omega), zr_si1, if_neg (by omega)]
      have e2 : g'.2 = g4.2 := by subst eg; rfl
      refine ⟨fun q hq => ⟨eI q (by omega), by rw [e2]⟩, e2, ?_⟩
      refine zCC_up z4 (zC_add z4.1 hn ha hb hc mlt eg) ⟨by rw [e2], by rw [e2]⟩ (fun q hq => eI q (by omega)) (by rw [eI w (by omega)]) (by rw [eI 1 (by omega)]) (fun k hk => by rw [eI 0 (by omega)]) (by rw [eI 0 (by omega)]; exact x4) (zs_nx_lt x) (fun f hf => (zs_fadd_o hf).1) (Nat.le_succ _)
    have fs4 : g4.1 30 2 = nI F.1 := z4.1.2.2.1.1.1
    refine k_Shelf_at z4.1 (fun s hs es => ?_) (fun no => ?_)
    · have ps := (hC.1.2.1.1 s (by omega)).2
      simp only [↓zq, ↓reduceIte, zr_si2, zr_sr1, zr_cp2, zr_tl, zr_tn, shq, List.contains_nil, List.contains_cons, Nat.reduceBEq, Bool.false_or, Bool.or_false, Bool.true_or, Bool.false_eq_true, if_false, if_true, true_and, and_true, List.set_cons_zero, List.set_cons_succ, List.length_cons, List.length_nil, Nat.reduceAdd, Nat.reduceLeDiff, Nat.le_refl, Nat.zero_le, true_or, or_true, zn_cl, ↓jj_KS_comes, pg4]
      rw [← hmm]
      refine k_Facts_add (by rw [la4.1]; exact hp) fs4 hn ?_
      obtain ⟨o5, q5, z5⟩ := add _ rfl
      simp only [↓zq, ↓reduceIte, zr_si2, zr_sr1, zr_cp2, zr_tl, zr_tn, shq, List.contains_nil, List.contains_cons, Nat.reduceBEq, Bool.false_or, Bool.or_false, Bool.true_or, Bool.false_eq_true, if_false, if_true, true_and, and_true, List.set_cons_zero, List.set_cons_succ, List.length_cons, List.length_nil, Nat.reduceAdd, Nat.reduceLeDiff, Nat.le_refl, Nat.zero_le, true_or, or_true, zn_cl, ↓jj_KS_comes]
      refine ⟨fun z => absurd z (by simp), fun _ => ?_⟩
      have hs8 : s < 8 := by omega
      refine k_KS_makeAnew (row := U.2 s) z5.1.1 (zk_sums z5.1.1 ps) (by omega) z5.1.2.2.1.1 z5.1.2.2.1.2 z5.1.2.2.2.1.1 z5.1.2.2.2.1.2 (z5.1.2.2.2.2.1.1.2 s hs).1 (z5.1.2.2.2.2.1.2.2 s hs).1 (fun g6 q6 r6 s6 t6 => ?_)
      have zC6 := zC_mk z5.1 hs q6 r6 s6 t6
      have z6 := zCC_up z5 zC6 ⟨by rw [q6], by rw [q6]⟩ (fun q hq => r6 q (by omega) (by omega)) (by rw [r6 w (by omega) (by omega)]) (by rw [r6 1 (by omega) (by omega)]) (fun k hk => by rw [r6 0 (by omega) (by omega)]) (by rw [r6 0 (by omega) (by omega)]; exact z5.2.2.2.2.1.1) (zs_nx_lt x) (fun f hf => rfl) (Nat.le_refl _)
      simp only [↓zq, ↓reduceIte, zr_si2, zr_sr1, zr_cp2, zr_tl, zr_tn, shq, List.contains_nil, List.contains_cons, Nat.reduceBEq, Bool.false_or, Bool.or_false, Bool.true_or, Bool.false_eq_true, if_false, if_true, true_and, and_true, List.set_cons_zero, List.set_cons_succ, List.length_cons, List.length_nil, Nat.reduceAdd, Nat.reduceLeDiff, Nat.le_refl, Nat.zero_le, true_or, or_true, zn_cl, ↓jj_KS_comes]
      refine h1 hfd g6 (((la4.own hw).tr o5).tr (fun q hq => ⟨r6 q (by omega) (by omega), by rw [q6]⟩)) ?_
      have eU : zs_cU F U L x a b c m = zs_uset U s (zs_fadd F a b c mm).1 := by
        unfold zs_cU zs_unew
        rw [es, zs_ix_of hs (by omega)]
        rfl
      rw [eU, show zs_cF F U L x a b c m = zs_fadd F a b c mm by rw [hmm]]
      exact z6
    · simp only [↓zq, ↓reduceIte, zr_si2, zr_sr1, zr_cp2, zr_tl, zr_tn, shq, List.contains_nil, List.contains_cons, Nat.reduceBEq, Bool.false_or, Bool.or_false, Bool.true_or, Bool.false_eq_true, if_false, if_true, true_and, and_true, List.set_cons_zero, List.set_cons_succ, List.length_cons, List.length_nil, Nat.reduceAdd, Nat.reduceLeDiff, Nat.le_refl, Nat.zero_le, true_or, or_true, zn_cl, ↓jj_KS_comes, pg4]
      rw [← hmm]
      refine k_Facts_add (by rw [la4.1]; exact hp) fs4 hn ?_
      obtain ⟨o5, q5, z5⟩ := add _ rfl
      simp only [↓zq, ↓reduceIte, zr_si2, zr_sr1, zr_cp2, zr_tl, zr_tn, shq, List.contains_nil, List.contains_cons, Nat.reduceBEq, Bool.false_or, Bool.or_false, Bool.true_or, Bool.false_eq_true, if_false, if_true, true_and, and_true, List.set_cons_zero, List.set_cons_succ, List.length_cons, List.length_nil, Nat.reduceAdd, Nat.reduceLeDiff, Nat.le_refl, Nat.zero_le, true_or, or_true, zn_cl, ↓jj_KS_comes]
      refine ⟨fun _ => ?_, fun z => (by first | exact absurd trivial z | exact absurd rfl z | exact absurd z (by decide))⟩
      refine h1 hfd _ ((la4.own hw).tr o5) ?_
      have eU : zs_cU F U L x a b c m = U := by
        unfold zs_cU zs_unew
        rw [zs_ix_no2 (by omega) no]
      rw [eU, show zs_cF F U L x a b c m = zs_fadd F a b c mm by rw [hmm]]
      exact z5
  · rw [if_neg hfd]
    refine ⟨fun z => absurd z (by decide), fun _ => h0 hfd g2 (la2.own hw) z2⟩
