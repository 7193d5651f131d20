/-! a fact comes (reference); fact, draws -/
theorem zOO_up {h h' : zm_M} {c c' : Nat} {F F' : zs_F} {sp sp' : Nat → Nat} {U U' : zs_U} {Q Q' : zs_Q} {B : zs_B} {L : zs_L} {x x' : Nat} {K : zs_K} (hO : zOO h c F sp U Q B L x K) (hO' : zO h' F' sp' U' Q') (eI : ∀ a, (a = 137 ∨ (144 ≤ a ∧ a ≤ 148) ∨ a = 169 ∨ a = 170) → h'.1 a = h.1 a) (e0 : ∀ k, (k = 3 ∨ k = 8 ∨ k = 17 ∨ 53 ≤ k) → h'.1 133 k = h.1 133 k) (eF : ∀ k, k < 4 * F.1 → h'.1 134 k = h.1 134 k) (ex : h'.1 133 0 = nI x') (hx : x' < 65536) (hn : F.1 ≤ F'.1) (hc : c ≤ c') : zOO h' c' F' sp' U' Q' B L x' K := by
  obtain ⟨c1, ⟨c3, c3w⟩, ⟨c5, c5w⟩, ⟨c6, c6w⟩, c7, c7w⟩ := hO
  refine ⟨hO', ⟨zo_B_of (e0 8 (by omega)) (eI 137 (by omega)) c3, c3w⟩, ⟨zo_L_of (fun a h1 h2 => eI a (by omega)) (e0 17 (by omega)) c5, c5w⟩, ⟨ex, hx⟩, ?_, zw_K_mono hn c7w⟩
  obtain ⟨n, m, k1, k2, k3, k4, k5⟩ := c7
  refine ⟨n, m, k1, by omega, ?_, fun z => ?_, fun z => ?_⟩
  · rw [e0 3 (by omega)]; exact k3
  · rw [e0 53 (by omega)]; exact k4 z
  · obtain ⟨q1, q2, q3, q4, q5, q6, q7⟩ := k5 z
    rw [e0 53 (by omega), e0 57 (by omega), e0 54 (by omega), e0 56 (by omega), e0 55 (by omega), eI 169 (by omega), eI 170 (by omega)]
    refine ⟨q1, q2, q3, q4, fun k hk => ?_, q6, q7⟩
    rw [eF k (by have := (c7w z).1; omega)]
    exact q5 k hk
/-- what asking the law changes in the reference: lot, stack, facts asked of -/
def zo_la (h h' : zm_M) : Prop := h'.2 = h.2 ∧ (∀ a, a ≠ 133 → a ≠ 149 → a ≠ 150 → h'.1 a = h.1 a) ∧ ∀ k, k ≠ 0 → h'.1 133 k = h.1 133 k
theorem zl_mf.la {h h1 h2 : zm_M} (a : zo_la h h1) (b : zl_mf h1 h2) : zo_la h h2 := by
  refine ⟨b.1.trans a.1, fun c h1 h2 h3 => (b.2 c h2).trans (a.2.1 c h1 h2 h3), fun k hk => ?_⟩
  rw [b.2 133 (by omega)]
  exact a.2.2 k hk
theorem zo_la.own {h h' : zm_M} (hf : zo_la h h') : zo_own h h' := ⟨hf.1, fun a ha => hf.2.1 a (by omega) (by omega) (by omega)⟩
theorem zOO_la {h h' : zm_M} {c : Nat} {F : zs_F} {sp : Nat → Nat} {U : zs_U} {Q : zs_Q} {B : zs_B} {L : zs_L} {x x' : Nat} {K : zs_K} (hO : zOO h c F sp U Q B L x K) (hf : zo_la h h') (ex : h'.1 133 0 = nI x') (hx : x' < 65536) : zOO h' c F sp U Q B L x' K :=
  zOO_up hO (zO_of (by rw [hf.1]) (fun a ha => hf.2.1 a (by omega) (by omega) (by omega)) (fun k hk => hf.2.2 k (by omega)) hO.1) (fun a ha => hf.2.1 a (by omega) (by omega) (by omega)) (fun k hk => hf.2.2 k (by omega)) (fun k _ => by rw [hf.2.1 134 (by omega) (by omega) (by omega)]) ex hx (Nat.le_refl _) (Nat.le_refl _)
theorem zO_add {h h' : zm_M} {F : zs_F} {sp : Nat → Nat} {U : zs_U} {Q : zs_Q} {a b c m : Nat} (hO : zO h F sp U Q) (hn : F.1 < 240) (ha : a < 8) (hb : b < 8) (hc : c < 8) (hm : m < 100) (eP : h'.2 = h.2) (eI : ∀ q, q ≠ 133 → q ≠ 134 → h'.1 q = h.1 q) (e0 : ∀ k, k ≠ 1 → h'.1 133 k = h.1 133 k) (e1 : h'.1 133 1 = nI (F.1 + 1)) (eF : ∀ k, k < 4 * F.1 → h'.1 134 k = h.1 134 k) (n0 : h'.1 134 (4 * F.1) = nI a) (n1 : h'.1 134 (4 * F.1 + 1) = nI b) (n2 : h'.1 134 (4 * F.1 + 2) = nI c) (n3 : h'.1 134 (4 * F.1 + 3) = nI m) : zO h' (zs_fadd F a b c m) sp U Q := by
  obtain ⟨o1, ⟨o2, o2w⟩, ⟨o3, o3w⟩, ⟨o4, o4w⟩, o5, o6⟩ := hO
  refine ⟨by rw [eP]; exact o1, ⟨⟨e1, fun f hf => ?_⟩, zw_F_add o2w hn ha hb hc hm⟩, ⟨?_, o3w⟩, ⟨?_, zw_U_mono (by unfold zs_fadd; dsimp only; omega) o4w⟩, ?_, o6⟩
  · rcases Nat.lt_or_ge f F.1 with z | z
    · rw [(zs_fadd_o z).1, (zs_fadd_o z).2, eF _ (by omega), eF _ (by omega), eF _ (by omega), eF _ (by omega)]
      exact o2.2 f z
    · have : f = F.1 := by unfold zs_fadd at hf; dsimp only at hf; omega
      subst this
      rw [n0, n1, n2, n3]
      unfold zs_fadd
      simp
  · unfold zo_S
    rw [eI 136 (by omega) (by omega)]
    exact o3
  · unfold zo_U
    rw [e0 2 (by omega), eI 135 (by omega) (by omega)]
    exact o4
  · unfold zo_Q
    rw [e0 36 (by omega), eI 153 (by omega) (by omega)]
    exact o5
theorem zO_mk {h : zm_M} {F : zs_F} {sp : Nat → Nat} {U : zs_U} {Q : zs_Q} {s : Nat} (hO : zO h F sp U Q) (hs : s < U.1) : zO (zm_si h 135 (8 * s + 7) (nI F.1)) F sp (zs_uset U s F.1) Q := by
  obtain ⟨o1, ⟨o2, o2w⟩, ⟨o3, o3w⟩, ⟨o4, o4w⟩, o5, o6⟩ := hO
  have eI : ∀ q, q ≠ 135 → (zm_si h 135 (8 * s + 7) (nI F.1)).1 q = h.1 q := fun q hq => by
    funext j
    rw [zr_si1, if_neg (fun z => hq z.1)]
  refine ⟨o1, ⟨?_, o2w⟩, ⟨?_, o3w⟩, ⟨⟨?_, fun r hr k hk => ?_⟩, ⟨o4w.1, fun r hr => ?_⟩⟩, ?_, o6⟩
  · unfold zo_F
    rw [eI 133 (by omega), eI 134 (by omega)]
    exact o2
  · unfold zo_S
    rw [eI 136 (by omega)]
    exact o3
  · rw [eI 133 (by omega)]
    exact o4.1
  · have hr' : r < U.1 := hr
    rw [zr_si1]
    unfold zs_uset
    dsimp only
    by_cases z : r = s ∧ k = 7
    · rw [if_pos z, if_pos (by omega)]
    · rw [if_neg z, if_neg (by omega)]
      exact o4.2 r hr' k hk
  · have hr' : r < U.1 := hr
    obtain ⟨r1, r2, r3, r4⟩ := o4w.2 r hr'
    have e6 : ∀ k, k ≠ 7 → (zs_uset U s F.1).2 r k = U.2 r k := fun k hk => if_neg (fun q => hk q.2)
    unfold zw_R at *
    rw [e6 0 (by omega), e6 1 (by omega), e6 2 (by omega), e6 3 (by omega), e6 4 (by omega), e6 5 (by omega), e6 6 (by omega)]
    refine ⟨r1, r2, r3, ?_⟩
    unfold zs_uset
    dsimp only
    split <;> omega
  · unfold zo_Q
    rw [eI 133 (by omega), eI 153 (by omega)]
    exact o5
theorem zl_cl_min (v : Int32) : (v ≤ 99 → (0 ≤ v → v = nI (zl_cl v)) ∧ (¬ 0 ≤ v → (0 : Int32) = nI (zl_cl v))) ∧ (¬ v ≤ 99 → (99 : Int32) = nI (zl_cl v)) := by
  have e0 : (0 : Int32).toInt = 0 := rfl
  have e99 : (99 : Int32).toInt = 99 := rfl
  unfold zl_cl
  refine ⟨fun h1 => ⟨fun h2 => ?_, fun h2 => ?_⟩, fun h1 => ?_⟩
  · have h3 : ¬ v < 0 := by rw [Int32.lt_iff_toInt_lt]; rw [Int32.le_iff_toInt_le] at h2; omega
    rw [if_neg h3, if_neg (by rw [Int32.lt_iff_toInt_lt]; rw [Int32.le_iff_toInt_le] at h1; omega)]
    obtain ⟨j, hj, rfl⟩ := nI_of h3
    rw [nI_clamp hj]
  · rw [if_pos (by rw [Int32.lt_iff_toInt_lt]; rw [Int32.le_iff_toInt_le] at h2; omega)]
    rfl
  · rw [Int32.le_iff_toInt_le] at h1
    rw [if_neg (by rw [Int32.lt_iff_toInt_lt]; omega), if_pos (by rw [Int32.lt_iff_toInt_lt]; omega)]
    rfl
set_option maxHeartbeats 4000000 in
set_option maxRecDepth 100000 in
theorem k_Mo_comes {d : Nat} {h : zm_M} {R : zm_R} {n0 : Nat} {F : zs_F} {sp : Nat → Nat} {U : zs_U} {Q : zs_Q} {B : zs_B} {L : zs_L} {x : Nat} {K : zs_K} {a b c m : Nat} (hO : zOO h n0 F sp U Q B L x K) (ha : a < 8) (hb : b < 8) (hc : c < 8) (hm : m < 100) (hn : F.1 < 240)
    (h0 : zl_fd L (zs_lc F U x a b c m) 120 L.1 0 ≠ none → ∀ h' : zm_M, zo_own h h' → zOO h' n0 F sp U Q B L (zs_nx x) K → R (some (.inl (-6))) h')
    (h1 : zl_fd L (zs_lc F U x a b c m) 120 L.1 0 = none → ∀ h' : zm_M, zo_own h h' → zOO h' n0 (zs_cF F U L x a b c m) sp (zs_cU F U L x a b c m) Q B L (zs_nx x) K → R (some (.inl (nI F.1))) h') : zm_C (d + 4) TT m_Mo_comes [.inr (some 133), .inl (nI a), .inl (nI b), .inl (nI c), .inl (nI m)] h R := by
  have hp := hO.1.1
  have p30 : h.2 133 30 = some 150 := by simp only [hp]
  have p4 : h.2 133 4 = some 134 := by simp only [hp]
  have p5 : h.2 133 5 = some 135 := by simp only [hp]
  have fs := hO.1.2.1.1.1
  have us := hO.1.2.2.2.1.1.1
  have u8 := hO.1.2.2.2.1.2.1
  have hLw := hO.2.2.1.2
  obtain ⟨ex, hx⟩ := hO.2.2.2.1
  have e100 : nI F.1 - nI F.1 / 100 * 100 = nI (F.1 % 100) := pk_rem (d := 100) (by omega) (by decide) (by decide)
  have e10 : nI (zs_nx x) - nI (zs_nx x) / 10 * 10 = nI (zs_nx x % 10) := pk_rem (d := 10) (by have := zs_nx_lt x; omega) (by decide) (by decide)
  have v0 : vp_in 0 7 := zn_v (k := 0)
  have v1 : vp_in 1 7 := zn_v (k := 1)
  have v2 : vp_in 2 7 := zn_v (k := 2)
  have v3 : vp_in 3 7 := zn_v (k := 3)
  have v4 : vp_in 4 7 := zn_v (k := 4)
  have v5 : vp_in 5 7 := zn_v (k := 5)
  have v6 : vp_in 6 7 := zn_v (k := 6)
  refine st_Mo_comes [] 30 ?_
  simp only [↓zq, ↓reduceIte, zr_si2, zr_sr1, zr_cp2, zr_tl, zr_tn, shq, List.contains_nil, List.contains_cons, Nat.reduceBEq, Bool.false_or, Bool.or_false, Bool.true_or, Bool.false_eq_true, if_false, if_true, true_and, and_true, List.set_cons_zero, List.set_cons_succ, List.length_cons, List.length_nil, Nat.reduceAdd, Nat.reduceLeDiff, Nat.le_refl, Nat.zero_le, true_or, or_true, zn_cl, ↓jj_Mo_comes, p30, v0, v1, v2, v3, v4, v5]
  simp only [zr_si1, show ¬ (133 : Nat) = 150 by decide, false_and, if_false, fs, us, e100]
  refine ⟨by decide, ?_⟩
  refine k_Mo_lotGoes (x := x) (by simp only [zr_si1, show ¬ (133 : Nat) = 150 by decide, false_and, if_false]; exact ex) hx ?_
  simp only [↓zq, ↓reduceIte, zr_si2, zr_sr1, zr_cp2, zr_tl, zr_tn, shq, List.contains_nil, List.contains_cons, Nat.reduceBEq, Bool.false_or, Bool.or_false, Bool.true_or, Bool.false_eq_true, if_false, if_true, true_and, and_true, List.set_cons_zero, List.set_cons_succ, List.length_cons, List.length_nil, Nat.reduceAdd, Nat.reduceLeDiff, Nat.le_refl, Nat.zero_le, true_or, or_true, zn_cl, ↓jj_Mo_comes, p30, v6, e10]
  refine ⟨by decide, ?_⟩
  obtain ⟨g, hg⟩ : ∃ g : zm_M, g = zm_si (zm_si (zm_si (zm_si (zm_si (zm_si (zm_si (zm_si h 150 0 (nI a)) 150 1 (nI b)) 150 2 (nI c)) 150 3 (nI m)) 150 4 (nI (F.1 % 100))) 150 5 (nI U.1)) 133 0 (nI (zs_nx x))) 150 6 (nI (zs_nx x % 10)) := ⟨_, rfl⟩
  rw [← hg]
  have la1 : zo_la h g := by
    subst hg
    refine ⟨rfl, fun q q1 q2 q3 => ?_, fun k hk => ?_⟩
    · funext j
      simp only [zr_si1, q1, q3, false_and, if_false]
    · simp only [zr_si1, hk, and_false, if_false, show ¬ (133 : Nat) = 150 by decide, false_and]
  have x1 : g.1 133 0 = nI (zs_nx x) := by
    subst hg
    simp only [zr_si1, show ¬ (133 : Nat) = 150 by decide, false_and, if_false, and_self, if_true]
  have e3 : ∀ v, v < 7 → g.1 150 v = zs_lc F U x a b c m v := by
    intro v hv
    subst hg
    rcases (show v = 0 ∨ v = 1 ∨ v = 2 ∨ v = 3 ∨ v = 4 ∨ v = 5 ∨ v = 6 by omega) with rfl | rfl | rfl | rfl | rfl | rfl | rfl <;> simp [zr_si1, zs_lt]
  clear hg
  have z1 := zOO_la hO la1 x1 (zs_nx_lt x)
  refine k_Mo_isRefused z1.1.1 z1.2.2.1.1 hLw e3 (fun g2 f2 => ?_)
  have la2 := f2.la la1
  have x2 : g2.1 133 0 = nI (zs_nx x) := by rw [f2.2 133 (by omega)]; exact x1
  have z2 := zOO_la hO la2 x2 (zs_nx_lt x)
  have e3' : ∀ v, v < 7 → g2.1 150 v = zs_lc F U x a b c m v := fun v hv => by rw [f2.2 150 (by omega)]; exact e3 v hv
  simp only [↓zq, ↓reduceIte, zr_si2, zr_sr1, zr_cp2, zr_tl, zr_tn, shq, List.contains_nil, List.contains_cons, Nat.reduceBEq, Bool.false_or, Bool.or_false, Bool.true_or, Bool.false_eq_true, if_false, if_true, true_and, and_true, List.set_cons_zero, List.set_cons_succ, List.length_cons, List.length_nil, Nat.reduceAdd, Nat.reduceLeDiff, Nat.le_refl, Nat.zero_le, true_or, or_true, zn_cl, ↓jj_Mo_comes]
  by_cases hfd : zl_fd L (zs_lc F U x a b c m) 120 L.1 0 = none
  · rw [if_pos hfd]
    refine ⟨fun _ => ?_, fun z => (by first | exact absurd trivial z | exact absurd rfl z | exact absurd z (by decide))⟩
    refine k_Mo_byLaw (hd := 109) z2.1.1 z2.2.2.1.1 hLw (by decide) (by decide) e3' (fun g3 f3 => ?_)
    have la3 := f3.la la2
    have x3 : g3.1 133 0 = nI (zs_nx x) := by rw [f3.2 133 (by omega)]; exact x2
    have z3 := zOO_la hO la3 x3 (zs_nx_lt x)
    have e3'' : ∀ v, v < 7 → g3.1 150 v = zs_lc F U x a b c m v := fun v hv => by rw [f3.2 150 (by omega)]; exact e3' v hv
    simp only [↓zq, ↓reduceIte, zr_si2, zr_sr1, zr_cp2, zr_tl, zr_tn, shq, List.contains_nil, List.contains_cons, Nat.reduceBEq, Bool.false_or, Bool.or_false, Bool.true_or, Bool.false_eq_true, if_false, if_true, true_and, and_true, List.set_cons_zero, List.set_cons_succ, List.length_cons, List.length_nil, Nat.reduceAdd, Nat.reduceLeDiff, Nat.le_refl, Nat.zero_le, true_or, or_true, zn_cl, ↓jj_Mo_comes]
    refine k_Mo_byLaw (hd := 117) z3.1.1 z3.2.2.1.1 hLw (by decide) (by decide) e3'' (fun g4 f4 => ?_)
    have la4 := f4.la la3
    have x4 : g4.1 133 0 = nI (zs_nx x) := by rw [f4.2 133 (by omega)]; exact x3
    have z4 := zOO_la hO la4 x4 (zs_nx_lt x)
    have q4 : g4.2 133 4 = some 134 := by rw [la4.1]; exact p4
    have q5 : g4.2 133 5 = some 135 := by rw [la4.1]; exact p5
    have fs4 : g4.1 133 1 = nI F.1 := z4.1.2.1.1.1
    have m4 : (4 : Int32) * nI F.1 = nI (4 * F.1) := pk_mul 4 F.1
    have w0 : vp_in (nI (4 * F.1)) 960 := vp_in_nI (by omega) (by decide)
    have w1 : vp_in (nI (4 * F.1 + 1)) 960 := vp_in_nI (by omega) (by decide)
    have w2 : vp_in (nI (4 * F.1 + 2)) 960 := vp_in_nI (by omega) (by decide)
    have w3 : vp_in (nI (4 * F.1 + 3)) 960 := vp_in_nI (by omega) (by decide)
    have c0 := nI_clamp (show 4 * F.1 < 2 ^ 31 by omega)
    have c1 := nI_clamp (show 4 * F.1 + 1 < 2 ^ 31 by omega)
    have c2 := nI_clamp (show 4 * F.1 + 2 < 2 ^ 31 by omega)
    have c3 := nI_clamp (show 4 * F.1 + 3 < 2 ^ 31 by omega)
    have t1 : nI (4 * F.1) + 1 = nI (4 * F.1 + 1) := nI_add _ 1
    have t2 : nI (4 * F.1) + 2 = nI (4 * F.1 + 2) := nI_add _ 2
    have t3 : nI (4 * F.1) + 3 = nI (4 * F.1 + 3) := nI_add _ 3
    simp only [↓zq, ↓reduceIte, zr_si2, zr_sr1, zr_cp2, zr_tl, zr_tn, shq, List.contains_nil, List.contains_cons, Nat.reduceBEq, Bool.false_or, Bool.or_false, Bool.true_or, Bool.false_eq_true, if_false, if_true, true_and, and_true, List.set_cons_zero, List.set_cons_succ, List.length_cons, List.length_nil, Nat.reduceAdd, Nat.reduceLeDiff, Nat.le_refl, Nat.zero_le, true_or, or_true, zn_cl, ↓jj_Mo_comes, q4, q5, fs4, m4, w0, w1, w2, w3, c0, c1, c2, c3, t1, t2, t3]
    obtain ⟨mm, hmm⟩ : ∃ mm, mm = zl_cl (zl_val L (zs_lc F U x a b c m) 109 (nI m)) := ⟨_, rfl⟩
    have mlt : mm < 100 := by rw [hmm]; exact zl_cl_lt _
    obtain ⟨g5, hg5⟩ : ∃ g5 : zm_M, g5 = zm_si (zm_si (zm_si g4 134 (4 * F.1) (nI a)) 134 (4 * F.1 + 1) (nI b)) 134 (4 * F.1 + 2) (nI c) := ⟨_, rfl⟩
    rw [← hg5]
    have fin : ∀ g6 : zm_M, g6 = zm_si (zm_si g5 134 (4 * F.1 + 3) (nI mm)) 133 1 (nI (F.1 + 1)) → zo_own h g6 ∧ g6.2 = g4.2 ∧ g6.1 133 1 = nI (F.1 + 1) ∧ zOO g6 n0 (zs_fadd F a b c mm) sp U Q B L (zs_nx x) K := by
      intro g6 hg6
      have eI : ∀ q, q ≠ 133 → q ≠ 134 → g6.1 q = g4.1 q := fun q h1 h2 => by
        subst hg6; subst hg5
        funext j
        simp only [zr_si1, h1, h2, false_and, if_false]
      have e0 : ∀ k, k ≠ 1 → g6.1 133 k = g4.1 133 k := fun k hk => by
        subst hg6; subst hg5
        simp only [zr_si1, hk, show ¬ (133 : Nat) = 134 by decide, false_and, and_false, if_false]
      have e1 : g6.1 133 1 = nI (F.1 + 1) := by
        subst hg6
        simp only [zr_si1, and_self, if_true]
      have eF : ∀ k, k < 4 * F.1 → g6.1 134 k = g4.1 134 k := fun k hk => by
        subst hg6; subst hg5
        simp only [zr_si1, show ¬ (134 : Nat) = 133 by decide, false_and, true_and, if_false]
        rw [if_neg (by omega), if_neg (by omega), if_neg (by omega), if_neg (by omega)]
      have e2 : g6.2 = g4.2 := by subst hg6; subst hg5; rfl
      have zz : zO g6 (zs_fadd F a b c mm) sp U Q := by
        refine zO_add z4.1 hn ha hb hc mlt e2 eI e0 e1 eF ?_ ?_ ?_ ?_ <;> (subst hg6; subst hg5; simp [zr_si1])
      refine ⟨⟨e2.trans la4.1, fun q hq => (eI q (by omega) (by omega)).trans (la4.2.1 q (by omega) (by omega) (by omega))⟩, e2, e1, ?_⟩
      exact zOO_up z4 zz (fun q hq => eI q (by omega) (by omega)) (fun k hk => e0 k (by omega)) eF ((e0 0 (by omega)).trans x4) (zs_nx_lt x) (Nat.le_succ _) (Nat.le_refl _)
    have fs5 : g5.1 133 1 = nI F.1 := by subst hg5; simp only [zr_si1, show ¬ (133 : Nat) = 134 by decide, false_and, if_false]; exact fs4
    have q55 : g5.2 133 5 = some 135 := by subst hg5; exact q5
    have cm := zl_cl_min (zl_val L (zs_lc F U x a b c m) 109 (nI m))
    rw [← hmm] at cm
    refine k_Mo_min (fun y1 => ?_) (fun y1 => ?_)
    · simp only [↓zq, ↓reduceIte, zr_si2, zr_sr1, zr_cp2, zr_tl, zr_tn, shq, List.contains_nil, List.contains_cons, Nat.reduceBEq, Bool.false_or, Bool.or_false, Bool.true_or, Bool.false_eq_true, if_false, if_true, true_and, and_true, List.set_cons_zero, List.set_cons_succ, List.length_cons, List.length_nil, Nat.reduceAdd, Nat.reduceLeDiff, Nat.le_refl, Nat.zero_le, true_or, or_true, zn_cl, ↓jj_Mo_comes]
      refine k_Mo_max (fun y2 => ?_) (fun y2 => ?_)
      · rw [(cm.1 y1).1 y2]
        simp only [↓zq, ↓reduceIte, zr_si2, zr_sr1, zr_cp2, zr_tl, zr_tn, shq, List.contains_nil, List.contains_cons, Nat.reduceBEq, Bool.false_or, Bool.or_false, Bool.true_or, Bool.false_eq_true, if_false, if_true, true_and, and_true, List.set_cons_zero, List.set_cons_succ, List.length_cons, List.length_nil, Nat.reduceAdd, Nat.reduceLeDiff, Nat.le_refl, Nat.zero_le, true_or, or_true, zn_cl, ↓jj_Mo_comes, w3, c3]
        simp only [zr_si1, show ¬ (133 : Nat) = 134 by decide, false_and, if_false, fs5, nI_1]
        obtain ⟨o6, q6, f6, z6⟩ := fin _ rfl
        refine k_Mo_isSummary z6.1 (fun s hs es => ?_) (fun no => ?_)
        · have hs8 : s < 8 := by omega
          have e8 : (8 : Int32) * nI s + 7 = nI (8 * s + 7) := by rw [show (8 : Int32) = nI 8 from rfl, pk_mul]; exact nI_add _ 7
          have v8 : vp_in (nI (8 * s + 7)) 64 := vp_in_nI (by omega) (by decide)
          have c8 := nI_clamp (show 8 * s + 7 < 2 ^ 31 by omega)
          rw [es]
          simp only [↓zq, ↓reduceIte, zr_si2, zr_sr1, zr_cp2, zr_tl, zr_tn, shq, List.contains_nil, List.contains_cons, Nat.reduceBEq, Bool.false_or, Bool.or_false, Bool.true_or, Bool.false_eq_true, if_false, if_true, true_and, and_true, List.set_cons_zero, List.set_cons_succ, List.length_cons, List.length_nil, Nat.reduceAdd, Nat.reduceLeDiff, Nat.le_refl, Nat.zero_le, true_or, or_true, zn_cl, ↓jj_Mo_comes, q55, e8, v8, c8, f6]
          simp only [zr_si1, show ¬ (133 : Nat) = 135 by decide, show ¬ (133 : Nat) = 134 by decide, false_and, if_false, and_self, if_true, nI_pred]
          refine ⟨fun z => absurd z (by decide), fun _ => ?_⟩
          have z7 := zO_mk z6.1 (s := s) hs
          have z8 := zOO_up z6 z7 (fun q hq => by funext j; rw [zr_si1, if_neg (by omega)]) (fun k hk => by rw [zr_si1, if_neg (by omega)]) (fun k _ => by rw [zr_si1, if_neg (by omega)]) (by rw [zr_si1, if_neg (by omega)]; exact z6.2.2.2.1.1) (zs_nx_lt x) (Nat.le_refl _) (Nat.le_refl _)
          have eU : zs_cU F U L x a b c m = zs_uset U s (zs_fadd F a b c mm).1 := by
            unfold zs_cU zs_unew
            rw [es, zs_ix_of hs (by omega)]
            rfl
          rw [eU, show zs_cF F U L x a b c m = zs_fadd F a b c mm by rw [hmm]] at h1
          exact h1 hfd _ (o6.tr ⟨rfl, fun q hq => by funext j; rw [zr_si1, if_neg (by omega)]⟩) z8
        · simp only [↓zq, ↓reduceIte, zr_si2, zr_sr1, zr_cp2, zr_tl, zr_tn, shq, List.contains_nil, List.contains_cons, Nat.reduceBEq, Bool.false_or, Bool.or_false, Bool.true_or, Bool.false_eq_true, if_false, if_true, true_and, and_true, List.set_cons_zero, List.set_cons_succ, List.length_cons, List.length_nil, Nat.reduceAdd, Nat.reduceLeDiff, Nat.le_refl, Nat.zero_le, true_or, or_true, zn_cl, ↓jj_Mo_comes, f6]
          simp only [zr_si1, show ¬ (133 : Nat) = 135 by decide, show ¬ (133 : Nat) = 134 by decide, false_and, if_false, and_self, if_true, nI_pred]
          refine ⟨fun _ => ?_, fun z => (by first | exact absurd trivial z | exact absurd rfl z | exact absurd z (by decide))⟩
          have eU : zs_cU F U L x a b c m = U := by
            unfold zs_cU zs_unew
            rw [zs_ix_no2 (by omega) no]
          rw [eU, show zs_cF F U L x a b c m = zs_fadd F a b c mm by rw [hmm]] at h1
          exact h1 hfd _ o6 z6
      · have e0 := (cm.1 y1).2 y2
        rw [e0]
        simp only [↓zq, ↓reduceIte, zr_si2, zr_sr1, zr_cp2, zr_tl, zr_tn, shq, List.contains_nil, List.contains_cons, Nat.reduceBEq, Bool.false_or, Bool.or_false, Bool.true_or, Bool.false_eq_true, if_false, if_true, true_and, and_true, List.set_cons_zero, List.set_cons_succ, List.length_cons, List.length_nil, Nat.reduceAdd, Nat.reduceLeDiff, Nat.le_refl, Nat.zero_le, true_or, or_true, zn_cl, ↓jj_Mo_comes, w3, c3]
        simp only [zr_si1, show ¬ (133 : Nat) = 134 by decide, false_and, if_false, fs5, nI_1]
        obtain ⟨o6, q6, f6, z6⟩ := fin _ rfl
        refine k_Mo_isSummary z6.1 (fun s hs es => ?_) (fun no => ?_)
        · have hs8 : s < 8 := by omega
          have e8 : (8 : Int32) * nI s + 7 = nI (8 * s + 7) := by rw [show (8 : Int32) = nI 8 from rfl, pk_mul]; exact nI_add _ 7
          have v8 : vp_in (nI (8 * s + 7)) 64 := vp_in_nI (by omega) (by decide)
          have c8 := nI_clamp (show 8 * s + 7 < 2 ^ 31 by omega)
          rw [es]
          simp only [↓zq, ↓reduceIte, zr_si2, zr_sr1, zr_cp2, zr_tl, zr_tn, shq, List.contains_nil, List.contains_cons, Nat.reduceBEq, Bool.false_or, Bool.or_false, Bool.true_or, Bool.false_eq_true, if_false, if_true, true_and, and_true, List.set_cons_zero, List.set_cons_succ, List.length_cons, List.length_nil, Nat.reduceAdd, Nat.reduceLeDiff, Nat.le_refl, Nat.zero_le, true_or, or_true, zn_cl, ↓jj_Mo_comes, q55, e8, v8, c8, f6]
          simp only [zr_si1, show ¬ (133 : Nat) = 135 by decide, show ¬ (133 : Nat) = 134 by decide, false_and, if_false, and_self, if_true, nI_pred]
          refine ⟨fun z => absurd z (by decide), fun _ => ?_⟩
          have z7 := zO_mk z6.1 (s := s) hs
          have z8 := zOO_up z6 z7 (fun q hq => by funext j; rw [zr_si1, if_neg (by omega)]) (fun k hk => by rw [zr_si1, if_neg (by omega)]) (fun k _ => by rw [zr_si1, if_neg (by omega)]) (by rw [zr_si1, if_neg (by omega)]; exact z6.2.2.2.1.1) (zs_nx_lt x) (Nat.le_refl _) (Nat.le_refl _)
          have eU : zs_cU F U L x a b c m = zs_uset U s (zs_fadd F a b c mm).1 := by
            unfold zs_cU zs_unew
            rw [es, zs_ix_of hs (by omega)]
            rfl
          rw [eU, show zs_cF F U L x a b c m = zs_fadd F a b c mm by rw [hmm]] at h1
          exact h1 hfd _ (o6.tr ⟨rfl, fun q hq => by funext j; rw [zr_si1, if_neg (by omega)]⟩) z8
        · simp only [↓zq, ↓reduceIte, zr_si2, zr_sr1, zr_cp2, zr_tl, zr_tn, shq, List.contains_nil, List.contains_cons, Nat.reduceBEq, Bool.false_or, Bool.or_false, Bool.true_or, Bool.false_eq_true, if_false, if_true, true_and, and_true, List.set_cons_zero, List.set_cons_succ, List.length_cons, List.length_nil, Nat.reduceAdd, Nat.reduceLeDiff, Nat.le_refl, Nat.zero_le, true_or, or_true, zn_cl, ↓jj_Mo_comes, f6]
          simp only [zr_si1, show ¬ (133 : Nat) = 135 by decide, show ¬ (133 : Nat) = 134 by decide, false_and, if_false, and_self, if_true, nI_pred]
          refine ⟨fun _ => ?_, fun z => (by first | exact absurd trivial z | exact absurd rfl z | exact absurd z (by decide))⟩
          have eU : zs_cU F U L x a b c m = U := by
            unfold zs_cU zs_unew
            rw [zs_ix_no2 (by omega) no]
          rw [eU, show zs_cF F U L x a b c m = zs_fadd F a b c mm by rw [hmm]] at h1
          exact h1 hfd _ o6 z6
    · simp only [↓zq, ↓reduceIte, zr_si2, zr_sr1, zr_cp2, zr_tl, zr_tn, shq, List.contains_nil, List.contains_cons, Nat.reduceBEq, Bool.false_or, Bool.or_false, Bool.true_or, Bool.false_eq_true, if_false, if_true, true_and, and_true, List.set_cons_zero, List.set_cons_succ, List.length_cons, List.length_nil, Nat.reduceAdd, Nat.reduceLeDiff, Nat.le_refl, Nat.zero_le, true_or, or_true, zn_cl, ↓jj_Mo_comes]
      refine k_Mo_max (fun y2 => ?_) (fun y2 => absurd (by decide) y2)
      · have e0 := cm.2 y1
        rw [e0]
        simp only [↓zq, ↓reduceIte, zr_si2, zr_sr1, zr_cp2, zr_tl, zr_tn, shq, List.contains_nil, List.contains_cons, Nat.reduceBEq, Bool.false_or, Bool.or_false, Bool.true_or, Bool.false_eq_true, if_false, if_true, true_and, and_true, List.set_cons_zero, List.set_cons_succ, List.length_cons, List.length_nil, Nat.reduceAdd, Nat.reduceLeDiff, Nat.le_refl, Nat.zero_le, true_or, or_true, zn_cl, ↓jj_Mo_comes, w3, c3]
        simp only [zr_si1, show ¬ (133 : Nat) = 134 by decide, false_and, if_false, fs5, nI_1]
        obtain ⟨o6, q6, f6, z6⟩ := fin _ rfl
        refine k_Mo_isSummary z6.1 (fun s hs es => ?_) (fun no => ?_)
        · have hs8 : s < 8 := by omega
          have e8 : (8 : Int32) * nI s + 7 = nI (8 * s + 7) := by rw [show (8 : Int32) = nI 8 from rfl, pk_mul]; exact nI_add _ 7
          have v8 : vp_in (nI (8 * s + 7)) 64 := vp_in_nI (by omega) (by decide)
          have c8 := nI_clamp (show 8 * s + 7 < 2 ^ 31 by omega)
          rw [es]
          simp only [↓zq, ↓reduceIte, zr_si2, zr_sr1, zr_cp2, zr_tl, zr_tn, shq, List.contains_nil, List.contains_cons, Nat.reduceBEq, Bool.false_or, Bool.or_false, Bool.true_or, Bool.false_eq_true, if_false, if_true, true_and, and_true, List.set_cons_zero, List.set_cons_succ, List.length_cons, List.length_nil, Nat.reduceAdd, Nat.reduceLeDiff, Nat.le_refl, Nat.zero_le, true_or, or_true, zn_cl, ↓jj_Mo_comes, q55, e8, v8, c8, f6]
          simp only [zr_si1, show ¬ (133 : Nat) = 135 by decide, show ¬ (133 : Nat) = 134 by decide, false_and, if_false, and_self, if_true, nI_pred]
          refine ⟨fun z => absurd z (by decide), fun _ => ?_⟩
          have z7 := zO_mk z6.1 (s := s) hs
          have z8 := zOO_up z6 z7 (fun q hq => by funext j; rw [zr_si1, if_neg (by omega)]) (fun k hk => by rw [zr_si1, if_neg (by omega)]) (fun k _ => by rw [zr_si1, if_neg (by omega)]) (by rw [zr_si1, if_neg (by omega)]; exact z6.2.2.2.1.1) (zs_nx_lt x) (Nat.le_refl _) (Nat.le_refl _)
          have eU : zs_cU F U L x a b c m = zs_uset U s (zs_fadd F a b c mm).1 := by
            unfold zs_cU zs_unew
            rw [es, zs_ix_of hs (by omega)]
            rfl
          rw [eU, show zs_cF F U L x a b c m = zs_fadd F a b c mm by rw [hmm]] at h1
          exact h1 hfd _ (o6.tr ⟨rfl, fun q hq => by funext j; rw [zr_si1, if_neg (by omega)]⟩) z8
        · simp only [↓zq, ↓reduceIte, zr_si2, zr_sr1, zr_cp2, zr_tl, zr_tn, shq, List.contains_nil, List.contains_cons, Nat.reduceBEq, Bool.false_or, Bool.or_false, Bool.true_or, Bool.false_eq_true, if_false, if_true, true_and, and_true, List.set_cons_zero, List.set_cons_succ, List.length_cons, List.length_nil, Nat.reduceAdd, Nat.reduceLeDiff, Nat.le_refl, Nat.zero_le, true_or, or_true, zn_cl, ↓jj_Mo_comes, f6]
          simp only [zr_si1, show ¬ (133 : Nat) = 135 by decide, show ¬ (133 : Nat) = 134 by decide, false_and, if_false, and_self, if_true, nI_pred]
          refine ⟨fun _ => ?_, fun z => (by first | exact absurd trivial z | exact absurd rfl z | exact absurd z (by decide))⟩
          have eU : zs_cU F U L x a b c m = U := by
            unfold zs_cU zs_unew
            rw [zs_ix_no2 (by omega) no]
          rw [eU, show zs_cF F U L x a b c m = zs_fadd F a b c mm by rw [hmm]] at h1
          exact h1 hfd _ o6 z6
  · rw [if_neg hfd]
    refine ⟨fun z => absurd z (by decide), fun _ => h0 hfd g2 la2.own z2⟩
