/-! keep, undo (reference) -/
set_option maxHeartbeats 4000000 in
set_option maxRecDepth 100000 in
theorem k_Mo_keep {d : Nat} {h : zm_M} {R : zm_R} {n0 : Nat} {F : zs_F} {sp : Nat → Nat} {U : zs_U} {Q : zs_Q} {B : zs_B} {L : zs_L} {x : Nat} {K : zs_K} (hO : zOO h n0 F sp U Q B L x K) (hR : ∀ h' : zm_M, zo_own h h' → zOO h' n0 F sp U Q B L x (true, F.1, x, true, U) → R (some (.inl (nI F.1))) h') : zm_C (d + 1) TT m_Mo_keep [.inr (some 133)] h R := by
  have hp := hO.1.1
  have fs := hO.1.2.1.1.1
  have us := hO.1.2.2.2.1.1.1
  have u8 := hO.1.2.2.2.1.2.1
  have f240 := hO.1.2.1.2.1
  obtain ⟨ex, hx⟩ := hO.2.2.2.1
  obtain ⟨n, m, k1, k2, k3, k4, k5⟩ := hO.2.2.2.2.1
  have fin : ∀ g : zm_M, g.2 = h.2 → (∀ a, a ≠ 133 → a ≠ 169 → a ≠ 170 → g.1 a = h.1 a) → (∀ k, k < 53 → g.1 133 k = h.1 133 k) → g.1 133 53 = 1 → g.1 133 54 = nI F.1 → g.1 133 55 = nI U.1 → g.1 133 56 = nI x → g.1 133 57 = nI n → (∀ k, k < 960 → g.1 169 k = h.1 134 k) → (∀ k, k < 64 → g.1 170 k = h.1 135 k) → R (some (.inl (nI F.1))) g := by
    intro g g2 gI g0 g53 g54 g55 g56 g57 g169 g170
    refine hR g ⟨g2, fun a ha => gI a (by omega) (by omega) (by omega)⟩ ?_
    obtain ⟨c1, ⟨c3, c3w⟩, ⟨c5, c5w⟩, ⟨c6, c6w⟩, c7, c7w⟩ := hO
    refine ⟨zO_of (by rw [g2]) (fun a ha => gI a (by omega) (by omega) (by omega)) (fun k hk => g0 k (by omega)) c1, ⟨zo_B_of (g0 8 (by omega)) (gI 137 (by omega) (by omega) (by omega)) c3, c3w⟩, ⟨zo_L_of (fun a h1 h2 => gI a (by omega) (by omega) (by omega)) (g0 17 (by omega)) c5, c5w⟩, ⟨by rw [g0 0 (by omega)]; exact c6, c6w⟩, ⟨n, n, Nat.le_refl _, k2, by rw [g0 3 (by omega)]; exact k3, fun z => Bool.noConfusion z, fun _ => ⟨g53, g57, g54, g56, fun k hk => ?_, ⟨fun _ => rfl, fun _ => rfl⟩, fun _ => ⟨g55, fun s hs k hk => ?_⟩⟩⟩, fun _ => ⟨Nat.le_refl _, c6w, fun _ => c1.2.2.2.1.2⟩⟩
    · have hk' : k < 4 * F.1 := hk
      rw [g169 k (by omega), gI 134 (by omega) (by omega) (by omega)]
    · have hs' : s < U.1 := hs
      rw [g170 _ (by omega)]
      exact c1.2.2.2.1.1.2 s hs' k hk
  have loop2 : ∀ (j i : Nat) (g : zm_M), i + j = 64 → g.2 = h.2 → (∀ a, a ≠ 133 → a ≠ 169 → a ≠ 170 → g.1 a = h.1 a) → (∀ k, k < 53 → g.1 133 k = h.1 133 k) → g.1 133 53 = 1 → g.1 133 54 = nI F.1 → g.1 133 55 = nI U.1 → g.1 133 56 = nI x → g.1 133 57 = nI n → (∀ k, k < 960 → g.1 169 k = h.1 134 k) → (∀ k, k < i → g.1 170 k = h.1 135 k) → zm_W (zm_md m_Mo_keep) (d + 1) TT R 66 [some (.inr (some 133)), some (.inl (nI i))] [] g := by
    intro j
    induction j with
    | zero =>
      intro i g hi g2 gI g0 g53 g54 g55 g56 g57 g169 g170
      have : i = 64 := by omega
      subst this
      have fs' : g.1 133 1 = nI F.1 := by rw [g0 1 (by omega)]; exact fs
      refine zm_go g_Mo_keep [39, 66] 30 (by decide +kernel) ok_Mo_keep _ rfl ?_
      simp only [↓zq, ↓reduceIte, zr_si2, zr_sr1, zr_cp2, zr_tl, zr_tn, shq, List.contains_nil, List.contains_cons, Nat.reduceBEq, Bool.false_or, Bool.or_false, Bool.true_or, Bool.false_eq_true, if_false, if_true, true_and, and_true, List.set_cons_zero, List.set_cons_succ, List.length_cons, List.length_nil, Nat.reduceAdd, Nat.reduceLeDiff, Nat.le_refl, Nat.zero_le, true_or, or_true, zn_cl, ↓jj_Mo_keep, fs']
      exact ⟨fun _ => fin g g2 gI g0 g53 g54 g55 g56 g57 g169 g170, fun z => absurd (by decide) z⟩
    | succ j ih =>
      intro i g hi g2 gI g0 g53 g54 g55 g56 g57 g169 g170
      have p59 : g.2 133 59 = some 170 := by rw [g2]; simp only [hp]
      have p5 : g.2 133 5 = some 135 := by rw [g2]; simp only [hp]
      have v1 : vp_in (nI i) 64 := vp_in_nI (by omega) (by decide)
      have c1 := nI_clamp (show i < 2 ^ 31 by omega)
      refine zm_go g_Mo_keep [39, 66] 30 (by decide +kernel) ok_Mo_keep _ rfl ?_
      simp only [↓zq, ↓reduceIte, zr_si2, zr_sr1, zr_cp2, zr_tl, zr_tn, shq, List.contains_nil, List.contains_cons, Nat.reduceBEq, Bool.false_or, Bool.or_false, Bool.true_or, Bool.false_eq_true, if_false, if_true, true_and, and_true, List.set_cons_zero, List.set_cons_succ, List.length_cons, List.length_nil, Nat.reduceAdd, Nat.reduceLeDiff, Nat.le_refl, Nat.zero_le, true_or, or_true, zn_cl, ↓jj_Mo_keep, p59, p5, v1, c1, nI_1]
      refine ⟨fun z => absurd z (nI_ge (b := 64) (by omega) (by decide)), fun _ => ?_⟩
      refine ih (i + 1) _ (by omega) g2 (fun a h1 h2 h3 => ?_) (fun k hk => ?_) ?_ ?_ ?_ ?_ ?_ (fun k hk => ?_) (fun k hk => ?_)
      · funext q
        rw [zr_si1, if_neg (fun z => h3 z.1), gI a h1 h2 h3]
      · rw [zr_si1, if_neg (by omega), g0 k hk]
      · rw [zr_si1, if_neg (by omega)]; exact g53
      · rw [zr_si1, if_neg (by omega)]; exact g54
      · rw [zr_si1, if_neg (by omega)]; exact g55
      · rw [zr_si1, if_neg (by omega)]; exact g56
      · rw [zr_si1, if_neg (by omega)]; exact g57
      · rw [zr_si1, if_neg (by omega)]; exact g169 k hk
      · rw [zr_si1]
        by_cases z : k = i
        · rw [if_pos ⟨rfl, z⟩, z, gI 135 (by omega) (by omega) (by omega)]
        · rw [if_neg (fun q => z q.2)]
          exact g170 k (by omega)
  have loop1 : ∀ (j i : Nat) (g : zm_M), i + j = 960 → g.2 = h.2 → (∀ a, a ≠ 133 → a ≠ 169 → a ≠ 170 → g.1 a = h.1 a) → (∀ k, k < 53 → g.1 133 k = h.1 133 k) → g.1 133 53 = 1 → g.1 133 54 = nI F.1 → g.1 133 55 = nI U.1 → g.1 133 56 = nI x → g.1 133 57 = nI n → (∀ k, k < i → g.1 169 k = h.1 134 k) → zm_W (zm_md m_Mo_keep) (d + 1) TT R 39 [some (.inr (some 133)), some (.inl (nI i))] [] g := by
    intro j
    induction j with
    | zero =>
      intro i g hi g2 gI g0 g53 g54 g55 g56 g57 g169
      have : i = 960 := by omega
      subst this
      refine zm_go g_Mo_keep [39, 66] 30 (by decide +kernel) ok_Mo_keep _ rfl ?_
      simp only [↓zq, ↓reduceIte, zr_si2, zr_sr1, zr_cp2, zr_tl, zr_tn, shq, List.contains_nil, List.contains_cons, Nat.reduceBEq, Bool.false_or, Bool.or_false, Bool.true_or, Bool.false_eq_true, if_false, if_true, true_and, and_true, List.set_cons_zero, List.set_cons_succ, List.length_cons, List.length_nil, Nat.reduceAdd, Nat.reduceLeDiff, Nat.le_refl, Nat.zero_le, true_or, or_true, zn_cl, ↓jj_Mo_keep]
      exact ⟨fun _ => loop2 64 0 g (by omega) g2 gI g0 g53 g54 g55 g56 g57 g169 (fun k hk => absurd hk (Nat.not_lt_zero _)), fun z => absurd (by decide) z⟩
    | succ j ih =>
      intro i g hi g2 gI g0 g53 g54 g55 g56 g57 g169
      have p58 : g.2 133 58 = some 169 := by rw [g2]; simp only [hp]
      have p4 : g.2 133 4 = some 134 := by rw [g2]; simp only [hp]
      have v1 : vp_in (nI i) 960 := vp_in_nI (by omega) (by decide)
      have c1 := nI_clamp (show i < 2 ^ 31 by omega)
      refine zm_go g_Mo_keep [39, 66] 30 (by decide +kernel) ok_Mo_keep _ rfl ?_
      simp only [↓zq, ↓reduceIte, zr_si2, zr_sr1, zr_cp2, zr_tl, zr_tn, shq, List.contains_nil, List.contains_cons, Nat.reduceBEq, Bool.false_or, Bool.or_false, Bool.true_or, Bool.false_eq_true, if_false, if_true, true_and, and_true, List.set_cons_zero, List.set_cons_succ, List.length_cons, List.length_nil, Nat.reduceAdd, Nat.reduceLeDiff, Nat.le_refl, Nat.zero_le, true_or, or_true, zn_cl, ↓jj_Mo_keep, p58, p4, v1, c1, nI_1]
      refine ⟨fun z => absurd z (nI_ge (b := 960) (by omega) (by decide)), fun _ => ?_⟩
      refine ih (i + 1) _ (by omega) g2 (fun a h1 h2 h3 => ?_) (fun k hk => ?_) ?_ ?_ ?_ ?_ ?_ (fun k hk => ?_)
      · funext q
        rw [zr_si1, if_neg (fun z => h2 z.1), gI a h1 h2 h3]
      · rw [zr_si1, if_neg (by omega), g0 k hk]
      · rw [zr_si1, if_neg (by omega)]; exact g53
      · rw [zr_si1, if_neg (by omega)]; exact g54
      · rw [zr_si1, if_neg (by omega)]; exact g55
      · rw [zr_si1, if_neg (by omega)]; exact g56
      · rw [zr_si1, if_neg (by omega)]; exact g57
      · rw [zr_si1]
        by_cases z : k = i
        · rw [if_pos ⟨rfl, z⟩, z, gI 134 (by omega) (by omega) (by omega)]
        · rw [if_neg (fun q => z q.2)]
          exact g169 k (by omega)
  refine st_Mo_keep [39, 66] 30 ?_
  simp only [↓zq, ↓reduceIte, zr_si2, zr_sr1, zr_cp2, zr_tl, zr_tn, shq, List.contains_nil, List.contains_cons, Nat.reduceBEq, Bool.false_or, Bool.or_false, Bool.true_or, Bool.false_eq_true, if_false, if_true, true_and, and_true, List.set_cons_zero, List.set_cons_succ, List.length_cons, List.length_nil, Nat.reduceAdd, Nat.reduceLeDiff, Nat.le_refl, Nat.zero_le, true_or, or_true, zn_cl, ↓jj_Mo_keep]
  simp only [zr_si1, Nat.reduceEqDiff, and_false, if_false, fs, us, ex, k3]
  refine loop1 960 0 _ (by omega) rfl (fun a h1 h2 h3 => ?_) (fun k hk => ?_) ?_ ?_ ?_ ?_ ?_ (fun k hk => absurd hk (Nat.not_lt_zero _))
  · funext q
    simp only [zr_si1, h1, false_and, if_false]
  · simp only [zr_si1, true_and]
    rw [if_neg (by omega), if_neg (by omega), if_neg (by omega), if_neg (by omega), if_neg (by omega)]
  · simp [zr_si1]
  · simp [zr_si1]
  · simp [zr_si1]
  · simp [zr_si1]
  · simp [zr_si1]
set_option maxHeartbeats 4000000 in
set_option maxRecDepth 100000 in
theorem k_Mo_undo {d : Nat} {h : zm_M} {R : zm_R} {n0 : Nat} {F : zs_F} {sp : Nat → Nat} {U : zs_U} {Q : zs_Q} {B : zs_B} {L : zs_L} {x : Nat} {K : zs_K} (hO : zOO h n0 F sp U Q B L x K) (hn0 : n0 < 10000) (hR : ∀ h' : zm_M, zo_own h h' → zOO h' n0 (D_undo F U x K).2.1 sp (D_undo F U x K).2.2.1 Q B L (D_undo F U x K).2.2.2 K → R (some (.inl (D_undo F U x K).1)) h') : zm_C (d + 1) TT m_Mo_undo [.inr (some 133)] h R := by
  have hp := hO.1.1
  have f240 := hO.1.2.1.2.1
  obtain ⟨ex, hx⟩ := hO.2.2.2.1
  obtain ⟨n, m, k1, k2, k3, k4, k5⟩ := hO.2.2.2.2.1
  have hKw := hO.2.2.2.2.2
  refine st_Mo_undo [27, 77] 30 ?_
  by_cases hk : K.1 = true
  · obtain ⟨q1, q2, q3, q4, q5, q6, q7⟩ := k5 hk
    obtain ⟨w1, w2, w3⟩ := hKw hk
    have eD : D_undo F U x K = (1, (K.2.1, F.2), if K.2.2.2.1 = true then K.2.2.2.2 else (0, fun _ _ => 0), K.2.2.1) := if_pos hk
    rw [eD] at hR
    dsimp only at hR
    obtain ⟨U', hU'⟩ : ∃ U' : zs_U, U' = if K.2.2.2.1 = true then K.2.2.2.2 else (0, fun _ _ => 0) := ⟨_, rfl⟩
    rw [← hU'] at hR
    have wU : zw_U K.2.1 U' := by
      subst hU'
      by_cases hs : K.2.2.2.1 = true
      · rw [if_pos hs]; exact w3 hs
      · rw [if_neg hs]; exact ⟨Nat.zero_le _, fun s hs => absurd hs (Nat.not_lt_zero _)⟩
    have eU : ∀ s, s < U'.1 → ∀ k, k < 8 → h.1 170 (8 * s + k) = nI (U'.2 s k) := by
      subst hU'
      by_cases hs : K.2.2.2.1 = true
      · rw [if_pos hs]; exact (q7 hs).2
      · rw [if_neg hs]; exact fun s hs => absurd hs (Nat.not_lt_zero _)
    have wF : zw_F (K.2.1, F.2) := ⟨by dsimp only; omega, fun f hf => hO.1.2.1.2.2 f (Nat.lt_of_lt_of_le hf w1)⟩
    have fin : ∀ g : zm_M, g.2 = h.2 → (∀ a, a ≠ 133 → a ≠ 134 → a ≠ 135 → g.1 a = h.1 a) → (∀ k, 3 ≤ k → g.1 133 k = h.1 133 k) → g.1 133 0 = nI K.2.2.1 → g.1 133 1 = nI K.2.1 → g.1 133 2 = nI U'.1 → (∀ k, k < 960 → g.1 134 k = h.1 169 k) → (∀ k, k < 64 → g.1 135 k = h.1 170 k) → R (some (.inl 1)) g := by
      intro g g2 gI g0 x0 x1 x2 g134 g135
      refine hR g ⟨g2, fun a ha => gI a (by omega) (by omega) (by omega)⟩ ?_
      obtain ⟨c1, ⟨c3, c3w⟩, ⟨c5, c5w⟩, ⟨c6, c6w⟩, c7, c7w⟩ := hO
      refine ⟨⟨by rw [g2]; exact hp, ⟨⟨x1, fun f hf => ?_⟩, wF⟩, ⟨?_, c1.2.2.1.2⟩, ⟨⟨x2, fun s hs k hk => ?_⟩, wU⟩, ?_, c1.2.2.2.2.2⟩, ⟨zo_B_of (g0 8 (by omega)) (gI 137 (by omega) (by omega) (by omega)) c3, c3w⟩, ⟨zo_L_of (fun a h1 h2 => gI a (by omega) (by omega) (by omega)) (g0 17 (by omega)) c5, c5w⟩, ⟨x0, w2⟩, ⟨n, m, k1, k2, by rw [g0 3 (by omega)]; exact k3, fun z => by rw [hk] at z; exact Bool.noConfusion z, fun _ => ?_⟩, fun z => ⟨Nat.le_refl _, (c7w z).2⟩⟩
      · have hf' : f < K.2.1 := hf
        rw [g134 _ (by omega), g134 _ (by omega), g134 _ (by omega), g134 _ (by omega), q5 _ (by omega), q5 _ (by omega), q5 _ (by omega), q5 _ (by omega)]
        exact c1.2.1.1.2 f (by omega)
      · unfold zo_S
        rw [gI 136 (by omega) (by omega) (by omega)]
        exact c1.2.2.1.1
      · have u8 := wU.1
        rw [g135 _ (by omega)]
        exact eU s hs k hk
      · unfold zo_Q
        rw [g0 36 (by omega), gI 153 (by omega) (by omega) (by omega)]
        exact c1.2.2.2.2.1
      · rw [g0 53 (by omega), g0 57 (by omega), g0 54 (by omega), g0 56 (by omega), g0 55 (by omega), gI 169 (by omega) (by omega) (by omega), gI 170 (by omega) (by omega) (by omega)]
        refine ⟨q1, q2, q3, q4, fun k hk => ?_, q6, q7⟩
        rw [g134 k (by omega)]
    have loop2 : ∀ (j i : Nat) (g : zm_M), i + j = 64 → g.2 = h.2 → (∀ a, a ≠ 133 → a ≠ 134 → a ≠ 135 → g.1 a = h.1 a) → (∀ k, 3 ≤ k → g.1 133 k = h.1 133 k) → g.1 133 0 = nI K.2.2.1 → g.1 133 1 = nI K.2.1 → g.1 133 2 = nI U'.1 → (∀ k, k < 960 → g.1 134 k = h.1 169 k) → (∀ k, k < i → g.1 135 k = h.1 170 k) → zm_W (zm_md m_Mo_undo) (d + 1) TT R 77 [some (.inr (some 133)), some (.inl (nI i))] [] g := by
      intro j
      induction j with
      | zero =>
        intro i g hi g2 gI g0 x0 x1 x2 g134 g135
        have : i = 64 := by omega
        subst this
        refine zm_go g_Mo_undo [27, 77] 30 (by decide +kernel) ok_Mo_undo _ rfl ?_
        simp only [↓zq, ↓reduceIte, zr_si2, zr_sr1, zr_cp2, zr_tl, zr_tn, shq, List.contains_nil, List.contains_cons, Nat.reduceBEq, Bool.false_or, Bool.or_false, Bool.true_or, Bool.false_eq_true, if_false, if_true, true_and, and_true, List.set_cons_zero, List.set_cons_succ, List.length_cons, List.length_nil, Nat.reduceAdd, Nat.reduceLeDiff, Nat.le_refl, Nat.zero_le, true_or, or_true, zn_cl, ↓jj_Mo_undo]
        exact ⟨fun _ => fin g g2 gI g0 x0 x1 x2 g134 g135, fun z => absurd (by decide) z⟩
      | succ j ih =>
        intro i g hi g2 gI g0 x0 x1 x2 g134 g135
        have p59 : g.2 133 59 = some 170 := by rw [g2]; simp only [hp]
        have p5 : g.2 133 5 = some 135 := by rw [g2]; simp only [hp]
        have v1 : vp_in (nI i) 64 := vp_in_nI (by omega) (by decide)
        have c1 := nI_clamp (show i < 2 ^ 31 by omega)
        refine zm_go g_Mo_undo [27, 77] 30 (by decide +kernel) ok_Mo_undo _ rfl ?_
        simp only [↓zq, ↓reduceIte, zr_si2, zr_sr1, zr_cp2, zr_tl, zr_tn, shq, List.contains_nil, List.contains_cons, Nat.reduceBEq, Bool.false_or, Bool.or_false, Bool.true_or, Bool.false_eq_true, if_false, if_true, true_and, and_true, List.set_cons_zero, List.set_cons_succ, List.length_cons, List.length_nil, Nat.reduceAdd, Nat.reduceLeDiff, Nat.le_refl, Nat.zero_le, true_or, or_true, zn_cl, ↓jj_Mo_undo, p59, p5, v1, c1, nI_1]
        refine ⟨fun z => absurd z (nI_ge (b := 64) (by omega) (by decide)), fun _ => ?_⟩
        refine ih (i + 1) _ (by omega) g2 (fun a h1 h2 h3 => ?_) (fun k hk => ?_) ?_ ?_ ?_ (fun k hk => ?_) (fun k hk => ?_)
        · funext q
          rw [zr_si1, if_neg (fun z => h3 z.1), gI a h1 h2 h3]
        · rw [zr_si1, if_neg (by omega), g0 k hk]
        · rw [zr_si1, if_neg (by omega)]; exact x0
        · rw [zr_si1, if_neg (by omega)]; exact x1
        · rw [zr_si1, if_neg (by omega)]; exact x2
        · rw [zr_si1, if_neg (by omega)]; exact g134 k hk
        · rw [zr_si1]
          by_cases z : k = i
          · rw [if_pos ⟨rfl, z⟩, z, gI 170 (by omega) (by omega) (by omega)]
          · rw [if_neg (fun q => z q.2)]
            exact g135 k (by omega)
    have loop1 : ∀ (j i : Nat) (g : zm_M), i + j = 960 → g.2 = h.2 → (∀ a, a ≠ 133 → a ≠ 134 → g.1 a = h.1 a) → (∀ k, 2 ≤ k → g.1 133 k = h.1 133 k) → g.1 133 0 = nI K.2.2.1 → g.1 133 1 = nI K.2.1 → (∀ k, k < i → g.1 134 k = h.1 169 k) → zm_W (zm_md m_Mo_undo) (d + 1) TT R 27 [some (.inr (some 133)), some (.inl (nI i))] [] g := by
      intro j
      induction j with
      | zero =>
        intro i g hi g2 gI g0 x0 x1 g134
        have : i = 960 := by omega
        subst this
        have s57 : g.1 133 57 = nI m := by rw [g0 57 (by omega)]; exact q2
        have s3 : g.1 133 3 = nI n := by rw [g0 3 (by omega)]; exact k3
        have emn : (nI m = nI n) = (m = n) := zn_eq (by omega) (by omega)
        have go : ∀ y : Int32, y = nI U'.1 → zm_W (zm_md m_Mo_undo) (d + 1) TT R 77 [some (.inr (some 133)), some (.inl 0)] [] (zm_si g 133 2 y) := fun y hy => by
          refine loop2 64 0 _ (by omega) g2 (fun a h1 h2 h3 => ?_) (fun k hk => ?_) ?_ ?_ ?_ (fun k hk => ?_) (fun k hk => absurd hk (Nat.not_lt_zero _))
          · funext q
            rw [zr_si1, if_neg (fun z => h1 z.1), gI a h1 h2]
          · rw [zr_si1, if_neg (by omega), g0 k (by omega)]
          · rw [zr_si1, if_neg (by omega)]; exact x0
          · rw [zr_si1, if_neg (by omega)]; exact x1
          · rw [zr_si1, if_pos ⟨rfl, rfl⟩]; exact hy
          · rw [zr_si1, if_neg (by omega)]; exact g134 k hk
        have s55 : g.1 133 55 = h.1 133 55 := g0 55 (by omega)
        refine zm_go g_Mo_undo [27, 77] 30 (by decide +kernel) ok_Mo_undo _ rfl ?_
        simp only [↓zq, ↓reduceIte, zr_si2, zr_sr1, zr_cp2, zr_tl, zr_tn, shq, List.contains_nil, List.contains_cons, Nat.reduceBEq, Bool.false_or, Bool.or_false, Bool.true_or, Bool.false_eq_true, if_false, if_true, true_and, and_true, List.set_cons_zero, List.set_cons_succ, List.length_cons, List.length_nil, Nat.reduceAdd, Nat.reduceLeDiff, Nat.le_refl, Nat.zero_le, true_or, or_true, zn_cl, ↓jj_Mo_undo, s57, s3, s55, emn]
        refine ⟨fun _ => ⟨fun z => go 0 ?_, fun z => go _ ?_⟩, fun z => absurd (by decide) z⟩
        · rw [hU', if_neg (fun y => z (q6.mp y))]
          rfl
        · rw [hU', if_pos (q6.mpr z)]
          exact (q7 (q6.mpr z)).1
      | succ j ih =>
        intro i g hi g2 gI g0 x0 x1 g134
        have p58 : g.2 133 58 = some 169 := by rw [g2]; simp only [hp]
        have p4 : g.2 133 4 = some 134 := by rw [g2]; simp only [hp]
        have v1 : vp_in (nI i) 960 := vp_in_nI (by omega) (by decide)
        have c1 := nI_clamp (show i < 2 ^ 31 by omega)
        refine zm_go g_Mo_undo [27, 77] 30 (by decide +kernel) ok_Mo_undo _ rfl ?_
        simp only [↓zq, ↓reduceIte, zr_si2, zr_sr1, zr_cp2, zr_tl, zr_tn, shq, List.contains_nil, List.contains_cons, Nat.reduceBEq, Bool.false_or, Bool.or_false, Bool.true_or, Bool.false_eq_true, if_false, if_true, true_and, and_true, List.set_cons_zero, List.set_cons_succ, List.length_cons, List.length_nil, Nat.reduceAdd, Nat.reduceLeDiff, Nat.le_refl, Nat.zero_le, true_or, or_true, zn_cl, ↓jj_Mo_undo, p58, p4, v1, c1, nI_1]
        refine ⟨fun z => absurd z (nI_ge (b := 960) (by omega) (by decide)), fun _ => ?_⟩
        refine ih (i + 1) _ (by omega) g2 (fun a h1 h2 => ?_) (fun k hk => ?_) ?_ ?_ (fun k hk => ?_)
        · funext q
          rw [zr_si1, if_neg (fun z => h2 z.1), gI a h1 h2]
        · rw [zr_si1, if_neg (by omega), g0 k hk]
        · rw [zr_si1, if_neg (by omega)]; exact x0
        · rw [zr_si1, if_neg (by omega)]; exact x1
        · rw [zr_si1]
          by_cases z : k = i
          · rw [if_pos ⟨rfl, z⟩, z, gI 169 (by omega) (by omega)]
          · rw [if_neg (fun q => z q.2)]
            exact g134 k (by omega)
    simp only [↓zq, ↓reduceIte, zr_si2, zr_sr1, zr_cp2, zr_tl, zr_tn, shq, List.contains_nil, List.contains_cons, Nat.reduceBEq, Bool.false_or, Bool.or_false, Bool.true_or, Bool.false_eq_true, if_false, if_true, true_and, and_true, List.set_cons_zero, List.set_cons_succ, List.length_cons, List.length_nil, Nat.reduceAdd, Nat.reduceLeDiff, Nat.le_refl, Nat.zero_le, true_or, or_true, zn_cl, ↓jj_Mo_undo, q1, q3]
    simp only [zr_si1, Nat.reduceEqDiff, and_false, if_false, q4]
    refine ⟨fun _ => ?_, fun z => absurd z (by decide)⟩
    refine loop1 960 0 _ (by omega) rfl (fun a h1 h2 => ?_) (fun k hk => ?_) ?_ ?_ (fun k hk => absurd hk (Nat.not_lt_zero _))
    · funext q
      simp only [zr_si1, h1, false_and, if_false]
    · simp only [zr_si1, true_and]
      rw [if_neg (by omega), if_neg (by omega)]
    · simp [zr_si1]
    · simp [zr_si1]
  · have k1 := k4 (by simpa using hk)
    have eD : D_undo F U x K = (0, F, U, x) := if_neg hk
    rw [eD] at hR
    simp only [↓zq, ↓reduceIte, zr_si2, zr_sr1, zr_cp2, zr_tl, zr_tn, shq, List.contains_nil, List.contains_cons, Nat.reduceBEq, Bool.false_or, Bool.or_false, Bool.true_or, Bool.false_eq_true, if_false, if_true, true_and, and_true, List.set_cons_zero, List.set_cons_succ, List.length_cons, List.length_nil, Nat.reduceAdd, Nat.reduceLeDiff, Nat.le_refl, Nat.zero_le, true_or, or_true, zn_cl, ↓jj_Mo_undo, k1]
    exact ⟨fun z => (by first | exact absurd trivial z | exact absurd rfl z | exact absurd z (by decide)), fun _ => hR h (zo_own.rf h) hO⟩
