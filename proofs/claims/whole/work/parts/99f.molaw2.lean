/-! law (reference) -/
theorem zOO_z3 {h g : zm_M} {c : Nat} {F : zs_F} {sp : Nat → Nat} {U : zs_U} {Q : zs_Q} {B : zs_B} {L : zs_L} {x : Nat} {K : zs_K} (hO : zOO h c F sp U Q B L x K) (h2 : g.2 = h.2) (hI : ∀ a, a ≠ 133 → (a < 138 ∨ 143 < a) → g.1 a = h.1 a) (h0 : ∀ k, (k < 9 ∨ 16 < k) → g.1 133 k = h.1 133 k) : zo_own h (zm_si g 133 8 0) ∧ zOO (zm_si g 133 8 0) c F sp U Q (0, B.2) L x K := by
  have eI : ∀ a, a ≠ 133 → (a < 138 ∨ 143 < a) → (zm_si g 133 8 0).1 a = h.1 a := fun a h1 h2 => by
    funext j
    rw [zr_si1, if_neg (fun z => h1 z.1), hI a h1 h2]
  refine ⟨⟨h2, fun a ha => eI a (by omega) (by omega)⟩, zOO_rd hO h2 (fun a ha => eI a (by omega) (by omega)) (fun k hk => ?_) (by rw [zr_si1, if_pos ⟨rfl, rfl⟩])⟩
  rw [zr_si1, if_neg (by omega), h0 k (by omega)]
set_option maxHeartbeats 4000000 in
set_option maxRecDepth 100000 in
theorem k_Mo_law {d : Nat} {h : zm_M} {R : zm_R} {n0 : Nat} {F : zs_F} {sp : Nat → Nat} {U : zs_U} {Q : zs_Q} {B : zs_B} {L : zs_L} {x : Nat} {K : zs_K} {v : Int32} (hO : zOO h n0 F sp U Q B L x K) (hR : ∀ h' : zm_M, zo_own h h' → zOO h' n0 F sp U Q (D_law B L v).2.1 (D_law B L v).2.2 x K → R (some (.inl (D_law B L v).1)) h') : zm_C (d + 9) TT m_Mo_law [.inr (some 133), .inl v] h R := by
  have hp := hO.1.1
  have p7 : h.2 133 7 = some 137 := by simp only [hp]
  obtain ⟨hB, hBw⟩ := hO.2.1
  have b1 := hB.1
  have b260 := hBw.1
  have bad : (∀ n, v = nI n → 1 ≤ n → n ≤ 240 → n ≤ B.1 → False) → R (some (.inl (-1))) h := fun no => by
    have eD : D_law B L v = (-1, B, L) := by
      unfold D_law
      rw [zs_tx_no (by decide) no]
    rw [eD] at hR
    exact hR h (zo_own.rf h) hO
  refine st_Mo_law [31, 71, 95, 123] 30 ?_
  simp only [↓zq, ↓reduceIte, zr_si2, zr_sr1, zr_cp2, zr_tl, zr_tn, shq, List.contains_nil, List.contains_cons, Nat.reduceBEq, Bool.false_or, Bool.or_false, Bool.true_or, Bool.false_eq_true, if_false, if_true, true_and, and_true, List.set_cons_zero, List.set_cons_succ, List.length_cons, List.length_nil, Nat.reduceAdd, Nat.reduceLeDiff, Nat.le_refl, Nat.zero_le, true_or, or_true, zn_cl, ↓jj_Mo_law]
  refine k_Mo_in (fun z1 z2 => ?_) (fun z => ?_)
  · simp only [↓zq, ↓reduceIte, zr_si2, zr_sr1, zr_cp2, zr_tl, zr_tn, shq, List.contains_nil, List.contains_cons, Nat.reduceBEq, Bool.false_or, Bool.or_false, Bool.true_or, Bool.false_eq_true, if_false, if_true, true_and, and_true, List.set_cons_zero, List.set_cons_succ, List.length_cons, List.length_nil, Nat.reduceAdd, Nat.reduceLeDiff, Nat.le_refl, Nat.zero_le, true_or, or_true, zn_cl, ↓jj_Mo_law, b1]
    refine ⟨fun z => absurd z (by decide), fun _ => ⟨fun z3 => ?_, fun z3 => bad (fun m em m1 m2 m3 => ?_)⟩⟩
    · obtain ⟨n, n0', n1, n2, rfl⟩ := zs_tx_in (m := 240) (by decide) b260 z1 z2 z3
      have eT := zs_tx_of n0' n1 n2 (show 240 < 1000 by decide)
      have hf0 : ∀ g : zm_M, Prop := fun _ => True
      clear hf0
      refine k_Mo_beginsText p7 hB hBw n2 (by omega) (fun g1 e1 e2 e3 e4 e5 s1 => ?_)
      simp only [↓zq, ↓reduceIte, zr_si2, zr_sr1, zr_cp2, zr_tl, zr_tn, shq, List.contains_nil, List.contains_cons, Nat.reduceBEq, Bool.false_or, Bool.or_false, Bool.true_or, Bool.false_eq_true, if_false, if_true, true_and, and_true, List.set_cons_zero, List.set_cons_succ, List.length_cons, List.length_nil, Nat.reduceAdd, Nat.reduceLeDiff, Nat.le_refl, Nat.zero_le, true_or, or_true, zn_cl, ↓jj_Mo_law]
      have v1 : g1.2 = h.2 ∧ (∀ a, a ≠ 133 → (a < 138 ∨ 143 < a) → g1.1 a = h.1 a) ∧ (∀ k, (k < 9 ∨ 16 < k) → g1.1 133 k = h.1 133 k) := ⟨e1, fun a h1 _ => e2 a h1, fun k hk => e3 k (by omega) (by omega) (by omega) (by omega)⟩
      have lift : ∀ g : zm_M, zr_f3 g1 g → g.2 = h.2 ∧ (∀ a, a ≠ 133 → (a < 138 ∨ 143 < a) → g.1 a = h.1 a) ∧ (∀ k, (k < 9 ∨ 16 < k) → g.1 133 k = h.1 133 k) := fun g hf => ⟨hf.1.trans v1.1, fun a h1 h2 => (hf.2.1 a h1 h2).trans (v1.2.1 a h1 h2), fun k hk => (hf.2.2 k (by omega)).trans (v1.2.2 k hk)⟩
      have bad31 : ∀ (g : zm_M) (y : Nat × Nat) (l3 : Option zm_V), zr_f3 g1 g → g.1 133 11 = t_an y → t_en n (p_rul B.2 n 17 zl_0.1 zl_0.2).2.1 = .inl y → zm_W (zm_md m_Mo_law) (d + 9) TT R 31 [some (.inr (some 133)), some (.inl (nI n)), some (.inl 0), l3] [] g := by
        intro g y l3 hf h11 he
        have eD : D_law B L (nI n) = (t_an y, (0, B.2), L) := by
          unfold D_law
          rw [eT]
          dsimp only
          rw [he]
        rw [eD] at hR
        obtain ⟨w1, w2, w3⟩ := lift g hf
        obtain ⟨o1, o2⟩ := zOO_z3 hO w1 w2 w3
        have h11' : (zm_si g 133 8 0).1 133 11 = t_an y := by rw [zr_si1, if_neg (by omega)]; exact h11
        refine zm_go g_Mo_law [31, 95, 123] 30 (by decide +kernel) ok_Mo_law _ rfl ?_
        simp only [↓zq, ↓reduceIte, zr_si2, zr_sr1, zr_cp2, zr_tl, zr_tn, shq, List.contains_nil, List.contains_cons, Nat.reduceBEq, Bool.false_or, Bool.or_false, Bool.true_or, Bool.false_eq_true, if_false, if_true, true_and, and_true, List.set_cons_zero, List.set_cons_succ, List.length_cons, List.length_nil, Nat.reduceAdd, Nat.reduceLeDiff, Nat.le_refl, Nat.zero_le, true_or, or_true, zn_cl, ↓jj_Mo_law, h11']
        exact ⟨fun _ => ⟨fun z => (by first | exact absurd trivial z | exact absurd rfl z | exact absurd z (by decide)), fun _ => hR _ o1 o2⟩, fun z => (by first | exact absurd trivial z | exact absurd rfl z | exact absurd z (by decide))⟩
      have good71 : ∀ (g : zm_M) (r : zs_Rr) (p : Nat) (c : zl_c) (l3 : Option zm_V), zr_f3 g1 g → zr_r g.1 r → zr_c g.1 c → p_rul B.2 n 17 zl_0.1 zl_0.2 = (r, (.inr p, c)) → t_en n (p_rul B.2 n 17 zl_0.1 zl_0.2).2.1 = .inr p → zm_W (zm_md m_Mo_law) (d + 9) TT R 71 [some (.inr (some 133)), some (.inl (nI n)), some (.inl 1), l3] [] g := by
        intro g r p c l3 hf hr hc he he2
        have eD : D_law B L (nI n) = (nI r.1, (0, B.2), (r.1, r.2, c.2)) := by
          unfold D_law
          rw [eT]
          dsimp only
          rw [he2]
          dsimp only
          rw [he]
        obtain ⟨wL, wR⟩ := D_law_ok (B := B) (by omega) he2
        rw [he] at wL wR
        dsimp only at wL wR
        rw [eD] at hR
        dsimp only at hR
        obtain ⟨w1, w2, w3⟩ := lift g hf
        obtain ⟨o1, o2⟩ := zOO_z3 hO w1 w2 w3
        obtain ⟨g8, hg8⟩ : ∃ g8 : zm_M, g8 = zm_si g 133 8 0 := ⟨_, rfl⟩
        rw [← hg8] at o1 o2
        have r8 : zr_r g8.1 r := by
          rw [hg8]
          unfold zr_r
          rw [zr_si1, if_neg (by omega), show (zm_si g 133 8 0).1 140 = g.1 140 by funext j; rw [zr_si1, if_neg (by omega)], show (zm_si g 133 8 0).1 141 = g.1 141 by funext j; rw [zr_si1, if_neg (by omega)], show (zm_si g 133 8 0).1 142 = g.1 142 by funext j; rw [zr_si1, if_neg (by omega)], show (zm_si g 133 8 0).1 143 = g.1 143 by funext j; rw [zr_si1, if_neg (by omega)]]
          exact hr
        have c8 : zr_c g8.1 c := by
          rw [hg8]
          unfold zr_c
          rw [zr_si1, if_neg (by omega), show (zm_si g 133 8 0).1 138 = g.1 138 by funext j; rw [zr_si1, if_neg (by omega)]]
          exact hc
        have r16 := r8.2.1
        have cl240 := c8.2.1
        have fin : ∀ q : zm_M, q.2 = g8.2 → (∀ a, a ≠ 133 → (a < 144 ∨ 148 < a) → q.1 a = g8.1 a) → (∀ k, k ≠ 17 → q.1 133 k = g8.1 133 k) → q.1 133 17 = nI r.1 → (∀ k, k < c.1 → q.1 144 k = g8.1 138 k) → (∀ k, k < r.1 → q.1 145 k = g8.1 140 k ∧ q.1 146 k = g8.1 141 k ∧ q.1 147 k = g8.1 142 k ∧ q.1 148 k = g8.1 143 k) → R (some (.inl (nI r.1))) q := by
          intro q q2 qI q0 q17 q144 qr
          obtain ⟨c1, ⟨c3, c3w⟩, ⟨c5, c5w⟩, ⟨c6, c6w⟩, c7, c7w⟩ := o2
          refine hR q (o1.tr ⟨q2, fun a ha => qI a (by omega) (by omega)⟩) ⟨zO_of (by rw [q2]) (fun a ha => qI a (by omega) (by omega)) (fun k hk => q0 k (by omega)) c1, ⟨zo_B_of (q0 8 (by omega)) (qI 137 (by omega) (by omega)) c3, c3w⟩, ⟨⟨q17, fun j hj => ?_⟩, wL⟩, ⟨by rw [q0 0 (by omega)]; exact c6, c6w⟩, zo_K_of (fun a ha => qI a (by omega) (by omega)) (fun k hk => q0 k (by omega)) c7, c7w⟩
          have hj' : j < r.1 := hj
          obtain ⟨x1, x2, x3, x4⟩ := qr j hj'
          obtain ⟨y1, y2, y3, y4⟩ := r8.2.2 j hj'
          obtain ⟨_, _, _, t4, _, _⟩ := wR j hj'
          refine ⟨x1.trans y1, x2.trans y2, x3.trans y3, x4.trans y4, fun k hk => ?_⟩
          have hk' : k < (r.2 j).2.2.2 := hk
          rw [q144 k (by omega)]
          exact (c8.2.2 k (by omega)).1
        have loop2 : ∀ (j i : Nat) (q : zm_M), i + j = r.1 → q.2 = g8.2 → (∀ a, a ≠ 133 → (a < 144 ∨ 148 < a) → q.1 a = g8.1 a) → (∀ k, k ≠ 17 → q.1 133 k = g8.1 133 k) → q.1 133 17 = nI r.1 → (∀ k, k < c.1 → q.1 144 k = g8.1 138 k) → (∀ k, k < i → q.1 145 k = g8.1 140 k ∧ q.1 146 k = g8.1 141 k ∧ q.1 147 k = g8.1 142 k ∧ q.1 148 k = g8.1 143 k) → zm_W (zm_md m_Mo_law) (d + 9) TT R 123 [some (.inr (some 133)), some (.inl (nI n)), some (.inl 1), some (.inl (nI i))] [] q := by
          intro j
          induction j with
          | zero =>
            intro i q hi q2 qI q0 q17 q144 qr
            have : i = r.1 := by omega
            subst this
            have m16 : q.1 133 16 = nI r.1 := by rw [q0 16 (by omega)]; exact r8.1
            refine zm_go g_Mo_law [31, 95, 123] 30 (by decide +kernel) ok_Mo_law _ rfl ?_
            simp only [↓zq, ↓reduceIte, zr_si2, zr_sr1, zr_cp2, zr_tl, zr_tn, shq, List.contains_nil, List.contains_cons, Nat.reduceBEq, Bool.false_or, Bool.or_false, Bool.true_or, Bool.false_eq_true, if_false, if_true, true_and, and_true, List.set_cons_zero, List.set_cons_succ, List.length_cons, List.length_nil, Nat.reduceAdd, Nat.reduceLeDiff, Nat.le_refl, Nat.zero_le, true_or, or_true, zn_cl, ↓jj_Mo_law, m16]
            exact ⟨fun _ => fin q q2 qI q0 q17 q144 qr, fun z => absurd (Int32.le_refl _) z⟩
          | succ j ih =>
            intro i q hi q2 qI q0 q17 q144 qr
            have m16 : q.1 133 16 = nI r.1 := by rw [q0 16 (by omega)]; exact r8.1
            have pp : (q.2 133 20 = some 140 ∧ q.2 133 21 = some 141 ∧ q.2 133 22 = some 142 ∧ q.2 133 23 = some 143) ∧ (q.2 133 25 = some 145 ∧ q.2 133 26 = some 146 ∧ q.2 133 27 = some 147 ∧ q.2 133 28 = some 148) := by
              rw [q2]
              have := o2.1.1
              refine ⟨zp_20 this, ?_, ?_, ?_, ?_⟩ <;> simp only [this]
            have v1 : vp_in (nI i) 16 := vp_in_nI (by omega) (by decide)
            have c1 := nI_clamp (show i < 2 ^ 31 by omega)
            have g1' := nI_ge (show i < r.1 by omega) (by omega)
            refine zm_go g_Mo_law [31, 95, 123] 30 (by decide +kernel) ok_Mo_law _ rfl ?_
            simp only [↓zq, ↓reduceIte, zr_si2, zr_sr1, zr_cp2, zr_tl, zr_tn, shq, List.contains_nil, List.contains_cons, Nat.reduceBEq, Bool.false_or, Bool.or_false, Bool.true_or, Bool.false_eq_true, if_false, if_true, true_and, and_true, List.set_cons_zero, List.set_cons_succ, List.length_cons, List.length_nil, Nat.reduceAdd, Nat.reduceLeDiff, Nat.le_refl, Nat.zero_le, true_or, or_true, zn_cl, ↓jj_Mo_law, m16, pp, v1, c1, g1', nI_1]
            simp only [zr_si1, Nat.reduceEqDiff, false_and, if_false]
            simp only [not_false_eq_true, not_true_eq_false, false_imp_iff, true_imp_iff, forall_const, and_true, true_and, and_self, false_or, or_false, Int32.reduceLT, Int32.reduceLE, Int32.reduceSub, Int32.reduceAdd]
            refine ih (i + 1) _ (by omega) q2 (fun a h1 h2 => ?_) (fun k hk => ?_) ?_ (fun k hk => ?_) (fun k hk => ?_)
            · rw [← qI a h1 h2]
              funext t
              rw [zr_si1, if_neg (by omega), zr_si1, if_neg (by omega), zr_si1, if_neg (by omega), zr_si1, if_neg (by omega)]
            · rw [zr_si1, if_neg (by omega), zr_si1, if_neg (by omega), zr_si1, if_neg (by omega), zr_si1, if_neg (by omega)]
              exact q0 k hk
            · rw [zr_si1, if_neg (by omega), zr_si1, if_neg (by omega), zr_si1, if_neg (by omega), zr_si1, if_neg (by omega)]
              exact q17
            · rw [zr_si1, if_neg (by omega), zr_si1, if_neg (by omega), zr_si1, if_neg (by omega), zr_si1, if_neg (by omega)]
              exact q144 k hk
            · by_cases z : k = i
              · subst z
                rw [qI 140 (by omega) (by omega), qI 141 (by omega) (by omega), qI 142 (by omega) (by omega), qI 143 (by omega) (by omega)]
                refine ⟨?_, ?_, ?_, ?_⟩ <;> simp [zr_si1]
              · obtain ⟨x1, x2, x3, x4⟩ := qr k (by omega)
                refine ⟨?_, ?_, ?_, ?_⟩
                · rw [zr_si1, if_neg (by omega), zr_si1, if_neg (by omega), zr_si1, if_neg (by omega), zr_si1, if_neg (by omega)]; exact x1
                · rw [zr_si1, if_neg (by omega), zr_si1, if_neg (by omega), zr_si1, if_neg (by omega), zr_si1, if_neg (by omega)]; exact x2
                · rw [zr_si1, if_neg (by omega), zr_si1, if_neg (by omega), zr_si1, if_neg (by omega), zr_si1, if_neg (by omega)]; exact x3
                · rw [zr_si1, if_neg (by omega), zr_si1, if_neg (by omega), zr_si1, if_neg (by omega), zr_si1, if_neg (by omega)]; exact x4
        have loop1 : ∀ (j i : Nat) (q : zm_M), i + j = c.1 → q.2 = g8.2 → (∀ a, a ≠ 133 → a ≠ 144 → q.1 a = g8.1 a) → (∀ k, k ≠ 17 → q.1 133 k = g8.1 133 k) → q.1 133 17 = nI r.1 → (∀ k, k < i → q.1 144 k = g8.1 138 k) → zm_W (zm_md m_Mo_law) (d + 9) TT R 95 [some (.inr (some 133)), some (.inl (nI n)), some (.inl 1), some (.inl (nI i))] [] q := by
          intro j
          induction j with
          | zero =>
            intro i q hi q2 qI q0 q17 q144
            have : i = c.1 := by omega
            subst this
            have m14 : q.1 133 14 = nI c.1 := by rw [q0 14 (by omega)]; exact c8.1
            refine zm_go g_Mo_law [31, 95, 123] 30 (by decide +kernel) ok_Mo_law _ rfl ?_
            simp only [↓zq, ↓reduceIte, zr_si2, zr_sr1, zr_cp2, zr_tl, zr_tn, shq, List.contains_nil, List.contains_cons, Nat.reduceBEq, Bool.false_or, Bool.or_false, Bool.true_or, Bool.false_eq_true, if_false, if_true, true_and, and_true, List.set_cons_zero, List.set_cons_succ, List.length_cons, List.length_nil, Nat.reduceAdd, Nat.reduceLeDiff, Nat.le_refl, Nat.zero_le, true_or, or_true, zn_cl, ↓jj_Mo_law, m14]
            exact ⟨fun _ => loop2 r.1 0 q (by omega) q2 (fun a h1 h2 => qI a h1 (by omega)) q0 q17 q144 (fun k hk => absurd hk (Nat.not_lt_zero _)), fun z => absurd (Int32.le_refl _) z⟩
          | succ j ih =>
            intro i q hi q2 qI q0 q17 q144
            have m14 : q.1 133 14 = nI c.1 := by rw [q0 14 (by omega)]; exact c8.1
            have pp : q.2 133 24 = some 144 ∧ q.2 133 18 = some 138 := by
              rw [q2]
              have := o2.1.1
              refine ⟨?_, ?_⟩ <;> simp only [this]
            have v1 : vp_in (nI i) 260 := vp_in_nI (by omega) (by decide)
            have c1 := nI_clamp (show i < 2 ^ 31 by omega)
            have g1' := nI_ge (show i < c.1 by omega) (by omega)
            refine zm_go g_Mo_law [31, 95, 123] 30 (by decide +kernel) ok_Mo_law _ rfl ?_
            simp only [↓zq, ↓reduceIte, zr_si2, zr_sr1, zr_cp2, zr_tl, zr_tn, shq, List.contains_nil, List.contains_cons, Nat.reduceBEq, Bool.false_or, Bool.or_false, Bool.true_or, Bool.false_eq_true, if_false, if_true, true_and, and_true, List.set_cons_zero, List.set_cons_succ, List.length_cons, List.length_nil, Nat.reduceAdd, Nat.reduceLeDiff, Nat.le_refl, Nat.zero_le, true_or, or_true, zn_cl, ↓jj_Mo_law, m14, pp, v1, c1, g1', nI_1]
            simp only [not_false_eq_true, not_true_eq_false, false_imp_iff, true_imp_iff, forall_const, and_true, true_and, and_self, false_or, or_false, Int32.reduceLT, Int32.reduceLE, Int32.reduceSub, Int32.reduceAdd]
            refine ih (i + 1) _ (by omega) q2 (fun a h1 h2 => ?_) (fun k hk => ?_) ?_ (fun k hk => ?_)
            · rw [← qI a h1 h2]
              funext t
              rw [zr_si1, if_neg (fun z => h2 z.1)]
            · rw [zr_si1, if_neg (by omega)]
              exact q0 k hk
            · rw [zr_si1, if_neg (by omega)]
              exact q17
            · rw [zr_si1]
              by_cases z : k = i
              · rw [if_pos ⟨rfl, z⟩, z, qI 138 (by omega) (by omega)]
              · rw [if_neg (fun t => z t.2)]
                exact q144 k (by omega)
        have m16 : (zm_si g 133 8 0).1 133 16 = nI r.1 := by rw [← hg8]; exact r8.1
        refine zm_go g_Mo_law [31, 95, 123] 30 (by decide +kernel) ok_Mo_law _ rfl ?_
        simp only [↓zq, ↓reduceIte, zr_si2, zr_sr1, zr_cp2, zr_tl, zr_tn, shq, List.contains_nil, List.contains_cons, Nat.reduceBEq, Bool.false_or, Bool.or_false, Bool.true_or, Bool.false_eq_true, if_false, if_true, true_and, and_true, List.set_cons_zero, List.set_cons_succ, List.length_cons, List.length_nil, Nat.reduceAdd, Nat.reduceLeDiff, Nat.le_refl, Nat.zero_le, true_or, or_true, zn_cl, ↓jj_Mo_law, m16]
        refine ⟨fun _ => ?_, fun z => absurd z (by decide)⟩
        rw [← hg8]
        refine loop1 c.1 0 _ (by omega) rfl (fun a h1 h2 => ?_) (fun k hk => ?_) ?_ (fun k hk => absurd hk (Nat.not_lt_zero _))
        · funext t
          rw [zr_si1, if_neg (fun z => h1 z.1)]
        · rw [zr_si1, if_neg (fun z => hk z.2)]
        · rw [zr_si1, if_pos ⟨rfl, rfl⟩]
      have good31 : ∀ (f : Nat) (r : zs_Rr) (p : Nat) (c : zl_c) (g : zm_M) (l3 : Option zm_V), r.1 + f = 17 → r.1 ≤ 16 → c.1 ≤ p → zr_f3 g1 g → zr_b g B.2 n p c → zr_r g.1 r → p_rul B.2 n 17 zl_0.1 zl_0.2 = (if t_c B.2 n (.inr p) = 59 then p_rul B.2 n f r (.inr (p + 1), c) else (r, (.inr p, c))) → zm_W (zm_md m_Mo_law) (d + 9) TT R 31 [some (.inr (some 133)), some (.inl (nI n)), some (.inl 1), l3] [] g := by
        intro f
        induction f with
        | zero => intro r p c g l3 h1 h2; omega
        | succ f ih =>
          intro r p c g l3 h1 h2 hc hf hs hr he
          obtain ⟨_, s2, _, _, s5, s6⟩ := id hs.2.1
          refine zm_go g_Mo_law [31, 71, 95, 123] 30 (by decide +kernel) ok_Mo_law _ rfl ?_
          simp only [↓zq, ↓reduceIte, zr_si2, zr_sr1, zr_cp2, zr_tl, zr_tn, shq, List.contains_nil, List.contains_cons, Nat.reduceBEq, Bool.false_or, Bool.or_false, Bool.true_or, Bool.false_eq_true, if_false, if_true, true_and, and_true, List.set_cons_zero, List.set_cons_succ, List.length_cons, List.length_nil, Nat.reduceAdd, Nat.reduceLeDiff, Nat.le_refl, Nat.zero_le, true_or, or_true, zn_cl, ↓jj_Mo_law, s2, s5]
          refine ⟨fun z => absurd z (by decide), fun _ => ⟨fun z => ?_, fun z => ?_⟩⟩
          · have pn : ¬ p < n := fun q => nI_ge q (by omega) z
            rw [if_neg (by rw [t_c_r, if_neg pn]; decide)] at he
            refine good71 g r p c _ hf hr hs.2.2 he ?_
            rw [he, t_en_r, if_neg pn]
          · have pn : p < n := by
              rcases Nat.lt_or_ge p n with q | q
              · exact q
              · exact absurd (nI_le q (by omega)) z
            refine k_Mo_takes (c := 59) hs.2.1 (by decide) (fun y hy g2 f2 h11 => ?_) (fun hy g2 f2 s2 => ?_)
            · simp only [↓zq, ↓reduceIte, zr_si2, zr_sr1, zr_cp2, zr_tl, zr_tn, shq, List.contains_nil, List.contains_cons, Nat.reduceBEq, Bool.false_or, Bool.or_false, Bool.true_or, Bool.false_eq_true, if_false, if_true, true_and, and_true, List.set_cons_zero, List.set_cons_succ, List.length_cons, List.length_nil, Nat.reduceAdd, Nat.reduceLeDiff, Nat.le_refl, Nat.zero_le, true_or, or_true, zn_cl, ↓jj_Mo_law]
              refine ⟨fun _ => ?_, fun z => (by first | exact absurd trivial z | exact absurd rfl z | exact absurd z (by decide))⟩
              refine bad31 g2 y _ (hf.tr f2.f3) h11 ?_
              unfold t_tk at hy
              split at hy
              · cases hy
              · next q =>
                rw [if_neg q] at he
                rw [he, t_en_r, if_pos pn]
                exact hy
            · simp only [↓zq, ↓reduceIte, zr_si2, zr_sr1, zr_cp2, zr_tl, zr_tn, shq, List.contains_nil, List.contains_cons, Nat.reduceBEq, Bool.false_or, Bool.or_false, Bool.true_or, Bool.false_eq_true, if_false, if_true, true_and, and_true, List.set_cons_zero, List.set_cons_succ, List.length_cons, List.length_nil, Nat.reduceAdd, Nat.reduceLeDiff, Nat.le_refl, Nat.zero_le, true_or, or_true, zn_cl, ↓jj_Mo_law]
              refine ⟨fun z => absurd z (by decide), fun _ => ?_⟩
              have hc59 : t_c B.2 n (.inr p) = 59 := by
                unfold t_tk at hy
                split at hy
                · next q => exact q
                · cases hy
              rw [if_pos hc59] at he
              have hf2 := hf.tr f2.f3
              have b2 : zr_b g2 B.2 n (p + 1) c := by
                refine ⟨by rw [f2.1]; exact hs.1, s2, ?_⟩
                unfold zr_c
                rw [f2.2.2 14 (by omega) (by omega) (by omega), f2.2.1 138 (by omega)]
                exact hs.2.2
              refine k_Mo_readsRule (r := r) (by omega) (by omega) b2 (zr_r_f2 f2.r hr) (fun y hy g3 f3 h11 => ?_) (fun p' hp' g3 f3 s3 r3 => ?_)
              · simp only [↓zq, ↓reduceIte, zr_si2, zr_sr1, zr_cp2, zr_tl, zr_tn, shq, List.contains_nil, List.contains_cons, Nat.reduceBEq, Bool.false_or, Bool.or_false, Bool.true_or, Bool.false_eq_true, if_false, if_true, true_and, and_true, List.set_cons_zero, List.set_cons_succ, List.length_cons, List.length_nil, Nat.reduceAdd, Nat.reduceLeDiff, Nat.le_refl, Nat.zero_le, true_or, or_true, zn_cl, ↓jj_Mo_law]
                refine ⟨fun _ => ?_, fun z => (by first | exact absurd trivial z | exact absurd rfl z | exact absurd z (by decide))⟩
                refine bad31 g3 y _ (hf2.tr f3) h11 ?_
                rw [he, p_rul_s B.2 n f r, hy, if_neg (by rw [t_c_d]; decide)]
                rfl
              · simp only [↓zq, ↓reduceIte, zr_si2, zr_sr1, zr_cp2, zr_tl, zr_tn, shq, List.contains_nil, List.contains_cons, Nat.reduceBEq, Bool.false_or, Bool.or_false, Bool.true_or, Bool.false_eq_true, if_false, if_true, true_and, and_true, List.set_cons_zero, List.set_cons_succ, List.length_cons, List.length_nil, Nat.reduceAdd, Nat.reduceLeDiff, Nat.le_refl, Nat.zero_le, true_or, or_true, zn_cl, ↓jj_Mo_law]
                refine ⟨fun z => absurd z (by decide), fun _ => ?_⟩
                obtain ⟨y1, y2, y3, y4, y5, y6, y7⟩ := p_rule_ok (T := B.2) (m := r.1) (by omega) (show p + 1 ≤ n from pn) (show c.1 ≤ p + 1 by omega) hp'
                have era : (p_ra B.2 n r (.inr (p + 1), c)).1 = r.1 + 1 := by
                  unfold p_ra
                  rw [if_pos y1]
                refine ih _ p' _ g3 _ (by rw [era]; omega) (by rw [era]; omega) y5 (hf2.tr f3) s3 r3 ?_
                rw [he, p_rul_s B.2 n f r, hp']
                rfl
      have b0 : zr_b g1 B.2 n 0 zl_0.2.2 := ⟨by rw [e1]; exact hp, s1, e4, by decide, fun k hk => absurd hk (Nat.not_lt_zero _)⟩
      have r0 : zr_r g1.1 zl_0.1 := ⟨e5, by decide, fun q hq => absurd hq (Nat.not_lt_zero _)⟩
      refine k_Mo_readsRule (p := 0) (r := zl_0.1) (c := zl_0.2.2) (by omega) (Nat.le_refl 0) b0 r0 (fun y hy g3 f3 h11 => ?_) (fun p' hp' g3 f3 s3 r3 => ?_)
      · simp only [↓zq, ↓reduceIte, zr_si2, zr_sr1, zr_cp2, zr_tl, zr_tn, shq, List.contains_nil, List.contains_cons, Nat.reduceBEq, Bool.false_or, Bool.or_false, Bool.true_or, Bool.false_eq_true, if_false, if_true, true_and, and_true, List.set_cons_zero, List.set_cons_succ, List.length_cons, List.length_nil, Nat.reduceAdd, Nat.reduceLeDiff, Nat.le_refl, Nat.zero_le, true_or, or_true, zn_cl, ↓jj_Mo_law]
        refine bad31 g3 y _ f3 h11 ?_
        have hy' : p_r3 B.2 n zl_0.1.1 zl_0.2 = .inl y := hy
        rw [p_rul_s B.2 n 16 zl_0.1 zl_0.2, hy', if_neg (by rw [t_c_d]; decide)]
        rfl
      · simp only [↓zq, ↓reduceIte, zr_si2, zr_sr1, zr_cp2, zr_tl, zr_tn, shq, List.contains_nil, List.contains_cons, Nat.reduceBEq, Bool.false_or, Bool.or_false, Bool.true_or, Bool.false_eq_true, if_false, if_true, true_and, and_true, List.set_cons_zero, List.set_cons_succ, List.length_cons, List.length_nil, Nat.reduceAdd, Nat.reduceLeDiff, Nat.le_refl, Nat.zero_le, true_or, or_true, zn_cl, ↓jj_Mo_law]
        obtain ⟨y1, y2, y3, y4, y5, y6, y7⟩ := p_rule_ok (T := B.2) (m := zl_0.1.1) (c := zl_0.2.2) (by omega) (Nat.zero_le n) (Nat.le_refl _) hp'
        have era : (p_ra B.2 n zl_0.1 (.inr 0, zl_0.2.2)).1 = 1 := by
          unfold p_ra
          rw [if_pos y1]
          rfl
        refine good31 16 _ p' _ g3 _ (by rw [era]) (by rw [era]; decide) y5 f3 s3 r3 ?_
        have hp2 : p_r3 B.2 n zl_0.1.1 zl_0.2 = .inr p' := hp'
        rw [p_rul_s B.2 n 16 zl_0.1 zl_0.2, hp2]
        rfl
    · subst em
      exact z3 (nI_le m3 (by omega))
  · simp only [↓zq, ↓reduceIte, zr_si2, zr_sr1, zr_cp2, zr_tl, zr_tn, shq, List.contains_nil, List.contains_cons, Nat.reduceBEq, Bool.false_or, Bool.or_false, Bool.true_or, Bool.false_eq_true, if_false, if_true, true_and, and_true, List.set_cons_zero, List.set_cons_succ, List.length_cons, List.length_nil, Nat.reduceAdd, Nat.reduceLeDiff, Nat.le_refl, Nat.zero_le, true_or, or_true, zn_cl, ↓jj_Mo_law]
    refine ⟨fun _ => bad (fun m em m1 m2 m3 => ?_), fun z => (by first | exact absurd trivial z | exact absurd rfl z | exact absurd z (by decide))⟩
    subst em
    rcases z with z | z
    · exact nI_nlt (b := 1) m1 (by omega) z
    · exact nI_nlt (a := 240) m2 (by omega) z
