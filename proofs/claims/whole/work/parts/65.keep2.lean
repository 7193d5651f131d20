/-! keep, undo (class) -/
theorem zk_shfK {P : Nat → Nat → Option Nat} (hp : zp_ok P) : (zm_sh TT 99).1 = 10 ∧ zm_sh TT (99 + 1) = (2, 8) ∧ P 99 0 = some (99 + 1) ∧ ∀ s, s < 8 → P (99 + 1) s = some (101 + 4 * s) ∧ zk_sum P (101 + 4 * s) := by
  refine ⟨rfl, rfl, by simp only [hp], fun s hs => ⟨?_, zk_sumsK hp hs⟩⟩
  rcases (show s = 0 ∨ s = 1 ∨ s = 2 ∨ s = 3 ∨ s = 4 ∨ s = 5 ∨ s = 6 ∨ s = 7 by omega) with rfl | rfl | rfl | rfl | rfl | rfl | rfl | rfl <;> simp only [hp, Nat.reduceMul, Nat.reduceAdd]
theorem zk_shfC {P : Nat → Nat → Option Nat} {pi : Nat → Nat} (hp : zp_ok P) (hP : zc_P P pi) : (zm_sh TT 36).1 = 10 ∧ zm_sh TT (36 + 1) = (2, 8) ∧ P 36 0 = some (36 + 1) ∧ ∀ s, s < 8 → P (36 + 1) s = some (38 + 4 * pi s) ∧ zk_sum P (38 + 4 * pi s) := by
  refine ⟨rfl, rfl, by simp only [hp], fun s hs => ⟨(hP.1 s hs).1, zk_sums hp (hP.1 s hs).2⟩⟩
set_option maxHeartbeats 4000000 in
set_option maxRecDepth 100000 in
theorem k_KS_keep {d : Nat} {h : zm_M} {R : zm_R} {pi : Nat → Nat} {w : Nat} {F : zs_F} {sp : Nat → Nat} {U : zs_U} {Q : zs_Q} {B : zs_B} {L : zs_L} {x : Nat} {K : zs_K} (hC : zCC h pi w F sp U Q B L x K) (hR : ∀ h' : zm_M, zc_own h h' → zCC h' pi w F sp U Q B L x (true, F.1, x, true, U) → R (some (.inl (nI F.1))) h') : zm_C (d + 4) TT m_KS_keep [.inr (some 0)] h R := by
  obtain ⟨p0, p1, p2, p4, p5, p6, p7, p9, p10, p11, p12, p14⟩ := zC_p hC.1
  have fs := hC.1.2.2.1.1.1
  have u8 := hC.1.2.2.2.2.1.2.1
  obtain ⟨hw, pw⟩ := zc_W_or hC.2.2.2.1.1
  obtain ⟨ex, hx⟩ := hC.2.2.2.2.1
  have pi8 : ∀ s, s < 8 → pi s < 8 := fun s hs => (hC.1.2.1.1 s hs).2
  refine st_KS_keep [] 30 ?_
  simp only [↓zq, ↓reduceIte, zr_si2, zr_sr1, zr_cp2, zr_tl, zr_tn, shq, List.contains_nil, List.contains_cons, Nat.reduceBEq, Bool.false_or, Bool.or_false, Bool.true_or, Bool.false_eq_true, if_false, if_true, true_and, and_true, List.set_cons_zero, List.set_cons_succ, List.length_cons, List.length_nil, Nat.reduceAdd, Nat.reduceLeDiff, Nat.le_refl, Nat.zero_le, true_or, or_true, zn_cl, ↓jj_KS_keep, p5, fs, p6, p14]
  simp only [zr_si1, Nat.reduceEqDiff, and_false, false_and, if_false, ex]
  obtain ⟨g, hg⟩ : ∃ g : zm_M, g = zm_si (zm_si h 0 15 (nI F.1)) 0 16 (nI x) := ⟨_, rfl⟩
  rw [← hg]
  have g2 : g.2 = h.2 := by subst hg; rfl
  have gI : ∀ a, a ≠ 0 → g.1 a = h.1 a := fun a ha => by
    subst hg
    funext j
    simp only [zr_si1, ha, false_and, if_false]
  have g0 : ∀ k, k ≠ 15 → k ≠ 16 → g.1 0 k = h.1 0 k := fun k h1 h2 => by
    subst hg
    simp only [zr_si1, h1, h2, and_false, if_false]
  have g15 : g.1 0 15 = nI F.1 := by subst hg; simp [zr_si1]
  have g16 : g.1 0 16 = nI x := by subst hg; simp [zr_si1]
  clear hg
  have kU := zk_shfC (P := g.2) (pi := pi) (by rw [g2]; exact hC.1.1) (by rw [g2]; exact hC.1.2.1)
  refine k_Shelf_copyFrom (t := 99) (u := 36) (n := U.1) (ad := fun s => 101 + 4 * s) (bd := fun s => 38 + 4 * pi s) (by rw [g2]; exact zk_shfK hC.1.1) ⟨kU.1, kU.2.1, kU.2.2.1, kU.2.2.2, by rw [gI 36 (by omega)]; exact hC.1.2.2.2.2.1.1.1, u8⟩ (by omega) (fun s s' _ _ h => by omega) (fun s s' hs hs' => by have := pi8 s hs; omega) (fun s hs => by have := pi8 s hs; omega) (fun g' e1 e2 e3 e4 => ?_)
  have e3' : ∀ c, c < 99 ∨ 132 < c → g'.1 c = g.1 c := fun c hc => e3 c (by omega) (fun s hs => by omega)
  have g15' : g'.1 0 15 = nI F.1 := by rw [e3' 0 (by omega)]; exact g15
  simp only [↓zq, ↓reduceIte, zr_si2, zr_sr1, zr_cp2, zr_tl, zr_tn, shq, List.contains_nil, List.contains_cons, Nat.reduceBEq, Bool.false_or, Bool.or_false, Bool.true_or, Bool.false_eq_true, if_false, if_true, true_and, and_true, List.set_cons_zero, List.set_cons_succ, List.length_cons, List.length_nil, Nat.reduceAdd, Nat.reduceLeDiff, Nat.le_refl, Nat.zero_le, true_or, or_true, zn_cl, ↓jj_KS_keep]
  simp only [zr_si1, Nat.reduceEqDiff, and_false, false_and, if_false, g15']
  refine hR _ ?_ ?_
  · intro a ha
    refine ⟨?_, by rw [zr_si2, e1, g2]⟩
    funext j
    rw [zr_si1, if_neg (by omega), e3' a (by omega), gI a (by omega)]
  · have q2 : (zm_si g' 0 17 0).2 = h.2 := by rw [zr_si2, e1, g2]
    have qI : ∀ a, a ≠ 0 → (a < 99 ∨ 132 < a) → (zm_si g' 0 17 0).1 a = h.1 a := fun a h1 h2 => by
      funext j
      rw [zr_si1, if_neg (by omega), e3' a h2, gI a h1]
    have q0 : ∀ k, k < 15 → (zm_si g' 0 17 0).1 0 k = h.1 0 k := fun k hk => by
      rw [zr_si1, if_neg (by omega), e3' 0 (by omega), g0 k (by omega) (by omega)]
    obtain ⟨c1, c2, ⟨c3, c3w⟩, ⟨c4, c5, c5w⟩, ⟨c6, c6w⟩, c7, c7w⟩ := hC
    refine ⟨zC_of (fun a _ => by rw [q2]) (fun a ha => qI a (by omega) (by omega)) (q0 8 (by omega)) c1, zc_N_of (qI 93 (by omega) (by omega)) c2, ⟨zc_B_of (by rw [qI 1 (by omega) (by omega)]) (qI 2 (by omega) (by omega)) c3, c3w⟩, ⟨zc_W_of (by rw [q2]) (by rw [q2]) c4, zc_L_of (fun a h1 h2 => qI a (by omega) (by omega)) (by rw [qI w (by omega) (by omega)]) c5, c5w⟩, ⟨?_, c6w⟩, ⟨fun z => Bool.noConfusion z, fun _ => ⟨?_, ?_, ?_, fun _ => ⟨?_, fun s hs => ?_⟩⟩⟩, fun _ => ⟨Nat.le_refl _, c6w, fun _ => c1.2.2.2.2.1.2⟩⟩
    · rw [q0 13 (by omega)]; exact c6
    · rw [zr_si1, if_neg (by omega)]; exact g15'
    · rw [zr_si1, if_neg (by omega), e3' 0 (by omega)]; exact g16
    · rw [zr_si1, if_pos ⟨rfl, rfl⟩]; rfl
    · rw [zr_si1, if_neg (by omega)]; exact e2
    · have hs' : s < U.1 := hs
      have hY := e4 s hs' sp F (U.2 s) (by
        have hY := c1.2.2.2.2.1.1.2 s hs'
        dsimp only at hY ⊢
        unfold zc_Y zc_R at hY ⊢
        rw [gI _ (by omega), gI _ (by omega), gI _ (by omega), gI _ (by omega)]
        exact hY)
      dsimp only at hY ⊢
      unfold zc_Y zc_R at hY ⊢
      simp only [zr_si1, show ∀ n, ¬ (101 + 4 * s + n = 0) from fun n => by omega, show ¬ (101 + 4 * s = 0) by omega, show ¬ (101 + 4 * s + 1 + 1 = 0) by omega, show ¬ (101 + 4 * s + 1 + 2 = 0) by omega, false_and, if_false]
      exact hY
def D_undo (F : zs_F) (U : zs_U) (x : Nat) (K : zs_K) : Int32 × zs_F × zs_U × Nat := if K.1 = true then (1, (K.2.1, F.2), if K.2.2.2.1 = true then K.2.2.2.2 else (0, fun _ _ => 0), K.2.2.1) else (0, F, U, x)
set_option maxHeartbeats 4000000 in
set_option maxRecDepth 100000 in
theorem k_KS_undo {d : Nat} {h : zm_M} {R : zm_R} {pi : Nat → Nat} {w : Nat} {F : zs_F} {sp : Nat → Nat} {U : zs_U} {Q : zs_Q} {B : zs_B} {L : zs_L} {x : Nat} {K : zs_K} (hC : zCC h pi w F sp U Q B L x K) (hR : ∀ h' : zm_M, zc_own h h' → zCC h' pi w (D_undo F U x K).2.1 sp (D_undo F U x K).2.2.1 Q B L (D_undo F U x K).2.2.2 K → R (some (.inl (D_undo F U x K).1)) h') : zm_C (d + 4) TT m_KS_undo [.inr (some 0)] h R := by
  obtain ⟨p0, p1, p2, p4, p5, p6, p7, p9, p10, p11, p12, p14⟩ := zC_p hC.1
  obtain ⟨hw, pw⟩ := zc_W_or hC.2.2.2.1.1
  have pi8 : ∀ s, s < 8 → pi s < 8 := fun s hs => (hC.1.2.1.1 s hs).2
  have pinj := hC.1.2.1.2
  have hK := hC.2.2.2.2.2.1
  have hKw := hC.2.2.2.2.2.2
  have f240 := hC.1.2.2.1.2.1
  refine st_KS_undo [] 30 ?_
  by_cases hk : K.1 = true
  · obtain ⟨k1, k2, k3, k4⟩ := hK.2 hk
    obtain ⟨w1, w2, w3⟩ := hKw hk
    have eD : D_undo F U x K = (1, (K.2.1, F.2), if K.2.2.2.1 = true then K.2.2.2.2 else (0, fun _ _ => 0), K.2.2.1) := if_pos hk
    rw [eD] at hR
    dsimp only at hR
    have wF : zw_F (K.2.1, F.2) := ⟨by omega, fun f hf => hC.1.2.2.1.2.2 f (Nat.lt_of_lt_of_le hf w1)⟩
    simp only [↓zq, ↓reduceIte, zr_si2, zr_sr1, zr_cp2, zr_tl, zr_tn, shq, List.contains_nil, List.contains_cons, Nat.reduceBEq, Bool.false_or, Bool.or_false, Bool.true_or, Bool.false_eq_true, if_false, if_true, true_and, and_true, List.set_cons_zero, List.set_cons_succ, List.length_cons, List.length_nil, Nat.reduceAdd, Nat.reduceLeDiff, Nat.le_refl, Nat.zero_le, true_or, or_true, zn_cl, ↓jj_KS_undo, p5, p6, p14, k1]
    simp only [zr_si1, Nat.reduceEqDiff, and_false, false_and, if_false, k2, k3]
    obtain ⟨g, hg⟩ : ∃ g : zm_M, g = zm_si (zm_si h 30 2 (nI K.2.1)) 0 13 (nI K.2.2.1) := ⟨_, rfl⟩
    rw [← hg]
    have g2 : g.2 = h.2 := by subst hg; rfl
    have gI : ∀ a, a ≠ 0 → a ≠ 30 → g.1 a = h.1 a := fun a ha hb => by
      subst hg
      funext j
      simp only [zr_si1, ha, hb, false_and, if_false]
    have g0 : ∀ k, k ≠ 13 → g.1 0 k = h.1 0 k := fun k h1 => by
      subst hg
      simp only [zr_si1, h1, show ¬ (0 : Nat) = 30 by decide, false_and, and_false, if_false]
    have g13 : g.1 0 13 = nI K.2.2.1 := by subst hg; simp [zr_si1]
    have g30 : g.1 30 2 = nI K.2.1 := by subst hg; simp [zr_si1]
    clear hg
    obtain ⟨c1, c2, ⟨c3, c3w⟩, ⟨c4, c5, c5w⟩, ⟨c6, c6w⟩, c7, c7w⟩ := hC
    have rest : ∀ (g' : zm_M) (U' : zs_U), g'.2 = h.2 → (∀ a, (a ≠ 0 ∧ a ≠ 30 ∧ (a < 36 ∨ 69 < a)) → g'.1 a = h.1 a) → g'.1 0 = g.1 0 → g'.1 30 2 = nI K.2.1 → g'.1 36 1 = nI U'.1 → (∀ s, s < U'.1 → zc_Y g'.1 sp (K.2.1, F.2) (38 + 4 * pi s) (U'.2 s)) → zw_U K.2.1 U' → zc_own h g' ∧ zCC g' pi w (K.2.1, F.2) sp U' Q B L K.2.2.1 K := by
      intro g' U' e2 eI e0 e30 e36 eY eW
      refine ⟨fun a ha => ⟨eI a (by omega), by rw [e2]⟩, ⟨by rw [e2]; exact c1.1, by rw [e2]; exact c1.2.1, ⟨⟨e30, fun f hf => ?_⟩, wF⟩, ⟨?_, c1.2.2.2.1.2⟩, ⟨⟨e36, eY⟩, eW⟩, ⟨?_, fun hq => ?_⟩, c1.2.2.2.2.2.2⟩, zc_N_of (eI 93 (by omega)) c2, ⟨zc_B_of (by rw [eI 1 (by omega)]) (eI 2 (by omega)) c3, c3w⟩, ⟨zc_W_of (by rw [e2]) (by rw [e2]) c4, zc_L_of (fun a h1 h2 => eI a (by omega)) (by rw [eI w (by omega)]) c5, c5w⟩, ⟨by rw [e0]; exact g13, w2⟩, ?_, fun z => ⟨Nat.le_refl _, (c7w z).2⟩⟩
      · rw [eI 31 (by omega), eI 32 (by omega)]
        exact c1.2.2.1.1.2 f (Nat.lt_of_lt_of_le hf w1)
      · unfold zc_S
        rw [eI 29 (by omega)]
        exact c1.2.2.2.1.1
      · rw [e0, g0 8 (by omega)]
        exact c1.2.2.2.2.2.1.1
      · obtain ⟨q1, q2⟩ := c1.2.2.2.2.2.1.2 hq
        refine ⟨zc_R_fr q1 (eI _ (by omega)) (eI _ (by omega)), ?_⟩
        rw [eI 70 (by omega)]
        exact q2
      · refine zc_K_F (F := F) (n := F.1) (fun f _ => rfl) c7w (zc_K_of (fun a h1 h2 => eI a (by omega)) (fun k h1 h2 => by rw [e0, g0 k (by omega)]) c7w c7)
    refine ⟨fun _ => ?_, fun z => absurd (nI_pos' (by omega)) z⟩
    by_cases hs : K.2.2.2.1 = true
    · rw [if_pos hs] at hR ⊢
      refine ⟨fun _ => ?_, fun z => (by first | exact absurd trivial z | exact absurd rfl z | exact absurd z (by decide))⟩
      obtain ⟨u1, u2⟩ := k4 hs
      have kU := zk_shfK (P := g.2) (by rw [g2]; exact c1.1)
      refine k_Shelf_copyFrom (t := 36) (u := 99) (n := K.2.2.2.2.1) (bd := fun s => 101 + 4 * s) (ad := fun s => 38 + 4 * pi s) (by rw [g2]; exact zk_shfC c1.1 c1.2.1) ⟨kU.1, kU.2.1, kU.2.2.1, kU.2.2.2, by rw [gI 99 (by omega) (by omega)]; exact u1, (w3 hs).1⟩ (by omega) (fun s s' h1 h2 h => by have := pi8 s h1; have := pi8 s' h2; have : pi s ≠ pi s' := fun q => h (pinj s s' h1 h2 q); omega) (fun s s' h1 h2 => by have := pi8 s' h2; omega) (fun s h1 => by have := pi8 s h1; omega) (fun g' e1 e2 e3 e4 => ?_)
      have e3' : ∀ c, c < 36 ∨ 69 < c → g'.1 c = g.1 c := fun c hc => e3 c (by omega) (fun s hs => by have := pi8 s hs; omega)
      simp only [↓zq, ↓reduceIte, zr_si2, zr_sr1, zr_cp2, zr_tl, zr_tn, shq, List.contains_nil, List.contains_cons, Nat.reduceBEq, Bool.false_or, Bool.or_false, Bool.true_or, Bool.false_eq_true, if_false, if_true, true_and, and_true, List.set_cons_zero, List.set_cons_succ, List.length_cons, List.length_nil, Nat.reduceAdd, Nat.reduceLeDiff, Nat.le_refl, Nat.zero_le, true_or, or_true, zn_cl, ↓jj_KS_undo]
      have yY : ∀ s, s < K.2.2.2.2.1 → zc_Y g'.1 sp (K.2.1, F.2) (38 + 4 * pi s) (K.2.2.2.2.2 s) := by
        intro s hs
        have hY := u2 s hs
        dsimp only at hY
        refine zc_Y_F (F := F) (fun f _ => rfl) (e4 s hs sp F _ ?_)
        unfold zc_Y zc_R at hY ⊢
        rw [gI _ (by omega) (by omega), gI _ (by omega) (by omega), gI _ (by omega) (by omega), gI _ (by omega) (by omega)]
        exact hY
      obtain ⟨o, z⟩ := rest g' K.2.2.2.2 (e1.trans g2) (fun a ha => (e3' a (by omega)).trans (gI a (by omega) (by omega))) (e3' 0 (by omega)) (by rw [e3' 30 (by omega)]; exact g30) e2 yY (w3 hs)
      exact hR g' o z
    · rw [if_neg hs] at hR ⊢
      refine ⟨fun z => absurd z (by decide), fun _ => ?_⟩
      obtain ⟨o, z⟩ := rest (zm_si g 36 1 0) (0, fun _ _ => 0) g2 (fun a ha => by funext j; rw [zr_si1, if_neg (by omega), gI a (by omega) (by omega)]) (by funext j; rw [zr_si1, if_neg (by omega)]) (by rw [zr_si1, if_neg (by omega)]; exact g30) (by rw [zr_si1, if_pos ⟨rfl, rfl⟩]; rfl) (fun s hs => absurd hs (Nat.not_lt_zero _)) ⟨Nat.zero_le _, fun s hs => absurd hs (Nat.not_lt_zero _)⟩
      exact hR _ o z
  · have k1 := hK.1 (by simpa using hk)
    have eD : D_undo F U x K = (0, F, U, x) := if_neg hk
    rw [eD] at hR
    simp only [↓zq, ↓reduceIte, zr_si2, zr_sr1, zr_cp2, zr_tl, zr_tn, shq, List.contains_nil, List.contains_cons, Nat.reduceBEq, Bool.false_or, Bool.or_false, Bool.true_or, Bool.false_eq_true, if_false, if_true, true_and, and_true, List.set_cons_zero, List.set_cons_succ, List.length_cons, List.length_nil, Nat.reduceAdd, Nat.reduceLeDiff, Nat.le_refl, Nat.zero_le, true_or, or_true, zn_cl, ↓jj_KS_undo, k1]
    exact ⟨fun z => absurd z (by decide), fun _ => hR h (zc_own.rf h) hC⟩
