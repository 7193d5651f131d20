/-! shape (class) -/
def t_an (x : Nat × Nat) : Int32 := -1000 * nI x.1 - nI x.2
/-- a text of v bytes, at most m, that there is -/
def zs_tx (B : zs_B) (v : Int32) (m : Nat) : Option Nat := match zs_ix v (m + 1) with
  | none => none
  | some n => if n = 0 ∨ B.1 < n then none else some n
theorem zs_tx_of {B : zs_B} {n m : Nat} (h1 : 1 ≤ n) (h2 : n ≤ m) (h3 : n ≤ B.1) (hm : m < 1000) : zs_tx B (nI n) m = some n := by
  unfold zs_tx
  rw [zs_ix_of (by omega) (by omega)]
  dsimp only
  rw [if_neg (by omega)]
theorem zs_tx_no {B : zs_B} {v : Int32} {m : Nat} (hm : m < 1000) (h : ∀ n, v = nI n → 1 ≤ n → n ≤ m → n ≤ B.1 → False) : zs_tx B v m = none := by
  unfold zs_tx
  rcases zs_cas v (m + 1) (by omega) with ⟨n, hn, rfl⟩ | hno
  · rw [zs_ix_of hn (by omega)]
    dsimp only
    rw [if_pos]
    by_cases z : n = 0 ∨ B.1 < n
    · exact z
    · exact (h n rfl (by omega) (by omega) (by omega)).elim
  · rw [zs_ix_no hno]
def zq_f (h h' : zm_M) : Prop := h'.2 = h.2 ∧ ∀ a, a ≠ 1 → (a < 15 ∨ 18 < a) → h'.1 a = h.1 a
theorem zq_f.tr {h h' h'' : zm_M} (a : zq_f h h') (b : zq_f h' h'') : zq_f h h'' := ⟨b.1.trans a.1, fun x h1 h2 => (b.2 x h1 h2).trans (a.2 x h1 h2)⟩
theorem zr_f.q {h h' : zm_M} (a : zr_f h h') : zq_f h h' := ⟨a.1, a.2.1⟩
theorem zq_f.s {h h' : zm_M} (a : zq_f h h') (k : Nat) (x : Int32) : zq_f h (zm_si h' 1 k x) := ⟨a.1, fun q h1 h2 => by funext j; rw [zr_si1, if_neg (fun z => h1 z.1), a.2 q h1 h2]⟩
theorem zq_f.own {h h' : zm_M} (a : zq_f h h') : zc_own h h' := fun q hq => ⟨a.2 q (by omega) (by omega), by rw [a.1]⟩
theorem zCC_rd {h h' : zm_M} {pi : Nat → Nat} {w : Nat} {F : zs_F} {sp : Nat → Nat} {U : zs_U} {Q : zs_Q} {B B' : zs_B} {L : zs_L} {x : Nat} {K : zs_K} (hC : zCC h pi w F sp U Q B L x K) (hf : zq_f h h') (h1 : h'.1 1 1 = 0) (hw : w = 4 ∨ w = 19 := by assumption) : zCC h' pi w F sp U Q (0, B'.2) L x K := by
  obtain ⟨c1, c2, ⟨c3, c3w⟩, ⟨c4, c5, c5w⟩, ⟨c6, c6w⟩, c7, c7w⟩ := hC
  have e := hf.2
  refine ⟨zC_of (fun a _ => by rw [hf.1]) (fun a ha => e a (by omega) (by omega)) (by rw [e 0 (by omega) (by omega)]) c1, zc_N_of (e 93 (by omega) (by omega)) c2, ⟨⟨h1, fun k hk => absurd hk (Nat.not_lt_zero _)⟩, Nat.zero_le _, fun k hk => absurd hk (Nat.not_lt_zero _)⟩, ⟨zc_W_of (by rw [hf.1]) (by rw [hf.1]) c4, zc_L_of (fun a h1 h2 => e a (by omega) (by omega)) (by rw [e w (by omega) (by omega)]) c5, c5w⟩, ⟨?_, c6w⟩, zc_K_of (fun a h1 h2 => e a (by omega) (by omega)) (fun k _ _ => by rw [e 0 (by omega) (by omega)]) c7w c7, c7w⟩
  rw [e 0 (by omega) (by omega)]
  exact c6
set_option maxHeartbeats 4000000 in
set_option maxRecDepth 100000 in
theorem k_Tape_begin {d : Nat} {h : zm_M} {R : zm_R} {B : zs_B} {n : Nat} (hp : h.2 1 0 = some 2) (hB : zc_B h.1 B) (hBw : zw_B B) (hn : n ≤ B.1) (hn2 : n ≤ 240) (hR : ∀ h' : zm_M, zq_f h h' → zt_s h' B.2 n (.inr 0) → R none h') : zm_C (d + 1) TT m_Tape_begin [.inr (some 1), .inl (nI n)] h R := by
  refine st_Tape_begin [] 30 ?_
  simp only [↓zq, ↓reduceIte, zr_si2, zr_sr1, zr_cp2, zr_tl, zr_tn, shq, List.contains_nil, List.contains_cons, Nat.reduceBEq, Bool.false_or, Bool.or_false, Bool.true_or, Bool.false_eq_true, if_false, if_true, true_and, and_true, List.set_cons_zero, List.set_cons_succ, List.length_cons, List.length_nil, Nat.reduceAdd, Nat.reduceLeDiff, Nat.le_refl, Nat.zero_le, true_or, or_true, zn_cl, ↓jj_Tape_begin]
  refine hR _ ⟨rfl, fun a h1 _ => ?_⟩ ⟨hp, ?_, hn2, fun k hk => ⟨?_, hBw.2 k (by omega)⟩, ?_, Nat.zero_le _, ?_⟩
  · funext j
    simp only [zr_si1, h1, false_and, if_false]
  · simp [zr_si1]
  · simp only [zr_si1, show ¬ (2 : Nat) = 1 by decide, false_and, if_false]
    exact hB.2 k (by omega)
  · simp only [zr_si1, Nat.reduceEqDiff, and_false, if_false, and_self, if_true]
    rfl
  · simp [zr_si1]
set_option maxHeartbeats 4000000 in
set_option maxRecDepth 100000 in
theorem k_Tape_faultAnswer {d : Nat} {h : zm_M} {R : zm_R} {x : Nat × Nat} (h4 : h.1 1 4 = nI x.1) (h5 : h.1 1 5 = nI x.2) (hR : R (some (.inl (t_an x))) h) : zm_C (d + 1) TT m_Tape_faultAnswer [.inr (some 1)] h R := by
  refine st_Tape_faultAnswer [] 30 ?_
  simp only [↓zq, ↓reduceIte, zr_si2, zr_sr1, zr_cp2, zr_tl, zr_tn, shq, List.contains_nil, List.contains_cons, Nat.reduceBEq, Bool.false_or, Bool.or_false, Bool.true_or, Bool.false_eq_true, if_false, if_true, true_and, and_true, List.set_cons_zero, List.set_cons_succ, List.length_cons, List.length_nil, Nat.reduceAdd, Nat.reduceLeDiff, Nat.le_refl, Nat.zero_le, true_or, or_true, zn_cl, ↓jj_Tape_faultAnswer, h4, h5]
  exact hR
theorem f_ln_s_lt {T : Nat → Nat} {n told : Nat} {sp : Nat → Nat} {e : zt_S} (hw : zw_S sp) : zw_S (f_ln_s T n told sp e) := by
  intro v hv
  unfold f_ln_s
  split
  · have := f_dg_le T n 3 (t_tk T n 61 (f_ln_e T n told e))
    exact Nat.lt_succ_of_le this
  · exact hw v hv
theorem f_sh_w {T : Nat → Nat} {n : Nat} : ∀ (f l told : Nat) (sp : Nat → Nat) (e : zt_S), zw_S sp → zw_S (f_sh T n f l told sp e).2.1 := by
  intro f
  induction f with
  | zero => intro l told sp e hw; exact hw
  | succ f ih =>
    intro l told sp e hw
    unfold f_sh
    split
    · exact ih _ _ _ _ (f_ln_s_lt hw)
    · exact f_ln_s_lt hw
def zs_kf (K : zs_K) : zs_K := (K.1, K.2.1, K.2.2.1, false, K.2.2.2.2)
/-- what shape answers, and the state behind it -/
def D_shape (B : zs_B) (sp : Nat → Nat) (U : zs_U) (K : zs_K) (v : Int32) : Int32 × zs_B × (Nat → Nat) × zs_U × zs_K := match zs_tx B v 60 with
  | none => (-1, B, sp, U, K)
  | some n => match t_en n (f_sh B.2 n 60 0 0 sp (.inr 0)).2.2 with
    | .inl x => (t_an x, (0, B.2), sp, U, K)
    | .inr _ => (nI (f_sh B.2 n 60 0 0 sp (.inr 0)).1, (0, B.2), (f_sh B.2 n 60 0 0 sp (.inr 0)).2.1, (0, fun _ _ => 0), zs_kf K)
set_option maxHeartbeats 4000000 in
set_option maxRecDepth 100000 in
theorem k_KS_shape {d : Nat} {h : zm_M} {R : zm_R} {pi : Nat → Nat} {w : Nat} {F : zs_F} {sp : Nat → Nat} {U : zs_U} {Q : zs_Q} {B : zs_B} {L : zs_L} {x : Nat} {K : zs_K} {v : Int32} (hC : zCC h pi w F sp U Q B L x K) (hR : ∀ h' : zm_M, zc_own h h' → zCC h' pi w F (D_shape B sp U K v).2.2.1 (D_shape B sp U K v).2.2.2.1 Q (D_shape B sp U K v).2.1 L x (D_shape B sp U K v).2.2.2.2 → R (some (.inl (D_shape B sp U K v).1)) h') : zm_C (d + 5) TT m_KS_shape [.inr (some 0), .inl v] h R := by
  obtain ⟨p0, p1, p2, p4, p5, p6, p7, p9, p10, p11, p12, p14⟩ := zC_p hC.1
  have p10' : h.2 1 0 = some 2 := by have := hC.1.1; simp only [this]
  obtain ⟨q0, q1, q2⟩ := zp_13 hC.1.1
  obtain ⟨hw, pw⟩ := zc_W_or hC.2.2.2.1.1
  obtain ⟨hB, hBw⟩ := hC.2.2.1
  have b1 := hB.1
  have b260 := hBw.1
  refine st_KS_shape [] 30 ?_
  simp only [↓zq, ↓reduceIte, zr_si2, zr_sr1, zr_cp2, zr_tl, zr_tn, shq, List.contains_nil, List.contains_cons, Nat.reduceBEq, Bool.false_or, Bool.or_false, Bool.true_or, Bool.false_eq_true, if_false, if_true, true_and, and_true, List.set_cons_zero, List.set_cons_succ, List.length_cons, List.length_nil, Nat.reduceAdd, Nat.reduceLeDiff, Nat.le_refl, Nat.zero_le, true_or, or_true, zn_cl, ↓jj_KS_shape, p0]
  refine k_Tape_has (lo := 1) (hi := 60) (b := B.1) (by decide) (by decide) (by omega) b1 (fun n n0 n1 n2 en => ?_) (fun no => ?_)
  · subst en
    have eT := zs_tx_of n0 n1 n2 (by decide)
    simp only [↓zq, ↓reduceIte, zr_si2, zr_sr1, zr_cp2, zr_tl, zr_tn, shq, List.contains_nil, List.contains_cons, Nat.reduceBEq, Bool.false_or, Bool.or_false, Bool.true_or, Bool.false_eq_true, if_false, if_true, true_and, and_true, List.set_cons_zero, List.set_cons_succ, List.length_cons, List.length_nil, Nat.reduceAdd, Nat.reduceLeDiff, Nat.le_refl, Nat.zero_le, true_or, or_true, zn_cl, ↓jj_KS_shape, p0]
    refine ⟨fun _ => ?_, fun z => absurd z (by decide)⟩
    refine k_Tape_begin p10' hB hBw n2 (by omega) (fun g1 f1 s1 => ?_)
    have r : g1.2 0 2 = some 13 ∧ g1.2 0 4 = some 28 := by rw [f1.1]; exact ⟨p2, p4⟩
    simp only [↓zq, ↓reduceIte, zr_si2, zr_sr1, zr_cp2, zr_tl, zr_tn, shq, List.contains_nil, List.contains_cons, Nat.reduceBEq, Bool.false_or, Bool.or_false, Bool.true_or, Bool.false_eq_true, if_false, if_true, true_and, and_true, List.set_cons_zero, List.set_cons_succ, List.length_cons, List.length_nil, Nat.reduceAdd, Nat.reduceLeDiff, Nat.le_refl, Nat.zero_le, true_or, or_true, zn_cl, ↓jj_KS_shape, r]
    refine k_Form_readShape (sp := sp) (by rw [f1.1]; exact hC.1.1) s1 (fun k hk => by rw [f1.2 29 (by omega) (by omega)]; exact hC.1.2.2.2.1.1 k hk) (fun g2 f2 s2 sp2 => ?_)
    have f2 := f1.tr f2.q
    have r0 : g2.2 0 0 = some 1 := by rw [f2.1]; exact p0
    simp only [↓zq, ↓reduceIte, zr_si2, zr_sr1, zr_cp2, zr_tl, zr_tn, shq, List.contains_nil, List.contains_cons, Nat.reduceBEq, Bool.false_or, Bool.or_false, Bool.true_or, Bool.false_eq_true, if_false, if_true, true_and, and_true, List.set_cons_zero, List.set_cons_succ, List.length_cons, List.length_nil, Nat.reduceAdd, Nat.reduceLeDiff, Nat.le_refl, Nat.zero_le, true_or, or_true, zn_cl, ↓jj_KS_shape, r0]
    refine k_Tape_clear ?_
    have f3 := f2.s 1 0
    have z3 := zCC_rd (B' := B) hC f3 (by rw [zr_si1, if_pos ⟨rfl, rfl⟩])
    have r0 : (zm_si g2 1 1 0).2 0 0 = some 1 := r0
    simp only [↓zq, ↓reduceIte, zr_si2, zr_sr1, zr_cp2, zr_tl, zr_tn, shq, List.contains_nil, List.contains_cons, Nat.reduceBEq, Bool.false_or, Bool.or_false, Bool.true_or, Bool.false_eq_true, if_false, if_true, true_and, and_true, List.set_cons_zero, List.set_cons_succ, List.length_cons, List.length_nil, Nat.reduceAdd, Nat.reduceLeDiff, Nat.le_refl, Nat.zero_le, true_or, or_true, zn_cl, ↓jj_KS_shape, r0]
    obtain ⟨_, _, _, _, s5⟩ := s2
    generalize he : t_en n (f_sh B.2 n 60 0 0 sp (.inr 0)).2.2 = e at s5
    match e, s5, he with
    | .inl y, s5, he =>
      obtain ⟨t4, t1, t6, t5, tn⟩ := s5
      have u4 : (zm_si g2 1 1 0).1 1 4 = nI y.1 := by rw [zr_si1, if_neg (by omega)]; exact t4
      have u5 : (zm_si g2 1 1 0).1 1 5 = nI y.2 := by rw [zr_si1, if_neg (by omega)]; exact t5
      rw [u4]
      refine ⟨fun z => absurd z (nI_ne0 (by omega) (by omega)), fun _ => ?_⟩
      refine k_Tape_faultAnswer u4 u5 ?_
      simp only [↓zq, ↓reduceIte, zr_si2, zr_sr1, zr_cp2, zr_tl, zr_tn, shq, List.contains_nil, List.contains_cons, Nat.reduceBEq, Bool.false_or, Bool.or_false, Bool.true_or, Bool.false_eq_true, if_false, if_true, true_and, and_true, List.set_cons_zero, List.set_cons_succ, List.length_cons, List.length_nil, Nat.reduceAdd, Nat.reduceLeDiff, Nat.le_refl, Nat.zero_le, true_or, or_true, zn_cl, ↓jj_KS_shape]
      have eD : D_shape B sp U K (nI n) = (t_an y, (0, B.2), sp, U, K) := by
        unfold D_shape
        rw [eT]
        dsimp only
        rw [he]
      rw [eD] at hR
      exact hR _ f3.own z3
    | .inr p, s5, he =>
      obtain ⟨t3, tn, t4⟩ := s5
      have u4 : (zm_si g2 1 1 0).1 1 4 = 0 := by rw [zr_si1, if_neg (by omega)]; exact t4
      rw [u4]
      refine ⟨fun _ => ?_, fun z => (by first | exact absurd trivial z | exact absurd rfl z | exact absurd z (by decide))⟩
      obtain ⟨v0, v1, v2⟩ := zp_13 z3.1.1
      have rr : g2.2 0 2 = some 13 ∧ g2.2 0 4 = some 28 := ⟨(zC_p z3.1).2.2.1, (zC_p z3.1).2.2.2.1⟩
      have v1' : g2.2 13 1 = some 14 := v1
      simp only [↓zq, ↓reduceIte, zr_si2, zr_sr1, zr_cp2, zr_tl, zr_tn, shq, List.contains_nil, List.contains_cons, Nat.reduceBEq, Bool.false_or, Bool.or_false, Bool.true_or, Bool.false_eq_true, if_false, if_true, true_and, and_true, List.set_cons_zero, List.set_cons_succ, List.length_cons, List.length_nil, Nat.reduceAdd, Nat.reduceLeDiff, Nat.le_refl, Nat.zero_le, true_or, or_true, zn_cl, ↓jj_KS_shape, rr, v1']
      refine k_Shape_copyFrom (zk_shp28 z3.1.1) (zk_shp14 z3.1.1) ?_
      have rr : g2.2 0 6 = some 36 := (zC_p z3.1).2.2.2.2.2.1
      simp only [↓zq, ↓reduceIte, zr_si2, zr_sr1, zr_cp2, zr_tl, zr_tn, shq, List.contains_nil, List.contains_cons, Nat.reduceBEq, Bool.false_or, Bool.or_false, Bool.true_or, Bool.false_eq_true, if_false, if_true, true_and, and_true, List.set_cons_zero, List.set_cons_succ, List.length_cons, List.length_nil, Nat.reduceAdd, Nat.reduceLeDiff, Nat.le_refl, Nat.zero_le, true_or, or_true, zn_cl, ↓jj_KS_shape, rr]
      have eD : D_shape B sp U K (nI n) = (nI (f_sh B.2 n 60 0 0 sp (.inr 0)).1, (0, B.2), (f_sh B.2 n 60 0 0 sp (.inr 0)).2.1, (0, fun _ _ => 0), zs_kf K) := by
        unfold D_shape
        rw [eT]
        dsimp only
        rw [he]
      rw [eD] at hR
      dsimp only at hR
      obtain ⟨g4, hg4⟩ : ∃ g4 : zm_M, g4 = zm_si (zm_si (zm_cp (zm_si g2 1 1 0) (14 + 1) 0 (28 + 1) 0 24) 36 1 0) 0 17 1 := ⟨_, rfl⟩
      rw [← hg4]
      have k2 : g4.2 = (zm_si g2 1 1 0).2 := by subst hg4; rfl
      have kI : ∀ a, a ≠ 0 → a ≠ 29 → a ≠ 36 → g4.1 a = (zm_si g2 1 1 0).1 a := fun a h1 h2 h3 => by
        subst hg4
        funext j
        rw [zr_si1, if_neg (fun z => h1 z.1), zr_si1, if_neg (fun z => h3 z.1), zr_cp1, if_neg (by omega)]
      have k0 : ∀ k, k ≠ 17 → g4.1 0 k = (zm_si g2 1 1 0).1 0 k := fun k h1 => by
        subst hg4
        rw [zr_si1, if_neg (fun z => h1 z.2), zr_si1, if_neg (by omega), zr_cp1, if_neg (by omega)]
      have k17 : g4.1 0 17 = 1 := by subst hg4; rw [zr_si1, if_pos ⟨rfl, rfl⟩]
      have k36 : g4.1 36 1 = 0 := by subst hg4; rw [zr_si1, if_neg (by omega), zr_si1, if_pos ⟨rfl, rfl⟩]
      have k29 : ∀ k, k < 24 → g4.1 29 k = nI ((f_sh B.2 n 60 0 0 sp (.inr 0)).2.1 k) := fun k hk => by
        subst hg4
        rw [zr_si1, if_neg (by omega), zr_si1, if_neg (by omega), zr_cp1, if_pos (by omega), show 0 + (k - 0) = k by omega, zr_si1, if_neg (by omega)]
        exact sp2 k hk
      clear hg4
      obtain ⟨c1, c2, ⟨c3, c3w⟩, ⟨c4, c5, c5w⟩, ⟨c6, c6w⟩, c7, c7w⟩ := z3
      refine hR g4 (f3.own.tr (fun a ha => ⟨kI a (by omega) (by omega) (by omega), by rw [k2]⟩)) ⟨⟨by rw [k2]; exact c1.1, by rw [k2]; exact c1.2.1, ⟨?_, c1.2.2.1.2⟩, ⟨k29, f_sh_w 60 0 0 sp _ c1.2.2.2.1.2⟩, ⟨⟨k36, fun s hs => absurd hs (Nat.not_lt_zero _)⟩, Nat.zero_le _, fun s hs => absurd hs (Nat.not_lt_zero _)⟩, ⟨?_, fun hq => ?_⟩, c1.2.2.2.2.2.2⟩, zc_N_of (kI 93 (by omega) (by omega) (by omega)) c2, ⟨zc_B_of (by rw [kI 1 (by omega) (by omega) (by omega)]) (kI 2 (by omega) (by omega) (by omega)) c3, c3w⟩, ⟨zc_W_of (by rw [k2]) (by rw [k2]) c4, zc_L_of (fun a h1 h2 => kI a (by omega) (by omega) (by omega)) (by rw [kI w (by omega) (by omega) (by omega)]) c5, c5w⟩, ⟨?_, c6w⟩, ⟨fun z => ?_, fun z => ⟨?_, ?_, ?_, fun y => Bool.noConfusion y⟩⟩, fun z => ⟨(c7w z).1, (c7w z).2.1, fun y => Bool.noConfusion y⟩⟩
      · unfold zc_F
        rw [kI 30 (by omega) (by omega) (by omega), kI 31 (by omega) (by omega) (by omega), kI 32 (by omega) (by omega) (by omega)]
        exact c1.2.2.1.1
      · rw [k0 8 (by omega)]
        exact c1.2.2.2.2.2.1.1
      · obtain ⟨o1, o2⟩ := c1.2.2.2.2.2.1.2 hq
        refine ⟨zc_R_fr o1 (kI _ (by omega) (by omega) (by omega)) (kI _ (by omega) (by omega) (by omega)), ?_⟩
        rw [kI 70 (by omega) (by omega) (by omega)]
        exact o2
      · rw [k0 13 (by omega)]; exact c6
      · rw [k0 15 (by omega)]; exact c7.1 z
      · rw [k0 15 (by omega)]; exact (c7.2 z).1
      · rw [k0 16 (by omega)]; exact (c7.2 z).2.1
      · rw [k17]; rfl
  · simp only [↓zq, ↓reduceIte, zr_si2, zr_sr1, zr_cp2, zr_tl, zr_tn, shq, List.contains_nil, List.contains_cons, Nat.reduceBEq, Bool.false_or, Bool.or_false, Bool.true_or, Bool.false_eq_true, if_false, if_true, true_and, and_true, List.set_cons_zero, List.set_cons_succ, List.length_cons, List.length_nil, Nat.reduceAdd, Nat.reduceLeDiff, Nat.le_refl, Nat.zero_le, true_or, or_true, zn_cl, ↓jj_KS_shape]
    refine ⟨fun z => (by first | exact absurd trivial z | exact absurd rfl z | exact absurd z (by decide)), fun _ => ?_⟩
    have eD : D_shape B sp U K v = (-1, B, sp, U, K) := by
      unfold D_shape
      rw [zs_tx_no (by decide) no]
    rw [eD] at hR
    exact hR h (zc_own.rf h) hC
