/-! rules read by the class -/
abbrev zs_Rr : Type := Nat × (Nat → Nat × Nat × Nat × Nat)
def p_hd (T : Nat → Nat) (n m : Nat) (e : zt_S) : zt_S := t_st (if t_c T n e = 109 ∨ t_c T n e = 117 ∨ t_c T n e = 120 then (if 16 ≤ m then t_fl 4 e else e) else t_fl 1 e)
def p_r1 (T : Nat → Nat) (n m : Nat) (s : zl_s) : zl_s := if t_c T n s.1 = 120 then (p_hd T n m s.1, s.2) else p_sum T n 6 (p_hd T n m s.1, s.2)
def p_r2 (T : Nat → Nat) (n m : Nat) (s : zl_s) : zl_s := p_orl T n (p_tst T n 5) 240 none (t_tk T n 40 (p_r1 T n m s).1, (p_r1 T n m s).2)
def p_r3 (T : Nat → Nat) (n m : Nat) (s : zl_s) : zt_S := t_tk T n 41 (p_r2 T n m s).1
def p_ra (T : Nat → Nat) (n : Nat) (r : zs_Rr) (s : zl_s) : zs_Rr := if r.1 < 16 then (r.1 + 1, fun q => if q = r.1 then (t_c T n s.1, s.2.1, (p_r1 T n r.1 s).2.1, (p_r2 T n r.1 s).2.1) else r.2 q) else r
def p_rul (T : Nat → Nat) (n : Nat) : Nat → zs_Rr → zl_s → zs_Rr × zl_s
  | 0, r, s => (r, s)
  | f + 1, r, s => if t_c T n (p_r3 T n r.1 s) = 59 then p_rul T n f (p_ra T n r s) (t_st (p_r3 T n r.1 s), (p_r2 T n r.1 s).2) else (p_ra T n r s, (p_r3 T n r.1 s, (p_r2 T n r.1 s).2))
theorem p_rul_s (T : Nat → Nat) (n f : Nat) (r : zs_Rr) (s : zl_s) : p_rul T n (f + 1) r s = if t_c T n (p_r3 T n r.1 s) = 59 then p_rul T n f (p_ra T n r s) (t_st (p_r3 T n r.1 s), (p_r2 T n r.1 s).2) else (p_ra T n r s, (p_r3 T n r.1 s, (p_r2 T n r.1 s).2)) := rfl
def zq_r (I : Nat → Nat → Int32) (w : Nat) (r : zs_Rr) : Prop := I w 7 = nI r.1 ∧ r.1 ≤ 16 ∧ ∀ q, q < r.1 → I (w + 3) q = zt_v (r.2 q).1 ∧ I (w + 4) q = nI (r.2 q).2.1 ∧ I (w + 5) q = nI (r.2 q).2.2.1 ∧ I (w + 6) q = nI (r.2 q).2.2.2
/-- changed: the tape's place and fault, the spare law -/
def zx_f (w : Nat) (h h' : zm_M) : Prop := h'.2 = h.2 ∧ (∀ a, a ≠ 1 → (a < w ∨ w + 6 < a) → h'.1 a = h.1 a) ∧ ∀ k, k < 3 → h'.1 1 k = h.1 1 k
theorem zx_f.rf (w : Nat) (h : zm_M) : zx_f w h h := ⟨rfl, fun _ _ _ => rfl, fun _ _ => rfl⟩
theorem zx_f.tr {w : Nat} {h h' h'' : zm_M} (a : zx_f w h h') (b : zx_f w h' h'') : zx_f w h h'' := ⟨b.1.trans a.1, fun x h1 h2 => (b.2.1 x h1 h2).trans (a.2.1 x h1 h2), fun k hk => (b.2.2 k hk).trans (a.2.2 k hk)⟩
theorem zw_f.x {w : Nat} {h h' : zm_M} (a : zw_f w h h') : zx_f w h h' := ⟨a.1, fun x h1 h2 => a.2.1 x h1 (by omega) (by omega) (by omega), a.2.2.1⟩
theorem zq_r_w {w : Nat} {h h' : zm_M} {r : zs_Rr} (hw : w = 4 ∨ w = 19) (hf : zw_f w h h') (hr : zq_r h.1 w r) : zq_r h'.1 w r := by
  unfold zq_r
  rw [hf.2.2.2 7 (by omega), hf.2.1 (w + 3) (by omega) (by omega) (by omega) (by omega), hf.2.1 (w + 4) (by omega) (by omega) (by omega) (by omega), hf.2.1 (w + 5) (by omega) (by omega) (by omega) (by omega), hf.2.1 (w + 6) (by omega) (by omega) (by omega) (by omega)]
  exact hr
set_option maxHeartbeats 4000000 in
set_option maxRecDepth 100000 in
theorem k_LawR_readHead {d : Nat} {h : zm_M} {R : zm_R} {T : Nat → Nat} {n w m : Nat} {e : zt_S} (hg : zg h.2 w) (hs : zt_s h T n e) (hm : h.1 w 7 = nI m) (hm2 : m ≤ 16) (hR : ∀ h' : zm_M, zt_f h h' → zt_s h' T n (p_hd T n m e) → R (some (.inl (zt_v (t_c T n e)))) h') : zm_C (d + 2) TT m_LawR_readHead [.inr (some 3)] h R := by
  obtain ⟨g0, g1, ⟨k0, _⟩, hw⟩ := id hg
  have cl := hs.c_le
  unfold p_hd at hR
  have e109 : (zt_v (t_c T n e) = 109) = (t_c T n e = 109) := zt_v_eq (k := 109) cl (by decide)
  have e117 : (zt_v (t_c T n e) = 117) = (t_c T n e = 117) := zt_v_eq (k := 117) cl (by decide)
  have e120 : (zt_v (t_c T n e) = 120) = (t_c T n e = 120) := zt_v_eq (k := 120) cl (by decide)
  have e16 : (nI m < 16) = (m < 16) := zn_lt (b := 16) (by omega) (by decide)
  have fin : ∀ (g : zm_M) (e' : zt_S), zt_f h g → zt_s g T n e' → (∀ p, e' = .inr p → p < n) → (∀ h' : zm_M, zt_f h h' → zt_s h' T n (t_st e') → R (some (.inl (zt_v (t_c T n e)))) h') → zm_W (zm_md m_LawR_readHead) (d + 2) TT R 57 [some (.inr (some 3)), some (.inl (zt_v (t_c T n e)))] [] g := by
    intro g e' hf hs' hp hk
    have g0' : g.2 3 0 = some 1 := by rw [hf.1]; exact g0
    refine zm_go g_LawR_readHead [37, 57] 30 (by decide +kernel) ok_LawR_readHead _ rfl ?_
    simp only [↓zq, ↓reduceIte, zr_si2, zr_sr1, zr_cp2, zr_tl, zr_tn, shq, List.contains_nil, List.contains_cons, Nat.reduceBEq, Bool.false_or, Bool.or_false, Bool.true_or, Bool.false_eq_true, if_false, if_true, true_and, and_true, List.set_cons_zero, List.set_cons_succ, List.length_cons, List.length_nil, Nat.reduceAdd, Nat.reduceLeDiff, Nat.le_refl, Nat.zero_le, true_or, or_true, zn_cl, ↓jj_LawR_readHead, g0']
    refine k_Tape_step hs' hp (fun g2 f2 s2 => ?_)
    simp only [↓zq, ↓reduceIte, zr_si2, zr_sr1, zr_cp2, zr_tl, zr_tn, shq, List.contains_nil, List.contains_cons, Nat.reduceBEq, Bool.false_or, Bool.or_false, Bool.true_or, Bool.false_eq_true, if_false, if_true, true_and, and_true, List.set_cons_zero, List.set_cons_succ, List.length_cons, List.length_nil, Nat.reduceAdd, Nat.reduceLeDiff, Nat.le_refl, Nat.zero_le, true_or, or_true, zn_cl, ↓jj_LawR_readHead]
    exact hk g2 (hf.tr f2) s2
  have at37 : (t_c T n e = 109 ∨ t_c T n e = 117 ∨ t_c T n e = 120) → zm_W (zm_md m_LawR_readHead) (d + 2) TT R 37 [some (.inr (some 3)), some (.inl (zt_v (t_c T n e)))] [] h := by
    intro hc
    rw [if_pos hc] at hR
    refine zm_go g_LawR_readHead [37, 57] 30 (by decide +kernel) ok_LawR_readHead _ rfl ?_
    simp only [↓zq, ↓reduceIte, zr_si2, zr_sr1, zr_cp2, zr_tl, zr_tn, shq, List.contains_nil, List.contains_cons, Nat.reduceBEq, Bool.false_or, Bool.or_false, Bool.true_or, Bool.false_eq_true, if_false, if_true, true_and, and_true, List.set_cons_zero, List.set_cons_succ, List.length_cons, List.length_nil, Nat.reduceAdd, Nat.reduceLeDiff, Nat.le_refl, Nat.zero_le, true_or, or_true, zn_cl, ↓jj_LawR_readHead, g0, g1, hm, e16]
    refine ⟨k0, fun z => ?_, fun z => ?_⟩
    · rw [if_neg (by omega)] at hR
      exact fin h e (zt_f.rf h) hs (t_c_lt (T := T) (by omega)) hR
    · rw [if_pos (by omega)] at hR
      refine k_Tape_fail (f := 4) hs (by decide) (by decide) (fun g2 f2 s2 => ?_)
      simp only [↓zq, ↓reduceIte, zr_si2, zr_sr1, zr_cp2, zr_tl, zr_tn, shq, List.contains_nil, List.contains_cons, Nat.reduceBEq, Bool.false_or, Bool.or_false, Bool.true_or, Bool.false_eq_true, if_false, if_true, true_and, and_true, List.set_cons_zero, List.set_cons_succ, List.length_cons, List.length_nil, Nat.reduceAdd, Nat.reduceLeDiff, Nat.le_refl, Nat.zero_le, true_or, or_true, zn_cl, ↓jj_LawR_readHead]
      exact fin g2 _ f2 s2 (fun p hp => absurd hp (t_st_fl p)) hR
  refine st_LawR_readHead [37, 57] 30 ?_
  simp only [↓zq, ↓reduceIte, zr_si2, zr_sr1, zr_cp2, zr_tl, zr_tn, shq, List.contains_nil, List.contains_cons, Nat.reduceBEq, Bool.false_or, Bool.or_false, Bool.true_or, Bool.false_eq_true, if_false, if_true, true_and, and_true, List.set_cons_zero, List.set_cons_succ, List.length_cons, List.length_nil, Nat.reduceAdd, Nat.reduceLeDiff, Nat.le_refl, Nat.zero_le, true_or, or_true, zn_cl, ↓jj_LawR_readHead, g0]
  refine k_Tape_peek hs ?_
  simp only [↓zq, ↓reduceIte, zr_si2, zr_sr1, zr_cp2, zr_tl, zr_tn, shq, List.contains_nil, List.contains_cons, Nat.reduceBEq, Bool.false_or, Bool.or_false, Bool.true_or, Bool.false_eq_true, if_false, if_true, true_and, and_true, List.set_cons_zero, List.set_cons_succ, List.length_cons, List.length_nil, Nat.reduceAdd, Nat.reduceLeDiff, Nat.le_refl, Nat.zero_le, true_or, or_true, zn_cl, ↓jj_LawR_readHead, g0, e109, e117, e120]
  refine ⟨fun z => at37 (Or.inl z), fun z1 => ⟨fun z => at37 (Or.inr (Or.inl z)), fun z2 => ⟨fun z => at37 (Or.inr (Or.inr z)), fun z3 => ?_⟩⟩⟩
  rw [if_neg (by omega)] at hR
  refine k_Tape_fail (f := 1) hs (by decide) (by decide) (fun g2 f2 s2 => ?_)
  simp only [↓zq, ↓reduceIte, zr_si2, zr_sr1, zr_cp2, zr_tl, zr_tn, shq, List.contains_nil, List.contains_cons, Nat.reduceBEq, Bool.false_or, Bool.or_false, Bool.true_or, Bool.false_eq_true, if_false, if_true, true_and, and_true, List.set_cons_zero, List.set_cons_succ, List.length_cons, List.length_nil, Nat.reduceAdd, Nat.reduceLeDiff, Nat.le_refl, Nat.zero_le, true_or, or_true, zn_cl, ↓jj_LawR_readHead]
  exact fin g2 _ f2 s2 (fun p hp => absurd hp (t_st_fl p)) hR
set_option maxHeartbeats 4000000 in
set_option maxRecDepth 100000 in
theorem k_Law_addRule {d : Nat} {h : zm_M} {R : zm_R} {T : Nat → Nat} {n w a b : Nat} {x : Nat} {r : zs_Rr} {s : zl_s} (hg : zg h.2 w) (hs : zq_s h T n w s) (hr : zq_r h.1 w r) (hR : ∀ h' : zm_M, zx_f w h h' → zq_s h' T n w s → zq_r h'.1 w (if r.1 < 16 then (r.1 + 1, fun q => if q = r.1 then (x, a, b, s.2.1) else r.2 q) else r) → R none h') : zm_C (d + 1) TT m_Law_addRule [.inr (some w), .inl (zt_v x), .inl (nI a), .inl (nI b)] h R := by
  obtain ⟨g1, g2, ⟨k0, k1, k2, k3, k4, k5, k6, k7, k8, q0, q1, q3, q4, q5, q6, q8, q11⟩, hw⟩ := id hg
  obtain ⟨t1, c1, c2, c3⟩ := id hs
  obtain ⟨r1, r2, r3⟩ := id hr
  have cl := nI_clamp (show r.1 < 2 ^ 31 by omega)
  refine st_Law_addRule [] 30 ?_
  rcases Nat.lt_or_ge r.1 16 with hl | hl
  · rw [if_pos hl] at hR
    have v1 : vp_in (nI r.1) 16 := vp_in_nI hl (by decide)
    have ge : ¬ 16 ≤ nI r.1 := nI_ge (b := 16) hl (by decide)
    simp only [↓zq, ↓reduceIte, zr_si2, zr_sr1, zr_cp2, zr_tl, zr_tn, shq, List.contains_nil, List.contains_cons, Nat.reduceBEq, Bool.false_or, Bool.or_false, Bool.true_or, Bool.false_eq_true, if_false, if_true, true_and, and_true, List.set_cons_zero, List.set_cons_succ, List.length_cons, List.length_nil, Nat.reduceAdd, Nat.reduceLeDiff, Nat.le_refl, Nat.zero_le, true_or, or_true, zn_cl, ↓jj_Law_addRule, k0, k3, k4, k5, k6, q3, q4, q5, q6, r1, v1, cl, ge]
    simp only [zr_si1, show ¬ w = w + 3 by omega, show ¬ w = w + 4 by omega, show ¬ w = w + 5 by omega, show ¬ w = w + 6 by omega, false_and, if_false, r1, c1, cl, v1, true_and, nI_1]
    simp only [not_false_eq_true, not_true_eq_false, false_imp_iff, true_imp_iff, forall_const, and_true, true_and, and_self, false_or, or_false, Int32.reduceLT, Int32.reduceLE, Int32.reduceSub, Int32.reduceAdd]
    refine hR _ ⟨rfl, fun a h1 h2 => ?_, fun k hk => ?_⟩ ⟨zt_s_i t1 rfl ?_ ?_, ?_, c2, fun k hk => ?_⟩ ⟨?_, Nat.succ_le_of_lt hl, fun q hq => ?_⟩
    · funext j
      rw [zr_si1, if_neg (by omega), zr_si1, if_neg (by omega), zr_si1, if_neg (by omega), zr_si1, if_neg (by omega), zr_si1, if_neg (by omega)]
    · rw [zr_si1, if_neg (by omega), zr_si1, if_neg (by omega), zr_si1, if_neg (by omega), zr_si1, if_neg (by omega), zr_si1, if_neg (by omega)]
    · funext j
      rw [zr_si1, if_neg (by omega), zr_si1, if_neg (by omega), zr_si1, if_neg (by omega), zr_si1, if_neg (by omega), zr_si1, if_neg (by omega)]
    · funext j
      rw [zr_si1, if_neg (by omega), zr_si1, if_neg (by omega), zr_si1, if_neg (by omega), zr_si1, if_neg (by omega), zr_si1, if_neg (by omega)]
    · rw [zr_si1, if_neg (by omega), zr_si1, if_neg (by omega), zr_si1, if_neg (by omega), zr_si1, if_neg (by omega), zr_si1, if_neg (by omega)]
      exact c1
    · rw [zr_si1, if_neg (by omega), zr_si1, if_neg (by omega), zr_si1, if_neg (by omega), zr_si1, if_neg (by omega), zr_si1, if_neg (by omega), zr_si1, if_neg (by omega), zr_si1, if_neg (by omega), zr_si1, if_neg (by omega), zr_si1, if_neg (by omega), zr_si1, if_neg (by omega)]
      exact c3 k hk
    · rw [zr_si1, if_pos ⟨rfl, rfl⟩]
    · have hq' : q < r.1 + 1 := hq
      dsimp only
      by_cases z : q = r.1
      · subst z
        rw [if_pos rfl]
        refine ⟨?_, ?_, ?_, ?_⟩
        · rw [zr_si1, if_neg (by omega), zr_si1, if_neg (by omega), zr_si1, if_neg (by omega), zr_si1, if_neg (by omega), zr_si1, if_pos ⟨rfl, rfl⟩]
        · rw [zr_si1, if_neg (by omega), zr_si1, if_neg (by omega), zr_si1, if_neg (by omega), zr_si1, if_pos ⟨rfl, rfl⟩]
        · rw [zr_si1, if_neg (by omega), zr_si1, if_neg (by omega), zr_si1, if_pos ⟨rfl, rfl⟩]
        · rw [zr_si1, if_neg (by omega), zr_si1, if_pos ⟨rfl, rfl⟩]
      · rw [if_neg z]
        obtain ⟨a1, a2, a3, a4⟩ := r3 q (by omega)
        refine ⟨?_, ?_, ?_, ?_⟩
        · rw [zr_si1, if_neg (by omega), zr_si1, if_neg (by omega), zr_si1, if_neg (by omega), zr_si1, if_neg (by omega), zr_si1, if_neg (by omega)]; exact a1
        · rw [zr_si1, if_neg (by omega), zr_si1, if_neg (by omega), zr_si1, if_neg (by omega), zr_si1, if_neg (by omega), zr_si1, if_neg (by omega)]; exact a2
        · rw [zr_si1, if_neg (by omega), zr_si1, if_neg (by omega), zr_si1, if_neg (by omega), zr_si1, if_neg (by omega), zr_si1, if_neg (by omega)]; exact a3
        · rw [zr_si1, if_neg (by omega), zr_si1, if_neg (by omega), zr_si1, if_neg (by omega), zr_si1, if_neg (by omega), zr_si1, if_neg (by omega)]; exact a4
  · rw [if_neg (by omega)] at hR
    simp only [↓zq, ↓reduceIte, zr_si2, zr_sr1, zr_cp2, zr_tl, zr_tn, shq, List.contains_nil, List.contains_cons, Nat.reduceBEq, Bool.false_or, Bool.or_false, Bool.true_or, Bool.false_eq_true, if_false, if_true, true_and, and_true, List.set_cons_zero, List.set_cons_succ, List.length_cons, List.length_nil, Nat.reduceAdd, Nat.reduceLeDiff, Nat.le_refl, Nat.zero_le, true_or, or_true, zn_cl, ↓jj_Law_addRule, k0, r1]
    refine ⟨fun _ => hR h (zx_f.rf w h) hs hr, fun z => absurd (nI_le (a := 16) hl (by omega)) z⟩
set_option maxHeartbeats 4000000 in
set_option maxRecDepth 100000 in
theorem k_Law_clear {d : Nat} {h : zm_M} {R : zm_R} {w : Nat} (k0 : (zm_sh TT w).1 = 7) (hR : R none (zm_si (zm_si h w 2 0) w 7 0)) : zm_C (d + 1) TT m_Law_clear [.inr (some w)] h R := by
  refine st_Law_clear [] 30 ?_
  simp only [↓zq, ↓reduceIte, zr_si2, zr_sr1, zr_cp2, zr_tl, zr_tn, shq, List.contains_nil, List.contains_cons, Nat.reduceBEq, Bool.false_or, Bool.or_false, Bool.true_or, Bool.false_eq_true, if_false, if_true, true_and, and_true, List.set_cons_zero, List.set_cons_succ, List.length_cons, List.length_nil, Nat.reduceAdd, Nat.reduceLeDiff, Nat.le_refl, Nat.zero_le, true_or, or_true, zn_cl, ↓jj_Law_clear, k0]
  exact hR
def zl_0 : zs_Rr × zl_s := ((0, fun _ => (0, 0, 0, 0)), (.inr 0, (0, fun _ => (0, 0))))
set_option maxHeartbeats 4000000 in
set_option maxRecDepth 100000 in
theorem k_LawR_readRules {d : Nat} {h : zm_M} {R : zm_R} {T : Nat → Nat} {n w : Nat} (hg : zg h.2 w) (hs : zt_s h T n (.inr 0)) (hR : ∀ h' : zm_M, zx_f w h h' → zq_s h' T n w (t_en n (p_rul T n 17 zl_0.1 zl_0.2).2.1, (p_rul T n 17 zl_0.1 zl_0.2).2.2) → zq_r h'.1 w (p_rul T n 17 zl_0.1 zl_0.2).1 → R none h') : zm_C (d + 19) TT m_LawR_readRules [.inr (some 3)] h R := by
  obtain ⟨g0, g1, ⟨k0, _⟩, hw⟩ := id hg
  have out : ∀ (g : zm_M) (r : zs_Rr) (s : zl_s) (l1 l2 l3 l4 : Option zm_V), zx_f w h g → zq_s g T n w s → zq_r g.1 w r → p_rul T n 17 zl_0.1 zl_0.2 = (r, s) → zm_W (zm_md m_LawR_readRules) (d + 19) TT R 110 [some (.inr (some 3)), l1, l2, l3, l4] [] g := by
    intro g r s l1 l2 l3 l4 hf hs' hr he
    have g0' : g.2 3 0 = some 1 := by rw [hf.1]; exact g0
    rw [he] at hR
    refine zm_go g_LawR_readRules [9, 39, 110] 30 (by decide +kernel) ok_LawR_readRules _ rfl ?_
    simp only [↓zq, ↓reduceIte, zr_si2, zr_sr1, zr_cp2, zr_tl, zr_tn, shq, List.contains_nil, List.contains_cons, Nat.reduceBEq, Bool.false_or, Bool.or_false, Bool.true_or, Bool.false_eq_true, if_false, if_true, true_and, and_true, List.set_cons_zero, List.set_cons_succ, List.length_cons, List.length_nil, Nat.reduceAdd, Nat.reduceLeDiff, Nat.le_refl, Nat.zero_le, true_or, or_true, zn_cl, ↓jj_LawR_readRules, g0']
    refine k_Tape_takeEnd hs'.1 (fun g2 f2 s2 => ?_)
    simp only [↓zq, ↓reduceIte, zr_si2, zr_sr1, zr_cp2, zr_tl, zr_tn, shq, List.contains_nil, List.contains_cons, Nat.reduceBEq, Bool.false_or, Bool.or_false, Bool.true_or, Bool.false_eq_true, if_false, if_true, true_and, and_true, List.set_cons_zero, List.set_cons_succ, List.length_cons, List.length_nil, Nat.reduceAdd, Nat.reduceLeDiff, Nat.le_refl, Nat.zero_le, true_or, or_true, zn_cl, ↓jj_LawR_readRules]
    exact hR g2 (hf.tr (f2.w hw).x) ⟨s2, zq_c_t hw f2 hs'.2⟩ (zq_r_w hw (f2.w hw) hr)
  have loop : ∀ (f i : Nat) (g : zm_M) (r : zs_Rr) (s : zl_s) (l2 l3 l4 : Option zm_V), i + f = 17 → zx_f w h g → zq_s g T n w s → zq_r g.1 w r → p_rul T n 17 zl_0.1 zl_0.2 = p_rul T n f r s → zm_W (zm_md m_LawR_readRules) (d + 19) TT R 9 [some (.inr (some 3)), some (.inl (nI i)), l2, l3, l4] [] g := by
    intro f
    induction f with
    | zero =>
      intro i g r s l2 l3 l4 hi hf hs' hr he
      have : i = 17 := by omega
      subst this
      refine zm_go g_LawR_readRules [9, 39, 110] 30 (by decide +kernel) ok_LawR_readRules _ rfl ?_
      simp only [↓zq, ↓reduceIte, zr_si2, zr_sr1, zr_cp2, zr_tl, zr_tn, shq, List.contains_nil, List.contains_cons, Nat.reduceBEq, Bool.false_or, Bool.or_false, Bool.true_or, Bool.false_eq_true, if_false, if_true, true_and, and_true, List.set_cons_zero, List.set_cons_succ, List.length_cons, List.length_nil, Nat.reduceAdd, Nat.reduceLeDiff, Nat.le_refl, Nat.zero_le, true_or, or_true, zn_cl, ↓jj_LawR_readRules]
      exact ⟨fun _ => out g r s _ _ _ _ hf hs' hr he, fun z => absurd (by decide) z⟩
    | succ f ih =>
      intro i g r s l2 l3 l4 hi hf hs' hr he
      rw [p_rul_s T n f r s] at he
      have cl := hs'.1.c_le
      refine zm_go g_LawR_readRules [9, 39, 110] 30 (by decide +kernel) ok_LawR_readRules _ rfl ?_
      simp only [↓zq, ↓reduceIte, zr_si2, zr_sr1, zr_cp2, zr_tl, zr_tn, shq, List.contains_nil, List.contains_cons, Nat.reduceBEq, Bool.false_or, Bool.or_false, Bool.true_or, Bool.false_eq_true, if_false, if_true, true_and, and_true, List.set_cons_zero, List.set_cons_succ, List.length_cons, List.length_nil, Nat.reduceAdd, Nat.reduceLeDiff, Nat.le_refl, Nat.zero_le, true_or, or_true, zn_cl, ↓jj_LawR_readRules]
      refine ⟨fun z => absurd z (nI_nlt (a := 16) (by omega) (by omega)), fun _ => ?_⟩
      refine k_LawR_readHead (zg_of hf.1 hg) hs'.1 hr.1 hr.2.1 (fun g2 f2 s2 => ?_)
      have f2' := hf.tr (f2.w hw).x
      have q2 : zq_s g2 T n w (p_hd T n r.1 s.1, s.2) := ⟨s2, zq_c_t hw f2 hs'.2⟩
      have r2 := zq_r_w hw (f2.w hw) hr
      have g1' : g2.2 3 1 = some w := by rw [f2'.1]; exact g1
      have sz := q2.2.1
      have e120 : (zt_v (t_c T n s.1) = 120) = (t_c T n s.1 = 120) := zt_v_eq (k := 120) cl (by decide)
      simp only [↓zq, ↓reduceIte, zr_si2, zr_sr1, zr_cp2, zr_tl, zr_tn, shq, List.contains_nil, List.contains_cons, Nat.reduceBEq, Bool.false_or, Bool.or_false, Bool.true_or, Bool.false_eq_true, if_false, if_true, true_and, and_true, List.set_cons_zero, List.set_cons_succ, List.length_cons, List.length_nil, Nat.reduceAdd, Nat.reduceLeDiff, Nat.le_refl, Nat.zero_le, true_or, or_true, zn_cl, ↓jj_LawR_readRules, g1', sz, e120]
      have at39 : ∀ g3 : zm_M, zw_f w g2 g3 → zq_s g3 T n w (p_r1 T n r.1 s) → zm_W (zm_md m_LawR_readRules) (d + 19) TT R 39 [some (.inr (some 3)), some (.inl (nI i)), some (.inl (zt_v (t_c T n s.1))), some (.inl (nI s.2.1)), l4] [] g3 := by
        intro g3 f3 s3
        have f3' := f2'.tr f3.x
        have r3 := zq_r_w hw f3 r2
        have g01 : g3.2 3 0 = some 1 ∧ g3.2 3 1 = some w := by rw [f3'.1]; exact ⟨g0, g1⟩
        have sz := s3.2.1
        refine zm_go g_LawR_readRules [9, 39, 110] 30 (by decide +kernel) ok_LawR_readRules _ rfl ?_
        simp only [↓zq, ↓reduceIte, zr_si2, zr_sr1, zr_cp2, zr_tl, zr_tn, shq, List.contains_nil, List.contains_cons, Nat.reduceBEq, Bool.false_or, Bool.or_false, Bool.true_or, Bool.false_eq_true, if_false, if_true, true_and, and_true, List.set_cons_zero, List.set_cons_succ, List.length_cons, List.length_nil, Nat.reduceAdd, Nat.reduceLeDiff, Nat.le_refl, Nat.zero_le, true_or, or_true, zn_cl, ↓jj_LawR_readRules, g01, sz]
        refine ⟨k0, ?_⟩
        refine k_Tape_take (c := 40) s3.1 (by decide) (fun g4 f4 s4 => ?_)
        have f4' := f3'.tr (f4.w hw).x
        have r4 := zq_r_w hw (f4.w hw) r3
        simp only [↓zq, ↓reduceIte, zr_si2, zr_sr1, zr_cp2, zr_tl, zr_tn, shq, List.contains_nil, List.contains_cons, Nat.reduceBEq, Bool.false_or, Bool.or_false, Bool.true_or, Bool.false_eq_true, if_false, if_true, true_and, and_true, List.set_cons_zero, List.set_cons_succ, List.length_cons, List.length_nil, Nat.reduceAdd, Nat.reduceLeDiff, Nat.le_refl, Nat.zero_le, true_or, or_true, zn_cl, ↓jj_LawR_readRules]
        refine zm_C.mono (k_LawR_readConditionL (d := d + 10) (y := nI (6 - 5)) (w := w) (s := (t_tk T n 40 (p_r1 T n r.1 s).1, (p_r1 T n r.1 s).2)) (p_tst T n 5) (zg_of f4'.1 hg) ⟨s4, zq_c_t hw f4 s3.2⟩ (fun h1 s1 K1 gg1 qq1 hK1 => ?_) (fun g5 f5 s5 => ?_)) (Nat.le_refl _) (fun _ _ z => z)
        · exact (k_LawR_readTest 5 (by decide) d h1 K1 s1 gg1 qq1 hK1)
        · have f5' := f4'.tr f5.x
          have r5 := zq_r_w hw f5 r4
          have g0' : g5.2 3 0 = some 1 := by rw [f5'.1]; exact g0
          simp only [↓zq, ↓reduceIte, zr_si2, zr_sr1, zr_cp2, zr_tl, zr_tn, shq, List.contains_nil, List.contains_cons, Nat.reduceBEq, Bool.false_or, Bool.or_false, Bool.true_or, Bool.false_eq_true, if_false, if_true, true_and, and_true, List.set_cons_zero, List.set_cons_succ, List.length_cons, List.length_nil, Nat.reduceAdd, Nat.reduceLeDiff, Nat.le_refl, Nat.zero_le, true_or, or_true, zn_cl, ↓jj_LawR_readRules, g0']
          refine k_Tape_take (c := 41) s5.1 (by decide) (fun g6 f6 s6 => ?_)
          have f6' := f5'.tr (f6.w hw).x
          have r6 := zq_r_w hw (f6.w hw) r5
          have q6 : zq_s g6 T n w (p_r3 T n r.1 s, (p_r2 T n r.1 s).2) := ⟨s6, zq_c_t hw f6 s5.2⟩
          have g1' : g6.2 3 1 = some w := by rw [f6'.1]; exact g1
          simp only [↓zq, ↓reduceIte, zr_si2, zr_sr1, zr_cp2, zr_tl, zr_tn, shq, List.contains_nil, List.contains_cons, Nat.reduceBEq, Bool.false_or, Bool.or_false, Bool.true_or, Bool.false_eq_true, if_false, if_true, true_and, and_true, List.set_cons_zero, List.set_cons_succ, List.length_cons, List.length_nil, Nat.reduceAdd, Nat.reduceLeDiff, Nat.le_refl, Nat.zero_le, true_or, or_true, zn_cl, ↓jj_LawR_readRules, g1']
          refine ⟨k0, ?_⟩
          refine k_Law_addRule (x := t_c T n s.1) (zg_of f6'.1 hg) q6 r6 (fun g7 f7 s7 r7 => ?_)
          have f7' := f6'.tr f7
          have g0' : g7.2 3 0 = some 1 := by rw [f7'.1]; exact g0
          simp only [↓zq, ↓reduceIte, zr_si2, zr_sr1, zr_cp2, zr_tl, zr_tn, shq, List.contains_nil, List.contains_cons, Nat.reduceBEq, Bool.false_or, Bool.or_false, Bool.true_or, Bool.false_eq_true, if_false, if_true, true_and, and_true, List.set_cons_zero, List.set_cons_succ, List.length_cons, List.length_nil, Nat.reduceAdd, Nat.reduceLeDiff, Nat.le_refl, Nat.zero_le, true_or, or_true, zn_cl, ↓jj_LawR_readRules, g0']
          refine k_Tape_peek s7.1 ?_
          have e59 : (zt_v (t_c T n (p_r3 T n r.1 s)) = 59) = (t_c T n (p_r3 T n r.1 s) = 59) := zt_v_eq (k := 59) s7.1.c_le (by decide)
          simp only [↓zq, ↓reduceIte, zr_si2, zr_sr1, zr_cp2, zr_tl, zr_tn, shq, List.contains_nil, List.contains_cons, Nat.reduceBEq, Bool.false_or, Bool.or_false, Bool.true_or, Bool.false_eq_true, if_false, if_true, true_and, and_true, List.set_cons_zero, List.set_cons_succ, List.length_cons, List.length_nil, Nat.reduceAdd, Nat.reduceLeDiff, Nat.le_refl, Nat.zero_le, true_or, or_true, zn_cl, ↓jj_LawR_readRules, g0', e59]
          refine ⟨fun z => ?_, fun z => ?_⟩
          · rw [if_pos z] at he
            refine k_Tape_step s7.1 (t_c_lt (T := T) (by show t_c T n (p_r3 T n r.1 s) ≠ 256; omega)) (fun g8 f8 s8 => ?_)
            simp only [↓zq, ↓reduceIte, zr_si2, zr_sr1, zr_cp2, zr_tl, zr_tn, shq, List.contains_nil, List.contains_cons, Nat.reduceBEq, Bool.false_or, Bool.or_false, Bool.true_or, Bool.false_eq_true, if_false, if_true, true_and, and_true, List.set_cons_zero, List.set_cons_succ, List.length_cons, List.length_nil, Nat.reduceAdd, Nat.reduceLeDiff, Nat.le_refl, Nat.zero_le, true_or, or_true, zn_cl, ↓jj_LawR_readRules, nI_1]
            exact ih (i + 1) g8 _ (t_st (p_r3 T n r.1 s), (p_r2 T n r.1 s).2) _ _ _ (by omega) (f7'.tr (f8.w hw).x) ⟨s8, zq_c_t hw f8 s7.2⟩ (zq_r_w hw (f8.w hw) r7) he
          · rw [if_neg z] at he
            exact out g7 _ _ _ _ _ _ f7' s7 r7 he
      refine ⟨k0, fun z => ?_, fun z => ?_⟩
      · refine at39 g2 (zw_f.rf w g2) ?_
        unfold p_r1
        rw [if_pos z]
        exact q2
      · refine zm_C.mono (k_LawR_readSum 6 (by decide) d g2 _ (p_hd T n r.1 s.1, s.2) (zg_of f2'.1 hg) q2 (fun g3 f3 s3 => ?_)) (by omega) (fun _ _ z => z)
        simp only [↓zq, ↓reduceIte, zr_si2, zr_sr1, zr_cp2, zr_tl, zr_tn, shq, List.contains_nil, List.contains_cons, Nat.reduceBEq, Bool.false_or, Bool.or_false, Bool.true_or, Bool.false_eq_true, if_false, if_true, true_and, and_true, List.set_cons_zero, List.set_cons_succ, List.length_cons, List.length_nil, Nat.reduceAdd, Nat.reduceLeDiff, Nat.le_refl, Nat.zero_le, true_or, or_true, zn_cl, ↓jj_LawR_readRules]
        refine at39 g3 f3 ?_
        unfold p_r1
        rw [if_neg z]
        exact s3
  refine st_LawR_readRules [9, 39, 110] 30 ?_
  simp only [↓zq, ↓reduceIte, zr_si2, zr_sr1, zr_cp2, zr_tl, zr_tn, shq, List.contains_nil, List.contains_cons, Nat.reduceBEq, Bool.false_or, Bool.or_false, Bool.true_or, Bool.false_eq_true, if_false, if_true, true_and, and_true, List.set_cons_zero, List.set_cons_succ, List.length_cons, List.length_nil, Nat.reduceAdd, Nat.reduceLeDiff, Nat.le_refl, Nat.zero_le, true_or, or_true, zn_cl, ↓jj_LawR_readRules, g1]
  refine ⟨k0, k_Law_clear k0 ?_⟩
  simp only [↓zq, ↓reduceIte, zr_si2, zr_sr1, zr_cp2, zr_tl, zr_tn, shq, List.contains_nil, List.contains_cons, Nat.reduceBEq, Bool.false_or, Bool.or_false, Bool.true_or, Bool.false_eq_true, if_false, if_true, true_and, and_true, List.set_cons_zero, List.set_cons_succ, List.length_cons, List.length_nil, Nat.reduceAdd, Nat.reduceLeDiff, Nat.le_refl, Nat.zero_le, true_or, or_true, zn_cl, ↓jj_LawR_readRules]
  refine loop 17 0 _ zl_0.1 zl_0.2 _ _ _ (by omega) ⟨rfl, fun a h1 h2 => ?_, fun k hk => ?_⟩ ⟨zt_s_i hs rfl ?_ ?_, ?_, by decide, fun k hk => absurd hk (Nat.not_lt_zero _)⟩ ⟨?_, by decide, fun q hq => absurd hq (Nat.not_lt_zero _)⟩ rfl
  · funext j; rw [zr_si1, if_neg (by omega), zr_si1, if_neg (by omega)]
  · rw [zr_si1, if_neg (by omega), zr_si1, if_neg (by omega)]
  · funext j; rw [zr_si1, if_neg (by omega), zr_si1, if_neg (by omega)]
  · funext j; rw [zr_si1, if_neg (by omega), zr_si1, if_neg (by omega)]
  · rw [zr_si1, if_neg (by omega), zr_si1, if_pos ⟨rfl, rfl⟩]; rfl
  · rw [zr_si1, if_pos ⟨rfl, rfl⟩]; rfl
