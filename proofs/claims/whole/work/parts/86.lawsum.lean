/-! sums read by the class -/
def p_num (T : Nat → Nat) (n : Nat) : Nat → Nat → zt_S → Nat × zt_S
  | 0, v, e => (v, e)
  | f + 1, v, e => if 48 ≤ t_c T n e ∧ t_c T n e ≤ 57 then p_num T n f (10 * v + (t_c T n e - 48)) (t_st (if f = 0 then t_fl 2 e else e)) else (v, e)
/-- a factor; dp: how much deeper it may go -/
def p_fac (T : Nat → Nat) (n : Nat) (sub : zl_s → zl_s) (dp : Nat) (s : zl_s) : zl_s :=
  if t_c T n s.1 = 91 then (if dp = 0 then (t_fl 5 s.1, s.2) else (t_tk T n 93 (sub (t_st s.1, s.2)).1, (sub (t_st s.1, s.2)).2))
  else if l_let (t_c T n s.1) ≠ 7 then (t_st s.1, lc_push 1 (l_let (t_c T n s.1)) s.2)
  else if 48 ≤ t_c T n s.1 ∧ t_c T n s.1 ≤ 57 then ((p_num T n 6 0 s.1).2, lc_push 0 (p_num T n 6 0 s.1).1 s.2)
  else (t_fl 1 s.1, s.2)
def l_mul (c : Nat) : Prop := c = 42 ∨ c = 47 ∨ c = 37
def l_add (c : Nat) : Prop := c = 43 ∨ c = 45
def p_suml (T : Nat → Nat) (n : Nat) (fac : zl_s → zl_s) : Nat → Option Nat → Option Nat → zl_s → zl_s
  | 0, _, _, s => s
  | f + 1, ts, fs, s =>
    if t_c T n (fac s).1 = 42 ∨ t_c T n (fac s).1 = 47 ∨ t_c T n (fac s).1 = 37 then p_suml T n fac f ts (some (l_op (t_c T n (fac s).1))) (t_st (fac s).1, lc_wait fs (fac s).2)
    else if t_c T n (fac s).1 = 43 ∨ t_c T n (fac s).1 = 45 then p_suml T n fac f (some (l_op (t_c T n (fac s).1))) none (t_st (fac s).1, lc_wait ts (lc_wait fs (fac s).2))
    else ((fac s).1, lc_wait ts (lc_wait fs (fac s).2))
def p_sum (T : Nat → Nat) (n : Nat) : Nat → zl_s → zl_s
  | 0 => p_suml T n (p_fac T n id 0) 240 none none
  | d + 1 => p_suml T n (p_fac T n (p_sum T n d) (d + 1)) 240 none none
theorem p_suml_s (T : Nat → Nat) (n : Nat) (fac : zl_s → zl_s) (f : Nat) (ts fs : Option Nat) (s : zl_s) : p_suml T n fac (f + 1) ts fs s = if t_c T n (fac s).1 = 42 ∨ t_c T n (fac s).1 = 47 ∨ t_c T n (fac s).1 = 37 then p_suml T n fac f ts (some (l_op (t_c T n (fac s).1))) (t_st (fac s).1, lc_wait fs (fac s).2)
    else if t_c T n (fac s).1 = 43 ∨ t_c T n (fac s).1 = 45 then p_suml T n fac f (some (l_op (t_c T n (fac s).1))) none (t_st (fac s).1, lc_wait ts (lc_wait fs (fac s).2))
    else ((fac s).1, lc_wait ts (lc_wait fs (fac s).2)) := rfl
theorem p_num_s (T : Nat → Nat) (n f v : Nat) (e : zt_S) : p_num T n (f + 1) v e = if 48 ≤ t_c T n e ∧ t_c T n e ≤ 57 then p_num T n f (10 * v + (t_c T n e - 48)) (t_st (if f = 0 then t_fl 2 e else e)) else (v, e) := rfl
theorem p_num_lt (T : Nat → Nat) (n : Nat) : ∀ (f v m : Nat) (e : zt_S), v < 10 ^ m → f + m ≤ 6 → (p_num T n f v e).1 < 10 ^ 6 := by
  intro f
  induction f with
  | zero => intro v m e hv hm; exact Nat.lt_of_lt_of_le hv (Nat.pow_le_pow_right (by decide) (by omega))
  | succ f ih =>
    intro v m e hv hm
    rw [p_num_s]
    split
    · refine ih _ (m + 1) _ ?_ (by omega)
      rw [Nat.pow_succ]
      omega
    · exact Nat.lt_of_lt_of_le hv (Nat.pow_le_pow_right (by decide) (by omega))
theorem zt_dig {c : Nat} (hc : c ≤ 256) : (48 ≤ c ∧ c ≤ 57) ↔ (¬ zt_v c < 48 ∧ ¬ 57 < zt_v c) := by
  unfold zt_v
  split
  · next q =>
    constructor
    · intro z; omega
    · intro z; exact absurd (by decide) z.1
  · next q =>
    constructor
    · intro z; exact ⟨nI_nlt (b := 48) z.1 (by omega), nI_nlt (a := 57) z.2 (by omega)⟩
    · intro z
      refine ⟨?_, ?_⟩
      · rcases Nat.lt_or_ge c 48 with y | y
        · exact absurd (nI_lt (b := 48) y (by decide)) z.1
        · exact y
      · rcases Nat.lt_or_ge 57 c with y | y
        · exact absurd (nI_lt (a := 57) y (by omega)) z.2
        · exact y
set_option maxHeartbeats 4000000 in
set_option maxRecDepth 100000 in
theorem k_LawR_readNumber {d : Nat} {h : zm_M} {R : zm_R} {T : Nat → Nat} {n : Nat} {e : zt_S} (hg : h.2 3 0 = some 1) (hs : zt_s h T n e) (hR : ∀ h' : zm_M, zt_f h h' → zt_s h' T n (p_num T n 6 0 e).2 → R (some (.inl (nI (p_num T n 6 0 e).1))) h') : zm_C (d + 2) TT m_LawR_readNumber [.inr (some 3)] h R := by
  have loop : ∀ (f i v m : Nat) (g : zm_M) (e' : zt_S) (l3 : Option zm_V), i + f = 6 → v < 10 ^ m → f + m ≤ 6 → zt_f h g → zt_s g T n e' → p_num T n 6 0 e = p_num T n f v e' → zm_W (zm_md m_LawR_readNumber) (d + 2) TT R 4 [some (.inr (some 3)), some (.inl (nI v)), some (.inl (nI i)), l3] [] g := by
    intro f
    induction f with
    | zero =>
      intro i v m g e' l3 hi hv hm hf hs' he
      have : i = 6 := by omega
      subst this
      rw [he] at hR
      refine zm_go g_LawR_readNumber [4] 30 (by decide +kernel) ok_LawR_readNumber _ rfl ?_
      simp only [↓zq, ↓reduceIte, zr_si2, zr_sr1, zr_cp2, zr_tl, zr_tn, shq, List.contains_nil, List.contains_cons, Nat.reduceBEq, Bool.false_or, Bool.or_false, Bool.true_or, Bool.false_eq_true, if_false, if_true, true_and, and_true, List.set_cons_zero, List.set_cons_succ, List.length_cons, List.length_nil, Nat.reduceAdd, Nat.reduceLeDiff, Nat.le_refl, Nat.zero_le, true_or, or_true, zn_cl, ↓jj_LawR_readNumber]
      exact ⟨fun _ => hR g hf hs', fun z => absurd (by decide) z⟩
    | succ f ih =>
      intro i v m g e' l3 hi hv hm hf hs' he
      have g0 : g.2 3 0 = some 1 := by rw [hf.1]; exact hg
      rw [p_num_s T n f v e'] at he
      have cl := hs'.c_le
      refine zm_go g_LawR_readNumber [4, 40] 30 (by decide +kernel) ok_LawR_readNumber _ rfl ?_
      simp only [↓zq, ↓reduceIte, zr_si2, zr_sr1, zr_cp2, zr_tl, zr_tn, shq, List.contains_nil, List.contains_cons, Nat.reduceBEq, Bool.false_or, Bool.or_false, Bool.true_or, Bool.false_eq_true, if_false, if_true, true_and, and_true, List.set_cons_zero, List.set_cons_succ, List.length_cons, List.length_nil, Nat.reduceAdd, Nat.reduceLeDiff, Nat.le_refl, Nat.zero_le, true_or, or_true, zn_cl, ↓jj_LawR_readNumber, g0]
      refine ⟨fun z => absurd z (nI_nlt (a := 5) (by omega) (by omega)), fun _ => ?_⟩
      refine k_Tape_peek hs' ?_
      simp only [↓zq, ↓reduceIte, zr_si2, zr_sr1, zr_cp2, zr_tl, zr_tn, shq, List.contains_nil, List.contains_cons, Nat.reduceBEq, Bool.false_or, Bool.or_false, Bool.true_or, Bool.false_eq_true, if_false, if_true, true_and, and_true, List.set_cons_zero, List.set_cons_succ, List.length_cons, List.length_nil, Nat.reduceAdd, Nat.reduceLeDiff, Nat.le_refl, Nat.zero_le, true_or, or_true, zn_cl, ↓jj_LawR_readNumber]
      refine k_KS_isDigit (fun z1 z2 => ?_) (fun z => ?_)
      · have hd := (zt_dig cl).mpr ⟨z1, z2⟩
        rw [if_pos hd] at he
        have hv6 : v < 10 ^ 5 := Nat.lt_of_lt_of_le hv (Nat.pow_le_pow_right (by decide) (by omega))
        have go : ∀ (g2 : zm_M), zt_f h g2 → zt_s g2 T n (if f = 0 then t_fl 2 e' else e') → zm_W (zm_md m_LawR_readNumber) (d + 2) TT R 40 [some (.inr (some 3)), some (.inl (nI v)), some (.inl (nI i)), some (.inl (zt_v (t_c T n e')))] [] g2 := by
          intro g2 f2 s2
          have g0 : g2.2 3 0 = some 1 := by rw [f2.1]; exact hg
          have ev : nI v * 10 + zt_v (t_c T n e') - 48 = nI (10 * v + (t_c T n e' - 48)) := by
            have e1 : zt_v (t_c T n e') = nI (t_c T n e') := if_neg (by omega)
            rw [e1, show (10 : Int32) = nI 10 from rfl, pk_mul, nI_add, show (48 : Int32) = nI 48 from rfl, pk_sub (by omega)]
            congr 1
            omega
          refine zm_go g_LawR_readNumber [4, 40] 30 (by decide +kernel) ok_LawR_readNumber _ rfl ?_
          simp only [↓zq, ↓reduceIte, zr_si2, zr_sr1, zr_cp2, zr_tl, zr_tn, shq, List.contains_nil, List.contains_cons, Nat.reduceBEq, Bool.false_or, Bool.or_false, Bool.true_or, Bool.false_eq_true, if_false, if_true, true_and, and_true, List.set_cons_zero, List.set_cons_succ, List.length_cons, List.length_nil, Nat.reduceAdd, Nat.reduceLeDiff, Nat.le_refl, Nat.zero_le, true_or, or_true, zn_cl, ↓jj_LawR_readNumber, g0, ev]
          refine k_Tape_step s2 (fun p hp => ?_) (fun g3 f3 s3 => ?_)
          · split at hp
            · exact absurd hp (t_st_fl p)
            · exact t_c_lt (T := T) (by omega) p hp
          · simp only [↓zq, ↓reduceIte, zr_si2, zr_sr1, zr_cp2, zr_tl, zr_tn, shq, List.contains_nil, List.contains_cons, Nat.reduceBEq, Bool.false_or, Bool.or_false, Bool.true_or, Bool.false_eq_true, if_false, if_true, true_and, and_true, List.set_cons_zero, List.set_cons_succ, List.length_cons, List.length_nil, Nat.reduceAdd, Nat.reduceLeDiff, Nat.le_refl, Nat.zero_le, true_or, or_true, zn_cl, ↓jj_LawR_readNumber, nI_1]
            exact ih (i + 1) _ (m + 1) g3 _ _ (by omega) (by rw [Nat.pow_succ]; omega) (by omega) (f2.tr f3) s3 he
        simp only [↓zq, ↓reduceIte, zr_si2, zr_sr1, zr_cp2, zr_tl, zr_tn, shq, List.contains_nil, List.contains_cons, Nat.reduceBEq, Bool.false_or, Bool.or_false, Bool.true_or, Bool.false_eq_true, if_false, if_true, true_and, and_true, List.set_cons_zero, List.set_cons_succ, List.length_cons, List.length_nil, Nat.reduceAdd, Nat.reduceLeDiff, Nat.le_refl, Nat.zero_le, true_or, or_true, zn_cl, ↓jj_LawR_readNumber, g0]
        refine ⟨fun _ => ?_, fun z => absurd z (by decide)⟩
        have e5 : (nI i = 5) = (f = 0) := by rw [show (5 : Int32) = nI 5 from rfl, zn_eq (by omega) (by omega)]; apply propext; omega
        rw [e5]
        refine ⟨fun z => ?_, fun z => ?_⟩
        · rw [if_neg z] at go
          exact go g hf hs'
        · rw [if_pos z] at go
          refine k_Tape_fail (f := 2) hs' (by decide) (by decide) (fun g2 f2 s2 => ?_)
          simp only [↓zq, ↓reduceIte, zr_si2, zr_sr1, zr_cp2, zr_tl, zr_tn, shq, List.contains_nil, List.contains_cons, Nat.reduceBEq, Bool.false_or, Bool.or_false, Bool.true_or, Bool.false_eq_true, if_false, if_true, true_and, and_true, List.set_cons_zero, List.set_cons_succ, List.length_cons, List.length_nil, Nat.reduceAdd, Nat.reduceLeDiff, Nat.le_refl, Nat.zero_le, true_or, or_true, zn_cl, ↓jj_LawR_readNumber]
          exact go g2 (hf.tr f2) s2
      · have nd : ¬ (48 ≤ t_c T n e' ∧ t_c T n e' ≤ 57) := fun q => by
          have := (zt_dig cl).mp q
          rcases z with z | z
          · exact this.1 z
          · exact this.2 z
        rw [if_neg nd] at he
        rw [he] at hR
        simp only [↓zq, ↓reduceIte, zr_si2, zr_sr1, zr_cp2, zr_tl, zr_tn, shq, List.contains_nil, List.contains_cons, Nat.reduceBEq, Bool.false_or, Bool.or_false, Bool.true_or, Bool.false_eq_true, if_false, if_true, true_and, and_true, List.set_cons_zero, List.set_cons_succ, List.length_cons, List.length_nil, Nat.reduceAdd, Nat.reduceLeDiff, Nat.le_refl, Nat.zero_le, true_or, or_true, zn_cl, ↓jj_LawR_readNumber]
        exact ⟨fun z => (by first | exact absurd trivial z | exact absurd rfl z | exact absurd z (by decide)), fun _ => hR g hf hs'⟩
  refine st_LawR_readNumber [4, 40] 30 ?_
  simp only [↓zq, ↓reduceIte, zr_si2, zr_sr1, zr_cp2, zr_tl, zr_tn, shq, List.contains_nil, List.contains_cons, Nat.reduceBEq, Bool.false_or, Bool.or_false, Bool.true_or, Bool.false_eq_true, if_false, if_true, true_and, and_true, List.set_cons_zero, List.set_cons_succ, List.length_cons, List.length_nil, Nat.reduceAdd, Nat.reduceLeDiff, Nat.le_refl, Nat.zero_le, true_or, or_true, zn_cl, ↓jj_LawR_readNumber]
  exact loop 6 0 0 0 h e none (by omega) (by decide) (by omega) (zt_f.rf h) hs rfl
set_option maxHeartbeats 4000000 in
set_option maxRecDepth 100000 in
theorem k_LawR_readFactor {d : Nat} {h : zm_M} {R : zm_R} {T : Nat → Nat} {n w dp : Nat} {s : zl_s} (sub : zl_s → zl_s) (hdp : dp ≤ 6) (hg : zg h.2 w) (hs : zq_s h T n w s) (hsub : 0 < dp → ∀ (h1 : zm_M) (s1 : zl_s) (K : zm_R), zg h1.2 w → zq_s h1 T n w s1 → (∀ h' : zm_M, zw_f w h1 h' → zq_s h' T n w (sub s1) → K none h') → zm_C (d + 3) TT m_LawR_readSum [.inr (some 3), .inl (nI (6 - (dp - 1)))] h1 K) (hR : ∀ h' : zm_M, zw_f w h h' → zq_s h' T n w (p_fac T n sub dp s) → R none h') : zm_C (d + 4) TT m_LawR_readFactor [.inr (some 3), .inl (nI (6 - dp))] h R := by
  obtain ⟨g0, g1, g3, hw⟩ := id hg
  have k0 := g3.1
  obtain ⟨t1, c1⟩ := id hs
  have cl := t1.c_le
  unfold p_fac at hR
  refine st_LawR_readFactor [] 30 ?_
  simp only [↓zq, ↓reduceIte, zr_si2, zr_sr1, zr_cp2, zr_tl, zr_tn, shq, List.contains_nil, List.contains_cons, Nat.reduceBEq, Bool.false_or, Bool.or_false, Bool.true_or, Bool.false_eq_true, if_false, if_true, true_and, and_true, List.set_cons_zero, List.set_cons_succ, List.length_cons, List.length_nil, Nat.reduceAdd, Nat.reduceLeDiff, Nat.le_refl, Nat.zero_le, true_or, or_true, zn_cl, ↓jj_LawR_readFactor, g0]
  refine k_Tape_peek t1 ?_
  simp only [↓zq, ↓reduceIte, zr_si2, zr_sr1, zr_cp2, zr_tl, zr_tn, shq, List.contains_nil, List.contains_cons, Nat.reduceBEq, Bool.false_or, Bool.or_false, Bool.true_or, Bool.false_eq_true, if_false, if_true, true_and, and_true, List.set_cons_zero, List.set_cons_succ, List.length_cons, List.length_nil, Nat.reduceAdd, Nat.reduceLeDiff, Nat.le_refl, Nat.zero_le, true_or, or_true, zn_cl, ↓jj_LawR_readFactor]
  refine k_Law_letterOf cl ?_
  have e91 : (zt_v (t_c T n s.1) = 91) = (t_c T n s.1 = 91) := zt_v_eq (k := 91) cl (by decide)
  have e6 : (nI (6 - dp) < 6) = (0 < dp) := by rw [show (6 : Int32) = nI 6 from rfl, zn_lt (by omega) (by omega)]; apply propext; omega
  have e1 : nI (6 - dp) + 1 = nI (6 - dp + 1) := nI_1 _
  by_cases h91 : t_c T n s.1 = 91
  · rw [if_pos h91] at hR
    have t91 := eq_true h91
    simp only [↓zq, ↓reduceIte, zr_si2, zr_sr1, zr_cp2, zr_tl, zr_tn, shq, List.contains_nil, List.contains_cons, Nat.reduceBEq, Bool.false_or, Bool.or_false, Bool.true_or, Bool.false_eq_true, if_false, if_true, true_and, and_true, List.set_cons_zero, List.set_cons_succ, List.length_cons, List.length_nil, Nat.reduceAdd, Nat.reduceLeDiff, Nat.le_refl, Nat.zero_le, true_or, or_true, zn_cl, ↓jj_LawR_readFactor, g0, e91, t91, e6, e1]
    simp only [not_false_eq_true, not_true_eq_false, false_imp_iff, true_imp_iff, forall_const, and_true, true_and, and_self, false_or, or_false, Int32.reduceLT, Int32.reduceLE, Int32.reduceSub, Int32.reduceAdd]
    refine ⟨fun z => ?_, fun z => ?_⟩
    · rw [if_neg (by omega)] at hR
      refine k_Tape_step t1 (t_c_lt (T := T) (by omega)) (fun h2 f2 s2 => ?_)
      simp only [↓zq, ↓reduceIte, zr_si2, zr_sr1, zr_cp2, zr_tl, zr_tn, shq, List.contains_nil, List.contains_cons, Nat.reduceBEq, Bool.false_or, Bool.or_false, Bool.true_or, Bool.false_eq_true, if_false, if_true, true_and, and_true, List.set_cons_zero, List.set_cons_succ, List.length_cons, List.length_nil, Nat.reduceAdd, Nat.reduceLeDiff, Nat.le_refl, Nat.zero_le, true_or, or_true, zn_cl, ↓jj_LawR_readFactor]
      have en : 6 - dp + 1 = 6 - (dp - 1) := by omega
      rw [en]
      refine hsub z h2 (t_st s.1, s.2) _ (zg_of f2.1 hg) ⟨s2, zq_c_t hw f2 c1⟩ (fun h3 f3 s3 => ?_)
      have g0' : h3.2 3 0 = some 1 := by rw [f3.1, f2.1]; exact g0
      simp only [↓zq, ↓reduceIte, zr_si2, zr_sr1, zr_cp2, zr_tl, zr_tn, shq, List.contains_nil, List.contains_cons, Nat.reduceBEq, Bool.false_or, Bool.or_false, Bool.true_or, Bool.false_eq_true, if_false, if_true, true_and, and_true, List.set_cons_zero, List.set_cons_succ, List.length_cons, List.length_nil, Nat.reduceAdd, Nat.reduceLeDiff, Nat.le_refl, Nat.zero_le, true_or, or_true, zn_cl, ↓jj_LawR_readFactor, g0']
      refine k_Tape_take (c := 93) s3.1 (by decide) (fun h4 f4 s4 => ?_)
      simp only [↓zq, ↓reduceIte, zr_si2, zr_sr1, zr_cp2, zr_tl, zr_tn, shq, List.contains_nil, List.contains_cons, Nat.reduceBEq, Bool.false_or, Bool.or_false, Bool.true_or, Bool.false_eq_true, if_false, if_true, true_and, and_true, List.set_cons_zero, List.set_cons_succ, List.length_cons, List.length_nil, Nat.reduceAdd, Nat.reduceLeDiff, Nat.le_refl, Nat.zero_le, true_or, or_true, zn_cl, ↓jj_LawR_readFactor]
      exact hR h4 (((f2.w hw).tr f3).tr (f4.w hw)) ⟨s4, zq_c_t hw f4 s3.2⟩
    · rw [if_pos (by omega)] at hR
      refine k_Tape_fail (f := 5) t1 (by decide) (by decide) (fun h2 f2 s2 => ?_)
      simp only [↓zq, ↓reduceIte, zr_si2, zr_sr1, zr_cp2, zr_tl, zr_tn, shq, List.contains_nil, List.contains_cons, Nat.reduceBEq, Bool.false_or, Bool.or_false, Bool.true_or, Bool.false_eq_true, if_false, if_true, true_and, and_true, List.set_cons_zero, List.set_cons_succ, List.length_cons, List.length_nil, Nat.reduceAdd, Nat.reduceLeDiff, Nat.le_refl, Nat.zero_le, true_or, or_true, zn_cl, ↓jj_LawR_readFactor]
      exact hR h2 (f2.w hw) ⟨s2, zq_c_t hw f2 c1⟩
  · rw [if_neg h91] at hR
    have t91 := eq_false h91
    by_cases hl : l_let (t_c T n s.1) = 7
    · rw [if_neg (fun z => z hl)] at hR
      have el : (zt_l (l_let (t_c T n s.1)) = -1) = True := eq_true (if_pos hl)
      simp only [↓zq, ↓reduceIte, zr_si2, zr_sr1, zr_cp2, zr_tl, zr_tn, shq, List.contains_nil, List.contains_cons, Nat.reduceBEq, Bool.false_or, Bool.or_false, Bool.true_or, Bool.false_eq_true, if_false, if_true, true_and, and_true, List.set_cons_zero, List.set_cons_succ, List.length_cons, List.length_nil, Nat.reduceAdd, Nat.reduceLeDiff, Nat.le_refl, Nat.zero_le, true_or, or_true, zn_cl, ↓jj_LawR_readFactor, g0, e91, t91, el]
      simp only [not_false_eq_true, not_true_eq_false, false_imp_iff, true_imp_iff, forall_const, and_true, true_and, and_self, false_or, or_false, Int32.reduceLT, Int32.reduceLE, Int32.reduceSub, Int32.reduceAdd]
      refine k_KS_isDigit (fun z1 z2 => ?_) (fun z => ?_)
      · have hd := (zt_dig cl).mpr ⟨z1, z2⟩
        rw [if_pos hd] at hR
        simp only [↓zq, ↓reduceIte, zr_si2, zr_sr1, zr_cp2, zr_tl, zr_tn, shq, List.contains_nil, List.contains_cons, Nat.reduceBEq, Bool.false_or, Bool.or_false, Bool.true_or, Bool.false_eq_true, if_false, if_true, true_and, and_true, List.set_cons_zero, List.set_cons_succ, List.length_cons, List.length_nil, Nat.reduceAdd, Nat.reduceLeDiff, Nat.le_refl, Nat.zero_le, true_or, or_true, zn_cl, ↓jj_LawR_readFactor, g1]
        refine ⟨fun z => absurd z (by decide), fun _ => ?_⟩
        refine k_LawR_readNumber g0 t1 (fun h2 f2 s2 => ?_)
        simp only [↓zq, ↓reduceIte, zr_si2, zr_sr1, zr_cp2, zr_tl, zr_tn, shq, List.contains_nil, List.contains_cons, Nat.reduceBEq, Bool.false_or, Bool.or_false, Bool.true_or, Bool.false_eq_true, if_false, if_true, true_and, and_true, List.set_cons_zero, List.set_cons_succ, List.length_cons, List.length_nil, Nat.reduceAdd, Nat.reduceLeDiff, Nat.le_refl, Nat.zero_le, true_or, or_true, zn_cl, ↓jj_LawR_readFactor]
        refine ⟨k0, ?_⟩
        refine k_Law_addStep (op := 0) (s := ((p_num T n 6 0 s.1).2, s.2)) (zg_of f2.1 hg) ⟨s2, zq_c_t hw f2 c1⟩ (fun h3 f3 s3 => ?_)
        simp only [↓zq, ↓reduceIte, zr_si2, zr_sr1, zr_cp2, zr_tl, zr_tn, shq, List.contains_nil, List.contains_cons, Nat.reduceBEq, Bool.false_or, Bool.or_false, Bool.true_or, Bool.false_eq_true, if_false, if_true, true_and, and_true, List.set_cons_zero, List.set_cons_succ, List.length_cons, List.length_nil, Nat.reduceAdd, Nat.reduceLeDiff, Nat.le_refl, Nat.zero_le, true_or, or_true, zn_cl, ↓jj_LawR_readFactor]
        exact hR h3 ((f2.w hw).tr f3) s3
      · have nd : ¬ (48 ≤ t_c T n s.1 ∧ t_c T n s.1 ≤ 57) := fun q => by
          have := (zt_dig cl).mp q
          rcases z with z | z
          · exact this.1 z
          · exact this.2 z
        rw [if_neg nd] at hR
        simp only [↓zq, ↓reduceIte, zr_si2, zr_sr1, zr_cp2, zr_tl, zr_tn, shq, List.contains_nil, List.contains_cons, Nat.reduceBEq, Bool.false_or, Bool.or_false, Bool.true_or, Bool.false_eq_true, if_false, if_true, true_and, and_true, List.set_cons_zero, List.set_cons_succ, List.length_cons, List.length_nil, Nat.reduceAdd, Nat.reduceLeDiff, Nat.le_refl, Nat.zero_le, true_or, or_true, zn_cl, ↓jj_LawR_readFactor, g0]
        refine ⟨fun _ => ?_, fun z => (by first | exact absurd trivial z | exact absurd rfl z | exact absurd z (by decide))⟩
        refine k_Tape_fail (f := 1) t1 (by decide) (by decide) (fun h2 f2 s2 => ?_)
        simp only [↓zq, ↓reduceIte, zr_si2, zr_sr1, zr_cp2, zr_tl, zr_tn, shq, List.contains_nil, List.contains_cons, Nat.reduceBEq, Bool.false_or, Bool.or_false, Bool.true_or, Bool.false_eq_true, if_false, if_true, true_and, and_true, List.set_cons_zero, List.set_cons_succ, List.length_cons, List.length_nil, Nat.reduceAdd, Nat.reduceLeDiff, Nat.le_refl, Nat.zero_le, true_or, or_true, zn_cl, ↓jj_LawR_readFactor]
        exact hR h2 (f2.w hw) ⟨s2, zq_c_t hw f2 c1⟩
    · rw [if_pos hl] at hR
      have ll : l_let (t_c T n s.1) ≤ 7 := by
        unfold l_let
        repeat' split
        all_goals omega
      have ez : zt_l (l_let (t_c T n s.1)) = nI (l_let (t_c T n s.1)) := if_neg hl
      have nm : ¬ nI (l_let (t_c T n s.1)) = -1 := fun z => absurd (show nI (l_let (t_c T n s.1)) < 0 by rw [z]; decide) (nI_pos (by omega))
      have n256 : t_c T n s.1 ≠ 256 := fun z => hl (by rw [z]; rfl)
      rw [ez]
      simp only [↓zq, ↓reduceIte, zr_si2, zr_sr1, zr_cp2, zr_tl, zr_tn, shq, List.contains_nil, List.contains_cons, Nat.reduceBEq, Bool.false_or, Bool.or_false, Bool.true_or, Bool.false_eq_true, if_false, if_true, true_and, and_true, List.set_cons_zero, List.set_cons_succ, List.length_cons, List.length_nil, Nat.reduceAdd, Nat.reduceLeDiff, Nat.le_refl, Nat.zero_le, true_or, or_true, zn_cl, ↓jj_LawR_readFactor, g0, e91, t91, nm]
      simp only [not_false_eq_true, not_true_eq_false, false_imp_iff, true_imp_iff, forall_const, and_true, true_and, and_self, false_or, or_false, Int32.reduceLT, Int32.reduceLE, Int32.reduceSub, Int32.reduceAdd]
      refine k_Tape_step t1 (t_c_lt (T := T) n256) (fun h2 f2 s2 => ?_)
      have g1' : h2.2 3 1 = some w := by rw [f2.1]; exact g1
      simp only [↓zq, ↓reduceIte, zr_si2, zr_sr1, zr_cp2, zr_tl, zr_tn, shq, List.contains_nil, List.contains_cons, Nat.reduceBEq, Bool.false_or, Bool.or_false, Bool.true_or, Bool.false_eq_true, if_false, if_true, true_and, and_true, List.set_cons_zero, List.set_cons_succ, List.length_cons, List.length_nil, Nat.reduceAdd, Nat.reduceLeDiff, Nat.le_refl, Nat.zero_le, true_or, or_true, zn_cl, ↓jj_LawR_readFactor, g1']
      refine ⟨k0, ?_⟩
      refine k_Law_addStep (op := 1) (s := (t_st s.1, s.2)) (zg_of f2.1 hg) ⟨s2, zq_c_t hw f2 c1⟩ (fun h3 f3 s3 => ?_)
      simp only [↓zq, ↓reduceIte, zr_si2, zr_sr1, zr_cp2, zr_tl, zr_tn, shq, List.contains_nil, List.contains_cons, Nat.reduceBEq, Bool.false_or, Bool.or_false, Bool.true_or, Bool.false_eq_true, if_false, if_true, true_and, and_true, List.set_cons_zero, List.set_cons_succ, List.length_cons, List.length_nil, Nat.reduceAdd, Nat.reduceLeDiff, Nat.le_refl, Nat.zero_le, true_or, or_true, zn_cl, ↓jj_LawR_readFactor]
      exact hR h3 ((f2.w hw).tr f3) s3
