/-! texts of shapes, summaries, questions: what the class reads -/
def f_sd (T : Nat → Nat) (n : Nat) (e : zt_S) : Nat × zt_S := if 97 ≤ t_c T n e ∧ t_c T n e < 100 then (t_c T n e - 97, t_st e) else (0, t_fl 1 e)
def f_dg (T : Nat → Nat) (n m : Nat) (e : zt_S) : Nat × zt_S := if 48 ≤ t_c T n e ∧ t_c T n e ≤ 48 + m then (t_c T n e - 48, t_st e) else (0, t_fl 1 e)
def f_lv (T : Nat → Nat) (n m : Nat) (e : zt_S) : Nat × zt_S := f_dg T n m (if 48 + m < t_c T n e ∧ t_c T n e ≤ 57 then t_fl 3 e else e)
theorem f_sd_lt (T : Nat → Nat) (n : Nat) (e : zt_S) : (f_sd T n e).1 < 3 := by
  unfold f_sd
  split
  · dsimp only; omega
  · show (0 : Nat) < 3
    decide
theorem f_dg_le (T : Nat → Nat) (n m : Nat) (e : zt_S) : (f_dg T n m e).1 ≤ m := by
  unfold f_dg
  split
  · dsimp only; omega
  · exact Nat.zero_le _
theorem f_lv_le (T : Nat → Nat) (n m : Nat) (e : zt_S) : (f_lv T n m e).1 ≤ m := f_dg_le T n m _
theorem zp_13 {P : Nat → Nat → Option Nat} (hp : zp_ok P) : P 13 0 = some 1 ∧ P 13 1 = some 14 ∧ P 13 2 = some 16 := by
  refine ⟨?_, ?_, ?_⟩ <;> simp only [hp]
theorem zk_cutF {P : Nat → Nat → Option Nat} (hp : zp_ok P) : zk_cut P 16 := by
  refine ⟨rfl, rfl, rfl, ?_, ?_⟩ <;> simp only [hp]
theorem zk_shp14 {P : Nat → Nat → Option Nat} (hp : zp_ok P) : zk_shp P 14 := by
  refine ⟨rfl, rfl, ?_⟩ <;> simp only [hp]
set_option maxHeartbeats 4000000 in
set_option maxRecDepth 100000 in
theorem k_Form_readSide {d : Nat} {h : zm_M} {R : zm_R} {T : Nat → Nat} {n : Nat} {e : zt_S} (hp : zp_ok h.2) (hs : zt_s h T n e) (hR : ∀ h' : zm_M, zt_f h h' → zt_s h' T n (f_sd T n e).2 → R (some (.inl (nI (f_sd T n e).1))) h') : zm_C (d + 2) TT m_Form_readSide [.inr (some 13)] h R := by
  obtain ⟨p0, p1, p2⟩ := zp_13 hp
  have cl := hs.c_le
  refine st_Form_readSide [] 30 ?_
  simp only [↓zq, ↓reduceIte, zr_si2, zr_sr1, zr_cp2, zr_tl, zr_tn, shq, List.contains_nil, List.contains_cons, Nat.reduceBEq, Bool.false_or, Bool.or_false, Bool.true_or, Bool.false_eq_true, if_false, if_true, true_and, and_true, List.set_cons_zero, List.set_cons_succ, List.length_cons, List.length_nil, Nat.reduceAdd, Nat.reduceLeDiff, Nat.le_refl, Nat.zero_le, true_or, or_true, zn_cl, ↓jj_Form_readSide, p0]
  refine k_Tape_peek hs ?_
  simp only [↓zq, ↓reduceIte, zr_si2, zr_sr1, zr_cp2, zr_tl, zr_tn, shq, List.contains_nil, List.contains_cons, Nat.reduceBEq, Bool.false_or, Bool.or_false, Bool.true_or, Bool.false_eq_true, if_false, if_true, true_and, and_true, List.set_cons_zero, List.set_cons_succ, List.length_cons, List.length_nil, Nat.reduceAdd, Nat.reduceLeDiff, Nat.le_refl, Nat.zero_le, true_or, or_true, zn_cl, ↓jj_Form_readSide, p0]
  by_cases hc : 97 ≤ t_c T n e ∧ t_c T n e < 100
  · have e1 : f_sd T n e = (t_c T n e - 97, t_st e) := if_pos hc
    rw [e1] at hR
    rw [show zt_v (t_c T n e) - 97 = nI (t_c T n e - 97) from zt_v_sub (by omega) hc.1]
    refine k_KS_isSide (fun j hj ej => ?_) (fun z => ?_)
    · simp only [↓zq, ↓reduceIte, zr_si2, zr_sr1, zr_cp2, zr_tl, zr_tn, shq, List.contains_nil, List.contains_cons, Nat.reduceBEq, Bool.false_or, Bool.or_false, Bool.true_or, Bool.false_eq_true, if_false, if_true, true_and, and_true, List.set_cons_zero, List.set_cons_succ, List.length_cons, List.length_nil, Nat.reduceAdd, Nat.reduceLeDiff, Nat.le_refl, Nat.zero_le, true_or, or_true, zn_cl, ↓jj_Form_readSide, p0]
      refine ⟨fun _ => ?_, fun z => absurd z (by decide)⟩
      refine k_Tape_step hs (t_c_lt (T := T) (by omega)) (fun h' hf hs' => ?_)
      simp only [↓zq, ↓reduceIte, zr_si2, zr_sr1, zr_cp2, zr_tl, zr_tn, shq, List.contains_nil, List.contains_cons, Nat.reduceBEq, Bool.false_or, Bool.or_false, Bool.true_or, Bool.false_eq_true, if_false, if_true, true_and, and_true, List.set_cons_zero, List.set_cons_succ, List.length_cons, List.length_nil, Nat.reduceAdd, Nat.reduceLeDiff, Nat.le_refl, Nat.zero_le, true_or, or_true, zn_cl, ↓jj_Form_readSide]
      exact hR h' hf hs'
    · exfalso
      rcases z with z | z
      · exact nI_pos (by omega) z
      · exact nI_ge (b := 3) (by omega) (by decide) z
  · have e1 : f_sd T n e = (0, t_fl 1 e) := if_neg hc
    rw [e1] at hR
    refine k_KS_isSide (fun j hj ej => ?_) (fun z => ?_)
    · exfalso
      by_cases h0 : t_c T n e = 256 ∨ t_c T n e < 97
      · have := zt_v_neg h0 (by decide)
        rw [show nI 97 = 97 from rfl, ej] at this
        exact nI_pos (by omega) this
      · have e2 : zt_v (t_c T n e) - 97 = nI (t_c T n e - 97) := zt_v_sub (k := 97) (by omega) (by omega)
        rw [e2] at ej
        have := (nI_eq (by omega) (by omega)).mp ej
        omega
    · simp only [↓zq, ↓reduceIte, zr_si2, zr_sr1, zr_cp2, zr_tl, zr_tn, shq, List.contains_nil, List.contains_cons, Nat.reduceBEq, Bool.false_or, Bool.or_false, Bool.true_or, Bool.false_eq_true, if_false, if_true, true_and, and_true, List.set_cons_zero, List.set_cons_succ, List.length_cons, List.length_nil, Nat.reduceAdd, Nat.reduceLeDiff, Nat.le_refl, Nat.zero_le, true_or, or_true, zn_cl, ↓jj_Form_readSide, p0]
      refine ⟨fun z => (by first | exact absurd trivial z | exact absurd rfl z | exact absurd z (by decide)), fun _ => ?_⟩
      refine k_Tape_fail hs (by decide) (by decide) (fun h' hf hs' => ?_)
      simp only [↓zq, ↓reduceIte, zr_si2, zr_sr1, zr_cp2, zr_tl, zr_tn, shq, List.contains_nil, List.contains_cons, Nat.reduceBEq, Bool.false_or, Bool.or_false, Bool.true_or, Bool.false_eq_true, if_false, if_true, true_and, and_true, List.set_cons_zero, List.set_cons_succ, List.length_cons, List.length_nil, Nat.reduceAdd, Nat.reduceLeDiff, Nat.le_refl, Nat.zero_le, true_or, or_true, zn_cl, ↓jj_Form_readSide]
      exact hR h' hf hs'
set_option maxHeartbeats 4000000 in
set_option maxRecDepth 100000 in
theorem k_Form_readDigit {d : Nat} {h : zm_M} {R : zm_R} {T : Nat → Nat} {n m : Nat} {e : zt_S} (hp : zp_ok h.2) (hm : m ≤ 9) (hs : zt_s h T n e) (hR : ∀ h' : zm_M, zt_f h h' → zt_s h' T n (f_dg T n m e).2 → R (some (.inl (nI (f_dg T n m e).1))) h') : zm_C (d + 2) TT m_Form_readDigit [.inr (some 13), .inl (nI m)] h R := by
  obtain ⟨p0, p1, p2⟩ := zp_13 hp
  have cl := hs.c_le
  refine st_Form_readDigit [] 30 ?_
  simp only [↓zq, ↓reduceIte, zr_si2, zr_sr1, zr_cp2, zr_tl, zr_tn, shq, List.contains_nil, List.contains_cons, Nat.reduceBEq, Bool.false_or, Bool.or_false, Bool.true_or, Bool.false_eq_true, if_false, if_true, true_and, and_true, List.set_cons_zero, List.set_cons_succ, List.length_cons, List.length_nil, Nat.reduceAdd, Nat.reduceLeDiff, Nat.le_refl, Nat.zero_le, true_or, or_true, zn_cl, ↓jj_Form_readDigit, p0]
  refine k_Tape_peek hs ?_
  simp only [↓zq, ↓reduceIte, zr_si2, zr_sr1, zr_cp2, zr_tl, zr_tn, shq, List.contains_nil, List.contains_cons, Nat.reduceBEq, Bool.false_or, Bool.or_false, Bool.true_or, Bool.false_eq_true, if_false, if_true, true_and, and_true, List.set_cons_zero, List.set_cons_succ, List.length_cons, List.length_nil, Nat.reduceAdd, Nat.reduceLeDiff, Nat.le_refl, Nat.zero_le, true_or, or_true, zn_cl, ↓jj_Form_readDigit, p0]
  have fl : ∀ K : zm_R, (∀ h' : zm_M, zt_f h h' → zt_s h' T n (t_fl 1 e) → K none h') → zm_C (d + 1) TT m_Tape_fail [.inr (some 1), .inl 1] h K := fun K hK => k_Tape_fail (f := 1) hs (by decide) (by decide) hK
  by_cases h0 : t_c T n e = 256 ∨ t_c T n e < 48
  · have e1 : f_dg T n m e = (0, t_fl 1 e) := if_neg (by omega)
    rw [e1] at hR
    have := zt_v_neg h0 (by decide)
    refine ⟨fun _ => fl _ (fun h' hf hs' => ?_), fun z => absurd this z⟩
    simp only [↓zq, ↓reduceIte, zr_si2, zr_sr1, zr_cp2, zr_tl, zr_tn, shq, List.contains_nil, List.contains_cons, Nat.reduceBEq, Bool.false_or, Bool.or_false, Bool.true_or, Bool.false_eq_true, if_false, if_true, true_and, and_true, List.set_cons_zero, List.set_cons_succ, List.length_cons, List.length_nil, Nat.reduceAdd, Nat.reduceLeDiff, Nat.le_refl, Nat.zero_le, true_or, or_true, zn_cl, ↓jj_Form_readDigit]
    exact hR h' hf hs'
  · have e2 : zt_v (t_c T n e) - 48 = nI (t_c T n e - 48) := zt_v_sub (k := 48) (by omega) (by omega)
    rw [e2]
    refine ⟨fun z => absurd z (nI_pos (by omega)), fun _ => ?_⟩
    rw [zn_le (by omega) (by omega)]
    refine ⟨fun z => ?_, fun z => fl _ (fun h' hf hs' => ?_)⟩
    · have e1 : f_dg T n m e = (t_c T n e - 48, t_st e) := if_pos (by omega)
      rw [e1] at hR
      refine k_Tape_step hs (t_c_lt (T := T) (by omega)) (fun h' hf hs' => ?_)
      simp only [↓zq, ↓reduceIte, zr_si2, zr_sr1, zr_cp2, zr_tl, zr_tn, shq, List.contains_nil, List.contains_cons, Nat.reduceBEq, Bool.false_or, Bool.or_false, Bool.true_or, Bool.false_eq_true, if_false, if_true, true_and, and_true, List.set_cons_zero, List.set_cons_succ, List.length_cons, List.length_nil, Nat.reduceAdd, Nat.reduceLeDiff, Nat.le_refl, Nat.zero_le, true_or, or_true, zn_cl, ↓jj_Form_readDigit]
      exact hR h' hf hs'
    · have e1 : f_dg T n m e = (0, t_fl 1 e) := if_neg (by omega)
      rw [e1] at hR
      simp only [↓zq, ↓reduceIte, zr_si2, zr_sr1, zr_cp2, zr_tl, zr_tn, shq, List.contains_nil, List.contains_cons, Nat.reduceBEq, Bool.false_or, Bool.or_false, Bool.true_or, Bool.false_eq_true, if_false, if_true, true_and, and_true, List.set_cons_zero, List.set_cons_succ, List.length_cons, List.length_nil, Nat.reduceAdd, Nat.reduceLeDiff, Nat.le_refl, Nat.zero_le, true_or, or_true, zn_cl, ↓jj_Form_readDigit]
      exact hR h' hf hs'
set_option maxHeartbeats 4000000 in
set_option maxRecDepth 100000 in
theorem k_Form_readLevel {d : Nat} {h : zm_M} {R : zm_R} {T : Nat → Nat} {n m : Nat} {e : zt_S} (hp : zp_ok h.2) (hm : m ≤ 9) (hs : zt_s h T n e) (hR : ∀ h' : zm_M, zt_f h h' → zt_s h' T n (f_lv T n m e).2 → R (some (.inl (nI (f_lv T n m e).1))) h') : zm_C (d + 3) TT m_Form_readLevel [.inr (some 13), .inl (nI m)] h R := by
  obtain ⟨p0, p1, p2⟩ := zp_13 hp
  have cl := hs.c_le
  refine st_Form_readLevel [] 30 ?_
  simp only [↓zq, ↓reduceIte, zr_si2, zr_sr1, zr_cp2, zr_tl, zr_tn, shq, List.contains_nil, List.contains_cons, Nat.reduceBEq, Bool.false_or, Bool.or_false, Bool.true_or, Bool.false_eq_true, if_false, if_true, true_and, and_true, List.set_cons_zero, List.set_cons_succ, List.length_cons, List.length_nil, Nat.reduceAdd, Nat.reduceLeDiff, Nat.le_refl, Nat.zero_le, true_or, or_true, zn_cl, ↓jj_Form_readLevel, p0]
  refine k_Tape_peek hs ?_
  simp only [↓zq, ↓reduceIte, zr_si2, zr_sr1, zr_cp2, zr_tl, zr_tn, shq, List.contains_nil, List.contains_cons, Nat.reduceBEq, Bool.false_or, Bool.or_false, Bool.true_or, Bool.false_eq_true, if_false, if_true, true_and, and_true, List.set_cons_zero, List.set_cons_succ, List.length_cons, List.length_nil, Nat.reduceAdd, Nat.reduceLeDiff, Nat.le_refl, Nat.zero_le, true_or, or_true, zn_cl, ↓jj_Form_readLevel, p0]
  refine k_KS_isDigit (fun z1 z2 => ?_) (fun z => ?_)
  · have c1 : 48 ≤ t_c T n e ∧ t_c T n e ≤ 57 := by
      unfold zt_v at z1 z2
      split at z1
      · exact absurd (by decide) z1
      · next q =>
        rw [if_neg q] at z2
        refine ⟨?_, ?_⟩
        · rcases Nat.lt_or_ge (t_c T n e) 48 with y | y
          · exact absurd (nI_lt (b := 48) y (by decide)) z1
          · exact y
        · rcases Nat.lt_or_ge 57 (t_c T n e) with y | y
          · exact absurd (nI_lt (a := 57) y (by omega)) z2
          · exact y
    have e2 : zt_v (t_c T n e) - 48 = nI (t_c T n e - 48) := zt_v_sub (k := 48) (by omega) (by omega)
    simp only [↓zq, ↓reduceIte, zr_si2, zr_sr1, zr_cp2, zr_tl, zr_tn, shq, List.contains_nil, List.contains_cons, Nat.reduceBEq, Bool.false_or, Bool.or_false, Bool.true_or, Bool.false_eq_true, if_false, if_true, true_and, and_true, List.set_cons_zero, List.set_cons_succ, List.length_cons, List.length_nil, Nat.reduceAdd, Nat.reduceLeDiff, Nat.le_refl, Nat.zero_le, true_or, or_true, zn_cl, ↓jj_Form_readLevel, p0, e2]
    refine ⟨fun z => absurd z (by decide), fun _ => ?_⟩
    rw [zn_le (by omega) (by omega)]
    refine ⟨fun z => ?_, fun z => ?_⟩
    · unfold f_lv at hR
      rw [if_neg (by omega)] at hR
      refine k_Form_readDigit hp hm hs (fun h' hf hs' => ?_)
      simp only [↓zq, ↓reduceIte, zr_si2, zr_sr1, zr_cp2, zr_tl, zr_tn, shq, List.contains_nil, List.contains_cons, Nat.reduceBEq, Bool.false_or, Bool.or_false, Bool.true_or, Bool.false_eq_true, if_false, if_true, true_and, and_true, List.set_cons_zero, List.set_cons_succ, List.length_cons, List.length_nil, Nat.reduceAdd, Nat.reduceLeDiff, Nat.le_refl, Nat.zero_le, true_or, or_true, zn_cl, ↓jj_Form_readLevel]
      exact hR h' hf hs'
    · refine k_Tape_fail (f := 3) hs (by decide) (by decide) (fun h' hf hs' => ?_)
      simp only [↓zq, ↓reduceIte, zr_si2, zr_sr1, zr_cp2, zr_tl, zr_tn, shq, List.contains_nil, List.contains_cons, Nat.reduceBEq, Bool.false_or, Bool.or_false, Bool.true_or, Bool.false_eq_true, if_false, if_true, true_and, and_true, List.set_cons_zero, List.set_cons_succ, List.length_cons, List.length_nil, Nat.reduceAdd, Nat.reduceLeDiff, Nat.le_refl, Nat.zero_le, true_or, or_true, zn_cl, ↓jj_Form_readLevel]
      unfold f_lv at hR
      rw [if_pos (by omega)] at hR
      refine k_Form_readDigit (by rw [hf.1]; exact hp) hm hs' (fun h2 hf2 hs2 => ?_)
      simp only [↓zq, ↓reduceIte, zr_si2, zr_sr1, zr_cp2, zr_tl, zr_tn, shq, List.contains_nil, List.contains_cons, Nat.reduceBEq, Bool.false_or, Bool.or_false, Bool.true_or, Bool.false_eq_true, if_false, if_true, true_and, and_true, List.set_cons_zero, List.set_cons_succ, List.length_cons, List.length_nil, Nat.reduceAdd, Nat.reduceLeDiff, Nat.le_refl, Nat.zero_le, true_or, or_true, zn_cl, ↓jj_Form_readLevel]
      exact hR h2 (hf.tr hf2) hs2
  · simp only [↓zq, ↓reduceIte, zr_si2, zr_sr1, zr_cp2, zr_tl, zr_tn, shq, List.contains_nil, List.contains_cons, Nat.reduceBEq, Bool.false_or, Bool.or_false, Bool.true_or, Bool.false_eq_true, if_false, if_true, true_and, and_true, List.set_cons_zero, List.set_cons_succ, List.length_cons, List.length_nil, Nat.reduceAdd, Nat.reduceLeDiff, Nat.le_refl, Nat.zero_le, true_or, or_true, zn_cl, ↓jj_Form_readLevel]
    have nc : ¬ (48 + m < t_c T n e ∧ t_c T n e ≤ 57) := by
      intro hc
      have e3 : zt_v (t_c T n e) = nI (t_c T n e) := if_neg (by omega)
      rw [e3] at z
      rcases z with z | z
      · exact nI_nlt (b := 48) (by omega) (by omega) z
      · exact nI_nlt (a := 57) (by omega) (by omega) z
    refine ⟨fun _ => ?_, fun z => (by first | exact absurd trivial z | exact absurd rfl z | exact absurd z (by decide))⟩
    unfold f_lv at hR
    rw [if_neg nc] at hR
    refine k_Form_readDigit hp hm hs (fun h' hf hs' => ?_)
    simp only [↓zq, ↓reduceIte, zr_si2, zr_sr1, zr_cp2, zr_tl, zr_tn, shq, List.contains_nil, List.contains_cons, Nat.reduceBEq, Bool.false_or, Bool.or_false, Bool.true_or, Bool.false_eq_true, if_false, if_true, true_and, and_true, List.set_cons_zero, List.set_cons_succ, List.length_cons, List.length_nil, Nat.reduceAdd, Nat.reduceLeDiff, Nat.le_refl, Nat.zero_le, true_or, or_true, zn_cl, ↓jj_Form_readLevel]
    exact hR h' hf hs'
