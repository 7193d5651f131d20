/-! what is left out, rolled up, put together, by the reference -/
set_option maxHeartbeats 4000000 in
set_option maxRecDepth 100000 in
theorem k_Mo_leavesOut {d : Nat} {h : zm_M} {R : zm_R} {F : zs_F} {sp : Nat → Nat} {U : zs_U} {Q : zs_Q} {s i : Nat} (hO : zO h F sp U Q) (hq : Q.1 = true) (hs : s < U.1) (hi : i < 3) (hR : R (some (.inl (if U.2 s (3 + i) &&& Q.2 (3 + i) = U.2 s (3 + i) then 0 else 1))) h) : zm_C (d + 1) TT m_Mo_leavesOut [.inr (some 133), .inl (nI s), .inl (nI i)] h R := by
  obtain ⟨o1, ⟨o2, o2w⟩, ⟨o3, o3w⟩, ⟨o4, o4w⟩, o5, o6⟩ := id hO
  obtain ⟨wr, w1, w2, wu⟩ := o4w.2 s hs
  obtain ⟨p4, p5, p6, p7, p35, p37, p38, p39, p40⟩ := zp_m o1
  have u8 := o4w.1
  have e3 : (nI (8 * s) : Int32) + 3 + nI i = nI (8 * s + (3 + i)) := by
    rw [show (3 : Int32) = nI 3 from rfl, nI_add, nI_add, Nat.add_assoc]
  have e4 : (3 : Int32) + nI i = nI (3 + i) := nI_add 3 i
  have hv1 : vp_in (nI (8 * s + (3 + i))) 64 := vp_in_nI (by omega) (by omega)
  have hv2 : vp_in (nI (3 + i)) 7 := vp_in_nI (by omega) (by omega)
  have hc1 := nI_clamp (show 8 * s + (3 + i) < 2 ^ 31 by omega)
  have hc2 := nI_clamp (show 3 + i < 2 ^ 31 by omega)
  have hr1 := o4.2 s hs (3 + i) (by omega)
  have hr2 := o5.2 hq (3 + i) (by omega)
  have l0 := (zw_R_at wr hi).2
  have l1 := zn_andlt (Q.2 (3 + i)) l0
  have l2 := zn_xlt l1 l0
  refine st_Mo_leavesOut [] 30 ?_
  simp only [↓zq, ↓reduceIte, zr_si2, zr_sr1, zr_cp2, zr_tl, zr_tn, shq, List.contains_nil, List.contains_cons, Nat.reduceBEq, Bool.false_or, Bool.or_false, Bool.true_or, Bool.false_eq_true, if_false, if_true, true_and, and_true, List.set_cons_zero, List.set_cons_succ, List.length_cons, List.length_nil, Nat.reduceAdd, Nat.reduceLeDiff, Nat.le_refl, Nat.zero_le, true_or, or_true, zn_cl, ↓jj_Mo_leavesOut, p5, p35, zn_8, e3, e4, hv1, hv2, hc1, hc2, hr1, hr2, zn_andn]
  rw [zn_z (by omega), zn_xz]
  refine ⟨fun z => ?_, fun z => ?_⟩
  · rw [if_pos z] at hR; exact hR
  · rw [if_neg z] at hR; exact hR
set_option maxHeartbeats 4000000 in
set_option maxRecDepth 100000 in
theorem k_Mo_leftOut {d : Nat} {h : zm_M} {R : zm_R} {F : zs_F} {sp : Nat → Nat} {U : zs_U} {Q : zs_Q} {s : Nat} (hO : zO h F sp U Q) (hq : Q.1 = true) (hs : s < U.1) (hR : R (some (.inl (nI (zs_lo (U.2 s) Q.2)))) h) : zm_C (d + 2) TT m_Mo_leftOut [.inr (some 133), .inl (nI s)] h R := by
  have loop : ∀ (n i : Nat), i + n = 3 → zm_W (zm_md m_Mo_leftOut) (d + 2) TT R 4 [some (.inr (some 133)), some (.inl (nI s)), some (.inl (nI (zs_bits (fun k => !decide (U.2 s (3 + k) &&& Q.2 (3 + k) = U.2 s (3 + k))) i))), some (.inl (nI i))] [] h := by
    intro n
    induction n with
    | zero =>
      intro i hi
      have : i = 3 := by omega
      subst this
      refine zm_go g_Mo_leftOut [4] 30 (by decide +kernel) ok_Mo_leftOut _ rfl ?_
      simp only [↓zq, ↓reduceIte, zr_si2, zr_sr1, zr_cp2, zr_tl, zr_tn, shq, List.contains_nil, List.contains_cons, Nat.reduceBEq, Bool.false_or, Bool.or_false, Bool.true_or, Bool.false_eq_true, if_false, if_true, true_and, and_true, List.set_cons_zero, List.set_cons_succ, List.length_cons, List.length_nil, Nat.reduceAdd, Nat.reduceLeDiff, Nat.le_refl, Nat.zero_le, true_or, or_true, zn_cl, ↓jj_Mo_leftOut]
      exact ⟨fun _ => hR, fun z => absurd (Int32.le_refl _) z⟩
    | succ n ih =>
      intro i hi
      have hi3 : i < 3 := by omega
      have ih := ih (i + 1) (by omega)
      rw [zs_bits] at ih
      have hb := zs_bits_lt (fun k => !decide (U.2 s (3 + k) &&& Q.2 (3 + k) = U.2 s (3 + k))) i
      refine zm_go g_Mo_leftOut [4] 30 (by decide +kernel) ok_Mo_leftOut _ rfl ?_
      simp only [↓zq, ↓reduceIte, zr_si2, zr_sr1, zr_cp2, zr_tl, zr_tn, shq, List.contains_nil, List.contains_cons, Nat.reduceBEq, Bool.false_or, Bool.or_false, Bool.true_or, Bool.false_eq_true, if_false, if_true, true_and, and_true, List.set_cons_zero, List.set_cons_succ, List.length_cons, List.length_nil, Nat.reduceAdd, Nat.reduceLeDiff, Nat.le_refl, Nat.zero_le, true_or, or_true, zn_cl, ↓jj_Mo_leftOut, nI_1]
      refine ⟨fun z => absurd z (nI_ge (b := 3) hi3 (by decide)), fun _ => ?_⟩
      refine k_Mo_leavesOut hO hq hs hi3 ?_
      by_cases e : U.2 s (3 + i) &&& Q.2 (3 + i) = U.2 s (3 + i)
      · rw [if_pos e]
        simp only [↓zq, ↓reduceIte, zr_si2, zr_sr1, zr_cp2, zr_tl, zr_tn, shq, List.contains_nil, List.contains_cons, Nat.reduceBEq, Bool.false_or, Bool.or_false, Bool.true_or, Bool.false_eq_true, if_false, if_true, true_and, and_true, List.set_cons_zero, List.set_cons_succ, List.length_cons, List.length_nil, Nat.reduceAdd, Nat.reduceLeDiff, Nat.le_refl, Nat.zero_le, true_or, or_true, zn_cl, ↓jj_Mo_leftOut, nI_1]
        rw [if_neg (by simp [e]), Nat.add_zero] at ih
        exact ⟨fun _ => ih, fun z => absurd trivial z⟩
      · rw [if_neg e]
        simp only [↓zq, ↓reduceIte, zr_si2, zr_sr1, zr_cp2, zr_tl, zr_tn, shq, List.contains_nil, List.contains_cons, Nat.reduceBEq, Bool.false_or, Bool.or_false, Bool.true_or, Bool.false_eq_true, if_false, if_true, true_and, and_true, List.set_cons_zero, List.set_cons_succ, List.length_cons, List.length_nil, Nat.reduceAdd, Nat.reduceLeDiff, Nat.le_refl, Nat.zero_le, true_or, or_true, zn_cl, ↓jj_Mo_leftOut, nI_1]
        rw [zn_or8 i (by omega) _ hb]
        rw [if_pos (by simp [e])] at ih
        exact ⟨fun z => absurd z (by decide), fun _ => ih⟩
  refine st_Mo_leftOut [4] 9 ?_
  simp only [↓zq, ↓reduceIte, zr_si2, zr_sr1, zr_cp2, zr_tl, zr_tn, shq, List.contains_nil, List.contains_cons, Nat.reduceBEq, Bool.false_or, Bool.or_false, Bool.true_or, Bool.false_eq_true, if_false, if_true, true_and, and_true, List.set_cons_zero, List.set_cons_succ, List.length_cons, List.length_nil, Nat.reduceAdd, Nat.reduceLeDiff, Nat.le_refl, Nat.zero_le, true_or, or_true, zn_cl, ↓jj_Mo_leftOut]
  exact loop 3 0 rfl
set_option maxHeartbeats 4000000 in
set_option maxRecDepth 100000 in
theorem k_Mo_rolledUp {d : Nat} {h : zm_M} {R : zm_R} {F : zs_F} {sp : Nat → Nat} {U : zs_U} {Q : zs_Q} {s : Nat} (hO : zO h F sp U Q) (hq : Q.1 = true) (hs : s < U.1) (hR : R (some (.inl (nI (zs_ru (U.2 s) Q.2)))) h) : zm_C (d + 1) TT m_Mo_rolledUp [.inr (some 133), .inl (nI s)] h R := by
  obtain ⟨o1, ⟨o2, o2w⟩, ⟨o3, o3w⟩, ⟨o4, o4w⟩, o5, o6⟩ := id hO
  obtain ⟨wr, w1, w2, wu⟩ := o4w.2 s hs
  obtain ⟨wq, wq2⟩ := o6 hq
  obtain ⟨p4, p5, p6, p7, p35, p37, p38, p39, p40⟩ := zp_m o1
  have u8 := o4w.1
  have loop : ∀ (n i : Nat), i + n = 3 → zm_W (zm_md m_Mo_rolledUp) (d + 1) TT R 4 [some (.inr (some 133)), some (.inl (nI s)), some (.inl (nI (zs_bits (fun k => decide (U.2 s k < Q.2 k)) i))), some (.inl (nI i))] [] h := by
    intro n
    induction n with
    | zero =>
      intro i hi
      have : i = 3 := by omega
      subst this
      refine zm_go g_Mo_rolledUp [4] 30 (by decide +kernel) ok_Mo_rolledUp _ rfl ?_
      simp only [↓zq, ↓reduceIte, zr_si2, zr_sr1, zr_cp2, zr_tl, zr_tn, shq, List.contains_nil, List.contains_cons, Nat.reduceBEq, Bool.false_or, Bool.or_false, Bool.true_or, Bool.false_eq_true, if_false, if_true, true_and, and_true, List.set_cons_zero, List.set_cons_succ, List.length_cons, List.length_nil, Nat.reduceAdd, Nat.reduceLeDiff, Nat.le_refl, Nat.zero_le, true_or, or_true, zn_cl, ↓jj_Mo_rolledUp]
      exact ⟨fun _ => hR, fun z => absurd (Int32.le_refl _) z⟩
    | succ n ih =>
      intro i hi
      have hi3 : i < 3 := by omega
      have ih := ih (i + 1) (by omega)
      rw [zs_bits] at ih
      have hb := zs_bits_lt (fun k => decide (U.2 s k < Q.2 k)) i
      have hv1 : vp_in (nI (8 * s + i)) 64 := vp_in_nI (by omega) (by omega)
      have hv2 : vp_in (nI i) 7 := vp_in_nI (by omega) (by omega)
      have hc1 := nI_clamp (show 8 * s + i < 2 ^ 31 by omega)
      have hc2 := nI_clamp (show i < 2 ^ 31 by omega)
      have hr1 := o4.2 s hs i (by omega)
      have hr2 := o5.2 hq i (by omega)
      have l1 := (zw_R_at wr hi3).1
      have l2 := (zw_R_at wq hi3).1
      refine zm_go g_Mo_rolledUp [4] 30 (by decide +kernel) ok_Mo_rolledUp _ rfl ?_
      simp only [↓zq, ↓reduceIte, zr_si2, zr_sr1, zr_cp2, zr_tl, zr_tn, shq, List.contains_nil, List.contains_cons, Nat.reduceBEq, Bool.false_or, Bool.or_false, Bool.true_or, Bool.false_eq_true, if_false, if_true, true_and, and_true, List.set_cons_zero, List.set_cons_succ, List.length_cons, List.length_nil, Nat.reduceAdd, Nat.reduceLeDiff, Nat.le_refl, Nat.zero_le, true_or, or_true, zn_cl, ↓jj_Mo_rolledUp, nI_1, p5, p35, zn_8, nI_add, hv1, hv2, hc1, hc2, hr1, hr2]
      rw [zn_le (by omega) (by omega), zn_or8 i (by omega) _ hb]
      refine ⟨fun z => absurd z (nI_ge (b := 3) hi3 (by decide)), fun _ => ⟨fun z => ?_, fun z => ?_⟩⟩
      · rw [if_neg (by simp; omega), Nat.add_zero] at ih
        exact ih
      · rw [if_pos (by simp; omega)] at ih
        exact ih
  refine st_Mo_rolledUp [4] 9 ?_
  simp only [↓zq, ↓reduceIte, zr_si2, zr_sr1, zr_cp2, zr_tl, zr_tn, shq, List.contains_nil, List.contains_cons, Nat.reduceBEq, Bool.false_or, Bool.or_false, Bool.true_or, Bool.false_eq_true, if_false, if_true, true_and, and_true, List.set_cons_zero, List.set_cons_succ, List.length_cons, List.length_nil, Nat.reduceAdd, Nat.reduceLeDiff, Nat.le_refl, Nat.zero_le, true_or, or_true, zn_cl, ↓jj_Mo_rolledUp]
  exact loop 3 0 rfl
set_option maxHeartbeats 4000000 in
set_option maxRecDepth 100000 in
theorem k_Mo_compensation {d : Nat} {h : zm_M} {R : zm_R} {F : zs_F} {sp : Nat → Nat} {U : zs_U} {Q : zs_Q} {s : Nat} (hO : zO h F sp U Q) (hq : Q.1 = true) (hs : s < U.1) (hR : R (some (.inl (nI (zs_lets Q.2 F (U.2 s 7) (F.1 - U.2 s 7))))) h) : zm_C (d + 3) TT m_Mo_compensation [.inr (some 133), .inl (nI s)] h R := by
  obtain ⟨o1, ⟨o2, o2w⟩, ⟨o3, o3w⟩, ⟨o4, o4w⟩, o5, o6⟩ := id hO
  obtain ⟨wr, w1, w2, wu⟩ := o4w.2 s hs
  obtain ⟨wq, wq2⟩ := o6 hq
  obtain ⟨p4, p5, p6, p7, p35, p37, p38, p39, p40⟩ := zp_m o1
  have hw1 := o2w.1
  have f1 := o2.1
  have loop : ∀ (n i : Nat), U.2 s 7 + i + n = F.1 → zm_W (zm_md m_Mo_compensation) (d + 3) TT R 8 [some (.inr (some 133)), some (.inl (nI s)), some (.inl (nI (zs_lets Q.2 F (U.2 s 7) i))), some (.inl (nI (U.2 s 7 + i)))] [] h := by
    intro n
    induction n with
    | zero =>
      intro i hi
      have : F.1 - U.2 s 7 = i := by omega
      rw [this] at hR
      have : U.2 s 7 + i = F.1 := by omega
      rw [this]
      refine zm_go g_Mo_compensation [8] 30 (by decide +kernel) ok_Mo_compensation _ rfl ?_
      simp only [↓zq, ↓reduceIte, zr_si2, zr_sr1, zr_cp2, zr_tl, zr_tn, shq, List.contains_nil, List.contains_cons, Nat.reduceBEq, Bool.false_or, Bool.or_false, Bool.true_or, Bool.false_eq_true, if_false, if_true, true_and, and_true, List.set_cons_zero, List.set_cons_succ, List.length_cons, List.length_nil, Nat.reduceAdd, Nat.reduceLeDiff, Nat.le_refl, Nat.zero_le, true_or, or_true, zn_cl, ↓jj_Mo_compensation, f1]
      exact ⟨fun _ => hR, fun z => absurd (Int32.le_refl _) z⟩
    | succ n ih =>
      intro i hi
      have ih := ih (i + 1) (by omega)
      rw [zs_lets] at ih
      refine zm_go g_Mo_compensation [8] 30 (by decide +kernel) ok_Mo_compensation _ rfl ?_
      simp only [↓zq, ↓reduceIte, zr_si2, zr_sr1, zr_cp2, zr_tl, zr_tn, shq, List.contains_nil, List.contains_cons, Nat.reduceBEq, Bool.false_or, Bool.or_false, Bool.true_or, Bool.false_eq_true, if_false, if_true, true_and, and_true, List.set_cons_zero, List.set_cons_succ, List.length_cons, List.length_nil, Nat.reduceAdd, Nat.reduceLeDiff, Nat.le_refl, Nat.zero_le, true_or, or_true, zn_cl, ↓jj_Mo_compensation, f1, p35, nI_1, Nat.add_assoc]
      refine ⟨fun z => absurd z (nI_ge (by omega) (by omega)), fun _ => ?_⟩
      refine k_Mo_isLet (fr := 0) p4 o2 o2w (by omega) (zO_rowQ hO hq) wq ?_
      cases e : zs_let Q.2 (F.2.1 (U.2 s 7 + i))
      · simp only [↓zq, ↓reduceIte, zr_si2, zr_sr1, zr_cp2, zr_tl, zr_tn, shq, List.contains_nil, List.contains_cons, Nat.reduceBEq, Bool.false_or, Bool.or_false, Bool.true_or, Bool.false_eq_true, if_false, if_true, true_and, and_true, List.set_cons_zero, List.set_cons_succ, List.length_cons, List.length_nil, Nat.reduceAdd, Nat.reduceLeDiff, Nat.le_refl, Nat.zero_le, true_or, or_true, zn_cl, ↓jj_Mo_compensation, nI_1, Nat.add_assoc]
        rw [if_neg (by rw [e]; decide), Nat.add_zero] at ih
        exact ⟨fun _ => ih, fun z => absurd trivial z⟩
      · simp only [↓zq, ↓reduceIte, zr_si2, zr_sr1, zr_cp2, zr_tl, zr_tn, shq, List.contains_nil, List.contains_cons, Nat.reduceBEq, Bool.false_or, Bool.or_false, Bool.true_or, Bool.false_eq_true, if_false, if_true, true_and, and_true, List.set_cons_zero, List.set_cons_succ, List.length_cons, List.length_nil, Nat.reduceAdd, Nat.reduceLeDiff, Nat.le_refl, Nat.zero_le, true_or, or_true, zn_cl, ↓jj_Mo_compensation, nI_1, Nat.add_assoc]
        rw [if_pos e] at ih
        exact ⟨fun z => absurd z (by decide), fun _ => ih⟩
  refine st_Mo_compensation [8] 9 ?_
  simp only [↓zq, ↓reduceIte, zr_si2, zr_sr1, zr_cp2, zr_tl, zr_tn, shq, List.contains_nil, List.contains_cons, Nat.reduceBEq, Bool.false_or, Bool.or_false, Bool.true_or, Bool.false_eq_true, if_false, if_true, true_and, and_true, List.set_cons_zero, List.set_cons_succ, List.length_cons, List.length_nil, Nat.reduceAdd, Nat.reduceLeDiff, Nat.le_refl, Nat.zero_le, true_or, or_true, zn_cl, ↓jj_Mo_compensation]
  refine k_Mo_upTo hO hs ?_
  simp only [↓zq, ↓reduceIte, zr_si2, zr_sr1, zr_cp2, zr_tl, zr_tn, shq, List.contains_nil, List.contains_cons, Nat.reduceBEq, Bool.false_or, Bool.or_false, Bool.true_or, Bool.false_eq_true, if_false, if_true, true_and, and_true, List.set_cons_zero, List.set_cons_succ, List.length_cons, List.length_nil, Nat.reduceAdd, Nat.reduceLeDiff, Nat.le_refl, Nat.zero_le, true_or, or_true, zn_cl, ↓jj_Mo_compensation]
  exact loop (F.1 - U.2 s 7) 0 (by omega)
/-- the least bit -/
def zs_fst (x : Nat) : Nat → Option Nat
  | 0 => none
  | n + 1 => match zs_fst x n with
    | some v => some v
    | none => if x.testBit n = true then some n else none
theorem zs_fst_none {x : Nat} : ∀ n, zs_fst x n = none → ∀ v, v < n → x.testBit v = false
  | 0, _, v, hv => absurd hv (Nat.not_lt_zero v)
  | n + 1, h, v, hv => by
    rw [zs_fst] at h
    split at h
    · cases h
    · next e =>
      split at h
      · cases h
      · next e2 =>
        rcases (show v < n ∨ v = n by omega) with q | q
        · exact zs_fst_none n e v q
        · rw [q]; simpa using e2
theorem zs_fst_some {x k : Nat} : ∀ n, zs_fst x n = some k → k < n ∧ x.testBit k = true
  | 0, h => by cases h
  | n + 1, h => by
    rw [zs_fst] at h
    split at h
    · next e =>
      cases h
      obtain ⟨a, b⟩ := zs_fst_some n e
      exact ⟨by omega, b⟩
    · split at h
      · next e2 => cases h; exact ⟨by omega, e2⟩
      · cases h
set_option maxHeartbeats 4000000 in
set_option maxRecDepth 100000 in
theorem k_Mo_standsFor {d : Nat} {h : zm_M} {R : zm_R} {F : zs_F} {sp : Nat → Nat} {U : zs_U} {Q : zs_Q} {s i num : Nat} (hO : zO h F sp U Q) (hs : s < U.1) (hi : i < 3) (hn : num < 8) (hR : R (some (.inl (zs_opt (zs_fst (zs_own sp i (U.2 s i) (U.2 s (3 + i)) num) 8)))) h) : zm_C (d + 3) TT m_Mo_standsFor [.inr (some 133), .inl (nI s), .inl (nI i), .inl (nI num)] h R := by
  obtain ⟨o1, ⟨o2, o2w⟩, ⟨o3, o3w⟩, ⟨o4, o4w⟩, o5, o6⟩ := id hO
  obtain ⟨wr, w1, w2, wu⟩ := o4w.2 s hs
  obtain ⟨p4, p5, p6, p7, p35, p37, p38, p39, p40⟩ := zp_m o1
  have u8 := o4w.1
  have e3 : (nI (8 * s) : Int32) + 3 + nI i = nI (8 * s + (3 + i)) := by
    rw [show (3 : Int32) = nI 3 from rfl, nI_add, nI_add, Nat.add_assoc]
  have hv1 : vp_in (nI (8 * s + (3 + i))) 64 := vp_in_nI (by omega) (by omega)
  have hv2 : vp_in (nI (8 * s + i)) 64 := vp_in_nI (by omega) (by omega)
  have hc1 := nI_clamp (show 8 * s + (3 + i) < 2 ^ 31 by omega)
  have hc2 := nI_clamp (show 8 * s + i < 2 ^ 31 by omega)
  have hr1 := o4.2 s hs (3 + i) (by omega)
  have hr2 := o4.2 s hs i (by omega)
  have lo := zs_own_lt sp i (U.2 s i) (U.2 s (3 + i)) num
  have loop : ∀ (n v : Nat), v + n = 8 → zs_fst (zs_own sp i (U.2 s i) (U.2 s (3 + i)) num) v = none → zm_W (zm_md m_Mo_standsFor) (d + 3) TT R 35 [some (.inr (some 133)), some (.inl (nI s)), some (.inl (nI i)), some (.inl (nI num)), some (.inl (nI (zs_own sp i (U.2 s i) (U.2 s (3 + i)) num))), some (.inl (nI v))] [] h := by
    intro n
    induction n with
    | zero =>
      intro v hv hno
      have : v = 8 := by omega
      subst this
      rw [hno] at hR
      refine zm_go g_Mo_standsFor [35] 30 (by decide +kernel) ok_Mo_standsFor _ rfl ?_
      simp only [↓zq, ↓reduceIte, zr_si2, zr_sr1, zr_cp2, zr_tl, zr_tn, shq, List.contains_nil, List.contains_cons, Nat.reduceBEq, Bool.false_or, Bool.or_false, Bool.true_or, Bool.false_eq_true, if_false, if_true, true_and, and_true, List.set_cons_zero, List.set_cons_succ, List.length_cons, List.length_nil, Nat.reduceAdd, Nat.reduceLeDiff, Nat.le_refl, Nat.zero_le, true_or, or_true, zn_cl, ↓jj_Mo_standsFor]
      exact ⟨fun _ => hR, fun z => absurd (Int32.le_refl _) z⟩
    | succ n ih =>
      intro v hv hno
      refine zm_go g_Mo_standsFor [35] 30 (by decide +kernel) ok_Mo_standsFor _ rfl ?_
      simp only [↓zq, ↓reduceIte, zr_si2, zr_sr1, zr_cp2, zr_tl, zr_tn, shq, List.contains_nil, List.contains_cons, Nat.reduceBEq, Bool.false_or, Bool.or_false, Bool.true_or, Bool.false_eq_true, if_false, if_true, true_and, and_true, List.set_cons_zero, List.set_cons_succ, List.length_cons, List.length_nil, Nat.reduceAdd, Nat.reduceLeDiff, Nat.le_refl, Nat.zero_le, true_or, or_true, zn_cl, ↓jj_Mo_standsFor, nI_1]
      refine ⟨fun z => absurd z (nI_ge (b := 8) (by omega) (by decide)), fun _ => ?_⟩
      refine k_Mo_has lo (by omega) ?_
      cases e : (zs_own sp i (U.2 s i) (U.2 s (3 + i)) num).testBit v
      · simp only [↓zq, ↓reduceIte, zr_si2, zr_sr1, zr_cp2, zr_tl, zr_tn, shq, List.contains_nil, List.contains_cons, Nat.reduceBEq, Bool.false_or, Bool.or_false, Bool.true_or, Bool.false_eq_true, if_false, if_true, true_and, and_true, List.set_cons_zero, List.set_cons_succ, List.length_cons, List.length_nil, Nat.reduceAdd, Nat.reduceLeDiff, Nat.le_refl, Nat.zero_le, true_or, or_true, zn_cl, ↓jj_Mo_standsFor, nI_1]
        refine ⟨fun _ => ih (v + 1) (by omega) ?_, fun z => absurd trivial z⟩
        rw [zs_fst, hno]
        simp [e]
      · simp only [↓zq, ↓reduceIte, zr_si2, zr_sr1, zr_cp2, zr_tl, zr_tn, shq, List.contains_nil, List.contains_cons, Nat.reduceBEq, Bool.false_or, Bool.or_false, Bool.true_or, Bool.false_eq_true, if_false, if_true, true_and, and_true, List.set_cons_zero, List.set_cons_succ, List.length_cons, List.length_nil, Nat.reduceAdd, Nat.reduceLeDiff, Nat.le_refl, Nat.zero_le, true_or, or_true, zn_cl, ↓jj_Mo_standsFor, nI_1]
        have h1 : ∀ m, zs_fst (zs_own sp i (U.2 s i) (U.2 s (3 + i)) num) (v + 1 + m) = some v := by
          intro m
          induction m with
          | zero =>
            show zs_fst _ (v + 1) = some v
            rw [zs_fst, hno]
            simp [e]
          | succ m ihm =>
            show zs_fst _ (v + 1 + m + 1) = some v
            rw [zs_fst, ihm]
        have h2 := h1 (7 - v)
        rw [show v + 1 + (7 - v) = 8 by omega] at h2
        rw [h2] at hR
        exact ⟨fun z => absurd z (by decide), fun _ => hR⟩
  refine st_Mo_standsFor [35] 30 ?_
  simp only [↓zq, ↓reduceIte, zr_si2, zr_sr1, zr_cp2, zr_tl, zr_tn, shq, List.contains_nil, List.contains_cons, Nat.reduceBEq, Bool.false_or, Bool.or_false, Bool.true_or, Bool.false_eq_true, if_false, if_true, true_and, and_true, List.set_cons_zero, List.set_cons_succ, List.length_cons, List.length_nil, Nat.reduceAdd, Nat.reduceLeDiff, Nat.le_refl, Nat.zero_le, true_or, or_true, zn_cl, ↓jj_Mo_standsFor, p5, zn_8, e3, nI_add, hv1, hv2, hc1, hc2, hr1, hr2]
  refine k_Mo_valuesOf p6 o3 o3w hi (zw_R_at wr hi).1 hn (zw_R_at wr hi).2 ?_
  simp only [↓zq, ↓reduceIte, zr_si2, zr_sr1, zr_cp2, zr_tl, zr_tn, shq, List.contains_nil, List.contains_cons, Nat.reduceBEq, Bool.false_or, Bool.or_false, Bool.true_or, Bool.false_eq_true, if_false, if_true, true_and, and_true, List.set_cons_zero, List.set_cons_succ, List.length_cons, List.length_nil, Nat.reduceAdd, Nat.reduceLeDiff, Nat.le_refl, Nat.zero_le, true_or, or_true, zn_cl, ↓jj_Mo_standsFor]
  exact loop 8 0 rfl rfl
set_option maxHeartbeats 4000000 in
set_option maxRecDepth 100000 in
theorem k_Mo_numberOf {d : Nat} {T : zm_T} {h : zm_M} {R : zm_R} {t s : Nat} (ht : t < 512) (hs : s < 3) (hR : R (some (.inl (nI (zs_dig t s)))) h) : zm_C (d + 1) T m_Mo_numberOf [.inl (nI t), .inl (nI s)] h R := by
  refine st_Mo_numberOf [] 9 ?_
  simp only [↓zq, ↓reduceIte, zr_si2, zr_sr1, zr_cp2, zr_tl, zr_tn, shq, List.contains_nil, List.contains_cons, Nat.reduceBEq, Bool.false_or, Bool.or_false, Bool.true_or, Bool.false_eq_true, if_false, if_true, true_and, and_true, List.set_cons_zero, List.set_cons_succ, List.length_cons, List.length_nil, Nat.reduceAdd, Nat.reduceLeDiff, Nat.le_refl, Nat.zero_le, true_or, or_true, zn_cl, ↓jj_Mo_numberOf]
  have e : ∀ s, s < 3 → ∀ t, t < 512 → (¬ nI s = 0 → ¬ nI s = 1 → nI t - nI t / 8 * 8 = nI (zs_dig t s)) ∧ (nI s = 1 → nI t / 8 - nI t / 8 / 8 * 8 = nI (zs_dig t s)) ∧ (nI s = 0 → nI t / 64 = nI (zs_dig t s)) := by decide +kernel
  obtain ⟨e1, e2, e3⟩ := e s hs t ht
  exact ⟨fun q => ⟨fun q2 => ⟨by decide, by rw [e1 q q2]; exact hR⟩, fun q2 => ⟨by decide, by decide, by rw [e2 q2]; exact hR⟩⟩, fun q => ⟨by decide, by rw [e3 q]; exact hR⟩⟩
