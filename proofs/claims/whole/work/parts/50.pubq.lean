/-! what public methods answer -/
theorem zs_ix_no2 {x : Int32} {n : Nat} (hn : n < 2 ^ 31) (h : ∀ s : Nat, s < n → ¬ x = nI s) : zs_ix x n = none := by
  rcases zs_cas x n hn with ⟨j, hj, e⟩ | e
  · exact absurd e (h j hj)
  · exact zs_ix_no e
def zs_none : Nat → Nat := fun _ => 0
def A_factIs (F : zs_F) (x y : Int32) : Int32 := match zs_ix x F.1, zs_ix y 4 with
  | some f, some w => if w < 3 then nI (F.2.1 f w) else nI (F.2.2 f)
  | _, _ => -1
def A_coarse (sp : Nat → Nat) (x y : Int32) : Int32 := match zs_ix x 3, zs_ix y 8 with
  | some s, some v => nI (sp (8 * s + v))
  | _, _ => -1
def A_summaryIs (F : zs_F) (sp : Nat → Nat) (U : zs_U) (x y : Int32) : Int32 := match zs_ix x U.1 with
  | none => -1
  | some s => match zs_ix y 13 with
    | none => -1
    | some w => if w < 3 then nI (U.2 s w) else if w = 3 then nI (U.2 s 6) else if w = 4 then nI (U.2 s 7) else if w = 5 then nI (zs_grp sp (U.2 s) F (U.2 s 7)) else if w = 6 then nI (zs_cost sp F (U.2 s)) else if 10 ≤ w then nI (U.2 s (3 + (w - 10))) else -1
def A_group (F : zs_F) (sp : Nat → Nat) (U : zs_U) (x i y : Int32) : Int32 := match zs_ix x U.1 with
  | none => -1
  | some s => if i < 0 then -1 else match zs_ix y 7 with
    | none => -1
    | some w => match zs_nth (fun k => (zs_tabS sp F (U.2 s) k).1) i.toNatClampNeg 512 with
      | none => -4
      | some k => if w < 3 then nI (zs_dig k w) else if (U.2 s 6).testBit (w - 3) = true then nI (zs_val (zs_tabS sp F (U.2 s)) zs_none (w - 3) k) else -2
def A_questionIs (Q : zs_Q) (y : Int32) : Int32 := match zs_ix y 13 with
  | none => -1
  | some w => if 4 ≤ w ∧ w < 10 then -1 else if Q.1 = false then -2 else if w < 3 then nI (Q.2 w) else if w = 3 then nI (Q.2 6) else nI (Q.2 (3 + (w - 10)))
def A_covers (sp : Nat → Nat) (U : zs_U) (Q : zs_Q) (x : Int32) : Int32 := match zs_ix x U.1 with
  | none => -1
  | some s => if Q.1 = false then -2 else if zs_cov sp (U.2 s) Q.2 = true then 1 else 0
def A_coverIs (F : zs_F) (sp : Nat → Nat) (U : zs_U) (Q : zs_Q) (x y : Int32) : Int32 := match zs_ix x U.1 with
  | none => -1
  | some s => match zs_ix y 4 with
    | none => -1
    | some w => if Q.1 = true ∧ zs_cov sp (U.2 s) Q.2 = true then (if w = 0 then nI (zs_lo (U.2 s) Q.2) else if w = 1 then nI (zs_ru (U.2 s) Q.2) else if w = 2 then nI (zs_lets Q.2 F (U.2 s 7) (F.1 - U.2 s 7)) else nI (zs_ins sp (U.2 s) Q.2 (zs_tabS sp F (U.2 s)) 512)) else -2
def zs_way (F : zs_F) (sp : Nat → Nat) (U : zs_U) (Q : zs_Q) : Option Nat := (zs_wy sp F U Q.2 U.1).1
def A_way (F : zs_F) (sp : Nat → Nat) (U : zs_U) (Q : zs_Q) (y : Int32) : Int32 := match zs_ix y 2 with
  | none => -1
  | some w => if Q.1 = false then -2 else if w = 0 then zs_wv (zs_way F sp U Q) else match zs_way F sp U Q with
    | none => nI F.1
    | some s => nI (zs_cost sp F (U.2 s))
/-- the answer's table by a way -/
def zs_at (F : zs_F) (sp : Nat → Nat) (U : zs_U) (Q : zs_Q) : Option Nat → zs_tb
  | none => zs_tabF sp F Q.2
  | some s => zs_tabA sp F (U.2 s) Q.2
def zs_tA (F : zs_F) (sp : Nat → Nat) (U : zs_U) (Q : zs_Q) (o : Option Nat) (i : Int32) (w : Nat) : Int32 := zs_tell (zs_at F sp U Q o) (zs_sg sp Q.2 F) (Q.2 6) (zs_nth (fun k => (zs_at F sp U Q o k).1) i.toNatClampNeg 512) w
def A_answer (F : zs_F) (sp : Nat → Nat) (U : zs_U) (Q : zs_Q) (i y : Int32) : Int32 := if i < 0 then -1 else match zs_ix y 4 with
  | none => -1
  | some w => if Q.1 = false then -2 else zs_tA F sp U Q (zs_way F sp U Q) i w
def zs_rkf (tab : zs_tb) (sg : Nat → Nat) (w i : Nat) : Nat → Option Nat
  | 0 => none
  | m + 1 => match zs_rkf tab sg w i m with
    | some k => some k
    | none => if (tab m).1 ≠ 0 ∧ zs_ahd tab sg w m = i then some m else none
theorem zs_rkf_ok {tab : zs_tb} {sg : Nat → Nat} {w i : Nat} : ∀ m, (zs_rkf tab sg w i m = none → ∀ k, k < m → (tab k).1 ≠ 0 → zs_ahd tab sg w k ≠ i) ∧ ∀ k, zs_rkf tab sg w i m = some k → k < m ∧ (tab k).1 ≠ 0 ∧ zs_ahd tab sg w k = i
  | 0 => ⟨fun _ k hk => absurd hk (Nat.not_lt_zero k), fun k h => by cases h⟩
  | m + 1 => by
    obtain ⟨h1, h2⟩ := zs_rkf_ok (tab := tab) (sg := sg) (w := w) (i := i) m
    rw [zs_rkf]
    cases e : zs_rkf tab sg w i m with
    | some k =>
      obtain ⟨a, b⟩ := h2 k e
      exact ⟨fun z => (by cases z), fun k' hk' => (by cases hk'; exact ⟨by omega, b⟩)⟩
    | none =>
      simp only []
      split
      · next c => exact ⟨fun z => (by cases z), fun k' hk' => (by cases hk'; exact ⟨by omega, c⟩)⟩
      · next c =>
        refine ⟨fun _ k hk hn ha => ?_, fun k' hk' => (by cases hk')⟩
        by_cases hkm : k = m
        · rw [hkm] at hn ha
          exact c ⟨hn, ha⟩
        · exact h1 e k (by omega) hn ha
theorem zs_rkf_rkd (tab : zs_tb) (sg : Nat → Nat) (w i : Nat) : zs_rkd tab sg w i (zs_rkf tab sg w i 512) := zs_rkf_ok 512
def A_ranked (F : zs_F) (sp : Nat → Nat) (U : zs_U) (Q : zs_Q) (i y : Int32) : Int32 := if i < 0 then -1 else match zs_ix y 4 with
  | none => -1
  | some w => if Q.1 = false then -2 else zs_tell (zs_at F sp U Q (zs_way F sp U Q)) (zs_sg sp Q.2 F) (Q.2 6) (zs_rkf (zs_at F sp U Q (zs_way F sp U Q)) (zs_sg sp Q.2 F) (Q.2 6) i.toNatClampNeg 512) w
def A_answerBy (F : zs_F) (sp : Nat → Nat) (U : zs_U) (Q : zs_Q) (x i y : Int32) : Int32 := if i < 0 then -1 else match zs_ix y 4 with
  | none => -1
  | some w => match zs_ix x U.1 with
    | some s => if Q.1 = false then -2 else if zs_cov sp (U.2 s) Q.2 = true then zs_tA F sp U Q (some s) i w else -5
    | none => if x = -3 then (if Q.1 = false then -2 else zs_tA F sp U Q none i w) else -1
def A_unlike (F : zs_F) (sp : Nat → Nat) (U : zs_U) (Q : zs_Q) (x : Int32) : Int32 := match zs_ix x U.1 with
  | none => -1
  | some s => if Q.1 = true ∧ zs_cov sp (U.2 s) Q.2 = true then nI (zs_unl (zs_tabA sp F (U.2 s) Q.2) (zs_tabF sp F Q.2) (zs_sg sp Q.2 F) (zs_sg sp Q.2 F) (Q.2 6) 512) else -2
def zs_can (sp : Nat → Nat) (U : zs_U) (s i : Nat) : Bool := decide (i ≠ s) && (decide (U.2 i 6 &&& U.2 s 6 = U.2 s 6) && zs_covS sp (U.2 i) (U.2 s))
def A_madeOf (sp : Nat → Nat) (U : zs_U) (x : Int32) : Int32 := match zs_ix x U.1 with
  | none => -1
  | some s => nI (zs_bits (zs_can sp U s) U.1)
/-! the class's -/
set_option maxHeartbeats 4000000 in
set_option maxRecDepth 100000 in
theorem k_KS_factIs {d : Nat} {h : zm_M} {R : zm_R} {pi : Nat → Nat} {F : zs_F} {sp : Nat → Nat} {U : zs_U} {Q : zs_Q} {x y : Int32} (hC : zC h pi F sp U Q) (hR : R (some (.inl (A_factIs F x y))) h) : zm_C (d + 2) TT m_KS_factIs [.inr (some 0), .inl x, .inl y] h R := by
  obtain ⟨p0, p1, p2, p4, p5, p6, p7, p9, p10, p11, p12, p14⟩ := zC_p hC
  obtain ⟨c1, c2, ⟨c3, c3w⟩, ⟨c4, c4w⟩, ⟨c7, c8⟩, c9, c10⟩ := id hC
  have hw1 := c3w.1
  have f1 := c3.1
  unfold A_factIs at hR
  refine st_KS_factIs [] 9 ?_
  simp only [↓zq, ↓reduceIte, zr_si2, zr_sr1, zr_cp2, zr_tl, zr_tn, shq, List.contains_nil, List.contains_cons, Nat.reduceBEq, Bool.false_or, Bool.or_false, Bool.true_or, Bool.false_eq_true, if_false, if_true, true_and, and_true, List.set_cons_zero, List.set_cons_succ, List.length_cons, List.length_nil, Nat.reduceAdd, Nat.reduceLeDiff, Nat.le_refl, Nat.zero_le, true_or, or_true, zn_cl, ↓jj_KS_factIs, p5, f1]
  rcases zs_cas x F.1 (by omega) with ⟨f, hf, rfl⟩ | e
  · rw [zs_ix_of hf (by omega)] at hR
    obtain ⟨wa, wb, wc, wm, w240⟩ := zw_F_at c3w hf
    refine ⟨fun z => absurd z (nI_pos (by omega)), fun _ => ⟨fun z => absurd z (nI_ge hf (by omega)), fun _ => ?_⟩⟩
    rcases zs_cas y 4 (by decide) with ⟨w, hw, rfl⟩ | e
    · rw [zs_ix_of hw (by decide)] at hR
      simp only [] at hR
      refine ⟨fun z => absurd z (nI_pos (by omega)), fun _ => ⟨fun _ => ?_, fun z => absurd (nI_le (b := 3) (by omega) (by decide)) z⟩⟩
      rw [show (3 : Int32) = nI 3 from rfl, zn_le (by decide) (by omega)]
      refine ⟨fun z => ?_, fun z => ?_⟩
      · rw [if_neg (by omega)] at hR
        refine k_Facts_measureAt c1 w240 ?_
        simp only [↓zq, ↓reduceIte, zr_si2, zr_sr1, zr_cp2, zr_tl, zr_tn, shq, List.contains_nil, List.contains_cons, Nat.reduceBEq, Bool.false_or, Bool.or_false, Bool.true_or, Bool.false_eq_true, if_false, if_true, true_and, and_true, List.set_cons_zero, List.set_cons_succ, List.length_cons, List.length_nil, Nat.reduceAdd, Nat.reduceLeDiff, Nat.le_refl, Nat.zero_le, true_or, or_true, zn_cl, ↓jj_KS_factIs]
        rw [(c3.2 f hf).2]
        exact hR
      · rw [if_pos (by omega)] at hR
        refine k_Facts_tripleAt c1 w240 ?_
        simp only [↓zq, ↓reduceIte, zr_si2, zr_sr1, zr_cp2, zr_tl, zr_tn, shq, List.contains_nil, List.contains_cons, Nat.reduceBEq, Bool.false_or, Bool.or_false, Bool.true_or, Bool.false_eq_true, if_false, if_true, true_and, and_true, List.set_cons_zero, List.set_cons_succ, List.length_cons, List.length_nil, Nat.reduceAdd, Nat.reduceLeDiff, Nat.le_refl, Nat.zero_le, true_or, or_true, zn_cl, ↓jj_KS_factIs]
        rw [(c3.2 f hf).1]
        refine k_KS_numberIn (by omega) (show w < 3 by omega) ?_
        simp only [↓zq, ↓reduceIte, zr_si2, zr_sr1, zr_cp2, zr_tl, zr_tn, shq, List.contains_nil, List.contains_cons, Nat.reduceBEq, Bool.false_or, Bool.or_false, Bool.true_or, Bool.false_eq_true, if_false, if_true, true_and, and_true, List.set_cons_zero, List.set_cons_succ, List.length_cons, List.length_nil, Nat.reduceAdd, Nat.reduceLeDiff, Nat.le_refl, Nat.zero_le, true_or, or_true, zn_cl, ↓jj_KS_factIs]
        rcases (show w = 0 ∨ w = 1 ∨ w = 2 by omega) with rfl | rfl | rfl
        · rw [show (64 * F.2.1 f 0 + 8 * F.2.1 f 1 + F.2.1 f 2) / 8 ^ (2 - 0) % 8 = F.2.1 f 0 by omega]
          exact hR
        · rw [show (64 * F.2.1 f 0 + 8 * F.2.1 f 1 + F.2.1 f 2) / 8 ^ (2 - 1) % 8 = F.2.1 f 1 by omega]
          exact hR
        · rw [show (64 * F.2.1 f 0 + 8 * F.2.1 f 1 + F.2.1 f 2) / 8 ^ (2 - 2) % 8 = F.2.1 f 2 by omega]
          exact hR
    · rw [zs_ix_no e] at hR
      have e : y < 0 ∨ (4 : Int32) ≤ y := e
      rcases e with e | e
      · exact ⟨fun _ => hR, fun z => absurd e z⟩
      · exact ⟨fun _ => hR, fun z => ⟨fun z2 => (by exfalso; clear hR; (simp only [Int32.lt_iff_toInt_lt, Int32.le_iff_toInt_le, ← Int32.toInt_inj, zi_c] at *; omega)), fun _ => hR⟩⟩
  · rw [zs_ix_no e] at hR
    rcases e with e | e
    · exact ⟨fun _ => hR, fun z => absurd e z⟩
    · exact ⟨fun _ => hR, fun _ => ⟨fun _ => hR, fun z => absurd e z⟩⟩
set_option maxHeartbeats 4000000 in
set_option maxRecDepth 100000 in
theorem k_KS_coarse {d : Nat} {h : zm_M} {R : zm_R} {pi : Nat → Nat} {F : zs_F} {sp : Nat → Nat} {U : zs_U} {Q : zs_Q} {x y : Int32} (hC : zC h pi F sp U Q) (hR : R (some (.inl (A_coarse sp x y))) h) : zm_C (d + 3) TT m_KS_coarse [.inr (some 0), .inl x, .inl y] h R := by
  obtain ⟨p0, p1, p2, p4, p5, p6, p7, p9, p10, p11, p12, p14⟩ := zC_p hC
  obtain ⟨c1, c2, ⟨c3, c3w⟩, ⟨c4, c4w⟩, ⟨c7, c8⟩, c9, c10⟩ := id hC
  unfold A_coarse at hR
  refine st_KS_coarse [] 9 ?_
  simp only [↓zq, ↓reduceIte, zr_si2, zr_sr1, zr_cp2, zr_tl, zr_tn, shq, List.contains_nil, List.contains_cons, Nat.reduceBEq, Bool.false_or, Bool.or_false, Bool.true_or, Bool.false_eq_true, if_false, if_true, true_and, and_true, List.set_cons_zero, List.set_cons_succ, List.length_cons, List.length_nil, Nat.reduceAdd, Nat.reduceLeDiff, Nat.le_refl, Nat.zero_le, true_or, or_true, zn_cl, ↓jj_KS_coarse, p4]
  refine k_KS_isSide (fun i hi e => ?_) (fun e => ?_)
  · subst e
    rw [zs_ix_of hi (by decide)] at hR
    simp only [↓zq, ↓reduceIte, zr_si2, zr_sr1, zr_cp2, zr_tl, zr_tn, shq, List.contains_nil, List.contains_cons, Nat.reduceBEq, Bool.false_or, Bool.or_false, Bool.true_or, Bool.false_eq_true, if_false, if_true, true_and, and_true, List.set_cons_zero, List.set_cons_succ, List.length_cons, List.length_nil, Nat.reduceAdd, Nat.reduceLeDiff, Nat.le_refl, Nat.zero_le, true_or, or_true, zn_cl, ↓jj_KS_coarse, p4]
    refine ⟨fun z => absurd z (by decide), fun _ => ?_⟩
    refine k_KS_isValue (fun j hj e => ?_) (fun e => ?_)
    · subst e
      rw [zs_ix_of hj (by decide)] at hR
      simp only [↓zq, ↓reduceIte, zr_si2, zr_sr1, zr_cp2, zr_tl, zr_tn, shq, List.contains_nil, List.contains_cons, Nat.reduceBEq, Bool.false_or, Bool.or_false, Bool.true_or, Bool.false_eq_true, if_false, if_true, true_and, and_true, List.set_cons_zero, List.set_cons_succ, List.length_cons, List.length_nil, Nat.reduceAdd, Nat.reduceLeDiff, Nat.le_refl, Nat.zero_le, true_or, or_true, zn_cl, ↓jj_KS_coarse, p4]
      refine ⟨fun z => absurd z (by decide), fun _ => ?_⟩
      refine k_Shape_numberOf (lev := 1) (zk_shp28 c1) c4 hi (by decide) hj ?_
      simp only [↓zq, ↓reduceIte, zr_si2, zr_sr1, zr_cp2, zr_tl, zr_tn, shq, List.contains_nil, List.contains_cons, Nat.reduceBEq, Bool.false_or, Bool.or_false, Bool.true_or, Bool.false_eq_true, if_false, if_true, true_and, and_true, List.set_cons_zero, List.set_cons_succ, List.length_cons, List.length_nil, Nat.reduceAdd, Nat.reduceLeDiff, Nat.le_refl, Nat.zero_le, true_or, or_true, zn_cl, ↓jj_KS_coarse]
      simpa [zs_num] using hR
    · rw [zs_ix_no e] at hR
      simp only [↓zq, ↓reduceIte, zr_si2, zr_sr1, zr_cp2, zr_tl, zr_tn, shq, List.contains_nil, List.contains_cons, Nat.reduceBEq, Bool.false_or, Bool.or_false, Bool.true_or, Bool.false_eq_true, if_false, if_true, true_and, and_true, List.set_cons_zero, List.set_cons_succ, List.length_cons, List.length_nil, Nat.reduceAdd, Nat.reduceLeDiff, Nat.le_refl, Nat.zero_le, true_or, or_true, zn_cl, ↓jj_KS_coarse]
      exact ⟨fun _ => hR, fun z => absurd trivial z⟩
  · rw [zs_ix_no e] at hR
    simp only [↓zq, ↓reduceIte, zr_si2, zr_sr1, zr_cp2, zr_tl, zr_tn, shq, List.contains_nil, List.contains_cons, Nat.reduceBEq, Bool.false_or, Bool.or_false, Bool.true_or, Bool.false_eq_true, if_false, if_true, true_and, and_true, List.set_cons_zero, List.set_cons_succ, List.length_cons, List.length_nil, Nat.reduceAdd, Nat.reduceLeDiff, Nat.le_refl, Nat.zero_le, true_or, or_true, zn_cl, ↓jj_KS_coarse]
    exact ⟨fun _ => hR, fun z => absurd trivial z⟩
set_option maxHeartbeats 4000000 in
set_option maxRecDepth 100000 in
theorem k_KS_summaryIs {d : Nat} {h : zm_M} {R : zm_R} {pi : Nat → Nat} {F : zs_F} {sp : Nat → Nat} {U : zs_U} {Q : zs_Q} {x y : Int32} (hC : zC h pi F sp U Q) (hR : R (some (.inl (A_summaryIs F sp U x y))) h) : zm_C (d + 3) TT m_KS_summaryIs [.inr (some 0), .inl x, .inl y] h R := by
  obtain ⟨p0, p1, p2, p4, p5, p6, p7, p9, p10, p11, p12, p14⟩ := zC_p hC
  obtain ⟨c1, c2, ⟨c3, c3w⟩, ⟨c4, c4w⟩, ⟨c7, c8⟩, c9, c10⟩ := id hC
  have h8 := c8.1
  unfold A_summaryIs at hR
  refine st_KS_summaryIs [] 9 ?_
  simp only [↓zq, ↓reduceIte, zr_si2, zr_sr1, zr_cp2, zr_tl, zr_tn, shq, List.contains_nil, List.contains_cons, Nat.reduceBEq, Bool.false_or, Bool.or_false, Bool.true_or, Bool.false_eq_true, if_false, if_true, true_and, and_true, List.set_cons_zero, List.set_cons_succ, List.length_cons, List.length_nil, Nat.reduceAdd, Nat.reduceLeDiff, Nat.le_refl, Nat.zero_le, true_or, or_true, zn_cl, ↓jj_KS_summaryIs, p6]
  refine k_Shelf_at hC (fun s hs e => ?_) (fun e => ?_)
  · subst e
    rw [zs_ix_of hs (by omega)] at hR
    have hp := (c2.1 s (by omega)).2
    obtain ⟨k1, k2, k3⟩ := zk_sums c1 hp
    obtain ⟨y1, y2, y3, y4⟩ := c7.2 s hs
    have k31 := k3.1
    simp only [↓zq, ↓reduceIte, zr_si2, zr_sr1, zr_cp2, zr_tl, zr_tn, shq, List.contains_nil, List.contains_cons, Nat.reduceBEq, Bool.false_or, Bool.or_false, Bool.true_or, Bool.false_eq_true, if_false, if_true, true_and, and_true, List.set_cons_zero, List.set_cons_succ, List.length_cons, List.length_nil, Nat.reduceAdd, Nat.reduceLeDiff, Nat.le_refl, Nat.zero_le, true_or, or_true, zn_cl, ↓jj_KS_summaryIs, k1, k2, k31, y2, y3, y4]
    refine ⟨fun _ => ?_, fun z => (by cases z)⟩
    simp only [] at hR
    rcases zs_cas y 13 (by decide) with ⟨w, hw, rfl⟩ | e
    · rw [zs_ix_of hw (by decide)] at hR
      simp only [] at hR
      have ne : ∀ a b, a < 13 → b < 13 → a ≠ b → ¬ nI a = nI b := fun a b ha hb hab => by
        rw [zn_eq (by omega) (by omega)]
        exact hab
      by_cases e3 : w = 3
      · subst e3; exact ⟨fun _ => hR, fun z => absurd rfl z⟩
      refine ⟨fun z => absurd z (ne w 3 hw (by decide) e3), fun _ => ?_⟩
      by_cases e4 : w = 4
      · subst e4; exact ⟨fun _ => hR, fun z => absurd rfl z⟩
      refine ⟨fun z => absurd z (ne w 4 hw (by decide) e4), fun _ => ?_⟩
      by_cases e5 : w = 5
      · subst e5; exact ⟨fun _ => hR, fun z => absurd rfl z⟩
      refine ⟨fun z => absurd z (ne w 5 hw (by decide) e5), fun _ => ?_⟩
      by_cases e6 : w = 6
      · subst e6
        refine ⟨fun _ => ?_, fun z => absurd rfl z⟩
        refine k_KS_costOf hC hs ?_
        simp only [↓zq, ↓reduceIte, zr_si2, zr_sr1, zr_cp2, zr_tl, zr_tn, shq, List.contains_nil, List.contains_cons, Nat.reduceBEq, Bool.false_or, Bool.or_false, Bool.true_or, Bool.false_eq_true, if_false, if_true, true_and, and_true, List.set_cons_zero, List.set_cons_succ, List.length_cons, List.length_nil, Nat.reduceAdd, Nat.reduceLeDiff, Nat.le_refl, Nat.zero_le, true_or, or_true, zn_cl, ↓jj_KS_summaryIs]
        exact hR
      refine ⟨fun z => absurd z (ne w 6 hw (by decide) e6), fun _ => ?_⟩
      refine k_Cut_levelOrLets k3 (fun j hj e => ?_) (fun j hj e => ?_) (fun e => ?_)
      · have e := (nI_eq (by omega) (by omega)).mp e
        subst e
        simp only [↓zq, ↓reduceIte, zr_si2, zr_sr1, zr_cp2, zr_tl, zr_tn, shq, List.contains_nil, List.contains_cons, Nat.reduceBEq, Bool.false_or, Bool.or_false, Bool.true_or, Bool.false_eq_true, if_false, if_true, true_and, and_true, List.set_cons_zero, List.set_cons_succ, List.length_cons, List.length_nil, Nat.reduceAdd, Nat.reduceLeDiff, Nat.le_refl, Nat.zero_le, true_or, or_true, zn_cl, ↓jj_KS_summaryIs]
        rw [(zc_R_lev y1 hj).1]
        rw [if_pos hj] at hR
        exact hR
      · have e := (nI_eq (by omega) (by omega)).mp e
        subst e
        simp only [↓zq, ↓reduceIte, zr_si2, zr_sr1, zr_cp2, zr_tl, zr_tn, shq, List.contains_nil, List.contains_cons, Nat.reduceBEq, Bool.false_or, Bool.or_false, Bool.true_or, Bool.false_eq_true, if_false, if_true, true_and, and_true, List.set_cons_zero, List.set_cons_succ, List.length_cons, List.length_nil, Nat.reduceAdd, Nat.reduceLeDiff, Nat.le_refl, Nat.zero_le, true_or, or_true, zn_cl, ↓jj_KS_summaryIs]
        rw [(zc_R_lev y1 hj).2]
        rw [if_neg (by omega), if_neg e3, if_neg e4, if_neg e5, if_neg e6, if_pos (by omega), show 10 + j - 10 = j by omega] at hR
        exact hR
      · simp only [↓zq, ↓reduceIte, zr_si2, zr_sr1, zr_cp2, zr_tl, zr_tn, shq, List.contains_nil, List.contains_cons, Nat.reduceBEq, Bool.false_or, Bool.or_false, Bool.true_or, Bool.false_eq_true, if_false, if_true, true_and, and_true, List.set_cons_zero, List.set_cons_succ, List.length_cons, List.length_nil, Nat.reduceAdd, Nat.reduceLeDiff, Nat.le_refl, Nat.zero_le, true_or, or_true, zn_cl, ↓jj_KS_summaryIs]
        have n1 : ¬ w < 3 := fun z => (e w z).1 rfl
        have n2 : ¬ 10 ≤ w := fun z => (e (w - 10) (by omega)).2 (by rw [show 10 + (w - 10) = w by omega])
        rw [if_neg n1, if_neg e3, if_neg e4, if_neg e5, if_neg e6, if_neg n2] at hR
        exact hR
    · rw [zs_ix_no e] at hR
      have e : y < 0 ∨ (13 : Int32) ≤ y := e
      refine ⟨fun z => (by exfalso; clear hR; rcases e with e | e <;> (simp only [Int32.lt_iff_toInt_lt, Int32.le_iff_toInt_le, ← Int32.toInt_inj, zi_c] at *; omega)), fun _ => ⟨fun z => (by exfalso; clear hR; rcases e with e | e <;> (simp only [Int32.lt_iff_toInt_lt, Int32.le_iff_toInt_le, ← Int32.toInt_inj, zi_c] at *; omega)), fun _ => ⟨fun z => (by exfalso; clear hR; rcases e with e | e <;> (simp only [Int32.lt_iff_toInt_lt, Int32.le_iff_toInt_le, ← Int32.toInt_inj, zi_c] at *; omega)), fun _ => ⟨fun z => (by exfalso; clear hR; rcases e with e | e <;> (simp only [Int32.lt_iff_toInt_lt, Int32.le_iff_toInt_le, ← Int32.toInt_inj, zi_c] at *; omega)), fun _ => ?_⟩⟩⟩⟩
      refine k_Cut_levelOrLets k3 (fun j hj e2 => ?_) (fun j hj e2 => ?_) (fun _ => ?_)
      · subst e2
        rcases e with e | e
        · exact absurd e (nI_pos (by omega))
        · exact absurd e (nI_ge (b := 13) (by omega) (by decide))
      · subst e2
        rcases e with e | e
        · exact absurd e (nI_pos (by omega))
        · exact absurd e (nI_ge (b := 13) (by omega) (by decide))
      · simp only [↓zq, ↓reduceIte, zr_si2, zr_sr1, zr_cp2, zr_tl, zr_tn, shq, List.contains_nil, List.contains_cons, Nat.reduceBEq, Bool.false_or, Bool.or_false, Bool.true_or, Bool.false_eq_true, if_false, if_true, true_and, and_true, List.set_cons_zero, List.set_cons_succ, List.length_cons, List.length_nil, Nat.reduceAdd, Nat.reduceLeDiff, Nat.le_refl, Nat.zero_le, true_or, or_true, zn_cl, ↓jj_KS_summaryIs]
        exact hR
  · rw [zs_ix_no2 (by omega) e] at hR
    simp only [↓zq, ↓reduceIte, zr_si2, zr_sr1, zr_cp2, zr_tl, zr_tn, shq, List.contains_nil, List.contains_cons, Nat.reduceBEq, Bool.false_or, Bool.or_false, Bool.true_or, Bool.false_eq_true, if_false, if_true, true_and, and_true, List.set_cons_zero, List.set_cons_succ, List.length_cons, List.length_nil, Nat.reduceAdd, Nat.reduceLeDiff, Nat.le_refl, Nat.zero_le, true_or, or_true, zn_cl, ↓jj_KS_summaryIs]
    exact ⟨fun z => absurd trivial z, fun _ => hR⟩
set_option maxHeartbeats 4000000 in
set_option maxRecDepth 100000 in
theorem k_KS_questionIs {d : Nat} {h : zm_M} {R : zm_R} {pi : Nat → Nat} {F : zs_F} {sp : Nat → Nat} {U : zs_U} {Q : zs_Q} {y : Int32} (hC : zC h pi F sp U Q) (hR : R (some (.inl (A_questionIs Q y))) h) : zm_C (d + 3) TT m_KS_questionIs [.inr (some 0), .inl y] h R := by
  obtain ⟨p0, p1, p2, p4, p5, p6, p7, p9, p10, p11, p12, p14⟩ := zC_p hC
  obtain ⟨c1, c2, ⟨c3, c3w⟩, ⟨c4, c4w⟩, ⟨c7, c8⟩, c9, c10⟩ := id hC
  have q1 := c9.1
  unfold A_questionIs at hR
  have main : ∀ w, w < 13 → ¬ (4 ≤ w ∧ w < 10) → y = nI w → zm_W (zm_md m_KS_questionIs) (d + 3) TT R 14 [some (.inr (some 0)), some (.inl y)] [] h := by
    intro w hw hn e
    subst e
    rw [zs_ix_of hw (by decide)] at hR
    simp only [] at hR
    rw [if_neg hn] at hR
    refine zm_go g_KS_questionIs [] 30 (by decide +kernel) ok_KS_questionIs _ rfl ?_
    simp only [↓zq, ↓reduceIte, zr_si2, zr_sr1, zr_cp2, zr_tl, zr_tn, shq, List.contains_nil, List.contains_cons, Nat.reduceBEq, Bool.false_or, Bool.or_false, Bool.true_or, Bool.false_eq_true, if_false, if_true, true_and, and_true, List.set_cons_zero, List.set_cons_succ, List.length_cons, List.length_nil, Nat.reduceAdd, Nat.reduceLeDiff, Nat.le_refl, Nat.zero_le, true_or, or_true, zn_cl, ↓jj_KS_questionIs, q1, p7]
    cases hq : Q.1
    · rw [hq] at hR
      simp only [Bool.false_eq_true, if_true, if_false] at hR ⊢
      exact ⟨fun z => absurd trivial z, fun _ => hR⟩
    · rw [hq] at hR
      simp only [Bool.true_eq_false, if_false, if_true] at hR ⊢
      obtain ⟨q2, q3⟩ := c9.2 hq
      refine ⟨fun _ => ?_, fun z => absurd z (by decide)⟩
      rw [q3]
      by_cases e3 : w = 3
      · subst e3
        exact ⟨fun z => absurd rfl z, fun _ => hR⟩
      · refine ⟨fun _ => ?_, fun z => absurd ((nI_eq (b := 3) (by omega) (by decide)).mp z) e3⟩
        refine k_Cut_levelOrLets (zk_cutQ c1) (fun j hj e => ?_) (fun j hj e => ?_) (fun e => ?_)
        · have e := (nI_eq (by omega) (by omega)).mp e
          subst e
          simp only [↓zq, ↓reduceIte, zr_si2, zr_sr1, zr_cp2, zr_tl, zr_tn, shq, List.contains_nil, List.contains_cons, Nat.reduceBEq, Bool.false_or, Bool.or_false, Bool.true_or, Bool.false_eq_true, if_false, if_true, true_and, and_true, List.set_cons_zero, List.set_cons_succ, List.length_cons, List.length_nil, Nat.reduceAdd, Nat.reduceLeDiff, Nat.le_refl, Nat.zero_le, true_or, or_true, zn_cl, ↓jj_KS_questionIs]
          rw [(zc_R_lev q2 hj).1]
          rw [if_pos hj] at hR
          exact hR
        · have e := (nI_eq (by omega) (by omega)).mp e
          subst e
          simp only [↓zq, ↓reduceIte, zr_si2, zr_sr1, zr_cp2, zr_tl, zr_tn, shq, List.contains_nil, List.contains_cons, Nat.reduceBEq, Bool.false_or, Bool.or_false, Bool.true_or, Bool.false_eq_true, if_false, if_true, true_and, and_true, List.set_cons_zero, List.set_cons_succ, List.length_cons, List.length_nil, Nat.reduceAdd, Nat.reduceLeDiff, Nat.le_refl, Nat.zero_le, true_or, or_true, zn_cl, ↓jj_KS_questionIs]
          rw [(zc_R_lev q2 hj).2]
          rw [if_neg (by omega), if_neg e3, show 10 + j - 10 = j by omega] at hR
          exact hR
        · have n1 : ¬ w < 3 := fun z => (e w z).1 rfl
          have n2 : ¬ 10 ≤ w := fun z => (e (w - 10) (by omega)).2 (by rw [show 10 + (w - 10) = w by omega])
          omega
  refine st_KS_questionIs [14] 9 ?_
  simp only [↓zq, ↓reduceIte, zr_si2, zr_sr1, zr_cp2, zr_tl, zr_tn, shq, List.contains_nil, List.contains_cons, Nat.reduceBEq, Bool.false_or, Bool.or_false, Bool.true_or, Bool.false_eq_true, if_false, if_true, true_and, and_true, List.set_cons_zero, List.set_cons_succ, List.length_cons, List.length_nil, Nat.reduceAdd, Nat.reduceLeDiff, Nat.le_refl, Nat.zero_le, true_or, or_true, zn_cl, ↓jj_KS_questionIs]
  refine ⟨fun z => main 3 (by decide) (by decide) z, fun z => ?_⟩
  refine k_KS_isLevelOrLets (fun j hj e => ?_) (fun j hj e => ?_) (fun e => ?_)
  · simp only [↓zq, ↓reduceIte, zr_si2, zr_sr1, zr_cp2, zr_tl, zr_tn, shq, List.contains_nil, List.contains_cons, Nat.reduceBEq, Bool.false_or, Bool.or_false, Bool.true_or, Bool.false_eq_true, if_false, if_true, true_and, and_true, List.set_cons_zero, List.set_cons_succ, List.length_cons, List.length_nil, Nat.reduceAdd, Nat.reduceLeDiff, Nat.le_refl, Nat.zero_le, true_or, or_true, zn_cl, ↓jj_KS_questionIs]
    exact ⟨fun _ => main j (by omega) (by omega) e, fun z => absurd z (by decide)⟩
  · simp only [↓zq, ↓reduceIte, zr_si2, zr_sr1, zr_cp2, zr_tl, zr_tn, shq, List.contains_nil, List.contains_cons, Nat.reduceBEq, Bool.false_or, Bool.or_false, Bool.true_or, Bool.false_eq_true, if_false, if_true, true_and, and_true, List.set_cons_zero, List.set_cons_succ, List.length_cons, List.length_nil, Nat.reduceAdd, Nat.reduceLeDiff, Nat.le_refl, Nat.zero_le, true_or, or_true, zn_cl, ↓jj_KS_questionIs]
    exact ⟨fun _ => main (10 + j) (by omega) (by omega) e, fun z => absurd z (by decide)⟩
  · simp only [↓zq, ↓reduceIte, zr_si2, zr_sr1, zr_cp2, zr_tl, zr_tn, shq, List.contains_nil, List.contains_cons, Nat.reduceBEq, Bool.false_or, Bool.or_false, Bool.true_or, Bool.false_eq_true, if_false, if_true, true_and, and_true, List.set_cons_zero, List.set_cons_succ, List.length_cons, List.length_nil, Nat.reduceAdd, Nat.reduceLeDiff, Nat.le_refl, Nat.zero_le, true_or, or_true, zn_cl, ↓jj_KS_questionIs]
    refine ⟨fun z => absurd trivial z, fun _ => ?_⟩
    rcases zs_cas y 13 (by decide) with ⟨w, hw, rfl⟩ | e2
    · rw [zs_ix_of hw (by decide)] at hR
      simp only [] at hR
      have n1 : ¬ w < 3 := fun z => (e w z).1 rfl
      have n2 : ¬ 10 ≤ w := fun z => (e (w - 10) (by omega)).2 (by rw [show 10 + (w - 10) = w by omega])
      have n3 : w ≠ 3 := fun z2 => z (by rw [z2]; rfl)
      rw [if_pos (by omega)] at hR
      exact hR
    · rw [zs_ix_no e2] at hR
      exact hR
set_option maxHeartbeats 4000000 in
set_option maxRecDepth 100000 in
theorem k_KS_covers {d : Nat} {h : zm_M} {R : zm_R} {pi : Nat → Nat} {F : zs_F} {sp : Nat → Nat} {U : zs_U} {Q : zs_Q} {x : Int32} (hC : zC h pi F sp U Q) (hR : R (some (.inl (A_covers sp U Q x))) h) : zm_C (d + 7) TT m_KS_covers [.inr (some 0), .inl x] h R := by
  obtain ⟨p0, p1, p2, p4, p5, p6, p7, p9, p10, p11, p12, p14⟩ := zC_p hC
  have h8 := hC.2.2.2.2.1.2.1
  have q1 := hC.2.2.2.2.2.1.1
  unfold A_covers at hR
  refine st_KS_covers [] 9 ?_
  simp only [↓zq, ↓reduceIte, zr_si2, zr_sr1, zr_cp2, zr_tl, zr_tn, shq, List.contains_nil, List.contains_cons, Nat.reduceBEq, Bool.false_or, Bool.or_false, Bool.true_or, Bool.false_eq_true, if_false, if_true, true_and, and_true, List.set_cons_zero, List.set_cons_succ, List.length_cons, List.length_nil, Nat.reduceAdd, Nat.reduceLeDiff, Nat.le_refl, Nat.zero_le, true_or, or_true, zn_cl, ↓jj_KS_covers, p6]
  refine k_Shelf_at hC (fun s hs e => ?_) (fun e => ?_)
  · subst e
    rw [zs_ix_of hs (by omega)] at hR
    simp only [] at hR
    simp only [↓zq, ↓reduceIte, zr_si2, zr_sr1, zr_cp2, zr_tl, zr_tn, shq, List.contains_nil, List.contains_cons, Nat.reduceBEq, Bool.false_or, Bool.or_false, Bool.true_or, Bool.false_eq_true, if_false, if_true, true_and, and_true, List.set_cons_zero, List.set_cons_succ, List.length_cons, List.length_nil, Nat.reduceAdd, Nat.reduceLeDiff, Nat.le_refl, Nat.zero_le, true_or, or_true, zn_cl, ↓jj_KS_covers, q1]
    refine ⟨fun _ => ?_, fun z => (by cases z)⟩
    cases hq : Q.1
    · rw [hq] at hR
      simp only [Bool.false_eq_true, if_true, if_false] at hR ⊢
      exact ⟨fun z => absurd trivial z, fun _ => hR⟩
    · simp only [hq, Bool.true_eq_false, if_false, if_true] at hR ⊢
      refine ⟨fun _ => ?_, fun z => absurd z (by decide)⟩
      refine k_KS_isCovering hC hs ?_
      simp only [↓zq, ↓reduceIte, zr_si2, zr_sr1, zr_cp2, zr_tl, zr_tn, shq, List.contains_nil, List.contains_cons, Nat.reduceBEq, Bool.false_or, Bool.or_false, Bool.true_or, Bool.false_eq_true, if_false, if_true, true_and, and_true, List.set_cons_zero, List.set_cons_succ, List.length_cons, List.length_nil, Nat.reduceAdd, Nat.reduceLeDiff, Nat.le_refl, Nat.zero_le, true_or, or_true, zn_cl, ↓jj_KS_covers]
      simp only [hq, true_and]
      cases e2 : zs_cov sp (U.2 s) Q.2
      · rw [e2] at hR
        simp only [Bool.false_eq_true, if_false] at hR ⊢
        exact ⟨fun _ => hR, fun z => absurd trivial z⟩
      · rw [e2] at hR
        simp only [if_true] at hR ⊢
        exact ⟨fun z => absurd z (by decide), fun _ => hR⟩
  · rw [zs_ix_no2 (by omega) e] at hR
    simp only [↓zq, ↓reduceIte, zr_si2, zr_sr1, zr_cp2, zr_tl, zr_tn, shq, List.contains_nil, List.contains_cons, Nat.reduceBEq, Bool.false_or, Bool.or_false, Bool.true_or, Bool.false_eq_true, if_false, if_true, true_and, and_true, List.set_cons_zero, List.set_cons_succ, List.length_cons, List.length_nil, Nat.reduceAdd, Nat.reduceLeDiff, Nat.le_refl, Nat.zero_le, true_or, or_true, zn_cl, ↓jj_KS_covers]
    exact ⟨fun z => absurd trivial z, fun _ => hR⟩
