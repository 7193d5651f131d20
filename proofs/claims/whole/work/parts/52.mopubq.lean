/-! the reference's public queries -/
set_option maxHeartbeats 4000000 in
set_option maxRecDepth 100000 in
theorem k_Mo_isSide {d : Nat} {T : zm_T} {h : zm_M} {R : zm_R} {x : Int32} (h1 : ∀ j : Nat, j < 3 → x = nI j → R (some (.inl 1)) h) (h0 : (x < 0 ∨ 3 ≤ x) → R (some (.inl 0)) h) : zm_C (d + 2) T m_Mo_isSide [.inl x] h R := by
  refine st_Mo_isSide [] 9 ?_
  simp only [↓zq, ↓reduceIte, zr_si2, zr_sr1, zr_cp2, zr_tl, zr_tn, shq, List.contains_nil, List.contains_cons, Nat.reduceBEq, Bool.false_or, Bool.or_false, Bool.true_or, Bool.false_eq_true, if_false, if_true, true_and, and_true, List.set_cons_zero, List.set_cons_succ, List.length_cons, List.length_nil, Nat.reduceAdd, Nat.reduceLeDiff, Nat.le_refl, Nat.zero_le, true_or, or_true, zn_cl, ↓jj_Mo_isSide]
  refine k_Mo_in (fun a b => ?_) (fun a => ?_)
  · simp only [↓zq, ↓reduceIte, zr_si2, zr_sr1, zr_cp2, zr_tl, zr_tn, shq, List.contains_nil, List.contains_cons, Nat.reduceBEq, Bool.false_or, Bool.or_false, Bool.true_or, Bool.false_eq_true, if_false, if_true, true_and, and_true, List.set_cons_zero, List.set_cons_succ, List.length_cons, List.length_nil, Nat.reduceAdd, Nat.reduceLeDiff, Nat.le_refl, Nat.zero_le, true_or, or_true, zn_cl, ↓jj_Mo_isSide]
    obtain ⟨j, hj, e⟩ := zn_of (n := 3) (m := 3) a (fun z => b (by (simp only [Int32.lt_iff_toInt_lt, Int32.le_iff_toInt_le, ← Int32.toInt_inj, zi_c] at *; omega)))
    exact h1 j hj e
  · simp only [↓zq, ↓reduceIte, zr_si2, zr_sr1, zr_cp2, zr_tl, zr_tn, shq, List.contains_nil, List.contains_cons, Nat.reduceBEq, Bool.false_or, Bool.or_false, Bool.true_or, Bool.false_eq_true, if_false, if_true, true_and, and_true, List.set_cons_zero, List.set_cons_succ, List.length_cons, List.length_nil, Nat.reduceAdd, Nat.reduceLeDiff, Nat.le_refl, Nat.zero_le, true_or, or_true, zn_cl, ↓jj_Mo_isSide]
    refine h0 (a.imp id (fun z => ?_))
    (simp only [Int32.lt_iff_toInt_lt, Int32.le_iff_toInt_le, ← Int32.toInt_inj, zi_c] at *; omega)
set_option maxHeartbeats 4000000 in
set_option maxRecDepth 100000 in
theorem k_Mo_isValue {d : Nat} {T : zm_T} {h : zm_M} {R : zm_R} {x : Int32} (h1 : ∀ j : Nat, j < 8 → x = nI j → R (some (.inl 1)) h) (h0 : (x < 0 ∨ 8 ≤ x) → R (some (.inl 0)) h) : zm_C (d + 2) T m_Mo_isValue [.inl x] h R := by
  refine st_Mo_isValue [] 9 ?_
  simp only [↓zq, ↓reduceIte, zr_si2, zr_sr1, zr_cp2, zr_tl, zr_tn, shq, List.contains_nil, List.contains_cons, Nat.reduceBEq, Bool.false_or, Bool.or_false, Bool.true_or, Bool.false_eq_true, if_false, if_true, true_and, and_true, List.set_cons_zero, List.set_cons_succ, List.length_cons, List.length_nil, Nat.reduceAdd, Nat.reduceLeDiff, Nat.le_refl, Nat.zero_le, true_or, or_true, zn_cl, ↓jj_Mo_isValue]
  refine k_Mo_in (fun a b => ?_) (fun a => ?_)
  · simp only [↓zq, ↓reduceIte, zr_si2, zr_sr1, zr_cp2, zr_tl, zr_tn, shq, List.contains_nil, List.contains_cons, Nat.reduceBEq, Bool.false_or, Bool.or_false, Bool.true_or, Bool.false_eq_true, if_false, if_true, true_and, and_true, List.set_cons_zero, List.set_cons_succ, List.length_cons, List.length_nil, Nat.reduceAdd, Nat.reduceLeDiff, Nat.le_refl, Nat.zero_le, true_or, or_true, zn_cl, ↓jj_Mo_isValue]
    obtain ⟨j, hj, e⟩ := zn_of (n := 8) (m := 8) a (fun z => b (by (simp only [Int32.lt_iff_toInt_lt, Int32.le_iff_toInt_le, ← Int32.toInt_inj, zi_c] at *; omega)))
    exact h1 j hj e
  · simp only [↓zq, ↓reduceIte, zr_si2, zr_sr1, zr_cp2, zr_tl, zr_tn, shq, List.contains_nil, List.contains_cons, Nat.reduceBEq, Bool.false_or, Bool.or_false, Bool.true_or, Bool.false_eq_true, if_false, if_true, true_and, and_true, List.set_cons_zero, List.set_cons_succ, List.length_cons, List.length_nil, Nat.reduceAdd, Nat.reduceLeDiff, Nat.le_refl, Nat.zero_le, true_or, or_true, zn_cl, ↓jj_Mo_isValue]
    refine h0 (a.imp id (fun z => ?_))
    (simp only [Int32.lt_iff_toInt_lt, Int32.le_iff_toInt_le, ← Int32.toInt_inj, zi_c] at *; omega)
set_option maxHeartbeats 4000000 in
set_option maxRecDepth 100000 in
theorem k_Mo_in0 {d : Nat} {T : zm_T} {h : zm_M} {R : zm_R} {x : Int32} (m : Nat) (hm : m + 1 < 2 ^ 31) (h1 : ∀ j : Nat, j < m + 1 → x = nI j → R (some (.inl 1)) h) (h0 : zs_ix x (m + 1) = none → R (some (.inl 0)) h) : zm_C (d + 1) T m_Mo_in [.inl x, .inl 0, .inl (nI m)] h R := by
  refine k_Mo_in (fun a b => ?_) (fun a => ?_)
  · rcases zs_cas x (m + 1) hm with ⟨j, hj, e⟩ | e
    · exact h1 j hj e
    · rcases e with e | e
      · exact absurd e a
      · obtain ⟨j, hj, rfl⟩ := nI_of a
        rw [zn_le hm hj] at e
        rw [zn_lt (by omega) hj] at b
        omega
  · refine h0 ?_
    rcases zs_cas x (m + 1) hm with ⟨j, hj, rfl⟩ | e
    · rcases a with a | a
      · exact absurd a (nI_pos (by omega))
      · rw [zn_lt (by omega) (by omega)] at a
        omega
    · exact zs_ix_no e
set_option maxHeartbeats 4000000 in
set_option maxRecDepth 100000 in
theorem k_Mo_factIs {d : Nat} {h : zm_M} {R : zm_R} {F : zs_F} {sp : Nat → Nat} {U : zs_U} {Q : zs_Q} {x y : Int32} (hO : zO h F sp U Q) (hR : R (some (.inl (A_factIs F x y))) h) : zm_C (d + 2) TT m_Mo_factIs [.inr (some 133), .inl x, .inl y] h R := by
  obtain ⟨o1, ⟨o2, o2w⟩, ⟨o3, o3w⟩, ⟨o4, o4w⟩, o5, o6⟩ := id hO
  obtain ⟨p4, p5, p6, p7, p35, p37, p38, p39, p40⟩ := zp_m o1
  have f1 := o2.1
  have hw1 := o2w.1
  unfold A_factIs at hR
  refine st_Mo_factIs [] 9 ?_
  simp only [↓zq, ↓reduceIte, zr_si2, zr_sr1, zr_cp2, zr_tl, zr_tn, shq, List.contains_nil, List.contains_cons, Nat.reduceBEq, Bool.false_or, Bool.or_false, Bool.true_or, Bool.false_eq_true, if_false, if_true, true_and, and_true, List.set_cons_zero, List.set_cons_succ, List.length_cons, List.length_nil, Nat.reduceAdd, Nat.reduceLeDiff, Nat.le_refl, Nat.zero_le, true_or, or_true, zn_cl, ↓jj_Mo_factIs, f1]
  cases hn : F.1 with
  | zero =>
    refine k_Mo_in (fun a b => ?_) (fun a => ?_)
    · exfalso
      rw [show nI 0 - 1 = -1 from rfl] at b
      clear hR
      (simp only [Int32.lt_iff_toInt_lt, Int32.le_iff_toInt_le, ← Int32.toInt_inj, zi_c] at *; omega)
    · rw [hn, zs_ix_no (by
        rcases zs_cas x 0 (by decide) with ⟨j, hj, e⟩ | e
        · omega
        · exact e)] at hR
      simp only [↓zq, ↓reduceIte, zr_si2, zr_sr1, zr_cp2, zr_tl, zr_tn, shq, List.contains_nil, List.contains_cons, Nat.reduceBEq, Bool.false_or, Bool.or_false, Bool.true_or, Bool.false_eq_true, if_false, if_true, true_and, and_true, List.set_cons_zero, List.set_cons_succ, List.length_cons, List.length_nil, Nat.reduceAdd, Nat.reduceLeDiff, Nat.le_refl, Nat.zero_le, true_or, or_true, zn_cl, ↓jj_Mo_factIs]
      exact ⟨fun _ => hR, fun z => absurd trivial z⟩
  | succ n =>
    rw [show nI (n + 1) - 1 = nI n from nI_pred n]
    refine k_Mo_in0 n (by omega) (fun f hf e => ?_) (fun e => ?_)
    · subst e
      rw [hn, zs_ix_of hf (by omega)] at hR
      have hf' : f < F.1 := by omega
      obtain ⟨wa, wb, wc, wm, w240⟩ := zw_F_at o2w hf'
      simp only [↓zq, ↓reduceIte, zr_si2, zr_sr1, zr_cp2, zr_tl, zr_tn, shq, List.contains_nil, List.contains_cons, Nat.reduceBEq, Bool.false_or, Bool.or_false, Bool.true_or, Bool.false_eq_true, if_false, if_true, true_and, and_true, List.set_cons_zero, List.set_cons_succ, List.length_cons, List.length_nil, Nat.reduceAdd, Nat.reduceLeDiff, Nat.le_refl, Nat.zero_le, true_or, or_true, zn_cl, ↓jj_Mo_factIs]
      refine ⟨fun z => absurd z (by decide), fun _ => ?_⟩
      refine k_Mo_in0 3 (by decide) (fun w hw e => ?_) (fun e => ?_)
      · subst e
        rw [zs_ix_of hw (by decide)] at hR
        simp only [] at hR
        simp only [↓zq, ↓reduceIte, zr_si2, zr_sr1, zr_cp2, zr_tl, zr_tn, shq, List.contains_nil, List.contains_cons, Nat.reduceBEq, Bool.false_or, Bool.or_false, Bool.true_or, Bool.false_eq_true, if_false, if_true, true_and, and_true, List.set_cons_zero, List.set_cons_succ, List.length_cons, List.length_nil, Nat.reduceAdd, Nat.reduceLeDiff, Nat.le_refl, Nat.zero_le, true_or, or_true, zn_cl, ↓jj_Mo_factIs]
        refine ⟨fun z => absurd z (by decide), fun _ => ?_⟩
        refine k_Mo_ofFact p4 w240 hw ?_
        simp only [↓zq, ↓reduceIte, zr_si2, zr_sr1, zr_cp2, zr_tl, zr_tn, shq, List.contains_nil, List.contains_cons, Nat.reduceBEq, Bool.false_or, Bool.or_false, Bool.true_or, Bool.false_eq_true, if_false, if_true, true_and, and_true, List.set_cons_zero, List.set_cons_succ, List.length_cons, List.length_nil, Nat.reduceAdd, Nat.reduceLeDiff, Nat.le_refl, Nat.zero_le, true_or, or_true, zn_cl, ↓jj_Mo_factIs]
        rcases (show w < 3 ∨ w = 3 by omega) with h3 | h3
        · rw [zo_F_at o2 hf' h3]
          rw [if_pos h3] at hR
          exact hR
        · subst h3
          rw [(o2.2 f hf').2.2.2]
          exact hR
      · rw [e] at hR
        simp only [↓zq, ↓reduceIte, zr_si2, zr_sr1, zr_cp2, zr_tl, zr_tn, shq, List.contains_nil, List.contains_cons, Nat.reduceBEq, Bool.false_or, Bool.or_false, Bool.true_or, Bool.false_eq_true, if_false, if_true, true_and, and_true, List.set_cons_zero, List.set_cons_succ, List.length_cons, List.length_nil, Nat.reduceAdd, Nat.reduceLeDiff, Nat.le_refl, Nat.zero_le, true_or, or_true, zn_cl, ↓jj_Mo_factIs]
        exact ⟨fun _ => hR, fun z => absurd trivial z⟩
    · rw [hn, e] at hR
      simp only [↓zq, ↓reduceIte, zr_si2, zr_sr1, zr_cp2, zr_tl, zr_tn, shq, List.contains_nil, List.contains_cons, Nat.reduceBEq, Bool.false_or, Bool.or_false, Bool.true_or, Bool.false_eq_true, if_false, if_true, true_and, and_true, List.set_cons_zero, List.set_cons_succ, List.length_cons, List.length_nil, Nat.reduceAdd, Nat.reduceLeDiff, Nat.le_refl, Nat.zero_le, true_or, or_true, zn_cl, ↓jj_Mo_factIs]
      exact ⟨fun _ => hR, fun z => absurd trivial z⟩
set_option maxHeartbeats 4000000 in
set_option maxRecDepth 100000 in
theorem k_Mo_coarse {d : Nat} {h : zm_M} {R : zm_R} {F : zs_F} {sp : Nat → Nat} {U : zs_U} {Q : zs_Q} {x y : Int32} (hO : zO h F sp U Q) (hR : R (some (.inl (A_coarse sp x y))) h) : zm_C (d + 3) TT m_Mo_coarse [.inr (some 133), .inl x, .inl y] h R := by
  obtain ⟨p4, p5, p6, p7, p35, p37, p38, p39, p40⟩ := zp_m hO.1
  unfold A_coarse at hR
  refine st_Mo_coarse [] 9 ?_
  simp only [↓zq, ↓reduceIte, zr_si2, zr_sr1, zr_cp2, zr_tl, zr_tn, shq, List.contains_nil, List.contains_cons, Nat.reduceBEq, Bool.false_or, Bool.or_false, Bool.true_or, Bool.false_eq_true, if_false, if_true, true_and, and_true, List.set_cons_zero, List.set_cons_succ, List.length_cons, List.length_nil, Nat.reduceAdd, Nat.reduceLeDiff, Nat.le_refl, Nat.zero_le, true_or, or_true, zn_cl, ↓jj_Mo_coarse]
  refine k_Mo_isSide (fun i hi e => ?_) (fun e => ?_)
  · subst e
    rw [zs_ix_of hi (by decide)] at hR
    simp only [↓zq, ↓reduceIte, zr_si2, zr_sr1, zr_cp2, zr_tl, zr_tn, shq, List.contains_nil, List.contains_cons, Nat.reduceBEq, Bool.false_or, Bool.or_false, Bool.true_or, Bool.false_eq_true, if_false, if_true, true_and, and_true, List.set_cons_zero, List.set_cons_succ, List.length_cons, List.length_nil, Nat.reduceAdd, Nat.reduceLeDiff, Nat.le_refl, Nat.zero_le, true_or, or_true, zn_cl, ↓jj_Mo_coarse]
    refine ⟨fun z => absurd z (by decide), fun _ => ?_⟩
    refine k_Mo_isValue (fun j hj e => ?_) (fun e => ?_)
    · subst e
      rw [zs_ix_of hj (by decide)] at hR
      simp only [↓zq, ↓reduceIte, zr_si2, zr_sr1, zr_cp2, zr_tl, zr_tn, shq, List.contains_nil, List.contains_cons, Nat.reduceBEq, Bool.false_or, Bool.or_false, Bool.true_or, Bool.false_eq_true, if_false, if_true, true_and, and_true, List.set_cons_zero, List.set_cons_succ, List.length_cons, List.length_nil, Nat.reduceAdd, Nat.reduceLeDiff, Nat.le_refl, Nat.zero_le, true_or, or_true, zn_cl, ↓jj_Mo_coarse]
      refine ⟨fun z => absurd z (by decide), fun _ => ?_⟩
      refine k_Mo_numberAt (lev := 1) p6 hO.2.2.1.1 hi (by decide) hj ?_
      simp only [↓zq, ↓reduceIte, zr_si2, zr_sr1, zr_cp2, zr_tl, zr_tn, shq, List.contains_nil, List.contains_cons, Nat.reduceBEq, Bool.false_or, Bool.or_false, Bool.true_or, Bool.false_eq_true, if_false, if_true, true_and, and_true, List.set_cons_zero, List.set_cons_succ, List.length_cons, List.length_nil, Nat.reduceAdd, Nat.reduceLeDiff, Nat.le_refl, Nat.zero_le, true_or, or_true, zn_cl, ↓jj_Mo_coarse]
      simpa [zs_num] using hR
    · rw [zs_ix_no e] at hR
      simp only [↓zq, ↓reduceIte, zr_si2, zr_sr1, zr_cp2, zr_tl, zr_tn, shq, List.contains_nil, List.contains_cons, Nat.reduceBEq, Bool.false_or, Bool.or_false, Bool.true_or, Bool.false_eq_true, if_false, if_true, true_and, and_true, List.set_cons_zero, List.set_cons_succ, List.length_cons, List.length_nil, Nat.reduceAdd, Nat.reduceLeDiff, Nat.le_refl, Nat.zero_le, true_or, or_true, zn_cl, ↓jj_Mo_coarse]
      exact ⟨fun _ => hR, fun z => absurd trivial z⟩
  · rw [zs_ix_no e] at hR
    simp only [↓zq, ↓reduceIte, zr_si2, zr_sr1, zr_cp2, zr_tl, zr_tn, shq, List.contains_nil, List.contains_cons, Nat.reduceBEq, Bool.false_or, Bool.or_false, Bool.true_or, Bool.false_eq_true, if_false, if_true, true_and, and_true, List.set_cons_zero, List.set_cons_succ, List.length_cons, List.length_nil, Nat.reduceAdd, Nat.reduceLeDiff, Nat.le_refl, Nat.zero_le, true_or, or_true, zn_cl, ↓jj_Mo_coarse]
    exact ⟨fun _ => hR, fun z => absurd trivial z⟩
theorem zo_fr.f4 {h h' : zm_M} (e : zo_f4 h h') : zo_fr h h' := zo_fr.of e.1 (fun a ha => e.2 a (by omega))
set_option maxHeartbeats 4000000 in
set_option maxRecDepth 100000 in
theorem k_Mo_summaryIs {d : Nat} {h : zm_M} {R : zm_R} {F : zs_F} {sp : Nat → Nat} {U : zs_U} {Q : zs_Q} {x y : Int32} (hO : zO h F sp U Q) (hR : ∀ h' : zm_M, zo_fr h h' → R (some (.inl (A_summaryIs F sp U x y))) h') : zm_C (d + 7) TT m_Mo_summaryIs [.inr (some 133), .inl x, .inl y] h R := by
  obtain ⟨o1, ⟨o2, o2w⟩, ⟨o3, o3w⟩, ⟨o4, o4w⟩, o5, o6⟩ := id hO
  obtain ⟨p4, p5, p6, p7, p35, p37, p38, p39, p40⟩ := zp_m o1
  have h8 := o4w.1
  unfold A_summaryIs at hR
  have R0 := hR h (zo_fr.rf h)
  refine st_Mo_summaryIs [] 9 ?_
  simp only [↓zq, ↓reduceIte, zr_si2, zr_sr1, zr_cp2, zr_tl, zr_tn, shq, List.contains_nil, List.contains_cons, Nat.reduceBEq, Bool.false_or, Bool.or_false, Bool.true_or, Bool.false_eq_true, if_false, if_true, true_and, and_true, List.set_cons_zero, List.set_cons_succ, List.length_cons, List.length_nil, Nat.reduceAdd, Nat.reduceLeDiff, Nat.le_refl, Nat.zero_le, true_or, or_true, zn_cl, ↓jj_Mo_summaryIs]
  refine k_Mo_isSummary hO (fun s hs e => ?_) (fun e => ?_)
  · subst e
    rw [zs_ix_of hs (by omega)] at hR R0
    simp only [] at hR R0
    simp only [↓zq, ↓reduceIte, zr_si2, zr_sr1, zr_cp2, zr_tl, zr_tn, shq, List.contains_nil, List.contains_cons, Nat.reduceBEq, Bool.false_or, Bool.or_false, Bool.true_or, Bool.false_eq_true, if_false, if_true, true_and, and_true, List.set_cons_zero, List.set_cons_succ, List.length_cons, List.length_nil, Nat.reduceAdd, Nat.reduceLeDiff, Nat.le_refl, Nat.zero_le, true_or, or_true, zn_cl, ↓jj_Mo_summaryIs, p5]
    refine ⟨fun _ => ?_, fun z => absurd z (by decide)⟩
    rcases zs_cas y 13 (by decide) with ⟨w, hw, rfl⟩ | e
    · rw [zs_ix_of hw (by decide)] at hR R0
      simp only [] at hR R0
      have ne : ∀ a b, a < 13 → b < 13 → a ≠ b → ¬ nI a = nI b := fun a b ha hb hab => by
        rw [zn_eq (by omega) (by omega)]
        exact hab
      refine k_Mo_in (fun a b => ?_) (fun a => ?_)
      · rw [show (10 : Int32) = nI 10 from rfl, zn_lt (by omega) (by decide)] at a
        rw [if_neg (by omega), if_neg (by omega), if_neg (by omega), if_neg (by omega), if_neg (by omega), if_pos (by omega)] at R0
        simp only [↓zq, ↓reduceIte, zr_si2, zr_sr1, zr_cp2, zr_tl, zr_tn, shq, List.contains_nil, List.contains_cons, Nat.reduceBEq, Bool.false_or, Bool.or_false, Bool.true_or, Bool.false_eq_true, if_false, if_true, true_and, and_true, List.set_cons_zero, List.set_cons_succ, List.length_cons, List.length_nil, Nat.reduceAdd, Nat.reduceLeDiff, Nat.le_refl, Nat.zero_le, true_or, or_true, zn_cl, ↓jj_Mo_summaryIs, p5]
        refine ⟨fun z => absurd z (by decide), fun _ => ?_⟩
        have ei : (8 : Int32) * nI s + 3 + nI w - 10 = nI (8 * s + (3 + (w - 10))) := by
          rw [zn_8, show (3 : Int32) = nI 3 from rfl, nI_add, nI_add, show (10 : Int32) = nI 10 from rfl, pk_sub (by omega)]
          congr 1
          omega
        rw [ei]
        refine ⟨vp_in_nI (by omega) (by decide), ?_⟩
        rw [nI_clamp (by omega), o4.2 s hs _ (by omega)]
        exact R0
      · have n10 : ¬ 10 ≤ w := by
          rw [show (10 : Int32) = nI 10 from rfl, zn_lt (by omega) (by decide), show (12 : Int32) = nI 12 from rfl, zn_lt (by decide) (by omega)] at a
          omega
        simp only [↓zq, ↓reduceIte, zr_si2, zr_sr1, zr_cp2, zr_tl, zr_tn, shq, List.contains_nil, List.contains_cons, Nat.reduceBEq, Bool.false_or, Bool.or_false, Bool.true_or, Bool.false_eq_true, if_false, if_true, true_and, and_true, List.set_cons_zero, List.set_cons_succ, List.length_cons, List.length_nil, Nat.reduceAdd, Nat.reduceLeDiff, Nat.le_refl, Nat.zero_le, true_or, or_true, zn_cl, ↓jj_Mo_summaryIs, p5]
        refine ⟨fun _ => ?_, fun z => absurd trivial z⟩
        by_cases w3 : w < 3
        · rw [if_pos w3] at R0
          have rd : vp_in (8 * nI s + nI w) 64 ∧ R (some (.inl (h.1 135 (8 * nI s + nI w).toNatClampNeg))) h := by
            rw [zn_8s]
            refine ⟨vp_in_nI (by omega) (by decide), ?_⟩
            rw [nI_clamp (by omega), o4.2 s hs _ (by omega)]
            exact R0
          rcases (show w = 0 ∨ w = 1 ∨ w = 2 by omega) with rfl | rfl | rfl
          · exact ⟨fun _ => rd, fun z => absurd rfl z⟩
          · exact ⟨fun z => absurd z (by decide), fun _ => ⟨fun _ => rd, fun z => absurd rfl z⟩⟩
          · exact ⟨fun z => absurd z (by decide), fun _ => ⟨fun z => absurd z (by decide), fun _ => ⟨fun _ => rd, fun z => absurd rfl z⟩⟩⟩
        · rw [if_neg w3] at R0
          refine ⟨fun z => absurd z (ne w 0 hw (by decide) (by omega)), fun _ => ⟨fun z => absurd z (ne w 1 hw (by decide) (by omega)), fun _ => ⟨fun z => absurd z (ne w 2 hw (by decide) (by omega)), fun _ => ?_⟩⟩⟩
          by_cases e3 : w = 3
          · subst e3
            refine ⟨fun _ => ?_, fun z => absurd rfl z⟩
            rw [show (6 : Int32) = nI 6 from rfl, zn_8s]
            refine ⟨vp_in_nI (by omega) (by decide), ?_⟩
            rw [nI_clamp (by omega), o4.2 s hs _ (by omega)]
            exact R0
          refine ⟨fun z => absurd z (ne w 3 hw (by decide) e3), fun _ => ?_⟩
          by_cases e4 : w = 4
          · subst e4
            refine ⟨fun _ => ?_, fun z => absurd rfl z⟩
            refine k_Mo_upTo hO hs ?_
            simp only [↓zq, ↓reduceIte, zr_si2, zr_sr1, zr_cp2, zr_tl, zr_tn, shq, List.contains_nil, List.contains_cons, Nat.reduceBEq, Bool.false_or, Bool.or_false, Bool.true_or, Bool.false_eq_true, if_false, if_true, true_and, and_true, List.set_cons_zero, List.set_cons_succ, List.length_cons, List.length_nil, Nat.reduceAdd, Nat.reduceLeDiff, Nat.le_refl, Nat.zero_le, true_or, or_true, zn_cl, ↓jj_Mo_summaryIs]
            exact R0
          refine ⟨fun z => absurd z (ne w 4 hw (by decide) e4), fun _ => ?_⟩
          by_cases e5 : w = 5
          · subst e5
            refine ⟨fun _ => ?_, fun z => absurd rfl z⟩
            refine k_Mo_groupsOf hO hs (fun g e1 => ?_)
            simp only [↓zq, ↓reduceIte, zr_si2, zr_sr1, zr_cp2, zr_tl, zr_tn, shq, List.contains_nil, List.contains_cons, Nat.reduceBEq, Bool.false_or, Bool.or_false, Bool.true_or, Bool.false_eq_true, if_false, if_true, true_and, and_true, List.set_cons_zero, List.set_cons_succ, List.length_cons, List.length_nil, Nat.reduceAdd, Nat.reduceLeDiff, Nat.le_refl, Nat.zero_le, true_or, or_true, zn_cl, ↓jj_Mo_summaryIs]
            exact hR g (zo_fr.f4 e1)
          refine ⟨fun z => absurd z (ne w 5 hw (by decide) e5), fun _ => ?_⟩
          by_cases e6 : w = 6
          · subst e6
            refine ⟨fun _ => ?_, fun z => absurd rfl z⟩
            refine k_Mo_costOf hO hs (fun g e1 => ?_)
            simp only [↓zq, ↓reduceIte, zr_si2, zr_sr1, zr_cp2, zr_tl, zr_tn, shq, List.contains_nil, List.contains_cons, Nat.reduceBEq, Bool.false_or, Bool.or_false, Bool.true_or, Bool.false_eq_true, if_false, if_true, true_and, and_true, List.set_cons_zero, List.set_cons_succ, List.length_cons, List.length_nil, Nat.reduceAdd, Nat.reduceLeDiff, Nat.le_refl, Nat.zero_le, true_or, or_true, zn_cl, ↓jj_Mo_summaryIs]
            exact hR g (zo_fr.f4 e1)
          refine ⟨fun z => absurd z (ne w 6 hw (by decide) e6), fun _ => ?_⟩
          rw [if_neg e3, if_neg e4, if_neg e5, if_neg e6, if_neg n10] at R0
          exact R0
    · rw [zs_ix_no e] at R0
      have e : y < 0 ∨ (13 : Int32) ≤ y := e
      refine k_Mo_in (fun a b => ?_) (fun a => ?_)
      · exfalso
        clear hR R0
        rcases e with e | e <;> (simp only [Int32.lt_iff_toInt_lt, Int32.le_iff_toInt_le, ← Int32.toInt_inj, zi_c] at *; omega)
      · simp only [↓zq, ↓reduceIte, zr_si2, zr_sr1, zr_cp2, zr_tl, zr_tn, shq, List.contains_nil, List.contains_cons, Nat.reduceBEq, Bool.false_or, Bool.or_false, Bool.true_or, Bool.false_eq_true, if_false, if_true, true_and, and_true, List.set_cons_zero, List.set_cons_succ, List.length_cons, List.length_nil, Nat.reduceAdd, Nat.reduceLeDiff, Nat.le_refl, Nat.zero_le, true_or, or_true, zn_cl, ↓jj_Mo_summaryIs]
        refine ⟨fun _ => ?_, fun z => absurd trivial z⟩
        have nn : ∀ k, k < 7 → ¬ y = nI k := fun k hk z => by
          subst z
          rcases e with e | e
          · exact nI_pos (by omega) e
          · exact nI_ge (b := 13) (by omega) (by decide) e
        exact ⟨fun z => absurd z (nn 0 (by decide)), fun _ => ⟨fun z => absurd z (nn 1 (by decide)), fun _ => ⟨fun z => absurd z (nn 2 (by decide)), fun _ => ⟨fun z => absurd z (nn 3 (by decide)), fun _ => ⟨fun z => absurd z (nn 4 (by decide)), fun _ => ⟨fun z => absurd z (nn 5 (by decide)), fun _ => ⟨fun z => absurd z (nn 6 (by decide)), fun _ => R0⟩⟩⟩⟩⟩⟩⟩
  · rw [zs_ix_no2 (by omega) e] at R0
    simp only [↓zq, ↓reduceIte, zr_si2, zr_sr1, zr_cp2, zr_tl, zr_tn, shq, List.contains_nil, List.contains_cons, Nat.reduceBEq, Bool.false_or, Bool.or_false, Bool.true_or, Bool.false_eq_true, if_false, if_true, true_and, and_true, List.set_cons_zero, List.set_cons_succ, List.length_cons, List.length_nil, Nat.reduceAdd, Nat.reduceLeDiff, Nat.le_refl, Nat.zero_le, true_or, or_true, zn_cl, ↓jj_Mo_summaryIs]
    exact ⟨fun z => absurd trivial z, fun _ => R0⟩
set_option maxHeartbeats 4000000 in
set_option maxRecDepth 100000 in
theorem k_Mo_group {d : Nat} {h : zm_M} {R : zm_R} {F : zs_F} {sp : Nat → Nat} {U : zs_U} {Q : zs_Q} {x i y : Int32} (hO : zO h F sp U Q) (hR : ∀ h' : zm_M, zo_fr h h' → R (some (.inl (A_group F sp U x i y))) h') : zm_C (d + 6) TT m_Mo_group [.inr (some 133), .inl x, .inl i, .inl y] h R := by
  obtain ⟨o1, ⟨o2, o2w⟩, ⟨o3, o3w⟩, ⟨o4, o4w⟩, o5, o6⟩ := id hO
  obtain ⟨p4, p5, p6, p7, p35, p37, p38, p39, p40⟩ := zp_m o1
  have h8 := o4w.1
  unfold A_group at hR
  have R0 := hR h (zo_fr.rf h)
  refine st_Mo_group [] 9 ?_
  simp only [↓zq, ↓reduceIte, zr_si2, zr_sr1, zr_cp2, zr_tl, zr_tn, shq, List.contains_nil, List.contains_cons, Nat.reduceBEq, Bool.false_or, Bool.or_false, Bool.true_or, Bool.false_eq_true, if_false, if_true, true_and, and_true, List.set_cons_zero, List.set_cons_succ, List.length_cons, List.length_nil, Nat.reduceAdd, Nat.reduceLeDiff, Nat.le_refl, Nat.zero_le, true_or, or_true, zn_cl, ↓jj_Mo_group]
  refine k_Mo_isSummary hO (fun s hs e => ?_) (fun e => ?_)
  · subst e
    rw [zs_ix_of hs (by omega)] at hR R0
    simp only [] at hR R0
    obtain ⟨wr, w1, w2, wu⟩ := o4w.2 s hs
    have wS := zw_T_S (sp := sp) (row := U.2 s) o2w wu
    simp only [↓zq, ↓reduceIte, zr_si2, zr_sr1, zr_cp2, zr_tl, zr_tn, shq, List.contains_nil, List.contains_cons, Nat.reduceBEq, Bool.false_or, Bool.or_false, Bool.true_or, Bool.false_eq_true, if_false, if_true, true_and, and_true, List.set_cons_zero, List.set_cons_succ, List.length_cons, List.length_nil, Nat.reduceAdd, Nat.reduceLeDiff, Nat.le_refl, Nat.zero_le, true_or, or_true, zn_cl, ↓jj_Mo_group]
    refine ⟨fun z => absurd z (by decide), fun _ => ⟨fun z => ?_, fun z => ?_⟩⟩
    · rw [if_pos z] at R0
      exact R0
    · rw [if_neg z] at hR R0
      obtain ⟨j, hj, rfl⟩ := nI_of z
      rw [nI_clamp hj] at hR R0
      refine k_Mo_in0 6 (by decide) (fun w hw e => ?_) (fun e => ?_)
      · subst e
        rw [zs_ix_of hw (by decide)] at hR
        simp only [] at hR
        simp only [↓zq, ↓reduceIte, zr_si2, zr_sr1, zr_cp2, zr_tl, zr_tn, shq, List.contains_nil, List.contains_cons, Nat.reduceBEq, Bool.false_or, Bool.or_false, Bool.true_or, Bool.false_eq_true, if_false, if_true, true_and, and_true, List.set_cons_zero, List.set_cons_succ, List.length_cons, List.length_nil, Nat.reduceAdd, Nat.reduceLeDiff, Nat.le_refl, Nat.zero_le, true_or, or_true, zn_cl, ↓jj_Mo_group]
        refine ⟨fun _ => ?_, fun z => absurd z (by decide)⟩
        refine k_Mo_laysSummary hO hs (fun g e1 e2 => ?_)
        have gO := zO_f4 e1 hO
        have q5 : g.2 133 5 = some 135 := by rw [e1.1]; exact p5
        simp only [↓zq, ↓reduceIte, zr_si2, zr_sr1, zr_cp2, zr_tl, zr_tn, shq, List.contains_nil, List.contains_cons, Nat.reduceBEq, Bool.false_or, Bool.or_false, Bool.true_or, Bool.false_eq_true, if_false, if_true, true_and, and_true, List.set_cons_zero, List.set_cons_succ, List.length_cons, List.length_nil, Nat.reduceAdd, Nat.reduceLeDiff, Nat.le_refl, Nat.zero_le, true_or, or_true, zn_cl, ↓jj_Mo_group]
        refine k_Mo_tripleBehind gO.1 e2 wS (by decide) hj ?_
        have hRR := hR g (zo_fr.f4 e1)
        cases en : zs_nth (fun k => (zs_tabS sp F (U.2 s) k).1) j 512 with
        | none =>
          rw [en] at hRR
          simp only [↓zq, ↓reduceIte, zr_si2, zr_sr1, zr_cp2, zr_tl, zr_tn, shq, List.contains_nil, List.contains_cons, Nat.reduceBEq, Bool.false_or, Bool.or_false, Bool.true_or, Bool.false_eq_true, if_false, if_true, true_and, and_true, List.set_cons_zero, List.set_cons_succ, List.length_cons, List.length_nil, Nat.reduceAdd, Nat.reduceLeDiff, Nat.le_refl, Nat.zero_le, true_or, or_true, zn_cl, ↓jj_Mo_group, zs_opt]
          exact ⟨fun z => absurd trivial z, fun _ => hRR⟩
        | some k =>
          obtain ⟨k5, kn, -⟩ := zs_nth_spec 512 en
          rw [en] at hRR
          simp only [] at hRR
          have nz : ¬ nI k = -1 := by
            have e : ∀ k, k < 512 → ¬ nI k = -1 := by decide +kernel
            exact e k k5
          simp only [↓zq, ↓reduceIte, zr_si2, zr_sr1, zr_cp2, zr_tl, zr_tn, shq, List.contains_nil, List.contains_cons, Nat.reduceBEq, Bool.false_or, Bool.or_false, Bool.true_or, Bool.false_eq_true, if_false, if_true, true_and, and_true, List.set_cons_zero, List.set_cons_succ, List.length_cons, List.length_nil, Nat.reduceAdd, Nat.reduceLeDiff, Nat.le_refl, Nat.zero_le, true_or, or_true, zn_cl, ↓jj_Mo_group, zs_opt, q5]
          refine ⟨fun _ => ?_, fun z => absurd z nz⟩
          rw [show (3 : Int32) = nI 3 from rfl, zn_le (by decide) (by omega)]
          refine ⟨fun z3 => ?_, fun z3 => ?_⟩
          · rw [if_neg (by omega)] at hRR
            rw [pk_sub z3, show (6 : Int32) = nI 6 from rfl, zn_8s]
            refine ⟨vp_in_nI (by omega) (by decide), ?_⟩
            rw [nI_clamp (by omega), gO.2.2.2.1.1.2 s hs _ (by omega)]
            refine k_Mo_hasN (by omega) (by omega) ?_
            simp only [↓zq, ↓reduceIte, zr_si2, zr_sr1, zr_cp2, zr_tl, zr_tn, shq, List.contains_nil, List.contains_cons, Nat.reduceBEq, Bool.false_or, Bool.or_false, Bool.true_or, Bool.false_eq_true, if_false, if_true, true_and, and_true, List.set_cons_zero, List.set_cons_succ, List.length_cons, List.length_nil, Nat.reduceAdd, Nat.reduceLeDiff, Nat.le_refl, Nat.zero_le, true_or, or_true, zn_cl, ↓jj_Mo_group]
            cases et : (U.2 s 6).testBit (w - 3)
            · rw [et] at hRR
              simp only [Bool.false_eq_true, if_false] at hRR ⊢
              exact ⟨fun _ => hRR, fun z => absurd trivial z⟩
            · rw [et] at hRR
              simp only [if_true] at hRR ⊢
              refine ⟨fun z => absurd z (by decide), fun _ => ?_⟩
              rw [pk_sub z3]
              refine k_Mo_partAt (sg := zs_none) gO.1 e2 k5 (by omega) kn ?_
              simp only [↓zq, ↓reduceIte, zr_si2, zr_sr1, zr_cp2, zr_tl, zr_tn, shq, List.contains_nil, List.contains_cons, Nat.reduceBEq, Bool.false_or, Bool.or_false, Bool.true_or, Bool.false_eq_true, if_false, if_true, true_and, and_true, List.set_cons_zero, List.set_cons_succ, List.length_cons, List.length_nil, Nat.reduceAdd, Nat.reduceLeDiff, Nat.le_refl, Nat.zero_le, true_or, or_true, zn_cl, ↓jj_Mo_group]
              exact hRR
          · rw [if_pos (by omega)] at hRR
            refine k_Mo_numberOf k5 (by omega) ?_
            simp only [↓zq, ↓reduceIte, zr_si2, zr_sr1, zr_cp2, zr_tl, zr_tn, shq, List.contains_nil, List.contains_cons, Nat.reduceBEq, Bool.false_or, Bool.or_false, Bool.true_or, Bool.false_eq_true, if_false, if_true, true_and, and_true, List.set_cons_zero, List.set_cons_succ, List.length_cons, List.length_nil, Nat.reduceAdd, Nat.reduceLeDiff, Nat.le_refl, Nat.zero_le, true_or, or_true, zn_cl, ↓jj_Mo_group]
            exact hRR
      · rw [e] at R0
        simp only [↓zq, ↓reduceIte, zr_si2, zr_sr1, zr_cp2, zr_tl, zr_tn, shq, List.contains_nil, List.contains_cons, Nat.reduceBEq, Bool.false_or, Bool.or_false, Bool.true_or, Bool.false_eq_true, if_false, if_true, true_and, and_true, List.set_cons_zero, List.set_cons_succ, List.length_cons, List.length_nil, Nat.reduceAdd, Nat.reduceLeDiff, Nat.le_refl, Nat.zero_le, true_or, or_true, zn_cl, ↓jj_Mo_group]
        exact ⟨fun z => absurd trivial z, fun _ => R0⟩
  · rw [zs_ix_no2 (by omega) e] at R0
    simp only [↓zq, ↓reduceIte, zr_si2, zr_sr1, zr_cp2, zr_tl, zr_tn, shq, List.contains_nil, List.contains_cons, Nat.reduceBEq, Bool.false_or, Bool.or_false, Bool.true_or, Bool.false_eq_true, if_false, if_true, true_and, and_true, List.set_cons_zero, List.set_cons_succ, List.length_cons, List.length_nil, Nat.reduceAdd, Nat.reduceLeDiff, Nat.le_refl, Nat.zero_le, true_or, or_true, zn_cl, ↓jj_Mo_group]
    exact ⟨fun _ => R0, fun z => absurd trivial z⟩
set_option maxHeartbeats 4000000 in
set_option maxRecDepth 100000 in
theorem k_Mo_questionIs {d : Nat} {h : zm_M} {R : zm_R} {F : zs_F} {sp : Nat → Nat} {U : zs_U} {Q : zs_Q} {y : Int32} (hO : zO h F sp U Q) (hR : R (some (.inl (A_questionIs Q y))) h) : zm_C (d + 2) TT m_Mo_questionIs [.inr (some 133), .inl y] h R := by
  obtain ⟨o1, ⟨o2, o2w⟩, ⟨o3, o3w⟩, ⟨o4, o4w⟩, o5, o6⟩ := id hO
  obtain ⟨p4, p5, p6, p7, p35, p37, p38, p39, p40⟩ := zp_m o1
  have q1 := o5.1
  unfold A_questionIs at hR
  have main : ∀ w, w < 13 → ¬ (4 ≤ w ∧ w < 10) → y = nI w → zm_W (zm_md m_Mo_questionIs) (d + 2) TT R 22 [some (.inr (some 133)), some (.inl y)] [] h := by
    intro w hw hn e
    subst e
    rw [zs_ix_of hw (by decide)] at hR
    simp only [] at hR
    rw [if_neg hn] at hR
    refine zm_go g_Mo_questionIs [] 30 (by decide +kernel) ok_Mo_questionIs _ rfl ?_
    simp only [↓zq, ↓reduceIte, zr_si2, zr_sr1, zr_cp2, zr_tl, zr_tn, shq, List.contains_nil, List.contains_cons, Nat.reduceBEq, Bool.false_or, Bool.or_false, Bool.true_or, Bool.false_eq_true, if_false, if_true, true_and, and_true, List.set_cons_zero, List.set_cons_succ, List.length_cons, List.length_nil, Nat.reduceAdd, Nat.reduceLeDiff, Nat.le_refl, Nat.zero_le, true_or, or_true, zn_cl, ↓jj_Mo_questionIs, q1, p35]
    cases hq : Q.1
    · rw [hq] at hR
      simp only [Bool.false_eq_true, if_true, if_false] at hR ⊢
      exact ⟨fun z => absurd trivial z, fun _ => hR⟩
    · rw [hq] at hR
      simp only [Bool.true_eq_false, if_false, if_true] at hR ⊢
      have rd := o5.2 hq
      refine ⟨fun _ => ?_, fun z => absurd z (by decide)⟩
      rw [show (3 : Int32) = nI 3 from rfl, zn_le (by decide) (by omega), zn_eq (by omega) (by decide)]
      refine ⟨fun z => ⟨fun z2 => ?_, fun z2 => ?_⟩, fun z => ?_⟩
      · rw [if_neg (by omega), if_neg z2] at hR
        have ei : nI 3 + nI w - 10 = nI (3 + (w - 10)) := by
          rw [nI_add, show (10 : Int32) = nI 10 from rfl, pk_sub (by omega)]
          congr 1
          omega
        rw [ei]
        refine ⟨vp_in_nI (by omega) (by decide), ?_⟩
        rw [nI_clamp (by omega), rd _ (by omega)]
        exact hR
      · rw [if_neg (by omega), if_pos z2] at hR
        refine ⟨zn_v, ?_⟩
        rw [rd 6 (by decide)]
        exact hR
      · rw [if_pos (by omega)] at hR
        refine ⟨vp_in_nI (by omega) (by decide), ?_⟩
        rw [nI_clamp (by omega), rd _ (by omega)]
        exact hR
  refine st_Mo_questionIs [22] 9 ?_
  simp only [↓zq, ↓reduceIte, zr_si2, zr_sr1, zr_cp2, zr_tl, zr_tn, shq, List.contains_nil, List.contains_cons, Nat.reduceBEq, Bool.false_or, Bool.or_false, Bool.true_or, Bool.false_eq_true, if_false, if_true, true_and, and_true, List.set_cons_zero, List.set_cons_succ, List.length_cons, List.length_nil, Nat.reduceAdd, Nat.reduceLeDiff, Nat.le_refl, Nat.zero_le, true_or, or_true, zn_cl, ↓jj_Mo_questionIs]
  refine k_Mo_in0 3 (by decide) (fun w hw e => ?_) (fun e => ?_)
  · simp only [↓zq, ↓reduceIte, zr_si2, zr_sr1, zr_cp2, zr_tl, zr_tn, shq, List.contains_nil, List.contains_cons, Nat.reduceBEq, Bool.false_or, Bool.or_false, Bool.true_or, Bool.false_eq_true, if_false, if_true, true_and, and_true, List.set_cons_zero, List.set_cons_succ, List.length_cons, List.length_nil, Nat.reduceAdd, Nat.reduceLeDiff, Nat.le_refl, Nat.zero_le, true_or, or_true, zn_cl, ↓jj_Mo_questionIs]
    exact ⟨fun _ => main w (by omega) (by omega) e, fun z => absurd z (by decide)⟩
  · simp only [↓zq, ↓reduceIte, zr_si2, zr_sr1, zr_cp2, zr_tl, zr_tn, shq, List.contains_nil, List.contains_cons, Nat.reduceBEq, Bool.false_or, Bool.or_false, Bool.true_or, Bool.false_eq_true, if_false, if_true, true_and, and_true, List.set_cons_zero, List.set_cons_succ, List.length_cons, List.length_nil, Nat.reduceAdd, Nat.reduceLeDiff, Nat.le_refl, Nat.zero_le, true_or, or_true, zn_cl, ↓jj_Mo_questionIs]
    refine ⟨fun z => absurd trivial z, fun _ => ?_⟩
    refine k_Mo_in (fun a b => ?_) (fun a => ?_)
    · obtain ⟨w, hw, rfl⟩ := zn_of (n := 13) (x := y) (m := 13) (fun z => a (by clear hR main; (simp only [Int32.lt_iff_toInt_lt, Int32.le_iff_toInt_le, ← Int32.toInt_inj, zi_c] at *; omega))) (fun z => b (by clear hR main; (simp only [Int32.lt_iff_toInt_lt, Int32.le_iff_toInt_le, ← Int32.toInt_inj, zi_c] at *; omega)))
      rw [show (10 : Int32) = nI 10 from rfl, zn_lt (by omega) (by decide)] at a
      simp only [↓zq, ↓reduceIte, zr_si2, zr_sr1, zr_cp2, zr_tl, zr_tn, shq, List.contains_nil, List.contains_cons, Nat.reduceBEq, Bool.false_or, Bool.or_false, Bool.true_or, Bool.false_eq_true, if_false, if_true, true_and, and_true, List.set_cons_zero, List.set_cons_succ, List.length_cons, List.length_nil, Nat.reduceAdd, Nat.reduceLeDiff, Nat.le_refl, Nat.zero_le, true_or, or_true, zn_cl, ↓jj_Mo_questionIs]
      exact ⟨fun _ => main w hw (by omega) rfl, fun z => absurd z (by decide)⟩
    · simp only [↓zq, ↓reduceIte, zr_si2, zr_sr1, zr_cp2, zr_tl, zr_tn, shq, List.contains_nil, List.contains_cons, Nat.reduceBEq, Bool.false_or, Bool.or_false, Bool.true_or, Bool.false_eq_true, if_false, if_true, true_and, and_true, List.set_cons_zero, List.set_cons_succ, List.length_cons, List.length_nil, Nat.reduceAdd, Nat.reduceLeDiff, Nat.le_refl, Nat.zero_le, true_or, or_true, zn_cl, ↓jj_Mo_questionIs]
      refine ⟨fun z => absurd trivial z, fun _ => ?_⟩
      rcases zs_cas y 13 (by decide) with ⟨w, hw, rfl⟩ | e2
      · rw [zs_ix_of hw (by decide)] at hR
        simp only [] at hR
        have n1 : ¬ w < 4 := fun z => by
          rw [zs_ix_of (show w < 3 + 1 by omega) (by decide)] at e
          cases e
        have n2 : ¬ 10 ≤ w := by
          rw [show (10 : Int32) = nI 10 from rfl, zn_lt (by omega) (by decide), show (12 : Int32) = nI 12 from rfl, zn_lt (by decide) (by omega)] at a
          omega
        rw [if_pos (by omega)] at hR
        exact hR
      · rw [zs_ix_no e2] at hR
        exact hR
set_option maxHeartbeats 4000000 in
set_option maxRecDepth 100000 in
theorem k_Mo_covers {d : Nat} {h : zm_M} {R : zm_R} {F : zs_F} {sp : Nat → Nat} {U : zs_U} {Q : zs_Q} {x : Int32} (hO : zO h F sp U Q) (hR : R (some (.inl (A_covers sp U Q x))) h) : zm_C (d + 6) TT m_Mo_covers [.inr (some 133), .inl x] h R := by
  have h8 := hO.2.2.2.1.2.1
  have q1 := hO.2.2.2.2.1.1
  unfold A_covers at hR
  refine st_Mo_covers [] 9 ?_
  simp only [↓zq, ↓reduceIte, zr_si2, zr_sr1, zr_cp2, zr_tl, zr_tn, shq, List.contains_nil, List.contains_cons, Nat.reduceBEq, Bool.false_or, Bool.or_false, Bool.true_or, Bool.false_eq_true, if_false, if_true, true_and, and_true, List.set_cons_zero, List.set_cons_succ, List.length_cons, List.length_nil, Nat.reduceAdd, Nat.reduceLeDiff, Nat.le_refl, Nat.zero_le, true_or, or_true, zn_cl, ↓jj_Mo_covers]
  refine k_Mo_isSummary hO (fun s hs e => ?_) (fun e => ?_)
  · subst e
    rw [zs_ix_of hs (by omega)] at hR
    simp only [] at hR
    simp only [↓zq, ↓reduceIte, zr_si2, zr_sr1, zr_cp2, zr_tl, zr_tn, shq, List.contains_nil, List.contains_cons, Nat.reduceBEq, Bool.false_or, Bool.or_false, Bool.true_or, Bool.false_eq_true, if_false, if_true, true_and, and_true, List.set_cons_zero, List.set_cons_succ, List.length_cons, List.length_nil, Nat.reduceAdd, Nat.reduceLeDiff, Nat.le_refl, Nat.zero_le, true_or, or_true, zn_cl, ↓jj_Mo_covers, q1]
    refine ⟨fun _ => ?_, fun z => absurd z (by decide)⟩
    cases hq : Q.1
    · rw [hq] at hR
      simp only [Bool.false_eq_true, if_true, if_false] at hR ⊢
      exact ⟨fun z => absurd trivial z, fun _ => hR⟩
    · simp only [hq, Bool.true_eq_false, if_false, if_true] at hR ⊢
      refine ⟨fun _ => ?_, fun z => absurd z (by decide)⟩
      refine k_Mo_coversNow hO hq hs ?_
      simp only [↓zq, ↓reduceIte, zr_si2, zr_sr1, zr_cp2, zr_tl, zr_tn, shq, List.contains_nil, List.contains_cons, Nat.reduceBEq, Bool.false_or, Bool.or_false, Bool.true_or, Bool.false_eq_true, if_false, if_true, true_and, and_true, List.set_cons_zero, List.set_cons_succ, List.length_cons, List.length_nil, Nat.reduceAdd, Nat.reduceLeDiff, Nat.le_refl, Nat.zero_le, true_or, or_true, zn_cl, ↓jj_Mo_covers]
      cases e2 : zs_cov sp (U.2 s) Q.2
      · rw [e2] at hR
        simp only [Bool.false_eq_true, if_false] at hR ⊢
        exact ⟨fun _ => hR, fun z => absurd trivial z⟩
      · rw [e2] at hR
        simp only [if_true] at hR ⊢
        exact ⟨fun z => absurd z (by decide), fun _ => hR⟩
  · rw [zs_ix_no2 (by omega) e] at hR
    simp only [↓zq, ↓reduceIte, zr_si2, zr_sr1, zr_cp2, zr_tl, zr_tn, shq, List.contains_nil, List.contains_cons, Nat.reduceBEq, Bool.false_or, Bool.or_false, Bool.true_or, Bool.false_eq_true, if_false, if_true, true_and, and_true, List.set_cons_zero, List.set_cons_succ, List.length_cons, List.length_nil, Nat.reduceAdd, Nat.reduceLeDiff, Nat.le_refl, Nat.zero_le, true_or, or_true, zn_cl, ↓jj_Mo_covers]
    exact ⟨fun z => absurd trivial z, fun _ => hR⟩
set_option maxHeartbeats 4000000 in
set_option maxRecDepth 100000 in
theorem k_Mo_coverIs {d : Nat} {h : zm_M} {R : zm_R} {F : zs_F} {sp : Nat → Nat} {U : zs_U} {Q : zs_Q} {x y : Int32} (hO : zO h F sp U Q) (hR : ∀ h' : zm_M, zo_fr h h' → R (some (.inl (A_coverIs F sp U Q x y))) h') : zm_C (d + 6) TT m_Mo_coverIs [.inr (some 133), .inl x, .inl y] h R := by
  obtain ⟨o1, ⟨o2, o2w⟩, ⟨o3, o3w⟩, ⟨o4, o4w⟩, o5, o6⟩ := id hO
  have h8 := o4w.1
  have q1 := o5.1
  unfold A_coverIs at hR
  have R0 := hR h (zo_fr.rf h)
  refine st_Mo_coverIs [] 9 ?_
  simp only [↓zq, ↓reduceIte, zr_si2, zr_sr1, zr_cp2, zr_tl, zr_tn, shq, List.contains_nil, List.contains_cons, Nat.reduceBEq, Bool.false_or, Bool.or_false, Bool.true_or, Bool.false_eq_true, if_false, if_true, true_and, and_true, List.set_cons_zero, List.set_cons_succ, List.length_cons, List.length_nil, Nat.reduceAdd, Nat.reduceLeDiff, Nat.le_refl, Nat.zero_le, true_or, or_true, zn_cl, ↓jj_Mo_coverIs]
  refine k_Mo_isSummary hO (fun s hs e => ?_) (fun e => ?_)
  · subst e
    rw [zs_ix_of hs (by omega)] at hR R0
    simp only [] at hR R0
    obtain ⟨wr, w1, w2, wu⟩ := o4w.2 s hs
    simp only [↓zq, ↓reduceIte, zr_si2, zr_sr1, zr_cp2, zr_tl, zr_tn, shq, List.contains_nil, List.contains_cons, Nat.reduceBEq, Bool.false_or, Bool.or_false, Bool.true_or, Bool.false_eq_true, if_false, if_true, true_and, and_true, List.set_cons_zero, List.set_cons_succ, List.length_cons, List.length_nil, Nat.reduceAdd, Nat.reduceLeDiff, Nat.le_refl, Nat.zero_le, true_or, or_true, zn_cl, ↓jj_Mo_coverIs]
    refine ⟨fun z => absurd z (by decide), fun _ => ?_⟩
    refine k_Mo_in0 3 (by decide) (fun w hw e => ?_) (fun e => ?_)
    · subst e
      rw [zs_ix_of hw (by decide)] at hR R0
      simp only [] at hR R0
      simp only [↓zq, ↓reduceIte, zr_si2, zr_sr1, zr_cp2, zr_tl, zr_tn, shq, List.contains_nil, List.contains_cons, Nat.reduceBEq, Bool.false_or, Bool.or_false, Bool.true_or, Bool.false_eq_true, if_false, if_true, true_and, and_true, List.set_cons_zero, List.set_cons_succ, List.length_cons, List.length_nil, Nat.reduceAdd, Nat.reduceLeDiff, Nat.le_refl, Nat.zero_le, true_or, or_true, zn_cl, ↓jj_Mo_coverIs, q1]
      refine ⟨fun _ => ?_, fun z => absurd z (by decide)⟩
      cases hq : Q.1
      · rw [hq] at R0
        simp only [Bool.false_eq_true, false_and, if_false] at R0 ⊢
        exact ⟨fun _ => R0, fun z => absurd trivial z⟩
      · simp only [hq, true_and, if_true] at hR R0 ⊢
        refine ⟨fun z => absurd z (by decide), fun _ => ?_⟩
        refine k_Mo_coversNow hO hq hs ?_
        simp only [↓zq, ↓reduceIte, zr_si2, zr_sr1, zr_cp2, zr_tl, zr_tn, shq, List.contains_nil, List.contains_cons, Nat.reduceBEq, Bool.false_or, Bool.or_false, Bool.true_or, Bool.false_eq_true, if_false, if_true, true_and, and_true, List.set_cons_zero, List.set_cons_succ, List.length_cons, List.length_nil, Nat.reduceAdd, Nat.reduceLeDiff, Nat.le_refl, Nat.zero_le, true_or, or_true, zn_cl, ↓jj_Mo_coverIs]
        cases e2 : zs_cov sp (U.2 s) Q.2
        · rw [e2] at R0
          simp only [Bool.false_eq_true, if_false] at R0 ⊢
          exact ⟨fun z => absurd trivial z, fun _ => R0⟩
        · simp only [e2, if_true] at hR R0 ⊢
          refine ⟨fun _ => ?_, fun z => absurd z (by decide)⟩
          rcases (show w = 0 ∨ w = 1 ∨ w = 2 ∨ w = 3 by omega) with rfl | rfl | rfl | rfl
          · refine ⟨fun z => absurd rfl z, fun _ => ?_⟩
            refine k_Mo_leftOut hO hq hs ?_
            simp only [↓zq, ↓reduceIte, zr_si2, zr_sr1, zr_cp2, zr_tl, zr_tn, shq, List.contains_nil, List.contains_cons, Nat.reduceBEq, Bool.false_or, Bool.or_false, Bool.true_or, Bool.false_eq_true, if_false, if_true, true_and, and_true, List.set_cons_zero, List.set_cons_succ, List.length_cons, List.length_nil, Nat.reduceAdd, Nat.reduceLeDiff, Nat.le_refl, Nat.zero_le, true_or, or_true, zn_cl, ↓jj_Mo_coverIs]
            exact R0
          · refine ⟨fun _ => ⟨fun z => absurd rfl z, fun _ => ?_⟩, fun z => absurd z (by decide)⟩
            refine k_Mo_rolledUp hO hq hs ?_
            simp only [↓zq, ↓reduceIte, zr_si2, zr_sr1, zr_cp2, zr_tl, zr_tn, shq, List.contains_nil, List.contains_cons, Nat.reduceBEq, Bool.false_or, Bool.or_false, Bool.true_or, Bool.false_eq_true, if_false, if_true, true_and, and_true, List.set_cons_zero, List.set_cons_succ, List.length_cons, List.length_nil, Nat.reduceAdd, Nat.reduceLeDiff, Nat.le_refl, Nat.zero_le, true_or, or_true, zn_cl, ↓jj_Mo_coverIs]
            exact R0
          · refine ⟨fun _ => ⟨fun _ => ⟨fun z => absurd rfl z, fun _ => ?_⟩, fun z => absurd z (by decide)⟩, fun z => absurd z (by decide)⟩
            refine k_Mo_compensation hO hq hs ?_
            simp only [↓zq, ↓reduceIte, zr_si2, zr_sr1, zr_cp2, zr_tl, zr_tn, shq, List.contains_nil, List.contains_cons, Nat.reduceBEq, Bool.false_or, Bool.or_false, Bool.true_or, Bool.false_eq_true, if_false, if_true, true_and, and_true, List.set_cons_zero, List.set_cons_succ, List.length_cons, List.length_nil, Nat.reduceAdd, Nat.reduceLeDiff, Nat.le_refl, Nat.zero_le, true_or, or_true, zn_cl, ↓jj_Mo_coverIs]
            exact R0
          · refine ⟨fun _ => ⟨fun _ => ⟨fun _ => ?_, fun z => absurd z (by decide)⟩, fun z => absurd z (by decide)⟩, fun z => absurd z (by decide)⟩
            refine k_Mo_takenOf hO hq hs (zs_cov_in e2 w2 (o6 hq).2).1 (fun g e1 => ?_)
            simp only [↓zq, ↓reduceIte, zr_si2, zr_sr1, zr_cp2, zr_tl, zr_tn, shq, List.contains_nil, List.contains_cons, Nat.reduceBEq, Bool.false_or, Bool.or_false, Bool.true_or, Bool.false_eq_true, if_false, if_true, true_and, and_true, List.set_cons_zero, List.set_cons_succ, List.length_cons, List.length_nil, Nat.reduceAdd, Nat.reduceLeDiff, Nat.le_refl, Nat.zero_le, true_or, or_true, zn_cl, ↓jj_Mo_coverIs]
            exact hR g (zo_fr.f4 e1)
    · rw [e] at R0
      simp only [↓zq, ↓reduceIte, zr_si2, zr_sr1, zr_cp2, zr_tl, zr_tn, shq, List.contains_nil, List.contains_cons, Nat.reduceBEq, Bool.false_or, Bool.or_false, Bool.true_or, Bool.false_eq_true, if_false, if_true, true_and, and_true, List.set_cons_zero, List.set_cons_succ, List.length_cons, List.length_nil, Nat.reduceAdd, Nat.reduceLeDiff, Nat.le_refl, Nat.zero_le, true_or, or_true, zn_cl, ↓jj_Mo_coverIs]
      exact ⟨fun z => absurd trivial z, fun _ => R0⟩
  · rw [zs_ix_no2 (by omega) e] at R0
    simp only [↓zq, ↓reduceIte, zr_si2, zr_sr1, zr_cp2, zr_tl, zr_tn, shq, List.contains_nil, List.contains_cons, Nat.reduceBEq, Bool.false_or, Bool.or_false, Bool.true_or, Bool.false_eq_true, if_false, if_true, true_and, and_true, List.set_cons_zero, List.set_cons_succ, List.length_cons, List.length_nil, Nat.reduceAdd, Nat.reduceLeDiff, Nat.le_refl, Nat.zero_le, true_or, or_true, zn_cl, ↓jj_Mo_coverIs]
    exact ⟨fun _ => R0, fun z => absurd trivial z⟩
set_option maxHeartbeats 4000000 in
set_option maxRecDepth 100000 in
theorem k_Mo_wayNow {d : Nat} {h : zm_M} {R : zm_R} {F : zs_F} {sp : Nat → Nat} {U : zs_U} {Q : zs_Q} (hO : zO h F sp U Q) (hq : Q.1 = true) (hR : ∀ h' : zm_M, zo_fr h h' → R (some (.inl (zs_wv (zs_way F sp U Q)))) h') : zm_C (d + 7) TT m_Mo_wayNow [.inr (some 133)] h R := by
  refine k_Mo_wayNow0 hO hq (fun g e1 => ?_)
  rw [zs_wd_wy]
  exact hR g (zo_fr.f4 e1)
theorem zs_wv_n3 {o : Option Nat} (h : ∀ s, o = some s → s < 8) : (zs_wv o = -3) = (o = none) := zs_wv_none h
set_option maxHeartbeats 4000000 in
set_option maxRecDepth 100000 in
theorem k_Mo_way {d : Nat} {h : zm_M} {R : zm_R} {F : zs_F} {sp : Nat → Nat} {U : zs_U} {Q : zs_Q} {y : Int32} (hO : zO h F sp U Q) (hR : ∀ h' : zm_M, zo_fr h h' → R (some (.inl (A_way F sp U Q y))) h') : zm_C (d + 8) TT m_Mo_way [.inr (some 133), .inl y] h R := by
  obtain ⟨o1, ⟨o2, o2w⟩, ⟨o3, o3w⟩, ⟨o4, o4w⟩, o5, o6⟩ := id hO
  have h8 := o4w.1
  have q1 := o5.1
  unfold A_way at hR
  have R0 := hR h (zo_fr.rf h)
  refine st_Mo_way [] 9 ?_
  simp only [↓zq, ↓reduceIte, zr_si2, zr_sr1, zr_cp2, zr_tl, zr_tn, shq, List.contains_nil, List.contains_cons, Nat.reduceBEq, Bool.false_or, Bool.or_false, Bool.true_or, Bool.false_eq_true, if_false, if_true, true_and, and_true, List.set_cons_zero, List.set_cons_succ, List.length_cons, List.length_nil, Nat.reduceAdd, Nat.reduceLeDiff, Nat.le_refl, Nat.zero_le, true_or, or_true, zn_cl, ↓jj_Mo_way]
  refine k_Mo_in0 1 (by decide) (fun w hw e => ?_) (fun e => ?_)
  · subst e
    rw [zs_ix_of hw (by decide)] at hR R0
    simp only [] at hR R0
    simp only [↓zq, ↓reduceIte, zr_si2, zr_sr1, zr_cp2, zr_tl, zr_tn, shq, List.contains_nil, List.contains_cons, Nat.reduceBEq, Bool.false_or, Bool.or_false, Bool.true_or, Bool.false_eq_true, if_false, if_true, true_and, and_true, List.set_cons_zero, List.set_cons_succ, List.length_cons, List.length_nil, Nat.reduceAdd, Nat.reduceLeDiff, Nat.le_refl, Nat.zero_le, true_or, or_true, zn_cl, ↓jj_Mo_way, q1]
    refine ⟨fun _ => ?_, fun z => absurd z (by decide)⟩
    cases hq : Q.1
    · rw [hq] at R0
      simp only [Bool.false_eq_true, if_true, if_false] at R0 ⊢
      exact ⟨fun z => absurd trivial z, fun _ => R0⟩
    · simp only [hq, Bool.true_eq_false, if_false, if_true] at hR R0 ⊢
      refine ⟨fun _ => ?_, fun z => absurd z (by decide)⟩
      refine k_Mo_wayNow hO hq (fun g e1 => ?_)
      have gO := zO_fr e1 hO
      have fm := gO.2.1.1.1
      have wo := fun s hs => (zs_way_ok o4w o6 hq (F := F) (sp := sp) s hs).1
      generalize zs_way F sp U Q = o at *
      simp only [↓zq, ↓reduceIte, zr_si2, zr_sr1, zr_cp2, zr_tl, zr_tn, shq, List.contains_nil, List.contains_cons, Nat.reduceBEq, Bool.false_or, Bool.or_false, Bool.true_or, Bool.false_eq_true, if_false, if_true, true_and, and_true, List.set_cons_zero, List.set_cons_succ, List.length_cons, List.length_nil, Nat.reduceAdd, Nat.reduceLeDiff, Nat.le_refl, Nat.zero_le, true_or, or_true, zn_cl, ↓jj_Mo_way, fm]
      rcases (show w = 0 ∨ w = 1 by omega) with rfl | rfl
      · exact ⟨fun z => absurd rfl z, fun _ => hR g e1⟩
      · refine ⟨fun _ => ?_, fun z => absurd z (by decide)⟩
        rw [zs_wv_none (fun s hs => by have := wo s hs; omega)]
        cases o with
        | none => exact ⟨fun z => absurd rfl z, fun _ => hR g e1⟩
        | some s =>
          refine ⟨fun _ => ?_, fun z => (by cases z)⟩
          refine k_Mo_costOf gO (wo s rfl) (fun g2 e2 => ?_)
          simp only [↓zq, ↓reduceIte, zr_si2, zr_sr1, zr_cp2, zr_tl, zr_tn, shq, List.contains_nil, List.contains_cons, Nat.reduceBEq, Bool.false_or, Bool.or_false, Bool.true_or, Bool.false_eq_true, if_false, if_true, true_and, and_true, List.set_cons_zero, List.set_cons_succ, List.length_cons, List.length_nil, Nat.reduceAdd, Nat.reduceLeDiff, Nat.le_refl, Nat.zero_le, true_or, or_true, zn_cl, ↓jj_Mo_way]
          exact hR g2 (e1.tr (zo_fr.f4 e2))
  · rw [e] at R0
    simp only [↓zq, ↓reduceIte, zr_si2, zr_sr1, zr_cp2, zr_tl, zr_tn, shq, List.contains_nil, List.contains_cons, Nat.reduceBEq, Bool.false_or, Bool.or_false, Bool.true_or, Bool.false_eq_true, if_false, if_true, true_and, and_true, List.set_cons_zero, List.set_cons_succ, List.length_cons, List.length_nil, Nat.reduceAdd, Nat.reduceLeDiff, Nat.le_refl, Nat.zero_le, true_or, or_true, zn_cl, ↓jj_Mo_way]
    exact ⟨fun z => absurd trivial z, fun _ => R0⟩
set_option maxHeartbeats 4000000 in
set_option maxRecDepth 100000 in
theorem k_Mo_answersByWay {d : Nat} {h : zm_M} {R : zm_R} {F : zs_F} {sp : Nat → Nat} {U : zs_U} {Q : zs_Q} {o : Option Nat} (hO : zO h F sp U Q) (hq : Q.1 = true) (ho : ∀ s, o = some s → s < U.1 ∧ zs_cov sp (U.2 s) Q.2 = true) (hR : ∀ h' : zm_M, zo_fr h h' → zo_A h'.1 (zs_at F sp U Q o) (zs_sg sp Q.2 F) (Q.2 6) 512 → R none h') : zm_C (d + 8) TT m_Mo_answersByWay [.inr (some 133), .inl (zs_wv o)] h R := by
  obtain ⟨o1, ⟨o2, o2w⟩, ⟨o3, o3w⟩, ⟨o4, o4w⟩, o5, o6⟩ := id hO
  have h8 := o4w.1
  refine st_Mo_answersByWay [] 9 ?_
  simp only [↓zq, ↓reduceIte, zr_si2, zr_sr1, zr_cp2, zr_tl, zr_tn, shq, List.contains_nil, List.contains_cons, Nat.reduceBEq, Bool.false_or, Bool.or_false, Bool.true_or, Bool.false_eq_true, if_false, if_true, true_and, and_true, List.set_cons_zero, List.set_cons_succ, List.length_cons, List.length_nil, Nat.reduceAdd, Nat.reduceLeDiff, Nat.le_refl, Nat.zero_le, true_or, or_true, zn_cl, ↓jj_Mo_answersByWay]
  rw [zs_wv_none (fun s hs => by have := (ho s hs).1; omega)]
  cases o with
  | none =>
    refine ⟨fun z => absurd rfl z, fun _ => ?_⟩
    refine k_Mo_answersByFacts hO hq (fun g e1 e2 e3 => ?_)
    simp only [↓zq, ↓reduceIte, zr_si2, zr_sr1, zr_cp2, zr_tl, zr_tn, shq, List.contains_nil, List.contains_cons, Nat.reduceBEq, Bool.false_or, Bool.or_false, Bool.true_or, Bool.false_eq_true, if_false, if_true, true_and, and_true, List.set_cons_zero, List.set_cons_succ, List.length_cons, List.length_nil, Nat.reduceAdd, Nat.reduceLeDiff, Nat.le_refl, Nat.zero_le, true_or, or_true, zn_cl, ↓jj_Mo_answersByWay]
    exact hR g e1 e3
  | some s =>
    obtain ⟨hs, hc⟩ := ho s rfl
    obtain ⟨wr, w1, w2, wu⟩ := o4w.2 s hs
    obtain ⟨k1, k2⟩ := zs_cov_in hc w2 (o6 hq).2
    refine ⟨fun _ => ?_, fun z => (by cases z)⟩
    refine k_Mo_answersBy hO hq hs k1 k2 (fun g e1 e2 => ?_)
    simp only [↓zq, ↓reduceIte, zr_si2, zr_sr1, zr_cp2, zr_tl, zr_tn, shq, List.contains_nil, List.contains_cons, Nat.reduceBEq, Bool.false_or, Bool.or_false, Bool.true_or, Bool.false_eq_true, if_false, if_true, true_and, and_true, List.set_cons_zero, List.set_cons_succ, List.length_cons, List.length_nil, Nat.reduceAdd, Nat.reduceLeDiff, Nat.le_refl, Nat.zero_le, true_or, or_true, zn_cl, ↓jj_Mo_answersByWay]
    exact hR g e1 e2
set_option maxHeartbeats 4000000 in
set_option maxRecDepth 100000 in
theorem k_Mo_answer {d : Nat} {h : zm_M} {R : zm_R} {F : zs_F} {sp : Nat → Nat} {U : zs_U} {Q : zs_Q} {i y : Int32} (hO : zO h F sp U Q) (hR : ∀ h' : zm_M, zo_fr h h' → R (some (.inl (A_answer F sp U Q i y))) h') : zm_C (d + 9) TT m_Mo_answer [.inr (some 133), .inl i, .inl y] h R := by
  obtain ⟨o1, ⟨o2, o2w⟩, ⟨o3, o3w⟩, ⟨o4, o4w⟩, o5, o6⟩ := id hO
  have q1 := o5.1
  unfold A_answer at hR
  have R0 := hR h (zo_fr.rf h)
  refine st_Mo_answer [] 9 ?_
  simp only [↓zq, ↓reduceIte, zr_si2, zr_sr1, zr_cp2, zr_tl, zr_tn, shq, List.contains_nil, List.contains_cons, Nat.reduceBEq, Bool.false_or, Bool.or_false, Bool.true_or, Bool.false_eq_true, if_false, if_true, true_and, and_true, List.set_cons_zero, List.set_cons_succ, List.length_cons, List.length_nil, Nat.reduceAdd, Nat.reduceLeDiff, Nat.le_refl, Nat.zero_le, true_or, or_true, zn_cl, ↓jj_Mo_answer]
  refine ⟨fun z => ?_, fun z => ?_⟩
  · rw [if_pos z] at R0
    exact R0
  · rw [if_neg z] at hR R0
    refine k_Mo_in0 3 (by decide) (fun w hw e => ?_) (fun e => ?_)
    · subst e
      rw [zs_ix_of hw (by decide)] at hR R0
      simp only [] at hR R0
      simp only [↓zq, ↓reduceIte, zr_si2, zr_sr1, zr_cp2, zr_tl, zr_tn, shq, List.contains_nil, List.contains_cons, Nat.reduceBEq, Bool.false_or, Bool.or_false, Bool.true_or, Bool.false_eq_true, if_false, if_true, true_and, and_true, List.set_cons_zero, List.set_cons_succ, List.length_cons, List.length_nil, Nat.reduceAdd, Nat.reduceLeDiff, Nat.le_refl, Nat.zero_le, true_or, or_true, zn_cl, ↓jj_Mo_answer, q1]
      refine ⟨fun _ => ?_, fun z => absurd z (by decide)⟩
      cases hq : Q.1
      · rw [hq] at R0
        simp only [Bool.false_eq_true, if_true, if_false] at R0 ⊢
        exact ⟨fun z => absurd trivial z, fun _ => R0⟩
      · simp only [hq, Bool.true_eq_false, if_false, if_true] at hR R0 ⊢
        refine ⟨fun _ => ?_, fun z => absurd z (by decide)⟩
        refine k_Mo_wayNow hO hq (fun g e1 => ?_)
        have wo := fun s hs => zs_way_ok o4w o6 hq (F := F) (sp := sp) s hs
        generalize zs_way F sp U Q = o at *
        simp only [↓zq, ↓reduceIte, zr_si2, zr_sr1, zr_cp2, zr_tl, zr_tn, shq, List.contains_nil, List.contains_cons, Nat.reduceBEq, Bool.false_or, Bool.or_false, Bool.true_or, Bool.false_eq_true, if_false, if_true, true_and, and_true, List.set_cons_zero, List.set_cons_succ, List.length_cons, List.length_nil, Nat.reduceAdd, Nat.reduceLeDiff, Nat.le_refl, Nat.zero_le, true_or, or_true, zn_cl, ↓jj_Mo_answer]
        refine k_Mo_answersByWay (zO_fr e1 hO) hq (fun s hs => ⟨(wo s hs).1, (wo s hs).2.2⟩) (fun g2 e2 e3 => ?_)
        simp only [↓zq, ↓reduceIte, zr_si2, zr_sr1, zr_cp2, zr_tl, zr_tn, shq, List.contains_nil, List.contains_cons, Nat.reduceBEq, Bool.false_or, Bool.or_false, Bool.true_or, Bool.false_eq_true, if_false, if_true, true_and, and_true, List.set_cons_zero, List.set_cons_succ, List.length_cons, List.length_nil, Nat.reduceAdd, Nat.reduceLeDiff, Nat.le_refl, Nat.zero_le, true_or, or_true, zn_cl, ↓jj_Mo_answer]
        obtain ⟨j, hj, rfl⟩ := nI_of z
        refine k_Mo_toldOf (zO_fr (e1.tr e2) hO).1 e3 hj hw ?_
        simp only [↓zq, ↓reduceIte, zr_si2, zr_sr1, zr_cp2, zr_tl, zr_tn, shq, List.contains_nil, List.contains_cons, Nat.reduceBEq, Bool.false_or, Bool.or_false, Bool.true_or, Bool.false_eq_true, if_false, if_true, true_and, and_true, List.set_cons_zero, List.set_cons_succ, List.length_cons, List.length_nil, Nat.reduceAdd, Nat.reduceLeDiff, Nat.le_refl, Nat.zero_le, true_or, or_true, zn_cl, ↓jj_Mo_answer]
        have hRR := hR g2 (e1.tr e2)
        unfold zs_tA at hRR
        rw [nI_clamp hj] at hRR
        exact hRR
    · rw [e] at R0
      simp only [↓zq, ↓reduceIte, zr_si2, zr_sr1, zr_cp2, zr_tl, zr_tn, shq, List.contains_nil, List.contains_cons, Nat.reduceBEq, Bool.false_or, Bool.or_false, Bool.true_or, Bool.false_eq_true, if_false, if_true, true_and, and_true, List.set_cons_zero, List.set_cons_succ, List.length_cons, List.length_nil, Nat.reduceAdd, Nat.reduceLeDiff, Nat.le_refl, Nat.zero_le, true_or, or_true, zn_cl, ↓jj_Mo_answer]
      exact ⟨fun z => absurd trivial z, fun _ => R0⟩
set_option maxHeartbeats 4000000 in
set_option maxRecDepth 100000 in
theorem k_Mo_ranked {d : Nat} {h : zm_M} {R : zm_R} {F : zs_F} {sp : Nat → Nat} {U : zs_U} {Q : zs_Q} {i y : Int32} (hO : zO h F sp U Q) (hR : ∀ h' : zm_M, zo_fr h h' → R (some (.inl (A_ranked F sp U Q i y))) h') : zm_C (d + 9) TT m_Mo_ranked [.inr (some 133), .inl i, .inl y] h R := by
  obtain ⟨o1, ⟨o2, o2w⟩, ⟨o3, o3w⟩, ⟨o4, o4w⟩, o5, o6⟩ := id hO
  have q1 := o5.1
  unfold A_ranked at hR
  have R0 := hR h (zo_fr.rf h)
  refine st_Mo_ranked [35] 9 ?_
  simp only [↓zq, ↓reduceIte, zr_si2, zr_sr1, zr_cp2, zr_tl, zr_tn, shq, List.contains_nil, List.contains_cons, Nat.reduceBEq, Bool.false_or, Bool.or_false, Bool.true_or, Bool.false_eq_true, if_false, if_true, true_and, and_true, List.set_cons_zero, List.set_cons_succ, List.length_cons, List.length_nil, Nat.reduceAdd, Nat.reduceLeDiff, Nat.le_refl, Nat.zero_le, true_or, or_true, zn_cl, ↓jj_Mo_ranked]
  refine ⟨fun z => ?_, fun z => ?_⟩
  · rw [if_pos z] at R0
    exact R0
  · rw [if_neg z] at hR R0
    refine k_Mo_in0 3 (by decide) (fun w hw e => ?_) (fun e => ?_)
    · subst e
      rw [zs_ix_of hw (by decide)] at hR R0
      simp only [] at hR R0
      simp only [↓zq, ↓reduceIte, zr_si2, zr_sr1, zr_cp2, zr_tl, zr_tn, shq, List.contains_nil, List.contains_cons, Nat.reduceBEq, Bool.false_or, Bool.or_false, Bool.true_or, Bool.false_eq_true, if_false, if_true, true_and, and_true, List.set_cons_zero, List.set_cons_succ, List.length_cons, List.length_nil, Nat.reduceAdd, Nat.reduceLeDiff, Nat.le_refl, Nat.zero_le, true_or, or_true, zn_cl, ↓jj_Mo_ranked, q1]
      refine ⟨fun _ => ?_, fun z => absurd z (by decide)⟩
      cases hq : Q.1
      · rw [hq] at R0
        simp only [Bool.false_eq_true, if_true, if_false] at R0 ⊢
        exact ⟨fun z => absurd trivial z, fun _ => R0⟩
      · simp only [hq, Bool.true_eq_false, if_false, if_true] at hR R0 ⊢
        refine ⟨fun _ => ?_, fun z => absurd z (by decide)⟩
        refine k_Mo_wayNow hO hq (fun g e1 => ?_)
        have wo := fun s hs => zs_way_ok o4w o6 hq (F := F) (sp := sp) s hs
        generalize zs_way F sp U Q = o at *
        simp only [↓zq, ↓reduceIte, zr_si2, zr_sr1, zr_cp2, zr_tl, zr_tn, shq, List.contains_nil, List.contains_cons, Nat.reduceBEq, Bool.false_or, Bool.or_false, Bool.true_or, Bool.false_eq_true, if_false, if_true, true_and, and_true, List.set_cons_zero, List.set_cons_succ, List.length_cons, List.length_nil, Nat.reduceAdd, Nat.reduceLeDiff, Nat.le_refl, Nat.zero_le, true_or, or_true, zn_cl, ↓jj_Mo_ranked]
        refine k_Mo_answersByWay (zO_fr e1 hO) hq (fun s hs => ⟨(wo s hs).1, (wo s hs).2.2⟩) (fun g2 e2 e3 => ?_)
        simp only [↓zq, ↓reduceIte, zr_si2, zr_sr1, zr_cp2, zr_tl, zr_tn, shq, List.contains_nil, List.contains_cons, Nat.reduceBEq, Bool.false_or, Bool.or_false, Bool.true_or, Bool.false_eq_true, if_false, if_true, true_and, and_true, List.set_cons_zero, List.set_cons_succ, List.length_cons, List.length_nil, Nat.reduceAdd, Nat.reduceLeDiff, Nat.le_refl, Nat.zero_le, true_or, or_true, zn_cl, ↓jj_Mo_ranked]
        obtain ⟨j, hj, rfl⟩ := nI_of z
        have gO := zO_fr (e1.tr e2) hO
        have hRR := hR g2 (e1.tr e2)
        rw [nI_clamp hj] at hRR
        have vb := zs_at_le (Q := Q) o3w o2w o4w (fun s hs => (wo s hs).1)
        obtain ⟨rk1, rk2⟩ := zs_rkf_rkd (zs_at F sp U Q o) (zs_sg sp Q.2 F) (Q.2 6) j
        generalize zs_rkf (zs_at F sp U Q o) (zs_sg sp Q.2 F) (Q.2 6) j 512 = ro at *
        generalize zs_at F sp U Q o = tab at *
        have m1 := e3.1
        have sl := zs_some_le (fun k => (tab k).1) 512
        have al : ∀ k, zs_ahd tab (zs_sg sp Q.2 F) (Q.2 6) k ≤ 512 := fun k => zs_some_le _ 512
        have loop : ∀ (n b : Nat), b + n = zs_some (fun k => (tab k).1) 512 → (∀ k, k < 512 → (tab k).1 ≠ 0 → zs_some (fun k => (tab k).1) k < b → zs_ahd tab (zs_sg sp Q.2 F) (Q.2 6) k ≠ j) → zm_W (zm_md m_Mo_ranked) (d + 9) TT R 35 [some (.inr (some 133)), some (.inl (nI j)), some (.inl (nI w)), some (.inl (nI b))] [] g2 := by
          intro n
          induction n with
          | zero =>
            intro b hb hno
            have eb : b = zs_some (fun k => (tab k).1) 512 := by omega
            cases ro with
            | some k =>
              obtain ⟨a1, a2, a3⟩ := rk2 k rfl
              have := zs_some_slt (f := fun k => (tab k).1) (show k < 512 by omega) a2
              exact absurd a3 (hno k a1 a2 (by omega))
            | none =>
              rw [← eb] at m1
              refine zm_go g_Mo_ranked [35] 30 (by decide +kernel) ok_Mo_ranked _ rfl ?_
              simp only [↓zq, ↓reduceIte, zr_si2, zr_sr1, zr_cp2, zr_tl, zr_tn, shq, List.contains_nil, List.contains_cons, Nat.reduceBEq, Bool.false_or, Bool.or_false, Bool.true_or, Bool.false_eq_true, if_false, if_true, true_and, and_true, List.set_cons_zero, List.set_cons_succ, List.length_cons, List.length_nil, Nat.reduceAdd, Nat.reduceLeDiff, Nat.le_refl, Nat.zero_le, true_or, or_true, zn_cl, ↓jj_Mo_ranked, m1]
              exact ⟨fun _ => hRR, fun z => absurd (Int32.le_refl _) z⟩
          | succ n ih =>
            intro b hb hno
            have ih := ih (b + 1) (by omega)
            obtain ⟨k, hk⟩ := zs_nth_ex (f := fun k => (tab k).1) (i := b) 512 (by omega)
            obtain ⟨k5, kn, ks⟩ := zs_nth_spec 512 hk
            have alk := al k
            refine zm_go g_Mo_ranked [35] 30 (by decide +kernel) ok_Mo_ranked _ rfl ?_
            simp only [↓zq, ↓reduceIte, zr_si2, zr_sr1, zr_cp2, zr_tl, zr_tn, shq, List.contains_nil, List.contains_cons, Nat.reduceBEq, Bool.false_or, Bool.or_false, Bool.true_or, Bool.false_eq_true, if_false, if_true, true_and, and_true, List.set_cons_zero, List.set_cons_succ, List.length_cons, List.length_nil, Nat.reduceAdd, Nat.reduceLeDiff, Nat.le_refl, Nat.zero_le, true_or, or_true, zn_cl, ↓jj_Mo_ranked, m1]
            refine ⟨fun z => absurd z (nI_ge (by omega) (by omega)), fun _ => ?_⟩
            have hRa : zm_C (d + 8) TT m_Mo_aheadOf [.inr (some 133), .inl (nI (zs_some (fun k => (tab k).1) k))] g2 _ := k_Mo_aheadOf (R := fun w' h' => w' = some (.inl (nI (zs_ahd tab (zs_sg sp Q.2 F) (Q.2 6) k))) ∧ h' = g2) gO.1 e3 (fun k _ => by have := vb k; omega) k5 kn ⟨rfl, rfl⟩
            rw [ks] at hRa
            refine hRa.mono (Nat.le_refl _) (fun w' h' hw' => ?_)
            obtain ⟨rfl, rfl⟩ := hw'
            simp only [↓zq, ↓reduceIte, zr_si2, zr_sr1, zr_cp2, zr_tl, zr_tn, shq, List.contains_nil, List.contains_cons, Nat.reduceBEq, Bool.false_or, Bool.or_false, Bool.true_or, Bool.false_eq_true, if_false, if_true, true_and, and_true, List.set_cons_zero, List.set_cons_succ, List.length_cons, List.length_nil, Nat.reduceAdd, Nat.reduceLeDiff, Nat.le_refl, Nat.zero_le, true_or, or_true, zn_cl, ↓jj_Mo_ranked, nI_1]
            rw [zn_eq (by omega) hj]
            refine ⟨fun z => ih (fun k2 a1 a2 a3 a4 => ?_), fun z => ?_⟩
            · by_cases q : zs_some (fun k => (tab k).1) k2 < b
              · exact hno k2 a1 a2 q a4
              · have : k2 = k := by
                  rcases Nat.lt_trichotomy k2 k with q2 | q2 | q2
                  · have := zs_some_slt (f := fun k => (tab k).1) q2 a2; omega
                  · exact q2
                  · have := zs_some_slt (f := fun k => (tab k).1) q2 kn; omega
                rw [this] at a4
                exact z a4
            · refine k_Mo_toldOf gO.1 e3 (by omega) hw ?_
              simp only [↓zq, ↓reduceIte, zr_si2, zr_sr1, zr_cp2, zr_tl, zr_tn, shq, List.contains_nil, List.contains_cons, Nat.reduceBEq, Bool.false_or, Bool.or_false, Bool.true_or, Bool.false_eq_true, if_false, if_true, true_and, and_true, List.set_cons_zero, List.set_cons_succ, List.length_cons, List.length_nil, Nat.reduceAdd, Nat.reduceLeDiff, Nat.le_refl, Nat.zero_le, true_or, or_true, zn_cl, ↓jj_Mo_ranked]
              rw [hk]
              cases ro with
              | none => exact absurd z (rk1 rfl k k5 kn)
              | some k2 =>
                obtain ⟨a1, a2, a3⟩ := rk2 k2 rfl
                rw [zs_ahd_inj k5 a1 kn a2 (z.trans a3.symm)]
                exact hRR
        exact loop _ 0 (Nat.zero_add _) (fun k _ _ hh => absurd hh (Nat.not_lt_zero _))
    · rw [e] at R0
      simp only [↓zq, ↓reduceIte, zr_si2, zr_sr1, zr_cp2, zr_tl, zr_tn, shq, List.contains_nil, List.contains_cons, Nat.reduceBEq, Bool.false_or, Bool.or_false, Bool.true_or, Bool.false_eq_true, if_false, if_true, true_and, and_true, List.set_cons_zero, List.set_cons_succ, List.length_cons, List.length_nil, Nat.reduceAdd, Nat.reduceLeDiff, Nat.le_refl, Nat.zero_le, true_or, or_true, zn_cl, ↓jj_Mo_ranked]
      exact ⟨fun z => absurd trivial z, fun _ => R0⟩
set_option maxHeartbeats 4000000 in
set_option maxRecDepth 100000 in
theorem k_Mo_answerBy {d : Nat} {h : zm_M} {R : zm_R} {F : zs_F} {sp : Nat → Nat} {U : zs_U} {Q : zs_Q} {x i y : Int32} (hO : zO h F sp U Q) (hR : ∀ h' : zm_M, zo_fr h h' → R (some (.inl (A_answerBy F sp U Q x i y))) h') : zm_C (d + 9) TT m_Mo_answerBy [.inr (some 133), .inl x, .inl i, .inl y] h R := by
  obtain ⟨o1, ⟨o2, o2w⟩, ⟨o3, o3w⟩, ⟨o4, o4w⟩, o5, o6⟩ := id hO
  have q1 := o5.1
  have h8 := o4w.1
  unfold A_answerBy at hR
  have R0 := hR h (zo_fr.rf h)
  have n3 : ∀ s, s < 8 → ¬ (-3 : Int32) = nI s := by decide
  have fin : ∀ (o : Option Nat) (w : Nat), w < 4 → Q.1 = true → ¬ i < 0 → y = nI w → x = zs_wv o → (∀ s, o = some s → s < U.1 ∧ zs_cov sp (U.2 s) Q.2 = true) → (∀ h' : zm_M, zo_fr h h' → R (some (.inl (zs_tA F sp U Q o i w))) h') → zm_W (zm_md m_Mo_answerBy) (d + 9) TT R 56 [some (.inr (some 133)), some (.inl x), some (.inl i), some (.inl y)] [] h := by
    intro o w hw hq z e ex wo hRo
    subst e
    subst ex
    refine zm_go g_Mo_answerBy [] 30 (by decide +kernel) ok_Mo_answerBy _ rfl ?_
    simp only [↓zq, ↓reduceIte, zr_si2, zr_sr1, zr_cp2, zr_tl, zr_tn, shq, List.contains_nil, List.contains_cons, Nat.reduceBEq, Bool.false_or, Bool.or_false, Bool.true_or, Bool.false_eq_true, if_false, if_true, true_and, and_true, List.set_cons_zero, List.set_cons_succ, List.length_cons, List.length_nil, Nat.reduceAdd, Nat.reduceLeDiff, Nat.le_refl, Nat.zero_le, true_or, or_true, zn_cl, ↓jj_Mo_answerBy]
    refine k_Mo_answersByWay hO hq wo (fun g2 e2 e3 => ?_)
    simp only [↓zq, ↓reduceIte, zr_si2, zr_sr1, zr_cp2, zr_tl, zr_tn, shq, List.contains_nil, List.contains_cons, Nat.reduceBEq, Bool.false_or, Bool.or_false, Bool.true_or, Bool.false_eq_true, if_false, if_true, true_and, and_true, List.set_cons_zero, List.set_cons_succ, List.length_cons, List.length_nil, Nat.reduceAdd, Nat.reduceLeDiff, Nat.le_refl, Nat.zero_le, true_or, or_true, zn_cl, ↓jj_Mo_answerBy]
    obtain ⟨j, hj, rfl⟩ := nI_of z
    refine k_Mo_toldOf (zO_fr e2 hO).1 e3 hj hw ?_
    simp only [↓zq, ↓reduceIte, zr_si2, zr_sr1, zr_cp2, zr_tl, zr_tn, shq, List.contains_nil, List.contains_cons, Nat.reduceBEq, Bool.false_or, Bool.or_false, Bool.true_or, Bool.false_eq_true, if_false, if_true, true_and, and_true, List.set_cons_zero, List.set_cons_succ, List.length_cons, List.length_nil, Nat.reduceAdd, Nat.reduceLeDiff, Nat.le_refl, Nat.zero_le, true_or, or_true, zn_cl, ↓jj_Mo_answerBy]
    have hRR := hRo g2 e2
    unfold zs_tA at hRR
    rw [nI_clamp hj] at hRR
    exact hRR
  have mid : ∀ (o : Option Nat), x = zs_wv o → (∀ s, o = some s → s < U.1) → zm_W (zm_md m_Mo_answerBy) (d + 9) TT R 14 [some (.inr (some 133)), some (.inl x), some (.inl i), some (.inl y)] [] h := by
    intro o ex ho
    have ei : zs_ix x U.1 = o := by
      rw [ex]
      cases o with
      | none => exact zs_ix_no2 (by omega) (fun s hs => n3 s (by omega))
      | some s => exact zs_ix_of (ho s rfl) (by omega)
    have en : (x = -3) = (o = none) := by rw [ex]; exact zs_wv_none (fun s hs => by have := ho s hs; omega)
    rw [ei] at hR R0
    refine zm_go g_Mo_answerBy [56] 30 (by decide +kernel) ok_Mo_answerBy _ rfl ?_
    simp only [↓zq, ↓reduceIte, zr_si2, zr_sr1, zr_cp2, zr_tl, zr_tn, shq, List.contains_nil, List.contains_cons, Nat.reduceBEq, Bool.false_or, Bool.or_false, Bool.true_or, Bool.false_eq_true, if_false, if_true, true_and, and_true, List.set_cons_zero, List.set_cons_succ, List.length_cons, List.length_nil, Nat.reduceAdd, Nat.reduceLeDiff, Nat.le_refl, Nat.zero_le, true_or, or_true, zn_cl, ↓jj_Mo_answerBy]
    refine ⟨fun z => ?_, fun z => ?_⟩
    · rw [if_pos z] at R0
      exact R0
    · rw [if_neg z] at hR R0
      refine k_Mo_in0 3 (by decide) (fun w hw e => ?_) (fun e => ?_)
      · rw [e, zs_ix_of hw (by decide)] at hR R0
        simp only [] at hR R0
        simp only [↓zq, ↓reduceIte, zr_si2, zr_sr1, zr_cp2, zr_tl, zr_tn, shq, List.contains_nil, List.contains_cons, Nat.reduceBEq, Bool.false_or, Bool.or_false, Bool.true_or, Bool.false_eq_true, if_false, if_true, true_and, and_true, List.set_cons_zero, List.set_cons_succ, List.length_cons, List.length_nil, Nat.reduceAdd, Nat.reduceLeDiff, Nat.le_refl, Nat.zero_le, true_or, or_true, zn_cl, ↓jj_Mo_answerBy, q1]
        refine ⟨fun _ => ?_, fun z => absurd z (by decide)⟩
        cases hq : Q.1
        · simp only [Bool.false_eq_true, if_false]
          refine ⟨fun z => absurd trivial z, fun _ => ?_⟩
          cases o with
          | none =>
            simp only [en, hq, if_true] at R0
            exact R0
          | some s =>
            simp only [hq, if_true] at R0
            exact R0
        · simp only [if_true]
          refine ⟨fun _ => ?_, fun z => absurd z (by decide)⟩
          rw [en]
          cases o with
          | none =>
            simp only [en, hq, Bool.true_eq_false, if_true, if_false] at hR
            refine ⟨fun _ => ?_, fun z => absurd rfl z⟩
            exact fin none w hw hq z e ex (fun s hs => (by cases hs)) hR
          | some s =>
            simp only [hq, Bool.true_eq_false, if_false] at hR R0
            refine ⟨fun z => (by cases z), fun _ => ?_⟩
            have ex2 : x = nI s := ex
            have fin := fin (some s) w hw hq z e ex
            subst ex2
            refine k_Mo_coversNow hO hq (ho s rfl) ?_
            simp only [↓zq, ↓reduceIte, zr_si2, zr_sr1, zr_cp2, zr_tl, zr_tn, shq, List.contains_nil, List.contains_cons, Nat.reduceBEq, Bool.false_or, Bool.or_false, Bool.true_or, Bool.false_eq_true, if_false, if_true, true_and, and_true, List.set_cons_zero, List.set_cons_succ, List.length_cons, List.length_nil, Nat.reduceAdd, Nat.reduceLeDiff, Nat.le_refl, Nat.zero_le, true_or, or_true, zn_cl, ↓jj_Mo_answerBy]
            cases e2 : zs_cov sp (U.2 s) Q.2
            · rw [e2] at R0
              simp only [Bool.false_eq_true, if_false] at R0 ⊢
              exact ⟨fun z => absurd trivial z, fun _ => R0⟩
            · simp only [e2, if_true] at hR ⊢
              refine ⟨fun _ => ?_, fun z => absurd z (by decide)⟩
              exact fin (fun s' hs' => (by cases hs'; exact ⟨ho s rfl, e2⟩)) hR
      · rw [e] at R0
        simp only [↓zq, ↓reduceIte, zr_si2, zr_sr1, zr_cp2, zr_tl, zr_tn, shq, List.contains_nil, List.contains_cons, Nat.reduceBEq, Bool.false_or, Bool.or_false, Bool.true_or, Bool.false_eq_true, if_false, if_true, true_and, and_true, List.set_cons_zero, List.set_cons_succ, List.length_cons, List.length_nil, Nat.reduceAdd, Nat.reduceLeDiff, Nat.le_refl, Nat.zero_le, true_or, or_true, zn_cl, ↓jj_Mo_answerBy]
        exact ⟨fun z => absurd trivial z, fun _ => R0⟩
  refine st_Mo_answerBy [14] 9 ?_
  simp only [↓zq, ↓reduceIte, zr_si2, zr_sr1, zr_cp2, zr_tl, zr_tn, shq, List.contains_nil, List.contains_cons, Nat.reduceBEq, Bool.false_or, Bool.or_false, Bool.true_or, Bool.false_eq_true, if_false, if_true, true_and, and_true, List.set_cons_zero, List.set_cons_succ, List.length_cons, List.length_nil, Nat.reduceAdd, Nat.reduceLeDiff, Nat.le_refl, Nat.zero_le, true_or, or_true, zn_cl, ↓jj_Mo_answerBy]
  refine ⟨fun z => mid none z (fun s hs => (by cases hs)), fun z => ?_⟩
  refine k_Mo_isSummary hO (fun s hs e => ?_) (fun e => ?_)
  · have mid := mid (some s) e (fun s' hs' => (by cases hs'; exact hs))
    simp only [↓zq, ↓reduceIte, zr_si2, zr_sr1, zr_cp2, zr_tl, zr_tn, shq, List.contains_nil, List.contains_cons, Nat.reduceBEq, Bool.false_or, Bool.or_false, Bool.true_or, Bool.false_eq_true, if_false, if_true, true_and, and_true, List.set_cons_zero, List.set_cons_succ, List.length_cons, List.length_nil, Nat.reduceAdd, Nat.reduceLeDiff, Nat.le_refl, Nat.zero_le, true_or, or_true, zn_cl, ↓jj_Mo_answerBy]
    exact ⟨fun z => absurd z (by decide), fun _ => mid⟩
  · rw [zs_ix_no2 (x := x) (by omega) e] at R0
    simp only [↓zq, ↓reduceIte, zr_si2, zr_sr1, zr_cp2, zr_tl, zr_tn, shq, List.contains_nil, List.contains_cons, Nat.reduceBEq, Bool.false_or, Bool.or_false, Bool.true_or, Bool.false_eq_true, if_false, if_true, true_and, and_true, List.set_cons_zero, List.set_cons_succ, List.length_cons, List.length_nil, Nat.reduceAdd, Nat.reduceLeDiff, Nat.le_refl, Nat.zero_le, true_or, or_true, zn_cl, ↓jj_Mo_answerBy]
    refine ⟨fun _ => ?_, fun z => absurd trivial z⟩
    by_cases zi : i < 0
    · rw [if_pos zi] at R0
      exact R0
    · rw [if_neg zi] at R0
      cases ei : zs_ix y 4 with
      | none => rw [ei] at R0; exact R0
      | some w =>
        rw [ei] at R0
        simp only [] at R0
        rw [if_neg z] at R0
        exact R0
set_option maxHeartbeats 4000000 in
set_option maxRecDepth 100000 in
theorem k_Mo_unlike {d : Nat} {h : zm_M} {R : zm_R} {F : zs_F} {sp : Nat → Nat} {U : zs_U} {Q : zs_Q} {x : Int32} (hO : zO h F sp U Q) (hR : ∀ h' : zm_M, zo_fr h h' → R (some (.inl (A_unlike F sp U Q x))) h') : zm_C (d + 9) TT m_Mo_unlike [.inr (some 133), .inl x] h R := by
  obtain ⟨o1, ⟨o2, o2w⟩, ⟨o3, o3w⟩, ⟨o4, o4w⟩, o5, o6⟩ := id hO
  have q1 := o5.1
  have h8 := o4w.1
  unfold A_unlike at hR
  have R0 := hR h (zo_fr.rf h)
  refine st_Mo_unlike [] 9 ?_
  simp only [↓zq, ↓reduceIte, zr_si2, zr_sr1, zr_cp2, zr_tl, zr_tn, shq, List.contains_nil, List.contains_cons, Nat.reduceBEq, Bool.false_or, Bool.or_false, Bool.true_or, Bool.false_eq_true, if_false, if_true, true_and, and_true, List.set_cons_zero, List.set_cons_succ, List.length_cons, List.length_nil, Nat.reduceAdd, Nat.reduceLeDiff, Nat.le_refl, Nat.zero_le, true_or, or_true, zn_cl, ↓jj_Mo_unlike]
  refine k_Mo_isSummary hO (fun s hs e => ?_) (fun e => ?_)
  · subst e
    rw [zs_ix_of hs (by omega)] at hR R0
    simp only [] at hR R0
    obtain ⟨wr, w1, w2, wu⟩ := o4w.2 s hs
    simp only [↓zq, ↓reduceIte, zr_si2, zr_sr1, zr_cp2, zr_tl, zr_tn, shq, List.contains_nil, List.contains_cons, Nat.reduceBEq, Bool.false_or, Bool.or_false, Bool.true_or, Bool.false_eq_true, if_false, if_true, true_and, and_true, List.set_cons_zero, List.set_cons_succ, List.length_cons, List.length_nil, Nat.reduceAdd, Nat.reduceLeDiff, Nat.le_refl, Nat.zero_le, true_or, or_true, zn_cl, ↓jj_Mo_unlike, q1]
    refine ⟨fun _ => ?_, fun z => absurd z (by decide)⟩
    cases hq : Q.1
    · rw [hq] at R0
      simp only [Bool.false_eq_true, false_and, if_false] at R0 ⊢
      exact ⟨fun _ => R0, fun z => absurd trivial z⟩
    · simp only [hq, true_and, if_true] at hR R0 ⊢
      refine ⟨fun z => absurd z (by decide), fun _ => ?_⟩
      refine k_Mo_coversNow hO hq hs ?_
      simp only [↓zq, ↓reduceIte, zr_si2, zr_sr1, zr_cp2, zr_tl, zr_tn, shq, List.contains_nil, List.contains_cons, Nat.reduceBEq, Bool.false_or, Bool.or_false, Bool.true_or, Bool.false_eq_true, if_false, if_true, true_and, and_true, List.set_cons_zero, List.set_cons_succ, List.length_cons, List.length_nil, Nat.reduceAdd, Nat.reduceLeDiff, Nat.le_refl, Nat.zero_le, true_or, or_true, zn_cl, ↓jj_Mo_unlike]
      cases e2 : zs_cov sp (U.2 s) Q.2
      · rw [e2] at R0
        simp only [Bool.false_eq_true, if_false] at R0 ⊢
        exact ⟨fun z => absurd trivial z, fun _ => R0⟩
      · simp only [e2, if_true] at hR R0 ⊢
        refine ⟨fun _ => ?_, fun z => absurd z (by decide)⟩
        obtain ⟨k1, k2⟩ := zs_cov_in e2 w2 (o6 hq).2
        refine k_Mo_answersBy hO hq hs k1 k2 (fun g f1 f2 => ?_)
        have am := f2.1
        simp only [↓zq, ↓reduceIte, zr_si2, zr_sr1, zr_cp2, zr_tl, zr_tn, shq, List.contains_nil, List.contains_cons, Nat.reduceBEq, Bool.false_or, Bool.or_false, Bool.true_or, Bool.false_eq_true, if_false, if_true, true_and, and_true, List.set_cons_zero, List.set_cons_succ, List.length_cons, List.length_nil, Nat.reduceAdd, Nat.reduceLeDiff, Nat.le_refl, Nat.zero_le, true_or, or_true, zn_cl, ↓jj_Mo_unlike, am]
        have lA : ∀ k, k < 512 → zs_val (zs_tabA sp F (U.2 s) Q.2) (zs_sg sp Q.2 F) (Q.2 6) k < 2 ^ 20 := fun k _ => by
          have : zs_val (zs_tabA sp F (U.2 s) Q.2) (zs_sg sp Q.2 F) (Q.2 6) k ≤ 24000 := zs_at_le (o := some s) (Q := Q) o3w o2w o4w (fun s' hs' => by cases hs'; exact hs) k
          omega
        have lF : ∀ k, k < 512 → zs_val (zs_tabF sp F Q.2) (zs_sg sp Q.2 F) (Q.2 6) k < 2 ^ 20 := fun k _ => by
          have : zs_val (zs_tabF sp F Q.2) (zs_sg sp Q.2 F) (Q.2 6) k ≤ 24000 := zs_at_le (o := none) (U := U) (Q := Q) o3w o2w o4w (fun s' hs' => by cases hs') k
          omega
        refine k_Mo_differs (zO_fr f1 hO) hq f2 lA lF (fun g2 t1 => ?_)
        simp only [↓zq, ↓reduceIte, zr_si2, zr_sr1, zr_cp2, zr_tl, zr_tn, shq, List.contains_nil, List.contains_cons, Nat.reduceBEq, Bool.false_or, Bool.or_false, Bool.true_or, Bool.false_eq_true, if_false, if_true, true_and, and_true, List.set_cons_zero, List.set_cons_succ, List.length_cons, List.length_nil, Nat.reduceAdd, Nat.reduceLeDiff, Nat.le_refl, Nat.zero_le, true_or, or_true, zn_cl, ↓jj_Mo_unlike]
        exact hR g2 (f1.tr t1)
  · rw [zs_ix_no2 (by omega) e] at R0
    simp only [↓zq, ↓reduceIte, zr_si2, zr_sr1, zr_cp2, zr_tl, zr_tn, shq, List.contains_nil, List.contains_cons, Nat.reduceBEq, Bool.false_or, Bool.or_false, Bool.true_or, Bool.false_eq_true, if_false, if_true, true_and, and_true, List.set_cons_zero, List.set_cons_succ, List.length_cons, List.length_nil, Nat.reduceAdd, Nat.reduceLeDiff, Nat.le_refl, Nat.zero_le, true_or, or_true, zn_cl, ↓jj_Mo_unlike]
    exact ⟨fun z => absurd trivial z, fun _ => R0⟩
set_option maxHeartbeats 4000000 in
set_option maxRecDepth 100000 in
theorem k_Mo_madeOf {d : Nat} {h : zm_M} {R : zm_R} {F : zs_F} {sp : Nat → Nat} {U : zs_U} {Q : zs_Q} {x : Int32} (hO : zO h F sp U Q) (hR : R (some (.inl (A_madeOf sp U x))) h) : zm_C (d + 5) TT m_Mo_madeOf [.inr (some 133), .inl x] h R := by
  obtain ⟨o1, ⟨o2, o2w⟩, ⟨o3, o3w⟩, ⟨o4, o4w⟩, o5, o6⟩ := id hO
  obtain ⟨p4, p5, p6, p7, p35, p37, p38, p39, p40⟩ := zp_m o1
  have h8 := o4w.1
  have u1 := o4.1
  unfold A_madeOf at hR
  have main : ∀ s, s < U.1 → x = nI s → zm_W (zm_md m_Mo_madeOf) (d + 5) TT R 10 [some (.inr (some 133)), some (.inl x), none, none, none, none] [] h := by
    intro s hs e
    subst e
    rw [zs_ix_of hs (by omega)] at hR
    simp only [] at hR
    obtain ⟨wr, w1, w2, wu⟩ := o4w.2 s hs
    have v6 : vp_in (nI (8 * s + 6)) 64 := vp_in_nI (by omega) (by decide)
    have c6 := nI_clamp (show 8 * s + 6 < 2 ^ 31 by omega)
    have r6 := o4.2 s hs 6 (by decide)
    have i6 : (8 : Int32) * nI s + 6 = nI (8 * s + 6) := zn_8s (k := 6)
    have loop : ∀ (n i : Nat), i + n = U.1 → ∀ o, zm_W (zm_md m_Mo_madeOf) (d + 5) TT R 28 [some (.inr (some 133)), some (.inl (nI s)), some (.inl (nI (zs_bits (zs_can sp U s) i))), some (.inl (nI (U.2 s 6))), some (.inl (nI i)), o] [] h := by
      intro n
      induction n with
      | zero =>
        intro i hi o
        have : i = U.1 := by omega
        rw [this]
        refine zm_go g_Mo_madeOf [28] 30 (by decide +kernel) ok_Mo_madeOf _ rfl ?_
        simp only [↓zq, ↓reduceIte, zr_si2, zr_sr1, zr_cp2, zr_tl, zr_tn, shq, List.contains_nil, List.contains_cons, Nat.reduceBEq, Bool.false_or, Bool.or_false, Bool.true_or, Bool.false_eq_true, if_false, if_true, true_and, and_true, List.set_cons_zero, List.set_cons_succ, List.length_cons, List.length_nil, Nat.reduceAdd, Nat.reduceLeDiff, Nat.le_refl, Nat.zero_le, true_or, or_true, zn_cl, ↓jj_Mo_madeOf, u1]
        exact ⟨fun _ => hR, fun z => absurd (Int32.le_refl _) z⟩
      | succ n ih =>
        intro i hi o
        have hiU : i < U.1 := by omega
        have ih := ih (i + 1) (by omega)
        rw [zs_bits] at ih
        obtain ⟨vr, v1, v2, vu⟩ := o4w.2 i hiU
        have bl := zs_bits_lt (zs_can sp U s) i
        have v7 : vp_in (nI (8 * i + 6)) 64 := vp_in_nI (by omega) (by decide)
        have c7 := nI_clamp (show 8 * i + 6 < 2 ^ 31 by omega)
        have r7 := o4.2 i hiU 6 (by decide)
        have i7 : nI (8 * i) + 6 = nI (8 * i + 6) := nI_add (8 * i) 6
        have lt1 : U.2 s 6 &&& U.2 i 6 ^^^ U.2 s 6 < 256 := zn_xlt (zn_andlt _ (by omega)) (by omega)
        refine zm_go g_Mo_madeOf [28] 30 (by decide +kernel) ok_Mo_madeOf _ rfl ?_
        simp only [↓zq, ↓reduceIte, zr_si2, zr_sr1, zr_cp2, zr_tl, zr_tn, shq, List.contains_nil, List.contains_cons, Nat.reduceBEq, Bool.false_or, Bool.or_false, Bool.true_or, Bool.false_eq_true, if_false, if_true, true_and, and_true, List.set_cons_zero, List.set_cons_succ, List.length_cons, List.length_nil, Nat.reduceAdd, Nat.reduceLeDiff, Nat.le_refl, Nat.zero_le, true_or, or_true, zn_cl, ↓jj_Mo_madeOf, u1, p5, i7, v7, c7, r7, zn_andn, nI_1, zn_8]
        rw [zn_eq (by omega) (by omega), zn_z (by omega), zn_xz, Nat.and_comm]
        refine ⟨fun z => absurd z (nI_ge hiU (by omega)), fun _ => ⟨fun e => ?_, fun e => ⟨fun e2 => ?_, fun e2 => ?_⟩⟩⟩
        · rw [if_neg (by simp [zs_can, e]), Nat.add_zero] at ih
          exact ⟨fun _ => ih _, fun z => absurd trivial z⟩
        · rw [if_neg (by simp [zs_can, e2]), Nat.add_zero] at ih
          exact ⟨fun _ => ih _, fun z => absurd trivial z⟩
        · refine ⟨fun z => absurd z (by decide), fun _ => ?_⟩
          refine k_Mo_coversAll hO hiU (zO_rowU hO hs) wr ?_
          simp only [↓zq, ↓reduceIte, zr_si2, zr_sr1, zr_cp2, zr_tl, zr_tn, shq, List.contains_nil, List.contains_cons, Nat.reduceBEq, Bool.false_or, Bool.or_false, Bool.true_or, Bool.false_eq_true, if_false, if_true, true_and, and_true, List.set_cons_zero, List.set_cons_succ, List.length_cons, List.length_nil, Nat.reduceAdd, Nat.reduceLeDiff, Nat.le_refl, Nat.zero_le, true_or, or_true, zn_cl, ↓jj_Mo_madeOf, nI_1]
          cases e3 : zs_covS sp (U.2 i) (U.2 s)
          · simp only [Bool.false_eq_true, if_false]
            rw [if_neg (by simp [zs_can, e3]), Nat.add_zero] at ih
            exact ⟨fun _ => ih _, fun z => absurd trivial z⟩
          · simp only [if_true]
            rw [if_pos (by simp [zs_can, e, e2, e3])] at ih
            refine ⟨fun z => absurd z (by decide), fun _ => ?_⟩
            rw [zn_or8 i (by omega) _ bl]
            exact ih _
    refine zm_go g_Mo_madeOf [28] 30 (by decide +kernel) ok_Mo_madeOf _ rfl ?_
    simp only [↓zq, ↓reduceIte, zr_si2, zr_sr1, zr_cp2, zr_tl, zr_tn, shq, List.contains_nil, List.contains_cons, Nat.reduceBEq, Bool.false_or, Bool.or_false, Bool.true_or, Bool.false_eq_true, if_false, if_true, true_and, and_true, List.set_cons_zero, List.set_cons_succ, List.length_cons, List.length_nil, Nat.reduceAdd, Nat.reduceLeDiff, Nat.le_refl, Nat.zero_le, true_or, or_true, zn_cl, ↓jj_Mo_madeOf, p5, i6, v6, c6, r6]
    exact loop U.1 0 (by omega) _
  refine st_Mo_madeOf [10] 9 ?_
  simp only [↓zq, ↓reduceIte, zr_si2, zr_sr1, zr_cp2, zr_tl, zr_tn, shq, List.contains_nil, List.contains_cons, Nat.reduceBEq, Bool.false_or, Bool.or_false, Bool.true_or, Bool.false_eq_true, if_false, if_true, true_and, and_true, List.set_cons_zero, List.set_cons_succ, List.length_cons, List.length_nil, Nat.reduceAdd, Nat.reduceLeDiff, Nat.le_refl, Nat.zero_le, true_or, or_true, zn_cl, ↓jj_Mo_madeOf]
  refine k_Mo_isSummary hO (fun s hs e => ?_) (fun e => ?_)
  · have main := main s hs e
    simp only [↓zq, ↓reduceIte, zr_si2, zr_sr1, zr_cp2, zr_tl, zr_tn, shq, List.contains_nil, List.contains_cons, Nat.reduceBEq, Bool.false_or, Bool.or_false, Bool.true_or, Bool.false_eq_true, if_false, if_true, true_and, and_true, List.set_cons_zero, List.set_cons_succ, List.length_cons, List.length_nil, Nat.reduceAdd, Nat.reduceLeDiff, Nat.le_refl, Nat.zero_le, true_or, or_true, zn_cl, ↓jj_Mo_madeOf]
    exact ⟨fun _ => main, fun z => absurd z (by decide)⟩
  · rw [zs_ix_no2 (by omega) e] at hR
    simp only [↓zq, ↓reduceIte, zr_si2, zr_sr1, zr_cp2, zr_tl, zr_tn, shq, List.contains_nil, List.contains_cons, Nat.reduceBEq, Bool.false_or, Bool.or_false, Bool.true_or, Bool.false_eq_true, if_false, if_true, true_and, and_true, List.set_cons_zero, List.set_cons_succ, List.length_cons, List.length_nil, Nat.reduceAdd, Nat.reduceLeDiff, Nat.le_refl, Nat.zero_le, true_or, or_true, zn_cl, ↓jj_Mo_madeOf]
    exact ⟨fun z => absurd trivial z, fun _ => hR⟩
