/-! methods without a heap -/
set_option maxHeartbeats 4000000 in
set_option maxRecDepth 100000 in
theorem k_KS_isSide {d : Nat} {T : zm_T} {h : zm_M} {R : zm_R} {x : Int32} (h1 : ∀ j : Nat, j < 3 → x = nI j → R (some (.inl 1)) h) (h0 : (x < 0 ∨ 3 ≤ x) → R (some (.inl 0)) h) : zm_C (d + 1) T m_KS_isSide [.inl x] h R := by
  refine st_KS_isSide [] 9 ?_
  simp only [↓zq, ↓reduceIte, zr_si2, zr_sr1, zr_cp2, zr_tl, zr_tn, shq, List.contains_nil, List.contains_cons, Nat.reduceBEq, Bool.false_or, Bool.or_false, Bool.true_or, Bool.false_eq_true, if_false, if_true, true_and, and_true, List.set_cons_zero, List.set_cons_succ, List.length_cons, List.length_nil, Nat.reduceAdd, Nat.reduceLeDiff, Nat.le_refl, Nat.zero_le, true_or, or_true, zn_cl, ↓jj_KS_isSide]
  refine ⟨fun a => h0 (Or.inl a), fun a => ⟨fun b => h0 (Or.inr b), fun b => ?_⟩⟩
  obtain ⟨j, hj, rfl⟩ := zn_of (n := 3) a b
  exact h1 j hj rfl
set_option maxHeartbeats 4000000 in
set_option maxRecDepth 100000 in
theorem k_KS_isValue {d : Nat} {T : zm_T} {h : zm_M} {R : zm_R} {x : Int32} (h1 : ∀ j : Nat, j < 8 → x = nI j → R (some (.inl 1)) h) (h0 : (x < 0 ∨ 8 ≤ x) → R (some (.inl 0)) h) : zm_C (d + 1) T m_KS_isValue [.inl x] h R := by
  refine st_KS_isValue [] 9 ?_
  simp only [↓zq, ↓reduceIte, zr_si2, zr_sr1, zr_cp2, zr_tl, zr_tn, shq, List.contains_nil, List.contains_cons, Nat.reduceBEq, Bool.false_or, Bool.or_false, Bool.true_or, Bool.false_eq_true, if_false, if_true, true_and, and_true, List.set_cons_zero, List.set_cons_succ, List.length_cons, List.length_nil, Nat.reduceAdd, Nat.reduceLeDiff, Nat.le_refl, Nat.zero_le, true_or, or_true, zn_cl, ↓jj_KS_isValue]
  refine ⟨fun a => h0 (Or.inl a), fun a => ⟨fun b => h0 (Or.inr b), fun b => ?_⟩⟩
  obtain ⟨j, hj, rfl⟩ := zn_of (n := 8) a b
  exact h1 j hj rfl
set_option maxHeartbeats 4000000 in
set_option maxRecDepth 100000 in
theorem k_KS_isNode {d : Nat} {T : zm_T} {h : zm_M} {R : zm_R} {x : Int32} (h1 : ∀ j : Nat, j < 27 → x = nI j → R (some (.inl 1)) h) (h0 : (x < 0 ∨ 27 ≤ x) → R (some (.inl 0)) h) : zm_C (d + 1) T m_KS_isNode [.inl x] h R := by
  refine st_KS_isNode [] 9 ?_
  simp only [↓zq, ↓reduceIte, zr_si2, zr_sr1, zr_cp2, zr_tl, zr_tn, shq, List.contains_nil, List.contains_cons, Nat.reduceBEq, Bool.false_or, Bool.or_false, Bool.true_or, Bool.false_eq_true, if_false, if_true, true_and, and_true, List.set_cons_zero, List.set_cons_succ, List.length_cons, List.length_nil, Nat.reduceAdd, Nat.reduceLeDiff, Nat.le_refl, Nat.zero_le, true_or, or_true, zn_cl, ↓jj_KS_isNode]
  refine ⟨fun a => h0 (Or.inl a), fun a => ⟨fun b => h0 (Or.inr b), fun b => ?_⟩⟩
  obtain ⟨j, hj, rfl⟩ := zn_of (n := 27) a b
  exact h1 j hj rfl
set_option maxHeartbeats 4000000 in
set_option maxRecDepth 100000 in
theorem k_KS_isDigit {d : Nat} {T : zm_T} {h : zm_M} {R : zm_R} {x : Int32} (h1 : ¬ x < 48 → ¬ 57 < x → R (some (.inl 1)) h) (h0 : (x < 48 ∨ 57 < x) → R (some (.inl 0)) h) : zm_C (d + 1) T m_KS_isDigit [.inl x] h R := by
  refine st_KS_isDigit [] 9 ?_
  simp only [↓zq, ↓reduceIte, zr_si2, zr_sr1, zr_cp2, zr_tl, zr_tn, shq, List.contains_nil, List.contains_cons, Nat.reduceBEq, Bool.false_or, Bool.or_false, Bool.true_or, Bool.false_eq_true, if_false, if_true, true_and, and_true, List.set_cons_zero, List.set_cons_succ, List.length_cons, List.length_nil, Nat.reduceAdd, Nat.reduceLeDiff, Nat.le_refl, Nat.zero_le, true_or, or_true, zn_cl, ↓jj_KS_isDigit]
  exact ⟨fun a => h0 (Or.inl a), fun a => ⟨fun b => h0 (Or.inr b), fun b => h1 a b⟩⟩
set_option maxHeartbeats 4000000 in
set_option maxRecDepth 100000 in
theorem k_KS_tripleOf {d : Nat} {T : zm_T} {h : zm_M} {R : zm_R} {a b c : Nat} (ha : a < 8) (hb : b < 8) (hc : c < 8) (hR : R (some (.inl (nI (64 * a + 8 * b + c)))) h) : zm_C (d + 1) T m_KS_tripleOf [.inl (nI a), .inl (nI b), .inl (nI c)] h R := by
  refine st_KS_tripleOf [] 9 ?_
  simp only [↓zq, ↓reduceIte, zr_si2, zr_sr1, zr_cp2, zr_tl, zr_tn, shq, List.contains_nil, List.contains_cons, Nat.reduceBEq, Bool.false_or, Bool.or_false, Bool.true_or, Bool.false_eq_true, if_false, if_true, true_and, and_true, List.set_cons_zero, List.set_cons_succ, List.length_cons, List.length_nil, Nat.reduceAdd, Nat.reduceLeDiff, Nat.le_refl, Nat.zero_le, true_or, or_true, zn_cl, ↓jj_KS_tripleOf]
  have e : ∀ a, a < 8 → ∀ b, b < 8 → ∀ c, c < 8 → (nI a &&& 7) <<< ((6 : Int32) &&& 31) ||| (nI b &&& 7) <<< ((3 : Int32) &&& 31) ||| nI c &&& 7 = nI (64 * a + 8 * b + c) := by decide +kernel
  rw [e a ha b hb c hc]
  exact hR
set_option maxHeartbeats 4000000 in
set_option maxRecDepth 100000 in
theorem k_KS_numberIn {d : Nat} {T : zm_T} {h : zm_M} {R : zm_R} {t s : Nat} (ht : t < 512) (hs : s < 3) (hR : R (some (.inl (nI (t / 8 ^ (2 - s) % 8)))) h) : zm_C (d + 1) T m_KS_numberIn [.inl (nI t), .inl (nI s)] h R := by
  refine st_KS_numberIn [] 9 ?_
  simp only [↓zq, ↓reduceIte, zr_si2, zr_sr1, zr_cp2, zr_tl, zr_tn, shq, List.contains_nil, List.contains_cons, Nat.reduceBEq, Bool.false_or, Bool.or_false, Bool.true_or, Bool.false_eq_true, if_false, if_true, true_and, and_true, List.set_cons_zero, List.set_cons_succ, List.length_cons, List.length_nil, Nat.reduceAdd, Nat.reduceLeDiff, Nat.le_refl, Nat.zero_le, true_or, or_true, zn_cl, ↓jj_KS_numberIn]
  have e : ∀ s, s < 3 → ∀ t, t < 512 → nI t >>> ((3 : Int32) * (2 - nI s) &&& 31) &&& 7 = nI (t / 8 ^ (2 - s) % 8) := by decide +kernel
  rw [e s hs t ht]
  exact hR
set_option maxHeartbeats 4000000 in
set_option maxRecDepth 100000 in
theorem k_KS_partsFor {d : Nat} {T : zm_T} {h : zm_M} {R : zm_R} {w : Nat} (hw : w ≤ 6) (hR : R (some (.inl (nI (if w = 4 then 3 else if w < 4 then 2 ^ w else 16)))) h) : zm_C (d + 1) T m_KS_partsFor [.inl (nI w)] h R := by
  refine st_KS_partsFor [] 9 ?_
  simp only [↓zq, ↓reduceIte, zr_si2, zr_sr1, zr_cp2, zr_tl, zr_tn, shq, List.contains_nil, List.contains_cons, Nat.reduceBEq, Bool.false_or, Bool.or_false, Bool.true_or, Bool.false_eq_true, if_false, if_true, true_and, and_true, List.set_cons_zero, List.set_cons_succ, List.length_cons, List.length_nil, Nat.reduceAdd, Nat.reduceLeDiff, Nat.le_refl, Nat.zero_le, true_or, or_true, zn_cl, ↓jj_KS_partsFor]
  have e : ∀ w, w ≤ 6 → (¬ nI w = 4 → (1 : Int32) <<< ((if 4 < nI w then 4 else nI w) &&& 31) = nI (if w = 4 then 3 else if w < 4 then 2 ^ w else 16)) ∧ (nI w = 4 → (3 : Int32) = nI (if w = 4 then 3 else if w < 4 then 2 ^ w else 16)) := by decide +kernel
  exact ⟨fun q => by rw [(e w hw).1 q]; exact hR, fun q => by rw [(e w hw).2 q]; exact hR⟩
set_option maxHeartbeats 4000000 in
set_option maxRecDepth 100000 in
theorem k_KS_levelIn {d : Nat} {T : zm_T} {h : zm_M} {R : zm_R} {n s : Nat} (hn : n < 27) (hs : s < 3) (hR : R (some (.inl (nI (n / 3 ^ (2 - s) % 3)))) h) : zm_C (d + 1) T m_KS_levelIn [.inl (nI n), .inl (nI s)] h R := by
  refine st_KS_levelIn [] 9 ?_
  simp only [↓zq, ↓reduceIte, zr_si2, zr_sr1, zr_cp2, zr_tl, zr_tn, shq, List.contains_nil, List.contains_cons, Nat.reduceBEq, Bool.false_or, Bool.or_false, Bool.true_or, Bool.false_eq_true, if_false, if_true, true_and, and_true, List.set_cons_zero, List.set_cons_succ, List.length_cons, List.length_nil, Nat.reduceAdd, Nat.reduceLeDiff, Nat.le_refl, Nat.zero_le, true_or, or_true, zn_cl, ↓jj_KS_levelIn]
  have e : ∀ s, s < 3 → ∀ n, n < 27 → (¬ nI s = 0 → ¬ nI s = 1 → nI n - nI n / 3 * 3 = nI (n / 3 ^ (2 - s) % 3)) ∧ (nI s = 1 → nI n / 3 - nI n / 3 / 3 * 3 = nI (n / 3 ^ (2 - s) % 3)) ∧ (nI s = 0 → nI n / 9 = nI (n / 3 ^ (2 - s) % 3)) := by decide +kernel
  obtain ⟨e1, e2, e3⟩ := e s hs n hn
  exact ⟨fun q => ⟨fun q2 => ⟨by decide, by rw [e1 q q2]; exact hR⟩, fun q2 => ⟨by decide, by decide, by rw [e2 q2]; exact hR⟩⟩, fun q => ⟨by decide, by rw [e3 q]; exact hR⟩⟩
set_option maxHeartbeats 4000000 in
set_option maxRecDepth 100000 in
theorem k_KS_isAnswerPlace {d : Nat} {T : zm_T} {h : zm_M} {R : zm_R} {i w : Int32} (h1 : ∀ j : Nat, j < 4 → w = nI j → ¬ i < 0 → R (some (.inl 1)) h) (h0 : (i < 0 ∨ w < 0 ∨ 3 < w) → R (some (.inl 0)) h) : zm_C (d + 1) T m_KS_isAnswerPlace [.inl i, .inl w] h R := by
  refine st_KS_isAnswerPlace [] 9 ?_
  simp only [↓zq, ↓reduceIte, zr_si2, zr_sr1, zr_cp2, zr_tl, zr_tn, shq, List.contains_nil, List.contains_cons, Nat.reduceBEq, Bool.false_or, Bool.or_false, Bool.true_or, Bool.false_eq_true, if_false, if_true, true_and, and_true, List.set_cons_zero, List.set_cons_succ, List.length_cons, List.length_nil, Nat.reduceAdd, Nat.reduceLeDiff, Nat.le_refl, Nat.zero_le, true_or, or_true, zn_cl, ↓jj_KS_isAnswerPlace]
  refine ⟨fun a => h0 (Or.inl a), fun a => ⟨fun b => h0 (Or.inr (Or.inl b)), fun b => ⟨fun c => h0 (Or.inr (Or.inr c)), fun c => ?_⟩⟩⟩
  obtain ⟨j, hj, rfl⟩ := zn_of (n := 4) (m := 4) b (fun z => by grind)
  exact h1 j hj rfl a
set_option maxHeartbeats 4000000 in
set_option maxRecDepth 100000 in
theorem k_KS_isLevelOrLets {d : Nat} {T : zm_T} {h : zm_M} {R : zm_R} {x : Int32} (h1 : ∀ j : Nat, j < 3 → x = nI j → R (some (.inl 1)) h) (h2 : ∀ j : Nat, j < 3 → x = nI (10 + j) → R (some (.inl 1)) h) (h0 : (∀ j : Nat, j < 3 → ¬ x = nI j ∧ ¬ x = nI (10 + j)) → R (some (.inl 0)) h) : zm_C (d + 2) T m_KS_isLevelOrLets [.inl x] h R := by
  refine st_KS_isLevelOrLets [] 9 ?_
  simp only [↓zq, ↓reduceIte, zr_si2, zr_sr1, zr_cp2, zr_tl, zr_tn, shq, List.contains_nil, List.contains_cons, Nat.reduceBEq, Bool.false_or, Bool.or_false, Bool.true_or, Bool.false_eq_true, if_false, if_true, true_and, and_true, List.set_cons_zero, List.set_cons_succ, List.length_cons, List.length_nil, Nat.reduceAdd, Nat.reduceLeDiff, Nat.le_refl, Nat.zero_le, true_or, or_true, zn_cl, ↓jj_KS_isLevelOrLets]
  refine k_KS_isSide (fun j hj e => ?_) (fun e => ?_)
  · simp only [↓zq, ↓reduceIte, zr_si2, zr_sr1, zr_cp2, zr_tl, zr_tn, shq, List.contains_nil, List.contains_cons, Nat.reduceBEq, Bool.false_or, Bool.or_false, Bool.true_or, Bool.false_eq_true, if_false, if_true, true_and, and_true, List.set_cons_zero, List.set_cons_succ, List.length_cons, List.length_nil, Nat.reduceAdd, Nat.reduceLeDiff, Nat.le_refl, Nat.zero_le, true_or, or_true, zn_cl, ↓jj_KS_isLevelOrLets]
    exact ⟨fun _ => h1 j hj e, fun q => absurd q (by decide)⟩
  · simp only [↓zq, ↓reduceIte, zr_si2, zr_sr1, zr_cp2, zr_tl, zr_tn, shq, List.contains_nil, List.contains_cons, Nat.reduceBEq, Bool.false_or, Bool.or_false, Bool.true_or, Bool.false_eq_true, if_false, if_true, true_and, and_true, List.set_cons_zero, List.set_cons_succ, List.length_cons, List.length_nil, Nat.reduceAdd, Nat.reduceLeDiff, Nat.le_refl, Nat.zero_le, true_or, or_true, zn_cl, ↓jj_KS_isLevelOrLets]
    refine ⟨fun q => absurd trivial q, fun _ => ?_⟩
    refine k_KS_isSide (fun j hj e2 => ?_) (fun e2 => ?_)
    · simp only [↓zq, ↓reduceIte, zr_si2, zr_sr1, zr_cp2, zr_tl, zr_tn, shq, List.contains_nil, List.contains_cons, Nat.reduceBEq, Bool.false_or, Bool.or_false, Bool.true_or, Bool.false_eq_true, if_false, if_true, true_and, and_true, List.set_cons_zero, List.set_cons_succ, List.length_cons, List.length_nil, Nat.reduceAdd, Nat.reduceLeDiff, Nat.le_refl, Nat.zero_le, true_or, or_true, zn_cl, ↓jj_KS_isLevelOrLets]
      refine ⟨fun q => absurd q (by decide), fun _ => ?_⟩
      refine h2 j hj ?_
      have : x = nI j + 10 := by rw [← e2]; grind
      rw [this]
      exact (nI_add j 10).trans (by rw [Nat.add_comm])
    · simp only [↓zq, ↓reduceIte, zr_si2, zr_sr1, zr_cp2, zr_tl, zr_tn, shq, List.contains_nil, List.contains_cons, Nat.reduceBEq, Bool.false_or, Bool.or_false, Bool.true_or, Bool.false_eq_true, if_false, if_true, true_and, and_true, List.set_cons_zero, List.set_cons_succ, List.length_cons, List.length_nil, Nat.reduceAdd, Nat.reduceLeDiff, Nat.le_refl, Nat.zero_le, true_or, or_true, zn_cl, ↓jj_KS_isLevelOrLets]
      refine ⟨fun _ => ?_, fun q => absurd trivial q⟩
      refine h0 (fun j hj => ⟨fun z => ?_, fun z => ?_⟩)
      · subst z
        rcases e with e | e
        · exact absurd e (nI_pos (by omega))
        · exact absurd e (nI_ge (b := 3) hj (by decide))
      · subst z
        have e3 : ∀ j, j < 3 → ¬ (nI (10 + j) - 10 < 0 ∨ 3 ≤ nI (10 + j) - 10) := by decide
        exact e3 j hj e2
