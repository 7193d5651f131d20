/-! Tape: cell 1, its bytes cell 2 -/
set_option maxHeartbeats 4000000 in
set_option maxRecDepth 100000 in
theorem k_Tape_has {d : Nat} {h : zm_M} {R : zm_R} (n lo hi : Int32) (h1 : lo ≤ n → n ≤ hi → n ≤ h.1 1 1 → R (some (.inl 1)) h) (h0 : ¬ (lo ≤ n ∧ n ≤ hi ∧ n ≤ h.1 1 1) → R (some (.inl 0)) h) : zm_C (d + 1) TT m_Tape_has [.inr (some 1), .inl n, .inl lo, .inl hi] h R := by
  refine st_Tape_has [] 9 ?_
  simp only [zq, zr_si2, zr_sr1, zr_cp2, zr_tl, zr_tn, shq, List.contains_nil, List.contains_cons, Nat.reduceBEq, Bool.false_or, Bool.or_false, Bool.true_or, Bool.false_eq_true, if_false, if_true, true_and, and_true, List.set_cons_zero, List.set_cons_succ, List.length_cons, List.length_nil, Nat.reduceAdd, Nat.reduceLeDiff, Nat.le_refl, Nat.zero_le, true_or, or_true, jj_Tape_has]
  done
set_option maxHeartbeats 4000000 in
set_option maxRecDepth 100000 in
theorem k_Tape_peek {d : Nat} {h : zm_M} {R : zm_R} (hp : h.2 1 0 = some 2) (hR : R none h) : zm_C (d + 1) TT m_Tape_peek [.inr (some 1)] h R := by
  refine st_Tape_peek [] 9 ?_
  simp only [zq, zr_si2, zr_sr1, zr_cp2, zr_tl, zr_tn, shq, List.contains_nil, List.contains_cons, Nat.reduceBEq, Bool.false_or, Bool.or_false, Bool.true_or, Bool.false_eq_true, if_false, if_true, true_and, and_true, List.set_cons_zero, List.set_cons_succ, List.length_cons, List.length_nil, Nat.reduceAdd, Nat.reduceLeDiff, Nat.le_refl, Nat.zero_le, true_or, or_true, jj_Tape_peek, hp]
  done
set_option maxHeartbeats 4000000 in
set_option maxRecDepth 100000 in
theorem k_Tape_take {d : Nat} {h : zm_M} {R : zm_R} (x : Int32) (hp : h.2 1 0 = some 2) (hR : R none h) : zm_C (d + 2) TT m_Tape_take [.inr (some 1), .inl x] h R := by
  refine st_Tape_take [] 9 ?_
  simp only [zq, zr_si2, zr_sr1, zr_cp2, zr_tl, zr_tn, shq, List.contains_nil, List.contains_cons, Nat.reduceBEq, Bool.false_or, Bool.or_false, Bool.true_or, Bool.false_eq_true, if_false, if_true, true_and, and_true, List.set_cons_zero, List.set_cons_succ, List.length_cons, List.length_nil, Nat.reduceAdd, Nat.reduceLeDiff, Nat.le_refl, Nat.zero_le, true_or, or_true, jj_Tape_take, hp]
  done
set_option maxHeartbeats 4000000 in
set_option maxRecDepth 100000 in
theorem k_Tape_append {d : Nat} {h : zm_M} {R : zm_R} (x : Int32) (hp : h.2 1 0 = some 2) (hR : R none h) : zm_C (d + 2) TT m_Tape_append [.inr (some 1), .inl x] h R := by
  refine st_Tape_append [] 9 ?_
  simp only [zq, zr_si2, zr_sr1, zr_cp2, zr_tl, zr_tn, shq, List.contains_nil, List.contains_cons, Nat.reduceBEq, Bool.false_or, Bool.or_false, Bool.true_or, Bool.false_eq_true, if_false, if_true, true_and, and_true, List.set_cons_zero, List.set_cons_succ, List.length_cons, List.length_nil, Nat.reduceAdd, Nat.reduceLeDiff, Nat.le_refl, Nat.zero_le, true_or, or_true, jj_Tape_append, hp]
  done
