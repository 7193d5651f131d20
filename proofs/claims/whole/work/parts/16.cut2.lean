/-! Cut, on -/
def zm_fl (h : zm_M) (q n : Nat) (v : Int32) : zm_M := (fun b j => if b = q ∧ j < n then v else h.1 b j, h.2)
theorem zm_fl_0 (h : zm_M) (q : Nat) (v : Int32) : zm_fl h q 0 v = h := by
  unfold zm_fl
  simp
theorem zm_fl_s (h : zm_M) (q n : Nat) (v : Int32) : zm_si (zm_fl h q n v) q n v = zm_fl h q (n + 1) v := by
  unfold zm_fl zm_si
  congr 1
  funext b j
  by_cases hb : b = q
  · subst hb
    by_cases hj : j = n
    · subst hj
      simp
    · by_cases h2 : j < n
      · simp [hj, h2, show j < n + 1 by omega]
      · simp [hj, h2, show ¬ j < n + 1 by omega]
  · simp [hb]
set_option maxHeartbeats 4000000 in
set_option maxRecDepth 100000 in
theorem k_fill {d : Nat} {h : zm_M} {R : zm_R} {q n : Nat} {v : Int32} (hq : zm_sh TT q = (0, n)) (hn : n < 2 ^ 31) (hR : R none (zm_fl h q n v)) : zm_C (d + 1) TT m_JA_fill_53178 [.inr (some q), .inl v] h R := by
  have loop : ∀ (k i : Nat), i + k = n → zm_W (zm_md m_JA_fill_53178) (d + 1) TT R 5 [some (.inr (some q)), some (.inl v), some (.inl (nI i)), some (.inl (nI n))] [] (zm_fl h q i v) := by
    intro k
    induction k with
    | zero =>
      intro i hi
      have : i = n := by omega
      subst this
      refine zm_go g_JA_fill_53178 [5] 30 (by decide +kernel) ok_JA_fill_53178 _ rfl ?_
      simp only [↓zq, ↓reduceIte, zr_si2, zr_sr1, zr_cp2, zr_tl, zr_tn, shq, List.contains_nil, List.contains_cons, Nat.reduceBEq, Bool.false_or, Bool.or_false, Bool.true_or, Bool.false_eq_true, if_false, if_true, true_and, and_true, List.set_cons_zero, List.set_cons_succ, List.length_cons, List.length_nil, Nat.reduceAdd, Nat.reduceLeDiff, Nat.le_refl, Nat.zero_le, true_or, or_true, zn_cl, ↓jj_JA_fill_53178]
      exact ⟨fun _ => hR, fun z => absurd (Int32.le_refl _) z⟩
    | succ k ih =>
      intro i hi
      refine zm_go g_JA_fill_53178 [5] 30 (by decide +kernel) ok_JA_fill_53178 _ rfl ?_
      simp only [↓zq, ↓reduceIte, zr_si2, zr_sr1, zr_cp2, zr_tl, zr_tn, shq, List.contains_nil, List.contains_cons, Nat.reduceBEq, Bool.false_or, Bool.or_false, Bool.true_or, Bool.false_eq_true, if_false, if_true, true_and, and_true, List.set_cons_zero, List.set_cons_succ, List.length_cons, List.length_nil, Nat.reduceAdd, Nat.reduceLeDiff, Nat.le_refl, Nat.zero_le, true_or, or_true, zn_cl, ↓jj_JA_fill_53178, hq]
      refine ⟨fun z => absurd z (nI_ge (by omega) hn), fun _ => ⟨vp_in_nI (by omega) hn, ?_⟩⟩
      rw [nI_clamp (by omega), zm_fl_s, show nI i + 1 = nI (i + 1) from nI_1 i]
      exact ih (i + 1) (by omega)
  refine st_JA_fill_53178 [5] 9 ?_
  simp only [↓zq, ↓reduceIte, zr_si2, zr_sr1, zr_cp2, zr_tl, zr_tn, shq, List.contains_nil, List.contains_cons, Nat.reduceBEq, Bool.false_or, Bool.or_false, Bool.true_or, Bool.false_eq_true, if_false, if_true, true_and, and_true, List.set_cons_zero, List.set_cons_succ, List.length_cons, List.length_nil, Nat.reduceAdd, Nat.reduceLeDiff, Nat.le_refl, Nat.zero_le, true_or, or_true, zn_cl, ↓jj_JA_fill_53178, hq]
  have := loop n 0 (by omega)
  rw [zm_fl_0] at this
  exact this
/-- sides of which something is left out, or rolled up -/
def zs_lo (row q : Nat → Nat) : Nat := zs_bits (fun s => !decide (row (3 + s) &&& q (3 + s) = row (3 + s))) 3
def zs_ru (row q : Nat → Nat) : Nat := zs_bits (fun s => decide (row s < q s)) 3
set_option maxHeartbeats 4000000 in
set_option maxRecDepth 100000 in
theorem k_Cut_leftOutFor {d : Nat} {h : zm_M} {R : zm_R} {a b : Nat} {row q : Nat → Nat} (hka : zk_cut h.2 a) (hra : zc_R h.1 a row) (hwa : zw_R row) (hkb : zk_cut h.2 b) (hrb : zc_R h.1 b q) (hwb : zw_R q) (hR : R (some (.inl (nI (zs_lo row q)))) h) : zm_C (d + 3) TT m_Cut_leftOutFor [.inr (some a), .inr (some b)] h R := by
  have loop : ∀ (n i : Nat), i + n = 3 → zm_W (zm_md m_Cut_leftOutFor) (d + 3) TT R 4 [some (.inr (some a)), some (.inr (some b)), some (.inl (nI (zs_bits (fun s => !decide (row (3 + s) &&& q (3 + s) = row (3 + s))) i))), some (.inl (nI i))] [] h := by
    intro n
    induction n with
    | zero =>
      intro i hi
      have : i = 3 := by omega
      subst this
      refine zm_go g_Cut_leftOutFor [4] 30 (by decide +kernel) ok_Cut_leftOutFor _ rfl ?_
      simp only [↓zq, ↓reduceIte, zr_si2, zr_sr1, zr_cp2, zr_tl, zr_tn, shq, List.contains_nil, List.contains_cons, Nat.reduceBEq, Bool.false_or, Bool.or_false, Bool.true_or, Bool.false_eq_true, if_false, if_true, true_and, and_true, List.set_cons_zero, List.set_cons_succ, List.length_cons, List.length_nil, Nat.reduceAdd, Nat.reduceLeDiff, Nat.le_refl, Nat.zero_le, true_or, or_true, zn_cl, ↓jj_Cut_leftOutFor]
      exact ⟨fun _ => hR, fun z => absurd (Int32.le_refl _) z⟩
    | succ n ih =>
      intro i hi
      have hi3 : i < 3 := by omega
      obtain ⟨ra1, ra2⟩ := zc_R_lev hra hi3
      obtain ⟨rb1, rb2⟩ := zc_R_lev hrb hi3
      obtain ⟨wa1, wa2⟩ := zw_R_at hwa hi3
      refine zm_go g_Cut_leftOutFor [4] 30 (by decide +kernel) ok_Cut_leftOutFor _ rfl ?_
      simp only [↓zq, ↓reduceIte, zr_si2, zr_sr1, zr_cp2, zr_tl, zr_tn, shq, List.contains_nil, List.contains_cons, Nat.reduceBEq, Bool.false_or, Bool.or_false, Bool.true_or, Bool.false_eq_true, if_false, if_true, true_and, and_true, List.set_cons_zero, List.set_cons_succ, List.length_cons, List.length_nil, Nat.reduceAdd, Nat.reduceLeDiff, Nat.le_refl, Nat.zero_le, true_or, or_true, zn_cl, ↓jj_Cut_leftOutFor, hka.1, hkb.1]
      refine ⟨fun z => absurd z (nI_ge (b := 3) hi3 (by decide)), fun _ => ?_⟩
      refine k_Cut_letsOf hka hi3 ?_
      simp only [↓zq, ↓reduceIte, zr_si2, zr_sr1, zr_cp2, zr_tl, zr_tn, shq, List.contains_nil, List.contains_cons, Nat.reduceBEq, Bool.false_or, Bool.or_false, Bool.true_or, Bool.false_eq_true, if_false, if_true, true_and, and_true, List.set_cons_zero, List.set_cons_succ, List.length_cons, List.length_nil, Nat.reduceAdd, Nat.reduceLeDiff, Nat.le_refl, Nat.zero_le, true_or, or_true, zn_cl, ↓jj_Cut_leftOutFor, hka.1, hkb.1]
      refine k_Cut_letsOf hkb hi3 ?_
      simp only [↓zq, ↓reduceIte, zr_si2, zr_sr1, zr_cp2, zr_tl, zr_tn, shq, List.contains_nil, List.contains_cons, Nat.reduceBEq, Bool.false_or, Bool.or_false, Bool.true_or, Bool.false_eq_true, if_false, if_true, true_and, and_true, List.set_cons_zero, List.set_cons_succ, List.length_cons, List.length_nil, Nat.reduceAdd, Nat.reduceLeDiff, Nat.le_refl, Nat.zero_le, true_or, or_true, zn_cl, ↓jj_Cut_leftOutFor, hka.1, hkb.1, ra2, rb2, zn_andn]
      have l1 := zn_andlt (q (3 + i)) wa2
      have l2 := zn_xlt l1 wa2
      have hb := zs_bits_lt (fun s => !decide (row (3 + s) &&& q (3 + s) = row (3 + s))) i
      rw [zn_z (by omega), zn_xz, zn_or8 i (by omega) _ hb, show nI i + 1 = nI (i + 1) from nI_1 i]
      have ih := ih (i + 1) (by omega)
      rw [zs_bits] at ih
      refine ⟨fun z => ?_, fun z => ?_⟩
      · rw [if_neg (by simp [z])] at ih
        exact ih
      · rw [if_pos (by simp [z])] at ih
        exact ih
  refine st_Cut_leftOutFor [4] 9 ?_
  simp only [↓zq, ↓reduceIte, zr_si2, zr_sr1, zr_cp2, zr_tl, zr_tn, shq, List.contains_nil, List.contains_cons, Nat.reduceBEq, Bool.false_or, Bool.or_false, Bool.true_or, Bool.false_eq_true, if_false, if_true, true_and, and_true, List.set_cons_zero, List.set_cons_succ, List.length_cons, List.length_nil, Nat.reduceAdd, Nat.reduceLeDiff, Nat.le_refl, Nat.zero_le, true_or, or_true, zn_cl, ↓jj_Cut_leftOutFor]
  exact loop 3 0 rfl
set_option maxHeartbeats 4000000 in
set_option maxRecDepth 100000 in
theorem k_Cut_rolledUpFor {d : Nat} {h : zm_M} {R : zm_R} {a b : Nat} {row q : Nat → Nat} (hka : zk_cut h.2 a) (hra : zc_R h.1 a row) (hwa : zw_R row) (hkb : zk_cut h.2 b) (hrb : zc_R h.1 b q) (hwb : zw_R q) (hR : R (some (.inl (nI (zs_ru row q)))) h) : zm_C (d + 3) TT m_Cut_rolledUpFor [.inr (some a), .inr (some b)] h R := by
  have loop : ∀ (n i : Nat), i + n = 3 → zm_W (zm_md m_Cut_rolledUpFor) (d + 3) TT R 4 [some (.inr (some a)), some (.inr (some b)), some (.inl (nI (zs_bits (fun s => decide (row s < q s)) i))), some (.inl (nI i))] [] h := by
    intro n
    induction n with
    | zero =>
      intro i hi
      have : i = 3 := by omega
      subst this
      refine zm_go g_Cut_rolledUpFor [4] 30 (by decide +kernel) ok_Cut_rolledUpFor _ rfl ?_
      simp only [↓zq, ↓reduceIte, zr_si2, zr_sr1, zr_cp2, zr_tl, zr_tn, shq, List.contains_nil, List.contains_cons, Nat.reduceBEq, Bool.false_or, Bool.or_false, Bool.true_or, Bool.false_eq_true, if_false, if_true, true_and, and_true, List.set_cons_zero, List.set_cons_succ, List.length_cons, List.length_nil, Nat.reduceAdd, Nat.reduceLeDiff, Nat.le_refl, Nat.zero_le, true_or, or_true, zn_cl, ↓jj_Cut_rolledUpFor]
      exact ⟨fun _ => hR, fun z => absurd (Int32.le_refl _) z⟩
    | succ n ih =>
      intro i hi
      have hi3 : i < 3 := by omega
      obtain ⟨ra1, ra2⟩ := zc_R_lev hra hi3
      obtain ⟨rb1, rb2⟩ := zc_R_lev hrb hi3
      obtain ⟨wa1, wa2⟩ := zw_R_at hwa hi3
      obtain ⟨wb1, wb2⟩ := zw_R_at hwb hi3
      refine zm_go g_Cut_rolledUpFor [4] 30 (by decide +kernel) ok_Cut_rolledUpFor _ rfl ?_
      simp only [↓zq, ↓reduceIte, zr_si2, zr_sr1, zr_cp2, zr_tl, zr_tn, shq, List.contains_nil, List.contains_cons, Nat.reduceBEq, Bool.false_or, Bool.or_false, Bool.true_or, Bool.false_eq_true, if_false, if_true, true_and, and_true, List.set_cons_zero, List.set_cons_succ, List.length_cons, List.length_nil, Nat.reduceAdd, Nat.reduceLeDiff, Nat.le_refl, Nat.zero_le, true_or, or_true, zn_cl, ↓jj_Cut_rolledUpFor, hka.1, hkb.1]
      refine ⟨fun z => absurd z (nI_ge (b := 3) hi3 (by decide)), fun _ => ?_⟩
      refine k_Cut_levelOf hka hi3 ?_
      simp only [↓zq, ↓reduceIte, zr_si2, zr_sr1, zr_cp2, zr_tl, zr_tn, shq, List.contains_nil, List.contains_cons, Nat.reduceBEq, Bool.false_or, Bool.or_false, Bool.true_or, Bool.false_eq_true, if_false, if_true, true_and, and_true, List.set_cons_zero, List.set_cons_succ, List.length_cons, List.length_nil, Nat.reduceAdd, Nat.reduceLeDiff, Nat.le_refl, Nat.zero_le, true_or, or_true, zn_cl, ↓jj_Cut_rolledUpFor, hka.1, hkb.1]
      refine k_Cut_levelOf hkb hi3 ?_
      simp only [↓zq, ↓reduceIte, zr_si2, zr_sr1, zr_cp2, zr_tl, zr_tn, shq, List.contains_nil, List.contains_cons, Nat.reduceBEq, Bool.false_or, Bool.or_false, Bool.true_or, Bool.false_eq_true, if_false, if_true, true_and, and_true, List.set_cons_zero, List.set_cons_succ, List.length_cons, List.length_nil, Nat.reduceAdd, Nat.reduceLeDiff, Nat.le_refl, Nat.zero_le, true_or, or_true, zn_cl, ↓jj_Cut_rolledUpFor, hka.1, hkb.1, ra1, rb1]
      have hb := zs_bits_lt (fun s => decide (row s < q s)) i
      rw [zn_le (by omega) (by omega), zn_or8 i (by omega) _ hb, show nI i + 1 = nI (i + 1) from nI_1 i]
      have ih := ih (i + 1) (by omega)
      rw [zs_bits] at ih
      refine ⟨fun z => ?_, fun z => ?_⟩
      · rw [if_neg (by simp; omega)] at ih
        exact ih
      · rw [if_pos (by simp; omega)] at ih
        exact ih
  refine st_Cut_rolledUpFor [4] 9 ?_
  simp only [↓zq, ↓reduceIte, zr_si2, zr_sr1, zr_cp2, zr_tl, zr_tn, shq, List.contains_nil, List.contains_cons, Nat.reduceBEq, Bool.false_or, Bool.or_false, Bool.true_or, Bool.false_eq_true, if_false, if_true, true_and, and_true, List.set_cons_zero, List.set_cons_succ, List.length_cons, List.length_nil, Nat.reduceAdd, Nat.reduceLeDiff, Nat.le_refl, Nat.zero_le, true_or, or_true, zn_cl, ↓jj_Cut_rolledUpFor]
  exact loop 3 0 rfl
/-- the number of a side in a key -/
def zs_dig (key s : Nat) : Nat := key / 8 ^ (2 - s) % 8
theorem zs_dig_lt (key s : Nat) : zs_dig key s < 8 := Nat.mod_lt _ (by decide)
def zs_lie1 (sp row q : Nat → Nat) (key s : Nat) : Bool := !decide (zs_own sp s (row s) (row (3 + s)) (zs_dig key s) &&& q (3 + s) = 0)
/-- a group of row lies in the spans of q -/
def zs_lies (sp row q : Nat → Nat) (key : Nat) : Bool := (List.range 3).all (zs_lie1 sp row q key)
set_option maxHeartbeats 4000000 in
set_option maxRecDepth 100000 in
theorem k_Cut_liesIn {d : Nat} {h : zm_M} {R : zm_R} {a b c key : Nat} {sp row q : Nat → Nat} (hkey : key < 512) (hka : zk_cut h.2 a) (hra : zc_R h.1 a row) (hwa : zw_R row) (hkb : zk_cut h.2 b) (hrb : zc_R h.1 b q) (hwb : zw_R q) (hkc : zk_shp h.2 c) (hsp : ∀ v, v < 24 → h.1 (c + 1) v = nI (sp v)) (hw : zw_S sp) (hR : R (some (.inl (if zs_lies sp row q key = true then 1 else 0))) h) : zm_C (d + 4) TT m_Cut_liesIn [.inr (some a), .inl (nI key), .inr (some b), .inr (some c)] h R := by
  have loop : ∀ (n i : Nat), i + n = 3 → (∀ k, k < i → zs_lie1 sp row q key k = true) → ∀ o1 o2, zm_W (zm_md m_Cut_liesIn) (d + 4) TT R 3 [some (.inr (some a)), some (.inl (nI key)), some (.inr (some b)), some (.inr (some c)), some (.inl (nI i)), o1, o2] [] h := by
    intro n
    induction n with
    | zero =>
      intro i hi hall o1 o2
      have : i = 3 := by omega
      subst this
      refine zm_go g_Cut_liesIn [3] 30 (by decide +kernel) ok_Cut_liesIn _ rfl ?_
      simp only [↓zq, ↓reduceIte, zr_si2, zr_sr1, zr_cp2, zr_tl, zr_tn, shq, List.contains_nil, List.contains_cons, Nat.reduceBEq, Bool.false_or, Bool.or_false, Bool.true_or, Bool.false_eq_true, if_false, if_true, true_and, and_true, List.set_cons_zero, List.set_cons_succ, List.length_cons, List.length_nil, Nat.reduceAdd, Nat.reduceLeDiff, Nat.le_refl, Nat.zero_le, true_or, or_true, zn_cl, ↓jj_Cut_liesIn]
      refine ⟨fun _ => ?_, fun z => absurd (Int32.le_refl _) z⟩
      rw [if_pos] at hR
      · exact hR
      · unfold zs_lies
        simp only [List.all_eq_true, List.mem_range]
        exact hall
    | succ n ih =>
      intro i hi hall o1 o2
      have hi3 : i < 3 := by omega
      obtain ⟨ra1, ra2⟩ := zc_R_lev hra hi3
      obtain ⟨rb1, rb2⟩ := zc_R_lev hrb hi3
      obtain ⟨wa1, wa2⟩ := zw_R_at hwa hi3
      refine zm_go g_Cut_liesIn [3] 30 (by decide +kernel) ok_Cut_liesIn _ rfl ?_
      simp only [↓zq, ↓reduceIte, zr_si2, zr_sr1, zr_cp2, zr_tl, zr_tn, shq, List.contains_nil, List.contains_cons, Nat.reduceBEq, Bool.false_or, Bool.or_false, Bool.true_or, Bool.false_eq_true, if_false, if_true, true_and, and_true, List.set_cons_zero, List.set_cons_succ, List.length_cons, List.length_nil, Nat.reduceAdd, Nat.reduceLeDiff, Nat.le_refl, Nat.zero_le, true_or, or_true, zn_cl, ↓jj_Cut_liesIn, hka.1, hkb.1, hkc.1]
      refine ⟨fun z => absurd z (nI_ge (b := 3) hi3 (by decide)), fun _ => ?_⟩
      refine k_KS_numberIn hkey hi3 ?_
      simp only [↓zq, ↓reduceIte, zr_si2, zr_sr1, zr_cp2, zr_tl, zr_tn, shq, List.contains_nil, List.contains_cons, Nat.reduceBEq, Bool.false_or, Bool.or_false, Bool.true_or, Bool.false_eq_true, if_false, if_true, true_and, and_true, List.set_cons_zero, List.set_cons_succ, List.length_cons, List.length_nil, Nat.reduceAdd, Nat.reduceLeDiff, Nat.le_refl, Nat.zero_le, true_or, or_true, zn_cl, ↓jj_Cut_liesIn, hka.1, hkb.1, hkc.1]
      refine k_Cut_levelOf hka hi3 ?_
      simp only [↓zq, ↓reduceIte, zr_si2, zr_sr1, zr_cp2, zr_tl, zr_tn, shq, List.contains_nil, List.contains_cons, Nat.reduceBEq, Bool.false_or, Bool.or_false, Bool.true_or, Bool.false_eq_true, if_false, if_true, true_and, and_true, List.set_cons_zero, List.set_cons_succ, List.length_cons, List.length_nil, Nat.reduceAdd, Nat.reduceLeDiff, Nat.le_refl, Nat.zero_le, true_or, or_true, zn_cl, ↓jj_Cut_liesIn, hka.1, hkb.1, hkc.1, ra1]
      refine k_Shape_valuesWithin (lo := zs_dig key i) (hi := zs_dig key i) hkc hw hsp hi3 wa1 (zs_dig_lt _ _) (zs_dig_lt _ _) ?_
      simp only [↓zq, ↓reduceIte, zr_si2, zr_sr1, zr_cp2, zr_tl, zr_tn, shq, List.contains_nil, List.contains_cons, Nat.reduceBEq, Bool.false_or, Bool.or_false, Bool.true_or, Bool.false_eq_true, if_false, if_true, true_and, and_true, List.set_cons_zero, List.set_cons_succ, List.length_cons, List.length_nil, Nat.reduceAdd, Nat.reduceLeDiff, Nat.le_refl, Nat.zero_le, true_or, or_true, zn_cl, ↓jj_Cut_liesIn, hka.1, hkb.1, hkc.1]
      refine k_Cut_letsOf hka hi3 ?_
      simp only [↓zq, ↓reduceIte, zr_si2, zr_sr1, zr_cp2, zr_tl, zr_tn, shq, List.contains_nil, List.contains_cons, Nat.reduceBEq, Bool.false_or, Bool.or_false, Bool.true_or, Bool.false_eq_true, if_false, if_true, true_and, and_true, List.set_cons_zero, List.set_cons_succ, List.length_cons, List.length_nil, Nat.reduceAdd, Nat.reduceLeDiff, Nat.le_refl, Nat.zero_le, true_or, or_true, zn_cl, ↓jj_Cut_liesIn, hka.1, hkb.1, hkc.1, ra2, zn_and]
      refine k_Cut_letsOf hkb hi3 ?_
      simp only [↓zq, ↓reduceIte, zr_si2, zr_sr1, zr_cp2, zr_tl, zr_tn, shq, List.contains_nil, List.contains_cons, Nat.reduceBEq, Bool.false_or, Bool.or_false, Bool.true_or, Bool.false_eq_true, if_false, if_true, true_and, and_true, List.set_cons_zero, List.set_cons_succ, List.length_cons, List.length_nil, Nat.reduceAdd, Nat.reduceLeDiff, Nat.le_refl, Nat.zero_le, true_or, or_true, zn_cl, ↓jj_Cut_liesIn, hka.1, hkb.1, hkc.1, rb2, zn_and]
      have eo : zs_bits (fun v => decide (zs_dig key i ≤ zs_num sp i (row i) v ∧ zs_num sp i (row i) v ≤ zs_dig key i)) 8 &&& row (3 + i) = zs_own sp i (row i) (row (3 + i)) (zs_dig key i) := by
        rw [zs_bits_and]
        unfold zs_own
        congr 1
        funext v
        congr 1
        rw [decide_eq_decide]
        omega
      rw [eo]
      have lo2 := zn_andlt (q (3 + i)) (zs_own_lt sp i (row i) (row (3 + i)) (zs_dig key i))
      rw [zn_z (by omega), show nI i + 1 = nI (i + 1) from nI_1 i]
      refine ⟨fun z => ih (i + 1) (by omega) (fun k hk => ?_) _ _, fun z => ?_⟩
      · rcases (show k < i ∨ k = i by omega) with e | e
        · exact hall k e
        · rw [e]; simp [zs_lie1, z]
      · rw [if_neg] at hR
        · exact hR
        · intro zz
          unfold zs_lies at zz
          simp only [List.all_eq_true, List.mem_range] at zz
          have := zz i hi3
          simp [zs_lie1, z] at this
  refine st_Cut_liesIn [3] 30 ?_
  simp only [↓zq, ↓reduceIte, zr_si2, zr_sr1, zr_cp2, zr_tl, zr_tn, shq, List.contains_nil, List.contains_cons, Nat.reduceBEq, Bool.false_or, Bool.or_false, Bool.true_or, Bool.false_eq_true, if_false, if_true, true_and, and_true, List.set_cons_zero, List.set_cons_succ, List.length_cons, List.length_nil, Nat.reduceAdd, Nat.reduceLeDiff, Nat.le_refl, Nat.zero_le, true_or, or_true, zn_cl, ↓jj_Cut_liesIn]
  exact loop 3 0 rfl (fun k hk => absurd hk (Nat.not_lt_zero k)) none none
/-- the number into which one of a summary's goes -/
def zs_rn (sp row q : Nat → Nat) (key s : Nat) : Nat := if row s = q s then zs_dig key s else if row s = 0 then zs_num sp s (q s) (zs_dig key s) else 0
def zs_rk (sp row q : Nat → Nat) (key : Nat) : Nat := 64 * zs_rn sp row q key 0 + 8 * zs_rn sp row q key 1 + zs_rn sp row q key 2
theorem zs_rn_lt {sp : Nat → Nat} (hw : zw_S sp) {row q : Nat → Nat} {key s : Nat} (hs : s < 3) : zs_rn sp row q key s < 8 := by
  unfold zs_rn
  split
  · exact zs_dig_lt _ _
  · split
    · exact zs_num_lt hw hs (zs_dig_lt _ _)
    · decide
set_option maxHeartbeats 4000000 in
set_option maxRecDepth 100000 in
theorem k_Cut_rolledNumber {d : Nat} {h : zm_M} {R : zm_R} {a b c key s : Nat} {sp row q : Nat → Nat} (hs : s < 3) (hkey : key < 512) (hka : zk_cut h.2 a) (hra : zc_R h.1 a row) (hwa : zw_R row) (hkb : zk_cut h.2 b) (hrb : zc_R h.1 b q) (hwb : zw_R q) (hkc : zk_shp h.2 c) (hsp : ∀ v, v < 24 → h.1 (c + 1) v = nI (sp v)) (hR : R (some (.inl (nI (zs_rn sp row q key s)))) h) : zm_C (d + 3) TT m_Cut_rolledNumber [.inr (some a), .inl (nI s), .inl (nI key), .inr (some b), .inr (some c)] h R := by
  obtain ⟨ra1, ra2⟩ := zc_R_lev hra hs
  obtain ⟨rb1, rb2⟩ := zc_R_lev hrb hs
  obtain ⟨wa1, wa2⟩ := zw_R_at hwa hs
  obtain ⟨wb1, wb2⟩ := zw_R_at hwb hs
  refine st_Cut_rolledNumber [] 30 ?_
  simp only [↓zq, ↓reduceIte, zr_si2, zr_sr1, zr_cp2, zr_tl, zr_tn, shq, List.contains_nil, List.contains_cons, Nat.reduceBEq, Bool.false_or, Bool.or_false, Bool.true_or, Bool.false_eq_true, if_false, if_true, true_and, and_true, List.set_cons_zero, List.set_cons_succ, List.length_cons, List.length_nil, Nat.reduceAdd, Nat.reduceLeDiff, Nat.le_refl, Nat.zero_le, true_or, or_true, zn_cl, ↓jj_Cut_rolledNumber, hka.1, hkb.1, hkc.1]
  refine k_KS_numberIn hkey hs ?_
  simp only [↓zq, ↓reduceIte, zr_si2, zr_sr1, zr_cp2, zr_tl, zr_tn, shq, List.contains_nil, List.contains_cons, Nat.reduceBEq, Bool.false_or, Bool.or_false, Bool.true_or, Bool.false_eq_true, if_false, if_true, true_and, and_true, List.set_cons_zero, List.set_cons_succ, List.length_cons, List.length_nil, Nat.reduceAdd, Nat.reduceLeDiff, Nat.le_refl, Nat.zero_le, true_or, or_true, zn_cl, ↓jj_Cut_rolledNumber, hka.1, hkb.1, hkc.1]
  refine k_Cut_levelOf hkb hs ?_
  simp only [↓zq, ↓reduceIte, zr_si2, zr_sr1, zr_cp2, zr_tl, zr_tn, shq, List.contains_nil, List.contains_cons, Nat.reduceBEq, Bool.false_or, Bool.or_false, Bool.true_or, Bool.false_eq_true, if_false, if_true, true_and, and_true, List.set_cons_zero, List.set_cons_succ, List.length_cons, List.length_nil, Nat.reduceAdd, Nat.reduceLeDiff, Nat.le_refl, Nat.zero_le, true_or, or_true, zn_cl, ↓jj_Cut_rolledNumber, hka.1, hkb.1, hkc.1]
  refine k_Cut_levelOf hka hs ?_
  simp only [↓zq, ↓reduceIte, zr_si2, zr_sr1, zr_cp2, zr_tl, zr_tn, shq, List.contains_nil, List.contains_cons, Nat.reduceBEq, Bool.false_or, Bool.or_false, Bool.true_or, Bool.false_eq_true, if_false, if_true, true_and, and_true, List.set_cons_zero, List.set_cons_succ, List.length_cons, List.length_nil, Nat.reduceAdd, Nat.reduceLeDiff, Nat.le_refl, Nat.zero_le, true_or, or_true, zn_cl, ↓jj_Cut_rolledNumber, hka.1, hkb.1, hkc.1, ra1, rb1]
  rw [zn_eq (by omega) (by omega)]
  unfold zs_rn at hR
  refine ⟨fun z => ?_, fun z => ?_⟩
  · refine k_Cut_levelOf hka hs ?_
    simp only [↓zq, ↓reduceIte, zr_si2, zr_sr1, zr_cp2, zr_tl, zr_tn, shq, List.contains_nil, List.contains_cons, Nat.reduceBEq, Bool.false_or, Bool.or_false, Bool.true_or, Bool.false_eq_true, if_false, if_true, true_and, and_true, List.set_cons_zero, List.set_cons_succ, List.length_cons, List.length_nil, Nat.reduceAdd, Nat.reduceLeDiff, Nat.le_refl, Nat.zero_le, true_or, or_true, zn_cl, ↓jj_Cut_rolledNumber, hka.1, hkb.1, hkc.1, ra1, rb1]
    rw [zn_z (by omega)]
    rw [if_neg z] at hR
    refine ⟨fun z2 => ?_, fun z2 => ?_⟩
    · rw [if_neg z2] at hR
      exact hR
    · rw [if_pos z2] at hR
      refine k_Shape_numberOf hkc hsp hs wb1 (zs_dig_lt _ _) ?_
      simp only [↓zq, ↓reduceIte, zr_si2, zr_sr1, zr_cp2, zr_tl, zr_tn, shq, List.contains_nil, List.contains_cons, Nat.reduceBEq, Bool.false_or, Bool.or_false, Bool.true_or, Bool.false_eq_true, if_false, if_true, true_and, and_true, List.set_cons_zero, List.set_cons_succ, List.length_cons, List.length_nil, Nat.reduceAdd, Nat.reduceLeDiff, Nat.le_refl, Nat.zero_le, true_or, or_true, zn_cl, ↓jj_Cut_rolledNumber, hka.1, hkb.1, hkc.1]
      exact hR
  · rw [if_pos z] at hR
    exact hR
set_option maxHeartbeats 4000000 in
set_option maxRecDepth 100000 in
theorem k_Cut_rolledKey {d : Nat} {h : zm_M} {R : zm_R} {a b c key : Nat} {sp row q : Nat → Nat} (hkey : key < 512) (hka : zk_cut h.2 a) (hra : zc_R h.1 a row) (hwa : zw_R row) (hkb : zk_cut h.2 b) (hrb : zc_R h.1 b q) (hwb : zw_R q) (hkc : zk_shp h.2 c) (hsp : ∀ v, v < 24 → h.1 (c + 1) v = nI (sp v)) (hw : zw_S sp) (hR : R (some (.inl (nI (zs_rk sp row q key)))) h) : zm_C (d + 4) TT m_Cut_rolledKey [.inr (some a), .inl (nI key), .inr (some b), .inr (some c)] h R := by
  refine st_Cut_rolledKey [] 30 ?_
  simp only [↓zq, ↓reduceIte, zr_si2, zr_sr1, zr_cp2, zr_tl, zr_tn, shq, List.contains_nil, List.contains_cons, Nat.reduceBEq, Bool.false_or, Bool.or_false, Bool.true_or, Bool.false_eq_true, if_false, if_true, true_and, and_true, List.set_cons_zero, List.set_cons_succ, List.length_cons, List.length_nil, Nat.reduceAdd, Nat.reduceLeDiff, Nat.le_refl, Nat.zero_le, true_or, or_true, zn_cl, ↓jj_Cut_rolledKey, hka.1]
  refine k_Cut_rolledNumber (s := 0) (by decide) hkey hka hra hwa hkb hrb hwb hkc hsp ?_
  simp only [↓zq, ↓reduceIte, zr_si2, zr_sr1, zr_cp2, zr_tl, zr_tn, shq, List.contains_nil, List.contains_cons, Nat.reduceBEq, Bool.false_or, Bool.or_false, Bool.true_or, Bool.false_eq_true, if_false, if_true, true_and, and_true, List.set_cons_zero, List.set_cons_succ, List.length_cons, List.length_nil, Nat.reduceAdd, Nat.reduceLeDiff, Nat.le_refl, Nat.zero_le, true_or, or_true, zn_cl, ↓jj_Cut_rolledKey, hka.1]
  refine k_Cut_rolledNumber (s := 1) (by decide) hkey hka hra hwa hkb hrb hwb hkc hsp ?_
  simp only [↓zq, ↓reduceIte, zr_si2, zr_sr1, zr_cp2, zr_tl, zr_tn, shq, List.contains_nil, List.contains_cons, Nat.reduceBEq, Bool.false_or, Bool.or_false, Bool.true_or, Bool.false_eq_true, if_false, if_true, true_and, and_true, List.set_cons_zero, List.set_cons_succ, List.length_cons, List.length_nil, Nat.reduceAdd, Nat.reduceLeDiff, Nat.le_refl, Nat.zero_le, true_or, or_true, zn_cl, ↓jj_Cut_rolledKey, hka.1]
  refine k_Cut_rolledNumber (s := 2) (by decide) hkey hka hra hwa hkb hrb hwb hkc hsp ?_
  simp only [↓zq, ↓reduceIte, zr_si2, zr_sr1, zr_cp2, zr_tl, zr_tn, shq, List.contains_nil, List.contains_cons, Nat.reduceBEq, Bool.false_or, Bool.or_false, Bool.true_or, Bool.false_eq_true, if_false, if_true, true_and, and_true, List.set_cons_zero, List.set_cons_succ, List.length_cons, List.length_nil, Nat.reduceAdd, Nat.reduceLeDiff, Nat.le_refl, Nat.zero_le, true_or, or_true, zn_cl, ↓jj_Cut_rolledKey, hka.1]
  refine k_KS_tripleOf (zs_rn_lt hw (by decide)) (zs_rn_lt hw (by decide)) (zs_rn_lt hw (by decide)) ?_
  simp only [↓zq, ↓reduceIte, zr_si2, zr_sr1, zr_cp2, zr_tl, zr_tn, shq, List.contains_nil, List.contains_cons, Nat.reduceBEq, Bool.false_or, Bool.or_false, Bool.true_or, Bool.false_eq_true, if_false, if_true, true_and, and_true, List.set_cons_zero, List.set_cons_succ, List.length_cons, List.length_nil, Nat.reduceAdd, Nat.reduceLeDiff, Nat.le_refl, Nat.zero_le, true_or, or_true, zn_cl, ↓jj_Cut_rolledKey, hka.1]
  exact hR
