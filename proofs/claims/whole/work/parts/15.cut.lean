/-! bits of numbers -/
theorem zn_and (x y : Nat) : nI x &&& nI y = nI (x &&& y) := by
  apply Int32.toBitVec_inj.mp
  simp only [Int32.toBitVec_and, nI, Int32.toBitVec_ofNat', BitVec.ofNat_and]
theorem zn_xor (x y : Nat) : nI x ^^^ nI y = nI (x ^^^ y) := by
  apply Int32.toBitVec_inj.mp
  simp only [Int32.toBitVec_xor, nI, Int32.toBitVec_ofNat', BitVec.ofNat_xor]
theorem zn_or (x y : Nat) : nI x ||| nI y = nI (x ||| y) := by
  apply Int32.toBitVec_inj.mp
  simp only [Int32.toBitVec_or, nI, Int32.toBitVec_ofNat', BitVec.ofNat_or]
theorem zn_andn (x y : Nat) : nI x &&& (nI y ^^^ -1) = nI ((x &&& y) ^^^ x) := by
  rw [← zn_xor, ← zn_and]
  apply Int32.toBitVec_inj.mp
  simp only [Int32.toBitVec_and, Int32.toBitVec_xor]
  ext i hi
  simp only [BitVec.getElem_and, BitVec.getElem_xor]
  have : ((-1 : Int32).toBitVec)[i] = true := by
    rw [show (-1 : Int32).toBitVec = BitVec.allOnes 32 from rfl, BitVec.getElem_allOnes]
  rw [this]
  cases ((nI x).toBitVec)[i] <;> cases ((nI y).toBitVec)[i] <;> rfl
theorem zn_xz (a b : Nat) : a ^^^ b = 0 ↔ a = b := by
  constructor
  · intro h
    have : a ^^^ b ^^^ b = 0 ^^^ b := by rw [h]
    rw [Nat.xor_assoc, Nat.xor_self, Nat.xor_zero, Nat.zero_xor] at this
    exact this
  · intro h
    rw [h, Nat.xor_self]
theorem zn_andlt {x : Nat} (y : Nat) (h : x < 256) : x &&& y < 256 := Nat.lt_of_le_of_lt Nat.and_le_left h
theorem zn_xlt {x y : Nat} (hx : x < 256) (hy : y < 256) : x ^^^ y < 256 := Nat.xor_lt_two_pow (n := 8) hx hy
theorem zs_bits_tb (p : Nat → Bool) : ∀ n v, (zs_bits p n).testBit v = (decide (v < n) && p v)
  | 0, v => by simp [zs_bits]
  | n + 1, v => by
    have hl := zs_bits_lt p n
    have ih := zs_bits_tb p n v
    rw [zs_bits]
    by_cases hp : p n = true
    · rw [if_pos hp, Nat.add_comm, show 2 ^ n + zs_bits p n = 2 ^ n * 1 + zs_bits p n by omega, Nat.two_pow_add_eq_or_of_lt hl, Nat.mul_one, Nat.testBit_or, ih, Nat.testBit_two_pow]
      by_cases hv : n = v
      · subst hv; simp [hp]
      · by_cases h2 : v < n
        · simp [hv, h2]; omega
        · simp [hv, h2]; omega
    · rw [if_neg hp, Nat.add_zero, ih]
      by_cases hv : n = v
      · subst hv; simp [hp]
      · by_cases h2 : v < n
        · simp [h2]; omega
        · simp [h2]; omega
theorem zs_bits_and (p : Nat → Bool) (x : Nat) : zs_bits p 8 &&& x = zs_bits (fun v => x.testBit v && p v) 8 := by
  apply Nat.eq_of_testBit_eq
  intro v
  rw [Nat.testBit_and, zs_bits_tb, zs_bits_tb]
  cases decide (v < 8) <;> cases p v <;> cases x.testBit v <;> rfl
/-! covering -/
/-- values of a number that are let -/
def zs_own (sp : Nat → Nat) (side lev lets n : Nat) : Nat := zs_bits (fun v => lets.testBit v && decide (zs_num sp side lev v = n)) 8
theorem zs_own_lt (sp : Nat → Nat) (side lev lets n : Nat) : zs_own sp side lev lets n < 256 := zs_bits_lt _ 8
def zs_whl (sp : Nat → Nat) (side lev lets ql : Nat) (n : Nat) : Bool := decide (zs_own sp side lev lets n &&& ql = 0) || decide (zs_own sp side lev lets n &&& ql = zs_own sp side lev lets n)
def zs_cov1 (sp : Nat → Nat) (row q : Nat → Nat) (side : Nat) : Bool := decide (row side ≤ q side) && decide (q (3 + side) &&& row (3 + side) = q (3 + side)) && (List.range 8).all (zs_whl sp side (row side) (row (3 + side)) (q (3 + side)))
def zs_pf (w : Nat) : Nat := if w = 4 then 3 else if w < 4 then 2 ^ w else 16
def zs_covS (sp row q : Nat → Nat) : Bool := zs_cov1 sp row q 0 && zs_cov1 sp row q 1 && zs_cov1 sp row q 2
def zs_cov (sp row q : Nat → Nat) : Bool := decide (row 6 &&& zs_pf (q 6) = zs_pf (q 6)) && zs_covS sp row q
theorem zc_R_lev {I : Nat → Nat → Int32} {a : Nat} {row : Nat → Nat} (h : zc_R I a row) {s : Nat} (hs : s < 3) : I (a + 1) s = nI (row s) ∧ I (a + 2) s = nI (row (3 + s)) := by
  obtain ⟨r0, r1, r2, r3, r4, r5⟩ := h
  rcases (show s = 0 ∨ s = 1 ∨ s = 2 by omega) with rfl | rfl | rfl
  · exact ⟨r0, r3⟩
  · exact ⟨r1, r4⟩
  · exact ⟨r2, r5⟩
theorem zw_R_at {row : Nat → Nat} (h : zw_R row) {s : Nat} (hs : s < 3) : row s ≤ 2 ∧ row (3 + s) < 256 := by
  obtain ⟨r0, r1, r2, r3, r4, r5⟩ := h
  rcases (show s = 0 ∨ s = 1 ∨ s = 2 by omega) with rfl | rfl | rfl
  · exact ⟨r0, r3⟩
  · exact ⟨r1, r4⟩
  · exact ⟨r2, r5⟩
set_option maxHeartbeats 4000000 in
set_option maxRecDepth 100000 in
theorem k_Cut_keepsAll {d : Nat} {h : zm_M} {R : zm_R} {a k p : Nat} (hc : (zm_sh TT a).1 = 3) (hk : h.1 a 2 = nI k) (hk2 : k < 256) (hp : p < 256) (hR : R (some (.inl (if k &&& p = p then 1 else 0))) h) : zm_C (d + 1) TT m_Cut_keepsAll [.inr (some a), .inl (nI p)] h R := by
  refine st_Cut_keepsAll [] 9 ?_
  simp only [↓zq, ↓reduceIte, zr_si2, zr_sr1, zr_cp2, zr_tl, zr_tn, shq, List.contains_nil, List.contains_cons, Nat.reduceBEq, Bool.false_or, Bool.or_false, Bool.true_or, Bool.false_eq_true, if_false, if_true, true_and, and_true, List.set_cons_zero, List.set_cons_succ, List.length_cons, List.length_nil, Nat.reduceAdd, Nat.reduceLeDiff, Nat.le_refl, Nat.zero_le, true_or, or_true, zn_cl, ↓jj_Cut_keepsAll, hc, hk, zn_and]
  rw [zn_eq (by have := zn_andlt p hk2; omega) (by omega)]
  refine ⟨fun q => ?_, fun q => ?_⟩
  · rw [if_neg q] at hR; exact hR
  · rw [if_pos q] at hR; exact hR
set_option maxHeartbeats 4000000 in
set_option maxRecDepth 100000 in
theorem k_Cut_coversSide {d : Nat} {h : zm_M} {R : zm_R} {a b c s : Nat} {sp row q : Nat → Nat} (hs : s < 3) (hka : zk_cut h.2 a) (hra : zc_R h.1 a row) (hwa : zw_R row) (hkb : zk_cut h.2 b) (hrb : zc_R h.1 b q) (hwb : zw_R q) (hkc : zk_shp h.2 c) (hsp : ∀ v, v < 24 → h.1 (c + 1) v = nI (sp v)) (hw : zw_S sp) (hR : R (some (.inl (if zs_cov1 sp row q s = true then 1 else 0))) h) : zm_C (d + 4) TT m_Cut_coversSide [.inr (some a), .inl (nI s), .inr (some b), .inr (some c)] h R := by
  obtain ⟨ra1, ra2⟩ := zc_R_lev hra hs
  obtain ⟨rb1, rb2⟩ := zc_R_lev hrb hs
  obtain ⟨wa1, wa2⟩ := zw_R_at hwa hs
  obtain ⟨wb1, wb2⟩ := zw_R_at hwb hs
  have loop : ∀ (n i : Nat), i + n = 8 → (∀ k, k < i → zs_whl sp s (row s) (row (3 + s)) (q (3 + s)) k = true) → row s ≤ q s → q (3 + s) &&& row (3 + s) = q (3 + s) → ∀ o1 o2, zm_W (zm_md m_Cut_coversSide) (d + 4) TT R 38 [some (.inr (some a)), some (.inl (nI s)), some (.inr (some b)), some (.inr (some c)), some (.inl (nI (row s))), some (.inl (nI i)), o1, o2] [] h := by
    intro n
    induction n with
    | zero =>
      intro i hi hall h1 h2 o1 o2
      have : i = 8 := by omega
      subst this
      refine zm_go g_Cut_coversSide [38] 30 (by decide +kernel) ok_Cut_coversSide _ rfl ?_
      simp only [↓zq, ↓reduceIte, zr_si2, zr_sr1, zr_cp2, zr_tl, zr_tn, shq, List.contains_nil, List.contains_cons, Nat.reduceBEq, Bool.false_or, Bool.or_false, Bool.true_or, Bool.false_eq_true, if_false, if_true, true_and, and_true, List.set_cons_zero, List.set_cons_succ, List.length_cons, List.length_nil, Nat.reduceAdd, Nat.reduceLeDiff, Nat.le_refl, Nat.zero_le, true_or, or_true, zn_cl, ↓jj_Cut_coversSide]
      refine ⟨fun _ => ?_, fun z => absurd (Int32.le_refl _) z⟩
      rw [if_pos] at hR
      · exact hR
      · unfold zs_cov1
        simp only [Bool.and_eq_true, decide_eq_true_eq, List.all_eq_true, List.mem_range]
        exact ⟨⟨h1, h2⟩, hall⟩
    | succ n ih =>
      intro i hi hall h1 h2 o1 o2
      refine zm_go g_Cut_coversSide [38] 30 (by decide +kernel) ok_Cut_coversSide _ rfl ?_
      simp only [↓zq, ↓reduceIte, zr_si2, zr_sr1, zr_cp2, zr_tl, zr_tn, shq, List.contains_nil, List.contains_cons, Nat.reduceBEq, Bool.false_or, Bool.or_false, Bool.true_or, Bool.false_eq_true, if_false, if_true, true_and, and_true, List.set_cons_zero, List.set_cons_succ, List.length_cons, List.length_nil, Nat.reduceAdd, Nat.reduceLeDiff, Nat.le_refl, Nat.zero_le, true_or, or_true, zn_cl, ↓jj_Cut_coversSide, hka.1, hkb.1, hkc.1]
      refine ⟨fun z => absurd z (nI_ge (b := 8) (by omega) (by decide)), fun _ => ?_⟩
      refine k_Shape_valuesWithin hkc hw hsp hs wa1 (by omega) (by omega) ?_
      simp only [↓zq, ↓reduceIte, zr_si2, zr_sr1, zr_cp2, zr_tl, zr_tn, shq, List.contains_nil, List.contains_cons, Nat.reduceBEq, Bool.false_or, Bool.or_false, Bool.true_or, Bool.false_eq_true, if_false, if_true, true_and, and_true, List.set_cons_zero, List.set_cons_succ, List.length_cons, List.length_nil, Nat.reduceAdd, Nat.reduceLeDiff, Nat.le_refl, Nat.zero_le, true_or, or_true, zn_cl, ↓jj_Cut_coversSide, hka.1, hkb.1, hkc.1]
      refine k_Cut_letsOf hka hs ?_
      simp only [↓zq, ↓reduceIte, zr_si2, zr_sr1, zr_cp2, zr_tl, zr_tn, shq, List.contains_nil, List.contains_cons, Nat.reduceBEq, Bool.false_or, Bool.or_false, Bool.true_or, Bool.false_eq_true, if_false, if_true, true_and, and_true, List.set_cons_zero, List.set_cons_succ, List.length_cons, List.length_nil, Nat.reduceAdd, Nat.reduceLeDiff, Nat.le_refl, Nat.zero_le, true_or, or_true, zn_cl, ↓jj_Cut_coversSide, hka.1, hkb.1, hkc.1, ra2, zn_and]
      refine k_Cut_letsOf hkb hs ?_
      simp only [↓zq, ↓reduceIte, zr_si2, zr_sr1, zr_cp2, zr_tl, zr_tn, shq, List.contains_nil, List.contains_cons, Nat.reduceBEq, Bool.false_or, Bool.or_false, Bool.true_or, Bool.false_eq_true, if_false, if_true, true_and, and_true, List.set_cons_zero, List.set_cons_succ, List.length_cons, List.length_nil, Nat.reduceAdd, Nat.reduceLeDiff, Nat.le_refl, Nat.zero_le, true_or, or_true, zn_cl, ↓jj_Cut_coversSide, hka.1, hkb.1, hkc.1, rb2, zn_and]
      have eo : zs_bits (fun v => decide (i ≤ zs_num sp s (row s) v ∧ zs_num sp s (row s) v ≤ i)) 8 &&& row (3 + s) = zs_own sp s (row s) (row (3 + s)) i := by
        rw [zs_bits_and]
        unfold zs_own
        congr 1
        funext v
        congr 1
        rw [decide_eq_decide]
        omega
      rw [eo]
      have lo := zs_own_lt sp s (row s) (row (3 + s)) i
      have lo2 := zn_andlt (q (3 + s)) lo
      have nx : nI i + 1 = nI (i + 1) := nI_1 i
      rw [zn_z (by omega), zn_eq (by omega) (by omega), nx]
      have ih := fun hh => ih (i + 1) (by omega) hh h1 h2
      have ext : zs_whl sp s (row s) (row (3 + s)) (q (3 + s)) i = true → ∀ k, k < i + 1 → zs_whl sp s (row s) (row (3 + s)) (q (3 + s)) k = true := fun z k hk => by
        rcases (show k < i ∨ k = i by omega) with e | e
        · exact hall k e
        · rw [e]; exact z
      refine ⟨fun z => ih (ext (by simp [zs_whl, z])) _ _, fun z => ⟨fun z2 => ih (ext (by simp [zs_whl, z2])) _ _, fun z2 => ?_⟩⟩
      rw [if_neg] at hR
      · exact hR
      · intro zz
        unfold zs_cov1 at zz
        simp only [Bool.and_eq_true, decide_eq_true_eq, List.all_eq_true, List.mem_range] at zz
        have := zz.2 i (by omega)
        simp only [zs_whl, Bool.or_eq_true, decide_eq_true_eq] at this
        exact this.elim z z2
  refine st_Cut_coversSide [38] 30 ?_
  simp only [↓zq, ↓reduceIte, zr_si2, zr_sr1, zr_cp2, zr_tl, zr_tn, shq, List.contains_nil, List.contains_cons, Nat.reduceBEq, Bool.false_or, Bool.or_false, Bool.true_or, Bool.false_eq_true, if_false, if_true, true_and, and_true, List.set_cons_zero, List.set_cons_succ, List.length_cons, List.length_nil, Nat.reduceAdd, Nat.reduceLeDiff, Nat.le_refl, Nat.zero_le, true_or, or_true, zn_cl, ↓jj_Cut_coversSide, hka.1, hkb.1, hkc.1]
  refine k_Cut_levelOf hka hs ?_
  simp only [↓zq, ↓reduceIte, zr_si2, zr_sr1, zr_cp2, zr_tl, zr_tn, shq, List.contains_nil, List.contains_cons, Nat.reduceBEq, Bool.false_or, Bool.or_false, Bool.true_or, Bool.false_eq_true, if_false, if_true, true_and, and_true, List.set_cons_zero, List.set_cons_succ, List.length_cons, List.length_nil, Nat.reduceAdd, Nat.reduceLeDiff, Nat.le_refl, Nat.zero_le, true_or, or_true, zn_cl, ↓jj_Cut_coversSide, hka.1, hkb.1, hkc.1]
  refine k_Cut_levelOf hkb hs ?_
  simp only [↓zq, ↓reduceIte, zr_si2, zr_sr1, zr_cp2, zr_tl, zr_tn, shq, List.contains_nil, List.contains_cons, Nat.reduceBEq, Bool.false_or, Bool.or_false, Bool.true_or, Bool.false_eq_true, if_false, if_true, true_and, and_true, List.set_cons_zero, List.set_cons_succ, List.length_cons, List.length_nil, Nat.reduceAdd, Nat.reduceLeDiff, Nat.le_refl, Nat.zero_le, true_or, or_true, zn_cl, ↓jj_Cut_coversSide, hka.1, hkb.1, hkc.1]
  rw [ra1, rb1, zn_lt (by omega) (by omega)]
  have no : ¬ (row s ≤ q s ∧ q (3 + s) &&& row (3 + s) = q (3 + s)) → R (some (.inl 0)) h := fun z => by
    rw [if_neg] at hR
    · exact hR
    · intro zz
      unfold zs_cov1 at zz
      simp only [Bool.and_eq_true, decide_eq_true_eq] at zz
      exact z zz.1
  refine ⟨fun z => no (by omega), fun z => ?_⟩
  refine k_Cut_letsOf hkb hs ?_
  simp only [↓zq, ↓reduceIte, zr_si2, zr_sr1, zr_cp2, zr_tl, zr_tn, shq, List.contains_nil, List.contains_cons, Nat.reduceBEq, Bool.false_or, Bool.or_false, Bool.true_or, Bool.false_eq_true, if_false, if_true, true_and, and_true, List.set_cons_zero, List.set_cons_succ, List.length_cons, List.length_nil, Nat.reduceAdd, Nat.reduceLeDiff, Nat.le_refl, Nat.zero_le, true_or, or_true, zn_cl, ↓jj_Cut_coversSide, hka.1, hkb.1, hkc.1]
  refine k_Cut_letsOf hka hs ?_
  simp only [↓zq, ↓reduceIte, zr_si2, zr_sr1, zr_cp2, zr_tl, zr_tn, shq, List.contains_nil, List.contains_cons, Nat.reduceBEq, Bool.false_or, Bool.or_false, Bool.true_or, Bool.false_eq_true, if_false, if_true, true_and, and_true, List.set_cons_zero, List.set_cons_succ, List.length_cons, List.length_nil, Nat.reduceAdd, Nat.reduceLeDiff, Nat.le_refl, Nat.zero_le, true_or, or_true, zn_cl, ↓jj_Cut_coversSide, hka.1, hkb.1, hkc.1, ra2, rb2, zn_andn]
  have l1 := zn_andlt (row (3 + s)) wb2
  have l2 := zn_xlt l1 wb2
  rw [zn_z (by omega), zn_xz]
  exact ⟨fun z2 => loop 8 0 rfl (fun k hk => absurd hk (Nat.not_lt_zero k)) (by omega) z2 none none, fun z2 => no (fun zz => z2 zz.2)⟩
set_option maxHeartbeats 4000000 in
set_option maxRecDepth 100000 in
theorem k_Cut_coversSides {d : Nat} {h : zm_M} {R : zm_R} {a b c : Nat} {sp row q : Nat → Nat} (hka : zk_cut h.2 a) (hra : zc_R h.1 a row) (hwa : zw_R row) (hkb : zk_cut h.2 b) (hrb : zc_R h.1 b q) (hwb : zw_R q) (hkc : zk_shp h.2 c) (hsp : ∀ v, v < 24 → h.1 (c + 1) v = nI (sp v)) (hw : zw_S sp) (hR : R (some (.inl (if zs_covS sp row q = true then 1 else 0))) h) : zm_C (d + 5) TT m_Cut_coversSides [.inr (some a), .inr (some b), .inr (some c)] h R := by
  refine st_Cut_coversSides [] 30 ?_
  simp only [↓zq, ↓reduceIte, zr_si2, zr_sr1, zr_cp2, zr_tl, zr_tn, shq, List.contains_nil, List.contains_cons, Nat.reduceBEq, Bool.false_or, Bool.or_false, Bool.true_or, Bool.false_eq_true, if_false, if_true, true_and, and_true, List.set_cons_zero, List.set_cons_succ, List.length_cons, List.length_nil, Nat.reduceAdd, Nat.reduceLeDiff, Nat.le_refl, Nat.zero_le, true_or, or_true, zn_cl, ↓jj_Cut_coversSides, hka.1]
  refine ⟨fun z => absurd z (by decide), fun _ => ?_⟩
  refine k_Cut_coversSide (s := 0) (by decide) hka hra hwa hkb hrb hwb hkc hsp hw ?_
  simp only [↓zq, ↓reduceIte, zr_si2, zr_sr1, zr_cp2, zr_tl, zr_tn, shq, List.contains_nil, List.contains_cons, Nat.reduceBEq, Bool.false_or, Bool.or_false, Bool.true_or, Bool.false_eq_true, if_false, if_true, true_and, and_true, List.set_cons_zero, List.set_cons_succ, List.length_cons, List.length_nil, Nat.reduceAdd, Nat.reduceLeDiff, Nat.le_refl, Nat.zero_le, true_or, or_true, zn_cl, ↓jj_Cut_coversSides, hka.1]
  unfold zs_covS at hR
  cases e0 : zs_cov1 sp row q 0
  · simp only [e0, Bool.false_and, Bool.false_eq_true, if_false] at hR ⊢
    exact ⟨fun z => absurd trivial z, fun _ => hR⟩
  · simp only [e0, Bool.true_and] at hR
    simp only [if_true]
    refine ⟨fun _ => ⟨fun z => absurd z (by decide), fun _ => ?_⟩, fun z => absurd z (by decide)⟩
    refine k_Cut_coversSide (s := 1) (by decide) hka hra hwa hkb hrb hwb hkc hsp hw ?_
    simp only [↓zq, ↓reduceIte, zr_si2, zr_sr1, zr_cp2, zr_tl, zr_tn, shq, List.contains_nil, List.contains_cons, Nat.reduceBEq, Bool.false_or, Bool.or_false, Bool.true_or, Bool.false_eq_true, if_false, if_true, true_and, and_true, List.set_cons_zero, List.set_cons_succ, List.length_cons, List.length_nil, Nat.reduceAdd, Nat.reduceLeDiff, Nat.le_refl, Nat.zero_le, true_or, or_true, zn_cl, ↓jj_Cut_coversSides, hka.1]
    cases e1 : zs_cov1 sp row q 1
    · simp only [e1, Bool.false_and, Bool.false_eq_true, if_false] at hR ⊢
      exact ⟨fun z => absurd trivial z, fun _ => hR⟩
    · simp only [e1, Bool.true_and] at hR
      simp only [if_true]
      refine ⟨fun _ => ⟨fun z => absurd z (by decide), fun _ => ?_⟩, fun z => absurd z (by decide)⟩
      refine k_Cut_coversSide (s := 2) (by decide) hka hra hwa hkb hrb hwb hkc hsp hw ?_
      simp only [↓zq, ↓reduceIte, zr_si2, zr_sr1, zr_cp2, zr_tl, zr_tn, shq, List.contains_nil, List.contains_cons, Nat.reduceBEq, Bool.false_or, Bool.or_false, Bool.true_or, Bool.false_eq_true, if_false, if_true, true_and, and_true, List.set_cons_zero, List.set_cons_succ, List.length_cons, List.length_nil, Nat.reduceAdd, Nat.reduceLeDiff, Nat.le_refl, Nat.zero_le, true_or, or_true, zn_cl, ↓jj_Cut_coversSides, hka.1]
      cases e2 : zs_cov1 sp row q 2
      · simp only [e2, Bool.false_eq_true, if_false] at hR ⊢
        exact ⟨fun z => absurd trivial z, fun _ => hR⟩
      · simp only [e2, if_true] at hR ⊢
        exact ⟨fun _ => ⟨fun _ => hR, fun z => absurd (by decide) z⟩, fun z => absurd z (by decide)⟩
