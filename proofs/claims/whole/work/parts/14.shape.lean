/-! Shape and Cut of the class -/
def zk_cut (P : Nat → Nat → Option Nat) (a : Nat) : Prop := (zm_sh TT a).1 = 3 ∧ zm_sh TT (a + 1) = (0, 3) ∧ zm_sh TT (a + 2) = (0, 3) ∧ P a 0 = some (a + 1) ∧ P a 1 = some (a + 2)
def zk_shp (P : Nat → Nat → Option Nat) (a : Nat) : Prop := (zm_sh TT a).1 = 9 ∧ zm_sh TT (a + 1) = (0, 24) ∧ P a 0 = some (a + 1)
/-- bits of those below n that hold -/
def zs_bits (p : Nat → Bool) : Nat → Nat
  | 0 => 0
  | n + 1 => zs_bits p n + if p n = true then 2 ^ n else 0
theorem zs_bits_lt (p : Nat → Bool) : ∀ n, zs_bits p n < 2 ^ n
  | 0 => Nat.one_pos
  | n + 1 => by
    have := zs_bits_lt p n
    rw [Nat.pow_succ, zs_bits]
    split <;> omega
theorem zn_or8 : ∀ i, i < 8 → ∀ x, x < 2 ^ i → nI x ||| (1 : Int32) <<< (nI i &&& 31) = nI (x + 2 ^ i) := by decide +kernel
/-- a number of a value is below 8 -/
theorem zs_num_lt {sp : Nat → Nat} (hs : zw_S sp) {side lev v : Nat} (h1 : side < 3) (h3 : v < 8) : zs_num sp side lev v < 8 := by
  unfold zs_num
  split
  · exact h3
  · split
    · have := hs (8 * side + v) (by omega)
      omega
    · omega
theorem zn_ix {side v : Nat} (h1 : side < 3) (h3 : v < 8) : nI side * 8 + nI v = nI (8 * side + v) := by
  have e : ∀ side, side < 3 → ∀ v, v < 8 → nI side * 8 + nI v = nI (8 * side + v) := by decide
  exact e side h1 v h3
set_option maxHeartbeats 4000000 in
set_option maxRecDepth 100000 in
theorem k_Shape_numberOf {d : Nat} {h : zm_M} {R : zm_R} {a side lev v : Nat} {sp : Nat → Nat} (hk : zk_shp h.2 a) (hsp : ∀ v, v < 24 → h.1 (a + 1) v = nI (sp v)) (h1 : side < 3) (h2 : lev ≤ 2) (h3 : v < 8) (hR : R (some (.inl (nI (zs_num sp side lev v)))) h) : zm_C (d + 2) TT m_Shape_numberOf [.inr (some a), .inl (nI side), .inl (nI lev), .inl (nI v)] h R := by
  obtain ⟨k1, k2, k3⟩ := hk
  refine st_Shape_numberOf [] 9 ?_
  simp only [↓zq, ↓reduceIte, zr_si2, zr_sr1, zr_cp2, zr_tl, zr_tn, shq, List.contains_nil, List.contains_cons, Nat.reduceBEq, Bool.false_or, Bool.or_false, Bool.true_or, Bool.false_eq_true, if_false, if_true, true_and, and_true, List.set_cons_zero, List.set_cons_succ, List.length_cons, List.length_nil, Nat.reduceAdd, Nat.reduceLeDiff, Nat.le_refl, Nat.zero_le, true_or, or_true, zn_cl, ↓jj_Shape_numberOf, k1, k2, k3]
  have e1 : nI lev = 0 → lev = 0 := fun q => (nI_eq (b := 0) (by omega) (by decide)).mp q
  have e2 : nI lev = 1 → lev = 1 := fun q => (nI_eq (b := 1) (by omega) (by decide)).mp q
  refine ⟨fun q => ⟨fun q2 => ?_, fun q2 => ?_⟩, fun q => ?_⟩
  · have : lev = 2 := by
      rcases (show lev = 0 ∨ lev = 1 ∨ lev = 2 by omega) with rfl | rfl | rfl
      · exact absurd rfl q
      · exact absurd rfl q2
      · rfl
    subst this
    exact hR
  · have hl := e2 q2
    subst hl
    refine k_KS_isSide (fun j hj e => ?_) (fun e => ?_)
    · simp only [↓zq, ↓reduceIte, zr_si2, zr_sr1, zr_cp2, zr_tl, zr_tn, shq, List.contains_nil, List.contains_cons, Nat.reduceBEq, Bool.false_or, Bool.or_false, Bool.true_or, Bool.false_eq_true, if_false, if_true, true_and, and_true, List.set_cons_zero, List.set_cons_succ, List.length_cons, List.length_nil, Nat.reduceAdd, Nat.reduceLeDiff, Nat.le_refl, Nat.zero_le, true_or, or_true, zn_cl, ↓jj_Shape_numberOf, k1, k2, k3]
      refine ⟨fun q3 => absurd q3 (by decide), fun _ => ?_⟩
      refine k_KS_isValue (fun j hj e => ?_) (fun e => ?_)
      · simp only [↓zq, ↓reduceIte, zr_si2, zr_sr1, zr_cp2, zr_tl, zr_tn, shq, List.contains_nil, List.contains_cons, Nat.reduceBEq, Bool.false_or, Bool.or_false, Bool.true_or, Bool.false_eq_true, if_false, if_true, true_and, and_true, List.set_cons_zero, List.set_cons_succ, List.length_cons, List.length_nil, Nat.reduceAdd, Nat.reduceLeDiff, Nat.le_refl, Nat.zero_le, true_or, or_true, zn_cl, ↓jj_Shape_numberOf, k1, k2, k3]
        refine ⟨fun q3 => absurd q3 (by decide), fun _ => ?_⟩
        rw [zn_ix h1 h3]
        refine ⟨vp_in_nI (by omega) (by decide), ?_⟩
        rw [nI_clamp (by omega), hsp _ (by omega)]
        simpa [zs_num] using hR
      · rcases e with e | e
        · exact absurd e (nI_pos (by omega))
        · exact absurd e (nI_ge (b := 8) h3 (by decide))
    · rcases e with e | e
      · exact absurd e (nI_pos (by omega))
      · exact absurd e (nI_ge (b := 3) h1 (by decide))
  · have hl := e1 q
    subst hl
    simpa [zs_num] using hR
set_option maxHeartbeats 4000000 in
set_option maxRecDepth 100000 in
theorem k_Shape_valuesWithin {d : Nat} {h : zm_M} {R : zm_R} {a side lev lo hi : Nat} {sp : Nat → Nat} (hk : zk_shp h.2 a) (hw : zw_S sp) (hsp : ∀ v, v < 24 → h.1 (a + 1) v = nI (sp v)) (h1 : side < 3) (h2 : lev ≤ 2) (h3 : lo < 8) (h4 : hi < 8) (hR : R (some (.inl (nI (zs_bits (fun v => decide (lo ≤ zs_num sp side lev v ∧ zs_num sp side lev v ≤ hi)) 8)))) h) : zm_C (d + 3) TT m_Shape_valuesWithin [.inr (some a), .inl (nI side), .inl (nI lev), .inl (nI lo), .inl (nI hi)] h R := by
  have loop : ∀ (n i : Nat), i + n = 8 → ∀ o, zm_W (zm_md m_Shape_valuesWithin) (d + 3) TT R 6 [some (.inr (some a)), some (.inl (nI side)), some (.inl (nI lev)), some (.inl (nI lo)), some (.inl (nI hi)), some (.inl (nI (zs_bits (fun v => decide (lo ≤ zs_num sp side lev v ∧ zs_num sp side lev v ≤ hi)) i))), some (.inl (nI i)), o] [] h := by
    intro n
    induction n with
    | zero =>
      intro i hi8 o
      have : i = 8 := by omega
      subst this
      refine zm_go g_Shape_valuesWithin [6] 9 (by decide +kernel) ok_Shape_valuesWithin _ rfl ?_
      simp only [↓zq, ↓reduceIte, zr_si2, zr_sr1, zr_cp2, zr_tl, zr_tn, shq, List.contains_nil, List.contains_cons, Nat.reduceBEq, Bool.false_or, Bool.or_false, Bool.true_or, Bool.false_eq_true, if_false, if_true, true_and, and_true, List.set_cons_zero, List.set_cons_succ, List.length_cons, List.length_nil, Nat.reduceAdd, Nat.reduceLeDiff, Nat.le_refl, Nat.zero_le, true_or, or_true, zn_cl, ↓jj_Shape_valuesWithin]
      exact ⟨fun _ => hR, fun q => absurd (Int32.le_refl _) q⟩
    | succ n ih =>
      intro i hi8 o
      refine zm_go g_Shape_valuesWithin [6] 9 (by decide +kernel) ok_Shape_valuesWithin _ rfl ?_
      simp only [↓zq, ↓reduceIte, zr_si2, zr_sr1, zr_cp2, zr_tl, zr_tn, shq, List.contains_nil, List.contains_cons, Nat.reduceBEq, Bool.false_or, Bool.or_false, Bool.true_or, Bool.false_eq_true, if_false, if_true, true_and, and_true, List.set_cons_zero, List.set_cons_succ, List.length_cons, List.length_nil, Nat.reduceAdd, Nat.reduceLeDiff, Nat.le_refl, Nat.zero_le, true_or, or_true, zn_cl, ↓jj_Shape_valuesWithin, hk.1]
      refine ⟨fun q => absurd q (nI_ge (b := 8) (by omega) (by decide)), fun _ => ?_⟩
      refine k_Shape_numberOf hk hsp h1 h2 (by omega) ?_
      simp only [↓zq, ↓reduceIte, zr_si2, zr_sr1, zr_cp2, zr_tl, zr_tn, shq, List.contains_nil, List.contains_cons, Nat.reduceBEq, Bool.false_or, Bool.or_false, Bool.true_or, Bool.false_eq_true, if_false, if_true, true_and, and_true, List.set_cons_zero, List.set_cons_succ, List.length_cons, List.length_nil, Nat.reduceAdd, Nat.reduceLeDiff, Nat.le_refl, Nat.zero_le, true_or, or_true, zn_cl, ↓jj_Shape_valuesWithin]
      have hn := zs_num_lt (lev := lev) hw h1 (show i < 8 by omega)
      have hb := zs_bits_lt (fun v => decide (lo ≤ zs_num sp side lev v ∧ zs_num sp side lev v ≤ hi)) i
      have nx : nI i + 1 = nI (i + 1) := nI_1 i
      rw [zn_lt (by omega) (by omega), zn_lt (by omega) (by omega), zn_or8 i (by omega) _ hb, nx]
      have ih := ih (i + 1) (by omega)
      refine ⟨fun q => ?_, fun q => ⟨fun q2 => ?_, fun q2 => ?_⟩⟩
      · have := ih (some (.inl (nI (zs_num sp side lev i))))
        rw [zs_bits, if_neg (by simp; omega)] at this
        exact this
      · have := ih (some (.inl (nI (zs_num sp side lev i))))
        rw [zs_bits, if_neg (by simp; omega)] at this
        exact this
      · have := ih (some (.inl (nI (zs_num sp side lev i))))
        rw [zs_bits, if_pos (by simp; omega)] at this
        exact this
  refine st_Shape_valuesWithin [6] 9 ?_
  simp only [↓zq, ↓reduceIte, zr_si2, zr_sr1, zr_cp2, zr_tl, zr_tn, shq, List.contains_nil, List.contains_cons, Nat.reduceBEq, Bool.false_or, Bool.or_false, Bool.true_or, Bool.false_eq_true, if_false, if_true, true_and, and_true, List.set_cons_zero, List.set_cons_succ, List.length_cons, List.length_nil, Nat.reduceAdd, Nat.reduceLeDiff, Nat.le_refl, Nat.zero_le, true_or, or_true, zn_cl, ↓jj_Shape_valuesWithin]
  exact loop 8 0 rfl none
theorem zn_le2 {n : Nat} (h : n ≤ 2) : n = 0 ∨ n = 1 ∨ n = 2 := by omega
set_option maxHeartbeats 4000000 in
set_option maxRecDepth 100000 in
theorem k_Cut_levelOf {d : Nat} {h : zm_M} {R : zm_R} {a s : Nat} (hk : zk_cut h.2 a) (hs : s < 3) (hR : R (some (.inl (h.1 (a + 1) s))) h) : zm_C (d + 2) TT m_Cut_levelOf [.inr (some a), .inl (nI s)] h R := by
  obtain ⟨k1, k2, k3, k4, k5⟩ := hk
  refine st_Cut_levelOf [] 9 ?_
  simp only [↓zq, ↓reduceIte, zr_si2, zr_sr1, zr_cp2, zr_tl, zr_tn, shq, List.contains_nil, List.contains_cons, Nat.reduceBEq, Bool.false_or, Bool.or_false, Bool.true_or, Bool.false_eq_true, if_false, if_true, true_and, and_true, List.set_cons_zero, List.set_cons_succ, List.length_cons, List.length_nil, Nat.reduceAdd, Nat.reduceLeDiff, Nat.le_refl, Nat.zero_le, true_or, or_true, zn_cl, ↓jj_Cut_levelOf, k1, k2, k4]
  refine k_KS_isSide (fun j hj e => ?_) (fun e => ?_)
  · simp only [↓zq, ↓reduceIte, zr_si2, zr_sr1, zr_cp2, zr_tl, zr_tn, shq, List.contains_nil, List.contains_cons, Nat.reduceBEq, Bool.false_or, Bool.or_false, Bool.true_or, Bool.false_eq_true, if_false, if_true, true_and, and_true, List.set_cons_zero, List.set_cons_succ, List.length_cons, List.length_nil, Nat.reduceAdd, Nat.reduceLeDiff, Nat.le_refl, Nat.zero_le, true_or, or_true, zn_cl, ↓jj_Cut_levelOf, k1, k2, k4]
    refine ⟨fun q => absurd q (by decide), fun _ => ⟨vp_in_nI hs (by decide), ?_⟩⟩
    rw [nI_clamp (by omega)]
    exact hR
  · rcases e with e | e
    · exact absurd e (nI_pos (by omega))
    · exact absurd e (nI_ge (b := 3) hs (by decide))
set_option maxHeartbeats 4000000 in
set_option maxRecDepth 100000 in
theorem k_Cut_letsOf {d : Nat} {h : zm_M} {R : zm_R} {a s : Nat} (hk : zk_cut h.2 a) (hs : s < 3) (hR : R (some (.inl (h.1 (a + 2) s))) h) : zm_C (d + 2) TT m_Cut_letsOf [.inr (some a), .inl (nI s)] h R := by
  obtain ⟨k1, k2, k3, k4, k5⟩ := hk
  refine st_Cut_letsOf [] 9 ?_
  simp only [↓zq, ↓reduceIte, zr_si2, zr_sr1, zr_cp2, zr_tl, zr_tn, shq, List.contains_nil, List.contains_cons, Nat.reduceBEq, Bool.false_or, Bool.or_false, Bool.true_or, Bool.false_eq_true, if_false, if_true, true_and, and_true, List.set_cons_zero, List.set_cons_succ, List.length_cons, List.length_nil, Nat.reduceAdd, Nat.reduceLeDiff, Nat.le_refl, Nat.zero_le, true_or, or_true, zn_cl, ↓jj_Cut_letsOf, k1, k3, k5]
  refine k_KS_isSide (fun j hj e => ?_) (fun e => ?_)
  · simp only [↓zq, ↓reduceIte, zr_si2, zr_sr1, zr_cp2, zr_tl, zr_tn, shq, List.contains_nil, List.contains_cons, Nat.reduceBEq, Bool.false_or, Bool.or_false, Bool.true_or, Bool.false_eq_true, if_false, if_true, true_and, and_true, List.set_cons_zero, List.set_cons_succ, List.length_cons, List.length_nil, Nat.reduceAdd, Nat.reduceLeDiff, Nat.le_refl, Nat.zero_le, true_or, or_true, zn_cl, ↓jj_Cut_letsOf, k1, k3, k5]
    refine ⟨fun q => absurd q (by decide), fun _ => ⟨vp_in_nI hs (by decide), ?_⟩⟩
    rw [nI_clamp (by omega)]
    exact hR
  · rcases e with e | e
    · exact absurd e (nI_pos (by omega))
    · exact absurd e (nI_ge (b := 3) hs (by decide))
set_option maxHeartbeats 4000000 in
set_option maxRecDepth 100000 in
theorem k_Cut_levelOrLets {d : Nat} {h : zm_M} {R : zm_R} {a : Nat} {x : Int32} (hk : zk_cut h.2 a) (h1 : ∀ j : Nat, j < 3 → x = nI j → R (some (.inl (h.1 (a + 1) j))) h) (h2 : ∀ j : Nat, j < 3 → x = nI (10 + j) → R (some (.inl (h.1 (a + 2) j))) h) (h0 : (∀ j : Nat, j < 3 → ¬ x = nI j ∧ ¬ x = nI (10 + j)) → R (some (.inl (-1))) h) : zm_C (d + 2) TT m_Cut_levelOrLets [.inr (some a), .inl x] h R := by
  obtain ⟨k1, k2, k3, k4, k5⟩ := hk
  refine st_Cut_levelOrLets [] 9 ?_
  simp only [↓zq, ↓reduceIte, zr_si2, zr_sr1, zr_cp2, zr_tl, zr_tn, shq, List.contains_nil, List.contains_cons, Nat.reduceBEq, Bool.false_or, Bool.or_false, Bool.true_or, Bool.false_eq_true, if_false, if_true, true_and, and_true, List.set_cons_zero, List.set_cons_succ, List.length_cons, List.length_nil, Nat.reduceAdd, Nat.reduceLeDiff, Nat.le_refl, Nat.zero_le, true_or, or_true, zn_cl, ↓jj_Cut_levelOrLets, k1, k2, k3, k4, k5]
  refine k_KS_isSide (fun j hj e => ?_) (fun e => ?_)
  · simp only [↓zq, ↓reduceIte, zr_si2, zr_sr1, zr_cp2, zr_tl, zr_tn, shq, List.contains_nil, List.contains_cons, Nat.reduceBEq, Bool.false_or, Bool.or_false, Bool.true_or, Bool.false_eq_true, if_false, if_true, true_and, and_true, List.set_cons_zero, List.set_cons_succ, List.length_cons, List.length_nil, Nat.reduceAdd, Nat.reduceLeDiff, Nat.le_refl, Nat.zero_le, true_or, or_true, zn_cl, ↓jj_Cut_levelOrLets, k1, k2, k3, k4, k5]
    subst e
    refine ⟨fun q => absurd q (by decide), fun _ => ⟨vp_in_nI hj (by decide), ?_⟩⟩
    rw [nI_clamp (by omega)]
    exact h1 j hj rfl
  · simp only [↓zq, ↓reduceIte, zr_si2, zr_sr1, zr_cp2, zr_tl, zr_tn, shq, List.contains_nil, List.contains_cons, Nat.reduceBEq, Bool.false_or, Bool.or_false, Bool.true_or, Bool.false_eq_true, if_false, if_true, true_and, and_true, List.set_cons_zero, List.set_cons_succ, List.length_cons, List.length_nil, Nat.reduceAdd, Nat.reduceLeDiff, Nat.le_refl, Nat.zero_le, true_or, or_true, zn_cl, ↓jj_Cut_levelOrLets, k1, k2, k3, k4, k5]
    refine ⟨fun _ => ?_, fun q => absurd trivial q⟩
    refine k_KS_isSide (fun j hj e2 => ?_) (fun e2 => ?_)
    · simp only [↓zq, ↓reduceIte, zr_si2, zr_sr1, zr_cp2, zr_tl, zr_tn, shq, List.contains_nil, List.contains_cons, Nat.reduceBEq, Bool.false_or, Bool.or_false, Bool.true_or, Bool.false_eq_true, if_false, if_true, true_and, and_true, List.set_cons_zero, List.set_cons_succ, List.length_cons, List.length_nil, Nat.reduceAdd, Nat.reduceLeDiff, Nat.le_refl, Nat.zero_le, true_or, or_true, zn_cl, ↓jj_Cut_levelOrLets, k1, k2, k3, k4, k5]
      rw [e2]
      refine ⟨fun q => absurd q (by decide), fun _ => ⟨vp_in_nI hj (by decide), ?_⟩⟩
      rw [nI_clamp (by omega)]
      refine h2 j hj ?_
      have : x = nI j + 10 := by rw [← e2]; grind
      rw [this]
      exact (nI_add j 10).trans (by rw [Nat.add_comm])
    · simp only [↓zq, ↓reduceIte, zr_si2, zr_sr1, zr_cp2, zr_tl, zr_tn, shq, List.contains_nil, List.contains_cons, Nat.reduceBEq, Bool.false_or, Bool.or_false, Bool.true_or, Bool.false_eq_true, if_false, if_true, true_and, and_true, List.set_cons_zero, List.set_cons_succ, List.length_cons, List.length_nil, Nat.reduceAdd, Nat.reduceLeDiff, Nat.le_refl, Nat.zero_le, true_or, or_true, zn_cl, ↓jj_Cut_levelOrLets, k1, k2, k3, k4, k5]
      refine ⟨fun _ => ?_, fun q => absurd trivial q⟩
      refine h0 (fun j hj => ⟨fun z => ?_, fun z => ?_⟩)
      · subst z
        rcases e with e | e
        · exact absurd e (nI_pos (by omega))
        · exact absurd e (nI_ge (b := 3) hj (by decide))
      · subst z
        have e3 : ∀ j, j < 3 → ¬ (nI (10 + j) - 10 < 0 ∨ 3 ≤ nI (10 + j) - 10) := by decide
        exact e3 j hj e2
theorem zn_shr8 : ∀ v, v < 8 → ∀ x, x < 256 → nI x >>> (nI v &&& 31) = nI (x / 2 ^ v) := by decide +kernel
theorem zn_bit (x : Nat) (hx : x < 256) : nI x &&& 1 = if x % 2 = 1 then 1 else 0 := by
  have e : ∀ x, x < 256 → nI x &&& 1 = if x % 2 = 1 then (1 : Int32) else 0 := by decide +kernel
  exact e x hx
theorem zn_tb (x v : Nat) : x.testBit v = decide (x / 2 ^ v % 2 = 1) := by
  rw [Nat.testBit_eq_decide_div_mod_eq]
theorem zn_and3 (x y z : Int32) : x &&& y &&& z &&& 1 = (x &&& 1) &&& (y &&& 1) &&& (z &&& 1) := by
  apply Int32.toBitVec_inj.mp
  simp only [Int32.toBitVec_and]
  ext i hi
  simp only [BitVec.getElem_and]
  cases (x.toBitVec)[i] <;> cases (y.toBitVec)[i] <;> cases (z.toBitVec)[i] <;> cases ((1 : Int32).toBitVec)[i] <;> rfl
set_option maxHeartbeats 4000000 in
set_option maxRecDepth 100000 in
theorem k_Cut_letsTriple {d : Nat} {h : zm_M} {R : zm_R} {a : Nat} {row va : Nat → Nat} (hk : zk_cut h.2 a) (hr : zc_R h.1 a row) (hw : zw_R row) (h0 : va 0 < 8) (h1 : va 1 < 8) (h2 : va 2 < 8) (hR : R (some (.inl (if zs_let row va = true then 1 else 0))) h) : zm_C (d + 2) TT m_Cut_letsTriple [.inr (some a), .inl (nI (64 * va 0 + 8 * va 1 + va 2))] h R := by
  obtain ⟨k1, k2, k3, k4, k5⟩ := hk
  obtain ⟨-, -, -, r3, r4, r5⟩ := hr
  obtain ⟨-, -, -, w3, w4, w5⟩ := hw
  refine st_Cut_letsTriple [] 9 ?_
  simp only [↓zq, ↓reduceIte, zr_si2, zr_sr1, zr_cp2, zr_tl, zr_tn, shq, List.contains_nil, List.contains_cons, Nat.reduceBEq, Bool.false_or, Bool.or_false, Bool.true_or, Bool.false_eq_true, if_false, if_true, true_and, and_true, List.set_cons_zero, List.set_cons_succ, List.length_cons, List.length_nil, Nat.reduceAdd, Nat.reduceLeDiff, Nat.le_refl, Nat.zero_le, true_or, or_true, zn_cl, ↓jj_Cut_letsTriple, k1, k3, k5]
  refine ⟨zn_v, ?_⟩
  refine k_KS_numberIn (t := 64 * va 0 + 8 * va 1 + va 2) (s := 0) (by omega) (by decide) ?_
  simp only [↓zq, ↓reduceIte, zr_si2, zr_sr1, zr_cp2, zr_tl, zr_tn, shq, List.contains_nil, List.contains_cons, Nat.reduceBEq, Bool.false_or, Bool.or_false, Bool.true_or, Bool.false_eq_true, if_false, if_true, true_and, and_true, List.set_cons_zero, List.set_cons_succ, List.length_cons, List.length_nil, Nat.reduceAdd, Nat.reduceLeDiff, Nat.le_refl, Nat.zero_le, true_or, or_true, zn_cl, ↓jj_Cut_letsTriple, k1, k3, k5]
  refine ⟨zn_v, ?_⟩
  refine k_KS_numberIn (t := 64 * va 0 + 8 * va 1 + va 2) (s := 1) (by omega) (by decide) ?_
  simp only [↓zq, ↓reduceIte, zr_si2, zr_sr1, zr_cp2, zr_tl, zr_tn, shq, List.contains_nil, List.contains_cons, Nat.reduceBEq, Bool.false_or, Bool.or_false, Bool.true_or, Bool.false_eq_true, if_false, if_true, true_and, and_true, List.set_cons_zero, List.set_cons_succ, List.length_cons, List.length_nil, Nat.reduceAdd, Nat.reduceLeDiff, Nat.le_refl, Nat.zero_le, true_or, or_true, zn_cl, ↓jj_Cut_letsTriple, k1, k3, k5]
  refine ⟨zn_v, ?_⟩
  refine k_KS_numberIn (t := 64 * va 0 + 8 * va 1 + va 2) (s := 2) (by omega) (by decide) ?_
  simp only [↓zq, ↓reduceIte, zr_si2, zr_sr1, zr_cp2, zr_tl, zr_tn, shq, List.contains_nil, List.contains_cons, Nat.reduceBEq, Bool.false_or, Bool.or_false, Bool.true_or, Bool.false_eq_true, if_false, if_true, true_and, and_true, List.set_cons_zero, List.set_cons_succ, List.length_cons, List.length_nil, Nat.reduceAdd, Nat.reduceLeDiff, Nat.le_refl, Nat.zero_le, true_or, or_true, zn_cl, ↓jj_Cut_letsTriple, k1, k3, k5]
  have e0 : (64 * va 0 + 8 * va 1 + va 2) / 8 ^ (2 - 0) % 8 = va 0 := by omega
  have e1 : (64 * va 0 + 8 * va 1 + va 2) / 8 ^ (2 - 1) % 8 = va 1 := by omega
  have e2 : (64 * va 0 + 8 * va 1 + va 2) / 8 ^ (2 - 2) % 8 = va 2 := by omega
  have l0 : row 3 / 2 ^ va 0 < 256 := Nat.lt_of_le_of_lt (Nat.div_le_self _ _) w3
  have l1 : row 4 / 2 ^ va 1 < 256 := Nat.lt_of_le_of_lt (Nat.div_le_self _ _) w4
  have l2 : row 5 / 2 ^ va 2 < 256 := Nat.lt_of_le_of_lt (Nat.div_le_self _ _) w5
  rw [e0, e1, e2, r3, r4, r5, zn_shr8 _ h0 _ w3, zn_shr8 _ h1 _ w4, zn_shr8 _ h2 _ w5, zn_and3, zn_bit _ l0, zn_bit _ l1, zn_bit _ l2]
  have el : zs_let row va = (decide (row 3 / 2 ^ va 0 % 2 = 1) && decide (row 4 / 2 ^ va 1 % 2 = 1) && decide (row 5 / 2 ^ va 2 % 2 = 1)) := by
    unfold zs_let
    rw [zn_tb, zn_tb, zn_tb]
  rw [el] at hR
  by_cases q0 : row 3 / 2 ^ va 0 % 2 = 1 <;> by_cases q1 : row 4 / 2 ^ va 1 % 2 = 1 <;> by_cases q2 : row 5 / 2 ^ va 2 % 2 = 1 <;> simp [q0, q1, q2] at hR ⊢ <;> exact hR
set_option maxHeartbeats 4000000 in
set_option maxRecDepth 100000 in
theorem k_Shape_keyOf {d : Nat} {h : zm_M} {R : zm_R} {a b : Nat} {sp row va : Nat → Nat} (hk : zk_shp h.2 a) (hsp : ∀ v, v < 24 → h.1 (a + 1) v = nI (sp v)) (hs : zw_S sp) (hc : zk_cut h.2 b) (hr : zc_R h.1 b row) (hw : zw_R row) (h0 : va 0 < 8) (h1 : va 1 < 8) (h2 : va 2 < 8) (hR : R (some (.inl (nI (zs_key sp row va)))) h) : zm_C (d + 3) TT m_Shape_keyOf [.inr (some a), .inl (nI (64 * va 0 + 8 * va 1 + va 2)), .inr (some b)] h R := by
  obtain ⟨r0, r1, r2, -, -, -⟩ := hr
  obtain ⟨w0, w1, w2, -, -, -⟩ := hw
  refine st_Shape_keyOf [] 9 ?_
  simp only [↓zq, ↓reduceIte, zr_si2, zr_sr1, zr_cp2, zr_tl, zr_tn, shq, List.contains_nil, List.contains_cons, Nat.reduceBEq, Bool.false_or, Bool.or_false, Bool.true_or, Bool.false_eq_true, if_false, if_true, true_and, and_true, List.set_cons_zero, List.set_cons_succ, List.length_cons, List.length_nil, Nat.reduceAdd, Nat.reduceLeDiff, Nat.le_refl, Nat.zero_le, true_or, or_true, zn_cl, ↓jj_Shape_keyOf, hk.1, hc.1]
  refine k_Cut_levelOf (s := 0) hc (by decide) ?_
  simp only [↓zq, ↓reduceIte, zr_si2, zr_sr1, zr_cp2, zr_tl, zr_tn, shq, List.contains_nil, List.contains_cons, Nat.reduceBEq, Bool.false_or, Bool.or_false, Bool.true_or, Bool.false_eq_true, if_false, if_true, true_and, and_true, List.set_cons_zero, List.set_cons_succ, List.length_cons, List.length_nil, Nat.reduceAdd, Nat.reduceLeDiff, Nat.le_refl, Nat.zero_le, true_or, or_true, zn_cl, ↓jj_Shape_keyOf, hk.1, hc.1]
  refine k_KS_numberIn (t := 64 * va 0 + 8 * va 1 + va 2) (s := 0) (by omega) (by decide) ?_
  simp only [↓zq, ↓reduceIte, zr_si2, zr_sr1, zr_cp2, zr_tl, zr_tn, shq, List.contains_nil, List.contains_cons, Nat.reduceBEq, Bool.false_or, Bool.or_false, Bool.true_or, Bool.false_eq_true, if_false, if_true, true_and, and_true, List.set_cons_zero, List.set_cons_succ, List.length_cons, List.length_nil, Nat.reduceAdd, Nat.reduceLeDiff, Nat.le_refl, Nat.zero_le, true_or, or_true, zn_cl, ↓jj_Shape_keyOf, hk.1, hc.1]
  rw [show (64 * va 0 + 8 * va 1 + va 2) / 8 ^ (2 - 0) % 8 = va 0 by omega, r0]
  refine k_Shape_numberOf (side := 0) hk hsp (by decide) w0 h0 ?_
  simp only [↓zq, ↓reduceIte, zr_si2, zr_sr1, zr_cp2, zr_tl, zr_tn, shq, List.contains_nil, List.contains_cons, Nat.reduceBEq, Bool.false_or, Bool.or_false, Bool.true_or, Bool.false_eq_true, if_false, if_true, true_and, and_true, List.set_cons_zero, List.set_cons_succ, List.length_cons, List.length_nil, Nat.reduceAdd, Nat.reduceLeDiff, Nat.le_refl, Nat.zero_le, true_or, or_true, zn_cl, ↓jj_Shape_keyOf, hk.1, hc.1]
  refine k_Cut_levelOf (s := 1) hc (by decide) ?_
  simp only [↓zq, ↓reduceIte, zr_si2, zr_sr1, zr_cp2, zr_tl, zr_tn, shq, List.contains_nil, List.contains_cons, Nat.reduceBEq, Bool.false_or, Bool.or_false, Bool.true_or, Bool.false_eq_true, if_false, if_true, true_and, and_true, List.set_cons_zero, List.set_cons_succ, List.length_cons, List.length_nil, Nat.reduceAdd, Nat.reduceLeDiff, Nat.le_refl, Nat.zero_le, true_or, or_true, zn_cl, ↓jj_Shape_keyOf, hk.1, hc.1]
  refine k_KS_numberIn (t := 64 * va 0 + 8 * va 1 + va 2) (s := 1) (by omega) (by decide) ?_
  simp only [↓zq, ↓reduceIte, zr_si2, zr_sr1, zr_cp2, zr_tl, zr_tn, shq, List.contains_nil, List.contains_cons, Nat.reduceBEq, Bool.false_or, Bool.or_false, Bool.true_or, Bool.false_eq_true, if_false, if_true, true_and, and_true, List.set_cons_zero, List.set_cons_succ, List.length_cons, List.length_nil, Nat.reduceAdd, Nat.reduceLeDiff, Nat.le_refl, Nat.zero_le, true_or, or_true, zn_cl, ↓jj_Shape_keyOf, hk.1, hc.1]
  rw [show (64 * va 0 + 8 * va 1 + va 2) / 8 ^ (2 - 1) % 8 = va 1 by omega, r1]
  refine k_Shape_numberOf (side := 1) hk hsp (by decide) w1 h1 ?_
  simp only [↓zq, ↓reduceIte, zr_si2, zr_sr1, zr_cp2, zr_tl, zr_tn, shq, List.contains_nil, List.contains_cons, Nat.reduceBEq, Bool.false_or, Bool.or_false, Bool.true_or, Bool.false_eq_true, if_false, if_true, true_and, and_true, List.set_cons_zero, List.set_cons_succ, List.length_cons, List.length_nil, Nat.reduceAdd, Nat.reduceLeDiff, Nat.le_refl, Nat.zero_le, true_or, or_true, zn_cl, ↓jj_Shape_keyOf, hk.1, hc.1]
  refine k_Cut_levelOf (s := 2) hc (by decide) ?_
  simp only [↓zq, ↓reduceIte, zr_si2, zr_sr1, zr_cp2, zr_tl, zr_tn, shq, List.contains_nil, List.contains_cons, Nat.reduceBEq, Bool.false_or, Bool.or_false, Bool.true_or, Bool.false_eq_true, if_false, if_true, true_and, and_true, List.set_cons_zero, List.set_cons_succ, List.length_cons, List.length_nil, Nat.reduceAdd, Nat.reduceLeDiff, Nat.le_refl, Nat.zero_le, true_or, or_true, zn_cl, ↓jj_Shape_keyOf, hk.1, hc.1]
  refine k_KS_numberIn (t := 64 * va 0 + 8 * va 1 + va 2) (s := 2) (by omega) (by decide) ?_
  simp only [↓zq, ↓reduceIte, zr_si2, zr_sr1, zr_cp2, zr_tl, zr_tn, shq, List.contains_nil, List.contains_cons, Nat.reduceBEq, Bool.false_or, Bool.or_false, Bool.true_or, Bool.false_eq_true, if_false, if_true, true_and, and_true, List.set_cons_zero, List.set_cons_succ, List.length_cons, List.length_nil, Nat.reduceAdd, Nat.reduceLeDiff, Nat.le_refl, Nat.zero_le, true_or, or_true, zn_cl, ↓jj_Shape_keyOf, hk.1, hc.1]
  rw [show (64 * va 0 + 8 * va 1 + va 2) / 8 ^ (2 - 2) % 8 = va 2 by omega, r2]
  refine k_Shape_numberOf (side := 2) hk hsp (by decide) w2 h2 ?_
  simp only [↓zq, ↓reduceIte, zr_si2, zr_sr1, zr_cp2, zr_tl, zr_tn, shq, List.contains_nil, List.contains_cons, Nat.reduceBEq, Bool.false_or, Bool.or_false, Bool.true_or, Bool.false_eq_true, if_false, if_true, true_and, and_true, List.set_cons_zero, List.set_cons_succ, List.length_cons, List.length_nil, Nat.reduceAdd, Nat.reduceLeDiff, Nat.le_refl, Nat.zero_le, true_or, or_true, zn_cl, ↓jj_Shape_keyOf, hk.1, hc.1]
  refine k_KS_tripleOf (zs_num_lt hs (by decide) h0) (zs_num_lt hs (by decide) h1) (zs_num_lt hs (by decide) h2) ?_
  simp only [↓zq, ↓reduceIte, zr_si2, zr_sr1, zr_cp2, zr_tl, zr_tn, shq, List.contains_nil, List.contains_cons, Nat.reduceBEq, Bool.false_or, Bool.or_false, Bool.true_or, Bool.false_eq_true, if_false, if_true, true_and, and_true, List.set_cons_zero, List.set_cons_succ, List.length_cons, List.length_nil, Nat.reduceAdd, Nat.reduceLeDiff, Nat.le_refl, Nat.zero_le, true_or, or_true, zn_cl, ↓jj_Shape_keyOf, hk.1, hc.1]
  exact hR
