/-! the reference: cell 133; small methods -/
theorem zp_m {P : Nat → Nat → Option Nat} (hp : zp_mo P) : P 133 4 = some 134 ∧ P 133 5 = some 135 ∧ P 133 6 = some 136 ∧ P 133 7 = some 137 ∧ P 133 35 = some 153 ∧ P 133 37 = some 154 ∧ P 133 38 = some 155 ∧ P 133 39 = some 156 ∧ P 133 40 = some 157 := by
  refine ⟨?_, ?_, ?_, ?_, ?_, ?_, ?_, ?_, ?_⟩ <;> simp only [hp]
set_option maxHeartbeats 4000000 in
set_option maxRecDepth 100000 in
theorem k_Mo_in {d : Nat} {T : zm_T} {h : zm_M} {R : zm_R} {x lo hi : Int32} (h1 : ¬ x < lo → ¬ hi < x → R (some (.inl 1)) h) (h0 : (x < lo ∨ hi < x) → R (some (.inl 0)) h) : zm_C (d + 1) T m_Mo_in [.inl x, .inl lo, .inl hi] h R := by
  refine st_Mo_in [] 9 ?_
  simp only [↓zq, ↓reduceIte, zr_si2, zr_sr1, zr_cp2, zr_tl, zr_tn, shq, List.contains_nil, List.contains_cons, Nat.reduceBEq, Bool.false_or, Bool.or_false, Bool.true_or, Bool.false_eq_true, if_false, if_true, true_and, and_true, List.set_cons_zero, List.set_cons_succ, List.length_cons, List.length_nil, Nat.reduceAdd, Nat.reduceLeDiff, Nat.le_refl, Nat.zero_le, true_or, or_true, zn_cl, ↓jj_Mo_in]
  exact ⟨fun a => h0 (Or.inl a), fun a => ⟨fun b => h0 (Or.inr b), fun b => h1 a b⟩⟩
set_option maxHeartbeats 4000000 in
set_option maxRecDepth 100000 in
theorem k_Mo_min {d : Nat} {T : zm_T} {h : zm_M} {R : zm_R} {x y : Int32} (h1 : y ≤ x → R (some (.inl y)) h) (h0 : ¬ y ≤ x → R (some (.inl x)) h) : zm_C (d + 1) T m_Mo_min [.inl x, .inl y] h R := by
  refine st_Mo_min [] 9 ?_
  simp only [↓zq, ↓reduceIte, zr_si2, zr_sr1, zr_cp2, zr_tl, zr_tn, shq, List.contains_nil, List.contains_cons, Nat.reduceBEq, Bool.false_or, Bool.or_false, Bool.true_or, Bool.false_eq_true, if_false, if_true, true_and, and_true, List.set_cons_zero, List.set_cons_succ, List.length_cons, List.length_nil, Nat.reduceAdd, Nat.reduceLeDiff, Nat.le_refl, Nat.zero_le, true_or, or_true, zn_cl, ↓jj_Mo_min]
  exact ⟨h1, h0⟩
set_option maxHeartbeats 4000000 in
set_option maxRecDepth 100000 in
theorem k_Mo_max {d : Nat} {T : zm_T} {h : zm_M} {R : zm_R} {x y : Int32} (h1 : x ≤ y → R (some (.inl y)) h) (h0 : ¬ x ≤ y → R (some (.inl x)) h) : zm_C (d + 1) T m_Mo_max [.inl x, .inl y] h R := by
  refine st_Mo_max [] 9 ?_
  simp only [↓zq, ↓reduceIte, zr_si2, zr_sr1, zr_cp2, zr_tl, zr_tn, shq, List.contains_nil, List.contains_cons, Nat.reduceBEq, Bool.false_or, Bool.or_false, Bool.true_or, Bool.false_eq_true, if_false, if_true, true_and, and_true, List.set_cons_zero, List.set_cons_succ, List.length_cons, List.length_nil, Nat.reduceAdd, Nat.reduceLeDiff, Nat.le_refl, Nat.zero_le, true_or, or_true, zn_cl, ↓jj_Mo_max]
  exact ⟨h1, h0⟩
theorem zn_b1 (x : Nat) (hx : x < 256) : (nI x &&& 1 = 1) = (x % 2 = 1) := by
  have e : ∀ x, x < 256 → (nI x &&& 1 = 1 ↔ x % 2 = 1) := by decide +kernel
  exact propext (e x hx)
set_option maxHeartbeats 4000000 in
set_option maxRecDepth 100000 in
theorem k_Mo_has {d : Nat} {T : zm_T} {h : zm_M} {R : zm_R} {x v : Nat} (hx : x < 256) (hv : v < 8) (hR : R (some (.inl (if x.testBit v = true then 1 else 0))) h) : zm_C (d + 1) T m_Mo_has [.inl (nI x), .inl (nI v)] h R := by
  refine st_Mo_has [] 9 ?_
  simp only [↓zq, ↓reduceIte, zr_si2, zr_sr1, zr_cp2, zr_tl, zr_tn, shq, List.contains_nil, List.contains_cons, Nat.reduceBEq, Bool.false_or, Bool.or_false, Bool.true_or, Bool.false_eq_true, if_false, if_true, true_and, and_true, List.set_cons_zero, List.set_cons_succ, List.length_cons, List.length_nil, Nat.reduceAdd, Nat.reduceLeDiff, Nat.le_refl, Nat.zero_le, true_or, or_true, zn_cl, ↓jj_Mo_has]
  rw [zn_shr8 v hv x hx, zn_b1 _ (Nat.lt_of_le_of_lt (Nat.div_le_self _ _) hx)]
  rw [zn_tb] at hR
  simp only [decide_eq_true_eq] at hR
  refine ⟨fun z => ?_, fun z => ?_⟩
  · rw [if_neg z] at hR; exact hR
  · rw [if_pos z] at hR; exact hR
set_option maxHeartbeats 4000000 in
set_option maxRecDepth 100000 in
theorem k_Mo_numberAt {d : Nat} {h : zm_M} {R : zm_R} {side lev v : Nat} {sp : Nat → Nat} (hp : h.2 133 6 = some 136) (hsp : zo_S h.1 sp) (h1 : side < 3) (h2 : lev ≤ 2) (h3 : v < 8) (hR : R (some (.inl (nI (zs_num sp side lev v)))) h) : zm_C (d + 1) TT m_Mo_numberAt [.inr (some 133), .inl (nI side), .inl (nI lev), .inl (nI v)] h R := by
  refine st_Mo_numberAt [] 9 ?_
  simp only [↓zq, ↓reduceIte, zr_si2, zr_sr1, zr_cp2, zr_tl, zr_tn, shq, List.contains_nil, List.contains_cons, Nat.reduceBEq, Bool.false_or, Bool.or_false, Bool.true_or, Bool.false_eq_true, if_false, if_true, true_and, and_true, List.set_cons_zero, List.set_cons_succ, List.length_cons, List.length_nil, Nat.reduceAdd, Nat.reduceLeDiff, Nat.le_refl, Nat.zero_le, true_or, or_true, zn_cl, ↓jj_Mo_numberAt, hp]
  unfold zs_num at hR
  rcases (show lev = 0 ∨ lev = 1 ∨ lev = 2 by omega) with rfl | rfl | rfl
  · exact ⟨fun z => absurd rfl z, fun _ => hR⟩
  · refine ⟨fun _ => ⟨fun z => absurd rfl z, fun _ => ?_⟩, fun z => absurd z (by decide)⟩
    have e : ∀ side, side < 3 → ∀ v, v < 8 → (8 : Int32) * nI side + nI v = nI (8 * side + v) := by decide
    rw [e side h1 v h3]
    refine ⟨vp_in_nI (by omega) (by decide), ?_⟩
    rw [nI_clamp (by omega), hsp _ (by omega)]
    exact hR
  · exact ⟨fun _ => ⟨fun _ => hR, fun z => absurd z (by decide)⟩, fun z => absurd z (by decide)⟩
theorem zn_4f {f k : Nat} (hf : f < 240) (hk : k < 4) : (4 : Int32) * nI f + nI k = nI (4 * f + k) := by
  rw [show (4 : Int32) = nI 4 from rfl, pk_mul, nI_add]
set_option maxHeartbeats 4000000 in
set_option maxRecDepth 100000 in
theorem k_Mo_ofFact {d : Nat} {h : zm_M} {R : zm_R} {f k : Nat} (hp : h.2 133 4 = some 134) (hf : f < 240) (hk : k < 4) (hR : R (some (.inl (h.1 134 (4 * f + k)))) h) : zm_C (d + 1) TT m_Mo_ofFact [.inr (some 133), .inl (nI f), .inl (nI k)] h R := by
  refine st_Mo_ofFact [] 9 ?_
  simp only [↓zq, ↓reduceIte, zr_si2, zr_sr1, zr_cp2, zr_tl, zr_tn, shq, List.contains_nil, List.contains_cons, Nat.reduceBEq, Bool.false_or, Bool.or_false, Bool.true_or, Bool.false_eq_true, if_false, if_true, true_and, and_true, List.set_cons_zero, List.set_cons_succ, List.length_cons, List.length_nil, Nat.reduceAdd, Nat.reduceLeDiff, Nat.le_refl, Nat.zero_le, true_or, or_true, zn_cl, ↓jj_Mo_ofFact, hp]
  rw [zn_4f hf hk]
  refine ⟨vp_in_nI (by omega) (by decide), ?_⟩
  rw [nI_clamp (by omega)]
  exact hR
theorem zo_F_at {I : Nat → Nat → Int32} {F : zs_F} (h : zo_F I F) {f s : Nat} (hf : f < F.1) (hs : s < 3) : I 134 (4 * f + s) = nI (F.2.1 f s) := by
  obtain ⟨a, b, c, e⟩ := h.2 f hf
  rcases (show s = 0 ∨ s = 1 ∨ s = 2 by omega) with rfl | rfl | rfl
  · exact a
  · exact b
  · exact c
theorem zw_F_s {F : zs_F} (h : zw_F F) {f s : Nat} (hf : f < F.1) (hs : s < 3) : F.2.1 f s < 8 := by
  obtain ⟨a, b, c, -, -⟩ := zw_F_at h hf
  rcases (show s = 0 ∨ s = 1 ∨ s = 2 by omega) with rfl | rfl | rfl
  · exact a
  · exact b
  · exact c
/-- a row of an array that the reference reads -/
def zo_Row (I : Nat → Nat → Int32) (ra fr : Nat) (row : Nat → Nat) : Prop := ∃ len, zm_sh TT ra = (0, len) ∧ fr + 6 ≤ len ∧ len < 1000 ∧ ∀ k, k < 6 → I ra (fr + k) = nI (row k)
set_option maxHeartbeats 4000000 in
set_option maxRecDepth 100000 in
theorem k_Mo_isLet {d : Nat} {h : zm_M} {R : zm_R} {ra fr f : Nat} {F : zs_F} {row : Nat → Nat} (hp : h.2 133 4 = some 134) (hF : zo_F h.1 F) (hw : zw_F F) (hf : f < F.1) (hr : zo_Row h.1 ra fr row) (hwr : zw_R row) (hR : R (some (.inl (if zs_let row (F.2.1 f) = true then 1 else 0))) h) : zm_C (d + 2) TT m_Mo_isLet [.inr (some 133), .inr (some ra), .inl (nI fr), .inl (nI f)] h R := by
  obtain ⟨len, sh, hl1, hl2, hrow⟩ := hr
  have hf4 := (zw_F_at hw hf).2.2.2.2
  have step : ∀ (s : Nat), s < 3 → ((row (3 + s)).testBit (F.2.1 f s) = false → R (some (.inl 0)) h) → ((row (3 + s)).testBit (F.2.1 f s) = true → zm_W (zm_md m_Mo_isLet) (d + 2) TT R 3 [some (.inr (some 133)), some (.inr (some ra)), some (.inl (nI fr)), some (.inl (nI f)), some (.inl (nI (s + 1)))] [] h) → zm_W (zm_md m_Mo_isLet) (d + 2) TT R 3 [some (.inr (some 133)), some (.inr (some ra)), some (.inl (nI fr)), some (.inl (nI f)), some (.inl (nI s))] [] h := by
    intro s hs h0 h1
    refine zm_go g_Mo_isLet [3] 30 (by decide +kernel) ok_Mo_isLet _ rfl ?_
    simp only [↓zq, ↓reduceIte, zr_si2, zr_sr1, zr_cp2, zr_tl, zr_tn, shq, List.contains_nil, List.contains_cons, Nat.reduceBEq, Bool.false_or, Bool.or_false, Bool.true_or, Bool.false_eq_true, if_false, if_true, true_and, and_true, List.set_cons_zero, List.set_cons_succ, List.length_cons, List.length_nil, Nat.reduceAdd, Nat.reduceLeDiff, Nat.le_refl, Nat.zero_le, true_or, or_true, zn_cl, ↓jj_Mo_isLet, sh, nI_1]
    refine ⟨fun z => absurd z (nI_ge (b := 3) hs (by decide)), fun _ => ?_⟩
    rw [show (3 : Int32) = nI 3 from rfl, nI_add, nI_add]
    refine ⟨vp_in_nI (by omega) (by omega), ?_⟩
    rw [nI_clamp (by omega), show fr + 3 + s = fr + (3 + s) by omega, hrow _ (by omega)]
    refine k_Mo_ofFact hp hf4 (by omega) ?_
    simp only [↓zq, ↓reduceIte, zr_si2, zr_sr1, zr_cp2, zr_tl, zr_tn, shq, List.contains_nil, List.contains_cons, Nat.reduceBEq, Bool.false_or, Bool.or_false, Bool.true_or, Bool.false_eq_true, if_false, if_true, true_and, and_true, List.set_cons_zero, List.set_cons_succ, List.length_cons, List.length_nil, Nat.reduceAdd, Nat.reduceLeDiff, Nat.le_refl, Nat.zero_le, true_or, or_true, zn_cl, ↓jj_Mo_isLet, sh, nI_1]
    rw [zo_F_at hF hf hs]
    refine k_Mo_has (zw_R_at hwr hs).2 (zw_F_s hw hf hs) ?_
    simp only [↓zq, ↓reduceIte, zr_si2, zr_sr1, zr_cp2, zr_tl, zr_tn, shq, List.contains_nil, List.contains_cons, Nat.reduceBEq, Bool.false_or, Bool.or_false, Bool.true_or, Bool.false_eq_true, if_false, if_true, true_and, and_true, List.set_cons_zero, List.set_cons_succ, List.length_cons, List.length_nil, Nat.reduceAdd, Nat.reduceLeDiff, Nat.le_refl, Nat.zero_le, true_or, or_true, zn_cl, ↓jj_Mo_isLet, sh, nI_1]
    cases e : (row (3 + s)).testBit (F.2.1 f s)
    · simp only [Bool.false_eq_true, if_false]
      exact ⟨fun z => absurd trivial z, fun _ => h0 e⟩
    · simp only [if_true]
      exact ⟨fun _ => h1 e, fun z => absurd z (by decide)⟩
  refine st_Mo_isLet [3] 9 ?_
  simp only [↓zq, ↓reduceIte, zr_si2, zr_sr1, zr_cp2, zr_tl, zr_tn, shq, List.contains_nil, List.contains_cons, Nat.reduceBEq, Bool.false_or, Bool.or_false, Bool.true_or, Bool.false_eq_true, if_false, if_true, true_and, and_true, List.set_cons_zero, List.set_cons_succ, List.length_cons, List.length_nil, Nat.reduceAdd, Nat.reduceLeDiff, Nat.le_refl, Nat.zero_le, true_or, or_true, zn_cl, ↓jj_Mo_isLet]
  unfold zs_let at hR
  refine step 0 (by decide) (fun e => ?_) (fun e => ?_)
  · rw [show (row 3).testBit (F.2.1 f 0) = false from e] at hR
    simpa using hR
  · rw [show (row 3).testBit (F.2.1 f 0) = true from e] at hR
    refine step 1 (by decide) (fun e => ?_) (fun e => ?_)
    · rw [show (row 4).testBit (F.2.1 f 1) = false from e] at hR
      simpa using hR
    · rw [show (row 4).testBit (F.2.1 f 1) = true from e] at hR
      refine step 2 (by decide) (fun e => ?_) (fun e => ?_)
      · rw [show (row 5).testBit (F.2.1 f 2) = false from e] at hR
        simpa using hR
      · rw [show (row 5).testBit (F.2.1 f 2) = true from e] at hR
        refine zm_go g_Mo_isLet [3] 30 (by decide +kernel) ok_Mo_isLet _ rfl ?_
        simp only [↓zq, ↓reduceIte, zr_si2, zr_sr1, zr_cp2, zr_tl, zr_tn, shq, List.contains_nil, List.contains_cons, Nat.reduceBEq, Bool.false_or, Bool.or_false, Bool.true_or, Bool.false_eq_true, if_false, if_true, true_and, and_true, List.set_cons_zero, List.set_cons_succ, List.length_cons, List.length_nil, Nat.reduceAdd, Nat.reduceLeDiff, Nat.le_refl, Nat.zero_le, true_or, or_true, zn_cl, ↓jj_Mo_isLet]
        exact ⟨fun _ => hR, fun z => absurd (by decide) z⟩
set_option maxHeartbeats 4000000 in
set_option maxRecDepth 100000 in
theorem k_Mo_tripleOf {d : Nat} {h : zm_M} {R : zm_R} {ra fr f : Nat} {F : zs_F} {sp row : Nat → Nat} (hp : h.2 133 4 = some 134) (hp2 : h.2 133 6 = some 136) (hF : zo_F h.1 F) (hw : zw_F F) (hf : f < F.1) (hsp : zo_S h.1 sp) (hs : zw_S sp) (hr : zo_Row h.1 ra fr row) (hwr : zw_R row) (hR : R (some (.inl (nI (zs_key sp row (F.2.1 f))))) h) : zm_C (d + 2) TT m_Mo_tripleOf [.inr (some 133), .inr (some ra), .inl (nI fr), .inl (nI f)] h R := by
  obtain ⟨len, sh, hl1, hl2, hrow⟩ := hr
  have hf4 := (zw_F_at hw hf).2.2.2.2
  have step : ∀ (s acc : Nat), s < 3 → acc < 64 → zm_W (zm_md m_Mo_tripleOf) (d + 2) TT R 6 [some (.inr (some 133)), some (.inr (some ra)), some (.inl (nI fr)), some (.inl (nI f)), some (.inl (nI (8 * acc + zs_num sp s (row s) (F.2.1 f s)))), some (.inl (nI (s + 1)))] [] h → zm_W (zm_md m_Mo_tripleOf) (d + 2) TT R 6 [some (.inr (some 133)), some (.inr (some ra)), some (.inl (nI fr)), some (.inl (nI f)), some (.inl (nI acc)), some (.inl (nI s))] [] h := by
    intro s acc hs ha h1
    refine zm_go g_Mo_tripleOf [6] 30 (by decide +kernel) ok_Mo_tripleOf _ rfl ?_
    simp only [↓zq, ↓reduceIte, zr_si2, zr_sr1, zr_cp2, zr_tl, zr_tn, shq, List.contains_nil, List.contains_cons, Nat.reduceBEq, Bool.false_or, Bool.or_false, Bool.true_or, Bool.false_eq_true, if_false, if_true, true_and, and_true, List.set_cons_zero, List.set_cons_succ, List.length_cons, List.length_nil, Nat.reduceAdd, Nat.reduceLeDiff, Nat.le_refl, Nat.zero_le, true_or, or_true, zn_cl, ↓jj_Mo_tripleOf, sh, nI_1, nI_add]
    refine ⟨fun z => absurd z (nI_ge (b := 3) hs (by decide)), fun _ => ⟨vp_in_nI (by omega) (by omega), ?_⟩⟩
    rw [nI_clamp (by omega), hrow _ (by omega)]
    refine k_Mo_ofFact hp hf4 (by omega) ?_
    simp only [↓zq, ↓reduceIte, zr_si2, zr_sr1, zr_cp2, zr_tl, zr_tn, shq, List.contains_nil, List.contains_cons, Nat.reduceBEq, Bool.false_or, Bool.or_false, Bool.true_or, Bool.false_eq_true, if_false, if_true, true_and, and_true, List.set_cons_zero, List.set_cons_succ, List.length_cons, List.length_nil, Nat.reduceAdd, Nat.reduceLeDiff, Nat.le_refl, Nat.zero_le, true_or, or_true, zn_cl, ↓jj_Mo_tripleOf, sh, nI_1, nI_add]
    rw [zo_F_at hF hf hs]
    refine k_Mo_numberAt hp2 hsp hs (zw_R_at hwr hs).1 (zw_F_s hw hf hs) ?_
    simp only [↓zq, ↓reduceIte, zr_si2, zr_sr1, zr_cp2, zr_tl, zr_tn, shq, List.contains_nil, List.contains_cons, Nat.reduceBEq, Bool.false_or, Bool.or_false, Bool.true_or, Bool.false_eq_true, if_false, if_true, true_and, and_true, List.set_cons_zero, List.set_cons_succ, List.length_cons, List.length_nil, Nat.reduceAdd, Nat.reduceLeDiff, Nat.le_refl, Nat.zero_le, true_or, or_true, zn_cl, ↓jj_Mo_tripleOf, sh, nI_1]
    rw [show (8 : Int32) = nI 8 from rfl, pk_mul, nI_add]
    exact h1
  have n0 := zs_num_lt (lev := row 0) hs (show 0 < 3 by decide) (zw_F_s hw hf (show 0 < 3 by decide))
  have n1 := zs_num_lt (lev := row 1) hs (show 1 < 3 by decide) (zw_F_s hw hf (show 1 < 3 by decide))
  refine st_Mo_tripleOf [6] 9 ?_
  simp only [↓zq, ↓reduceIte, zr_si2, zr_sr1, zr_cp2, zr_tl, zr_tn, shq, List.contains_nil, List.contains_cons, Nat.reduceBEq, Bool.false_or, Bool.or_false, Bool.true_or, Bool.false_eq_true, if_false, if_true, true_and, and_true, List.set_cons_zero, List.set_cons_succ, List.length_cons, List.length_nil, Nat.reduceAdd, Nat.reduceLeDiff, Nat.le_refl, Nat.zero_le, true_or, or_true, zn_cl, ↓jj_Mo_tripleOf]
  refine step 0 0 (by decide) (by decide) ?_
  refine step 1 _ (by decide) (by omega) ?_
  refine step 2 _ (by decide) (by omega) ?_
  refine zm_go g_Mo_tripleOf [6] 30 (by decide +kernel) ok_Mo_tripleOf _ rfl ?_
  simp only [↓zq, ↓reduceIte, zr_si2, zr_sr1, zr_cp2, zr_tl, zr_tn, shq, List.contains_nil, List.contains_cons, Nat.reduceBEq, Bool.false_or, Bool.or_false, Bool.true_or, Bool.false_eq_true, if_false, if_true, true_and, and_true, List.set_cons_zero, List.set_cons_succ, List.length_cons, List.length_nil, Nat.reduceAdd, Nat.reduceLeDiff, Nat.le_refl, Nat.zero_le, true_or, or_true, zn_cl, ↓jj_Mo_tripleOf]
  refine ⟨fun _ => ?_, fun z => absurd (by decide) z⟩
  unfold zs_key at hR
  rw [show 8 * (8 * (8 * 0 + zs_num sp 0 (row 0) (F.2.1 f 0)) + zs_num sp 1 (row 1) (F.2.1 f 1)) + zs_num sp 2 (row 2) (F.2.1 f 2) = 64 * zs_num sp 0 (row 0) (F.2.1 f 0) + 8 * zs_num sp 1 (row 1) (F.2.1 f 1) + zs_num sp 2 (row 2) (F.2.1 f 2) by omega]
  exact hR
