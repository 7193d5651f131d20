/-! sums closed -/
def r_cl (all : Bool) (x : Nat) : Prop := (4 ≤ x ∧ x ≤ 6) ∨ (all = true ∧ (x = 2 ∨ x = 3))
/-- pending signs: none, a sign, on top of k -/
def zr_pd (o : Option Nat) (k : zr_K) : zr_K := match o with
  | none => k
  | some op => (op, 0) :: k
theorem zr_top_lt {x : Nat × Nat} {k : zr_K} (hx : x.1 ≤ 14) (m : Nat) (hm : m < 2 ^ 31) : (zr_top (x :: k) < nI m) = (x.1 < m) := zn_lt (by omega) hm
/-! one that closes is noted and gone -/
set_option maxHeartbeats 4000000 in
set_option maxRecDepth 100000 in
theorem k_Mo_closes1 {d : Nat} {h : zm_M} {R : zm_R} {T : Nat → Nat} {n p o : Nat} {c : zl_c} {x : Nat × Nat} {k : zr_K} {all : Bool} (hs : zr_s h T n p c (x :: k) o) (hx : r_cl all x.1) (hc : c.1 < 240) (hR : ∀ h' : zm_M, zr_f2 h h' → zr_s h' T n p (lc_push x.1 0 c) k o → zm_W (zm_md m_Mo_closesSums) (d + 2) TT R 0 [some (.inr (some 133)), some (.inl (if all = true then 1 else 0))] [] h') : zm_W (zm_md m_Mo_closesSums) (d + 2) TT R 0 [some (.inr (some 133)), some (.inl (if all = true then 1 else 0))] [] h := by
  have hx14 : x.1 ≤ 6 := by unfold r_cl at hx; omega
  have tp : zr_top (x :: k) = nI x.1 := rfl
  have at37 : zm_W (zm_md m_Mo_closesSums) (d + 2) TT R 37 [some (.inr (some 133)), some (.inl (if all = true then 1 else 0))] [] h := by
    refine zm_go g_Mo_closesSums [0, 37, 59] 30 (by decide +kernel) ok_Mo_closesSums _ rfl ?_
    simp only [↓zq, ↓reduceIte, zr_si2, zr_sr1, zr_cp2, zr_tl, zr_tn, shq, List.contains_nil, List.contains_cons, Nat.reduceBEq, Bool.false_or, Bool.or_false, Bool.true_or, Bool.false_eq_true, if_false, if_true, true_and, and_true, List.set_cons_zero, List.set_cons_succ, List.length_cons, List.length_nil, Nat.reduceAdd, Nat.reduceLeDiff, Nat.le_refl, Nat.zero_le, true_or, or_true, zn_cl, ↓jj_Mo_closesSums]
    refine k_Mo_waitTop hs ?_
    rw [tp]
    simp only [↓zq, ↓reduceIte, zr_si2, zr_sr1, zr_cp2, zr_tl, zr_tn, shq, List.contains_nil, List.contains_cons, Nat.reduceBEq, Bool.false_or, Bool.or_false, Bool.true_or, Bool.false_eq_true, if_false, if_true, true_and, and_true, List.set_cons_zero, List.set_cons_succ, List.length_cons, List.length_nil, Nat.reduceAdd, Nat.reduceLeDiff, Nat.le_refl, Nat.zero_le, true_or, or_true, zn_cl, ↓jj_Mo_closesSums]
    refine k_Mo_notes (v := 0) hs (by omega) (by decide) hc (fun h2 f2 s2 => ?_)
    obtain ⟨e1, f3, s3⟩ := zr_pop s2
    simp only [↓zq, ↓reduceIte, zr_si2, zr_sr1, zr_cp2, zr_tl, zr_tn, shq, List.contains_nil, List.contains_cons, Nat.reduceBEq, Bool.false_or, Bool.or_false, Bool.true_or, Bool.false_eq_true, if_false, if_true, true_and, and_true, List.set_cons_zero, List.set_cons_succ, List.length_cons, List.length_nil, Nat.reduceAdd, Nat.reduceLeDiff, Nat.le_refl, Nat.zero_le, true_or, or_true, zn_cl, ↓jj_Mo_closesSums, e1]
    exact hR _ (f2.tr f3) s3
  refine zm_go g_Mo_closesSums [0, 37, 59] 30 (by decide +kernel) ok_Mo_closesSums _ rfl ?_
  simp only [↓zq, ↓reduceIte, zr_si2, zr_sr1, zr_cp2, zr_tl, zr_tn, shq, List.contains_nil, List.contains_cons, Nat.reduceBEq, Bool.false_or, Bool.or_false, Bool.true_or, Bool.false_eq_true, if_false, if_true, true_and, and_true, List.set_cons_zero, List.set_cons_succ, List.length_cons, List.length_nil, Nat.reduceAdd, Nat.reduceLeDiff, Nat.le_refl, Nat.zero_le, true_or, or_true, zn_cl, ↓jj_Mo_closesSums]
  refine k_Mo_waitTop hs ?_
  have l4 : (nI x.1 < 4) = (x.1 < 4) := zn_lt (b := 4) (by omega) (by decide)
  have l6 : (nI x.1 ≤ 6) = (x.1 ≤ 6) := zn_le (b := 6) (by omega) (by decide)
  have q2 : (nI x.1 = 2) = (x.1 = 2) := zn_eq (b := 2) (by omega) (by decide)
  have q3 : (nI x.1 = 3) = (x.1 = 3) := zn_eq (b := 3) (by omega) (by decide)
  rw [tp]
  simp only [↓zq, ↓reduceIte, zr_si2, zr_sr1, zr_cp2, zr_tl, zr_tn, shq, List.contains_nil, List.contains_cons, Nat.reduceBEq, Bool.false_or, Bool.or_false, Bool.true_or, Bool.false_eq_true, if_false, if_true, true_and, and_true, List.set_cons_zero, List.set_cons_succ, List.length_cons, List.length_nil, Nat.reduceAdd, Nat.reduceLeDiff, Nat.le_refl, Nat.zero_le, true_or, or_true, zn_cl, ↓jj_Mo_closesSums, l4]
  refine ⟨fun z => ?_, fun z => ?_⟩
  · have ha : all = true ∧ (x.1 = 2 ∨ x.1 = 3) := by
      rcases hx with y | y
      · omega
      · exact y
    rw [if_pos ha.1] at at37 ⊢
    refine ⟨fun z => absurd z (by decide), fun _ => ?_⟩
    refine k_Mo_waitTop hs ?_
    rw [tp]
    simp only [↓zq, ↓reduceIte, zr_si2, zr_sr1, zr_cp2, zr_tl, zr_tn, shq, List.contains_nil, List.contains_cons, Nat.reduceBEq, Bool.false_or, Bool.or_false, Bool.true_or, Bool.false_eq_true, if_false, if_true, true_and, and_true, List.set_cons_zero, List.set_cons_succ, List.length_cons, List.length_nil, Nat.reduceAdd, Nat.reduceLeDiff, Nat.le_refl, Nat.zero_le, true_or, or_true, zn_cl, ↓jj_Mo_closesSums, q2]
    refine ⟨fun _ => at37, fun z2 => ?_⟩
    refine k_Mo_waitTop hs ?_
    rw [tp]
    simp only [↓zq, ↓reduceIte, zr_si2, zr_sr1, zr_cp2, zr_tl, zr_tn, shq, List.contains_nil, List.contains_cons, Nat.reduceBEq, Bool.false_or, Bool.or_false, Bool.true_or, Bool.false_eq_true, if_false, if_true, true_and, and_true, List.set_cons_zero, List.set_cons_succ, List.length_cons, List.length_nil, Nat.reduceAdd, Nat.reduceLeDiff, Nat.le_refl, Nat.zero_le, true_or, or_true, zn_cl, ↓jj_Mo_closesSums, q3]
    exact ⟨fun z3 => absurd ha.2 (by omega), fun _ => at37⟩
  · refine k_Mo_waitTop hs ?_
    rw [tp]
    simp only [↓zq, ↓reduceIte, zr_si2, zr_sr1, zr_cp2, zr_tl, zr_tn, shq, List.contains_nil, List.contains_cons, Nat.reduceBEq, Bool.false_or, Bool.or_false, Bool.true_or, Bool.false_eq_true, if_false, if_true, true_and, and_true, List.set_cons_zero, List.set_cons_succ, List.length_cons, List.length_nil, Nat.reduceAdd, Nat.reduceLeDiff, Nat.le_refl, Nat.zero_le, true_or, or_true, zn_cl, ↓jj_Mo_closesSums, l6]
    exact ⟨fun _ => at37, fun z2 => absurd hx14 z2⟩
/-! none that closes: it ends -/
set_option maxHeartbeats 4000000 in
set_option maxRecDepth 100000 in
theorem k_Mo_closes0 {d : Nat} {h : zm_M} {R : zm_R} {T : Nat → Nat} {n p o : Nat} {c : zl_c} {k : zr_K} {all : Bool} (hs : zr_s h T n p c k o) (hx : ∀ x r, k = x :: r → ¬ r_cl all x.1) (hR : R none h) : zm_W (zm_md m_Mo_closesSums) (d + 2) TT R 0 [some (.inr (some 133)), some (.inl (if all = true then 1 else 0))] [] h := by
  have out : zm_W (zm_md m_Mo_closesSums) (d + 2) TT R 59 [some (.inr (some 133)), some (.inl (if all = true then 1 else 0))] [] h := by
    refine zm_go g_Mo_closesSums [0, 37, 59] 30 (by decide +kernel) ok_Mo_closesSums _ rfl ?_
    simp only [↓zq, ↓reduceIte, zr_si2, zr_sr1, zr_cp2, zr_tl, zr_tn, shq, List.contains_nil, List.contains_cons, Nat.reduceBEq, Bool.false_or, Bool.or_false, Bool.true_or, Bool.false_eq_true, if_false, if_true, true_and, and_true, List.set_cons_zero, List.set_cons_succ, List.length_cons, List.length_nil, Nat.reduceAdd, Nat.reduceLeDiff, Nat.le_refl, Nat.zero_le, true_or, or_true, zn_cl, ↓jj_Mo_closesSums]
    exact hR
  have lt4 : ¬ zr_top k < 4 → 6 < zr_top k := by
    intro z
    match k, hx, z, hs with
    | [], hx, z, hs => exact absurd (by decide) z
    | x :: r, hx, z, hs =>
      have hx14 := hs.2.2.2.1.2.2.2.1
      have l4 : (nI x.1 < 4) = (x.1 < 4) := zn_lt (b := 4) (by omega) (by decide)
      have z' : ¬ nI x.1 < 4 := z
      rw [l4] at z'
      have := hx x r rfl
      unfold r_cl at this
      exact nI_lt (a := 6) (by omega) (by omega)
  have n23 : all = true → ¬ zr_top k = 2 ∧ ¬ zr_top k = 3 := by
    intro ha
    match k, hx, hs with
    | [], hx, hs => exact ⟨by decide, by decide⟩
    | x :: r, hx, hs =>
      have hx14 := hs.2.2.2.1.2.2.2.1
      have q2 : (nI x.1 = 2) = (x.1 = 2) := zn_eq (b := 2) (by omega) (by decide)
      have q3 : (nI x.1 = 3) = (x.1 = 3) := zn_eq (b := 3) (by omega) (by decide)
      have := hx x r rfl
      unfold r_cl at this
      refine ⟨fun z => ?_, fun z => ?_⟩
      · have z' : nI x.1 = 2 := z
        rw [q2] at z'
        exact this (Or.inr ⟨ha, Or.inl z'⟩)
      · have z' : nI x.1 = 3 := z
        rw [q3] at z'
        exact this (Or.inr ⟨ha, Or.inr z'⟩)
  have at17 : zm_W (zm_md m_Mo_closesSums) (d + 2) TT R 17 [some (.inr (some 133)), some (.inl (if all = true then 1 else 0))] [] h := by
    by_cases ha : all = true
    · obtain ⟨n2, n3⟩ := n23 ha
      rw [if_pos ha] at out ⊢
      refine zm_go g_Mo_closesSums [0, 37, 59] 30 (by decide +kernel) ok_Mo_closesSums _ rfl ?_
      simp only [↓zq, ↓reduceIte, zr_si2, zr_sr1, zr_cp2, zr_tl, zr_tn, shq, List.contains_nil, List.contains_cons, Nat.reduceBEq, Bool.false_or, Bool.or_false, Bool.true_or, Bool.false_eq_true, if_false, if_true, true_and, and_true, List.set_cons_zero, List.set_cons_succ, List.length_cons, List.length_nil, Nat.reduceAdd, Nat.reduceLeDiff, Nat.le_refl, Nat.zero_le, true_or, or_true, zn_cl, ↓jj_Mo_closesSums]
      refine ⟨fun z => absurd z (by decide), fun _ => k_Mo_waitTop hs ?_⟩
      simp only [↓zq, ↓reduceIte, zr_si2, zr_sr1, zr_cp2, zr_tl, zr_tn, shq, List.contains_nil, List.contains_cons, Nat.reduceBEq, Bool.false_or, Bool.or_false, Bool.true_or, Bool.false_eq_true, if_false, if_true, true_and, and_true, List.set_cons_zero, List.set_cons_succ, List.length_cons, List.length_nil, Nat.reduceAdd, Nat.reduceLeDiff, Nat.le_refl, Nat.zero_le, true_or, or_true, zn_cl, ↓jj_Mo_closesSums]
      refine ⟨fun z => absurd z n2, fun _ => k_Mo_waitTop hs ?_⟩
      simp only [↓zq, ↓reduceIte, zr_si2, zr_sr1, zr_cp2, zr_tl, zr_tn, shq, List.contains_nil, List.contains_cons, Nat.reduceBEq, Bool.false_or, Bool.or_false, Bool.true_or, Bool.false_eq_true, if_false, if_true, true_and, and_true, List.set_cons_zero, List.set_cons_succ, List.length_cons, List.length_nil, Nat.reduceAdd, Nat.reduceLeDiff, Nat.le_refl, Nat.zero_le, true_or, or_true, zn_cl, ↓jj_Mo_closesSums]
      exact ⟨fun _ => out, fun z => absurd z n3⟩
    · rw [if_neg ha] at out ⊢
      refine zm_go g_Mo_closesSums [0, 37, 59] 30 (by decide +kernel) ok_Mo_closesSums _ rfl ?_
      simp only [↓zq, ↓reduceIte, zr_si2, zr_sr1, zr_cp2, zr_tl, zr_tn, shq, List.contains_nil, List.contains_cons, Nat.reduceBEq, Bool.false_or, Bool.or_false, Bool.true_or, Bool.false_eq_true, if_false, if_true, true_and, and_true, List.set_cons_zero, List.set_cons_succ, List.length_cons, List.length_nil, Nat.reduceAdd, Nat.reduceLeDiff, Nat.le_refl, Nat.zero_le, true_or, or_true, zn_cl, ↓jj_Mo_closesSums]
      exact ⟨fun _ => out, fun z => (by first | exact absurd trivial z | exact absurd rfl z | exact absurd z (by decide))⟩
  refine zm_go g_Mo_closesSums [0, 17, 37, 59] 30 (by decide +kernel) ok_Mo_closesSums _ rfl ?_
  simp only [↓zq, ↓reduceIte, zr_si2, zr_sr1, zr_cp2, zr_tl, zr_tn, shq, List.contains_nil, List.contains_cons, Nat.reduceBEq, Bool.false_or, Bool.or_false, Bool.true_or, Bool.false_eq_true, if_false, if_true, true_and, and_true, List.set_cons_zero, List.set_cons_succ, List.length_cons, List.length_nil, Nat.reduceAdd, Nat.reduceLeDiff, Nat.le_refl, Nat.zero_le, true_or, or_true, zn_cl, ↓jj_Mo_closesSums]
  refine k_Mo_waitTop hs ?_
  simp only [↓zq, ↓reduceIte, zr_si2, zr_sr1, zr_cp2, zr_tl, zr_tn, shq, List.contains_nil, List.contains_cons, Nat.reduceBEq, Bool.false_or, Bool.or_false, Bool.true_or, Bool.false_eq_true, if_false, if_true, true_and, and_true, List.set_cons_zero, List.set_cons_succ, List.length_cons, List.length_nil, Nat.reduceAdd, Nat.reduceLeDiff, Nat.le_refl, Nat.zero_le, true_or, or_true, zn_cl, ↓jj_Mo_closesSums]
  refine ⟨fun _ => at17, fun z => k_Mo_waitTop hs ?_⟩
  simp only [↓zq, ↓reduceIte, zr_si2, zr_sr1, zr_cp2, zr_tl, zr_tn, shq, List.contains_nil, List.contains_cons, Nat.reduceBEq, Bool.false_or, Bool.or_false, Bool.true_or, Bool.false_eq_true, if_false, if_true, true_and, and_true, List.set_cons_zero, List.set_cons_succ, List.length_cons, List.length_nil, Nat.reduceAdd, Nat.reduceLeDiff, Nat.le_refl, Nat.zero_le, true_or, or_true, zn_cl, ↓jj_Mo_closesSums]
  refine ⟨fun z2 => ?_, fun _ => at17⟩
  have := lt4 z
  rw [Int32.le_iff_toInt_le] at z2
  rw [Int32.lt_iff_toInt_lt] at this
  omega
/-- what is below a sum's own signs: nothing that closes -/
def r_bs (k : zr_K) : Prop := ∀ x r, k = x :: r → ¬ r_cl true x.1
theorem r_bs_f {k : zr_K} (h : r_bs k) : ∀ x r, k = x :: r → ¬ r_cl false x.1 := fun x r e z => h x r e (by
  unfold r_cl at *
  rcases z with z | z
  · exact Or.inl z
  · exact absurd z.1 (by decide))
theorem zr_wt_pd (o : Option Nat) (k : zr_K) (ho : ∀ op, o = some op → op ≤ 6) : zr_wt (zr_pd o k) = l_cn o + zr_wt k := by
  cases o with
  | none => simp [zr_pd, l_cn]
  | some op =>
    have := ho op rfl
    show (if op = 11 ∨ op = 12 then 0 else 1) + zr_wt k = 1 + zr_wt k
    rw [if_neg (by omega)]
/-! at + or -, at the end: both signs that wait are noted -/
set_option maxHeartbeats 4000000 in
set_option maxRecDepth 100000 in
theorem k_Mo_closesAll {d : Nat} {h : zm_M} {R : zm_R} {T : Nat → Nat} {n p o : Nat} {c : zl_c} {k : zr_K} {ts fs : Option Nat} (hs : zr_s h T n p c (zr_pd fs (zr_pd ts k)) o) (hts : ∀ op, ts = some op → op = 2 ∨ op = 3) (hfs : ∀ op, fs = some op → 4 ≤ op ∧ op ≤ 6) (hk : r_bs k) (hc : c.1 + l_cn fs + l_cn ts ≤ 240) (hR : ∀ h' : zm_M, zr_f2 h h' → zr_s h' T n p (lc_wait ts (lc_wait fs c)) k o → R none h') : zm_C (d + 2) TT m_Mo_closesSums [.inr (some 133), .inl 1] h R := by
  have end1 : ∀ (g : zm_M) (c1 : zl_c), zr_f2 h g → zr_s g T n p c1 (zr_pd ts k) o → c1.1 + l_cn ts ≤ 240 → lc_wait ts c1 = lc_wait ts (lc_wait fs c) → zm_W (zm_md m_Mo_closesSums) (d + 2) TT R 0 [some (.inr (some 133)), some (.inl (if true = true then 1 else 0))] [] g := by
    intro g c1 hf hs1 hc1 he
    match ts, hts, hs1, hc1, he, hR with
    | none, hts, hs1, hc1, he, hR => exact k_Mo_closes0 hs1 hk (hR g hf (by rw [← he]; exact hs1))
    | some op, hts, hs1, hc1, he, hR =>
      have e1 : l_cn (some op) = 1 := rfl
      refine k_Mo_closes1 (all := true) hs1 (Or.inr ⟨rfl, hts op rfl⟩) (by omega) (fun g2 f2 s2 => ?_)
      exact k_Mo_closes0 s2 hk (hR g2 (hf.tr f2) (by rw [← he]; exact s2))
  refine st_Mo_closesSums [0] 30 ?_
  simp only [↓zq, ↓reduceIte, zr_si2, zr_sr1, zr_cp2, zr_tl, zr_tn, shq, List.contains_nil, List.contains_cons, Nat.reduceBEq, Bool.false_or, Bool.or_false, Bool.true_or, Bool.false_eq_true, if_false, if_true, true_and, and_true, List.set_cons_zero, List.set_cons_succ, List.length_cons, List.length_nil, Nat.reduceAdd, Nat.reduceLeDiff, Nat.le_refl, Nat.zero_le, true_or, or_true, zn_cl, ↓jj_Mo_closesSums]
  match fs, hfs, hs, hc, end1 with
  | none, hfs, hs, hc, end1 => exact end1 h c (zr_f2.rf h) hs (by have : l_cn none = 0 := rfl; omega) rfl
  | some op, hfs, hs, hc, end1 =>
    have e1 : l_cn (some op) = 1 := rfl
    have hl := (lc_push_at (op := op) (v := 0) (c := c) (by omega)).1
    exact k_Mo_closes1 (all := true) hs (Or.inl (hfs op rfl)) (by omega) (fun g2 f2 s2 => end1 g2 _ f2 s2 (by rw [hl]; omega) rfl)
set_option maxHeartbeats 4000000 in
set_option maxRecDepth 100000 in
theorem k_Mo_closesF {d : Nat} {h : zm_M} {R : zm_R} {T : Nat → Nat} {n p o : Nat} {c : zl_c} {k : zr_K} {ts fs : Option Nat} (hs : zr_s h T n p c (zr_pd fs (zr_pd ts k)) o) (hts : ∀ op, ts = some op → op = 2 ∨ op = 3) (hfs : ∀ op, fs = some op → 4 ≤ op ∧ op ≤ 6) (hk : r_bs k) (hc : c.1 + l_cn fs + l_cn ts ≤ 240) (hR : ∀ h' : zm_M, zr_f2 h h' → zr_s h' T n p (lc_wait fs c) (zr_pd ts k) o → R none h') : zm_C (d + 2) TT m_Mo_closesSums [.inr (some 133), .inl 0] h R := by
  have nb : ∀ x r, zr_pd ts k = x :: r → ¬ r_cl false x.1 := by
    intro x r e
    match ts, hts, e with
    | none, hts, e => exact r_bs_f hk x r e
    | some op, hts, e =>
      have e' : (op, 0) :: k = x :: r := e
      cases e'
      have := hts op rfl
      unfold r_cl
      rintro (z | z)
      · omega
      · exact absurd z.1 (by decide)
  refine st_Mo_closesSums [0] 30 ?_
  simp only [↓zq, ↓reduceIte, zr_si2, zr_sr1, zr_cp2, zr_tl, zr_tn, shq, List.contains_nil, List.contains_cons, Nat.reduceBEq, Bool.false_or, Bool.or_false, Bool.true_or, Bool.false_eq_true, if_false, if_true, true_and, and_true, List.set_cons_zero, List.set_cons_succ, List.length_cons, List.length_nil, Nat.reduceAdd, Nat.reduceLeDiff, Nat.le_refl, Nat.zero_le, true_or, or_true, zn_cl, ↓jj_Mo_closesSums]
  match fs, hfs, hs, hc, hR with
  | none, hfs, hs, hc, hR => exact k_Mo_closes0 (all := false) hs nb (hR h (zr_f2.rf h) hs)
  | some op, hfs, hs, hc, hR =>
    have e1 : l_cn (some op) = 1 := rfl
    exact k_Mo_closes1 (all := false) hs (Or.inl (hfs op rfl)) (by omega) (fun g2 f2 s2 => k_Mo_closes0 (all := false) s2 nb (hR g2 f2 s2))
