/-! facts by rising measure -/
/-- of the first n, how many are of measure m -/
def zs_cb (me : Nat → Nat) (m : Nat) : Nat → Nat
  | 0 => 0
  | n + 1 => zs_cb me m n + if me n = m then 1 else 0
/-- of the first n, how many are of a measure below m -/
def zs_st (me : Nat → Nat) (n : Nat) : Nat → Nat
  | 0 => 0
  | m + 1 => zs_st me n m + zs_cb me m n
/-- the place of fact f -/
def zs_rk2 (me : Nat → Nat) (n f : Nat) : Nat := zs_st me n (me f) + zs_cb me (me f) f
theorem zs_cb_le (me : Nat → Nat) (m : Nat) : ∀ n, zs_cb me m n ≤ n
  | 0 => Nat.le_refl 0
  | n + 1 => by
    have := zs_cb_le me m n
    rw [zs_cb]
    split <;> omega
theorem zs_cb_mono (me : Nat → Nat) (m n : Nat) : ∀ k, zs_cb me m n ≤ zs_cb me m (n + k)
  | 0 => Nat.le_refl _
  | k + 1 => by
    have := zs_cb_mono me m n k
    show _ ≤ zs_cb me m (n + k + 1)
    rw [zs_cb]
    omega
theorem zs_cb_lt {me : Nat → Nat} {n f : Nat} (hf : f < n) : zs_cb me (me f) f < zs_cb me (me f) n := by
  have h := zs_cb_mono me (me f) (f + 1) (n - (f + 1))
  rw [show f + 1 + (n - (f + 1)) = n by omega, zs_cb, if_pos rfl] at h
  omega
theorem zs_st_mono (me : Nat → Nat) (n m : Nat) : ∀ k, zs_st me n m ≤ zs_st me n (m + k)
  | 0 => Nat.le_refl _
  | k + 1 => by
    have := zs_st_mono me n m k
    show _ ≤ zs_st me n (m + k + 1)
    rw [zs_st]
    omega
theorem zs_st_all {me : Nat → Nat} {M : Nat} : ∀ n, (∀ f, f < n → me f < M) → zs_st me n M = n
  | 0, _ => by
    induction M with
    | zero => rfl
    | succ M ih => rw [zs_st, ih (fun f hf => absurd hf (Nat.not_lt_zero f))]; rfl
  | n + 1, h => by
    have ih := zs_st_all n (fun f hf => h f (by omega))
    have key : ∀ m, zs_st me (n + 1) m = zs_st me n m + if me n < m then 1 else 0 := by
      intro m
      induction m with
      | zero => simp [zs_st]
      | succ m ihm =>
        rw [zs_st, zs_st, ihm, zs_cb]
        by_cases e : me n = m
        · rw [if_pos e, if_neg (by omega), if_pos (by omega)]; omega
        · rw [if_neg e]
          by_cases e2 : me n < m
          · rw [if_pos e2, if_pos (by omega)]; omega
          · rw [if_neg e2, if_neg (by omega)]; omega
    rw [key, ih, if_pos (h n (by omega))]
theorem zs_rk2_lt {me : Nat → Nat} {n f M : Nat} (h : ∀ f, f < n → me f < M) (hf : f < n) : zs_rk2 me n f < zs_st me n (me f + 1) ∧ zs_rk2 me n f < n := by
  have h1 := zs_cb_lt (me := me) hf
  have h2 : zs_rk2 me n f < zs_st me n (me f + 1) := by
    rw [zs_st]
    unfold zs_rk2
    omega
  have h3 := zs_st_mono me n (me f + 1) (M - (me f + 1))
  rw [show me f + 1 + (M - (me f + 1)) = M by have := h f hf; omega, zs_st_all n h] at h3
  exact ⟨h2, by omega⟩
/-- places rise with measures, and within one with the number -/
theorem zs_rk2_lt_of {me : Nat → Nat} {n f g M : Nat} (h : ∀ f, f < n → me f < M) (hf : f < n) (hm : me f < me g) : zs_rk2 me n f < zs_rk2 me n g := by
  obtain ⟨h1, -⟩ := zs_rk2_lt h hf
  have h3 := zs_st_mono me n (me f + 1) (me g - (me f + 1))
  rw [show me f + 1 + (me g - (me f + 1)) = me g by omega] at h3
  have : zs_st me n (me g) ≤ zs_rk2 me n g := Nat.le_add_right _ _
  omega
theorem zs_rk2_inj {me : Nat → Nat} {n f g M : Nat} (h : ∀ f, f < n → me f < M) (hf : f < n) (hg : g < n) (e : zs_rk2 me n f = zs_rk2 me n g) : f = g := by
  rcases Nat.lt_trichotomy (me f) (me g) with hm | hm | hm
  · have := zs_rk2_lt_of h hf hm; omega
  · unfold zs_rk2 at e
    rw [hm] at e
    rcases Nat.lt_trichotomy f g with q | q | q
    · have := zs_cb_lt (me := me) q
      rw [hm] at this; omega
    · exact q
    · have := zs_cb_lt (me := me) q
      omega
  · have := zs_rk2_lt_of h hg hm; omega
theorem zs_cb_hit {me : Nat → Nat} {m j : Nat} : ∀ n, j < zs_cb me m n → ∃ f, f < n ∧ me f = m ∧ zs_cb me m f = j
  | 0, h => absurd h (Nat.not_lt_zero j)
  | n + 1, h => by
    rw [zs_cb] at h
    by_cases q : j < zs_cb me m n
    · obtain ⟨f, a, b, c⟩ := zs_cb_hit n q
      exact ⟨f, by omega, b, c⟩
    · by_cases e : me n = m
      · rw [if_pos e] at h
        exact ⟨n, by omega, e, by omega⟩
      · rw [if_neg e] at h
        omega
theorem zs_st_hit {me : Nat → Nat} {n i : Nat} : ∀ M, i < zs_st me n M → ∃ m, m < M ∧ zs_st me n m ≤ i ∧ i < zs_st me n (m + 1)
  | 0, h => absurd h (Nat.not_lt_zero i)
  | M + 1, h => by
    by_cases q : i < zs_st me n M
    · obtain ⟨m, a, b, c⟩ := zs_st_hit M q
      exact ⟨m, by omega, b, c⟩
    · exact ⟨M, by omega, by omega, h⟩
theorem zs_rk2_hit {me : Nat → Nat} {n i M : Nat} (h : ∀ f, f < n → me f < M) (hi : i < n) : ∃ f, f < n ∧ zs_rk2 me n f = i := by
  obtain ⟨m, a, b, c⟩ := zs_st_hit (me := me) (n := n) (i := i) M (by rw [zs_st_all n h]; exact hi)
  rw [zs_st] at c
  obtain ⟨f, f1, f2, f3⟩ := zs_cb_hit (me := me) (m := m) (j := i - zs_st me n m) n (by omega)
  refine ⟨f, f1, ?_⟩
  unfold zs_rk2
  rw [f2, f3]
  omega
/-- nothing but cells 33, 34 has changed -/
def zc_f2 (h h' : zm_M) : Prop := h'.2 = h.2 ∧ ∀ a, (a < 33 ∨ 34 < a) → h'.1 a = h.1 a
theorem zc_f2.rf (h : zm_M) : zc_f2 h h := ⟨rfl, fun _ _ => rfl⟩
theorem zc_f2.tr {h h' h'' : zm_M} (a : zc_f2 h h') (b : zc_f2 h' h'') : zc_f2 h h'' := ⟨b.1.trans a.1, fun x hx => (b.2 x hx).trans (a.2 x hx)⟩
theorem zc_F_f2 {h h' : zm_M} {F : zs_F} (hf : zc_f2 h h') (hF : zc_F h.1 F) : zc_F h'.1 F := by
  unfold zc_F
  rw [hf.2 30 (by omega), hf.2 31 (by omega), hf.2 32 (by omega)]
  exact hF
set_option maxHeartbeats 4000000 in
set_option maxRecDepth 100000 in
theorem k_Facts_countMeasure {d : Nat} {h : zm_M} {R : zm_R} {m : Nat} (hp : zp_ok h.2) (hm : m < 100) (hR : R none (zm_si h 34 (m + 1) (h.1 34 (m + 1) + 1))) : zm_C (d + 1) TT m_Facts_countMeasure [.inr (some 30), .inl (nI m)] h R := by
  have p4 := (zp_30 hp).2.2.2.1
  have hv : vp_in (nI (m + 1)) 101 := vp_in_nI (by omega) (by decide)
  have hcl := nI_clamp (show m + 1 < 2 ^ 31 by omega)
  refine st_Facts_countMeasure [] 30 ?_
  simp only [↓zq, ↓reduceIte, zr_si2, zr_sr1, zr_cp2, zr_tl, zr_tn, shq, List.contains_nil, List.contains_cons, Nat.reduceBEq, Bool.false_or, Bool.or_false, Bool.true_or, Bool.false_eq_true, if_false, if_true, true_and, and_true, List.set_cons_zero, List.set_cons_succ, List.length_cons, List.length_nil, Nat.reduceAdd, Nat.reduceLeDiff, Nat.le_refl, Nat.zero_le, true_or, or_true, zn_cl, ↓jj_Facts_countMeasure, p4, nI_1, hv, hcl]
  exact ⟨fun z => absurd z (nI_pos (by omega)), fun _ => ⟨fun z => absurd z (nI_ge (b := 100) hm (by decide)), fun _ => hR⟩⟩
set_option maxHeartbeats 4000000 in
set_option maxRecDepth 100000 in
theorem k_Facts_nextRank {d : Nat} {h : zm_M} {R : zm_R} {m : Nat} (hp : zp_ok h.2) (hm : m < 100) (hR : R (some (.inl (h.1 34 m + 1 - 1))) (zm_si h 34 m (h.1 34 m + 1))) : zm_C (d + 1) TT m_Facts_nextRank [.inr (some 30), .inl (nI m)] h R := by
  have p4 := (zp_30 hp).2.2.2.1
  have hv : vp_in (nI m) 101 := vp_in_nI (by omega) (by decide)
  have hcl := nI_clamp (show m < 2 ^ 31 by omega)
  refine st_Facts_nextRank [] 30 ?_
  simp only [↓zq, ↓reduceIte, zr_si2, zr_sr1, zr_cp2, zr_tl, zr_tn, shq, List.contains_nil, List.contains_cons, Nat.reduceBEq, Bool.false_or, Bool.or_false, Bool.true_or, Bool.false_eq_true, if_false, if_true, true_and, and_true, List.set_cons_zero, List.set_cons_succ, List.length_cons, List.length_nil, Nat.reduceAdd, Nat.reduceLeDiff, Nat.le_refl, Nat.zero_le, true_or, or_true, zn_cl, ↓jj_Facts_nextRank, p4, hv, hcl]
  refine ⟨fun z => absurd z (nI_pos (by omega)), fun _ => ⟨fun _ => ?_, fun z => absurd (nI_lt (b := 100) hm (by decide)) z⟩⟩
  simp only [zr_si1, and_self, if_true]
  exact hR
set_option maxHeartbeats 4000000 in
set_option maxRecDepth 100000 in
theorem k_Facts_sortByMeasure {d : Nat} {h : zm_M} {R : zm_R} {F : zs_F} (hp : zp_ok h.2) (hF : zc_F h.1 F) (hw : zw_F F) (hR : ∀ h' : zm_M, zc_f2 h h' → (∀ f, f < F.1 → h'.1 33 (zs_rk2 F.2.2 F.1 f) = nI f) → R none h') : zm_C (d + 2) TT m_Facts_sortByMeasure [.inr (some 30)] h R := by
  have hw1 := hw.1
  have hmM : ∀ f, f < F.1 → F.2.2 f < 100 := fun f hf => (zw_F_at hw hf).2.2.2.1
  have p3 := (zp_30 hp).2.2.1
  have p4 := (zp_30 hp).2.2.2.1
  have loop3 : ∀ (n f : Nat), f + n = F.1 → ∀ (g : zm_M) (o : Option zm_V), zc_f2 h g → (∀ m, m < 100 → g.1 34 m = nI (zs_st F.2.2 F.1 m + zs_cb F.2.2 m f)) → (∀ k, k < f → g.1 33 (zs_rk2 F.2.2 F.1 k) = nI k) → zm_W (zm_md m_Facts_sortByMeasure) (d + 2) TT R 66 [some (.inr (some 30)), some (.inl (nI f)), o] [] g := by
    intro n
    induction n with
    | zero =>
      intro f hf g o e1 e2 e3
      have : f = F.1 := by omega
      subst this
      have f1 := (zc_F_f2 e1 hF).1
      refine zm_go g_Facts_sortByMeasure [66] 30 (by decide +kernel) ok_Facts_sortByMeasure _ rfl ?_
      simp only [↓zq, ↓reduceIte, zr_si2, zr_sr1, zr_cp2, zr_tl, zr_tn, shq, List.contains_nil, List.contains_cons, Nat.reduceBEq, Bool.false_or, Bool.or_false, Bool.true_or, Bool.false_eq_true, if_false, if_true, true_and, and_true, List.set_cons_zero, List.set_cons_succ, List.length_cons, List.length_nil, Nat.reduceAdd, Nat.reduceLeDiff, Nat.le_refl, Nat.zero_le, true_or, or_true, zn_cl, ↓jj_Facts_sortByMeasure, f1]
      exact ⟨fun _ => hR g e1 e3, fun z => absurd (Int32.le_refl _) z⟩
    | succ n ih =>
      intro f hf g o e1 e2 e3
      have hFg := zc_F_f2 e1 hF
      have f1 := hFg.1
      have q3 : g.2 30 3 = some 33 := by rw [e1.1]; exact p3
      have hm := hmM f (by omega)
      obtain ⟨r1, r2⟩ := zs_rk2_lt (n := F.1) hmM (show f < F.1 by omega)
      refine zm_go g_Facts_sortByMeasure [66] 30 (by decide +kernel) ok_Facts_sortByMeasure _ rfl ?_
      simp only [↓zq, ↓reduceIte, zr_si2, zr_sr1, zr_cp2, zr_tl, zr_tn, shq, List.contains_nil, List.contains_cons, Nat.reduceBEq, Bool.false_or, Bool.or_false, Bool.true_or, Bool.false_eq_true, if_false, if_true, true_and, and_true, List.set_cons_zero, List.set_cons_succ, List.length_cons, List.length_nil, Nat.reduceAdd, Nat.reduceLeDiff, Nat.le_refl, Nat.zero_le, true_or, or_true, zn_cl, ↓jj_Facts_sortByMeasure, f1, nI_1]
      refine ⟨fun z => absurd z (nI_ge (by omega) (by omega)), fun _ => ?_⟩
      refine k_Facts_measureAt (by rw [e1.1]; exact hp) (by omega) ?_
      simp only [↓zq, ↓reduceIte, zr_si2, zr_sr1, zr_cp2, zr_tl, zr_tn, shq, List.contains_nil, List.contains_cons, Nat.reduceBEq, Bool.false_or, Bool.or_false, Bool.true_or, Bool.false_eq_true, if_false, if_true, true_and, and_true, List.set_cons_zero, List.set_cons_succ, List.length_cons, List.length_nil, Nat.reduceAdd, Nat.reduceLeDiff, Nat.le_refl, Nat.zero_le, true_or, or_true, zn_cl, ↓jj_Facts_sortByMeasure, f1, nI_1]
      rw [(hFg.2 f (by omega)).2]
      refine k_Facts_nextRank (by rw [e1.1]; exact hp) hm ?_
      have er : g.1 34 (F.2.2 f) + 1 - 1 = nI (zs_rk2 F.2.2 F.1 f) := by
        rw [e2 _ hm]
        have : ∀ x : Int32, x + 1 - 1 = x := fun x => by grind
        rw [this]
        rfl
      rw [er]
      have hv : vp_in (nI (zs_rk2 F.2.2 F.1 f)) 240 := vp_in_nI (by omega) (by decide)
      have hcl := nI_clamp (show zs_rk2 F.2.2 F.1 f < 2 ^ 31 by omega)
      simp only [↓zq, ↓reduceIte, zr_si2, zr_sr1, zr_cp2, zr_tl, zr_tn, shq, List.contains_nil, List.contains_cons, Nat.reduceBEq, Bool.false_or, Bool.or_false, Bool.true_or, Bool.false_eq_true, if_false, if_true, true_and, and_true, List.set_cons_zero, List.set_cons_succ, List.length_cons, List.length_nil, Nat.reduceAdd, Nat.reduceLeDiff, Nat.le_refl, Nat.zero_le, true_or, or_true, zn_cl, ↓jj_Facts_sortByMeasure, f1, nI_1, q3, hv, hcl]
      refine ⟨fun z => absurd z (nI_pos (by omega)), fun _ => ⟨fun z => absurd z (nI_ge (b := 240) (by omega) (by decide)), fun _ => ?_⟩⟩
      refine ih (f + 1) (by omega) _ _ ⟨e1.1, fun a ha => ?_⟩ (fun m hm2 => ?_) (fun k hk => ?_)
      · rw [← e1.2 a ha]
        funext j
        simp only [zr_si1]
        rw [if_neg (by omega), if_neg (by omega)]
      · simp only [zr_si1]
        rw [if_neg (by omega), zs_cb]
        by_cases e : m = F.2.2 f
        · subst e
          rw [if_pos ⟨trivial, rfl⟩, if_pos rfl, e2 _ hm]
          exact nI_1 _
        · rw [if_neg (fun z => e z.2), if_neg (fun z => e z.symm)]
          exact e2 m hm2
      · simp only [zr_si1]
        rcases (show k = f ∨ k < f by omega) with e | e
        · subst e
          rw [if_pos ⟨trivial, rfl⟩]
        · rw [if_neg (fun z => by have := zs_rk2_inj hmM (show k < F.1 by omega) (show f < F.1 by omega) z.2; omega), if_neg (by omega)]
          exact e3 k e
  have loop2 : ∀ (n m : Nat), m + n = 100 → ∀ (g : zm_M) (o : Option zm_V), zc_f2 h g → (∀ j, j ≤ m → g.1 34 j = nI (zs_st F.2.2 F.1 j)) → (∀ j, m < j → j ≤ 100 → g.1 34 j = nI (zs_cb F.2.2 (j - 1) F.1)) → zm_W (zm_md m_Facts_sortByMeasure) (d + 2) TT R 35 [some (.inr (some 30)), some (.inl (nI (m + 1))), o] [] g := by
    intro n
    induction n with
    | zero =>
      intro m hm g o e1 e2 e3
      have : m = 100 := by omega
      subst this
      refine zm_go g_Facts_sortByMeasure [35, 66] 30 (by decide +kernel) ok_Facts_sortByMeasure _ rfl ?_
      simp only [↓zq, ↓reduceIte, zr_si2, zr_sr1, zr_cp2, zr_tl, zr_tn, shq, List.contains_nil, List.contains_cons, Nat.reduceBEq, Bool.false_or, Bool.or_false, Bool.true_or, Bool.false_eq_true, if_false, if_true, true_and, and_true, List.set_cons_zero, List.set_cons_succ, List.length_cons, List.length_nil, Nat.reduceAdd, Nat.reduceLeDiff, Nat.le_refl, Nat.zero_le, true_or, or_true, zn_cl, ↓jj_Facts_sortByMeasure]
      refine ⟨fun _ => ?_, fun z => absurd (by decide) z⟩
      exact loop3 F.1 0 (by omega) g _ e1 (fun m hm => e2 m (by omega)) (fun k hk => absurd hk (Nat.not_lt_zero k))
    | succ n ih =>
      intro m hm g o e1 e2 e3
      have q4 : g.2 30 4 = some 34 := by rw [e1.1]; exact p4
      have hv : vp_in (nI (m + 1)) 101 := vp_in_nI (by omega) (by decide)
      have hcl := nI_clamp (show m + 1 < 2 ^ 31 by omega)
      have hv0 : vp_in (nI m) 101 := vp_in_nI (by omega) (by decide)
      have hcl0 := nI_clamp (show m < 2 ^ 31 by omega)
      refine zm_go g_Facts_sortByMeasure [35, 66] 30 (by decide +kernel) ok_Facts_sortByMeasure _ rfl ?_
      simp only [↓zq, ↓reduceIte, zr_si2, zr_sr1, zr_cp2, zr_tl, zr_tn, shq, List.contains_nil, List.contains_cons, Nat.reduceBEq, Bool.false_or, Bool.or_false, Bool.true_or, Bool.false_eq_true, if_false, if_true, true_and, and_true, List.set_cons_zero, List.set_cons_succ, List.length_cons, List.length_nil, Nat.reduceAdd, Nat.reduceLeDiff, Nat.le_refl, Nat.zero_le, true_or, or_true, zn_cl, ↓jj_Facts_sortByMeasure, nI_1, q4, hv, hcl, nI_pred, hv0, hcl0]
      refine ⟨fun z => ?_, fun _ => ?_⟩
      · have := (nI_ltI (a := 100) (b := m + 1) (by decide) (by omega)).mp z
        omega
      · refine ih (m + 1) (by omega) _ _ ⟨e1.1, fun a ha => ?_⟩ (fun j hj => ?_) (fun j hj hj2 => ?_)
        · rw [← e1.2 a ha]
          funext j
          simp only [zr_si1]
          rw [if_neg (by omega)]
        · simp only [zr_si1]
          rcases (show j = m + 1 ∨ j ≤ m by omega) with e | e
          · subst e
            rw [if_pos ⟨trivial, rfl⟩, e3 (m + 1) (by omega) (by omega), e2 m (Nat.le_refl _), nI_add, zs_st, Nat.add_sub_cancel, Nat.add_comm]
          · rw [if_neg (by omega)]
            exact e2 j e
        · simp only [zr_si1]
          rw [if_neg (by omega)]
          exact e3 j (by omega) hj2
  have loop1 : ∀ (n f : Nat), f + n = F.1 → ∀ (g : zm_M) (o : Option zm_V), zc_f2 h g → g.1 34 0 = 0 → (∀ j, 0 < j → j ≤ 100 → g.1 34 j = nI (zs_cb F.2.2 (j - 1) f)) → zm_W (zm_md m_Facts_sortByMeasure) (d + 2) TT R 10 [some (.inr (some 30)), some (.inl (nI f)), o] [] g := by
    intro n
    induction n with
    | zero =>
      intro f hf g o e1 e2 e3
      have : f = F.1 := by omega
      subst this
      have f1 := (zc_F_f2 e1 hF).1
      refine zm_go g_Facts_sortByMeasure [10, 35] 30 (by decide +kernel) ok_Facts_sortByMeasure _ rfl ?_
      simp only [↓zq, ↓reduceIte, zr_si2, zr_sr1, zr_cp2, zr_tl, zr_tn, shq, List.contains_nil, List.contains_cons, Nat.reduceBEq, Bool.false_or, Bool.or_false, Bool.true_or, Bool.false_eq_true, if_false, if_true, true_and, and_true, List.set_cons_zero, List.set_cons_succ, List.length_cons, List.length_nil, Nat.reduceAdd, Nat.reduceLeDiff, Nat.le_refl, Nat.zero_le, true_or, or_true, zn_cl, ↓jj_Facts_sortByMeasure, f1]
      refine ⟨fun _ => ?_, fun z => absurd (Int32.le_refl _) z⟩
      exact loop2 100 0 rfl g _ e1 (fun j hj => by rw [Nat.le_zero.mp hj]; exact e2) (fun j hj hj2 => e3 j hj hj2)
    | succ n ih =>
      intro f hf g o e1 e2 e3
      have hFg := zc_F_f2 e1 hF
      have f1 := hFg.1
      have hm := hmM f (by omega)
      refine zm_go g_Facts_sortByMeasure [10, 35] 30 (by decide +kernel) ok_Facts_sortByMeasure _ rfl ?_
      simp only [↓zq, ↓reduceIte, zr_si2, zr_sr1, zr_cp2, zr_tl, zr_tn, shq, List.contains_nil, List.contains_cons, Nat.reduceBEq, Bool.false_or, Bool.or_false, Bool.true_or, Bool.false_eq_true, if_false, if_true, true_and, and_true, List.set_cons_zero, List.set_cons_succ, List.length_cons, List.length_nil, Nat.reduceAdd, Nat.reduceLeDiff, Nat.le_refl, Nat.zero_le, true_or, or_true, zn_cl, ↓jj_Facts_sortByMeasure, f1, nI_1]
      refine ⟨fun z => absurd z (nI_ge (by omega) (by omega)), fun _ => ?_⟩
      refine k_Facts_measureAt (by rw [e1.1]; exact hp) (by omega) ?_
      simp only [↓zq, ↓reduceIte, zr_si2, zr_sr1, zr_cp2, zr_tl, zr_tn, shq, List.contains_nil, List.contains_cons, Nat.reduceBEq, Bool.false_or, Bool.or_false, Bool.true_or, Bool.false_eq_true, if_false, if_true, true_and, and_true, List.set_cons_zero, List.set_cons_succ, List.length_cons, List.length_nil, Nat.reduceAdd, Nat.reduceLeDiff, Nat.le_refl, Nat.zero_le, true_or, or_true, zn_cl, ↓jj_Facts_sortByMeasure, f1, nI_1]
      rw [(hFg.2 f (by omega)).2]
      refine k_Facts_countMeasure (by rw [e1.1]; exact hp) hm ?_
      simp only [↓zq, ↓reduceIte, zr_si2, zr_sr1, zr_cp2, zr_tl, zr_tn, shq, List.contains_nil, List.contains_cons, Nat.reduceBEq, Bool.false_or, Bool.or_false, Bool.true_or, Bool.false_eq_true, if_false, if_true, true_and, and_true, List.set_cons_zero, List.set_cons_succ, List.length_cons, List.length_nil, Nat.reduceAdd, Nat.reduceLeDiff, Nat.le_refl, Nat.zero_le, true_or, or_true, zn_cl, ↓jj_Facts_sortByMeasure, f1, nI_1]
      refine ih (f + 1) (by omega) _ _ ⟨e1.1, fun a ha => ?_⟩ ?_ (fun j hj hj2 => ?_)
      · rw [← e1.2 a ha]
        funext j
        simp only [zr_si1]
        rw [if_neg (by omega)]
      · simp only [zr_si1]
        rw [if_neg (by omega)]
        exact e2
      · simp only [zr_si1]
        rw [zs_cb]
        by_cases e : F.2.2 f = j - 1
        · have : j = F.2.2 f + 1 := by omega
          rw [if_pos ⟨trivial, this⟩, if_pos e, e3 _ (by omega) (by omega), Nat.add_sub_cancel, e]
          exact nI_1 _
        · rw [if_neg (by omega), if_neg e]
          exact e3 j hj hj2
  refine st_Facts_sortByMeasure [10] 30 ?_
  simp only [↓zq, ↓reduceIte, zr_si2, zr_sr1, zr_cp2, zr_tl, zr_tn, shq, List.contains_nil, List.contains_cons, Nat.reduceBEq, Bool.false_or, Bool.or_false, Bool.true_or, Bool.false_eq_true, if_false, if_true, true_and, and_true, List.set_cons_zero, List.set_cons_succ, List.length_cons, List.length_nil, Nat.reduceAdd, Nat.reduceLeDiff, Nat.le_refl, Nat.zero_le, true_or, or_true, zn_cl, ↓jj_Facts_sortByMeasure, p4]
  refine k_fill (n := 101) (by decide) (by decide) ?_
  simp only [↓zq, ↓reduceIte, zr_si2, zr_sr1, zr_cp2, zr_tl, zr_tn, shq, List.contains_nil, List.contains_cons, Nat.reduceBEq, Bool.false_or, Bool.or_false, Bool.true_or, Bool.false_eq_true, if_false, if_true, true_and, and_true, List.set_cons_zero, List.set_cons_succ, List.length_cons, List.length_nil, Nat.reduceAdd, Nat.reduceLeDiff, Nat.le_refl, Nat.zero_le, true_or, or_true, zn_cl, ↓jj_Facts_sortByMeasure, p4]
  refine loop1 F.1 0 (by omega) _ _ ⟨rfl, fun a ha => ?_⟩ ?_ (fun j hj hj2 => ?_)
  · funext j
    simp only [zm_fl]
    rw [if_neg (by omega)]
  · simp [zm_fl]
  · simp only [zm_fl]
    rw [if_pos ⟨trivial, by omega⟩]
    rfl
