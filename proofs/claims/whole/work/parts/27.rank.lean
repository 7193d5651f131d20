/-! ranked, unlike -/
theorem zs_nth_spec {f : Nat → Nat} {i k : Nat} : ∀ m, zs_nth f i m = some k → k < m ∧ f k ≠ 0 ∧ zs_some f k = i
  | 0, h => by cases h
  | m + 1, h => by
    rw [zs_nth] at h
    split at h
    · next e =>
      cases h
      obtain ⟨a, b⟩ := zs_nth_spec m e
      exact ⟨by omega, b⟩
    · split at h
      · next e => cases h; exact ⟨by omega, e⟩
      · cases h
theorem zs_nth_ex {f : Nat → Nat} {i : Nat} : ∀ m, i < zs_some f m → ∃ k, zs_nth f i m = some k
  | 0, h => absurd h (Nat.not_lt_zero i)
  | m + 1, h => by
    rw [zs_some] at h
    rw [zs_nth]
    cases e : zs_nth f i m with
    | some k => exact ⟨k, rfl⟩
    | none =>
      have h1 : ¬ i < zs_some f m := fun z => by
        obtain ⟨k, hk⟩ := zs_nth_ex m z
        rw [hk] at e; cases e
      by_cases hf : f m = 0
      · rw [if_pos hf] at h; omega
      · rw [if_neg hf] at h
        exact ⟨m, by simp only []; rw [if_pos ⟨hf, by omega⟩]⟩
theorem zs_some_split {f g h : Nat → Nat} : ∀ m, (∀ k, k < m → (f k ≠ 0 ↔ g k ≠ 0 ∨ h k ≠ 0)) → (∀ k, k < m → ¬ (g k ≠ 0 ∧ h k ≠ 0)) → zs_some f m = zs_some g m + zs_some h m
  | 0, _, _ => rfl
  | m + 1, a, b => by
    rw [zs_some, zs_some, zs_some, zs_some_split m (fun k hk => a k (by omega)) (fun k hk => b k (by omega))]
    have a1 := a m (by omega)
    have b1 := b m (by omega)
    by_cases hg : g m = 0
    · by_cases hh : h m = 0
      · rw [if_pos hg, if_pos hh, if_pos (Classical.byContradiction (fun z => (a1.mp z).elim (fun y => y hg) (fun y => y hh)))]; omega
      · rw [if_pos hg, if_neg hh, if_neg (a1.mpr (Or.inr hh))]; omega
    · have hh : h m = 0 := Classical.byContradiction (fun z => b1 ⟨hg, z⟩)
      rw [if_neg hg, if_pos hh, if_neg (a1.mpr (Or.inl hg))]; omega
theorem zs_some_cut {f : Nat → Nat} {k : Nat} : ∀ m, zs_some (fun j => if j < k then f j else 0) m = zs_some f (min m k)
  | 0 => by simp [zs_some]
  | m + 1 => by
    rw [zs_some, zs_some_cut m]
    by_cases e : m < k
    · rw [show min (m + 1) k = m + 1 by omega, show min m k = m by omega, zs_some]
      simp only [if_pos e]
    · rw [show min (m + 1) k = k by omega, show min m k = k by omega]
      simp only [if_neg e, if_pos, Nat.add_zero]
theorem zs_some_sub {f g : Nat → Nat} : ∀ m, (∀ k, k < m → g k ≠ 0 → f k ≠ 0) → zs_some g m ≤ zs_some f m
  | 0, _ => Nat.le_refl 0
  | m + 1, h => by
    have ih := zs_some_sub (f := f) (g := g) m (fun k hk => h k (by omega))
    have h1 := h m (by omega)
    rw [zs_some, zs_some]
    by_cases hg : g m = 0
    · rw [if_pos hg]; split <;> omega
    · rw [if_neg hg, if_neg (h1 hg)]; omega
theorem zs_some_lt {f g : Nat → Nat} {k : Nat} : ∀ m, k < m → f k ≠ 0 → g k = 0 → (∀ j, j < m → g j ≠ 0 → f j ≠ 0) → zs_some g m < zs_some f m
  | 0, h, _, _, _ => absurd h (Nat.not_lt_zero k)
  | m + 1, h, hf, hg, ho => by
    rw [zs_some, zs_some]
    by_cases e : k = m
    · subst e
      have := zs_some_sub (f := f) (g := g) k (fun j hj => ho j (by omega))
      rw [if_pos hg, if_neg hf]; omega
    · have := zs_some_lt (f := f) (g := g) (k := k) m (by omega) hf hg (fun j hj => ho j (by omega))
      have h1 := ho m (by omega)
      by_cases hgm : g m = 0
      · rw [if_pos hgm]; split <;> omega
      · rw [if_neg hgm, if_neg (h1 hgm)]; omega
/-- keys of a value of at least v; of value v -/
def zs_fr (tab : zs_tb) (sg : Nat → Nat) (w v : Nat) : Nat → Nat := fun k => if (tab k).1 ≠ 0 ∧ v ≤ zs_val tab sg w k then 1 else 0
def zs_fe (tab : zs_tb) (sg : Nat → Nat) (w v : Nat) : Nat → Nat := fun k => if (tab k).1 ≠ 0 ∧ zs_val tab sg w k = v then 1 else 0
/-- how many keys go ahead of k -/
def zs_ahd (tab : zs_tb) (sg : Nat → Nat) (w k : Nat) : Nat := zs_some (fun j => if (tab j).1 ≠ 0 ∧ (zs_val tab sg w k < zs_val tab sg w j ∨ zs_val tab sg w j = zs_val tab sg w k ∧ j < k) then 1 else 0) 512
def zs_rkd (tab : zs_tb) (sg : Nat → Nat) (w i : Nat) (o : Option Nat) : Prop := (o = none → ∀ k, k < 512 → (tab k).1 ≠ 0 → zs_ahd tab sg w k ≠ i) ∧ ∀ k, o = some k → k < 512 ∧ (tab k).1 ≠ 0 ∧ zs_ahd tab sg w k = i
theorem zs_val_le {tab : zs_tb} {sg : Nat → Nat} {w k : Nat} (hw : zw_T 240 tab) (hs : 5 ≤ w → sg k ≤ 24000) : zs_val tab sg w k ≤ 24000 := by
  obtain ⟨h1, h2, h3, h4⟩ := hw k
  unfold zs_val
  split
  · omega
  · split
    · omega
    · split
      · omega
      · split
        · omega
        · split
          · omega
          · split
            · have := Nat.div_le_self (tab k).2.1 (tab k).1
              omega
            · exact hs (by omega)
set_option maxHeartbeats 4000000 in
set_option maxRecDepth 100000 in
theorem k_Table_groupsFrom {d : Nat} {h : zm_M} {R : zm_R} {t v w B : Nat} {tab : zs_tb} {sg : Nat → Nat} (hk : zk_tab h.2 t) (hA : zc_A h.1 t tab sg w) (hw : zw_T B tab) (hB : B < 2 ^ 20) (hw6 : w ≤ 6) (hv : v < 2 ^ 20) (hvb : ∀ k, k < 512 → zs_val tab sg w k < 2 ^ 20) (hR : R (some (.inl (nI (zs_some (zs_fr tab sg w v) 512)))) h) : zm_C (d + 3) TT m_Table_groupsFrom [.inr (some t), .inl (nI v), .inl (nI w)] h R := by
  obtain ⟨k0, k1, k2, k3, k4, k5, p0, p1, p2, p3, p4⟩ := id hk
  have loop : ∀ (n i : Nat), i + n = 512 → zm_W (zm_md m_Table_groupsFrom) (d + 3) TT R 5 [some (.inr (some t)), some (.inl (nI v)), some (.inl (nI w)), some (.inl (nI (zs_some (zs_fr tab sg w v) i))), some (.inl (nI i))] [] h := by
    intro n
    induction n with
    | zero =>
      intro i hi
      have : i = 512 := by omega
      subst this
      generalize zs_some (zs_fr tab sg w v) 512 = x at hR ⊢
      refine zm_go g_Table_groupsFrom [5] 30 (by decide +kernel) ok_Table_groupsFrom _ rfl ?_
      simp only [↓zq, ↓reduceIte, zr_si2, zr_sr1, zr_cp2, zr_tl, zr_tn, shq, List.contains_nil, List.contains_cons, Nat.reduceBEq, Bool.false_or, Bool.or_false, Bool.true_or, Bool.false_eq_true, if_false, if_true, true_and, and_true, List.set_cons_zero, List.set_cons_succ, List.length_cons, List.length_nil, Nat.reduceAdd, Nat.reduceLeDiff, Nat.le_refl, Nat.zero_le, true_or, or_true, zn_cl, ↓jj_Table_groupsFrom]
      exact ⟨fun _ => hR, fun z => absurd (Int32.le_refl _) z⟩
    | succ n ih =>
      intro i hi
      have hi5 : i < 512 := by omega
      have ih := ih (i + 1) (by omega)
      rw [zs_some] at ih
      have hv1 : vp_in (nI i) 512 := vp_in_nI hi5 (by decide)
      have hcl := nI_clamp (show i < 2 ^ 31 by omega)
      have t1 := (hA.1.1 i hi5).1
      have hb := (hw i).1
      have hvi := hvb i hi5
      refine zm_go g_Table_groupsFrom [5] 30 (by decide +kernel) ok_Table_groupsFrom _ rfl ?_
      simp only [↓zq, ↓reduceIte, zr_si2, zr_sr1, zr_cp2, zr_tl, zr_tn, shq, List.contains_nil, List.contains_cons, Nat.reduceBEq, Bool.false_or, Bool.or_false, Bool.true_or, Bool.false_eq_true, if_false, if_true, true_and, and_true, List.set_cons_zero, List.set_cons_succ, List.length_cons, List.length_nil, Nat.reduceAdd, Nat.reduceLeDiff, Nat.le_refl, Nat.zero_le, true_or, or_true, zn_cl, ↓jj_Table_groupsFrom, k0, k1, p0, hv1, hcl, t1, nI_1]
      refine ⟨fun z => absurd z (nI_ge (b := 512) hi5 (by decide)), fun _ => ⟨fun z => ?_, fun z => ?_⟩⟩
      · have e : (tab i).1 = 0 := by
          have := (nI_leI (a := (tab i).1) (b := 0) (by omega) (by decide)).mp z
          omega
        rw [if_pos (by simp [zs_fr, e]), Nat.add_zero] at ih
        exact ih
      · have e : ¬ (tab i).1 = 0 := fun e => z (by rw [e]; exact Int32.le_refl _)
        refine k_Table_valueAt hk hA.1 hw hB hi5 hw6 (fun h5 hc => hA.2 h5 i hi5 hc) ?_
        simp only [↓zq, ↓reduceIte, zr_si2, zr_sr1, zr_cp2, zr_tl, zr_tn, shq, List.contains_nil, List.contains_cons, Nat.reduceBEq, Bool.false_or, Bool.or_false, Bool.true_or, Bool.false_eq_true, if_false, if_true, true_and, and_true, List.set_cons_zero, List.set_cons_succ, List.length_cons, List.length_nil, Nat.reduceAdd, Nat.reduceLeDiff, Nat.le_refl, Nat.zero_le, true_or, or_true, zn_cl, ↓jj_Table_groupsFrom, nI_1]
        rw [zn_lt (by omega) (by omega)]
        refine ⟨fun z2 => ?_, fun z2 => ?_⟩
        · rw [if_pos (by simp [zs_fr]; omega), Nat.add_zero] at ih
          exact ih
        · rw [if_neg (by simp [zs_fr, e]; omega)] at ih
          exact ih
  refine st_Table_groupsFrom [5] 9 ?_
  simp only [↓zq, ↓reduceIte, zr_si2, zr_sr1, zr_cp2, zr_tl, zr_tn, shq, List.contains_nil, List.contains_cons, Nat.reduceBEq, Bool.false_or, Bool.or_false, Bool.true_or, Bool.false_eq_true, if_false, if_true, true_and, and_true, List.set_cons_zero, List.set_cons_succ, List.length_cons, List.length_nil, Nat.reduceAdd, Nat.reduceLeDiff, Nat.le_refl, Nat.zero_le, true_or, or_true, zn_cl, ↓jj_Table_groupsFrom]
  exact loop 512 0 rfl
set_option maxHeartbeats 4000000 in
set_option maxRecDepth 100000 in
theorem k_Table_keyOfLike {d : Nat} {h : zm_M} {R : zm_R} {t v w j B : Nat} {tab : zs_tb} {sg : Nat → Nat} (hk : zk_tab h.2 t) (hA : zc_A h.1 t tab sg w) (hw : zw_T B tab) (hB : B < 2 ^ 20) (hw6 : w ≤ 6) (hv : v < 2 ^ 20) (hvb : ∀ k, k < 512 → zs_val tab sg w k < 2 ^ 20) (hj : j < zs_some (zs_fe tab sg w v) 512) (hR : R (some (.inl (zs_opt (zs_nth (zs_fe tab sg w v) j 512)))) h) : zm_C (d + 3) TT m_Table_keyOfLike [.inr (some t), .inl (nI v), .inl (nI j), .inl (nI w)] h R := by
  obtain ⟨k0, k1, k2, k3, k4, k5, p0, p1, p2, p3, p4⟩ := id hk
  have hle := zs_some_le (zs_fe tab sg w v) 512
  have loop : ∀ (n k : Nat), k + n = 512 → zs_nth (zs_fe tab sg w v) j k = none → zs_some (zs_fe tab sg w v) k ≤ j → zm_W (zm_md m_Table_keyOfLike) (d + 3) TT R 6 [some (.inr (some t)), some (.inl (nI v)), some (.inl (nI j)), some (.inl (nI w)), some (.inl (nI (j - zs_some (zs_fe tab sg w v) k))), some (.inl (nI k))] [] h := by
    intro n
    induction n with
    | zero =>
      intro k hk hno hsm
      have : k = 512 := by omega
      subst this
      omega
    | succ n ih =>
      intro k hkn hno hsm
      have hk5 : k < 512 := by omega
      have hv1 : vp_in (nI k) 512 := vp_in_nI hk5 (by decide)
      have hcl := nI_clamp (show k < 2 ^ 31 by omega)
      have t1 := (hA.1.1 k hk5).1
      have hb := (hw k).1
      have hvi := hvb k hk5
      refine zm_go g_Table_keyOfLike [6] 30 (by decide +kernel) ok_Table_keyOfLike _ rfl ?_
      simp only [↓zq, ↓reduceIte, zr_si2, zr_sr1, zr_cp2, zr_tl, zr_tn, shq, List.contains_nil, List.contains_cons, Nat.reduceBEq, Bool.false_or, Bool.or_false, Bool.true_or, Bool.false_eq_true, if_false, if_true, true_and, and_true, List.set_cons_zero, List.set_cons_succ, List.length_cons, List.length_nil, Nat.reduceAdd, Nat.reduceLeDiff, Nat.le_refl, Nat.zero_le, true_or, or_true, zn_cl, ↓jj_Table_keyOfLike, k0, k1, p0, hv1, hcl, t1, nI_1]
      refine ⟨fun z => absurd z (nI_ge (b := 512) hk5 (by decide)), fun _ => ⟨fun z => ?_, fun z => ?_⟩⟩
      · have e : (tab k).1 = 0 := by
          have := (nI_leI (a := (tab k).1) (b := 0) (by omega) (by decide)).mp z
          omega
        have e0 : zs_fe tab sg w v k = 0 := by simp [zs_fe, e]
        have := ih (k + 1) (by omega) (by rw [zs_nth, hno]; simp [e0]) (by rw [zs_some, if_pos e0]; omega)
        rw [zs_some, if_pos e0, Nat.add_zero] at this
        exact this
      · have e : ¬ (tab k).1 = 0 := fun e => z (by rw [e]; exact Int32.le_refl _)
        refine k_Table_valueAt hk hA.1 hw hB hk5 hw6 (fun h5 hc => hA.2 h5 k hk5 hc) ?_
        simp only [↓zq, ↓reduceIte, zr_si2, zr_sr1, zr_cp2, zr_tl, zr_tn, shq, List.contains_nil, List.contains_cons, Nat.reduceBEq, Bool.false_or, Bool.or_false, Bool.true_or, Bool.false_eq_true, if_false, if_true, true_and, and_true, List.set_cons_zero, List.set_cons_succ, List.length_cons, List.length_nil, Nat.reduceAdd, Nat.reduceLeDiff, Nat.le_refl, Nat.zero_le, true_or, or_true, zn_cl, ↓jj_Table_keyOfLike, nI_1]
        rw [zn_eq (by omega) (by omega), zn_z (by omega)]
        refine ⟨fun z2 => ?_, fun z2 => ⟨fun z3 => ?_, fun z3 => ?_⟩⟩
        · have e0 : zs_fe tab sg w v k = 0 := by simp [zs_fe, z2]
          have := ih (k + 1) (by omega) (by rw [zs_nth, hno]; simp [e0]) (by rw [zs_some, if_pos e0]; omega)
          rw [zs_some, if_pos e0, Nat.add_zero] at this
          exact this
        · have e0 : ¬ zs_fe tab sg w v k = 0 := by simp [zs_fe, e, z2]
          have := ih (k + 1) (by omega) (by rw [zs_nth, hno]; simp only []; rw [if_neg (by omega)]) (by rw [zs_some, if_neg e0]; omega)
          rw [zs_some, if_neg e0, show j - (zs_some (zs_fe tab sg w v) k + 1) = j - zs_some (zs_fe tab sg w v) k - 1 by omega] at this
          have e2 : nI (j - zs_some (zs_fe tab sg w v) k) + -1 = nI (j - zs_some (zs_fe tab sg w v) k - 1) := by
            obtain ⟨y, hy⟩ : ∃ y, j - zs_some (zs_fe tab sg w v) k = y + 1 := ⟨j - zs_some (zs_fe tab sg w v) k - 1, by omega⟩
            rw [hy]
            exact pk_m1 y
          rw [e2]
          exact this
        · have e0 : ¬ zs_fe tab sg w v k = 0 := by simp [zs_fe, e, z2]
          have h1 : zs_nth (zs_fe tab sg w v) j (k + 1) = some k := by
            rw [zs_nth, hno]
            simp only []
            rw [if_pos ⟨e0, by omega⟩]
          have h2 := zs_nth_up (k + 1) (511 - k) h1
          rw [show k + 1 + (511 - k) = 512 by omega] at h2
          rw [h2] at hR
          exact hR
  refine st_Table_keyOfLike [6] 30 ?_
  simp only [↓zq, ↓reduceIte, zr_si2, zr_sr1, zr_cp2, zr_tl, zr_tn, shq, List.contains_nil, List.contains_cons, Nat.reduceBEq, Bool.false_or, Bool.or_false, Bool.true_or, Bool.false_eq_true, if_false, if_true, true_and, and_true, List.set_cons_zero, List.set_cons_succ, List.length_cons, List.length_nil, Nat.reduceAdd, Nat.reduceLeDiff, Nat.le_refl, Nat.zero_le, true_or, or_true, zn_cl, ↓jj_Table_keyOfLike]
  have := loop 512 0 rfl rfl (Nat.zero_le _)
  rw [show j - zs_some (zs_fe tab sg w v) 0 = j from Nat.sub_zero j] at this
  exact this
theorem zs_fr_0 (tab : zs_tb) (sg : Nat → Nat) (w : Nat) : zs_some (zs_fr tab sg w 0) 512 = zs_some (fun k => (tab k).1) 512 := by
  refine zs_some_congr 512 (fun k _ => ?_)
  simp [zs_fr]
theorem zs_fr_s (tab : zs_tb) (sg : Nat → Nat) (w v : Nat) : zs_some (zs_fr tab sg w v) 512 = zs_some (zs_fr tab sg w (v + 1)) 512 + zs_some (zs_fe tab sg w v) 512 := by
  refine zs_some_split 512 (fun k _ => ?_) (fun k _ => ?_)
  · simp only [zs_fr, zs_fe]
    by_cases e : (tab k).1 = 0
    · simp [e]
    · simp [e]; omega
  · simp only [zs_fr, zs_fe]
    by_cases e : (tab k).1 = 0
    · simp [e]
    · simp [e]; omega
theorem zs_ahd_eq {tab : zs_tb} {sg : Nat → Nat} {w k : Nat} (hk : k < 512) : zs_ahd tab sg w k = zs_some (zs_fr tab sg w (zs_val tab sg w k + 1)) 512 + zs_some (zs_fe tab sg w (zs_val tab sg w k)) k := by
  have h1 := zs_some_cut (f := zs_fe tab sg w (zs_val tab sg w k)) (k := k) 512
  rw [show min 512 k = k by omega] at h1
  rw [← h1]
  unfold zs_ahd
  refine zs_some_split 512 (fun j _ => ?_) (fun j _ => ?_)
  · simp only [zs_fr, zs_fe]
    by_cases e : (tab j).1 = 0
    · simp [e]
    · by_cases e2 : j < k
      · simp [e, e2]; omega
      · simp [e, e2]; omega
  · simp only [zs_fr, zs_fe]
    by_cases e : (tab j).1 = 0
    · simp [e]
    · by_cases e2 : j < k
      · simp [e, e2]; omega
      · simp [e2]
set_option maxHeartbeats 4000000 in
set_option maxRecDepth 100000 in
theorem k_Table_rankedKeyAt {d : Nat} {h : zm_M} {R : zm_R} {t w j B : Nat} {tab : zs_tb} {sg : Nat → Nat} (hk : zk_tab h.2 t) (hA : zc_A h.1 t tab sg w) (hw : zw_T B tab) (hB : B < 2 ^ 20) (hw6 : w ≤ 6) (hvb : ∀ k, k < 512 → zs_val tab sg w k ≤ 24000) (hj : j < 2 ^ 31) (hR : ∀ o, zs_rkd tab sg w j o → R (some (.inl (zs_opt o))) h) : zm_C (d + 4) TT m_Table_rankedKeyAt [.inr (some t), .inl (nI j), .inl (nI w)] h R := by
  have hle := zs_some_le (fun k => (tab k).1) 512
  have hvb2 : ∀ k, k < 512 → zs_val tab sg w k < 2 ^ 20 := fun k hk => by have := hvb k hk; omega
  have k0 := hk.1
  have frl : ∀ v, zs_some (zs_fr tab sg w v) 512 ≤ 512 := fun v => zs_some_le _ 512
  have fin : ∀ lo, lo ≤ 24000 → j < zs_some (zs_fr tab sg w lo) 512 → zs_some (zs_fr tab sg w (lo + 1)) 512 ≤ j → ∀ o1 o2 o3, zm_W (zm_md m_Table_rankedKeyAt) (d + 4) TT R 78 [some (.inr (some t)), some (.inl (nI j)), some (.inl (nI w)), some (.inl (nI lo)), o1, o2, o3] [] h := by
    intro lo hlo h1 h2 o1 o2 o3
    have hs := zs_fr_s tab sg w lo
    refine zm_go g_Table_rankedKeyAt [24] 30 (by decide +kernel) ok_Table_rankedKeyAt _ rfl ?_
    simp only [↓zq, ↓reduceIte, zr_si2, zr_sr1, zr_cp2, zr_tl, zr_tn, shq, List.contains_nil, List.contains_cons, Nat.reduceBEq, Bool.false_or, Bool.or_false, Bool.true_or, Bool.false_eq_true, if_false, if_true, true_and, and_true, List.set_cons_zero, List.set_cons_succ, List.length_cons, List.length_nil, Nat.reduceAdd, Nat.reduceLeDiff, Nat.le_refl, Nat.zero_le, true_or, or_true, zn_cl, ↓jj_Table_rankedKeyAt, k0, nI_1]
    refine k_Table_groupsFrom hk hA hw hB hw6 (by omega) hvb2 ?_
    simp only [↓zq, ↓reduceIte, zr_si2, zr_sr1, zr_cp2, zr_tl, zr_tn, shq, List.contains_nil, List.contains_cons, Nat.reduceBEq, Bool.false_or, Bool.or_false, Bool.true_or, Bool.false_eq_true, if_false, if_true, true_and, and_true, List.set_cons_zero, List.set_cons_succ, List.length_cons, List.length_nil, Nat.reduceAdd, Nat.reduceLeDiff, Nat.le_refl, Nat.zero_le, true_or, or_true, zn_cl, ↓jj_Table_rankedKeyAt, k0, nI_1]
    rw [pk_sub h2]
    refine k_Table_keyOfLike hk hA hw hB hw6 (by omega) hvb2 (by omega) ?_
    simp only [↓zq, ↓reduceIte, zr_si2, zr_sr1, zr_cp2, zr_tl, zr_tn, shq, List.contains_nil, List.contains_cons, Nat.reduceBEq, Bool.false_or, Bool.or_false, Bool.true_or, Bool.false_eq_true, if_false, if_true, true_and, and_true, List.set_cons_zero, List.set_cons_succ, List.length_cons, List.length_nil, Nat.reduceAdd, Nat.reduceLeDiff, Nat.le_refl, Nat.zero_le, true_or, or_true, zn_cl, ↓jj_Table_rankedKeyAt]
    refine hR _ ⟨fun e => ?_, fun k e => ?_⟩
    · obtain ⟨k, hk2⟩ := zs_nth_ex (f := zs_fe tab sg w lo) (i := j - zs_some (zs_fr tab sg w (lo + 1)) 512) 512 (by omega)
      rw [hk2] at e
      cases e
    · obtain ⟨a, b, c⟩ := zs_nth_spec 512 e
      have b2 : (tab k).1 ≠ 0 ∧ zs_val tab sg w k = lo := by
        refine Classical.byContradiction (fun z => b ?_)
        unfold zs_fe
        rw [if_neg z]
      refine ⟨a, b2.1, ?_⟩
      rw [zs_ahd_eq a, b2.2, c]
      omega
  have loop : ∀ (n it lo hi : Nat), it + n = 15 → lo ≤ hi → hi ≤ 24000 → hi - lo < 2 ^ n → j < zs_some (zs_fr tab sg w lo) 512 → zs_some (zs_fr tab sg w (hi + 1)) 512 ≤ j → ∀ o, zm_W (zm_md m_Table_rankedKeyAt) (d + 4) TT R 24 [some (.inr (some t)), some (.inl (nI j)), some (.inl (nI w)), some (.inl (nI lo)), some (.inl (nI hi)), some (.inl (nI it)), o] [] h := by
    intro n
    induction n with
    | zero =>
      intro it lo hi h1 h2 h3 h4 h5 h6 o
      have : lo = hi := by
        have : (2 : Nat) ^ 0 = 1 := rfl
        omega
      subst this
      have : it = 15 := by omega
      subst this
      refine zm_go g_Table_rankedKeyAt [24, 78] 30 (by decide +kernel) ok_Table_rankedKeyAt _ rfl ?_
      simp only [↓zq, ↓reduceIte, zr_si2, zr_sr1, zr_cp2, zr_tl, zr_tn, shq, List.contains_nil, List.contains_cons, Nat.reduceBEq, Bool.false_or, Bool.or_false, Bool.true_or, Bool.false_eq_true, if_false, if_true, true_and, and_true, List.set_cons_zero, List.set_cons_succ, List.length_cons, List.length_nil, Nat.reduceAdd, Nat.reduceLeDiff, Nat.le_refl, Nat.zero_le, true_or, or_true, zn_cl, ↓jj_Table_rankedKeyAt]
      exact ⟨fun z => absurd z (by decide), fun _ => ⟨fun _ => fin lo h3 h5 h6 _ _ _, fun z => absurd (Int32.le_refl _) z⟩⟩
    | succ n ih =>
      intro it lo hi h1 h2 h3 h4 h5 h6 o
      have hp2 : (2 : Nat) ^ (n + 1) = 2 * 2 ^ n := by rw [Nat.pow_succ, Nat.mul_comm]
      refine zm_go g_Table_rankedKeyAt [24, 78] 30 (by decide +kernel) ok_Table_rankedKeyAt _ rfl ?_
      simp only [↓zq, ↓reduceIte, zr_si2, zr_sr1, zr_cp2, zr_tl, zr_tn, shq, List.contains_nil, List.contains_cons, Nat.reduceBEq, Bool.false_or, Bool.or_false, Bool.true_or, Bool.false_eq_true, if_false, if_true, true_and, and_true, List.set_cons_zero, List.set_cons_succ, List.length_cons, List.length_nil, Nat.reduceAdd, Nat.reduceLeDiff, Nat.le_refl, Nat.zero_le, true_or, or_true, zn_cl, ↓jj_Table_rankedKeyAt, k0, nI_1, pk_sub h2]
      rw [zn_le (by omega) (by omega)]
      refine ⟨fun z => absurd z (nI_ge (b := 32) (by omega) (by decide)), fun _ => ⟨fun z => ?_, fun z => ⟨by decide, ?_⟩⟩⟩
      · have : lo = hi := by omega
        subst this
        exact fin lo h3 h5 h6 _ _ _
      · have em : nI lo + nI (hi - lo + 1) / 2 = nI (lo + (hi - lo + 1) / 2) := by
          rw [show (2 : Int32) = nI 2 from rfl, pk_div (by omega) (by decide) (by decide), nI_add]
        rw [em]
        refine k_Table_groupsFrom hk hA hw hB hw6 (by omega) hvb2 ?_
        simp only [↓zq, ↓reduceIte, zr_si2, zr_sr1, zr_cp2, zr_tl, zr_tn, shq, List.contains_nil, List.contains_cons, Nat.reduceBEq, Bool.false_or, Bool.or_false, Bool.true_or, Bool.false_eq_true, if_false, if_true, true_and, and_true, List.set_cons_zero, List.set_cons_succ, List.length_cons, List.length_nil, Nat.reduceAdd, Nat.reduceLeDiff, Nat.le_refl, Nat.zero_le, true_or, or_true, zn_cl, ↓jj_Table_rankedKeyAt, nI_1]
        have fl := frl (lo + (hi - lo + 1) / 2)
        rw [zn_le (by omega) (by omega)]
        refine ⟨fun z2 => ?_, fun z2 => ?_⟩
        · obtain ⟨y, hy⟩ : ∃ y, lo + (hi - lo + 1) / 2 = y + 1 := ⟨lo + (hi - lo + 1) / 2 - 1, by omega⟩
          rw [hy] at z2 ⊢
          rw [nI_pred]
          exact ih (it + 1) lo y (by omega) (by omega) (by omega) (by omega) h5 z2 _
        · exact ih (it + 1) (lo + (hi - lo + 1) / 2) hi (by omega) (by omega) h3 (by omega) (by omega) h6 _
  refine st_Table_rankedKeyAt [24] 30 ?_
  have sz := hA.1.2
  simp only [↓zq, ↓reduceIte, zr_si2, zr_sr1, zr_cp2, zr_tl, zr_tn, shq, List.contains_nil, List.contains_cons, Nat.reduceBEq, Bool.false_or, Bool.or_false, Bool.true_or, Bool.false_eq_true, if_false, if_true, true_and, and_true, List.set_cons_zero, List.set_cons_succ, List.length_cons, List.length_nil, Nat.reduceAdd, Nat.reduceLeDiff, Nat.le_refl, Nat.zero_le, true_or, or_true, zn_cl, ↓jj_Table_rankedKeyAt, k0, sz]
  rw [zn_lt hj (by omega)]
  refine ⟨fun z => absurd z (nI_pos hj), fun _ => ⟨fun z => ?_, fun z => ?_⟩⟩
  · refine loop 15 0 0 24000 rfl (by decide) (by decide) (by decide) (by rw [zs_fr_0]; exact z) ?_ none
    have : zs_some (zs_fr tab sg w (24000 + 1)) 512 = 0 := by
      rw [zs_some_congr (f := zs_fr tab sg w (24000 + 1)) (g := fun _ => 0) 512 (fun k hk => ?_)]
      · decide +kernel
      · have := hvb k hk
        unfold zs_fr
        rw [if_neg (by omega)]
    omega
  · refine hR none ⟨fun _ k hk5 hc e => ?_, fun k e => by cases e⟩
    have : zs_ahd tab sg w k < zs_some (fun k => (tab k).1) 512 := zs_some_lt 512 hk5 hc (by simp) (fun x _ hx => by
      intro hz
      apply hx
      rw [if_neg (fun y => y.1 hz)])
    omega
/-! unlike groups -/
def zs_unl (t1 t2 : zs_tb) (s1 s2 : Nat → Nat) (w : Nat) : Nat → Nat
  | 0 => 0
  | m + 1 => zs_unl t1 t2 s1 s2 w m + if ((t1 m).1 = 0 ↔ (t2 m).1 = 0) ∧ zs_val t1 s1 w m = zs_val t2 s2 w m then 0 else 1
theorem zs_unl_le (t1 t2 : zs_tb) (s1 s2 : Nat → Nat) (w : Nat) : ∀ m, zs_unl t1 t2 s1 s2 w m ≤ m
  | 0 => Nat.le_refl 0
  | m + 1 => by
    have := zs_unl_le t1 t2 s1 s2 w m
    rw [zs_unl]
    split <;> omega
set_option maxHeartbeats 4000000 in
set_option maxRecDepth 100000 in
theorem k_Table_unlikeGroups {d : Nat} {h : zm_M} {R : zm_R} {t u w B : Nat} {t1 t2 : zs_tb} {s1 s2 : Nat → Nat} (hk : zk_tab h.2 t) (hA : zc_A h.1 t t1 s1 w) (hw : zw_T B t1) (hku : zk_tab h.2 u) (hA2 : zc_A h.1 u t2 s2 w) (hw2 : zw_T B t2) (hB : B < 2 ^ 20) (hw6 : w ≤ 6) (hv1 : ∀ k, k < 512 → zs_val t1 s1 w k < 2 ^ 20) (hv2 : ∀ k, k < 512 → zs_val t2 s2 w k < 2 ^ 20) (hR : R (some (.inl (nI (zs_unl t1 t2 s1 s2 w 512)))) h) : zm_C (d + 3) TT m_Table_unlikeGroups [.inr (some t), .inr (some u), .inl (nI w)] h R := by
  have k0 := hk.1
  have u0 := hku.1
  have loop : ∀ (n i : Nat), i + n = 512 → zm_W (zm_md m_Table_unlikeGroups) (d + 3) TT R 5 [some (.inr (some t)), some (.inr (some u)), some (.inl (nI w)), some (.inl (nI (zs_unl t1 t2 s1 s2 w i))), some (.inl (nI i))] [] h := by
    intro n
    induction n with
    | zero =>
      intro i hi
      have : i = 512 := by omega
      subst this
      generalize zs_unl t1 t2 s1 s2 w 512 = x at hR ⊢
      refine zm_go g_Table_unlikeGroups [5] 30 (by decide +kernel) ok_Table_unlikeGroups _ rfl ?_
      simp only [↓zq, ↓reduceIte, zr_si2, zr_sr1, zr_cp2, zr_tl, zr_tn, shq, List.contains_nil, List.contains_cons, Nat.reduceBEq, Bool.false_or, Bool.or_false, Bool.true_or, Bool.false_eq_true, if_false, if_true, true_and, and_true, List.set_cons_zero, List.set_cons_succ, List.length_cons, List.length_nil, Nat.reduceAdd, Nat.reduceLeDiff, Nat.le_refl, Nat.zero_le, true_or, or_true, zn_cl, ↓jj_Table_unlikeGroups]
      exact ⟨fun _ => hR, fun z => absurd (Int32.le_refl _) z⟩
    | succ n ih =>
      intro i hi
      have hi5 : i < 512 := by omega
      have ih := ih (i + 1) (by omega)
      rw [zs_unl] at ih
      have a1 := hv1 i hi5
      have a2 := hv2 i hi5
      refine zm_go g_Table_unlikeGroups [5] 30 (by decide +kernel) ok_Table_unlikeGroups _ rfl ?_
      simp only [↓zq, ↓reduceIte, zr_si2, zr_sr1, zr_cp2, zr_tl, zr_tn, shq, List.contains_nil, List.contains_cons, Nat.reduceBEq, Bool.false_or, Bool.or_false, Bool.true_or, Bool.false_eq_true, if_false, if_true, true_and, and_true, List.set_cons_zero, List.set_cons_succ, List.length_cons, List.length_nil, Nat.reduceAdd, Nat.reduceLeDiff, Nat.le_refl, Nat.zero_le, true_or, or_true, zn_cl, ↓jj_Table_unlikeGroups, k0, u0, nI_1]
      refine ⟨fun z => absurd z (nI_ge (b := 512) hi5 (by decide)), fun _ => ?_⟩
      refine k_Table_hasKey hk hA.1 hw hB hi5 ?_
      simp only [↓zq, ↓reduceIte, zr_si2, zr_sr1, zr_cp2, zr_tl, zr_tn, shq, List.contains_nil, List.contains_cons, Nat.reduceBEq, Bool.false_or, Bool.or_false, Bool.true_or, Bool.false_eq_true, if_false, if_true, true_and, and_true, List.set_cons_zero, List.set_cons_succ, List.length_cons, List.length_nil, Nat.reduceAdd, Nat.reduceLeDiff, Nat.le_refl, Nat.zero_le, true_or, or_true, zn_cl, ↓jj_Table_unlikeGroups, k0, u0, nI_1]
      refine k_Table_hasKey hku hA2.1 hw2 hB hi5 ?_
      simp only [↓zq, ↓reduceIte, zr_si2, zr_sr1, zr_cp2, zr_tl, zr_tn, shq, List.contains_nil, List.contains_cons, Nat.reduceBEq, Bool.false_or, Bool.or_false, Bool.true_or, Bool.false_eq_true, if_false, if_true, true_and, and_true, List.set_cons_zero, List.set_cons_succ, List.length_cons, List.length_nil, Nat.reduceAdd, Nat.reduceLeDiff, Nat.le_refl, Nat.zero_le, true_or, or_true, zn_cl, ↓jj_Table_unlikeGroups, k0, u0, nI_1]
      have go1 : (((t1 i).1 = 0 ↔ (t2 i).1 = 0) ∧ zs_val t1 s1 w i = zs_val t2 s2 w i → zm_W (zm_md m_Table_unlikeGroups) (d + 3) TT R 5 [some (.inr (some t)), some (.inr (some u)), some (.inl (nI w)), some (.inl (nI (zs_unl t1 t2 s1 s2 w i))), some (.inl (nI (i + 1)))] [] h) := fun z => by
        rw [if_pos z, Nat.add_zero] at ih
        exact ih
      have go2 : (¬ (((t1 i).1 = 0 ↔ (t2 i).1 = 0) ∧ zs_val t1 s1 w i = zs_val t2 s2 w i) → zm_W (zm_md m_Table_unlikeGroups) (d + 3) TT R 5 [some (.inr (some t)), some (.inr (some u)), some (.inl (nI w)), some (.inl (nI (zs_unl t1 t2 s1 s2 w i + 1))), some (.inl (nI (i + 1)))] [] h) := fun z => by
        rw [if_neg z] at ih
        exact ih
      by_cases e1 : (t1 i).1 = 0 <;> by_cases e2 : (t2 i).1 = 0
      · simp only [e1, e2, if_true]
        refine ⟨fun z => absurd trivial z, fun _ => ?_⟩
        refine k_Table_valueAt hk hA.1 hw hB hi5 hw6 (fun h5 hc => hA.2 h5 i hi5 hc) ?_
        simp only [↓zq, ↓reduceIte, zr_si2, zr_sr1, zr_cp2, zr_tl, zr_tn, shq, List.contains_nil, List.contains_cons, Nat.reduceBEq, Bool.false_or, Bool.or_false, Bool.true_or, Bool.false_eq_true, if_false, if_true, true_and, and_true, List.set_cons_zero, List.set_cons_succ, List.length_cons, List.length_nil, Nat.reduceAdd, Nat.reduceLeDiff, Nat.le_refl, Nat.zero_le, true_or, or_true, zn_cl, ↓jj_Table_unlikeGroups, k0, u0, nI_1]
        refine k_Table_valueAt hku hA2.1 hw2 hB hi5 hw6 (fun h5 hc => hA2.2 h5 i hi5 hc) ?_
        simp only [↓zq, ↓reduceIte, zr_si2, zr_sr1, zr_cp2, zr_tl, zr_tn, shq, List.contains_nil, List.contains_cons, Nat.reduceBEq, Bool.false_or, Bool.or_false, Bool.true_or, Bool.false_eq_true, if_false, if_true, true_and, and_true, List.set_cons_zero, List.set_cons_succ, List.length_cons, List.length_nil, Nat.reduceAdd, Nat.reduceLeDiff, Nat.le_refl, Nat.zero_le, true_or, or_true, zn_cl, ↓jj_Table_unlikeGroups, k0, u0, nI_1]
        rw [zn_eq (by omega) (by omega)]
        exact ⟨fun z => go1 ⟨by simp [e1, e2], z⟩, fun z => go2 (fun y => z y.2)⟩
      · simp only [e1, e2, if_true, if_false]
        exact ⟨fun _ => go2 (fun y => e2 (y.1.mp e1)), fun z => absurd z (by decide)⟩
      · simp only [e1, e2, if_true, if_false]
        exact ⟨fun _ => go2 (fun y => e1 (y.1.mpr e2)), fun z => absurd z (by decide)⟩
      · simp only [e1, e2, if_false]
        refine ⟨fun z => absurd trivial z, fun _ => ?_⟩
        refine k_Table_valueAt hk hA.1 hw hB hi5 hw6 (fun h5 hc => hA.2 h5 i hi5 hc) ?_
        simp only [↓zq, ↓reduceIte, zr_si2, zr_sr1, zr_cp2, zr_tl, zr_tn, shq, List.contains_nil, List.contains_cons, Nat.reduceBEq, Bool.false_or, Bool.or_false, Bool.true_or, Bool.false_eq_true, if_false, if_true, true_and, and_true, List.set_cons_zero, List.set_cons_succ, List.length_cons, List.length_nil, Nat.reduceAdd, Nat.reduceLeDiff, Nat.le_refl, Nat.zero_le, true_or, or_true, zn_cl, ↓jj_Table_unlikeGroups, k0, u0, nI_1]
        refine k_Table_valueAt hku hA2.1 hw2 hB hi5 hw6 (fun h5 hc => hA2.2 h5 i hi5 hc) ?_
        simp only [↓zq, ↓reduceIte, zr_si2, zr_sr1, zr_cp2, zr_tl, zr_tn, shq, List.contains_nil, List.contains_cons, Nat.reduceBEq, Bool.false_or, Bool.or_false, Bool.true_or, Bool.false_eq_true, if_false, if_true, true_and, and_true, List.set_cons_zero, List.set_cons_succ, List.length_cons, List.length_nil, Nat.reduceAdd, Nat.reduceLeDiff, Nat.le_refl, Nat.zero_le, true_or, or_true, zn_cl, ↓jj_Table_unlikeGroups, k0, u0, nI_1]
        rw [zn_eq (by omega) (by omega)]
        exact ⟨fun z => go1 ⟨by simp [e1, e2], z⟩, fun z => go2 (fun y => z y.2)⟩
  refine st_Table_unlikeGroups [5] 9 ?_
  simp only [↓zq, ↓reduceIte, zr_si2, zr_sr1, zr_cp2, zr_tl, zr_tn, shq, List.contains_nil, List.contains_cons, Nat.reduceBEq, Bool.false_or, Bool.or_false, Bool.true_or, Bool.false_eq_true, if_false, if_true, true_and, and_true, List.set_cons_zero, List.set_cons_succ, List.length_cons, List.length_nil, Nat.reduceAdd, Nat.reduceLeDiff, Nat.le_refl, Nat.zero_le, true_or, or_true, zn_cl, ↓jj_Table_unlikeGroups]
  exact loop 512 0 rfl
