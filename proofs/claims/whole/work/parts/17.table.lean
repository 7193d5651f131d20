/-! Table of the class -/
abbrev zs_tb : Type := Nat → Nat × Nat × Nat × Nat
def zs_t0 : zs_tb := fun _ => (0, 0, 0, 0)
/-- parts come to a key -/
def zs_add (t : zs_tb) (k c s l g : Nat) : zs_tb := fun j => if j = k then (if (t k).1 = 0 then (c, s, l, g) else ((t k).1 + c, (t k).2.1 + s, min (t k).2.2.1 l, max (t k).2.2.2 g)) else t j
def zk_tab (P : Nat → Nat → Option Nat) (t : Nat) : Prop := (zm_sh TT t).1 = 12 ∧ zm_sh TT (t + 1) = (0, 512) ∧ zm_sh TT (t + 2) = (0, 512) ∧ zm_sh TT (t + 3) = (0, 512) ∧ zm_sh TT (t + 4) = (0, 512) ∧ zm_sh TT (t + 5) = (0, 512) ∧ P t 0 = some (t + 1) ∧ P t 1 = some (t + 2) ∧ P t 2 = some (t + 3) ∧ P t 3 = some (t + 4) ∧ P t 4 = some (t + 5)
def zc_T (I : Nat → Nat → Int32) (t : Nat) (tab : zs_tb) : Prop := (∀ k, k < 512 → I (t + 1) k = nI (tab k).1 ∧ ((tab k).1 ≠ 0 → I (t + 2) k = nI (tab k).2.1 ∧ I (t + 3) k = nI (tab k).2.2.1 ∧ I (t + 4) k = nI (tab k).2.2.2)) ∧ I t 5 = nI (zs_some (fun k => (tab k).1) 512)
/-- bounds: of at most B -/
def zw_T (B : Nat) (tab : zs_tb) : Prop := ∀ k, (tab k).1 ≤ B ∧ (tab k).2.1 ≤ 100 * (tab k).1 ∧ (tab k).2.2.1 < 100 ∧ (tab k).2.2.2 < 100
theorem zs_some_le (f : Nat → Nat) : ∀ m, zs_some f m ≤ m
  | 0 => Nat.le_refl 0
  | m + 1 => by
    have := zs_some_le f m
    rw [zs_some]
    split <;> omega
theorem zs_some_congr {f g : Nat → Nat} : ∀ m, (∀ k, k < m → (f k = 0 ↔ g k = 0)) → zs_some f m = zs_some g m
  | 0, _ => rfl
  | m + 1, h => by
    rw [zs_some, zs_some, zs_some_congr m (fun k hk => h k (by omega))]
    have := h m (by omega)
    by_cases hf : f m = 0
    · rw [if_pos hf, if_pos (this.mp hf)]
    · rw [if_neg hf, if_neg (fun z => hf (this.mpr z))]
theorem zs_some_new {f g : Nat → Nat} {k : Nat} (h0 : f k = 0) (h1 : g k ≠ 0) : ∀ m, k < m → (∀ j, j < m → j ≠ k → (f j = 0 ↔ g j = 0)) → zs_some g m = zs_some f m + 1
  | 0, h, _ => absurd h (Nat.not_lt_zero k)
  | m + 1, h, ho => by
    rw [zs_some, zs_some]
    by_cases hk : k = m
    · subst hk
      rw [if_pos h0, if_neg h1, zs_some_congr k (fun j hj => (ho j (by omega) (by omega)).symm)]
    · rw [zs_some_new h0 h1 m (by omega) (fun j hj => ho j (by omega))]
      have := ho m (by omega) (fun z => hk z.symm)
      by_cases hf : f m = 0
      · rw [if_pos hf, if_pos (this.mp hf)]
      · rw [if_neg hf, if_neg (fun z => hf (this.mpr z))]
theorem zw_T_0 (B : Nat) : zw_T B zs_t0 := fun k => ⟨Nat.zero_le _, Nat.zero_le _, show 0 < 100 by decide, show 0 < 100 by decide⟩
theorem zw_T_mono {B C : Nat} {tab : zs_tb} (h : zw_T B tab) (hBC : B ≤ C) : zw_T C tab := fun k => ⟨Nat.le_trans (h k).1 hBC, (h k).2⟩
theorem zw_T_add {B : Nat} {tab : zs_tb} (h : zw_T B tab) (k : Nat) {c s l g : Nat} (hs : s ≤ 100 * c) (hl : l < 100) (hg : g < 100) : zw_T (B + c) (zs_add tab k c s l g) := by
  intro j
  have h1 := h j
  have h2 := h k
  unfold zs_add
  split
  · split
    · exact ⟨by dsimp only; omega, hs, hl, hg⟩
    · refine ⟨?_, ?_, ?_, ?_⟩ <;> dsimp only
      · omega
      · omega
      · omega
      · omega
  · exact ⟨by omega, h1.2⟩
theorem zs_some_add_new {tab : zs_tb} {k c s l g : Nat} (hk : k < 512) (h0 : (tab k).1 = 0) (hc : c ≠ 0) : zs_some (fun j => (zs_add tab k c s l g j).1) 512 = zs_some (fun j => (tab j).1) 512 + 1 := by
  refine zs_some_new (k := k) h0 ?_ 512 hk (fun j hj hn => ?_)
  · simp [zs_add, h0, hc]
  · simp [zs_add, hn]
theorem zs_some_add_old {tab : zs_tb} {k c s l g : Nat} (h0 : (tab k).1 ≠ 0) : zs_some (fun j => (zs_add tab k c s l g j).1) 512 = zs_some (fun j => (tab j).1) 512 := by
  refine zs_some_congr 512 (fun j hj => ?_)
  by_cases hn : j = k
  · subst hn
    simp [zs_add, h0]
  · simp [zs_add, hn]
theorem zn_min {a b : Nat} (ha : a < 2 ^ 31) (hb : b < 2 ^ 31) : (if nI b < nI a then nI b else nI a) = nI (min a b) := by
  by_cases q : b < a
  · rw [if_pos (nI_lt q ha), Nat.min_eq_right (by omega)]
  · rw [if_neg (fun z => q ((nI_ltI hb ha).mp z)), Nat.min_eq_left (by omega)]
theorem zn_max {a b : Nat} (ha : a < 2 ^ 31) (hb : b < 2 ^ 31) : (if nI a < nI b then nI b else nI a) = nI (max a b) := by
  by_cases q : a < b
  · rw [if_pos (nI_lt q hb), Nat.max_eq_right (by omega)]
  · rw [if_neg (fun z => q ((nI_ltI ha hb).mp z)), Nat.max_eq_left (by omega)]
set_option maxHeartbeats 4000000 in
set_option maxRecDepth 100000 in
theorem k_Table_clear {d : Nat} {h : zm_M} {R : zm_R} {t : Nat} (hk : zk_tab h.2 t) (hR : ∀ h' : zm_M, h'.2 = h.2 → (∀ a, (a < t ∨ t + 4 < a) → h'.1 a = h.1 a) → zc_T h'.1 t zs_t0 → R none h') : zm_C (d + 2) TT m_Table_clear [.inr (some t)] h R := by
  obtain ⟨k0, k1, k2, k3, k4, k5, p0, p1, p2, p3, p4⟩ := hk
  refine st_Table_clear [] 30 ?_
  simp only [↓zq, ↓reduceIte, zr_si2, zr_sr1, zr_cp2, zr_tl, zr_tn, shq, List.contains_nil, List.contains_cons, Nat.reduceBEq, Bool.false_or, Bool.or_false, Bool.true_or, Bool.false_eq_true, if_false, if_true, true_and, and_true, List.set_cons_zero, List.set_cons_succ, List.length_cons, List.length_nil, Nat.reduceAdd, Nat.reduceLeDiff, Nat.le_refl, Nat.zero_le, true_or, or_true, zn_cl, ↓jj_Table_clear, k0, p0]
  refine k_fill k1 (by decide) ?_
  simp only [↓zq, ↓reduceIte, zr_si2, zr_sr1, zr_cp2, zr_tl, zr_tn, shq, List.contains_nil, List.contains_cons, Nat.reduceBEq, Bool.false_or, Bool.or_false, Bool.true_or, Bool.false_eq_true, if_false, if_true, true_and, and_true, List.set_cons_zero, List.set_cons_succ, List.length_cons, List.length_nil, Nat.reduceAdd, Nat.reduceLeDiff, Nat.le_refl, Nat.zero_le, true_or, or_true, zn_cl, ↓jj_Table_clear, k0, p0]
  refine hR _ rfl (fun a ha => ?_) ⟨fun k hk => ⟨?_, fun z => absurd rfl z⟩, ?_⟩
  · funext j
    simp only [zr_si1, zm_fl]
    rw [if_neg (by omega), if_neg (by omega)]
  · simp only [zr_si1, zm_fl]
    rw [if_neg (by omega), if_pos ⟨trivial, hk⟩]
    rfl
  · simp only [zr_si1, zm_fl]
    rw [if_pos ⟨trivial, trivial⟩]
    rw [show zs_some (fun k => (zs_t0 k).1) 512 = 0 by decide +kernel]
    rfl
set_option maxHeartbeats 4000000 in
set_option maxRecDepth 100000 in
theorem k_Table_hasKey {d : Nat} {h : zm_M} {R : zm_R} {t k B : Nat} {tab : zs_tb} (hk : zk_tab h.2 t) (hT : zc_T h.1 t tab) (hw : zw_T B tab) (hB : B < 2 ^ 20) (hk5 : k < 512) (hR : R (some (.inl (if (tab k).1 = 0 then 0 else 1))) h) : zm_C (d + 1) TT m_Table_hasKey [.inr (some t), .inl (nI k)] h R := by
  obtain ⟨k0, k1, k2, k3, k4, k5, p0, p1, p2, p3, p4⟩ := hk
  refine st_Table_hasKey [] 30 ?_
  simp only [↓zq, ↓reduceIte, zr_si2, zr_sr1, zr_cp2, zr_tl, zr_tn, shq, List.contains_nil, List.contains_cons, Nat.reduceBEq, Bool.false_or, Bool.or_false, Bool.true_or, Bool.false_eq_true, if_false, if_true, true_and, and_true, List.set_cons_zero, List.set_cons_succ, List.length_cons, List.length_nil, Nat.reduceAdd, Nat.reduceLeDiff, Nat.le_refl, Nat.zero_le, true_or, or_true, zn_cl, ↓jj_Table_hasKey, k0, k1, p0]
  refine ⟨fun z => absurd z (nI_pos (by omega)), fun _ => ⟨fun z => absurd z (nI_ge (b := 512) hk5 (by decide)), fun _ => ⟨vp_in_nI hk5 (by decide), ?_⟩⟩⟩
  rw [nI_clamp (by omega), (hT.1 k hk5).1]
  have := (hw k).1
  refine ⟨fun z => ?_, fun z => ?_⟩
  · have e : (tab k).1 = 0 := by
      have := (nI_leI (a := (tab k).1) (b := 0) (by omega) (by decide)).mp z
      omega
    rw [if_pos e] at hR
    exact hR
  · have e : ¬ (tab k).1 = 0 := fun e => z (by rw [e]; exact Int32.le_refl _)
    rw [if_neg e] at hR
    exact hR
set_option maxHeartbeats 4000000 in
set_option maxRecDepth 100000 in
theorem k_Table_addParts {d : Nat} {h : zm_M} {R : zm_R} {t k c s l g B : Nat} {tab : zs_tb} (hk : zk_tab h.2 t) (hT : zc_T h.1 t tab) (hw : zw_T B tab) (hB : B < 2 ^ 20) (hk5 : k < 512) (hc : c ≠ 0) (hc2 : c < 2 ^ 20) (hl : l < 100) (hg : g < 100) (hR : ∀ h' : zm_M, h'.2 = h.2 → (∀ a, (a < t ∨ t + 4 < a) → h'.1 a = h.1 a) → zc_T h'.1 t (zs_add tab k c s l g) → R none h') : zm_C (d + 1) TT m_Table_addParts [.inr (some t), .inl (nI k), .inl (nI c), .inl (nI s), .inl (nI l), .inl (nI g)] h R := by
  obtain ⟨k0, k1, k2, k3, k4, k5, p0, p1, p2, p3, p4⟩ := hk
  obtain ⟨hT1, hT2⟩ := hT
  obtain ⟨w1, w2, w3, w4⟩ := hw k
  refine st_Table_addParts [] 30 ?_
  simp only [↓zq, ↓reduceIte, zr_si2, zr_sr1, zr_cp2, zr_tl, zr_tn, shq, List.contains_nil, List.contains_cons, Nat.reduceBEq, Bool.false_or, Bool.or_false, Bool.true_or, Bool.false_eq_true, if_false, if_true, true_and, and_true, List.set_cons_zero, List.set_cons_succ, List.length_cons, List.length_nil, Nat.reduceAdd, Nat.reduceLeDiff, Nat.le_refl, Nat.zero_le, true_or, or_true, zn_cl, ↓jj_Table_addParts, k0, k1, k2, k3, k4, p0, p1, p2, p3]
  have hv : vp_in (nI k) 512 := vp_in_nI hk5 (by decide)
  simp only [hv, true_and, nI_clamp (show k < 2 ^ 31 by omega)]
  refine ⟨fun z => absurd z (nI_pos (by omega)), fun _ => ⟨fun _ => ?_, fun z => absurd (nI_lt (b := 512) hk5 (by decide)) z⟩⟩
  rw [(hT1 k hk5).1, zn_z (by omega)]
  refine ⟨fun z => ?_, fun z => ?_⟩
  · obtain ⟨q1, q2, q3⟩ := (hT1 k hk5).2 z
    refine hR _ rfl (fun a ha => ?_) ⟨fun j hj => ?_, ?_⟩
    · funext j
      simp only [zr_si1]
      rw [if_neg (by omega), if_neg (by omega), if_neg (by omega), if_neg (by omega)]
    · by_cases hjk : j = k
      · subst hjk
        simp [zr_si1, zs_add, z, q1, q2, q3, nI_add, (hT1 j hk5).1, zn_min (a := (tab j).2.2.1) (b := l) (by omega) (by omega), zn_max (a := (tab j).2.2.2) (b := g) (by omega) (by omega)]
      · have := hT1 j hj
        simpa [zr_si1, zs_add, hjk] using this
    · rw [zs_some_add_old z]
      simpa [zr_si1] using hT2
  · refine hR _ rfl (fun a ha => ?_) ⟨fun j hj => ?_, ?_⟩
    · funext j
      simp only [zr_si1]
      rw [if_neg (by omega), if_neg (by omega), if_neg (by omega), if_neg (by omega), if_neg (by omega)]
    · by_cases hjk : j = k
      · subst hjk
        simp [zr_si1, zs_add, z]
      · have := hT1 j hj
        simpa [zr_si1, zs_add, hjk] using this
    · rw [zs_some_add_new hk5 z hc]
      simp only [zr_si1]
      rw [if_neg (by omega), if_neg (by omega), if_neg (by omega), if_neg (by omega), if_pos ⟨trivial, trivial⟩, hT2]
      exact nI_1 _
set_option maxHeartbeats 4000000 in
set_option maxRecDepth 100000 in
theorem k_Table_addFact {d : Nat} {h : zm_M} {R : zm_R} {t k m B : Nat} {tab : zs_tb} (hk : zk_tab h.2 t) (hT : zc_T h.1 t tab) (hw : zw_T B tab) (hB : B < 2 ^ 20) (hk5 : k < 512) (hm : m < 100) (hR : ∀ h' : zm_M, h'.2 = h.2 → (∀ a, (a < t ∨ t + 4 < a) → h'.1 a = h.1 a) → zc_T h'.1 t (zs_add tab k 1 m m m) → R none h') : zm_C (d + 2) TT m_Table_addFact [.inr (some t), .inl (nI k), .inl (nI m)] h R := by
  refine st_Table_addFact [] 30 ?_
  simp only [↓zq, ↓reduceIte, zr_si2, zr_sr1, zr_cp2, zr_tl, zr_tn, shq, List.contains_nil, List.contains_cons, Nat.reduceBEq, Bool.false_or, Bool.or_false, Bool.true_or, Bool.false_eq_true, if_false, if_true, true_and, and_true, List.set_cons_zero, List.set_cons_succ, List.length_cons, List.length_nil, Nat.reduceAdd, Nat.reduceLeDiff, Nat.le_refl, Nat.zero_le, true_or, or_true, zn_cl, ↓jj_Table_addFact, hk.1]
  refine k_Table_addParts (c := 1) hk hT hw hB hk5 (by decide) (by decide) hm hm (fun h' e1 e2 e3 => ?_)
  simp only [↓zq, ↓reduceIte, zr_si2, zr_sr1, zr_cp2, zr_tl, zr_tn, shq, List.contains_nil, List.contains_cons, Nat.reduceBEq, Bool.false_or, Bool.or_false, Bool.true_or, Bool.false_eq_true, if_false, if_true, true_and, and_true, List.set_cons_zero, List.set_cons_succ, List.length_cons, List.length_nil, Nat.reduceAdd, Nat.reduceLeDiff, Nat.le_refl, Nat.zero_le, true_or, or_true, zn_cl, ↓jj_Table_addFact, hk.1]
  exact hR h' e1 e2 e3
set_option maxHeartbeats 4000000 in
set_option maxRecDepth 100000 in
theorem k_Table_addGroup {d : Nat} {h : zm_M} {R : zm_R} {t u k j B C : Nat} {tab tab2 : zs_tb} (hk : zk_tab h.2 t) (hT : zc_T h.1 t tab) (hw : zw_T B tab) (hB : B < 2 ^ 20) (hk5 : k < 512) (hu : zk_tab h.2 u) (hU : zc_T h.1 u tab2) (hw2 : zw_T C tab2) (hC : C < 2 ^ 20) (hj : j < 512) (hne : (tab2 j).1 ≠ 0) (hR : ∀ h' : zm_M, h'.2 = h.2 → (∀ a, (a < t ∨ t + 4 < a) → h'.1 a = h.1 a) → zc_T h'.1 t (zs_add tab k (tab2 j).1 (tab2 j).2.1 (tab2 j).2.2.1 (tab2 j).2.2.2) → R none h') : zm_C (d + 2) TT m_Table_addGroup [.inr (some t), .inl (nI k), .inr (some u), .inl (nI j)] h R := by
  obtain ⟨u0, u1, u2, u3, u4, u5, r0, r1, r2, r3, r4⟩ := id hu
  obtain ⟨v1, v2, v3, v4⟩ := hw2 j
  refine st_Table_addGroup [] 30 ?_
  simp only [↓zq, ↓reduceIte, zr_si2, zr_sr1, zr_cp2, zr_tl, zr_tn, shq, List.contains_nil, List.contains_cons, Nat.reduceBEq, Bool.false_or, Bool.or_false, Bool.true_or, Bool.false_eq_true, if_false, if_true, true_and, and_true, List.set_cons_zero, List.set_cons_succ, List.length_cons, List.length_nil, Nat.reduceAdd, Nat.reduceLeDiff, Nat.le_refl, Nat.zero_le, true_or, or_true, zn_cl, ↓jj_Table_addGroup, hk.1, u0]
  refine k_Table_hasKey hu hU hw2 hC hj ?_
  rw [if_neg hne]
  simp only [↓zq, ↓reduceIte, zr_si2, zr_sr1, zr_cp2, zr_tl, zr_tn, shq, List.contains_nil, List.contains_cons, Nat.reduceBEq, Bool.false_or, Bool.or_false, Bool.true_or, Bool.false_eq_true, if_false, if_true, true_and, and_true, List.set_cons_zero, List.set_cons_succ, List.length_cons, List.length_nil, Nat.reduceAdd, Nat.reduceLeDiff, Nat.le_refl, Nat.zero_le, true_or, or_true, zn_cl, ↓jj_Table_addGroup, hk.1, u0, u1, u2, u3, u4, r0, r1, r2, r3]
  have hv : vp_in (nI j) 512 := vp_in_nI hj (by decide)
  obtain ⟨q1, q2, q3⟩ := (hU.1 j hj).2 hne
  simp only [hv, true_and, nI_clamp (show j < 2 ^ 31 by omega), (hU.1 j hj).1, q1, q2, q3]
  refine ⟨fun z => absurd z (by decide), fun _ => ?_⟩
  refine k_Table_addParts hk hT hw hB hk5 hne (by omega) v3 v4 (fun h' e1 e2 e3 => ?_)
  simp only [↓zq, ↓reduceIte, zr_si2, zr_sr1, zr_cp2, zr_tl, zr_tn, shq, List.contains_nil, List.contains_cons, Nat.reduceBEq, Bool.false_or, Bool.or_false, Bool.true_or, Bool.false_eq_true, if_false, if_true, true_and, and_true, List.set_cons_zero, List.set_cons_succ, List.length_cons, List.length_nil, Nat.reduceAdd, Nat.reduceLeDiff, Nat.le_refl, Nat.zero_le, true_or, or_true, zn_cl, ↓jj_Table_addGroup]
  exact hR h' e1 e2 e3
/-- the key below m that is so many behind the first -/
def zs_nth (f : Nat → Nat) (i : Nat) : Nat → Option Nat
  | 0 => none
  | m + 1 => match zs_nth f i m with
    | some k => some k
    | none => if f m ≠ 0 ∧ zs_some f m = i then some m else none
theorem zs_nth_none {f : Nat → Nat} {i : Nat} : ∀ m, zs_some f m ≤ i → zs_nth f i m = none
  | 0, _ => rfl
  | m + 1, h => by
    rw [zs_some] at h
    have h1 := zs_nth_none (f := f) (i := i) m (by omega)
    rw [zs_nth, h1]
    by_cases hf : f m = 0
    · simp [hf]
    · rw [if_neg hf] at h
      simp only []
      rw [if_neg (by omega)]
theorem zs_nth_up {f : Nat → Nat} {i k : Nat} : ∀ m n, zs_nth f i m = some k → zs_nth f i (m + n) = some k
  | m, 0, h => h
  | m, n + 1, h => by
    have h1 := zs_nth_up m n h
    show zs_nth f i ((m + n) + 1) = some k
    rw [zs_nth, h1]
def zs_opt (o : Option Nat) : Int32 := match o with
  | some k => nI k
  | none => -1
set_option maxHeartbeats 4000000 in
set_option maxRecDepth 100000 in
theorem k_Table_keyAt {d : Nat} {h : zm_M} {R : zm_R} {t B : Nat} {i : Int32} {tab : zs_tb} (hk : zk_tab h.2 t) (hT : zc_T h.1 t tab) (hw : zw_T B tab) (hB : B < 2 ^ 20) (h0 : i < 0 → R (some (.inl (-1))) h) (hR : ∀ j : Nat, j < 2 ^ 31 → i = nI j → R (some (.inl (zs_opt (zs_nth (fun k => (tab k).1) j 512)))) h) : zm_C (d + 1) TT m_Table_keyAt [.inr (some t), .inl i] h R := by
  obtain ⟨k0, k1, k2, k3, k4, k5, p0, p1, p2, p3, p4⟩ := hk
  have hle := zs_some_le (fun k => (tab k).1) 512
  have loop : ∀ (j : Nat), j < zs_some (fun k => (tab k).1) 512 → i = nI j → ∀ (n k : Nat), k + n = 512 → zs_nth (fun k => (tab k).1) j k = none → zs_some (fun k => (tab k).1) k ≤ j → zm_W (zm_md m_Table_keyAt) (d + 1) TT R 18 [some (.inr (some t)), some (.inl i), some (.inl (nI (j - zs_some (fun k => (tab k).1) k))), some (.inl (nI k))] [] h := by
    intro j hj hi n
    induction n with
    | zero =>
      intro k hk hno hsm
      have : k = 512 := by omega
      subst this
      omega
    | succ n ih =>
      intro k hk hno hsm
      have hk5 : k < 512 := by omega
      generalize hsk : zs_some (fun k => (tab k).1) k = sk at hsm ⊢
      generalize hyj : j - sk = yj
      refine zm_go g_Table_keyAt [18] 30 (by decide +kernel) ok_Table_keyAt _ rfl ?_
      simp only [↓zq, ↓reduceIte, zr_si2, zr_sr1, zr_cp2, zr_tl, zr_tn, shq, List.contains_nil, List.contains_cons, Nat.reduceBEq, Bool.false_or, Bool.or_false, Bool.true_or, Bool.false_eq_true, if_false, if_true, true_and, and_true, List.set_cons_zero, List.set_cons_succ, List.length_cons, List.length_nil, Nat.reduceAdd, Nat.reduceLeDiff, Nat.le_refl, Nat.zero_le, true_or, or_true, zn_cl, ↓jj_Table_keyAt, k0, k1, p0]
      subst hyj
      subst hsk
      refine ⟨fun z => absurd z (nI_ge (b := 512) hk5 (by decide)), fun _ => ⟨vp_in_nI hk5 (by decide), ?_⟩⟩
      rw [nI_clamp (by omega), (hT.1 k hk5).1, zn_z (by omega), show nI k + 1 = nI (k + 1) from nI_1 k]
      have hb := (hw k).1
      refine ⟨fun z => ?_, fun z => ⟨fun z2 => ?_, fun z2 => ?_⟩⟩
      · have e : (tab k).1 = 0 := by
          have := (nI_leI (a := (tab k).1) (b := 0) (by omega) (by decide)).mp z
          omega
        have := ih (k + 1) (by omega) (by rw [zs_nth, hno]; simp [e]) (by rw [zs_some, if_pos e]; omega)
        rw [zs_some, if_pos e] at this
        exact this
      · have e : ¬ (tab k).1 = 0 := fun e => z (by rw [e]; exact Int32.le_refl _)
        have := ih (k + 1) (by omega) (by rw [zs_nth, hno]; simp only []; rw [if_neg (by omega)]) (by rw [zs_some, if_neg e]; omega)
        rw [zs_some, if_neg e, show j - (zs_some (fun k => (tab k).1) k + 1) = j - zs_some (fun k => (tab k).1) k - 1 by omega] at this
        have e2 : nI (j - zs_some (fun k => (tab k).1) k) + -1 = nI (j - zs_some (fun k => (tab k).1) k - 1) := by
          obtain ⟨y, hy⟩ : ∃ y, j - zs_some (fun k => (tab k).1) k = y + 1 := ⟨j - zs_some (fun k => (tab k).1) k - 1, by omega⟩
          rw [hy]
          exact pk_m1 y
        rw [e2]
        exact this
      · have e : ¬ (tab k).1 = 0 := fun e => z (by rw [e]; exact Int32.le_refl _)
        have h1 : zs_nth (fun k => (tab k).1) j (k + 1) = some k := by
          rw [zs_nth, hno]
          simp only []
          rw [if_pos ⟨e, by omega⟩]
        have h2 := zs_nth_up (k + 1) (511 - k) h1
        rw [show k + 1 + (511 - k) = 512 by omega] at h2
        have := hR j (by omega) hi
        rw [h2] at this
        exact this
  refine st_Table_keyAt [18] 30 ?_
  simp only [↓zq, ↓reduceIte, zr_si2, zr_sr1, zr_cp2, zr_tl, zr_tn, shq, List.contains_nil, List.contains_cons, Nat.reduceBEq, Bool.false_or, Bool.or_false, Bool.true_or, Bool.false_eq_true, if_false, if_true, true_and, and_true, List.set_cons_zero, List.set_cons_succ, List.length_cons, List.length_nil, Nat.reduceAdd, Nat.reduceLeDiff, Nat.le_refl, Nat.zero_le, true_or, or_true, zn_cl, ↓jj_Table_keyAt, k0]
  rw [hT.2]
  refine ⟨h0, fun z => ?_⟩
  obtain ⟨j, hj, rfl⟩ := nI_of z
  rw [zn_lt hj (by omega)]
  refine ⟨fun z2 => ?_, fun z2 => ?_⟩
  · have := loop j z2 rfl 512 0 rfl rfl (Nat.zero_le _)
    rw [show j - zs_some (fun k => (tab k).1) 0 = j from Nat.sub_zero j] at this
    exact this
  · have := hR j hj rfl
    rw [zs_nth_none 512 (by omega)] at this
    exact this
