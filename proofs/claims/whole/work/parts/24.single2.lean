/-! tallySingled -/
set_option maxHeartbeats 4000000 in
set_option maxRecDepth 100000 in
theorem k_Table_single {d : Nat} {h : zm_M} {R : zm_R} {t k : Nat} {x : Int32} (hk : zk_tab h.2 t) (hk5 : k < 512) (hR : R none (zm_si h (t + 5) k x)) : zm_C (d + 1) TT m_Table_single [.inr (some t), .inl (nI k), .inl x] h R := by
  obtain ⟨k0, k1, k2, k3, k4, k5, p0, p1, p2, p3, p4⟩ := hk
  have hv : vp_in (nI k) 512 := vp_in_nI hk5 (by decide)
  have hcl := nI_clamp (show k < 2 ^ 31 by omega)
  refine st_Table_single [] 30 ?_
  simp only [↓zq, ↓reduceIte, zr_si2, zr_sr1, zr_cp2, zr_tl, zr_tn, shq, List.contains_nil, List.contains_cons, Nat.reduceBEq, Bool.false_or, Bool.or_false, Bool.true_or, Bool.false_eq_true, if_false, if_true, true_and, and_true, List.set_cons_zero, List.set_cons_succ, List.length_cons, List.length_nil, Nat.reduceAdd, Nat.reduceLeDiff, Nat.le_refl, Nat.zero_le, true_or, or_true, zn_cl, ↓jj_Table_single, k0, k5, p4, hv, hcl]
  exact ⟨fun z => absurd z (nI_pos (by omega)), fun _ => ⟨fun z => absurd z (nI_ge (b := 512) hk5 (by decide)), fun _ => hR⟩⟩
set_option maxHeartbeats 4000000 in
set_option maxRecDepth 100000 in
theorem k_Table_singledAt {d : Nat} {h : zm_M} {R : zm_R} {t k : Nat} (hk : zk_tab h.2 t) (hk5 : k < 512) (hR : R (some (.inl (h.1 (t + 5) k))) h) : zm_C (d + 1) TT m_Table_singledAt [.inr (some t), .inl (nI k)] h R := by
  obtain ⟨k0, k1, k2, k3, k4, k5, p0, p1, p2, p3, p4⟩ := hk
  have hv : vp_in (nI k) 512 := vp_in_nI hk5 (by decide)
  have hcl := nI_clamp (show k < 2 ^ 31 by omega)
  refine st_Table_singledAt [] 30 ?_
  simp only [↓zq, ↓reduceIte, zr_si2, zr_sr1, zr_cp2, zr_tl, zr_tn, shq, List.contains_nil, List.contains_cons, Nat.reduceBEq, Bool.false_or, Bool.or_false, Bool.true_or, Bool.false_eq_true, if_false, if_true, true_and, and_true, List.set_cons_zero, List.set_cons_succ, List.length_cons, List.length_nil, Nat.reduceAdd, Nat.reduceLeDiff, Nat.le_refl, Nat.zero_le, true_or, or_true, zn_cl, ↓jj_Table_singledAt, k0, k5, p4, hv, hcl]
  exact ⟨fun z => absurd z (nI_pos (by omega)), fun _ => ⟨fun z => absurd z (nI_ge (b := 512) hk5 (by decide)), fun _ => hR⟩⟩
set_option maxHeartbeats 4000000 in
set_option maxRecDepth 100000 in
theorem k_Table_countAt {d : Nat} {h : zm_M} {R : zm_R} {t k : Nat} (hk : zk_tab h.2 t) (hk5 : k < 512) (hR : R (some (.inl (h.1 (t + 1) k))) h) : zm_C (d + 1) TT m_Table_countAt [.inr (some t), .inl (nI k)] h R := by
  obtain ⟨k0, k1, k2, k3, k4, k5, p0, p1, p2, p3, p4⟩ := hk
  have hv : vp_in (nI k) 512 := vp_in_nI hk5 (by decide)
  have hcl := nI_clamp (show k < 2 ^ 31 by omega)
  refine st_Table_countAt [] 30 ?_
  simp only [↓zq, ↓reduceIte, zr_si2, zr_sr1, zr_cp2, zr_tl, zr_tn, shq, List.contains_nil, List.contains_cons, Nat.reduceBEq, Bool.false_or, Bool.or_false, Bool.true_or, Bool.false_eq_true, if_false, if_true, true_and, and_true, List.set_cons_zero, List.set_cons_succ, List.length_cons, List.length_nil, Nat.reduceAdd, Nat.reduceLeDiff, Nat.le_refl, Nat.zero_le, true_or, or_true, zn_cl, ↓jj_Table_countAt, k0, k1, p0, hv, hcl]
  exact ⟨fun z => absurd z (nI_pos (by omega)), fun _ => ⟨fun z => absurd z (nI_ge (b := 512) hk5 (by decide)), fun _ => hR⟩⟩
set_option maxHeartbeats 4000000 in
set_option maxRecDepth 100000 in
theorem k_Facts_meetUnlike {d : Nat} {h : zm_M} {R : zm_R} {t k m : Nat} (hp : zp_ok h.2) (hk : zk_tab h.2 t) (hk5 : k < 512) (h1 : h.1 35 k = 0 → R none (zm_si (zm_si h (t + 5) k 1) 35 k (nI (m + 1)))) (h2 : ¬ h.1 35 k = 0 → h.1 35 k = nI (m + 1) → R none (zm_si h 35 k (nI (m + 1)))) (h3 : ¬ h.1 35 k = 0 → ¬ h.1 35 k = nI (m + 1) → R none (zm_si (zm_si h (t + 5) k (h.1 (t + 5) k + 1)) 35 k (nI (m + 1)))) : zm_C (d + 2) TT m_Facts_meetUnlike [.inr (some 30), .inr (some t), .inl (nI k), .inl (nI m)] h R := by
  have p5 := (zp_30 hp).2.2.2.2
  have k0 := hk.1
  have hv : vp_in (nI k) 512 := vp_in_nI hk5 (by decide)
  have hcl := nI_clamp (show k < 2 ^ 31 by omega)
  refine st_Facts_meetUnlike [] 30 ?_
  simp only [↓zq, ↓reduceIte, zr_si2, zr_sr1, zr_cp2, zr_tl, zr_tn, shq, List.contains_nil, List.contains_cons, Nat.reduceBEq, Bool.false_or, Bool.or_false, Bool.true_or, Bool.false_eq_true, if_false, if_true, true_and, and_true, List.set_cons_zero, List.set_cons_succ, List.length_cons, List.length_nil, Nat.reduceAdd, Nat.reduceLeDiff, Nat.le_refl, Nat.zero_le, true_or, or_true, zn_cl, ↓jj_Facts_meetUnlike, k0, p5, hv, hcl, nI_1]
  refine ⟨fun z => absurd z (nI_pos (by omega)), fun _ => ⟨fun _ => ⟨fun z => ⟨fun z2 => h2 z z2, fun z2 => ?_⟩, fun z => ?_⟩, fun z => absurd (nI_lt (b := 512) hk5 (by decide)) z⟩⟩
  · refine k_Table_singledAt hk hk5 ?_
    simp only [↓zq, ↓reduceIte, zr_si2, zr_sr1, zr_cp2, zr_tl, zr_tn, shq, List.contains_nil, List.contains_cons, Nat.reduceBEq, Bool.false_or, Bool.or_false, Bool.true_or, Bool.false_eq_true, if_false, if_true, true_and, and_true, List.set_cons_zero, List.set_cons_succ, List.length_cons, List.length_nil, Nat.reduceAdd, Nat.reduceLeDiff, Nat.le_refl, Nat.zero_le, true_or, or_true, zn_cl, ↓jj_Facts_meetUnlike, k0, p5, hv, hcl, nI_1]
    refine k_Table_single hk hk5 ?_
    simp only [↓zq, ↓reduceIte, zr_si2, zr_sr1, zr_cp2, zr_tl, zr_tn, shq, List.contains_nil, List.contains_cons, Nat.reduceBEq, Bool.false_or, Bool.or_false, Bool.true_or, Bool.false_eq_true, if_false, if_true, true_and, and_true, List.set_cons_zero, List.set_cons_succ, List.length_cons, List.length_nil, Nat.reduceAdd, Nat.reduceLeDiff, Nat.le_refl, Nat.zero_le, true_or, or_true, zn_cl, ↓jj_Facts_meetUnlike, k0, p5, hv, hcl, nI_1]
    exact h3 z z2
  · refine k_Table_single hk hk5 ?_
    simp only [↓zq, ↓reduceIte, zr_si2, zr_sr1, zr_cp2, zr_tl, zr_tn, shq, List.contains_nil, List.contains_cons, Nat.reduceBEq, Bool.false_or, Bool.or_false, Bool.true_or, Bool.false_eq_true, if_false, if_true, true_and, and_true, List.set_cons_zero, List.set_cons_succ, List.length_cons, List.length_nil, Nat.reduceAdd, Nat.reduceLeDiff, Nat.le_refl, Nat.zero_le, true_or, or_true, zn_cl, ↓jj_Facts_meetUnlike, k0, p5, hv, hcl, nI_1]
    exact h1 z
set_option maxHeartbeats 4000000 in
set_option maxRecDepth 100000 in
theorem k_Facts_meetMiddle {d : Nat} {h : zm_M} {R : zm_R} {t k m c p : Nat} (hp : zp_ok h.2) (hk : zk_tab h.2 t) (hk5 : k < 512) (ht : 72 < t) (hc : h.1 (t + 1) k = nI c) (hc2 : c < 1000) (hp2 : h.1 35 k = nI p) (hp3 : p < 1000) (h1 : p + 1 = (c + 1) / 2 → R none (zm_si (zm_si h 35 k (nI (p + 1))) (t + 5) k (nI m))) (h2 : ¬ p + 1 = (c + 1) / 2 → R none (zm_si h 35 k (nI (p + 1)))) : zm_C (d + 2) TT m_Facts_meetMiddle [.inr (some 30), .inr (some t), .inl (nI k), .inl (nI m)] h R := by
  have p5 := (zp_30 hp).2.2.2.2
  have k0 := hk.1
  have hv : vp_in (nI k) 512 := vp_in_nI hk5 (by decide)
  have hcl := nI_clamp (show k < 2 ^ 31 by omega)
  refine st_Facts_meetMiddle [] 30 ?_
  simp only [↓zq, ↓reduceIte, zr_si2, zr_sr1, zr_cp2, zr_tl, zr_tn, shq, List.contains_nil, List.contains_cons, Nat.reduceBEq, Bool.false_or, Bool.or_false, Bool.true_or, Bool.false_eq_true, if_false, if_true, true_and, and_true, List.set_cons_zero, List.set_cons_succ, List.length_cons, List.length_nil, Nat.reduceAdd, Nat.reduceLeDiff, Nat.le_refl, Nat.zero_le, true_or, or_true, zn_cl, ↓jj_Facts_meetMiddle, k0, p5, hv, hcl, hp2, nI_1]
  refine ⟨fun z => absurd z (nI_pos (by omega)), fun _ => ⟨fun _ => ?_, fun z => absurd (nI_lt (b := 512) hk5 (by decide)) z⟩⟩
  simp only [zr_si1, and_self, if_true]
  refine k_Table_countAt (h := zm_si h 35 k (nI (p + 1))) hk hk5 ?_
  have hc' : (zm_si h 35 k (nI (p + 1))).1 (t + 1) k = nI c := by
    simp only [zr_si1]
    rw [if_neg (by omega)]
    exact hc
  simp only [↓zq, ↓reduceIte, zr_si2, zr_sr1, zr_cp2, zr_tl, zr_tn, shq, List.contains_nil, List.contains_cons, Nat.reduceBEq, Bool.false_or, Bool.or_false, Bool.true_or, Bool.false_eq_true, if_false, if_true, true_and, and_true, List.set_cons_zero, List.set_cons_succ, List.length_cons, List.length_nil, Nat.reduceAdd, Nat.reduceLeDiff, Nat.le_refl, Nat.zero_le, true_or, or_true, zn_cl, ↓jj_Facts_meetMiddle, k0, p5, hv, hcl, hc', nI_1]
  refine ⟨by decide, ?_⟩
  rw [show (2 : Int32) = nI 2 from rfl, pk_div (by omega) (by decide) (by decide), zn_eq (by omega) (by omega)]
  refine ⟨fun z => h2 z, fun z => ?_⟩
  refine k_Table_single (h := zm_si h 35 k (nI (p + 1))) hk hk5 ?_
  simp only [↓zq, ↓reduceIte, zr_si2, zr_sr1, zr_cp2, zr_tl, zr_tn, shq, List.contains_nil, List.contains_cons, Nat.reduceBEq, Bool.false_or, Bool.or_false, Bool.true_or, Bool.false_eq_true, if_false, if_true, true_and, and_true, List.set_cons_zero, List.set_cons_succ, List.length_cons, List.length_nil, Nat.reduceAdd, Nat.reduceLeDiff, Nat.le_refl, Nat.zero_le, true_or, or_true, zn_cl, ↓jj_Facts_meetMiddle]
  exact h1 z
/-- nothing but cells 33, 34, 35 and that of the singled has changed -/
def zc_f3 (t : Nat) (h h' : zm_M) : Prop := h'.2 = h.2 ∧ ∀ a, (a < 33 ∨ 35 < a ∧ ¬ a = t + 5) → h'.1 a = h.1 a
/-- what is met, of places below i -/
def zc_met (I : Nat → Nat → Int32) (t : Nat) (sp q : Nat → Nat) (F : zs_F) (i : Nat) : Prop := ∀ k, k < 512 → if q 6 = 5 then ((∀ m, zs_ct sp q F i k m F.1 = 0) → I 35 k = 0) ∧ ((∃ m, zs_ct sp q F i k m F.1 ≠ 0) → ∃ mu, zs_ct sp q F i k mu F.1 ≠ 0 ∧ mu < 100 ∧ (∀ m, zs_ct sp q F i k m F.1 ≠ 0 → m ≤ mu) ∧ I 35 k = nI (mu + 1) ∧ I (t + 5) k = nI (zs_some (fun m => zs_ct sp q F i k m F.1) 100)) else (I 35 k = nI (zs_cp sp q F i k) ∧ ((zs_cnt sp q F 0 F.1 k + 1) / 2 ≤ zs_cp sp q F i k → zs_cnt sp q F 0 F.1 k ≠ 0 → I (t + 5) k = nI (zs_md (fun m => zs_tm sp q F k m F.1) ((zs_cnt sp q F 0 F.1 k + 1) / 2))))
theorem zs_cnt_le (sp q : Nat → Nat) (F : zs_F) (lo k : Nat) : ∀ n, zs_cnt sp q F lo n k ≤ n
  | 0 => Nat.le_refl 0
  | n + 1 => by
    have := zs_cnt_le sp q F lo k n
    rw [zs_cnt]
    split <;> omega
theorem zs_ct_le (sp q : Nat → Nat) (F : zs_F) (i k m : Nat) : ∀ n, zs_ct sp q F i k m n ≤ zs_tm sp q F k m n
  | 0 => Nat.le_refl 0
  | n + 1 => by
    have := zs_ct_le sp q F i k m n
    rw [zs_ct, zs_tm]
    by_cases e : zs_rk2 F.2.2 F.1 n < i ∧ zs_let q (F.2.1 n) = true ∧ zs_key sp q (F.2.1 n) = k ∧ F.2.2 n = m
    · rw [if_pos e, if_pos e.2]; omega
    · rw [if_neg e]; omega
theorem zs_cum_le {t u : Nat → Nat} (h : ∀ j, t j ≤ u j) : ∀ m, zs_cum t m ≤ zs_cum u m
  | 0 => Nat.le_refl 0
  | m + 1 => by
    have := zs_cum_le h m
    have := h m
    rw [zs_cum, zs_cum]
    omega
theorem zs_cp_le (sp q : Nat → Nat) {F : zs_F} (hM : ∀ f, f < F.1 → F.2.2 f < 100) (i k : Nat) : zs_cp sp q F i k ≤ zs_cnt sp q F 0 F.1 k := by
  rw [← zs_tm_cum sp q hM k F.1 (Nat.le_refl _)]
  exact zs_cum_le (fun m => zs_ct_le sp q F i k m F.1) 100
theorem zs_cum_zero {t : Nat → Nat} : ∀ m, (∀ j, m ≤ j → True) → (∀ j, t j = 0) → zs_cum t m = 0
  | 0, _, _ => rfl
  | m + 1, a, h => by rw [zs_cum, zs_cum_zero m (fun _ _ => trivial) h, h m]
theorem zs_cum_from {t : Nat → Nat} {m0 : Nat} (h : ∀ j, m0 ≤ j → t j = 0) : ∀ k, zs_cum t (m0 + k) = zs_cum t m0
  | 0 => rfl
  | k + 1 => by
    show zs_cum t (m0 + k + 1) = _
    rw [zs_cum, zs_cum_from h k, h (m0 + k) (by omega)]
    omega
/-- the step: the fact g at place i -/
theorem zs_met_s {sp q : Nat → Nat} {F : zs_F} (hM : ∀ f, f < F.1 → F.2.2 f < 100) {g k : Nat} (hg : g < F.1) (hk : zs_let q (F.2.1 g) = true ∧ zs_key sp q (F.2.1 g) = k) :
    (∀ m, zs_ct sp q F (zs_rk2 F.2.2 F.1 g + 1) k m F.1 = zs_ct sp q F (zs_rk2 F.2.2 F.1 g) k m F.1 + if m = F.2.2 g then 1 else 0) ∧ (∀ m, zs_ct sp q F (zs_rk2 F.2.2 F.1 g) k m F.1 ≠ 0 → m ≤ F.2.2 g) ∧ (∀ m, m < F.2.2 g → zs_ct sp q F (zs_rk2 F.2.2 F.1 g) k m F.1 = zs_tm sp q F k m F.1) ∧ zs_cp sp q F (zs_rk2 F.2.2 F.1 g + 1) k = zs_cp sp q F (zs_rk2 F.2.2 F.1 g) k + 1 := by
  have a1 : ∀ m, zs_ct sp q F (zs_rk2 F.2.2 F.1 g + 1) k m F.1 = zs_ct sp q F (zs_rk2 F.2.2 F.1 g) k m F.1 + if m = F.2.2 g then 1 else 0 := by
    intro m
    rw [zs_ct_s sp q hM hg k m F.1 (Nat.le_refl _)]
    by_cases e : m = F.2.2 g
    · rw [if_pos ⟨hg, hk.1, hk.2, e.symm⟩, if_pos e]
    · rw [if_neg (fun z => e z.2.2.2.symm), if_neg e]
  refine ⟨a1, fun m hm => ?_, fun m hm => ?_, ?_⟩
  · obtain ⟨f, f1, f2, -, -, f3⟩ := zs_ct_pos F.1 hm
    rcases Nat.lt_or_ge (F.2.2 g) m with z | z
    · have := zs_rk2_lt_of (n := F.1) (f := g) (g := f) hM hg (by omega)
      omega
    · exact z
  · have : ∀ n, n ≤ F.1 → zs_ct sp q F (zs_rk2 F.2.2 F.1 g) k m n = zs_tm sp q F k m n := by
      intro n
      induction n with
      | zero => exact fun _ => rfl
      | succ n ih =>
        intro hn
        rw [zs_ct, zs_tm, ih (by omega)]
        by_cases e : zs_let q (F.2.1 n) = true ∧ zs_key sp q (F.2.1 n) = k ∧ F.2.2 n = m
        · rw [if_pos ⟨zs_rk2_lt_of hM (by omega) (by omega), e⟩, if_pos e]
        · rw [if_neg (fun z => e z.2), if_neg e]
    exact this F.1 (Nat.le_refl _)
  · unfold zs_cp
    rw [zs_cum_up (t := fun m => zs_ct sp q F (zs_rk2 F.2.2 F.1 g) k m F.1) (u := fun m => zs_ct sp q F (zs_rk2 F.2.2 F.1 g + 1) k m F.1) (m0 := F.2.2 g), if_pos (hM g hg)]
    · show zs_ct sp q F (zs_rk2 F.2.2 F.1 g + 1) k (F.2.2 g) F.1 = _
      rw [a1, if_pos rfl]
    · intro j hj
      show zs_ct sp q F (zs_rk2 F.2.2 F.1 g + 1) k j F.1 = _
      rw [a1, if_neg hj, Nat.add_zero]
theorem zs_met_o {sp q : Nat → Nat} {F : zs_F} (hM : ∀ f, f < F.1 → F.2.2 f < 100) {g k : Nat} (hg : g < F.1) (hk : ¬ (zs_let q (F.2.1 g) = true ∧ zs_key sp q (F.2.1 g) = k)) (m : Nat) : zs_ct sp q F (zs_rk2 F.2.2 F.1 g + 1) k m F.1 = zs_ct sp q F (zs_rk2 F.2.2 F.1 g) k m F.1 := by
  rw [zs_ct_s sp q hM hg k m F.1 (Nat.le_refl _), if_neg (fun z => hk ⟨z.2.1, z.2.2.1⟩), Nat.add_zero]
