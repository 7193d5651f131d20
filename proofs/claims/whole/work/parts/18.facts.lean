/-! Facts of the class: cell 30 -/
theorem zp_30 {P : Nat → Nat → Option Nat} (hp : zp_ok P) : P 30 0 = some 31 ∧ P 30 1 = some 32 ∧ P 30 3 = some 33 ∧ P 30 4 = some 34 ∧ P 30 5 = some 35 := by
  refine ⟨?_, ?_, ?_, ?_, ?_⟩ <;> simp only [hp]
theorem zw_F_at {F : zs_F} (h : zw_F F) {f : Nat} (hf : f < F.1) : F.2.1 f 0 < 8 ∧ F.2.1 f 1 < 8 ∧ F.2.1 f 2 < 8 ∧ F.2.2 f < 100 ∧ f < 240 := by
  obtain ⟨h1, h2⟩ := h
  obtain ⟨a, b, c, e⟩ := h2 f hf
  exact ⟨a, b, c, e, by omega⟩
set_option maxHeartbeats 4000000 in
set_option maxRecDepth 100000 in
theorem k_Facts_tripleAt {d : Nat} {h : zm_M} {R : zm_R} {f : Nat} (hp : zp_ok h.2) (hf : f < 240) (hR : R (some (.inl (h.1 31 f))) h) : zm_C (d + 1) TT m_Facts_tripleAt [.inr (some 30), .inl (nI f)] h R := by
  have p0 := (zp_30 hp).1
  refine st_Facts_tripleAt [] 30 ?_
  simp only [↓zq, ↓reduceIte, zr_si2, zr_sr1, zr_cp2, zr_tl, zr_tn, shq, List.contains_nil, List.contains_cons, Nat.reduceBEq, Bool.false_or, Bool.or_false, Bool.true_or, Bool.false_eq_true, if_false, if_true, true_and, and_true, List.set_cons_zero, List.set_cons_succ, List.length_cons, List.length_nil, Nat.reduceAdd, Nat.reduceLeDiff, Nat.le_refl, Nat.zero_le, true_or, or_true, zn_cl, ↓jj_Facts_tripleAt, p0]
  refine ⟨fun z => absurd z (nI_pos (by omega)), fun _ => ⟨fun z => absurd z (nI_ge (b := 240) hf (by decide)), fun _ => ⟨vp_in_nI hf (by decide), ?_⟩⟩⟩
  rw [nI_clamp (by omega)]
  exact hR
set_option maxHeartbeats 4000000 in
set_option maxRecDepth 100000 in
theorem k_Facts_measureAt {d : Nat} {h : zm_M} {R : zm_R} {f : Nat} (hp : zp_ok h.2) (hf : f < 240) (hR : R (some (.inl (h.1 32 f))) h) : zm_C (d + 1) TT m_Facts_measureAt [.inr (some 30), .inl (nI f)] h R := by
  have p0 := (zp_30 hp).2.1
  refine st_Facts_measureAt [] 30 ?_
  simp only [↓zq, ↓reduceIte, zr_si2, zr_sr1, zr_cp2, zr_tl, zr_tn, shq, List.contains_nil, List.contains_cons, Nat.reduceBEq, Bool.false_or, Bool.or_false, Bool.true_or, Bool.false_eq_true, if_false, if_true, true_and, and_true, List.set_cons_zero, List.set_cons_succ, List.length_cons, List.length_nil, Nat.reduceAdd, Nat.reduceLeDiff, Nat.le_refl, Nat.zero_le, true_or, or_true, zn_cl, ↓jj_Facts_measureAt, p0]
  refine ⟨fun z => absurd z (nI_pos (by omega)), fun _ => ⟨fun z => absurd z (nI_ge (b := 240) hf (by decide)), fun _ => ⟨vp_in_nI hf (by decide), ?_⟩⟩⟩
  rw [nI_clamp (by omega)]
  exact hR
/-- measures added up -/
def zs_sum (me : Nat → Nat) : Nat → Nat
  | 0 => 0
  | n + 1 => zs_sum me n + me n
set_option maxHeartbeats 4000000 in
set_option maxRecDepth 100000 in
theorem k_Facts_measuresAdded {d : Nat} {h : zm_M} {R : zm_R} {F : zs_F} (hp : zp_ok h.2) (hF : zc_F h.1 F) (hw : zw_F F) (hR : R (some (.inl (nI (zs_sum F.2.2 F.1)))) h) : zm_C (d + 2) TT m_Facts_measuresAdded [.inr (some 30)] h R := by
  have hw1 := hw.1
  have loop : ∀ (n i : Nat), i + n = F.1 → zm_W (zm_md m_Facts_measuresAdded) (d + 2) TT R 4 [some (.inr (some 30)), some (.inl (nI (zs_sum F.2.2 i))), some (.inl (nI i))] [] h := by
    intro n
    induction n with
    | zero =>
      intro i hi
      have : i = F.1 := by omega
      subst this
      refine zm_go g_Facts_measuresAdded [4] 30 (by decide +kernel) ok_Facts_measuresAdded _ rfl ?_
      simp only [↓zq, ↓reduceIte, zr_si2, zr_sr1, zr_cp2, zr_tl, zr_tn, shq, List.contains_nil, List.contains_cons, Nat.reduceBEq, Bool.false_or, Bool.or_false, Bool.true_or, Bool.false_eq_true, if_false, if_true, true_and, and_true, List.set_cons_zero, List.set_cons_succ, List.length_cons, List.length_nil, Nat.reduceAdd, Nat.reduceLeDiff, Nat.le_refl, Nat.zero_le, true_or, or_true, zn_cl, ↓jj_Facts_measuresAdded, hF.1]
      exact ⟨fun _ => hR, fun z => absurd (Int32.le_refl _) z⟩
    | succ n ih =>
      intro i hi
      refine zm_go g_Facts_measuresAdded [4] 30 (by decide +kernel) ok_Facts_measuresAdded _ rfl ?_
      simp only [↓zq, ↓reduceIte, zr_si2, zr_sr1, zr_cp2, zr_tl, zr_tn, shq, List.contains_nil, List.contains_cons, Nat.reduceBEq, Bool.false_or, Bool.or_false, Bool.true_or, Bool.false_eq_true, if_false, if_true, true_and, and_true, List.set_cons_zero, List.set_cons_succ, List.length_cons, List.length_nil, Nat.reduceAdd, Nat.reduceLeDiff, Nat.le_refl, Nat.zero_le, true_or, or_true, zn_cl, ↓jj_Facts_measuresAdded, hF.1]
      refine ⟨fun z => absurd z (nI_ge (by omega) (by omega)), fun _ => ?_⟩
      refine k_Facts_measureAt hp (by omega) ?_
      simp only [↓zq, ↓reduceIte, zr_si2, zr_sr1, zr_cp2, zr_tl, zr_tn, shq, List.contains_nil, List.contains_cons, Nat.reduceBEq, Bool.false_or, Bool.or_false, Bool.true_or, Bool.false_eq_true, if_false, if_true, true_and, and_true, List.set_cons_zero, List.set_cons_succ, List.length_cons, List.length_nil, Nat.reduceAdd, Nat.reduceLeDiff, Nat.le_refl, Nat.zero_le, true_or, or_true, zn_cl, ↓jj_Facts_measuresAdded, hF.1]
      rw [(hF.2 i (by omega)).2, nI_add, show nI i + 1 = nI (i + 1) from nI_1 i]
      exact ih (i + 1) (by omega)
  refine st_Facts_measuresAdded [4] 9 ?_
  simp only [↓zq, ↓reduceIte, zr_si2, zr_sr1, zr_cp2, zr_tl, zr_tn, shq, List.contains_nil, List.contains_cons, Nat.reduceBEq, Bool.false_or, Bool.or_false, Bool.true_or, Bool.false_eq_true, if_false, if_true, true_and, and_true, List.set_cons_zero, List.set_cons_succ, List.length_cons, List.length_nil, Nat.reduceAdd, Nat.reduceLeDiff, Nat.le_refl, Nat.zero_le, true_or, or_true, zn_cl, ↓jj_Facts_measuresAdded]
  exact loop F.1 0 (by omega)
/-- how many from lo on, n of them, a row lets -/
def zs_lets (row : Nat → Nat) (F : zs_F) (lo : Nat) : Nat → Nat
  | 0 => 0
  | n + 1 => zs_lets row F lo n + if zs_let row (F.2.1 (lo + n)) = true then 1 else 0
set_option maxHeartbeats 4000000 in
set_option maxRecDepth 100000 in
theorem k_Facts_letBy {d : Nat} {h : zm_M} {R : zm_R} {F : zs_F} {b lo : Nat} {row : Nat → Nat} (hp : zp_ok h.2) (hF : zc_F h.1 F) (hw : zw_F F) (hlo : lo ≤ F.1) (hk : zk_cut h.2 b) (hr : zc_R h.1 b row) (hwr : zw_R row) (hR : R (some (.inl (nI (zs_lets row F lo (F.1 - lo))))) h) : zm_C (d + 3) TT m_Facts_letBy [.inr (some 30), .inr (some b), .inl (nI lo)] h R := by
  have hw1 := hw.1
  have loop : ∀ (n i : Nat), lo + i + n = F.1 → zm_W (zm_md m_Facts_letBy) (d + 3) TT R 5 [some (.inr (some 30)), some (.inr (some b)), some (.inl (nI lo)), some (.inl (nI (zs_lets row F lo i))), some (.inl (nI (lo + i)))] [] h := by
    intro n
    induction n with
    | zero =>
      intro i hi
      have : F.1 - lo = i := by omega
      rw [this] at hR
      have : lo + i = F.1 := by omega
      rw [this]
      refine zm_go g_Facts_letBy [5] 30 (by decide +kernel) ok_Facts_letBy _ rfl ?_
      simp only [↓zq, ↓reduceIte, zr_si2, zr_sr1, zr_cp2, zr_tl, zr_tn, shq, List.contains_nil, List.contains_cons, Nat.reduceBEq, Bool.false_or, Bool.or_false, Bool.true_or, Bool.false_eq_true, if_false, if_true, true_and, and_true, List.set_cons_zero, List.set_cons_succ, List.length_cons, List.length_nil, Nat.reduceAdd, Nat.reduceLeDiff, Nat.le_refl, Nat.zero_le, true_or, or_true, zn_cl, ↓jj_Facts_letBy, hF.1]
      exact ⟨fun _ => hR, fun z => absurd (Int32.le_refl _) z⟩
    | succ n ih =>
      intro i hi
      obtain ⟨a0, a1, a2, a3, a4⟩ := zw_F_at hw (f := lo + i) (by omega)
      refine zm_go g_Facts_letBy [5] 30 (by decide +kernel) ok_Facts_letBy _ rfl ?_
      simp only [↓zq, ↓reduceIte, zr_si2, zr_sr1, zr_cp2, zr_tl, zr_tn, shq, List.contains_nil, List.contains_cons, Nat.reduceBEq, Bool.false_or, Bool.or_false, Bool.true_or, Bool.false_eq_true, if_false, if_true, true_and, and_true, List.set_cons_zero, List.set_cons_succ, List.length_cons, List.length_nil, Nat.reduceAdd, Nat.reduceLeDiff, Nat.le_refl, Nat.zero_le, true_or, or_true, zn_cl, ↓jj_Facts_letBy, hF.1, hk.1]
      refine ⟨fun z => absurd z (nI_ge (by omega) (by omega)), fun _ => ?_⟩
      refine k_Facts_tripleAt hp (by omega) ?_
      simp only [↓zq, ↓reduceIte, zr_si2, zr_sr1, zr_cp2, zr_tl, zr_tn, shq, List.contains_nil, List.contains_cons, Nat.reduceBEq, Bool.false_or, Bool.or_false, Bool.true_or, Bool.false_eq_true, if_false, if_true, true_and, and_true, List.set_cons_zero, List.set_cons_succ, List.length_cons, List.length_nil, Nat.reduceAdd, Nat.reduceLeDiff, Nat.le_refl, Nat.zero_le, true_or, or_true, zn_cl, ↓jj_Facts_letBy, hF.1, hk.1]
      rw [(hF.2 (lo + i) (by omega)).1]
      refine k_Cut_letsTriple hk hr hwr a0 a1 a2 ?_
      simp only [↓zq, ↓reduceIte, zr_si2, zr_sr1, zr_cp2, zr_tl, zr_tn, shq, List.contains_nil, List.contains_cons, Nat.reduceBEq, Bool.false_or, Bool.or_false, Bool.true_or, Bool.false_eq_true, if_false, if_true, true_and, and_true, List.set_cons_zero, List.set_cons_succ, List.length_cons, List.length_nil, Nat.reduceAdd, Nat.reduceLeDiff, Nat.le_refl, Nat.zero_le, true_or, or_true, zn_cl, ↓jj_Facts_letBy, hF.1, hk.1]
      have ih := ih (i + 1) (by omega)
      rw [zs_lets] at ih
      rw [show nI (lo + i) + 1 = nI (lo + (i + 1)) from nI_1 _]
      cases e : zs_let row (F.2.1 (lo + i))
      · rw [e] at ih
        simp only [Bool.false_eq_true, if_false, Nat.add_zero] at ih ⊢
        exact ⟨fun _ => ih, fun z => absurd trivial z⟩
      · rw [e] at ih
        simp only [if_true] at ih ⊢
        refine ⟨fun z => absurd z (by decide), fun _ => ?_⟩
        rw [show nI (zs_lets row F lo i) + 1 = nI (zs_lets row F lo i + 1) from nI_1 _]
        exact ih
  refine st_Facts_letBy [5] 9 ?_
  simp only [↓zq, ↓reduceIte, zr_si2, zr_sr1, zr_cp2, zr_tl, zr_tn, shq, List.contains_nil, List.contains_cons, Nat.reduceBEq, Bool.false_or, Bool.or_false, Bool.true_or, Bool.false_eq_true, if_false, if_true, true_and, and_true, List.set_cons_zero, List.set_cons_succ, List.length_cons, List.length_nil, Nat.reduceAdd, Nat.reduceLeDiff, Nat.le_refl, Nat.zero_le, true_or, or_true, zn_cl, ↓jj_Facts_letBy]
  exact loop (F.1 - lo) 0 (by omega)
/-- facts from lo on, n of them, come to a table -/
def zs_tal (sp row : Nat → Nat) (F : zs_F) (lo : Nat) : Nat → zs_tb → zs_tb
  | 0, t => t
  | n + 1, t => if zs_let row (F.2.1 (lo + n)) = true then zs_add (zs_tal sp row F lo n t) (zs_key sp row (F.2.1 (lo + n))) 1 (F.2.2 (lo + n)) (F.2.2 (lo + n)) (F.2.2 (lo + n)) else zs_tal sp row F lo n t
theorem zs_key_lt {sp row va : Nat → Nat} (hs : zw_S sp) (h0 : va 0 < 8) (h1 : va 1 < 8) (h2 : va 2 < 8) : zs_key sp row va < 512 := by
  have a := zs_num_lt (lev := row 0) hs (show 0 < 3 by decide) h0
  have b := zs_num_lt (lev := row 1) hs (show 1 < 3 by decide) h1
  have c := zs_num_lt (lev := row 2) hs (show 2 < 3 by decide) h2
  unfold zs_key
  omega
theorem zw_T_tal {sp row : Nat → Nat} {F : zs_F} {lo B : Nat} {tab : zs_tb} (hw : zw_F F) (hB : zw_T B tab) : ∀ n, lo + n ≤ F.1 → zw_T (B + n) (zs_tal sp row F lo n tab)
  | 0, _ => hB
  | n + 1, h => by
    have ih := zw_T_tal (sp := sp) (row := row) (lo := lo) hw hB n (by omega)
    obtain ⟨-, -, -, a3, -⟩ := zw_F_at hw (f := lo + n) (by omega)
    rw [zs_tal]
    split
    · exact zw_T_add ih _ (by omega) a3 a3
    · exact zw_T_mono ih (by omega)
theorem zc_R_fr {I J : Nat → Nat → Int32} {a : Nat} {row : Nat → Nat} (h : zc_R I a row) (h1 : J (a + 1) = I (a + 1)) (h2 : J (a + 2) = I (a + 2)) : zc_R J a row := by
  unfold zc_R
  rw [h1, h2]
  exact h
set_option maxHeartbeats 4000000 in
set_option maxRecDepth 100000 in
theorem k_Facts_tally {d : Nat} {h : zm_M} {R : zm_R} {F : zs_F} {t b c lo n B : Nat} {sp row : Nat → Nat} {tab : zs_tb} (hp : zp_ok h.2) (hF : zc_F h.1 F) (hw : zw_F F) (hlo : lo + n ≤ F.1) (hkt : zk_tab h.2 t) (hT : zc_T h.1 t tab) (hwT : zw_T B tab) (hB : B + n < 2 ^ 20) (ht : 72 < t) (hk : zk_cut h.2 b) (hr : zc_R h.1 b row) (hwr : zw_R row) (hb : b + 2 < t ∨ t + 4 < b) (hkc : zk_shp h.2 c) (hsp : ∀ v, v < 24 → h.1 (c + 1) v = nI (sp v)) (hs : zw_S sp) (hc : c + 1 < t) (hR : ∀ h' : zm_M, h'.2 = h.2 → (∀ a, (a < t ∨ t + 4 < a) → h'.1 a = h.1 a) → zc_T h'.1 t (zs_tal sp row F lo n tab) → R none h') : zm_C (d + 4) TT m_Facts_tally [.inr (some 30), .inr (some t), .inr (some b), .inr (some c), .inl (nI lo), .inl (nI (lo + n))] h R := by
  have hw1 := hw.1
  have loop : ∀ (k i : Nat), i + k = n → ∀ (g : zm_M) (o : Option zm_V), g.2 = h.2 → (∀ a, (a < t ∨ t + 4 < a) → g.1 a = h.1 a) → zc_T g.1 t (zs_tal sp row F lo i tab) → zm_W (zm_md m_Facts_tally) (d + 4) TT R 4 [some (.inr (some 30)), some (.inr (some t)), some (.inr (some b)), some (.inr (some c)), some (.inl (nI lo)), some (.inl (nI (lo + n))), some (.inl (nI (lo + i))), o] [] g := by
    intro k
    induction k with
    | zero =>
      intro i hi g o e1 e2 e3
      have : i = n := by omega
      subst this
      refine zm_go g_Facts_tally [4] 30 (by decide +kernel) ok_Facts_tally _ rfl ?_
      simp only [↓zq, ↓reduceIte, zr_si2, zr_sr1, zr_cp2, zr_tl, zr_tn, shq, List.contains_nil, List.contains_cons, Nat.reduceBEq, Bool.false_or, Bool.or_false, Bool.true_or, Bool.false_eq_true, if_false, if_true, true_and, and_true, List.set_cons_zero, List.set_cons_succ, List.length_cons, List.length_nil, Nat.reduceAdd, Nat.reduceLeDiff, Nat.le_refl, Nat.zero_le, true_or, or_true, zn_cl, ↓jj_Facts_tally]
      exact ⟨fun _ => hR g e1 e2 e3, fun z => absurd (Int32.le_refl _) z⟩
    | succ k ih =>
      intro i hi g o e1 e2 e3
      obtain ⟨a0, a1, a2, a3, a4⟩ := zw_F_at hw (f := lo + i) (by omega)
      have hp' : zp_ok g.2 := by rw [e1]; exact hp
      have hk' : zk_cut g.2 b := by rw [e1]; exact hk
      have hkc' : zk_shp g.2 c := by rw [e1]; exact hkc
      have hkt' : zk_tab g.2 t := by rw [e1]; exact hkt
      have hr' : zc_R g.1 b row := zc_R_fr hr (e2 _ (by omega)) (e2 _ (by omega))
      have hsp' : ∀ v, v < 24 → g.1 (c + 1) v = nI (sp v) := fun v hv => by rw [e2 _ (by omega)]; exact hsp v hv
      have hF1 : g.1 31 (lo + i) = h.1 31 (lo + i) := by rw [e2 31 (by omega)]
      have hF2 : g.1 32 (lo + i) = h.1 32 (lo + i) := by rw [e2 32 (by omega)]
      have hF3 := hF.2 (lo + i) (by omega)
      have hwT' := zw_T_tal (sp := sp) (row := row) (lo := lo) hw hwT i (by omega)
      refine zm_go g_Facts_tally [4] 30 (by decide +kernel) ok_Facts_tally _ rfl ?_
      simp only [↓zq, ↓reduceIte, zr_si2, zr_sr1, zr_cp2, zr_tl, zr_tn, shq, List.contains_nil, List.contains_cons, Nat.reduceBEq, Bool.false_or, Bool.or_false, Bool.true_or, Bool.false_eq_true, if_false, if_true, true_and, and_true, List.set_cons_zero, List.set_cons_succ, List.length_cons, List.length_nil, Nat.reduceAdd, Nat.reduceLeDiff, Nat.le_refl, Nat.zero_le, true_or, or_true, zn_cl, ↓jj_Facts_tally, hk.1, hkc.1, hkt.1]
      refine ⟨fun z => absurd z (nI_ge (by omega) (by omega)), fun _ => ?_⟩
      refine k_Facts_tripleAt hp' (by omega) ?_
      simp only [↓zq, ↓reduceIte, zr_si2, zr_sr1, zr_cp2, zr_tl, zr_tn, shq, List.contains_nil, List.contains_cons, Nat.reduceBEq, Bool.false_or, Bool.or_false, Bool.true_or, Bool.false_eq_true, if_false, if_true, true_and, and_true, List.set_cons_zero, List.set_cons_succ, List.length_cons, List.length_nil, Nat.reduceAdd, Nat.reduceLeDiff, Nat.le_refl, Nat.zero_le, true_or, or_true, zn_cl, ↓jj_Facts_tally, hk.1, hkc.1, hkt.1]
      rw [hF1, hF3.1]
      refine k_Cut_letsTriple hk' hr' hwr a0 a1 a2 ?_
      simp only [↓zq, ↓reduceIte, zr_si2, zr_sr1, zr_cp2, zr_tl, zr_tn, shq, List.contains_nil, List.contains_cons, Nat.reduceBEq, Bool.false_or, Bool.or_false, Bool.true_or, Bool.false_eq_true, if_false, if_true, true_and, and_true, List.set_cons_zero, List.set_cons_succ, List.length_cons, List.length_nil, Nat.reduceAdd, Nat.reduceLeDiff, Nat.le_refl, Nat.zero_le, true_or, or_true, zn_cl, ↓jj_Facts_tally, hk.1, hkc.1, hkt.1]
      rw [show nI (lo + i) + 1 = nI (lo + (i + 1)) from nI_1 _]
      have ih := ih (i + 1) (by omega)
      cases e : zs_let row (F.2.1 (lo + i))
      · simp only [Bool.false_eq_true, if_false]
        refine ⟨fun _ => ih g _ e1 e2 ?_, fun z => absurd trivial z⟩
        rw [zs_tal, if_neg (by rw [e]; decide)]
        exact e3
      · simp only [if_true]
        refine ⟨fun z => absurd z (by decide), fun _ => ?_⟩
        refine k_Shape_keyOf hkc' hsp' hs hk' hr' hwr a0 a1 a2 ?_
        simp only [↓zq, ↓reduceIte, zr_si2, zr_sr1, zr_cp2, zr_tl, zr_tn, shq, List.contains_nil, List.contains_cons, Nat.reduceBEq, Bool.false_or, Bool.or_false, Bool.true_or, Bool.false_eq_true, if_false, if_true, true_and, and_true, List.set_cons_zero, List.set_cons_succ, List.length_cons, List.length_nil, Nat.reduceAdd, Nat.reduceLeDiff, Nat.le_refl, Nat.zero_le, true_or, or_true, zn_cl, ↓jj_Facts_tally, hk.1, hkc.1, hkt.1]
        refine k_Facts_measureAt hp' (by omega) ?_
        simp only [↓zq, ↓reduceIte, zr_si2, zr_sr1, zr_cp2, zr_tl, zr_tn, shq, List.contains_nil, List.contains_cons, Nat.reduceBEq, Bool.false_or, Bool.or_false, Bool.true_or, Bool.false_eq_true, if_false, if_true, true_and, and_true, List.set_cons_zero, List.set_cons_succ, List.length_cons, List.length_nil, Nat.reduceAdd, Nat.reduceLeDiff, Nat.le_refl, Nat.zero_le, true_or, or_true, zn_cl, ↓jj_Facts_tally, hk.1, hkc.1, hkt.1]
        rw [hF2, hF3.2]
        refine k_Table_addFact hkt' e3 hwT' (by omega) (zs_key_lt hs a0 a1 a2) a3 (fun g' f1 f2 f3 => ?_)
        simp only [↓zq, ↓reduceIte, zr_si2, zr_sr1, zr_cp2, zr_tl, zr_tn, shq, List.contains_nil, List.contains_cons, Nat.reduceBEq, Bool.false_or, Bool.or_false, Bool.true_or, Bool.false_eq_true, if_false, if_true, true_and, and_true, List.set_cons_zero, List.set_cons_succ, List.length_cons, List.length_nil, Nat.reduceAdd, Nat.reduceLeDiff, Nat.le_refl, Nat.zero_le, true_or, or_true, zn_cl, ↓jj_Facts_tally, hk.1, hkc.1, hkt.1]
        refine ih g' _ (f1.trans e1) (fun a ha => (f2 a ha).trans (e2 a ha)) ?_
        rw [zs_tal, if_pos e]
        exact f3
  refine st_Facts_tally [4] 9 ?_
  simp only [↓zq, ↓reduceIte, zr_si2, zr_sr1, zr_cp2, zr_tl, zr_tn, shq, List.contains_nil, List.contains_cons, Nat.reduceBEq, Bool.false_or, Bool.or_false, Bool.true_or, Bool.false_eq_true, if_false, if_true, true_and, and_true, List.set_cons_zero, List.set_cons_succ, List.length_cons, List.length_nil, Nat.reduceAdd, Nat.reduceLeDiff, Nat.le_refl, Nat.zero_le, true_or, or_true, zn_cl, ↓jj_Facts_tally]
  exact loop n 0 (by omega) h none rfl (fun _ _ => rfl) hT
