/-! the reference's tables: 154 sums, 155 counts, 156 leasts, 157 greatests -/
def zo_T (I : Nat → Nat → Int32) (tab : zs_tb) : Prop := ∀ k, k < 512 → I 155 k = nI (tab k).1 ∧ ((tab k).1 ≠ 0 → I 154 k = nI (tab k).2.1 ∧ I 156 k = nI (tab k).2.2.1 ∧ I 157 k = nI (tab k).2.2.2) ∧ ((tab k).1 = 0 → I 154 k = 0 ∧ I 156 k = 100000000 ∧ I 157 k = -1)
/-- nothing but the four tables has changed -/
def zo_f4 (h h' : zm_M) : Prop := h'.2 = h.2 ∧ ∀ a, (a < 154 ∨ 157 < a) → h'.1 a = h.1 a
theorem zo_f4.rf (h : zm_M) : zo_f4 h h := ⟨rfl, fun _ _ => rfl⟩
theorem zo_f4.tr {h h' h'' : zm_M} (a : zo_f4 h h') (b : zo_f4 h' h'') : zo_f4 h h'' := ⟨b.1.trans a.1, fun x hx => (b.2 x hx).trans (a.2 x hx)⟩
theorem zo_F_f4 {h h' : zm_M} {F : zs_F} (hf : zo_f4 h h') (hF : zo_F h.1 F) : zo_F h'.1 F := by
  unfold zo_F
  rw [hf.2 133 (by omega), hf.2 134 (by omega)]
  exact hF
theorem zo_S_f4 {h h' : zm_M} {sp : Nat → Nat} (hf : zo_f4 h h') (hF : zo_S h.1 sp) : zo_S h'.1 sp := by
  unfold zo_S
  rw [hf.2 136 (by omega)]
  exact hF
theorem zo_Row_f4 {h h' : zm_M} {ra fr : Nat} {row : Nat → Nat} (hra : ra < 154 ∨ 157 < ra) (hf : zo_f4 h h') (hF : zo_Row h.1 ra fr row) : zo_Row h'.1 ra fr row := by
  unfold zo_Row
  rw [hf.2 ra hra]
  exact hF
set_option maxHeartbeats 4000000 in
set_option maxRecDepth 100000 in
theorem k_Mo_clears {d : Nat} {h : zm_M} {R : zm_R} (hp : zp_mo h.2) (hR : ∀ h' : zm_M, zo_f4 h h' → zo_T h'.1 zs_t0 → R none h') : zm_C (d + 1) TT m_Mo_clears [.inr (some 133)] h R := by
  obtain ⟨-, -, -, -, -, p37, p38, p39, p40⟩ := zp_m hp
  have loop : ∀ (n i : Nat), i + n = 512 → ∀ g : zm_M, zo_f4 h g → (∀ k, k < i → g.1 155 k = 0 ∧ g.1 154 k = 0 ∧ g.1 156 k = 100000000 ∧ g.1 157 k = -1) → zm_W (zm_md m_Mo_clears) (d + 1) TT R 2 [some (.inr (some 133)), some (.inl (nI i))] [] g := by
    intro n
    induction n with
    | zero =>
      intro i hi g e1 e2
      have : i = 512 := by omega
      subst this
      refine zm_go g_Mo_clears [2] 30 (by decide +kernel) ok_Mo_clears _ rfl ?_
      simp only [↓zq, ↓reduceIte, zr_si2, zr_sr1, zr_cp2, zr_tl, zr_tn, shq, List.contains_nil, List.contains_cons, Nat.reduceBEq, Bool.false_or, Bool.or_false, Bool.true_or, Bool.false_eq_true, if_false, if_true, true_and, and_true, List.set_cons_zero, List.set_cons_succ, List.length_cons, List.length_nil, Nat.reduceAdd, Nat.reduceLeDiff, Nat.le_refl, Nat.zero_le, true_or, or_true, zn_cl, ↓jj_Mo_clears]
      refine ⟨fun _ => hR g e1 (fun k hk => ?_), fun z => absurd (Int32.le_refl _) z⟩
      obtain ⟨a, b, c, e⟩ := e2 k hk
      exact ⟨a, fun z => absurd rfl z, fun _ => ⟨b, c, e⟩⟩
    | succ n ih =>
      intro i hi g e1 e2
      have hi5 : i < 512 := by omega
      have q37 : g.2 133 37 = some 154 := by rw [e1.1]; exact p37
      have q38 : g.2 133 38 = some 155 := by rw [e1.1]; exact p38
      have q39 : g.2 133 39 = some 156 := by rw [e1.1]; exact p39
      have q40 : g.2 133 40 = some 157 := by rw [e1.1]; exact p40
      have hv : vp_in (nI i) 512 := vp_in_nI hi5 (by decide)
      have hcl := nI_clamp (show i < 2 ^ 31 by omega)
      refine zm_go g_Mo_clears [2] 30 (by decide +kernel) ok_Mo_clears _ rfl ?_
      simp only [↓zq, ↓reduceIte, zr_si2, zr_sr1, zr_cp2, zr_tl, zr_tn, shq, List.contains_nil, List.contains_cons, Nat.reduceBEq, Bool.false_or, Bool.or_false, Bool.true_or, Bool.false_eq_true, if_false, if_true, true_and, and_true, List.set_cons_zero, List.set_cons_succ, List.length_cons, List.length_nil, Nat.reduceAdd, Nat.reduceLeDiff, Nat.le_refl, Nat.zero_le, true_or, or_true, zn_cl, ↓jj_Mo_clears, q37, q38, q39, q40, nI_1, hv, hcl]
      refine ⟨fun z => absurd z (nI_ge (b := 512) hi5 (by decide)), fun _ => ?_⟩
      refine ih (i + 1) (by omega) _ ⟨e1.1, fun a ha => ?_⟩ (fun k hk => ?_)
      · rw [← e1.2 a ha]
        funext j
        simp only [zr_si1]
        rw [if_neg (by omega), if_neg (by omega), if_neg (by omega), if_neg (by omega)]
      · by_cases e : k = i
        · subst e
          simp [zr_si1]
        · have := e2 k (by omega)
          simpa [zr_si1, e] using this
  refine st_Mo_clears [2] 9 ?_
  simp only [↓zq, ↓reduceIte, zr_si2, zr_sr1, zr_cp2, zr_tl, zr_tn, shq, List.contains_nil, List.contains_cons, Nat.reduceBEq, Bool.false_or, Bool.or_false, Bool.true_or, Bool.false_eq_true, if_false, if_true, true_and, and_true, List.set_cons_zero, List.set_cons_succ, List.length_cons, List.length_nil, Nat.reduceAdd, Nat.reduceLeDiff, Nat.le_refl, Nat.zero_le, true_or, or_true, zn_cl, ↓jj_Mo_clears]
  exact loop 512 0 rfl h (zo_f4.rf h) (fun k hk => absurd hk (Nat.not_lt_zero k))
theorem zn_far {a : Nat} (ha : a < 100000000) : nI a ≤ 100000000 := nI_le (b := 100000000) (by omega) (by decide)
set_option maxHeartbeats 4000000 in
set_option maxRecDepth 100000 in
theorem k_Mo_adds {d : Nat} {h : zm_M} {R : zm_R} {k c s l g B : Nat} {tab : zs_tb} (hp : zp_mo h.2) (hT : zo_T h.1 tab) (hw : zw_T B tab) (hB : B < 2 ^ 20) (hk5 : k < 512) (hc : c ≠ 0) (hl : l < 100) (hg : g < 100) (hR : ∀ h' : zm_M, zo_f4 h h' → zo_T h'.1 (zs_add tab k c s l g) → R none h') : zm_C (d + 2) TT m_Mo_adds [.inr (some 133), .inl (nI k), .inl (nI s), .inl (nI c), .inl (nI l), .inl (nI g)] h R := by
  obtain ⟨-, -, -, -, -, p37, p38, p39, p40⟩ := zp_m hp
  obtain ⟨w1, w2, w3, w4⟩ := hw k
  obtain ⟨t1, t2, t3⟩ := hT k hk5
  have hv : vp_in (nI k) 512 := vp_in_nI hk5 (by decide)
  have hcl := nI_clamp (show k < 2 ^ 31 by omega)
  have key : ∀ (x y : Int32), (∀ (q0 : (tab k).1 = 0), x = nI l ∧ y = nI g) → (∀ (q0 : (tab k).1 ≠ 0), x = nI (min (tab k).2.2.1 l) ∧ y = nI (max (tab k).2.2.2 g)) → R none (zm_si (zm_si (zm_si (zm_si h 154 k (h.1 154 k + nI s)) 155 k (h.1 155 k + nI c)) 156 k x) 157 k y) := by
    intro x y h0 h1
    refine hR _ ⟨rfl, fun a ha => ?_⟩ (fun j hj => ?_)
    · funext i
      simp only [zr_si1]
      rw [if_neg (by omega), if_neg (by omega), if_neg (by omega), if_neg (by omega)]
    · by_cases hjk : j = k
      · subst hjk
        by_cases q : (tab j).1 = 0
        · obtain ⟨a1, a2⟩ := h0 q
          obtain ⟨b1, b2, b3⟩ := t3 q
          simp [zr_si1, zs_add, q, t1, b1, a1, a2, nI_0, hc]
        · obtain ⟨a1, a2⟩ := h1 q
          obtain ⟨b1, b2, b3⟩ := t2 q
          simp [zr_si1, zs_add, q, t1, b1, a1, a2, nI_add]
      · have := hT j hj
        simpa [zr_si1, zs_add, hjk] using this
  refine st_Mo_adds [] 30 ?_
  simp only [↓zq, ↓reduceIte, zr_si2, zr_sr1, zr_cp2, zr_tl, zr_tn, shq, List.contains_nil, List.contains_cons, Nat.reduceBEq, Bool.false_or, Bool.or_false, Bool.true_or, Bool.false_eq_true, if_false, if_true, true_and, and_true, List.set_cons_zero, List.set_cons_succ, List.length_cons, List.length_nil, Nat.reduceAdd, Nat.reduceLeDiff, Nat.le_refl, Nat.zero_le, true_or, or_true, zn_cl, ↓jj_Mo_adds, p37, p38, p39, p40, hv, hcl]
  simp only [zr_si1, Nat.reduceEqDiff, false_and, if_false]
  by_cases q : (tab k).1 = 0
  · obtain ⟨b1, b2, b3⟩ := t3 q
    rw [b2]
    refine k_Mo_min (fun _ => ?_) (fun z => absurd (zn_far (by omega)) z)
    simp only [↓zq, ↓reduceIte, zr_si2, zr_sr1, zr_cp2, zr_tl, zr_tn, shq, List.contains_nil, List.contains_cons, Nat.reduceBEq, Bool.false_or, Bool.or_false, Bool.true_or, Bool.false_eq_true, if_false, if_true, true_and, and_true, List.set_cons_zero, List.set_cons_succ, List.length_cons, List.length_nil, Nat.reduceAdd, Nat.reduceLeDiff, Nat.le_refl, Nat.zero_le, true_or, or_true, zn_cl, ↓jj_Mo_adds, p37, p38, p39, p40, hv, hcl]
    simp only [zr_si1, Nat.reduceEqDiff, false_and, if_false]
    rw [b3]
    refine k_Mo_max (fun _ => ?_) (fun z => ?_)
    · simp only [↓zq, ↓reduceIte, zr_si2, zr_sr1, zr_cp2, zr_tl, zr_tn, shq, List.contains_nil, List.contains_cons, Nat.reduceBEq, Bool.false_or, Bool.or_false, Bool.true_or, Bool.false_eq_true, if_false, if_true, true_and, and_true, List.set_cons_zero, List.set_cons_succ, List.length_cons, List.length_nil, Nat.reduceAdd, Nat.reduceLeDiff, Nat.le_refl, Nat.zero_le, true_or, or_true, zn_cl, ↓jj_Mo_adds, p37, p38, p39, p40, hv, hcl]
      exact key _ _ (fun _ => ⟨rfl, rfl⟩) (fun z => absurd q z)
    · exfalso
      have e : ∀ g, g < 100 → (-1 : Int32) ≤ nI g := by decide
      exact z (e g hg)
  · obtain ⟨b1, b2, b3⟩ := t2 q
    rw [b2]
    have fin : ∀ y : Int32, y = nI (max (tab k).2.2.2 g) → ∀ x : Int32, x = nI (min (tab k).2.2.1 l) → R none (zm_si (zm_si (zm_si (zm_si h 154 k (h.1 154 k + nI s)) 155 k (h.1 155 k + nI c)) 156 k x) 157 k y) := fun y hy x hx => key x y (fun z => absurd z q) (fun _ => ⟨hx, hy⟩)
    have rest : ∀ x : Int32, x = nI (min (tab k).2.2.1 l) → zm_C (d + 1) TT 183 [.inl (nI (tab k).2.2.2), .inl (nI g)] (zm_si (zm_si (zm_si h 154 k (h.1 154 k + nI s)) 155 k (h.1 155 k + nI c)) 156 k x) (fun w h' => ∃ y, w = some (.inl y) ∧ h' = (zm_si (zm_si (zm_si h 154 k (h.1 154 k + nI s)) 155 k (h.1 155 k + nI c)) 156 k x) ∧ y = nI (max (tab k).2.2.2 g)) := by
      intro x hx
      refine k_Mo_max (fun z => ?_) (fun z => ?_)
      · have := (nI_leI (by omega) (by omega)).mp z
        exact ⟨_, rfl, rfl, by rw [Nat.max_eq_right this]⟩
      · have : ¬ (tab k).2.2.2 ≤ g := fun zz => z ((nI_leI (by omega) (by omega)).mpr zz)
        exact ⟨_, rfl, rfl, by rw [Nat.max_eq_left (by omega)]⟩
    refine k_Mo_min (fun z => ?_) (fun z => ?_)
    · have hx : nI l = nI (min (tab k).2.2.1 l) := by
        have := (nI_leI (by omega) (by omega)).mp z
        rw [Nat.min_eq_right this]
      simp only [↓zq, ↓reduceIte, zr_si2, zr_sr1, zr_cp2, zr_tl, zr_tn, shq, List.contains_nil, List.contains_cons, Nat.reduceBEq, Bool.false_or, Bool.or_false, Bool.true_or, Bool.false_eq_true, if_false, if_true, true_and, and_true, List.set_cons_zero, List.set_cons_succ, List.length_cons, List.length_nil, Nat.reduceAdd, Nat.reduceLeDiff, Nat.le_refl, Nat.zero_le, true_or, or_true, zn_cl, ↓jj_Mo_adds, p37, p38, p39, p40, hv, hcl]
      simp only [zr_si1, Nat.reduceEqDiff, false_and, if_false]
      rw [b3]
      refine (rest _ hx).mono (Nat.le_refl _) (fun w h' hh => ?_)
      obtain ⟨y, rfl, rfl, hy⟩ := hh
      simp only [↓zq, ↓reduceIte, zr_si2, zr_sr1, zr_cp2, zr_tl, zr_tn, shq, List.contains_nil, List.contains_cons, Nat.reduceBEq, Bool.false_or, Bool.or_false, Bool.true_or, Bool.false_eq_true, if_false, if_true, true_and, and_true, List.set_cons_zero, List.set_cons_succ, List.length_cons, List.length_nil, Nat.reduceAdd, Nat.reduceLeDiff, Nat.le_refl, Nat.zero_le, true_or, or_true, zn_cl, ↓jj_Mo_adds, p37, p38, p39, p40, hv, hcl]
      exact fin y hy _ hx
    · have hx : nI (tab k).2.2.1 = nI (min (tab k).2.2.1 l) := by
        have : ¬ l ≤ (tab k).2.2.1 := fun zz => z ((nI_leI (by omega) (by omega)).mpr zz)
        rw [Nat.min_eq_left (by omega)]
      simp only [↓zq, ↓reduceIte, zr_si2, zr_sr1, zr_cp2, zr_tl, zr_tn, shq, List.contains_nil, List.contains_cons, Nat.reduceBEq, Bool.false_or, Bool.or_false, Bool.true_or, Bool.false_eq_true, if_false, if_true, true_and, and_true, List.set_cons_zero, List.set_cons_succ, List.length_cons, List.length_nil, Nat.reduceAdd, Nat.reduceLeDiff, Nat.le_refl, Nat.zero_le, true_or, or_true, zn_cl, ↓jj_Mo_adds, p37, p38, p39, p40, hv, hcl]
      simp only [zr_si1, Nat.reduceEqDiff, false_and, if_false]
      rw [b3]
      refine (rest _ hx).mono (Nat.le_refl _) (fun w h' hh => ?_)
      obtain ⟨y, rfl, rfl, hy⟩ := hh
      simp only [↓zq, ↓reduceIte, zr_si2, zr_sr1, zr_cp2, zr_tl, zr_tn, shq, List.contains_nil, List.contains_cons, Nat.reduceBEq, Bool.false_or, Bool.or_false, Bool.true_or, Bool.false_eq_true, if_false, if_true, true_and, and_true, List.set_cons_zero, List.set_cons_succ, List.length_cons, List.length_nil, Nat.reduceAdd, Nat.reduceLeDiff, Nat.le_refl, Nat.zero_le, true_or, or_true, zn_cl, ↓jj_Mo_adds, p37, p38, p39, p40, hv, hcl]
      exact fin y hy _ hx
set_option maxHeartbeats 4000000 in
set_option maxRecDepth 100000 in
theorem k_Mo_addsFacts {d : Nat} {h : zm_M} {R : zm_R} {F : zs_F} {ra fr lo n B : Nat} {sp row : Nat → Nat} {tab : zs_tb} (hp : zp_mo h.2) (hF : zo_F h.1 F) (hw : zw_F F) (hlo : lo + n ≤ F.1) (hT : zo_T h.1 tab) (hwT : zw_T B tab) (hB : B + n < 2 ^ 20) (hra : ra < 154 ∨ 157 < ra) (hr : zo_Row h.1 ra fr row) (hwr : zw_R row) (hsp : zo_S h.1 sp) (hs : zw_S sp) (hR : ∀ h' : zm_M, zo_f4 h h' → zo_T h'.1 (zs_tal sp row F lo n tab) → R none h') : zm_C (d + 3) TT m_Mo_addsFacts [.inr (some 133), .inr (some ra), .inl (nI fr), .inl (nI lo), .inl (nI (lo + n))] h R := by
  have hw1 := hw.1
  have loop : ∀ (k i : Nat), i + k = n → ∀ (g : zm_M) (o : Option zm_V), zo_f4 h g → zo_T g.1 (zs_tal sp row F lo i tab) → zm_W (zm_md m_Mo_addsFacts) (d + 3) TT R 3 [some (.inr (some 133)), some (.inr (some ra)), some (.inl (nI fr)), some (.inl (nI lo)), some (.inl (nI (lo + n))), some (.inl (nI (lo + i))), o] [] g := by
    intro k
    induction k with
    | zero =>
      intro i hi g o e1 e3
      have : i = n := by omega
      subst this
      refine zm_go g_Mo_addsFacts [3] 30 (by decide +kernel) ok_Mo_addsFacts _ rfl ?_
      simp only [↓zq, ↓reduceIte, zr_si2, zr_sr1, zr_cp2, zr_tl, zr_tn, shq, List.contains_nil, List.contains_cons, Nat.reduceBEq, Bool.false_or, Bool.or_false, Bool.true_or, Bool.false_eq_true, if_false, if_true, true_and, and_true, List.set_cons_zero, List.set_cons_succ, List.length_cons, List.length_nil, Nat.reduceAdd, Nat.reduceLeDiff, Nat.le_refl, Nat.zero_le, true_or, or_true, zn_cl, ↓jj_Mo_addsFacts]
      exact ⟨fun _ => hR g e1 e3, fun z => absurd (Int32.le_refl _) z⟩
    | succ k ih =>
      intro i hi g o e1 e3
      obtain ⟨a0, a1, a2, a3, a4⟩ := zw_F_at hw (f := lo + i) (by omega)
      have hp' : zp_mo g.2 := by rw [e1.1]; exact hp
      obtain ⟨p4, p5, p6, p7, p35, p37, p38, p39, p40⟩ := zp_m hp'
      have hF' := zo_F_f4 e1 hF
      have hr' := zo_Row_f4 hra e1 hr
      have hsp' := zo_S_f4 e1 hsp
      have hwT' := zw_T_tal (sp := sp) (row := row) (lo := lo) hw hwT i (by omega)
      have ih := ih (i + 1) (by omega)
      refine zm_go g_Mo_addsFacts [3] 30 (by decide +kernel) ok_Mo_addsFacts _ rfl ?_
      simp only [↓zq, ↓reduceIte, zr_si2, zr_sr1, zr_cp2, zr_tl, zr_tn, shq, List.contains_nil, List.contains_cons, Nat.reduceBEq, Bool.false_or, Bool.or_false, Bool.true_or, Bool.false_eq_true, if_false, if_true, true_and, and_true, List.set_cons_zero, List.set_cons_succ, List.length_cons, List.length_nil, Nat.reduceAdd, Nat.reduceLeDiff, Nat.le_refl, Nat.zero_le, true_or, or_true, zn_cl, ↓jj_Mo_addsFacts, nI_1, Nat.add_assoc]
      refine ⟨fun z => absurd z (nI_ge (by omega) (by omega)), fun _ => ?_⟩
      refine k_Mo_isLet p4 hF' hw (by omega) hr' hwr ?_
      cases e : zs_let row (F.2.1 (lo + i))
      · simp only [↓zq, ↓reduceIte, zr_si2, zr_sr1, zr_cp2, zr_tl, zr_tn, shq, List.contains_nil, List.contains_cons, Nat.reduceBEq, Bool.false_or, Bool.or_false, Bool.true_or, Bool.false_eq_true, if_false, if_true, true_and, and_true, List.set_cons_zero, List.set_cons_succ, List.length_cons, List.length_nil, Nat.reduceAdd, Nat.reduceLeDiff, Nat.le_refl, Nat.zero_le, true_or, or_true, zn_cl, ↓jj_Mo_addsFacts, nI_1, Nat.add_assoc]
        refine ⟨fun z => absurd trivial z, fun _ => ih g _ e1 ?_⟩
        rw [zs_tal, if_neg (by rw [e]; decide)]
        exact e3
      · simp only [↓zq, ↓reduceIte, zr_si2, zr_sr1, zr_cp2, zr_tl, zr_tn, shq, List.contains_nil, List.contains_cons, Nat.reduceBEq, Bool.false_or, Bool.or_false, Bool.true_or, Bool.false_eq_true, if_false, if_true, true_and, and_true, List.set_cons_zero, List.set_cons_succ, List.length_cons, List.length_nil, Nat.reduceAdd, Nat.reduceLeDiff, Nat.le_refl, Nat.zero_le, true_or, or_true, zn_cl, ↓jj_Mo_addsFacts, nI_1, Nat.add_assoc]
        refine ⟨fun _ => ?_, fun z => absurd z (by decide)⟩
        refine k_Mo_ofFact (k := 3) p4 a4 (by decide) ?_
        simp only [↓zq, ↓reduceIte, zr_si2, zr_sr1, zr_cp2, zr_tl, zr_tn, shq, List.contains_nil, List.contains_cons, Nat.reduceBEq, Bool.false_or, Bool.or_false, Bool.true_or, Bool.false_eq_true, if_false, if_true, true_and, and_true, List.set_cons_zero, List.set_cons_succ, List.length_cons, List.length_nil, Nat.reduceAdd, Nat.reduceLeDiff, Nat.le_refl, Nat.zero_le, true_or, or_true, zn_cl, ↓jj_Mo_addsFacts, nI_1, Nat.add_assoc]
        rw [(hF'.2 (lo + i) (by omega)).2.2.2]
        refine k_Mo_tripleOf p4 p6 hF' hw (by omega) hsp' hs hr' hwr ?_
        simp only [↓zq, ↓reduceIte, zr_si2, zr_sr1, zr_cp2, zr_tl, zr_tn, shq, List.contains_nil, List.contains_cons, Nat.reduceBEq, Bool.false_or, Bool.or_false, Bool.true_or, Bool.false_eq_true, if_false, if_true, true_and, and_true, List.set_cons_zero, List.set_cons_succ, List.length_cons, List.length_nil, Nat.reduceAdd, Nat.reduceLeDiff, Nat.le_refl, Nat.zero_le, true_or, or_true, zn_cl, ↓jj_Mo_addsFacts, nI_1, Nat.add_assoc]
        refine k_Mo_adds (c := 1) hp' e3 hwT' (by omega) (zs_key_lt hs a0 a1 a2) (by decide) a3 a3 (fun g' f1 f3 => ?_)
        simp only [↓zq, ↓reduceIte, zr_si2, zr_sr1, zr_cp2, zr_tl, zr_tn, shq, List.contains_nil, List.contains_cons, Nat.reduceBEq, Bool.false_or, Bool.or_false, Bool.true_or, Bool.false_eq_true, if_false, if_true, true_and, and_true, List.set_cons_zero, List.set_cons_succ, List.length_cons, List.length_nil, Nat.reduceAdd, Nat.reduceLeDiff, Nat.le_refl, Nat.zero_le, true_or, or_true, zn_cl, ↓jj_Mo_addsFacts, nI_1, Nat.add_assoc]
        refine ih g' _ (e1.tr f1) ?_
        rw [zs_tal, if_pos e]
        exact f3
  refine st_Mo_addsFacts [3] 9 ?_
  simp only [↓zq, ↓reduceIte, zr_si2, zr_sr1, zr_cp2, zr_tl, zr_tn, shq, List.contains_nil, List.contains_cons, Nat.reduceBEq, Bool.false_or, Bool.or_false, Bool.true_or, Bool.false_eq_true, if_false, if_true, true_and, and_true, List.set_cons_zero, List.set_cons_succ, List.length_cons, List.length_nil, Nat.reduceAdd, Nat.reduceLeDiff, Nat.le_refl, Nat.zero_le, true_or, or_true, zn_cl, ↓jj_Mo_addsFacts]
  exact loop n 0 (by omega) h none (zo_f4.rf h) hT
set_option maxHeartbeats 4000000 in
set_option maxRecDepth 100000 in
theorem k_Mo_groupsThere {d : Nat} {h : zm_M} {R : zm_R} {B : Nat} {tab : zs_tb} (hp : zp_mo h.2) (hT : zo_T h.1 tab) (hwT : zw_T B tab) (hB : B < 2 ^ 20) (hR : R (some (.inl (nI (zs_some (fun k => (tab k).1) 512)))) h) : zm_C (d + 1) TT m_Mo_groupsThere [.inr (some 133)] h R := by
  obtain ⟨p4, p5, p6, p7, p35, p37, p38, p39, p40⟩ := zp_m hp
  have loop : ∀ (n i : Nat), i + n = 512 → zm_W (zm_md m_Mo_groupsThere) (d + 1) TT R 4 [some (.inr (some 133)), some (.inl (nI (zs_some (fun k => (tab k).1) i))), some (.inl (nI i))] [] h := by
    intro n
    induction n with
    | zero =>
      intro i hi
      have : i = 512 := by omega
      subst this
      generalize zs_some (fun k => (tab k).1) 512 = x at hR ⊢
      refine zm_go g_Mo_groupsThere [4] 30 (by decide +kernel) ok_Mo_groupsThere _ rfl ?_
      simp only [↓zq, ↓reduceIte, zr_si2, zr_sr1, zr_cp2, zr_tl, zr_tn, shq, List.contains_nil, List.contains_cons, Nat.reduceBEq, Bool.false_or, Bool.or_false, Bool.true_or, Bool.false_eq_true, if_false, if_true, true_and, and_true, List.set_cons_zero, List.set_cons_succ, List.length_cons, List.length_nil, Nat.reduceAdd, Nat.reduceLeDiff, Nat.le_refl, Nat.zero_le, true_or, or_true, zn_cl, ↓jj_Mo_groupsThere]
      exact ⟨fun _ => hR, fun z => absurd (Int32.le_refl _) z⟩
    | succ n ih =>
      intro i hi
      have hi5 : i < 512 := by omega
      have ih := ih (i + 1) (by omega)
      rw [zs_some] at ih
      have hv : vp_in (nI i) 512 := vp_in_nI hi5 (by decide)
      have hcl := nI_clamp (show i < 2 ^ 31 by omega)
      have t1 := (hT i hi5).1
      have hb := (hwT i).1
      refine zm_go g_Mo_groupsThere [4] 30 (by decide +kernel) ok_Mo_groupsThere _ rfl ?_
      simp only [↓zq, ↓reduceIte, zr_si2, zr_sr1, zr_cp2, zr_tl, zr_tn, shq, List.contains_nil, List.contains_cons, Nat.reduceBEq, Bool.false_or, Bool.or_false, Bool.true_or, Bool.false_eq_true, if_false, if_true, true_and, and_true, List.set_cons_zero, List.set_cons_succ, List.length_cons, List.length_nil, Nat.reduceAdd, Nat.reduceLeDiff, Nat.le_refl, Nat.zero_le, true_or, or_true, zn_cl, ↓jj_Mo_groupsThere, p38, hv, hcl, t1, nI_1]
      refine ⟨fun z => absurd z (nI_ge (b := 512) hi5 (by decide)), fun _ => ⟨fun z => ?_, fun z => ?_⟩⟩
      · have e : (tab i).1 = 0 := by
          have := (nI_leI (a := (tab i).1) (b := 0) (by omega) (by decide)).mp z
          omega
        rw [if_pos e, Nat.add_zero] at ih
        exact ih
      · have e : ¬ (tab i).1 = 0 := fun e => z (by rw [e]; exact Int32.le_refl _)
        rw [if_neg e] at ih
        exact ih
  refine st_Mo_groupsThere [4] 9 ?_
  simp only [↓zq, ↓reduceIte, zr_si2, zr_sr1, zr_cp2, zr_tl, zr_tn, shq, List.contains_nil, List.contains_cons, Nat.reduceBEq, Bool.false_or, Bool.or_false, Bool.true_or, Bool.false_eq_true, if_false, if_true, true_and, and_true, List.set_cons_zero, List.set_cons_succ, List.length_cons, List.length_nil, Nat.reduceAdd, Nat.reduceLeDiff, Nat.le_refl, Nat.zero_le, true_or, or_true, zn_cl, ↓jj_Mo_groupsThere]
  exact loop 512 0 rfl
/-! summaries of the reference -/
def zO (h : zm_M) (F : zs_F) (sp : Nat → Nat) (U : zs_U) (Q : zs_Q) : Prop := zp_mo h.2 ∧ (zo_F h.1 F ∧ zw_F F) ∧ (zo_S h.1 sp ∧ zw_S sp) ∧ (zo_U h.1 U ∧ zw_U F.1 U) ∧ zo_Q h.1 Q ∧ zw_Q Q
theorem zO_f4 {h h' : zm_M} {F : zs_F} {sp : Nat → Nat} {U : zs_U} {Q : zs_Q} (hf : zo_f4 h h') (hO : zO h F sp U Q) : zO h' F sp U Q := by
  obtain ⟨o1, ⟨o2, o2w⟩, ⟨o3, o3w⟩, ⟨o4, o4w⟩, o5, o6⟩ := hO
  refine ⟨by rw [hf.1]; exact o1, ⟨zo_F_f4 hf o2, o2w⟩, ⟨zo_S_f4 hf o3, o3w⟩, ⟨?_, o4w⟩, ?_, o6⟩
  · unfold zo_U
    rw [hf.2 133 (by omega), hf.2 135 (by omega)]
    exact o4
  · unfold zo_Q
    rw [hf.2 133 (by omega), hf.2 153 (by omega)]
    exact o5
theorem zO_rowU {h : zm_M} {F : zs_F} {sp : Nat → Nat} {U : zs_U} {Q : zs_Q} (hO : zO h F sp U Q) {s : Nat} (hs : s < U.1) : zo_Row h.1 135 (8 * s) (U.2 s) := by
  obtain ⟨o1, o2, o3, ⟨o4, o4w⟩, o5, o6⟩ := hO
  have := o4w.1
  exact ⟨64, rfl, by omega, by decide, fun k hk => o4.2 s hs k (by omega)⟩
theorem zO_rowQ {h : zm_M} {F : zs_F} {sp : Nat → Nat} {U : zs_U} {Q : zs_Q} (hO : zO h F sp U Q) (hq : Q.1 = true) : zo_Row h.1 153 0 Q.2 := by
  obtain ⟨o1, o2, o3, o4, o5, o6⟩ := hO
  exact ⟨7, rfl, by decide, by decide, fun k hk => by rw [Nat.zero_add]; exact o5.2 hq k (by omega)⟩
theorem zn_8s {s k : Nat} : (8 : Int32) * nI s + nI k = nI (8 * s + k) := by
  rw [show (8 : Int32) = nI 8 from rfl, pk_mul, nI_add]
theorem zn_8 {s : Nat} : (8 : Int32) * nI s = nI (8 * s) := by
  rw [show (8 : Int32) = nI 8 from rfl, pk_mul]
set_option maxHeartbeats 4000000 in
set_option maxRecDepth 100000 in
theorem k_Mo_upTo {d : Nat} {h : zm_M} {R : zm_R} {F : zs_F} {sp : Nat → Nat} {U : zs_U} {Q : zs_Q} {s : Nat} (hO : zO h F sp U Q) (hs : s < U.1) (hR : R (some (.inl (nI (U.2 s 7)))) h) : zm_C (d + 1) TT m_Mo_upTo [.inr (some 133), .inl (nI s)] h R := by
  obtain ⟨o1, o2, o3, ⟨o4, o4w⟩, o5, o6⟩ := hO
  obtain ⟨p4, p5, p6, p7, p35, p37, p38, p39, p40⟩ := zp_m o1
  have := o4w.1
  refine st_Mo_upTo [] 9 ?_
  simp only [↓zq, ↓reduceIte, zr_si2, zr_sr1, zr_cp2, zr_tl, zr_tn, shq, List.contains_nil, List.contains_cons, Nat.reduceBEq, Bool.false_or, Bool.or_false, Bool.true_or, Bool.false_eq_true, if_false, if_true, true_and, and_true, List.set_cons_zero, List.set_cons_succ, List.length_cons, List.length_nil, Nat.reduceAdd, Nat.reduceLeDiff, Nat.le_refl, Nat.zero_le, true_or, or_true, zn_cl, ↓jj_Mo_upTo, p5]
  rw [show (8 : Int32) * nI s + 7 = nI (8 * s + 7) from zn_8s]
  refine ⟨vp_in_nI (by omega) (by decide), ?_⟩
  rw [nI_clamp (by omega), o4.2 s hs 7 (by decide)]
  exact hR
set_option maxHeartbeats 4000000 in
set_option maxRecDepth 100000 in
theorem k_Mo_laysSummary {d : Nat} {h : zm_M} {R : zm_R} {F : zs_F} {sp : Nat → Nat} {U : zs_U} {Q : zs_Q} {s : Nat} (hO : zO h F sp U Q) (hs : s < U.1) (hR : ∀ h' : zm_M, zo_f4 h h' → zo_T h'.1 (zs_tabS sp F (U.2 s)) → R none h') : zm_C (d + 4) TT m_Mo_laysSummary [.inr (some 133), .inl (nI s)] h R := by
  obtain ⟨o1, ⟨o2, o2w⟩, ⟨o3, o3w⟩, ⟨o4, o4w⟩, o5, o6⟩ := id hO
  obtain ⟨wr, w1, w2, wu⟩ := o4w.2 s hs
  have hw1 := o2w.1
  refine st_Mo_laysSummary [] 9 ?_
  simp only [↓zq, ↓reduceIte, zr_si2, zr_sr1, zr_cp2, zr_tl, zr_tn, shq, List.contains_nil, List.contains_cons, Nat.reduceBEq, Bool.false_or, Bool.or_false, Bool.true_or, Bool.false_eq_true, if_false, if_true, true_and, and_true, List.set_cons_zero, List.set_cons_succ, List.length_cons, List.length_nil, Nat.reduceAdd, Nat.reduceLeDiff, Nat.le_refl, Nat.zero_le, true_or, or_true, zn_cl, ↓jj_Mo_laysSummary]
  refine k_Mo_clears o1 (fun g e1 e2 => ?_)
  have hO' := zO_f4 e1 hO
  obtain ⟨o1', ⟨o2', -⟩, ⟨o3', -⟩, -, -, -⟩ := id hO'
  obtain ⟨p4, p5, p6, p7, p35, p37, p38, p39, p40⟩ := zp_m o1'
  simp only [↓zq, ↓reduceIte, zr_si2, zr_sr1, zr_cp2, zr_tl, zr_tn, shq, List.contains_nil, List.contains_cons, Nat.reduceBEq, Bool.false_or, Bool.or_false, Bool.true_or, Bool.false_eq_true, if_false, if_true, true_and, and_true, List.set_cons_zero, List.set_cons_succ, List.length_cons, List.length_nil, Nat.reduceAdd, Nat.reduceLeDiff, Nat.le_refl, Nat.zero_le, true_or, or_true, zn_cl, ↓jj_Mo_laysSummary, p5]
  refine k_Mo_upTo hO' hs ?_
  simp only [↓zq, ↓reduceIte, zr_si2, zr_sr1, zr_cp2, zr_tl, zr_tn, shq, List.contains_nil, List.contains_cons, Nat.reduceBEq, Bool.false_or, Bool.or_false, Bool.true_or, Bool.false_eq_true, if_false, if_true, true_and, and_true, List.set_cons_zero, List.set_cons_succ, List.length_cons, List.length_nil, Nat.reduceAdd, Nat.reduceLeDiff, Nat.le_refl, Nat.zero_le, true_or, or_true, zn_cl, ↓jj_Mo_laysSummary, p5, zn_8]
  rw [show nI (U.2 s 7) = nI (0 + U.2 s 7) from congrArg nI (Nat.zero_add _).symm]
  refine k_Mo_addsFacts (lo := 0) (B := 0) (sp := sp) o1' o2' o2w (by omega) e2 (zw_T_0 0) (by omega) (by decide) (zO_rowU hO' hs) wr o3' o3w (fun g' f1 f2 => ?_)
  simp only [↓zq, ↓reduceIte, zr_si2, zr_sr1, zr_cp2, zr_tl, zr_tn, shq, List.contains_nil, List.contains_cons, Nat.reduceBEq, Bool.false_or, Bool.or_false, Bool.true_or, Bool.false_eq_true, if_false, if_true, true_and, and_true, List.set_cons_zero, List.set_cons_succ, List.length_cons, List.length_nil, Nat.reduceAdd, Nat.reduceLeDiff, Nat.le_refl, Nat.zero_le, true_or, or_true, zn_cl, ↓jj_Mo_laysSummary]
  exact hR g' (e1.tr f1) f2
set_option maxHeartbeats 4000000 in
set_option maxRecDepth 100000 in
theorem k_Mo_groupsOf {d : Nat} {h : zm_M} {R : zm_R} {F : zs_F} {sp : Nat → Nat} {U : zs_U} {Q : zs_Q} {s : Nat} (hO : zO h F sp U Q) (hs : s < U.1) (hR : ∀ h' : zm_M, zo_f4 h h' → R (some (.inl (nI (zs_grp sp (U.2 s) F (U.2 s 7))))) h') : zm_C (d + 5) TT m_Mo_groupsOf [.inr (some 133), .inl (nI s)] h R := by
  obtain ⟨o1, ⟨o2, o2w⟩, ⟨o3, o3w⟩, ⟨o4, o4w⟩, o5, o6⟩ := id hO
  obtain ⟨wr, w1, w2, wu⟩ := o4w.2 s hs
  refine st_Mo_groupsOf [] 9 ?_
  simp only [↓zq, ↓reduceIte, zr_si2, zr_sr1, zr_cp2, zr_tl, zr_tn, shq, List.contains_nil, List.contains_cons, Nat.reduceBEq, Bool.false_or, Bool.or_false, Bool.true_or, Bool.false_eq_true, if_false, if_true, true_and, and_true, List.set_cons_zero, List.set_cons_succ, List.length_cons, List.length_nil, Nat.reduceAdd, Nat.reduceLeDiff, Nat.le_refl, Nat.zero_le, true_or, or_true, zn_cl, ↓jj_Mo_groupsOf]
  refine k_Mo_laysSummary hO hs (fun g e1 e2 => ?_)
  simp only [↓zq, ↓reduceIte, zr_si2, zr_sr1, zr_cp2, zr_tl, zr_tn, shq, List.contains_nil, List.contains_cons, Nat.reduceBEq, Bool.false_or, Bool.or_false, Bool.true_or, Bool.false_eq_true, if_false, if_true, true_and, and_true, List.set_cons_zero, List.set_cons_succ, List.length_cons, List.length_nil, Nat.reduceAdd, Nat.reduceLeDiff, Nat.le_refl, Nat.zero_le, true_or, or_true, zn_cl, ↓jj_Mo_groupsOf]
  refine k_Mo_groupsThere (by rw [e1.1]; exact o1) e2 (zw_T_S o2w wu) (by decide) ?_
  simp only [↓zq, ↓reduceIte, zr_si2, zr_sr1, zr_cp2, zr_tl, zr_tn, shq, List.contains_nil, List.contains_cons, Nat.reduceBEq, Bool.false_or, Bool.or_false, Bool.true_or, Bool.false_eq_true, if_false, if_true, true_and, and_true, List.set_cons_zero, List.set_cons_succ, List.length_cons, List.length_nil, Nat.reduceAdd, Nat.reduceLeDiff, Nat.le_refl, Nat.zero_le, true_or, or_true, zn_cl, ↓jj_Mo_groupsOf]
  rw [zs_tabS_grp]
  exact hR g e1
set_option maxHeartbeats 4000000 in
set_option maxRecDepth 100000 in
theorem k_Mo_freshOf {d : Nat} {h : zm_M} {R : zm_R} {F : zs_F} {sp : Nat → Nat} {U : zs_U} {Q : zs_Q} {s : Nat} (hO : zO h F sp U Q) (hs : s < U.1) (hR : R (some (.inl (nI (F.1 - U.2 s 7)))) h) : zm_C (d + 2) TT m_Mo_freshOf [.inr (some 133), .inl (nI s)] h R := by
  obtain ⟨o1, ⟨o2, o2w⟩, ⟨o3, o3w⟩, ⟨o4, o4w⟩, o5, o6⟩ := id hO
  obtain ⟨wr, w1, w2, wu⟩ := o4w.2 s hs
  have f1 := o2.1
  refine st_Mo_freshOf [] 9 ?_
  simp only [↓zq, ↓reduceIte, zr_si2, zr_sr1, zr_cp2, zr_tl, zr_tn, shq, List.contains_nil, List.contains_cons, Nat.reduceBEq, Bool.false_or, Bool.or_false, Bool.true_or, Bool.false_eq_true, if_false, if_true, true_and, and_true, List.set_cons_zero, List.set_cons_succ, List.length_cons, List.length_nil, Nat.reduceAdd, Nat.reduceLeDiff, Nat.le_refl, Nat.zero_le, true_or, or_true, zn_cl, ↓jj_Mo_freshOf, f1]
  refine k_Mo_upTo hO hs ?_
  simp only [↓zq, ↓reduceIte, zr_si2, zr_sr1, zr_cp2, zr_tl, zr_tn, shq, List.contains_nil, List.contains_cons, Nat.reduceBEq, Bool.false_or, Bool.or_false, Bool.true_or, Bool.false_eq_true, if_false, if_true, true_and, and_true, List.set_cons_zero, List.set_cons_succ, List.length_cons, List.length_nil, Nat.reduceAdd, Nat.reduceLeDiff, Nat.le_refl, Nat.zero_le, true_or, or_true, zn_cl, ↓jj_Mo_freshOf]
  rw [pk_sub wu]
  exact hR
set_option maxHeartbeats 4000000 in
set_option maxRecDepth 100000 in
theorem k_Mo_costOf {d : Nat} {h : zm_M} {R : zm_R} {F : zs_F} {sp : Nat → Nat} {U : zs_U} {Q : zs_Q} {s : Nat} (hO : zO h F sp U Q) (hs : s < U.1) (hR : ∀ h' : zm_M, zo_f4 h h' → R (some (.inl (nI (zs_cost sp F (U.2 s))))) h') : zm_C (d + 6) TT m_Mo_costOf [.inr (some 133), .inl (nI s)] h R := by
  refine st_Mo_costOf [] 9 ?_
  simp only [↓zq, ↓reduceIte, zr_si2, zr_sr1, zr_cp2, zr_tl, zr_tn, shq, List.contains_nil, List.contains_cons, Nat.reduceBEq, Bool.false_or, Bool.or_false, Bool.true_or, Bool.false_eq_true, if_false, if_true, true_and, and_true, List.set_cons_zero, List.set_cons_succ, List.length_cons, List.length_nil, Nat.reduceAdd, Nat.reduceLeDiff, Nat.le_refl, Nat.zero_le, true_or, or_true, zn_cl, ↓jj_Mo_costOf]
  refine k_Mo_groupsOf hO hs (fun g e1 => ?_)
  simp only [↓zq, ↓reduceIte, zr_si2, zr_sr1, zr_cp2, zr_tl, zr_tn, shq, List.contains_nil, List.contains_cons, Nat.reduceBEq, Bool.false_or, Bool.or_false, Bool.true_or, Bool.false_eq_true, if_false, if_true, true_and, and_true, List.set_cons_zero, List.set_cons_succ, List.length_cons, List.length_nil, Nat.reduceAdd, Nat.reduceLeDiff, Nat.le_refl, Nat.zero_le, true_or, or_true, zn_cl, ↓jj_Mo_costOf]
  refine k_Mo_freshOf (zO_f4 e1 hO) hs ?_
  simp only [↓zq, ↓reduceIte, zr_si2, zr_sr1, zr_cp2, zr_tl, zr_tn, shq, List.contains_nil, List.contains_cons, Nat.reduceBEq, Bool.false_or, Bool.or_false, Bool.true_or, Bool.false_eq_true, if_false, if_true, true_and, and_true, List.set_cons_zero, List.set_cons_succ, List.length_cons, List.length_nil, Nat.reduceAdd, Nat.reduceLeDiff, Nat.le_refl, Nat.zero_le, true_or, or_true, zn_cl, ↓jj_Mo_costOf, nI_add]
  exact hR g e1
