/-! the answer by the facts; bounds -/
/-- the table's counts are those of zs_cnt -/
theorem zs_tal_cnt (sp row : Nat → Nat) (F : zs_F) (lo : Nat) (t : zs_tb) : ∀ n k, (zs_tal sp row F lo n t k).1 = (t k).1 + zs_cnt sp row F lo n k
  | 0, k => by simp [zs_tal, zs_cnt]
  | n + 1, k => by
    have ih := zs_tal_cnt sp row F lo t n
    rw [zs_tal, zs_cnt]
    by_cases e : zs_let row (F.2.1 (lo + n)) = true
    · rw [if_pos e]
      by_cases hk : k = zs_key sp row (F.2.1 (lo + n))
      · rw [if_pos ⟨e, hk.symm⟩]
        unfold zs_add
        rw [if_pos hk]
        have := ih k
        rw [hk] at this ⊢
        split
        · next h0 =>
          rw [h0] at this
          dsimp only
          omega
        · dsimp only
          omega
      · rw [if_neg (fun z => hk z.2.symm), Nat.add_zero]
        unfold zs_add
        rw [if_neg hk]
        exact ih k
    · rw [if_neg e, if_neg (fun z => e z.1), Nat.add_zero]
      exact ih k
theorem zs_tabS_grp (sp : Nat → Nat) (F : zs_F) (row : Nat → Nat) : zs_some (fun k => (zs_tabS sp F row k).1) 512 = zs_grp sp row F (row 7) := by
  unfold zs_grp
  congr 1
  funext k
  unfold zs_tabS
  rw [zs_tal_cnt]
  exact Nat.zero_add _
theorem zs_cum_upc {t u : Nat → Nat} {m0 c : Nat} (h0 : u m0 = t m0 + c) (ho : ∀ j, j ≠ m0 → u j = t j) : ∀ m, zs_cum u m = zs_cum t m + if m0 < m then c else 0
  | 0 => by simp [zs_cum]
  | m + 1 => by
    rw [zs_cum, zs_cum, zs_cum_upc h0 ho m]
    by_cases e : m = m0
    · subst e
      rw [h0, if_neg (Nat.lt_irrefl _), if_pos (Nat.lt_succ_self _)]
      omega
    · rw [ho m e]
      by_cases e2 : m0 < m
      · rw [if_pos e2, if_pos (by omega)]; omega
      · rw [if_neg e2, if_neg (by omega)]; omega
theorem zs_cum_ge (t : Nat → Nat) {k : Nat} : ∀ m, k < m → t k ≤ zs_cum t m
  | 0, h => absurd h (Nat.not_lt_zero k)
  | m + 1, h => by
    rw [zs_cum]
    rcases (show k < m ∨ k = m by omega) with e | e
    · have := zs_cum_ge t m e
      omega
    · rw [e]; omega
/-- counts of a table, keys below M, added up -/
def zs_tot (M : Nat) (t : zs_tb) : Nat := zs_cum (fun k => (t k).1) M
theorem zs_tot_add (M : Nat) (t : zs_tb) (k c s l g : Nat) : zs_tot M (zs_add t k c s l g) = zs_tot M t + if k < M then c else 0 := by
  unfold zs_tot
  refine zs_cum_upc ?_ (fun j hj => ?_) M
  · show (zs_add t k c s l g k).1 = (t k).1 + c
    unfold zs_add
    rw [if_pos rfl]
    split
    · next h => dsimp only; omega
    · rfl
  · show (zs_add t k c s l g j).1 = (t j).1
    unfold zs_add
    rw [if_neg hj]
theorem zs_tot_tal (M : Nat) (sp row : Nat → Nat) (F : zs_F) (lo : Nat) (t : zs_tb) : ∀ n, zs_tot M (zs_tal sp row F lo n t) ≤ zs_tot M t + n
  | 0 => Nat.le_refl _
  | n + 1 => by
    have ih := zs_tot_tal M sp row F lo t n
    rw [zs_tal]
    split
    · rw [zs_tot_add]
      split <;> omega
    · omega
theorem zs_tot_rol (M : Nat) (sp row q : Nat → Nat) (tabS t : zs_tb) : ∀ k, zs_tot M (zs_rol sp row q tabS k t) ≤ zs_tot M t + zs_tot k tabS
  | 0 => Nat.le_refl _
  | k + 1 => by
    have ih := zs_tot_rol M sp row q tabS t k
    have e : zs_tot (k + 1) tabS = zs_tot k tabS + (tabS k).1 := rfl
    rw [zs_rol, e]
    split
    · rw [zs_tot_add]
      split <;> omega
    · omega
theorem zs_tot_0 (M : Nat) : zs_tot M zs_t0 = 0 := zs_cum_zero M (fun _ _ => trivial) (fun _ => rfl)
theorem zw_T_tot {M B C : Nat} {t : zs_tb} (h : zw_T C t) (ht : zs_tot M t ≤ B) (ho : ∀ k, M ≤ k → (t k).1 = 0) : zw_T B t := by
  intro k
  refine ⟨?_, (h k).2⟩
  rcases Nat.lt_or_ge k M with e | e
  · have : (t k).1 ≤ zs_tot M t := zs_cum_ge (fun k => (t k).1) M e
    omega
  · rw [ho k e]; omega
/-- keys lie below 512 -/
theorem zs_tal_o {sp row : Nat → Nat} {F : zs_F} {lo : Nat} {t : zs_tb} (hs : zw_S sp) (hw : zw_F F) (ht : ∀ k, 512 ≤ k → (t k).1 = 0) : ∀ n, lo + n ≤ F.1 → ∀ k, 512 ≤ k → (zs_tal sp row F lo n t k).1 = 0
  | 0, _, k, hk => ht k hk
  | n + 1, h, k, hk => by
    have ih := zs_tal_o (sp := sp) (row := row) (lo := lo) hs hw ht n (by omega) k hk
    obtain ⟨a0, a1, a2, -, -⟩ := zw_F_at hw (f := lo + n) (by omega)
    have hl := zs_key_lt (row := row) hs a0 a1 a2
    rw [zs_tal]
    split
    · unfold zs_add
      rw [if_neg (by omega)]
      exact ih
    · exact ih
theorem zs_rol_o {sp row q : Nat → Nat} {tabS t : zs_tb} (hs : zw_S sp) (ht : ∀ k, 512 ≤ k → (t k).1 = 0) : ∀ n k, 512 ≤ k → (zs_rol sp row q tabS n t k).1 = 0
  | 0, k, hk => ht k hk
  | n + 1, k, hk => by
    have ih := zs_rol_o (sp := sp) (row := row) (q := q) (tabS := tabS) hs ht n k hk
    have hl := zs_rk_lt (row := row) (q := q) (key := n) hs
    rw [zs_rol]
    split
    · unfold zs_add
      rw [if_neg (by omega)]
      exact ih
    · exact ih
/-- the table of the facts by a question -/
def zs_tabF (sp : Nat → Nat) (F : zs_F) (q : Nat → Nat) : zs_tb := zs_tal sp q F 0 F.1 zs_t0
theorem zw_T_F {sp : Nat → Nat} {F : zs_F} {q : Nat → Nat} (hw : zw_F F) : zw_T 240 (zs_tabF sp F q) := by
  have h1 := hw.1
  exact zw_T_mono (zw_T_tal (lo := 0) hw (zw_T_0 0) F.1 (by omega)) (by omega)
theorem zw_T_A {sp : Nat → Nat} {F : zs_F} {row q : Nat → Nat} (hs : zw_S sp) (hw : zw_F F) (h7 : row 7 ≤ F.1) : zw_T 240 (zs_tabA sp F row q) := by
  have h1 := hw.1
  have wS := zw_T_S (sp := sp) (row := row) hw h7
  have w1 := zw_T_rol (sp := sp) (row := row) (q := q) wS 512
  have w2 := zw_T_tal (sp := sp) (row := q) (lo := row 7) hw w1 (F.1 - row 7) (by omega)
  refine zw_T_tot (M := 512) w2 ?_ ?_
  · have t1 := zs_tot_tal 512 sp q F (row 7) (zs_rol sp row q (zs_tabS sp F row) 512 zs_t0) (F.1 - row 7)
    have t2 := zs_tot_rol 512 sp row q (zs_tabS sp F row) zs_t0 512
    have t3 := zs_tot_tal 512 sp row F 0 zs_t0 (row 7)
    have t4 := zs_tot_0 512
    have e : zs_tot 512 (zs_tabS sp F row) = zs_tot 512 (zs_tal sp row F 0 (row 7) zs_t0) := rfl
    unfold zs_tabA
    omega
  · exact zs_tal_o hs hw (zs_rol_o hs (fun _ _ => rfl) 512) (F.1 - row 7) (by omega)
/-- a table that holds an answer -/
def zc_A (I : Nat → Nat → Int32) (t : Nat) (tab : zs_tb) (sg : Nat → Nat) (w : Nat) : Prop := zc_T I t tab ∧ (5 ≤ w → ∀ k, k < 512 → (tab k).1 ≠ 0 → I (t + 5) k = nI (sg k))
set_option maxHeartbeats 4000000 in
set_option maxRecDepth 100000 in
theorem k_KS_tallyAnswerF {d : Nat} {h : zm_M} {R : zm_R} {pi : Nat → Nat} {F : zs_F} {sp : Nat → Nat} {U : zs_U} {Q : zs_Q} (hC : zC h pi F sp U Q) (hq : Q.1 = true) (hR : ∀ h' : zm_M, zc_fr h h' → (∀ a, (a < 33 ∨ 35 < a ∧ a < 79 ∨ 84 < a) → h'.1 a = h.1 a) → zc_A h'.1 79 (zs_tabF sp F Q.2) (zs_sg sp Q.2 F) (Q.2 6) → R (some (.inr (some 79))) h') : zm_C (d + 6) TT m_KS_tallyAnswer [.inr (some 0), .inr none] h R := by
  obtain ⟨c1, c2, ⟨c3, c3w⟩, ⟨c4, c4w⟩, ⟨c7, c8⟩, c9, c10⟩ := id hC
  have hw1 := c3w.1
  obtain ⟨q2, q3⟩ := c9.2 hq
  obtain ⟨wq, wq2⟩ := c10 hq
  have f1 := c3.1
  have p4 : h.2 0 4 = some 28 := by simp only [c1]
  have p5 : h.2 0 5 = some 30 := by simp only [c1]
  have p7 : h.2 0 7 = some 70 := by simp only [c1]
  have p10 : h.2 0 10 = some 79 := by simp only [c1]
  have ht := zk_tabs c1 (t := 79) (Or.inr (Or.inl rfl))
  refine st_KS_tallyAnswer [] 30 ?_
  simp only [↓zq, ↓reduceIte, zr_si2, zr_sr1, zr_cp2, zr_tl, zr_tn, shq, List.contains_nil, List.contains_cons, Nat.reduceBEq, Bool.false_or, Bool.or_false, Bool.true_or, Bool.false_eq_true, if_false, if_true, true_and, and_true, List.set_cons_zero, List.set_cons_succ, List.length_cons, List.length_nil, Nat.reduceAdd, Nat.reduceLeDiff, Nat.le_refl, Nat.zero_le, true_or, or_true, zn_cl, ↓jj_KS_tallyAnswer, p10]
  refine ⟨fun z => absurd trivial z, fun _ => ?_⟩
  refine k_Table_clear ht (fun g e1 e2 e3 => ?_)
  have r4 : g.2 0 4 = some 28 := by rw [e1]; exact p4
  have r5 : g.2 0 5 = some 30 := by rw [e1]; exact p5
  have r7 : g.2 0 7 = some 70 := by rw [e1]; exact p7
  have r10 : g.2 0 10 = some 79 := by rw [e1]; exact p10
  have hF' : zc_F g.1 F := by
    unfold zc_F
    rw [e2 30 (by omega), e2 31 (by omega), e2 32 (by omega)]
    exact c3
  have f1' := hF'.1
  simp only [↓zq, ↓reduceIte, zr_si2, zr_sr1, zr_cp2, zr_tl, zr_tn, shq, List.contains_nil, List.contains_cons, Nat.reduceBEq, Bool.false_or, Bool.or_false, Bool.true_or, Bool.false_eq_true, if_false, if_true, true_and, and_true, List.set_cons_zero, List.set_cons_succ, List.length_cons, List.length_nil, Nat.reduceAdd, Nat.reduceLeDiff, Nat.le_refl, Nat.zero_le, true_or, or_true, zn_cl, ↓jj_KS_tallyAnswer, r4, r5, r7, r10, f1']
  rw [show nI F.1 = nI (0 + F.1) from congrArg nI (Nat.zero_add _).symm]
  refine k_Facts_tally (lo := 0) (B := 0) (sp := sp) (row := Q.2) (by rw [e1]; exact c1) hF' c3w (by omega) (by rw [e1]; exact ht) e3 (zw_T_0 0) (by omega) (by decide) (by rw [e1]; exact zk_cutQ c1) (zc_R_fr q2 (e2 _ (by omega)) (e2 _ (by omega))) wq (by decide) (by rw [e1]; exact zk_shp28 c1) (fun v hv => by rw [e2 29 (by omega)]; exact c4 v hv) c4w (by decide) (fun g' f1 f2 f3 => ?_)
  have s5 : g'.2 0 5 = some 30 := by rw [f1]; exact r5
  have s7 : g'.2 0 7 = some 70 := by rw [f1]; exact r7
  have s4 : g'.2 0 4 = some 28 := by rw [f1]; exact r4
  have s10 : g'.2 0 10 = some 79 := by rw [f1]; exact r10
  have eP : g'.2 = h.2 := f1.trans e1
  have eI : ∀ a, (a < 79 ∨ 83 < a) → g'.1 a = h.1 a := fun a ha => (f2 a ha).trans (e2 a ha)
  have q3' : g'.1 70 3 = nI (Q.2 6) := by rw [eI 70 (by omega)]; exact q3
  simp only [↓zq, ↓reduceIte, zr_si2, zr_sr1, zr_cp2, zr_tl, zr_tn, shq, List.contains_nil, List.contains_cons, Nat.reduceBEq, Bool.false_or, Bool.or_false, Bool.true_or, Bool.false_eq_true, if_false, if_true, true_and, and_true, List.set_cons_zero, List.set_cons_succ, List.length_cons, List.length_nil, Nat.reduceAdd, Nat.reduceLeDiff, Nat.le_refl, Nat.zero_le, true_or, or_true, zn_cl, ↓jj_KS_tallyAnswer, s4, s5, s7, s10, q3']
  have sing : (Q.2 6 = 5 ∨ Q.2 6 = 6) → ∀ RR : zm_R, (∀ g'' : zm_M, zc_f3 79 g' g'' → (∀ k, k < 512 → zs_cnt sp Q.2 F 0 F.1 k ≠ 0 → g''.1 84 k = nI (zs_sg sp Q.2 F k)) → RR none g'') → zm_C (d + 5) TT m_Facts_tallySingled [.inr (some 30), .inr (some 79), .inr (some 70), .inr (some 28)] g' RR := by
    intro h56 RR hRR
    refine k_Facts_tallySingled (d := d + 1) (t := 79) (sp := sp) (q := Q.2) (F := F) (by rw [eP]; exact c1) ?_ c3w (by rw [eP]; exact ht) f3 (fun k => ?_) (by decide) (zc_R_fr q2 (eI _ (by omega)) (eI _ (by omega))) q3' wq h56 ?_ c4w hRR
    · unfold zc_F
      rw [eI 30 (by omega), eI 31 (by omega), eI 32 (by omega)]
      exact c3
    · rw [zs_tal_cnt]
      exact Nat.zero_add _
    · unfold zc_S
      rw [eI 29 (by omega)]
      exact c4
  have sgA : ∀ g'' : zm_M, zc_f3 79 g' g'' → (∀ k, k < 512 → zs_cnt sp Q.2 F 0 F.1 k ≠ 0 → g''.1 84 k = nI (zs_sg sp Q.2 F k)) → R (some (.inr (some 79))) g'' := by
    intro g'' x1 x2
    refine hR g'' ⟨x1.1.trans eP, fun a ha => ?_⟩ (fun a ha => ?_) ⟨zc_T_fr f3 (fun a a1 a2 => x1.2 a (by omega)), fun _ k hk hc => x2 k hk ?_⟩
    · unfold zc_sc at ha
      exact (x1.2 a (by omega)).trans (eI a (by omega))
    · exact (x1.2 a (by omega)).trans (eI a (by omega))
    · intro z
      apply hc
      unfold zs_tabF
      rw [zs_tal_cnt, z]
      rfl
  have e5 : (nI (Q.2 6) = 5) = (Q.2 6 = 5) := zn_eq (b := 5) (by omega) (by decide)
  have e6 : (nI (Q.2 6) = 6) = (Q.2 6 = 6) := zn_eq (b := 6) (by omega) (by decide)
  rw [e5, e6]
  refine ⟨fun z => ?_, fun z => ⟨fun z2 => ?_, fun z2 => ?_⟩⟩
  · refine sing (Or.inl z) _ (fun g'' x1 x2 => ?_)
    have t10 : g''.2 0 10 = some 79 := by rw [x1.1]; exact s10
    simp only [↓zq, ↓reduceIte, zr_si2, zr_sr1, zr_cp2, zr_tl, zr_tn, shq, List.contains_nil, List.contains_cons, Nat.reduceBEq, Bool.false_or, Bool.or_false, Bool.true_or, Bool.false_eq_true, if_false, if_true, true_and, and_true, List.set_cons_zero, List.set_cons_succ, List.length_cons, List.length_nil, Nat.reduceAdd, Nat.reduceLeDiff, Nat.le_refl, Nat.zero_le, true_or, or_true, zn_cl, ↓jj_KS_tallyAnswer, t10]
    exact sgA g'' x1 x2
  · exact hR g' ⟨eP, fun a ha => eI a (by unfold zc_sc at ha; omega)⟩ (fun a ha => eI a (by omega)) ⟨f3, fun h5 => absurd h5 (by omega)⟩
  · refine sing (Or.inr z2) _ (fun g'' x1 x2 => ?_)
    have t10 : g''.2 0 10 = some 79 := by rw [x1.1]; exact s10
    simp only [↓zq, ↓reduceIte, zr_si2, zr_sr1, zr_cp2, zr_tl, zr_tn, shq, List.contains_nil, List.contains_cons, Nat.reduceBEq, Bool.false_or, Bool.or_false, Bool.true_or, Bool.false_eq_true, if_false, if_true, true_and, and_true, List.set_cons_zero, List.set_cons_succ, List.length_cons, List.length_nil, Nat.reduceAdd, Nat.reduceLeDiff, Nat.le_refl, Nat.zero_le, true_or, or_true, zn_cl, ↓jj_KS_tallyAnswer, t10]
    exact sgA g'' x1 x2
/-- what an answer tells of a key -/
def zs_tell (tab : zs_tb) (sg : Nat → Nat) (w : Nat) (k : Option Nat) (what : Nat) : Int32 := match k with
  | none => -4
  | some k => if what < 3 then nI (zs_dig k what) else nI (zs_val tab sg w k)
set_option maxHeartbeats 4000000 in
set_option maxRecDepth 100000 in
theorem k_KS_answerAt {d : Nat} {h : zm_M} {R : zm_R} {t B what w : Nat} {tab : zs_tb} {sg : Nat → Nat} {k : Option Nat} (hp : h.2 0 7 = some 70) (hq6 : h.1 70 3 = nI w) (hw6 : w ≤ 6) (hk : zk_tab h.2 t) (hA : zc_A h.1 t tab sg w) (hwT : zw_T B tab) (hB : B < 2 ^ 20) (hk5 : ∀ j, k = some j → j < 512) (hwh : what < 4) (hR : R (some (.inl (zs_tell tab sg w k what))) h) : zm_C (d + 3) TT m_KS_answerAt [.inr (some 0), .inr (some t), .inl (zs_opt k), .inl (nI what)] h R := by
  have k0 := hk.1
  refine st_KS_answerAt [] 30 ?_
  cases k with
  | none =>
    simp only [↓zq, ↓reduceIte, zr_si2, zr_sr1, zr_cp2, zr_tl, zr_tn, shq, List.contains_nil, List.contains_cons, Nat.reduceBEq, Bool.false_or, Bool.or_false, Bool.true_or, Bool.false_eq_true, if_false, if_true, true_and, and_true, List.set_cons_zero, List.set_cons_succ, List.length_cons, List.length_nil, Nat.reduceAdd, Nat.reduceLeDiff, Nat.le_refl, Nat.zero_le, true_or, or_true, zn_cl, ↓jj_KS_answerAt, zs_opt]
    exact ⟨fun z => absurd z (by decide), fun _ => hR⟩
  | some j =>
    have hj := hk5 j rfl
    simp only [↓zq, ↓reduceIte, zr_si2, zr_sr1, zr_cp2, zr_tl, zr_tn, shq, List.contains_nil, List.contains_cons, Nat.reduceBEq, Bool.false_or, Bool.or_false, Bool.true_or, Bool.false_eq_true, if_false, if_true, true_and, and_true, List.set_cons_zero, List.set_cons_succ, List.length_cons, List.length_nil, Nat.reduceAdd, Nat.reduceLeDiff, Nat.le_refl, Nat.zero_le, true_or, or_true, zn_cl, ↓jj_KS_answerAt, zs_opt, hp, hq6, k0]
    refine ⟨fun _ => ⟨fun z => ?_, fun z => ?_⟩, fun z => absurd (nI_pos' (by omega)) z⟩
    · have : what = 3 := by
        have := (nI_leI (a := 3) (b := what) (by decide) (by omega)).mp z
        omega
      subst this
      refine k_Table_valueAt hk hA.1 hwT hB hj hw6 (fun h5 hc => hA.2 h5 j hj hc) ?_
      simp only [↓zq, ↓reduceIte, zr_si2, zr_sr1, zr_cp2, zr_tl, zr_tn, shq, List.contains_nil, List.contains_cons, Nat.reduceBEq, Bool.false_or, Bool.or_false, Bool.true_or, Bool.false_eq_true, if_false, if_true, true_and, and_true, List.set_cons_zero, List.set_cons_succ, List.length_cons, List.length_nil, Nat.reduceAdd, Nat.reduceLeDiff, Nat.le_refl, Nat.zero_le, true_or, or_true, zn_cl, ↓jj_KS_answerAt]
      exact hR
    · have h3 : what < 3 := by
        rcases Nat.lt_or_ge what 3 with q | q
        · exact q
        · exact absurd (nI_le (a := 3) q (by omega)) z
      refine k_KS_numberIn hj h3 ?_
      simp only [↓zq, ↓reduceIte, zr_si2, zr_sr1, zr_cp2, zr_tl, zr_tn, shq, List.contains_nil, List.contains_cons, Nat.reduceBEq, Bool.false_or, Bool.or_false, Bool.true_or, Bool.false_eq_true, if_false, if_true, true_and, and_true, List.set_cons_zero, List.set_cons_succ, List.length_cons, List.length_nil, Nat.reduceAdd, Nat.reduceLeDiff, Nat.le_refl, Nat.zero_le, true_or, or_true, zn_cl, ↓jj_KS_answerAt]
      unfold zs_tell at hR
      simp only [if_pos h3] at hR
      exact hR
