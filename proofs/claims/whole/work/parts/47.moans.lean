/-! the reference: what is answered -/
theorem zp_m3 {P : Nat → Nat → Option Nat} (hp : zp_mo P) : P 133 42 = some 158 ∧ P 133 43 = some 159 ∧ P 133 44 = some 160 ∧ P 133 45 = some 161 ∧ P 133 46 = some 162 ∧ P 133 47 = some 163 ∧ P 133 48 = some 164 ∧ P 133 49 = some 165 := by
  refine ⟨?_, ?_, ?_, ?_, ?_, ?_, ?_, ?_⟩ <;> simp only [hp]
set_option maxHeartbeats 4000000 in
set_option maxRecDepth 100000 in
theorem k_Mo_tripleBehind {d : Nat} {h : zm_M} {R : zm_R} {j B : Nat} {tab : zs_tb} (hp : zp_mo h.2) (hT : zo_T h.1 tab) (hw : zw_T B tab) (hB : B < 2 ^ 20) (hj : j < 2 ^ 31) (hR : R (some (.inl (zs_opt (zs_nth (fun k => (tab k).1) j 512)))) h) : zm_C (d + 1) TT m_Mo_tripleBehind [.inr (some 133), .inl (nI j)] h R := by
  obtain ⟨p4, p5, p6, p7, p35, p37, p38, p39, p40⟩ := zp_m hp
  have loop : ∀ (n k : Nat), k + n = 512 → zs_nth (fun k => (tab k).1) j k = none → zs_some (fun k => (tab k).1) k ≤ j → zm_W (zm_md m_Mo_tripleBehind) (d + 1) TT R 4 [some (.inr (some 133)), some (.inl (nI j)), some (.inl (nI (j - zs_some (fun k => (tab k).1) k))), some (.inl (nI k))] [] h := by
    intro n
    induction n with
    | zero =>
      intro k hk hno hsm
      have : k = 512 := by omega
      subst this
      rw [hno] at hR
      generalize j - zs_some (fun k => (tab k).1) 512 = y
      refine zm_go g_Mo_tripleBehind [4] 30 (by decide +kernel) ok_Mo_tripleBehind _ rfl ?_
      simp only [↓zq, ↓reduceIte, zr_si2, zr_sr1, zr_cp2, zr_tl, zr_tn, shq, List.contains_nil, List.contains_cons, Nat.reduceBEq, Bool.false_or, Bool.or_false, Bool.true_or, Bool.false_eq_true, if_false, if_true, true_and, and_true, List.set_cons_zero, List.set_cons_succ, List.length_cons, List.length_nil, Nat.reduceAdd, Nat.reduceLeDiff, Nat.le_refl, Nat.zero_le, true_or, or_true, zn_cl, ↓jj_Mo_tripleBehind]
      exact ⟨fun _ => hR, fun z => absurd (Int32.le_refl _) z⟩
    | succ n ih =>
      intro k hk hno hsm
      have hk5 : k < 512 := by omega
      have hv1 : vp_in (nI k) 512 := vp_in_nI hk5 (by decide)
      have hcl := nI_clamp (show k < 2 ^ 31 by omega)
      have t1 := (hT k hk5).1
      have hb := (hw k).1
      generalize hsk : zs_some (fun k => (tab k).1) k = sk at hsm ⊢
      generalize hyj : j - sk = yj
      refine zm_go g_Mo_tripleBehind [4] 30 (by decide +kernel) ok_Mo_tripleBehind _ rfl ?_
      simp only [↓zq, ↓reduceIte, zr_si2, zr_sr1, zr_cp2, zr_tl, zr_tn, shq, List.contains_nil, List.contains_cons, Nat.reduceBEq, Bool.false_or, Bool.or_false, Bool.true_or, Bool.false_eq_true, if_false, if_true, true_and, and_true, List.set_cons_zero, List.set_cons_succ, List.length_cons, List.length_nil, Nat.reduceAdd, Nat.reduceLeDiff, Nat.le_refl, Nat.zero_le, true_or, or_true, zn_cl, ↓jj_Mo_tripleBehind, p38, hv1, hcl, t1, nI_1]
      subst hyj
      subst hsk
      rw [zn_z (by omega), zn_z (by omega)]
      refine ⟨fun z => absurd z (nI_ge (b := 512) hk5 (by decide)), fun _ => ⟨fun e => ⟨fun z2 => ?_, fun z2 => ?_⟩, fun e => ?_⟩⟩
      · have := ih (k + 1) (by omega) (by rw [zs_nth, hno]; simp only []; rw [if_neg (by omega)]) (by rw [zs_some, if_neg e]; omega)
        rw [zs_some, if_neg e, show j - (zs_some (fun k => (tab k).1) k + 1) = j - zs_some (fun k => (tab k).1) k - 1 by omega] at this
        have e2 : nI (j - zs_some (fun k => (tab k).1) k) - 1 = nI (j - zs_some (fun k => (tab k).1) k - 1) := by
          obtain ⟨y, hy⟩ : ∃ y, j - zs_some (fun k => (tab k).1) k = y + 1 := ⟨j - zs_some (fun k => (tab k).1) k - 1, by omega⟩
          rw [hy]
          exact nI_pred y
        rw [e2]
        exact this
      · have h1 : zs_nth (fun k => (tab k).1) j (k + 1) = some k := by
          rw [zs_nth, hno]
          simp only []
          rw [if_pos ⟨e, by omega⟩]
        have h2 := zs_nth_up (k + 1) (511 - k) h1
        rw [show k + 1 + (511 - k) = 512 by omega] at h2
        rw [h2] at hR
        exact hR
      · have := ih (k + 1) (by omega) (by rw [zs_nth, hno]; simp [e]) (by rw [zs_some, if_pos e]; omega)
        rw [zs_some, if_pos e] at this
        exact this
  refine st_Mo_tripleBehind [4] 9 ?_
  simp only [↓zq, ↓reduceIte, zr_si2, zr_sr1, zr_cp2, zr_tl, zr_tn, shq, List.contains_nil, List.contains_cons, Nat.reduceBEq, Bool.false_or, Bool.or_false, Bool.true_or, Bool.false_eq_true, if_false, if_true, true_and, and_true, List.set_cons_zero, List.set_cons_succ, List.length_cons, List.length_nil, Nat.reduceAdd, Nat.reduceLeDiff, Nat.le_refl, Nat.zero_le, true_or, or_true, zn_cl, ↓jj_Mo_tripleBehind]
  have := loop 512 0 rfl rfl (Nat.zero_le _)
  rw [show j - zs_some (fun k => (tab k).1) 0 = j from Nat.sub_zero j] at this
  exact this
set_option maxHeartbeats 4000000 in
set_option maxRecDepth 100000 in
theorem k_Mo_partAt {d : Nat} {h : zm_M} {R : zm_R} {k w : Nat} {tab : zs_tb} {sg : Nat → Nat} (hp : zp_mo h.2) (hT : zo_T h.1 tab) (hk5 : k < 512) (hw : w ≤ 3) (hne : (tab k).1 ≠ 0) (hR : R (some (.inl (nI (zs_val tab sg w k)))) h) : zm_C (d + 1) TT m_Mo_partAt [.inr (some 133), .inl (nI k), .inl (nI w)] h R := by
  obtain ⟨p4, p5, p6, p7, p35, p37, p38, p39, p40⟩ := zp_m hp
  obtain ⟨t1, t2, -⟩ := hT k hk5
  obtain ⟨t2, t3, t4⟩ := t2 hne
  have hv1 : vp_in (nI k) 512 := vp_in_nI hk5 (by decide)
  have hcl := nI_clamp (show k < 2 ^ 31 by omega)
  unfold zs_val at hR
  rw [if_neg hne] at hR
  refine st_Mo_partAt [] 9 ?_
  simp only [↓zq, ↓reduceIte, zr_si2, zr_sr1, zr_cp2, zr_tl, zr_tn, shq, List.contains_nil, List.contains_cons, Nat.reduceBEq, Bool.false_or, Bool.or_false, Bool.true_or, Bool.false_eq_true, if_false, if_true, true_and, and_true, List.set_cons_zero, List.set_cons_succ, List.length_cons, List.length_nil, Nat.reduceAdd, Nat.reduceLeDiff, Nat.le_refl, Nat.zero_le, true_or, or_true, zn_cl, ↓jj_Mo_partAt, p37, p38, p39, p40, hv1, hcl, t1, t2, t3, t4]
  rcases (show w = 0 ∨ w = 1 ∨ w = 2 ∨ w = 3 by omega) with rfl | rfl | rfl | rfl
  · exact ⟨fun _ => hR, fun z => absurd rfl z⟩
  · exact ⟨fun z => absurd z (by decide), fun _ => ⟨fun _ => hR, fun z => absurd rfl z⟩⟩
  · exact ⟨fun z => absurd z (by decide), fun _ => ⟨fun z => absurd z (by decide), fun _ => ⟨fun _ => hR, fun z => absurd rfl z⟩⟩⟩
  · exact ⟨fun z => absurd z (by decide), fun _ => ⟨fun z => absurd z (by decide), fun _ => ⟨fun z => absurd z (by decide), fun _ => hR⟩⟩⟩
/-- only cell a has changed -/
def zo_f1 (a : Nat) (h h' : zm_M) : Prop := h'.2 = h.2 ∧ ∀ c, c ≠ a → h'.1 c = h.1 c
set_option maxHeartbeats 4000000 in
set_option maxRecDepth 100000 in
theorem k_Mo_timesOf {d : Nat} {h : zm_M} {R : zm_R} {F : zs_F} {sp : Nat → Nat} {U : zs_U} {Q : zs_Q} {k : Nat} (hO : zO h F sp U Q) (hq : Q.1 = true) (hk5 : k < 512) (hR : ∀ h' : zm_M, zo_f1 165 h h' → (∀ m, m < 100 → h'.1 165 m = nI (zs_tm sp Q.2 F k m F.1)) → R none h') : zm_C (d + 3) TT m_Mo_timesOf [.inr (some 133), .inl (nI k)] h R := by
  obtain ⟨o1, ⟨o2, o2w⟩, ⟨o3, o3w⟩, ⟨o4, o4w⟩, o5, o6⟩ := id hO
  obtain ⟨p4, p5, p6, p7, p35, p37, p38, p39, p40⟩ := zp_m o1
  obtain ⟨p42, p43, p44, p45, p46, p47, p48, p49⟩ := zp_m3 o1
  obtain ⟨wq, wq2⟩ := o6 hq
  have hw1 := o2w.1
  have row := zO_rowQ hO hq
  have tle : ∀ m n, zs_tm sp Q.2 F k m n ≤ n := by
    intro m n
    induction n with
    | zero => exact Nat.le_refl 0
    | succ n ih =>
      rw [zs_tm]
      split <;> omega
  have loop2 : ∀ (n f : Nat), f + n = F.1 → ∀ g : zm_M, zo_f1 165 h g → (∀ m, m < 100 → g.1 165 m = nI (zs_tm sp Q.2 F k m f)) → zm_W (zm_md m_Mo_timesOf) (d + 3) TT R 23 [some (.inr (some 133)), some (.inl (nI k)), some (.inl (nI f))] [] g := by
    intro n
    induction n with
    | zero =>
      intro f hf g e1 e2
      have : f = F.1 := by omega
      subst this
      have fm : g.1 133 1 = nI F.1 := by rw [e1.2 133 (by decide)]; exact o2.1
      refine zm_go g_Mo_timesOf [23] 30 (by decide +kernel) ok_Mo_timesOf _ rfl ?_
      simp only [↓zq, ↓reduceIte, zr_si2, zr_sr1, zr_cp2, zr_tl, zr_tn, shq, List.contains_nil, List.contains_cons, Nat.reduceBEq, Bool.false_or, Bool.or_false, Bool.true_or, Bool.false_eq_true, if_false, if_true, true_and, and_true, List.set_cons_zero, List.set_cons_succ, List.length_cons, List.length_nil, Nat.reduceAdd, Nat.reduceLeDiff, Nat.le_refl, Nat.zero_le, true_or, or_true, zn_cl, ↓jj_Mo_timesOf, fm]
      exact ⟨fun _ => hR g e1 e2, fun z => absurd (Int32.le_refl _) z⟩
    | succ n ih =>
      intro f hf g e1 e2
      have hfF : f < F.1 := by omega
      obtain ⟨wa, wb, wc, wm, w240⟩ := zw_F_at o2w hfF
      have ih := ih (f + 1) (by omega)
      have fm : g.1 133 1 = nI F.1 := by rw [e1.2 133 (by decide)]; exact o2.1
      have q35 : g.2 133 35 = some 153 := by rw [e1.1]; exact p35
      have q49 : g.2 133 49 = some 165 := by rw [e1.1]; exact p49
      have q4 : g.2 133 4 = some 134 := by rw [e1.1]; exact p4
      have q6 : g.2 133 6 = some 136 := by rw [e1.1]; exact p6
      have gF : zo_F g.1 F := by
        unfold zo_F
        rw [e1.2 133 (by decide), e1.2 134 (by decide)]
        exact o2
      have gS : zo_S g.1 sp := by
        unfold zo_S
        rw [e1.2 136 (by decide)]
        exact o3
      have gr : zo_Row g.1 153 0 Q.2 := by
        unfold zo_Row
        rw [e1.2 153 (by decide)]
        exact row
      have me : g.1 134 (4 * f + 3) = nI (F.2.2 f) := (gF.2 f hfF).2.2.2
      refine zm_go g_Mo_timesOf [23] 30 (by decide +kernel) ok_Mo_timesOf _ rfl ?_
      simp only [↓zq, ↓reduceIte, zr_si2, zr_sr1, zr_cp2, zr_tl, zr_tn, shq, List.contains_nil, List.contains_cons, Nat.reduceBEq, Bool.false_or, Bool.or_false, Bool.true_or, Bool.false_eq_true, if_false, if_true, true_and, and_true, List.set_cons_zero, List.set_cons_succ, List.length_cons, List.length_nil, Nat.reduceAdd, Nat.reduceLeDiff, Nat.le_refl, Nat.zero_le, true_or, or_true, zn_cl, ↓jj_Mo_timesOf, fm, q35, q49]
      refine ⟨fun z => absurd z (nI_ge (by omega) (by omega)), fun _ => ?_⟩
      refine k_Mo_isLet q4 gF o2w hfF gr wq ?_
      simp only [↓zq, ↓reduceIte, zr_si2, zr_sr1, zr_cp2, zr_tl, zr_tn, shq, List.contains_nil, List.contains_cons, Nat.reduceBEq, Bool.false_or, Bool.or_false, Bool.true_or, Bool.false_eq_true, if_false, if_true, true_and, and_true, List.set_cons_zero, List.set_cons_succ, List.length_cons, List.length_nil, Nat.reduceAdd, Nat.reduceLeDiff, Nat.le_refl, Nat.zero_le, true_or, or_true, zn_cl, ↓jj_Mo_timesOf, fm, q35, q49, nI_1]
      have skip : (¬ (zs_let Q.2 (F.2.1 f) = true ∧ zs_key sp Q.2 (F.2.1 f) = k)) → zm_W (zm_md m_Mo_timesOf) (d + 3) TT R 23 [some (.inr (some 133)), some (.inl (nI k)), some (.inl (nI (f + 1)))] [] g := fun hn => by
        refine ih g e1 (fun m hm => ?_)
        rw [zs_tm, if_neg (fun z => hn ⟨z.1, z.2.1⟩)]
        exact e2 m hm
      cases el : zs_let Q.2 (F.2.1 f)
      · simp only [Bool.false_eq_true, if_false]
        exact ⟨fun _ => skip (fun z => by rw [el] at z; exact absurd z.1 (by decide)), fun z => absurd trivial z⟩
      · simp only [if_true]
        refine ⟨fun z => absurd z (by decide), fun _ => ?_⟩
        refine k_Mo_tripleOf q4 q6 gF o2w hfF gS o3w gr wq ?_
        have n0 := zs_num_lt (lev := Q.2 0) o3w (show 0 < 3 by decide) wa
        have n1 := zs_num_lt (lev := Q.2 1) o3w (show 1 < 3 by decide) wb
        have n2 := zs_num_lt (lev := Q.2 2) o3w (show 2 < 3 by decide) wc
        have kl : zs_key sp Q.2 (F.2.1 f) < 512 := by
          unfold zs_key
          omega
        simp only [↓zq, ↓reduceIte, zr_si2, zr_sr1, zr_cp2, zr_tl, zr_tn, shq, List.contains_nil, List.contains_cons, Nat.reduceBEq, Bool.false_or, Bool.or_false, Bool.true_or, Bool.false_eq_true, if_false, if_true, true_and, and_true, List.set_cons_zero, List.set_cons_succ, List.length_cons, List.length_nil, Nat.reduceAdd, Nat.reduceLeDiff, Nat.le_refl, Nat.zero_le, true_or, or_true, zn_cl, ↓jj_Mo_timesOf, fm, q35, q49, nI_1]
        rw [zn_eq (by omega) (by omega)]
        refine ⟨fun z => skip (fun y => z y.2), fun z => ?_⟩
        refine k_Mo_ofFact q4 w240 (by decide) ?_
        simp only [↓zq, ↓reduceIte, zr_si2, zr_sr1, zr_cp2, zr_tl, zr_tn, shq, List.contains_nil, List.contains_cons, Nat.reduceBEq, Bool.false_or, Bool.or_false, Bool.true_or, Bool.false_eq_true, if_false, if_true, true_and, and_true, List.set_cons_zero, List.set_cons_succ, List.length_cons, List.length_nil, Nat.reduceAdd, Nat.reduceLeDiff, Nat.le_refl, Nat.zero_le, true_or, or_true, zn_cl, ↓jj_Mo_timesOf, fm, q35, q49, nI_1]
        refine k_Mo_ofFact q4 w240 (by decide) ?_
        simp only [↓zq, ↓reduceIte, zr_si2, zr_sr1, zr_cp2, zr_tl, zr_tn, shq, List.contains_nil, List.contains_cons, Nat.reduceBEq, Bool.false_or, Bool.or_false, Bool.true_or, Bool.false_eq_true, if_false, if_true, true_and, and_true, List.set_cons_zero, List.set_cons_succ, List.length_cons, List.length_nil, Nat.reduceAdd, Nat.reduceLeDiff, Nat.le_refl, Nat.zero_le, true_or, or_true, zn_cl, ↓jj_Mo_timesOf, fm, q35, q49, nI_1]
        have v1 : vp_in (nI (F.2.2 f)) 100 := vp_in_nI wm (by decide)
        rw [me, nI_clamp (by omega), e2 _ wm]
        refine ⟨v1, v1, ?_⟩
        rw [show nI (zs_tm sp Q.2 F k (F.2.2 f) f) + 1 = nI (zs_tm sp Q.2 F k (F.2.2 f) f + 1) from nI_1 _]
        refine ih _ ⟨(by exact e1.1), fun c hc => ?_⟩ (fun m hm => ?_)
        · funext j
          simp only [zr_si1]
          rw [if_neg (by omega), e1.2 c hc]
        · simp only [zr_si1]
          rw [zs_tm]
          by_cases em : m = F.2.2 f
          · rw [if_pos ⟨trivial, em⟩, if_pos ⟨el, z, em.symm⟩, em]
          · rw [if_neg (fun y => em y.2), if_neg (fun y => em y.2.2.symm), e2 m hm]
            rfl
  have loop1 : ∀ (n i : Nat), i + n = 100 → ∀ g : zm_M, zo_f1 165 h g → (∀ m, m < i → g.1 165 m = 0) → zm_W (zm_md m_Mo_timesOf) (d + 3) TT R 2 [some (.inr (some 133)), some (.inl (nI k)), some (.inl (nI i))] [] g := by
    intro n
    induction n with
    | zero =>
      intro i hi g e1 e2
      have : i = 100 := by omega
      subst this
      refine zm_go g_Mo_timesOf [2, 23] 30 (by decide +kernel) ok_Mo_timesOf _ rfl ?_
      simp only [↓zq, ↓reduceIte, zr_si2, zr_sr1, zr_cp2, zr_tl, zr_tn, shq, List.contains_nil, List.contains_cons, Nat.reduceBEq, Bool.false_or, Bool.or_false, Bool.true_or, Bool.false_eq_true, if_false, if_true, true_and, and_true, List.set_cons_zero, List.set_cons_succ, List.length_cons, List.length_nil, Nat.reduceAdd, Nat.reduceLeDiff, Nat.le_refl, Nat.zero_le, true_or, or_true, zn_cl, ↓jj_Mo_timesOf]
      refine ⟨fun _ => loop2 F.1 0 (by omega) g e1 (fun m hm => e2 m hm), fun z => absurd (by decide) z⟩
    | succ n ih =>
      intro i hi g e1 e2
      have q49 : g.2 133 49 = some 165 := by rw [e1.1]; exact p49
      have v1 : vp_in (nI i) 100 := vp_in_nI (by omega) (by decide)
      have c1 := nI_clamp (show i < 2 ^ 31 by omega)
      refine zm_go g_Mo_timesOf [2, 23] 30 (by decide +kernel) ok_Mo_timesOf _ rfl ?_
      simp only [↓zq, ↓reduceIte, zr_si2, zr_sr1, zr_cp2, zr_tl, zr_tn, shq, List.contains_nil, List.contains_cons, Nat.reduceBEq, Bool.false_or, Bool.or_false, Bool.true_or, Bool.false_eq_true, if_false, if_true, true_and, and_true, List.set_cons_zero, List.set_cons_succ, List.length_cons, List.length_nil, Nat.reduceAdd, Nat.reduceLeDiff, Nat.le_refl, Nat.zero_le, true_or, or_true, zn_cl, ↓jj_Mo_timesOf, q49, v1, c1, nI_1]
      refine ⟨fun z => absurd z (by rw [show (99 : Int32) = nI 99 from rfl, zn_lt (by decide) (by omega)]; omega), fun _ => ?_⟩
      refine ih (i + 1) (by omega) _ ⟨(by exact e1.1), fun c hc => ?_⟩ (fun m hm => ?_)
      · funext j
        simp only [zr_si1]
        rw [if_neg (by omega), e1.2 c hc]
      · simp only [zr_si1]
        by_cases em : m = i
        · rw [if_pos ⟨trivial, em⟩]
        · rw [if_neg (by omega)]
          exact e2 m (by omega)
  refine st_Mo_timesOf [2] 9 ?_
  simp only [↓zq, ↓reduceIte, zr_si2, zr_sr1, zr_cp2, zr_tl, zr_tn, shq, List.contains_nil, List.contains_cons, Nat.reduceBEq, Bool.false_or, Bool.or_false, Bool.true_or, Bool.false_eq_true, if_false, if_true, true_and, and_true, List.set_cons_zero, List.set_cons_succ, List.length_cons, List.length_nil, Nat.reduceAdd, Nat.reduceLeDiff, Nat.le_refl, Nat.zero_le, true_or, or_true, zn_cl, ↓jj_Mo_timesOf]
  exact loop1 100 0 rfl h ⟨rfl, fun _ _ => rfl⟩ (fun m hm => absurd hm (Nat.not_lt_zero m))
set_option maxHeartbeats 4000000 in
set_option maxRecDepth 100000 in
theorem k_Mo_unlikeIn {d : Nat} {h : zm_M} {R : zm_R} {F : zs_F} {sp : Nat → Nat} {U : zs_U} {Q : zs_Q} {k : Nat} (hO : zO h F sp U Q) (hq : Q.1 = true) (hk5 : k < 512) (hR : ∀ h' : zm_M, zo_f1 165 h h' → R (some (.inl (nI (zs_some (fun m => zs_tm sp Q.2 F k m F.1) 100)))) h') : zm_C (d + 4) TT m_Mo_unlikeIn [.inr (some 133), .inl (nI k)] h R := by
  obtain ⟨p42, p43, p44, p45, p46, p47, p48, p49⟩ := zp_m3 hO.1
  have hw1 := hO.2.1.2.1
  have tle : ∀ m n, zs_tm sp Q.2 F k m n ≤ n := by
    intro m n
    induction n with
    | zero => exact Nat.le_refl 0
    | succ n ih =>
      rw [zs_tm]
      split <;> omega
  refine st_Mo_unlikeIn [9] 9 ?_
  simp only [↓zq, ↓reduceIte, zr_si2, zr_sr1, zr_cp2, zr_tl, zr_tn, shq, List.contains_nil, List.contains_cons, Nat.reduceBEq, Bool.false_or, Bool.or_false, Bool.true_or, Bool.false_eq_true, if_false, if_true, true_and, and_true, List.set_cons_zero, List.set_cons_succ, List.length_cons, List.length_nil, Nat.reduceAdd, Nat.reduceLeDiff, Nat.le_refl, Nat.zero_le, true_or, or_true, zn_cl, ↓jj_Mo_unlikeIn]
  refine k_Mo_timesOf hO hq hk5 (fun g e1 e2 => ?_)
  have q49 : g.2 133 49 = some 165 := by rw [e1.1]; exact p49
  have loop : ∀ (n i : Nat), i + n = 100 → zm_W (zm_md m_Mo_unlikeIn) (d + 4) TT R 9 [some (.inr (some 133)), some (.inl (nI k)), some (.inl (nI (zs_some (fun m => zs_tm sp Q.2 F k m F.1) i))), some (.inl (nI i))] [] g := by
    intro n
    induction n with
    | zero =>
      intro i hi
      have : i = 100 := by omega
      subst this
      have := hR g e1
      generalize zs_some (fun m => zs_tm sp Q.2 F k m F.1) 100 = y at this ⊢
      refine zm_go g_Mo_unlikeIn [9] 30 (by decide +kernel) ok_Mo_unlikeIn _ rfl ?_
      simp only [↓zq, ↓reduceIte, zr_si2, zr_sr1, zr_cp2, zr_tl, zr_tn, shq, List.contains_nil, List.contains_cons, Nat.reduceBEq, Bool.false_or, Bool.or_false, Bool.true_or, Bool.false_eq_true, if_false, if_true, true_and, and_true, List.set_cons_zero, List.set_cons_succ, List.length_cons, List.length_nil, Nat.reduceAdd, Nat.reduceLeDiff, Nat.le_refl, Nat.zero_le, true_or, or_true, zn_cl, ↓jj_Mo_unlikeIn]
      exact ⟨fun _ => this, fun z => absurd (by decide) z⟩
    | succ n ih =>
      intro i hi
      have ih := ih (i + 1) (by omega)
      rw [zs_some] at ih
      have v1 : vp_in (nI i) 100 := vp_in_nI (by omega) (by decide)
      have c1 := nI_clamp (show i < 2 ^ 31 by omega)
      have b1 := e2 i (by omega)
      have tl := tle i F.1
      refine zm_go g_Mo_unlikeIn [9] 30 (by decide +kernel) ok_Mo_unlikeIn _ rfl ?_
      simp only [↓zq, ↓reduceIte, zr_si2, zr_sr1, zr_cp2, zr_tl, zr_tn, shq, List.contains_nil, List.contains_cons, Nat.reduceBEq, Bool.false_or, Bool.or_false, Bool.true_or, Bool.false_eq_true, if_false, if_true, true_and, and_true, List.set_cons_zero, List.set_cons_succ, List.length_cons, List.length_nil, Nat.reduceAdd, Nat.reduceLeDiff, Nat.le_refl, Nat.zero_le, true_or, or_true, zn_cl, ↓jj_Mo_unlikeIn, q49, v1, c1, b1, nI_1]
      refine ⟨fun z => absurd z (by rw [show (99 : Int32) = nI 99 from rfl, zn_lt (by decide) (by omega)]; omega), fun _ => ?_⟩
      rw [show (0 : Int32) = nI 0 from rfl, zn_le (by omega) (by decide)]
      refine ⟨fun z => ?_, fun z => ?_⟩
      · rw [if_pos (by omega), Nat.add_zero] at ih
        exact ih
      · rw [if_neg (by omega)] at ih
        exact ih
  simp only [↓zq, ↓reduceIte, zr_si2, zr_sr1, zr_cp2, zr_tl, zr_tn, shq, List.contains_nil, List.contains_cons, Nat.reduceBEq, Bool.false_or, Bool.or_false, Bool.true_or, Bool.false_eq_true, if_false, if_true, true_and, and_true, List.set_cons_zero, List.set_cons_succ, List.length_cons, List.length_nil, Nat.reduceAdd, Nat.reduceLeDiff, Nat.le_refl, Nat.zero_le, true_or, or_true, zn_cl, ↓jj_Mo_unlikeIn]
  exact loop 100 0 rfl
set_option maxHeartbeats 4000000 in
set_option maxRecDepth 100000 in
theorem k_Mo_middleOf {d : Nat} {h : zm_M} {R : zm_R} {F : zs_F} {sp : Nat → Nat} {U : zs_U} {Q : zs_Q} {k : Nat} (hO : zO h F sp U Q) (hq : Q.1 = true) (hk5 : k < 512) (hc : h.1 155 k = nI (zs_cnt sp Q.2 F 0 F.1 k)) (hne : zs_cnt sp Q.2 F 0 F.1 k ≠ 0) (hR : ∀ h' : zm_M, zo_f1 165 h h' → R (some (.inl (nI (zs_md (fun m => zs_tm sp Q.2 F k m F.1) ((zs_cum (fun m => zs_tm sp Q.2 F k m F.1) 100 + 1) / 2))))) h') : zm_C (d + 4) TT m_Mo_middleOf [.inr (some 133), .inl (nI k)] h R := by
  obtain ⟨p42, p43, p44, p45, p46, p47, p48, p49⟩ := zp_m3 hO.1
  obtain ⟨p4, p5, p6, p7, p35, p37, p38, p39, p40⟩ := zp_m hO.1
  have hw1 := hO.2.1.2.1
  have hcum := zs_tm_cum sp Q.2 (F := F) (fun f hf => (zw_F_at hO.2.1.2 hf).2.2.2.1) k F.1 (Nat.le_refl _)
  have cle := zs_cnt_le sp Q.2 F 0 k F.1
  have tle : ∀ m n, zs_tm sp Q.2 F k m n ≤ n := by
    intro m n
    induction n with
    | zero => exact Nat.le_refl 0
    | succ n ih =>
      rw [zs_tm]
      split <;> omega
  have hv1 : vp_in (nI k) 512 := vp_in_nI hk5 (by decide)
  have hcl := nI_clamp (show k < 2 ^ 31 by omega)
  refine st_Mo_middleOf [18] 9 ?_
  simp only [↓zq, ↓reduceIte, zr_si2, zr_sr1, zr_cp2, zr_tl, zr_tn, shq, List.contains_nil, List.contains_cons, Nat.reduceBEq, Bool.false_or, Bool.or_false, Bool.true_or, Bool.false_eq_true, if_false, if_true, true_and, and_true, List.set_cons_zero, List.set_cons_succ, List.length_cons, List.length_nil, Nat.reduceAdd, Nat.reduceLeDiff, Nat.le_refl, Nat.zero_le, true_or, or_true, zn_cl, ↓jj_Mo_middleOf]
  refine k_Mo_timesOf hO hq hk5 (fun g e1 e2 => ?_)
  have q49 : g.2 133 49 = some 165 := by rw [e1.1]; exact p49
  have q38 : g.2 133 38 = some 155 := by rw [e1.1]; exact p38
  have gc : g.1 155 k = nI (zs_cnt sp Q.2 F 0 F.1 k) := by rw [e1.2 155 (by decide)]; exact hc
  have hRR := hR g e1
  rw [hcum] at hRR
  generalize zs_cnt sp Q.2 F 0 F.1 k = c at *
  generalize ht : (fun m => zs_tm sp Q.2 F k m F.1) = t at *
  have ht' : ∀ m, zs_tm sp Q.2 F k m F.1 = t m := fun m => by rw [← ht]
  have loop : ∀ (n m : Nat), m + n = 100 → zs_cum t m ≤ (c - 1) / 2 → zm_W (zm_md m_Mo_middleOf) (d + 4) TT R 18 [some (.inr (some 133)), some (.inl (nI k)), some (.inl (nI ((c - 1) / 2 - zs_cum t m))), some (.inl (nI m))] [] g := by
    intro n
    induction n with
    | zero =>
      intro m hm hle
      have : m = 100 := by omega
      subst this
      omega
    | succ n ih =>
      intro m hm hle
      have ih := ih (m + 1) (by omega)
      have hs : zs_cum t (m + 1) = zs_cum t m + t m := rfl
      have v1 : vp_in (nI m) 100 := vp_in_nI (by omega) (by decide)
      have c1 := nI_clamp (show m < 2 ^ 31 by omega)
      have b1 := e2 m (by omega)
      rw [ht'] at b1
      have tl := tle m F.1
      rw [ht'] at tl
      refine zm_go g_Mo_middleOf [18] 30 (by decide +kernel) ok_Mo_middleOf _ rfl ?_
      simp only [↓zq, ↓reduceIte, zr_si2, zr_sr1, zr_cp2, zr_tl, zr_tn, shq, List.contains_nil, List.contains_cons, Nat.reduceBEq, Bool.false_or, Bool.or_false, Bool.true_or, Bool.false_eq_true, if_false, if_true, true_and, and_true, List.set_cons_zero, List.set_cons_succ, List.length_cons, List.length_nil, Nat.reduceAdd, Nat.reduceLeDiff, Nat.le_refl, Nat.zero_le, true_or, or_true, zn_cl, ↓jj_Mo_middleOf, q49, v1, c1, b1, nI_1]
      rw [zn_lt (by omega) (by omega)]
      refine ⟨fun z => ?_, fun z => ?_⟩
      · rw [zs_md_eq (m := m) (by omega) (by omega) (by omega)] at hRR
        exact hRR
      · rw [pk_sub (by omega), show (c - 1) / 2 - zs_cum t m - t m = (c - 1) / 2 - zs_cum t (m + 1) by omega]
        exact ih (by omega)
  simp only [↓zq, ↓reduceIte, zr_si2, zr_sr1, zr_cp2, zr_tl, zr_tn, shq, List.contains_nil, List.contains_cons, Nat.reduceBEq, Bool.false_or, Bool.or_false, Bool.true_or, Bool.false_eq_true, if_false, if_true, true_and, and_true, List.set_cons_zero, List.set_cons_succ, List.length_cons, List.length_nil, Nat.reduceAdd, Nat.reduceLeDiff, Nat.le_refl, Nat.zero_le, true_or, or_true, zn_cl, ↓jj_Mo_middleOf, q38, hv1, hcl, gc]
  refine ⟨by decide, ?_⟩
  have := loop 100 0 rfl (Nat.zero_le _)
  rw [show zs_cum t 0 = 0 from rfl, Nat.sub_zero] at this
  obtain ⟨c', rfl⟩ : ∃ c', c = c' + 1 := ⟨c - 1, by omega⟩
  rw [show nI (c' + 1) - 1 = nI c' from nI_pred c', show (2 : Int32) = nI 2 from rfl, pk_div (by omega) (by decide) (by decide)]
  exact this
/-- what is put down: the keys that are there in order, their values -/
def zo_A (I : Nat → Nat → Int32) (tab : zs_tb) (sg : Nat → Nat) (w m : Nat) : Prop := I 133 41 = nI (zs_some (fun k => (tab k).1) m) ∧ ∀ k, k < m → (tab k).1 ≠ 0 → I 158 (zs_some (fun k => (tab k).1) k) = nI k ∧ I 159 (zs_some (fun k => (tab k).1) k) = nI (zs_val tab sg w k)
/-- the table as the answer wants it: what is singled is that of the facts where it is asked -/
def zo_sg (tab : zs_tb) (sp q : Nat → Nat) (F : zs_F) : Prop := 5 ≤ q 6 → ∀ k, (tab k).1 = zs_cnt sp q F 0 F.1 k
set_option maxHeartbeats 4000000 in
set_option maxRecDepth 100000 in
theorem k_Mo_whatAt {d : Nat} {h : zm_M} {R : zm_R} {F : zs_F} {sp : Nat → Nat} {U : zs_U} {Q : zs_Q} {k B : Nat} {tab : zs_tb} (hO : zO h F sp U Q) (hq : Q.1 = true) (hT : zo_T h.1 tab) (hw : zw_T B tab) (hB : B < 2 ^ 20) (hsg : zo_sg tab sp Q.2 F) (hk5 : k < 512) (hne : (tab k).1 ≠ 0) (hR : ∀ h' : zm_M, zo_f1 165 h h' → R (some (.inl (nI (zs_val tab (zs_sg sp Q.2 F) (Q.2 6) k)))) h') : zm_C (d + 5) TT m_Mo_whatAt [.inr (some 133), .inl (nI k)] h R := by
  obtain ⟨o1, ⟨o2, o2w⟩, ⟨o3, o3w⟩, ⟨o4, o4w⟩, o5, o6⟩ := id hO
  obtain ⟨p4, p5, p6, p7, p35, p37, p38, p39, p40⟩ := zp_m o1
  obtain ⟨wq, wq2⟩ := o6 hq
  have q6 := o5.2 hq 6 (by decide)
  obtain ⟨t1, t2, -⟩ := hT k hk5
  obtain ⟨t2, t3, t4⟩ := t2 hne
  obtain ⟨w1, w2, w3, w4⟩ := hw k
  have hv1 : vp_in (nI k) 512 := vp_in_nI hk5 (by decide)
  have hcl := nI_clamp (show k < 2 ^ 31 by omega)
  have v6 : vp_in (6 : Int32) 7 := zn_v
  have rf : zo_f1 165 h h := ⟨rfl, fun _ _ => rfl⟩
  refine st_Mo_whatAt [] 9 ?_
  have hR0 := hR h rf
  generalize hw6 : Q.2 6 = w at *
  simp only [↓zq, ↓reduceIte, zr_si2, zr_sr1, zr_cp2, zr_tl, zr_tn, shq, List.contains_nil, List.contains_cons, Nat.reduceBEq, Bool.false_or, Bool.or_false, Bool.true_or, Bool.false_eq_true, if_false, if_true, true_and, and_true, List.set_cons_zero, List.set_cons_succ, List.length_cons, List.length_nil, Nat.reduceAdd, Nat.reduceLeDiff, Nat.le_refl, Nat.zero_le, true_or, or_true, zn_cl, ↓jj_Mo_whatAt, p35, v6, q6, p37, p38, hv1, hcl, t1, t2]
  have part : w ≤ 3 → zm_C (d + 4) TT m_Mo_partAt [.inr (some 133), .inl (nI k), .inl (nI w)] h (fun w' h' => (w' = some (.inl (nI (zs_val tab (zs_sg sp Q.2 F) w k))) ∧ h' = h)) := fun h3 => k_Mo_partAt (sg := zs_sg sp Q.2 F) o1 hT hk5 h3 hne ⟨rfl, rfl⟩
  rcases (show w = 4 ∨ w = 5 ∨ w = 6 ∨ w ≤ 3 by omega) with rfl | rfl | rfl | h3
  · refine ⟨fun _ => ⟨?_, ?_⟩, fun z => absurd rfl z⟩
    · rw [zn_z (by omega)]
      exact hne
    · rw [pk_div (by omega) (by omega) (by omega)]
      unfold zs_val at hR0
      rw [if_neg hne] at hR0
      exact hR0
  · refine ⟨fun z => absurd z (by decide), fun _ => ⟨fun _ => ?_, fun z => absurd rfl z⟩⟩
    refine k_Mo_unlikeIn hO hq hk5 (fun g e1 => ?_)
    simp only [↓zq, ↓reduceIte, zr_si2, zr_sr1, zr_cp2, zr_tl, zr_tn, shq, List.contains_nil, List.contains_cons, Nat.reduceBEq, Bool.false_or, Bool.or_false, Bool.true_or, Bool.false_eq_true, if_false, if_true, true_and, and_true, List.set_cons_zero, List.set_cons_succ, List.length_cons, List.length_nil, Nat.reduceAdd, Nat.reduceLeDiff, Nat.le_refl, Nat.zero_le, true_or, or_true, zn_cl, ↓jj_Mo_whatAt]
    have := hR g e1
    unfold zs_val at this
    rw [if_neg hne] at this
    simp only [zs_sg, hw6, if_true] at this
    exact this
  · refine ⟨fun z => absurd z (by decide), fun _ => ⟨fun z => absurd z (by decide), fun _ => ⟨fun _ => ?_, fun z => absurd rfl z⟩⟩⟩
    have hcn := hsg (by omega) k
    refine k_Mo_middleOf hO hq hk5 (by rw [← hcn]; exact t1) (by rw [← hcn]; exact hne) (fun g e1 => ?_)
    simp only [↓zq, ↓reduceIte, zr_si2, zr_sr1, zr_cp2, zr_tl, zr_tn, shq, List.contains_nil, List.contains_cons, Nat.reduceBEq, Bool.false_or, Bool.or_false, Bool.true_or, Bool.false_eq_true, if_false, if_true, true_and, and_true, List.set_cons_zero, List.set_cons_succ, List.length_cons, List.length_nil, Nat.reduceAdd, Nat.reduceLeDiff, Nat.le_refl, Nat.zero_le, true_or, or_true, zn_cl, ↓jj_Mo_whatAt]
    have := hR g e1
    unfold zs_val at this
    rw [if_neg hne] at this
    simp only [zs_sg, hw6] at this
    exact this
  · have e4 : ¬ nI w = 4 := by rw [show (4 : Int32) = nI 4 from rfl, zn_eq (by omega) (by decide)]; omega
    have e5 : ¬ nI w = 5 := by rw [show (5 : Int32) = nI 5 from rfl, zn_eq (by omega) (by decide)]; omega
    have e6 : ¬ nI w = 6 := by rw [show (6 : Int32) = nI 6 from rfl, zn_eq (by omega) (by decide)]; omega
    refine ⟨fun z => absurd z e4, fun _ => ⟨fun z => absurd z e5, fun _ => ⟨fun z => absurd z e6, fun _ => ?_⟩⟩⟩
    refine k_Mo_partAt (sg := zs_sg sp Q.2 F) o1 hT hk5 h3 hne ?_
    simp only [↓zq, ↓reduceIte, zr_si2, zr_sr1, zr_cp2, zr_tl, zr_tn, shq, List.contains_nil, List.contains_cons, Nat.reduceBEq, Bool.false_or, Bool.or_false, Bool.true_or, Bool.false_eq_true, if_false, if_true, true_and, and_true, List.set_cons_zero, List.set_cons_succ, List.length_cons, List.length_nil, Nat.reduceAdd, Nat.reduceLeDiff, Nat.le_refl, Nat.zero_le, true_or, or_true, zn_cl, ↓jj_Mo_whatAt]
    exact hR0
/-- putsDown changes these alone -/
def zo_fp (h h' : zm_M) : Prop := h'.2 = h.2 ∧ (∀ c, c ≠ 133 → c ≠ 158 → c ≠ 159 → c ≠ 165 → h'.1 c = h.1 c) ∧ ∀ j, j ≠ 41 → h'.1 133 j = h.1 133 j
theorem zo_fp.fr {h h' : zm_M} (e : zo_fp h h') : zo_fr h h' := ⟨e.1, fun a ha => e.2.1 a (by unfold zo_keep at ha; omega) (by unfold zo_keep at ha; omega) (by unfold zo_keep at ha; omega) (by unfold zo_keep at ha; omega), fun k hk => e.2.2 k (by unfold zo_ks at hk; omega)⟩
theorem zo_T_c {I J : Nat → Nat → Int32} {tab : zs_tb} (h : zo_T I tab) (e4 : J 154 = I 154) (e5 : J 155 = I 155) (e6 : J 156 = I 156) (e7 : J 157 = I 157) : zo_T J tab := by
  unfold zo_T
  rw [e4, e5, e6, e7]
  exact h
set_option maxHeartbeats 4000000 in
set_option maxRecDepth 100000 in
theorem k_Mo_putsDown {d : Nat} {h : zm_M} {R : zm_R} {F : zs_F} {sp : Nat → Nat} {U : zs_U} {Q : zs_Q} {B : Nat} {tab : zs_tb} (hO : zO h F sp U Q) (hq : Q.1 = true) (hT : zo_T h.1 tab) (hw : zw_T B tab) (hB : B < 2 ^ 20) (hsg : zo_sg tab sp Q.2 F) (hR : ∀ h' : zm_M, zo_fp h h' → zo_A h'.1 tab (zs_sg sp Q.2 F) (Q.2 6) 512 → R none h') : zm_C (d + 6) TT m_Mo_putsDown [.inr (some 133)] h R := by
  obtain ⟨p4, p5, p6, p7, p35, p37, p38, p39, p40⟩ := zp_m hO.1
  obtain ⟨p42, p43, p44, p45, p46, p47, p48, p49⟩ := zp_m3 hO.1
  have sle := zs_some_le (fun k => (tab k).1)
  have loop : ∀ (n k : Nat), k + n = 512 → ∀ g : zm_M, zo_fp h g → zo_A g.1 tab (zs_sg sp Q.2 F) (Q.2 6) k → zm_W (zm_md m_Mo_putsDown) (d + 6) TT R 7 [some (.inr (some 133)), some (.inl (nI k))] [] g := by
    intro n
    induction n with
    | zero =>
      intro k hk g e1 e2
      have : k = 512 := by omega
      subst this
      refine zm_go g_Mo_putsDown [7] 30 (by decide +kernel) ok_Mo_putsDown _ rfl ?_
      simp only [↓zq, ↓reduceIte, zr_si2, zr_sr1, zr_cp2, zr_tl, zr_tn, shq, List.contains_nil, List.contains_cons, Nat.reduceBEq, Bool.false_or, Bool.or_false, Bool.true_or, Bool.false_eq_true, if_false, if_true, true_and, and_true, List.set_cons_zero, List.set_cons_succ, List.length_cons, List.length_nil, Nat.reduceAdd, Nat.reduceLeDiff, Nat.le_refl, Nat.zero_le, true_or, or_true, zn_cl, ↓jj_Mo_putsDown]
      exact ⟨fun _ => hR g e1 e2, fun z => absurd (Int32.le_refl _) z⟩
    | succ n ih =>
      intro k hk g e1 e2
      have ih := ih (k + 1) (by omega)
      have hk5 : k < 512 := by omega
      have gO := zO_fr e1.fr hO
      have gT : zo_T g.1 tab := zo_T_c hT (e1.2.1 _ (by decide) (by decide) (by decide) (by decide)) (e1.2.1 _ (by decide) (by decide) (by decide) (by decide)) (e1.2.1 _ (by decide) (by decide) (by decide) (by decide)) (e1.2.1 _ (by decide) (by decide) (by decide) (by decide))
      have q38 : g.2 133 38 = some 155 := by rw [e1.1]; exact p38
      have q42 : g.2 133 42 = some 158 := by rw [e1.1]; exact p42
      have q43 : g.2 133 43 = some 159 := by rw [e1.1]; exact p43
      have hv1 : vp_in (nI k) 512 := vp_in_nI hk5 (by decide)
      have hcl := nI_clamp (show k < 2 ^ 31 by omega)
      have t1 := (gT k hk5).1
      have hb := (hw k).1
      have sk := sle k
      have m1 := e2.1
      have v2 : vp_in (nI (zs_some (fun k => (tab k).1) k)) 512 := vp_in_nI (by omega) (by decide)
      have c2 := nI_clamp (show zs_some (fun k => (tab k).1) k < 2 ^ 31 by omega)
      generalize hsk : zs_some (fun k => (tab k).1) k = s at *
      refine zm_go g_Mo_putsDown [7] 30 (by decide +kernel) ok_Mo_putsDown _ rfl ?_
      simp only [↓zq, ↓reduceIte, zr_si2, zr_sr1, zr_cp2, zr_tl, zr_tn, shq, List.contains_nil, List.contains_cons, Nat.reduceBEq, Bool.false_or, Bool.or_false, Bool.true_or, Bool.false_eq_true, if_false, if_true, true_and, and_true, List.set_cons_zero, List.set_cons_succ, List.length_cons, List.length_nil, Nat.reduceAdd, Nat.reduceLeDiff, Nat.le_refl, Nat.zero_le, true_or, or_true, zn_cl, ↓jj_Mo_putsDown, q38, q42, q43, hv1, hcl, t1, m1, v2, c2, nI_1]
      rw [zn_z (by omega)]
      refine ⟨fun z => absurd z (nI_ge (b := 512) hk5 (by decide)), fun _ => ⟨fun e => ?_, fun e => ?_⟩⟩
      · have x1 : ∀ c, c ≠ 158 → (zm_si g 158 s (nI k)).1 c = g.1 c := fun c hc => by
          funext j
          simp only [zr_si1]
          rw [if_neg (by omega)]
        have f1 : zo_fr g (zm_si g 158 s (nI k)) := zo_fr.of rfl (fun a ha => x1 a (by omega))
        rw [x1 133 (by decide), m1]
        refine k_Mo_whatAt (tab := tab) (zO_fr f1 gO) hq (zo_T_c gT (x1 _ (by decide)) (x1 _ (by decide)) (x1 _ (by decide)) (x1 _ (by decide))) hw hB hsg hk5 e (fun g2 e3 => ?_)
        have x3 : ∀ j, g2.1 133 j = g.1 133 j := fun j => by rw [e3.2 133 (by decide), x1 133 (by decide)]
        have m3 : g2.1 133 41 = nI s := by rw [x3]; exact m1
        simp only [↓zq, ↓reduceIte, zr_si2, zr_sr1, zr_cp2, zr_tl, zr_tn, shq, List.contains_nil, List.contains_cons, Nat.reduceBEq, Bool.false_or, Bool.or_false, Bool.true_or, Bool.false_eq_true, if_false, if_true, true_and, and_true, List.set_cons_zero, List.set_cons_succ, List.length_cons, List.length_nil, Nat.reduceAdd, Nat.reduceLeDiff, Nat.le_refl, Nat.zero_le, true_or, or_true, zn_cl, ↓jj_Mo_putsDown, v2, c2]
        simp only [zr_si1, show ¬ (133 : Nat) = 159 by decide, false_and, if_false, m3]
        rw [show nI s + 1 = nI (s + 1) from nI_1 s, show nI k + 1 = nI (k + 1) from nI_1 k]
        refine ih _ ⟨(by rw [show (zm_si (zm_si g2 159 s (nI (zs_val tab (zs_sg sp Q.2 F) (Q.2 6) k))) 133 41 (nI (s + 1))).2 = g2.2 from rfl, e3.1]; exact e1.1), fun c a1 a2 a3 a4 => ?_, fun j hj => ?_⟩ ⟨?_, fun j hj hn => ?_⟩
        · funext q
          simp only [zr_si1]
          rw [if_neg (by omega), if_neg (by omega), e3.2 c a4, x1 c a2, e1.2.1 c a1 a2 a3 a4]
        · simp only [zr_si1]
          rw [if_neg (by omega), if_neg (by omega), x3, e1.2.2 j hj]
        · simp only [zr_si1]
          rw [if_pos ⟨trivial, trivial⟩, zs_some, if_neg e, hsk]
        · simp only [zr_si1]
          by_cases ej : j = k
          · subst ej
            rw [hsk, if_neg (by omega), if_neg (by omega), if_neg (by omega), if_pos ⟨trivial, rfl⟩, e3.2 158 (by decide)]
            simp only [zr_si1, and_self, if_true]
          · obtain ⟨y1, y2⟩ := e2.2 j (by omega) hn
            have lt : zs_some (fun k => (tab k).1) j < s := by
              have a1 := zs_some_app (fun k => (tab k).1) (j + 1) (k - (j + 1))
              rw [show j + 1 + (k - (j + 1)) = k by omega, hsk, zs_some, if_neg hn] at a1
              omega
            rw [if_neg (by omega), if_neg (by omega), if_neg (by omega), if_neg (by omega), e3.2 158 (by decide), e3.2 159 (by decide)]
            simp only [zr_si1]
            rw [if_neg (by omega), if_neg (by omega)]
            exact ⟨y1, y2⟩
      · refine ih g e1 ⟨?_, fun j hj hn => ?_⟩
        · rw [zs_some, if_pos e, hsk]
          exact m1
        · by_cases ej : j = k
          · rw [ej] at hn
            exact absurd e hn
          · exact e2.2 j (by omega) hn
  refine st_Mo_putsDown [7] 9 ?_
  simp only [↓zq, ↓reduceIte, zr_si2, zr_sr1, zr_cp2, zr_tl, zr_tn, shq, List.contains_nil, List.contains_cons, Nat.reduceBEq, Bool.false_or, Bool.or_false, Bool.true_or, Bool.false_eq_true, if_false, if_true, true_and, and_true, List.set_cons_zero, List.set_cons_succ, List.length_cons, List.length_nil, Nat.reduceAdd, Nat.reduceLeDiff, Nat.le_refl, Nat.zero_le, true_or, or_true, zn_cl, ↓jj_Mo_putsDown]
  refine loop 512 0 rfl (zm_si h 133 41 0) ⟨rfl, fun c a1 a2 a3 a4 => ?_, fun j hj => ?_⟩ ⟨?_, fun j hj => absurd hj (Nat.not_lt_zero j)⟩
  · funext q
    simp only [zr_si1]
    rw [if_neg (by omega)]
  · simp only [zr_si1]
    rw [if_neg (by omega)]
  · simp [zr_si1, zs_some]
    rfl
