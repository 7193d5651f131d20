/-! public methods of the lattice, both -/
theorem zi_c : Int32.toInt 0 = 0 ∧ Int32.toInt 1 = 1 ∧ Int32.toInt 2 = 2 ∧ Int32.toInt 3 = 3 ∧ Int32.toInt 4 = 4 ∧ Int32.toInt 5 = 5 ∧ Int32.toInt 6 = 6 ∧ Int32.toInt 7 = 7 ∧ Int32.toInt 8 = 8 ∧ Int32.toInt 9 = 9 ∧ Int32.toInt 10 = 10 ∧ Int32.toInt 12 = 12 ∧ Int32.toInt 13 = 13 ∧ Int32.toInt 15 = 15 ∧ Int32.toInt 16 = 16 ∧ Int32.toInt 26 = 26 ∧ Int32.toInt 27 = 27 ∧ Int32.toInt 60 = 60 ∧ Int32.toInt 61 = 61 ∧ Int32.toInt 80 = 80 ∧ Int32.toInt 99 = 99 ∧ Int32.toInt 100 = 100 ∧ Int32.toInt 240 = 240 ∧ Int32.toInt 65535 = 65535 ∧ Int32.toInt 65536 = 65536 ∧ Int32.toInt 134217727 = 134217727 ∧ Int32.toInt 134217728 = 134217728 ∧ Int32.toInt (-1) = -1 ∧ Int32.toInt (-2) = -2 ∧ Int32.toInt (-3) = -3 := by decide
def zs_ix (x : Int32) (m : Nat) : Option Nat := if x < 0 ∨ nI m ≤ x then none else some x.toNatClampNeg
theorem zs_ix_of {j m : Nat} (hj : j < m) (hm : m < 2 ^ 31) : zs_ix (nI j) m = some j := by
  unfold zs_ix
  rw [if_neg, nI_clamp (by omega)]
  rintro (h | h)
  · exact nI_pos (by omega) h
  · exact nI_ge hj hm h
theorem zs_ix_no {x : Int32} {m : Nat} (h : x < 0 ∨ nI m ≤ x) : zs_ix x m = none := if_pos h
theorem zs_cas (x : Int32) (m : Nat) (hm : m < 2 ^ 31) : (∃ j, j < m ∧ x = nI j) ∨ (x < 0 ∨ nI m ≤ x) := by
  by_cases h : x < 0 ∨ nI m ≤ x
  · exact Or.inr h
  · obtain ⟨j, hj, e⟩ := zn_of (n := m) (m := nI m) (fun z => h (Or.inl z)) (fun z => h (Or.inr z)) rfl hm
    exact Or.inl ⟨j, hj, e⟩
def A_node (F : zs_F) (sp : Nat → Nat) (x : Int32) : Int32 := match zs_ix x 27 with
  | some nd => nI (zs_gn sp F nd)
  | none => -1
def A_below (x y : Int32) : Int32 := match zs_ix x 27, zs_ix y 27 with
  | some a, some b => if zs_blw a b = true then 1 else 0
  | _, _ => -1
def A_price (F : zs_F) (sp : Nat → Nat) (x : Int32) : Int32 := match zs_ix x 134217728 with
  | some v => nI (zs_prc (zs_gn sp F) F.1 v)
  | none => -1
def A_greedy (F : zs_F) (sp : Nat → Nat) (x y : Int32) : Int32 := match zs_ix x 7 with
  | some (k + 1) => if y = 0 then nI (zs_prc (zs_gn sp F) F.1 (zs_gs (zs_gn sp F) F.1 (k + 1))) else match zs_ix y 16 with
    | some w => if 10 ≤ w ∧ w < 10 + (k + 1) then nI (zs_gp (zs_gn sp F) F.1 (zs_gs (zs_gn sp F) F.1 (w - 10))).1 else -1
    | none => -1
  | _ => -1
def A_best (F : zs_F) (sp : Nat → Nat) (x y : Int32) : Int32 := match zs_ix x 3, zs_ix y 3 with
  | some 1, some 0 => nI (zs_gp (zs_gn sp F) F.1 0).2
  | some 1, some 1 => nI (zs_gp (zs_gn sp F) F.1 0).1
  | some 1, some _ => -2
  | some 2, some 0 => nI ((zs_bo (zs_gn sp F) F.1 27).getD (0, 0, 0)).2.2
  | some 2, some 1 => nI ((zs_bo (zs_gn sp F) F.1 27).getD (0, 0, 0)).1
  | some 2, some _ => nI ((zs_bo (zs_gn sp F) F.1 27).getD (0, 0, 0)).2.1
  | _, _ => -1
theorem zc_fr.lat {h h' : zm_M} (e1 : h'.2 = h.2) (e2 : ∀ c, c ≠ 91 → c ≠ 92 → c ≠ 94 → c ≠ 95 → c ≠ 96 → c ≠ 97 → c ≠ 98 → h'.1 c = h.1 c) : zc_fr h h' := ⟨e1, fun a ha => by
  unfold zc_sc at ha
  exact e2 a (by omega) (by omega) (by omega) (by omega) (by omega) (by omega) (by omega)⟩
theorem zC_p {h : zm_M} {pi : Nat → Nat} {F : zs_F} {sp : Nat → Nat} {U : zs_U} {Q : zs_Q} (hC : zC h pi F sp U Q) : h.2 0 0 = some 1 ∧ h.2 0 1 = some 3 ∧ h.2 0 2 = some 13 ∧ h.2 0 4 = some 28 ∧ h.2 0 5 = some 30 ∧ h.2 0 6 = some 36 ∧ h.2 0 7 = some 70 ∧ h.2 0 9 = some 73 ∧ h.2 0 10 = some 79 ∧ h.2 0 11 = some 85 ∧ h.2 0 12 = some 91 ∧ h.2 0 14 = some 99 := by
  have c1 := hC.1
  refine ⟨?_, ?_, ?_, ?_, ?_, ?_, ?_, ?_, ?_, ?_, ?_, ?_⟩ <;> simp only [c1]
set_option maxHeartbeats 4000000 in
set_option maxRecDepth 100000 in
theorem k_KS_node {d : Nat} {h : zm_M} {R : zm_R} {pi : Nat → Nat} {F : zs_F} {sp : Nat → Nat} {U : zs_U} {Q : zs_Q} {x : Int32} (hC : zC h pi F sp U Q) (hR : ∀ h' : zm_M, zc_fr h h' → R (some (.inl (A_node F sp x))) h') : zm_C (d + 5) TT m_KS_node [.inr (some 0), .inl x] h R := by
  obtain ⟨p0, p1, p2, p4, p5, p6, p7, p9, p10, p11, p12, p14⟩ := zC_p hC
  obtain ⟨c1, c2, ⟨c3, c3w⟩, ⟨c4, c4w⟩, ⟨c7, c8⟩, c9, c10⟩ := id hC
  refine st_KS_node [] 9 ?_
  simp only [↓zq, ↓reduceIte, zr_si2, zr_sr1, zr_cp2, zr_tl, zr_tn, shq, List.contains_nil, List.contains_cons, Nat.reduceBEq, Bool.false_or, Bool.or_false, Bool.true_or, Bool.false_eq_true, if_false, if_true, true_and, and_true, List.set_cons_zero, List.set_cons_succ, List.length_cons, List.length_nil, Nat.reduceAdd, Nat.reduceLeDiff, Nat.le_refl, Nat.zero_le, true_or, or_true, zn_cl, ↓jj_KS_node]
  refine k_KS_isNode (fun j hj e => ?_) (fun e => ?_)
  · subst e
    simp only [↓zq, ↓reduceIte, zr_si2, zr_sr1, zr_cp2, zr_tl, zr_tn, shq, List.contains_nil, List.contains_cons, Nat.reduceBEq, Bool.false_or, Bool.or_false, Bool.true_or, Bool.false_eq_true, if_false, if_true, true_and, and_true, List.set_cons_zero, List.set_cons_succ, List.length_cons, List.length_nil, Nat.reduceAdd, Nat.reduceLeDiff, Nat.le_refl, Nat.zero_le, true_or, or_true, zn_cl, ↓jj_KS_node, p4, p5, p12]
    refine ⟨fun _ => ?_, fun z => absurd z (by decide)⟩
    refine k_Latt_recount (F := F) (sp := sp) c1 c3 c3w c4 c4w (fun g e1 e2 e3 e4 => ?_)
    have q12 : g.2 0 12 = some 91 := by rw [e1]; exact p12
    simp only [↓zq, ↓reduceIte, zr_si2, zr_sr1, zr_cp2, zr_tl, zr_tn, shq, List.contains_nil, List.contains_cons, Nat.reduceBEq, Bool.false_or, Bool.or_false, Bool.true_or, Bool.false_eq_true, if_false, if_true, true_and, and_true, List.set_cons_zero, List.set_cons_succ, List.length_cons, List.length_nil, Nat.reduceAdd, Nat.reduceLeDiff, Nat.le_refl, Nat.zero_le, true_or, or_true, zn_cl, ↓jj_KS_node, q12]
    refine k_Latt_groupsOf (by rw [e1]; exact c1) hj ?_
    rw [e4 j hj]
    simp only [↓zq, ↓reduceIte, zr_si2, zr_sr1, zr_cp2, zr_tl, zr_tn, shq, List.contains_nil, List.contains_cons, Nat.reduceBEq, Bool.false_or, Bool.or_false, Bool.true_or, Bool.false_eq_true, if_false, if_true, true_and, and_true, List.set_cons_zero, List.set_cons_succ, List.length_cons, List.length_nil, Nat.reduceAdd, Nat.reduceLeDiff, Nat.le_refl, Nat.zero_le, true_or, or_true, zn_cl, ↓jj_KS_node]
    have := hR g (zc_fr.lat e1 (fun c a1 a2 a3 a4 a5 a6 a7 => e2 c a1 a2 a5 a6 a7))
    unfold A_node at this
    rw [zs_ix_of hj (by decide)] at this
    exact this
  · simp only [↓zq, ↓reduceIte, zr_si2, zr_sr1, zr_cp2, zr_tl, zr_tn, shq, List.contains_nil, List.contains_cons, Nat.reduceBEq, Bool.false_or, Bool.or_false, Bool.true_or, Bool.false_eq_true, if_false, if_true, true_and, and_true, List.set_cons_zero, List.set_cons_succ, List.length_cons, List.length_nil, Nat.reduceAdd, Nat.reduceLeDiff, Nat.le_refl, Nat.zero_le, true_or, or_true, zn_cl, ↓jj_KS_node]
    refine ⟨fun z => absurd trivial z, fun _ => ?_⟩
    have := hR h (zc_fr.rf h)
    unfold A_node at this
    rw [zs_ix_no e] at this
    exact this
set_option maxHeartbeats 4000000 in
set_option maxRecDepth 100000 in
theorem k_KS_below {d : Nat} {h : zm_M} {R : zm_R} {pi : Nat → Nat} {F : zs_F} {sp : Nat → Nat} {U : zs_U} {Q : zs_Q} {x y : Int32} (hC : zC h pi F sp U Q) (hN : zc_N h.1) (hR : R (some (.inl (A_below x y))) h) : zm_C (d + 5) TT m_KS_below [.inr (some 0), .inl x, .inl y] h R := by
  obtain ⟨p0, p1, p2, p4, p5, p6, p7, p9, p10, p11, p12, p14⟩ := zC_p hC
  refine st_KS_below [] 9 ?_
  unfold A_below at hR
  simp only [↓zq, ↓reduceIte, zr_si2, zr_sr1, zr_cp2, zr_tl, zr_tn, shq, List.contains_nil, List.contains_cons, Nat.reduceBEq, Bool.false_or, Bool.or_false, Bool.true_or, Bool.false_eq_true, if_false, if_true, true_and, and_true, List.set_cons_zero, List.set_cons_succ, List.length_cons, List.length_nil, Nat.reduceAdd, Nat.reduceLeDiff, Nat.le_refl, Nat.zero_le, true_or, or_true, zn_cl, ↓jj_KS_below]
  refine k_KS_isNode (fun i hi e => ?_) (fun e => ?_)
  · subst e
    rw [zs_ix_of hi (by decide)] at hR
    simp only [↓zq, ↓reduceIte, zr_si2, zr_sr1, zr_cp2, zr_tl, zr_tn, shq, List.contains_nil, List.contains_cons, Nat.reduceBEq, Bool.false_or, Bool.or_false, Bool.true_or, Bool.false_eq_true, if_false, if_true, true_and, and_true, List.set_cons_zero, List.set_cons_succ, List.length_cons, List.length_nil, Nat.reduceAdd, Nat.reduceLeDiff, Nat.le_refl, Nat.zero_le, true_or, or_true, zn_cl, ↓jj_KS_below]
    refine ⟨fun z => absurd z (by decide), fun _ => ?_⟩
    refine k_KS_isNode (fun j hj e => ?_) (fun e => ?_)
    · subst e
      rw [zs_ix_of hj (by decide)] at hR
      simp only [↓zq, ↓reduceIte, zr_si2, zr_sr1, zr_cp2, zr_tl, zr_tn, shq, List.contains_nil, List.contains_cons, Nat.reduceBEq, Bool.false_or, Bool.or_false, Bool.true_or, Bool.false_eq_true, if_false, if_true, true_and, and_true, List.set_cons_zero, List.set_cons_succ, List.length_cons, List.length_nil, Nat.reduceAdd, Nat.reduceLeDiff, Nat.le_refl, Nat.zero_le, true_or, or_true, zn_cl, ↓jj_KS_below, p12]
      refine ⟨fun _ => ?_, fun z => absurd z (by decide)⟩
      refine k_Latt_isBelow hC.1 hN hi hj ?_
      simp only [] at hR
      simp only [↓zq, ↓reduceIte, zr_si2, zr_sr1, zr_cp2, zr_tl, zr_tn, shq, List.contains_nil, List.contains_cons, Nat.reduceBEq, Bool.false_or, Bool.or_false, Bool.true_or, Bool.false_eq_true, if_false, if_true, true_and, and_true, List.set_cons_zero, List.set_cons_succ, List.length_cons, List.length_nil, Nat.reduceAdd, Nat.reduceLeDiff, Nat.le_refl, Nat.zero_le, true_or, or_true, zn_cl, ↓jj_KS_below, p12]
      cases e : zs_blw i j
      · rw [e] at hR
        simp only [Bool.false_eq_true, if_false] at hR ⊢
        exact ⟨fun _ => hR, fun z => absurd trivial z⟩
      · rw [e] at hR
        simp only [if_true] at hR ⊢
        exact ⟨fun z => absurd z (by decide), fun _ => hR⟩
    · rw [zs_ix_no e] at hR
      simp only [↓zq, ↓reduceIte, zr_si2, zr_sr1, zr_cp2, zr_tl, zr_tn, shq, List.contains_nil, List.contains_cons, Nat.reduceBEq, Bool.false_or, Bool.or_false, Bool.true_or, Bool.false_eq_true, if_false, if_true, true_and, and_true, List.set_cons_zero, List.set_cons_succ, List.length_cons, List.length_nil, Nat.reduceAdd, Nat.reduceLeDiff, Nat.le_refl, Nat.zero_le, true_or, or_true, zn_cl, ↓jj_KS_below, p12]
      exact ⟨fun z => absurd trivial z, fun _ => hR⟩
  · rw [zs_ix_no e] at hR
    simp only [↓zq, ↓reduceIte, zr_si2, zr_sr1, zr_cp2, zr_tl, zr_tn, shq, List.contains_nil, List.contains_cons, Nat.reduceBEq, Bool.false_or, Bool.or_false, Bool.true_or, Bool.false_eq_true, if_false, if_true, true_and, and_true, List.set_cons_zero, List.set_cons_succ, List.length_cons, List.length_nil, Nat.reduceAdd, Nat.reduceLeDiff, Nat.le_refl, Nat.zero_le, true_or, or_true, zn_cl, ↓jj_KS_below, p12]
    exact ⟨fun _ => hR, fun z => absurd trivial z⟩
set_option maxHeartbeats 4000000 in
set_option maxRecDepth 100000 in
theorem k_KS_price {d : Nat} {h : zm_M} {R : zm_R} {pi : Nat → Nat} {F : zs_F} {sp : Nat → Nat} {U : zs_U} {Q : zs_Q} {x : Int32} (hC : zC h pi F sp U Q) (hN : zc_N h.1) (hR : ∀ h' : zm_M, zc_fr h h' → R (some (.inl (A_price F sp x))) h') : zm_C (d + 5) TT m_KS_price [.inr (some 0), .inl x] h R := by
  obtain ⟨p0, p1, p2, p4, p5, p6, p7, p9, p10, p11, p12, p14⟩ := zC_p hC
  obtain ⟨c1, c2, ⟨c3, c3w⟩, ⟨c4, c4w⟩, ⟨c7, c8⟩, c9, c10⟩ := id hC
  have hw1 := c3w.1
  refine st_KS_price [] 9 ?_
  unfold A_price at hR
  rcases zs_cas x 134217728 (by decide) with ⟨j, hj, rfl⟩ | e
  · rw [zs_ix_of hj (by decide)] at hR
    simp only [↓zq, ↓reduceIte, zr_si2, zr_sr1, zr_cp2, zr_tl, zr_tn, shq, List.contains_nil, List.contains_cons, Nat.reduceBEq, Bool.false_or, Bool.or_false, Bool.true_or, Bool.false_eq_true, if_false, if_true, true_and, and_true, List.set_cons_zero, List.set_cons_succ, List.length_cons, List.length_nil, Nat.reduceAdd, Nat.reduceLeDiff, Nat.le_refl, Nat.zero_le, true_or, or_true, zn_cl, ↓jj_KS_price, p4, p5, p12]
    refine ⟨fun z => absurd z (nI_pos (by omega)), fun _ => ⟨fun _ => ?_, fun z => absurd (nI_le (b := 134217727) (by omega) (by decide)) z⟩⟩
    refine k_Latt_recount (F := F) (sp := sp) c1 c3 c3w c4 c4w (fun g e1 e2 e3 e4 => ?_)
    have q12 : g.2 0 12 = some 91 := by rw [e1]; exact p12
    simp only [↓zq, ↓reduceIte, zr_si2, zr_sr1, zr_cp2, zr_tl, zr_tn, shq, List.contains_nil, List.contains_cons, Nat.reduceBEq, Bool.false_or, Bool.or_false, Bool.true_or, Bool.false_eq_true, if_false, if_true, true_and, and_true, List.set_cons_zero, List.set_cons_succ, List.length_cons, List.length_nil, Nat.reduceAdd, Nat.reduceLeDiff, Nat.le_refl, Nat.zero_le, true_or, or_true, zn_cl, ↓jj_KS_price, q12]
    refine k_Latt_priceOf (G := zs_gn sp F) (n := F.1) (by rw [e1]; exact c1) (fun ot ho => by rw [e2 93 (by decide) (by decide) (by decide) (by decide) (by decide)]; exact hN ot ho) (by omega) e3 (by omega) e4 (zs_gn_le sp F) (fun g' f1 f2 => ?_)
    simp only [↓zq, ↓reduceIte, zr_si2, zr_sr1, zr_cp2, zr_tl, zr_tn, shq, List.contains_nil, List.contains_cons, Nat.reduceBEq, Bool.false_or, Bool.or_false, Bool.true_or, Bool.false_eq_true, if_false, if_true, true_and, and_true, List.set_cons_zero, List.set_cons_succ, List.length_cons, List.length_nil, Nat.reduceAdd, Nat.reduceLeDiff, Nat.le_refl, Nat.zero_le, true_or, or_true, zn_cl, ↓jj_KS_price]
    exact hR g' (zc_fr.lat (f1.trans e1) (fun c a1 a2 a3 a4 a5 a6 a7 => (f2 c a3).trans (e2 c a1 a2 a5 a6 a7)))
  · rw [zs_ix_no e] at hR
    simp only [↓zq, ↓reduceIte, zr_si2, zr_sr1, zr_cp2, zr_tl, zr_tn, shq, List.contains_nil, List.contains_cons, Nat.reduceBEq, Bool.false_or, Bool.or_false, Bool.true_or, Bool.false_eq_true, if_false, if_true, true_and, and_true, List.set_cons_zero, List.set_cons_succ, List.length_cons, List.length_nil, Nat.reduceAdd, Nat.reduceLeDiff, Nat.le_refl, Nat.zero_le, true_or, or_true, zn_cl, ↓jj_KS_price]
    rcases e with e | e
    · exact ⟨fun _ => hR h (zc_fr.rf h), fun z => absurd e z⟩
    · refine ⟨fun _ => hR h (zc_fr.rf h), fun z => ⟨fun z2 => ?_, fun _ => hR h (zc_fr.rf h)⟩⟩
      have e : (134217728 : Int32) ≤ x := e
      exfalso
      (simp only [Int32.lt_iff_toInt_lt, Int32.le_iff_toInt_le, ← Int32.toInt_inj, zi_c] at *; omega)
set_option maxHeartbeats 4000000 in
set_option maxRecDepth 100000 in
theorem k_KS_greedy {d : Nat} {h : zm_M} {R : zm_R} {pi : Nat → Nat} {F : zs_F} {sp : Nat → Nat} {U : zs_U} {Q : zs_Q} {x y : Int32} (hC : zC h pi F sp U Q) (hN : zc_N h.1) (hR : ∀ h' : zm_M, zc_fr h h' → R (some (.inl (A_greedy F sp x y))) h') : zm_C (d + 6) TT m_KS_greedy [.inr (some 0), .inl x, .inl y] h R := by
  obtain ⟨p0, p1, p2, p4, p5, p6, p7, p9, p10, p11, p12, p14⟩ := zC_p hC
  obtain ⟨c1, c2, ⟨c3, c3w⟩, ⟨c4, c4w⟩, ⟨c7, c8⟩, c9, c10⟩ := id hC
  have hw1 := c3w.1
  refine st_KS_greedy [31] 9 ?_
  unfold A_greedy at hR
  have R0 := hR h (zc_fr.rf h)
  rcases zs_cas x 7 (by decide) with ⟨j, hj, rfl⟩ | e
  · rw [zs_ix_of hj (by decide)] at hR R0
    cases j with
    | zero =>
      simp only [↓zq, ↓reduceIte, zr_si2, zr_sr1, zr_cp2, zr_tl, zr_tn, shq, List.contains_nil, List.contains_cons, Nat.reduceBEq, Bool.false_or, Bool.or_false, Bool.true_or, Bool.false_eq_true, if_false, if_true, true_and, and_true, List.set_cons_zero, List.set_cons_succ, List.length_cons, List.length_nil, Nat.reduceAdd, Nat.reduceLeDiff, Nat.le_refl, Nat.zero_le, true_or, or_true, zn_cl, ↓jj_KS_greedy]
      exact ⟨fun _ => R0, fun z => absurd (by decide) z⟩
    | succ k =>
      simp only [] at hR R0
      have tail : (y = 0 ∨ ∃ w, 10 ≤ w ∧ w < 10 + (k + 1) ∧ y = nI w) → zm_W (zm_md m_KS_greedy) (d + 6) TT R 31 [some (.inr (some 0)), some (.inl (nI (k + 1))), some (.inl y)] [] h := by
        intro hy
        refine zm_go g_KS_greedy [] 30 (by decide +kernel) ok_KS_greedy _ rfl ?_
        simp only [↓zq, ↓reduceIte, zr_si2, zr_sr1, zr_cp2, zr_tl, zr_tn, shq, List.contains_nil, List.contains_cons, Nat.reduceBEq, Bool.false_or, Bool.or_false, Bool.true_or, Bool.false_eq_true, if_false, if_true, true_and, and_true, List.set_cons_zero, List.set_cons_succ, List.length_cons, List.length_nil, Nat.reduceAdd, Nat.reduceLeDiff, Nat.le_refl, Nat.zero_le, true_or, or_true, zn_cl, ↓jj_KS_greedy, p4, p5, p12]
        refine k_Latt_recount (F := F) (sp := sp) c1 c3 c3w c4 c4w (fun g e1 e2 e3 e4 => ?_)
        have q12 : g.2 0 12 = some 91 := by rw [e1]; exact p12
        simp only [↓zq, ↓reduceIte, zr_si2, zr_sr1, zr_cp2, zr_tl, zr_tn, shq, List.contains_nil, List.contains_cons, Nat.reduceBEq, Bool.false_or, Bool.or_false, Bool.true_or, Bool.false_eq_true, if_false, if_true, true_and, and_true, List.set_cons_zero, List.set_cons_succ, List.length_cons, List.length_nil, Nat.reduceAdd, Nat.reduceLeDiff, Nat.le_refl, Nat.zero_le, true_or, or_true, zn_cl, ↓jj_KS_greedy, q12]
        refine k_Latt_pickGreedily (G := zs_gn sp F) (n := F.1) (by rw [e1]; exact c1) (fun ot ho => by rw [e2 93 (by decide) (by decide) (by decide) (by decide) (by decide)]; exact hN ot ho) (by omega) (by omega) e3 (by omega) e4 (zs_gn_le sp F) (fun g' f1 f2 f3 f4 => ?_)
        have q12' : g'.2 0 12 = some 91 := by rw [f1]; exact q12
        have gp : zp_ok g'.2 := by rw [f1, e1]; exact c1
        have hRR := hR g' (zc_fr.lat (f1.trans e1) (fun c a1 a2 a3 a4 a5 a6 a7 => (f2 c a1 a3 a4).trans (e2 c a1 a2 a5 a6 a7)))
        simp only [↓zq, ↓reduceIte, zr_si2, zr_sr1, zr_cp2, zr_tl, zr_tn, shq, List.contains_nil, List.contains_cons, Nat.reduceBEq, Bool.false_or, Bool.or_false, Bool.true_or, Bool.false_eq_true, if_false, if_true, true_and, and_true, List.set_cons_zero, List.set_cons_succ, List.length_cons, List.length_nil, Nat.reduceAdd, Nat.reduceLeDiff, Nat.le_refl, Nat.zero_le, true_or, or_true, zn_cl, ↓jj_KS_greedy, q12', f3]
        rcases hy with rfl | ⟨w, w1, w2, rfl⟩
        · rw [if_pos rfl] at hRR
          exact ⟨fun z => absurd rfl z, fun _ => hRR⟩
        · have nz : ¬ nI w = 0 := by
            rw [zn_z (by omega)]
            omega
          rw [if_neg nz, zs_ix_of (show w < 16 by omega) (by decide)] at hRR
          simp only [] at hRR
          rw [if_pos ⟨w1, w2⟩] at hRR
          refine ⟨fun _ => ?_, fun z => absurd z nz⟩
          rw [show (10 : Int32) = nI 10 from rfl, pk_sub (by omega)]
          refine k_Latt_pickAt gp (by omega) ?_
          simp only [↓zq, ↓reduceIte, zr_si2, zr_sr1, zr_cp2, zr_tl, zr_tn, shq, List.contains_nil, List.contains_cons, Nat.reduceBEq, Bool.false_or, Bool.or_false, Bool.true_or, Bool.false_eq_true, if_false, if_true, true_and, and_true, List.set_cons_zero, List.set_cons_succ, List.length_cons, List.length_nil, Nat.reduceAdd, Nat.reduceLeDiff, Nat.le_refl, Nat.zero_le, true_or, or_true, zn_cl, ↓jj_KS_greedy]
          rw [f4 _ (by omega)]
          exact hRR
      simp only [↓zq, ↓reduceIte, zr_si2, zr_sr1, zr_cp2, zr_tl, zr_tn, shq, List.contains_nil, List.contains_cons, Nat.reduceBEq, Bool.false_or, Bool.or_false, Bool.true_or, Bool.false_eq_true, if_false, if_true, true_and, and_true, List.set_cons_zero, List.set_cons_succ, List.length_cons, List.length_nil, Nat.reduceAdd, Nat.reduceLeDiff, Nat.le_refl, Nat.zero_le, true_or, or_true, zn_cl, ↓jj_KS_greedy, p4, p5, p12]
      refine ⟨fun z => absurd z (by rw [show (1 : Int32) = nI 1 from rfl, zn_lt (by omega) (by decide)]; omega), fun _ => ⟨fun z => absurd z (by rw [show (6 : Int32) = nI 6 from rfl, zn_lt (by decide) (by omega)]; omega), fun _ => ?_⟩⟩
      refine ⟨fun z => tail (Or.inl z), fun z => ?_⟩
      rw [if_neg z] at R0
      rcases zs_cas y 16 (by decide) with ⟨w, hw, rfl⟩ | e
      · rw [zs_ix_of hw (by decide)] at R0
        simp only [] at R0
        rw [show (10 : Int32) = nI 10 from rfl, nI_add, zn_lt (by omega) (by decide), zn_lt (by omega) (by omega)]
        refine ⟨fun z1 => ?_, fun z1 => ⟨fun z2 => tail (Or.inr ⟨w, by omega, z2, rfl⟩), fun z2 => ?_⟩⟩
        · rw [if_neg (by omega)] at R0
          exact R0
        · rw [if_neg (by omega)] at R0
          exact R0
      · rw [zs_ix_no e] at R0
        rcases e with e | e
        · refine ⟨fun _ => R0, fun z1 => ?_⟩
          exfalso
          clear hR R0 tail
          (simp only [Int32.lt_iff_toInt_lt, Int32.le_iff_toInt_le, ← Int32.toInt_inj, zi_c] at *; omega)
        · have e : (16 : Int32) ≤ y := e
          refine ⟨fun z1 => ?_, fun z1 => ⟨fun z2 => ?_, fun _ => R0⟩⟩
          · exfalso
            clear hR R0 tail
            (simp only [Int32.lt_iff_toInt_lt, Int32.le_iff_toInt_le, ← Int32.toInt_inj, zi_c] at *; omega)
          · exfalso
            rw [show (10 : Int32) = nI 10 from rfl, nI_add] at z2
            have h2 : nI (10 + (k + 1)) ≤ 16 := nI_le (b := 16) (by omega) (by decide)
            clear hR R0 tail
            generalize nI (10 + (k + 1)) = q at z2 h2
            (simp only [Int32.lt_iff_toInt_lt, Int32.le_iff_toInt_le, ← Int32.toInt_inj, zi_c] at *; omega)
  · rw [zs_ix_no e] at R0
    simp only [↓zq, ↓reduceIte, zr_si2, zr_sr1, zr_cp2, zr_tl, zr_tn, shq, List.contains_nil, List.contains_cons, Nat.reduceBEq, Bool.false_or, Bool.or_false, Bool.true_or, Bool.false_eq_true, if_false, if_true, true_and, and_true, List.set_cons_zero, List.set_cons_succ, List.length_cons, List.length_nil, Nat.reduceAdd, Nat.reduceLeDiff, Nat.le_refl, Nat.zero_le, true_or, or_true, zn_cl, ↓jj_KS_greedy]
    rcases e with e | e
    · exact ⟨fun _ => R0, fun z => by exfalso; (simp only [Int32.lt_iff_toInt_lt, Int32.le_iff_toInt_le, ← Int32.toInt_inj, zi_c] at *; omega)⟩
    · have e : (7 : Int32) ≤ x := e
      exact ⟨fun _ => R0, fun z => ⟨fun _ => R0, fun z2 => by exfalso; (simp only [Int32.lt_iff_toInt_lt, Int32.le_iff_toInt_le, ← Int32.toInt_inj, zi_c] at *; omega)⟩⟩
set_option maxHeartbeats 4000000 in
set_option maxRecDepth 100000 in
theorem k_KS_best {d : Nat} {h : zm_M} {R : zm_R} {pi : Nat → Nat} {F : zs_F} {sp : Nat → Nat} {U : zs_U} {Q : zs_Q} {x y : Int32} (hC : zC h pi F sp U Q) (hN : zc_N h.1) (hR : ∀ h' : zm_M, zc_fr h h' → R (some (.inl (A_best F sp x y))) h') : zm_C (d + 6) TT m_KS_best [.inr (some 0), .inl x, .inl y] h R := by
  obtain ⟨p0, p1, p2, p4, p5, p6, p7, p9, p10, p11, p12, p14⟩ := zC_p hC
  obtain ⟨c1, c2, ⟨c3, c3w⟩, ⟨c4, c4w⟩, ⟨c7, c8⟩, c9, c10⟩ := id hC
  have hw1 := c3w.1
  refine st_KS_best [29] 9 ?_
  unfold A_best at hR
  have R0 := hR h (zc_fr.rf h)
  have out : ∀ z : Int32, (z < 0 ∨ nI 3 ≤ z) → z < 0 ∨ 3 ≤ z := fun z hz => hz
  rcases zs_cas x 3 (by decide) with ⟨j, hj, rfl⟩ | e
  · rw [zs_ix_of hj (by decide)] at hR R0
    rcases zs_cas y 3 (by decide) with ⟨w, hw, rfl⟩ | e
    · rw [zs_ix_of hw (by decide)] at hR R0
      rcases (show j = 0 ∨ j = 1 ∨ j = 2 by omega) with rfl | rfl | rfl
      · simp only [↓zq, ↓reduceIte, zr_si2, zr_sr1, zr_cp2, zr_tl, zr_tn, shq, List.contains_nil, List.contains_cons, Nat.reduceBEq, Bool.false_or, Bool.or_false, Bool.true_or, Bool.false_eq_true, if_false, if_true, true_and, and_true, List.set_cons_zero, List.set_cons_succ, List.length_cons, List.length_nil, Nat.reduceAdd, Nat.reduceLeDiff, Nat.le_refl, Nat.zero_le, true_or, or_true, zn_cl, ↓jj_KS_best]
        exact ⟨fun _ => R0, fun z => absurd (by decide) z⟩
      · have run : ∀ w, w < 2 → (∀ g : zm_M, zc_fr h g → R (some (.inl (if w = 0 then nI (zs_gp (zs_gn sp F) F.1 0).2 else nI (zs_gp (zs_gn sp F) F.1 0).1))) g) → zm_W (zm_md m_KS_best) (d + 6) TT R 29 [some (.inr (some 0)), some (.inl (nI 1)), some (.inl (nI w))] [] h := by
          intro w hw2 hRR
          obtain ⟨s0, s1, s2, s3⟩ := zs_gs_spec (zs_gn sp F) F.1 (show 0 < 6 by decide)
          refine zm_go g_KS_best [] 30 (by decide +kernel) ok_KS_best _ rfl ?_
          simp only [↓zq, ↓reduceIte, zr_si2, zr_sr1, zr_cp2, zr_tl, zr_tn, shq, List.contains_nil, List.contains_cons, Nat.reduceBEq, Bool.false_or, Bool.or_false, Bool.true_or, Bool.false_eq_true, if_false, if_true, true_and, and_true, List.set_cons_zero, List.set_cons_succ, List.length_cons, List.length_nil, Nat.reduceAdd, Nat.reduceLeDiff, Nat.le_refl, Nat.zero_le, true_or, or_true, zn_cl, ↓jj_KS_best, p4, p5, p12]
          refine k_Latt_recount (F := F) (sp := sp) c1 c3 c3w c4 c4w (fun g e1 e2 e3 e4 => ?_)
          have q12 : g.2 0 12 = some 91 := by rw [e1]; exact p12
          simp only [↓zq, ↓reduceIte, zr_si2, zr_sr1, zr_cp2, zr_tl, zr_tn, shq, List.contains_nil, List.contains_cons, Nat.reduceBEq, Bool.false_or, Bool.or_false, Bool.true_or, Bool.false_eq_true, if_false, if_true, true_and, and_true, List.set_cons_zero, List.set_cons_succ, List.length_cons, List.length_nil, Nat.reduceAdd, Nat.reduceLeDiff, Nat.le_refl, Nat.zero_le, true_or, or_true, zn_cl, ↓jj_KS_best, q12]
          refine ⟨fun z => absurd rfl z, fun _ => ?_⟩
          refine k_Latt_pickGreedily (k := 1) (G := zs_gn sp F) (n := F.1) (by rw [e1]; exact c1) (fun ot ho => by rw [e2 93 (by decide) (by decide) (by decide) (by decide) (by decide)]; exact hN ot ho) (by omega) (by omega) e3 (by omega) e4 (zs_gn_le sp F) (fun g' f1 f2 f3 f4 => ?_)
          have q12' : g'.2 0 12 = some 91 := by rw [f1]; exact q12
          have gp : zp_ok g'.2 := by rw [f1, e1]; exact c1
          have hRR := hRR g' (zc_fr.lat (f1.trans e1) (fun c a1 a2 a3 a4 a5 a6 a7 => (f2 c a1 a3 a4).trans (e2 c a1 a2 a5 a6 a7)))
          rw [← s3] at f3
          simp only [↓zq, ↓reduceIte, zr_si2, zr_sr1, zr_cp2, zr_tl, zr_tn, shq, List.contains_nil, List.contains_cons, Nat.reduceBEq, Bool.false_or, Bool.or_false, Bool.true_or, Bool.false_eq_true, if_false, if_true, true_and, and_true, List.set_cons_zero, List.set_cons_succ, List.length_cons, List.length_nil, Nat.reduceAdd, Nat.reduceLeDiff, Nat.le_refl, Nat.zero_le, true_or, or_true, zn_cl, ↓jj_KS_best, q12', f3]
          rcases (show w = 0 ∨ w = 1 by omega) with rfl | rfl
          · exact ⟨fun z => absurd rfl z, fun _ => hRR⟩
          · refine ⟨fun _ => ?_, fun z => absurd z (by decide)⟩
            refine k_Latt_pickAt (i := 0) gp (by omega) ?_
            simp only [↓zq, ↓reduceIte, zr_si2, zr_sr1, zr_cp2, zr_tl, zr_tn, shq, List.contains_nil, List.contains_cons, Nat.reduceBEq, Bool.false_or, Bool.or_false, Bool.true_or, Bool.false_eq_true, if_false, if_true, true_and, and_true, List.set_cons_zero, List.set_cons_succ, List.length_cons, List.length_nil, Nat.reduceAdd, Nat.reduceLeDiff, Nat.le_refl, Nat.zero_le, true_or, or_true, zn_cl, ↓jj_KS_best]
            rw [f4 0 (by decide)]
            exact hRR
        simp only [↓zq, ↓reduceIte, zr_si2, zr_sr1, zr_cp2, zr_tl, zr_tn, shq, List.contains_nil, List.contains_cons, Nat.reduceBEq, Bool.false_or, Bool.or_false, Bool.true_or, Bool.false_eq_true, if_false, if_true, true_and, and_true, List.set_cons_zero, List.set_cons_succ, List.length_cons, List.length_nil, Nat.reduceAdd, Nat.reduceLeDiff, Nat.le_refl, Nat.zero_le, true_or, or_true, zn_cl, ↓jj_KS_best]
        refine ⟨fun z => absurd z (by decide), fun _ => ⟨fun z => absurd z (by decide), fun _ => ⟨fun z => absurd z (nI_pos (by omega)), fun _ => ⟨fun _ => ?_, fun z => absurd (nI_le (b := 2) (by omega) (by decide)) z⟩⟩⟩⟩
        rcases (show w = 0 ∨ w = 1 ∨ w = 2 by omega) with rfl | rfl | rfl
        · exact ⟨fun _ => run 0 (by decide) hR, fun z => absurd (by decide) z⟩
        · exact ⟨fun _ => run 1 (by decide) hR, fun z => absurd (by decide) z⟩
        · exact ⟨fun z => absurd z (by decide), fun _ => R0⟩
      · have run : ∀ w, w < 3 → (∀ g : zm_M, zc_fr h g → R (some (.inl (if w = 0 then nI ((zs_bo (zs_gn sp F) F.1 27).getD (0, 0, 0)).2.2 else if w = 1 then nI ((zs_bo (zs_gn sp F) F.1 27).getD (0, 0, 0)).1 else nI ((zs_bo (zs_gn sp F) F.1 27).getD (0, 0, 0)).2.1))) g) → zm_W (zm_md m_KS_best) (d + 6) TT R 29 [some (.inr (some 0)), some (.inl (nI 2)), some (.inl (nI w))] [] h := by
          intro w hw2 hRR
          obtain ⟨yy, hy⟩ := zs_bo_some (zs_gn sp F) F.1 26
          refine zm_go g_KS_best [] 30 (by decide +kernel) ok_KS_best _ rfl ?_
          simp only [↓zq, ↓reduceIte, zr_si2, zr_sr1, zr_cp2, zr_tl, zr_tn, shq, List.contains_nil, List.contains_cons, Nat.reduceBEq, Bool.false_or, Bool.or_false, Bool.true_or, Bool.false_eq_true, if_false, if_true, true_and, and_true, List.set_cons_zero, List.set_cons_succ, List.length_cons, List.length_nil, Nat.reduceAdd, Nat.reduceLeDiff, Nat.le_refl, Nat.zero_le, true_or, or_true, zn_cl, ↓jj_KS_best, p4, p5, p12]
          refine k_Latt_recount (F := F) (sp := sp) c1 c3 c3w c4 c4w (fun g e1 e2 e3 e4 => ?_)
          have q12 : g.2 0 12 = some 91 := by rw [e1]; exact p12
          simp only [↓zq, ↓reduceIte, zr_si2, zr_sr1, zr_cp2, zr_tl, zr_tn, shq, List.contains_nil, List.contains_cons, Nat.reduceBEq, Bool.false_or, Bool.or_false, Bool.true_or, Bool.false_eq_true, if_false, if_true, true_and, and_true, List.set_cons_zero, List.set_cons_succ, List.length_cons, List.length_nil, Nat.reduceAdd, Nat.reduceLeDiff, Nat.le_refl, Nat.zero_le, true_or, or_true, zn_cl, ↓jj_KS_best, q12]
          refine ⟨fun _ => ?_, fun z => absurd z (by decide)⟩
          refine k_Latt_pickBestTwo (G := zs_gn sp F) (n := F.1) (by rw [e1]; exact c1) (fun ot ho => by rw [e2 93 (by decide) (by decide) (by decide) (by decide) (by decide)]; exact hN ot ho) e3 (by omega) e4 (zs_gn_le sp F) (fun g' f1 f2 f3 => ?_)
          have q12' : g'.2 0 12 = some 91 := by rw [f1]; exact q12
          have gp : zp_ok g'.2 := by rw [f1, e1]; exact c1
          have hRR := hRR g' (zc_fr.lat (f1.trans e1) (fun c a1 a2 a3 a4 a5 a6 a7 => (f2 c a1 a3 a4).trans (e2 c a1 a2 a5 a6 a7)))
          obtain ⟨g1, g2, g3⟩ := f3 yy hy
          rw [hy] at hRR
          simp only [Option.getD_some] at hRR
          simp only [↓zq, ↓reduceIte, zr_si2, zr_sr1, zr_cp2, zr_tl, zr_tn, shq, List.contains_nil, List.contains_cons, Nat.reduceBEq, Bool.false_or, Bool.or_false, Bool.true_or, Bool.false_eq_true, if_false, if_true, true_and, and_true, List.set_cons_zero, List.set_cons_succ, List.length_cons, List.length_nil, Nat.reduceAdd, Nat.reduceLeDiff, Nat.le_refl, Nat.zero_le, true_or, or_true, zn_cl, ↓jj_KS_best, q12', g1]
          rcases (show w = 0 ∨ w = 1 ∨ w = 2 by omega) with rfl | rfl | rfl
          · exact ⟨fun z => absurd rfl z, fun _ => hRR⟩
          · refine ⟨fun _ => ?_, fun z => absurd z (by decide)⟩
            refine k_Latt_pickAt (i := 0) gp (by omega) ?_
            simp only [↓zq, ↓reduceIte, zr_si2, zr_sr1, zr_cp2, zr_tl, zr_tn, shq, List.contains_nil, List.contains_cons, Nat.reduceBEq, Bool.false_or, Bool.or_false, Bool.true_or, Bool.false_eq_true, if_false, if_true, true_and, and_true, List.set_cons_zero, List.set_cons_succ, List.length_cons, List.length_nil, Nat.reduceAdd, Nat.reduceLeDiff, Nat.le_refl, Nat.zero_le, true_or, or_true, zn_cl, ↓jj_KS_best]
            rw [g2]
            exact hRR
          · refine ⟨fun _ => ?_, fun z => absurd z (by decide)⟩
            refine k_Latt_pickAt (i := 1) gp (by omega) ?_
            simp only [↓zq, ↓reduceIte, zr_si2, zr_sr1, zr_cp2, zr_tl, zr_tn, shq, List.contains_nil, List.contains_cons, Nat.reduceBEq, Bool.false_or, Bool.or_false, Bool.true_or, Bool.false_eq_true, if_false, if_true, true_and, and_true, List.set_cons_zero, List.set_cons_succ, List.length_cons, List.length_nil, Nat.reduceAdd, Nat.reduceLeDiff, Nat.le_refl, Nat.zero_le, true_or, or_true, zn_cl, ↓jj_KS_best]
            rw [g3]
            exact hRR
        simp only [↓zq, ↓reduceIte, zr_si2, zr_sr1, zr_cp2, zr_tl, zr_tn, shq, List.contains_nil, List.contains_cons, Nat.reduceBEq, Bool.false_or, Bool.or_false, Bool.true_or, Bool.false_eq_true, if_false, if_true, true_and, and_true, List.set_cons_zero, List.set_cons_succ, List.length_cons, List.length_nil, Nat.reduceAdd, Nat.reduceLeDiff, Nat.le_refl, Nat.zero_le, true_or, or_true, zn_cl, ↓jj_KS_best]
        refine ⟨fun z => absurd z (by decide), fun _ => ⟨fun z => absurd z (by decide), fun _ => ⟨fun z => absurd z (nI_pos (by omega)), fun _ => ⟨fun _ => ⟨fun _ => ?_, fun z => absurd (nI_le (b := 2) (by omega) (by decide)) z⟩, fun z => absurd (nI_le (b := 2) (by omega) (by decide)) z⟩⟩⟩⟩
        rcases (show w = 0 ∨ w = 1 ∨ w = 2 by omega) with rfl | rfl | rfl
        · exact run 0 (by decide) hR
        · exact run 1 (by decide) hR
        · exact run 2 (by decide) hR
    · rw [zs_ix_no e] at R0
      have R1 : R (some (.inl (-1))) h := by
        rcases (show j = 0 ∨ j = 1 ∨ j = 2 by omega) with rfl | rfl | rfl <;> exact R0
      have e := out y e
      simp only [↓zq, ↓reduceIte, zr_si2, zr_sr1, zr_cp2, zr_tl, zr_tn, shq, List.contains_nil, List.contains_cons, Nat.reduceBEq, Bool.false_or, Bool.or_false, Bool.true_or, Bool.false_eq_true, if_false, if_true, true_and, and_true, List.set_cons_zero, List.set_cons_succ, List.length_cons, List.length_nil, Nat.reduceAdd, Nat.reduceLeDiff, Nat.le_refl, Nat.zero_le, true_or, or_true, zn_cl, ↓jj_KS_best]
      refine ⟨fun _ => R1, fun _ => ⟨fun _ => R1, fun _ => ⟨fun _ => R1, fun z1 => ⟨fun z2 => ?_, fun _ => R1⟩⟩⟩⟩
      exfalso
      clear hR R0 R1
      rcases e with e | e
      · exact z1 e
      · (simp only [Int32.lt_iff_toInt_lt, Int32.le_iff_toInt_le, ← Int32.toInt_inj, zi_c] at *; omega)
  · rw [zs_ix_no e] at R0
    have R1 : R (some (.inl (-1))) h := R0
    have e := out x e
    simp only [↓zq, ↓reduceIte, zr_si2, zr_sr1, zr_cp2, zr_tl, zr_tn, shq, List.contains_nil, List.contains_cons, Nat.reduceBEq, Bool.false_or, Bool.or_false, Bool.true_or, Bool.false_eq_true, if_false, if_true, true_and, and_true, List.set_cons_zero, List.set_cons_succ, List.length_cons, List.length_nil, Nat.reduceAdd, Nat.reduceLeDiff, Nat.le_refl, Nat.zero_le, true_or, or_true, zn_cl, ↓jj_KS_best]
    refine ⟨fun _ => R1, fun z1 => ⟨fun _ => R1, fun z2 => ?_⟩⟩
    exfalso
    clear hR R0 R1
    rcases e with e | e <;> (simp only [Int32.lt_iff_toInt_lt, Int32.le_iff_toInt_le, ← Int32.toInt_inj, zi_c] at *; omega)
