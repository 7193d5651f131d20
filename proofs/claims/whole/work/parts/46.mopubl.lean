/-! the reference's public methods of the lattice -/
set_option maxHeartbeats 4000000 in
set_option maxRecDepth 100000 in
theorem k_Mo_isNode {d : Nat} {T : zm_T} {h : zm_M} {R : zm_R} {x : Int32} (h1 : ∀ j : Nat, j < 27 → x = nI j → R (some (.inl 1)) h) (h0 : (x < 0 ∨ 27 ≤ x) → R (some (.inl 0)) h) : zm_C (d + 2) T m_Mo_isNode [.inl x] h R := by
  refine st_Mo_isNode [] 9 ?_
  simp only [↓zq, ↓reduceIte, zr_si2, zr_sr1, zr_cp2, zr_tl, zr_tn, shq, List.contains_nil, List.contains_cons, Nat.reduceBEq, Bool.false_or, Bool.or_false, Bool.true_or, Bool.false_eq_true, if_false, if_true, true_and, and_true, List.set_cons_zero, List.set_cons_succ, List.length_cons, List.length_nil, Nat.reduceAdd, Nat.reduceLeDiff, Nat.le_refl, Nat.zero_le, true_or, or_true, zn_cl, ↓jj_Mo_isNode]
  refine k_Mo_in (fun a b => ?_) (fun a => ?_)
  · simp only [↓zq, ↓reduceIte, zr_si2, zr_sr1, zr_cp2, zr_tl, zr_tn, shq, List.contains_nil, List.contains_cons, Nat.reduceBEq, Bool.false_or, Bool.or_false, Bool.true_or, Bool.false_eq_true, if_false, if_true, true_and, and_true, List.set_cons_zero, List.set_cons_succ, List.length_cons, List.length_nil, Nat.reduceAdd, Nat.reduceLeDiff, Nat.le_refl, Nat.zero_le, true_or, or_true, zn_cl, ↓jj_Mo_isNode]
    obtain ⟨j, hj, e⟩ := zn_of (n := 27) (m := 27) a (fun z => b (by (simp only [Int32.lt_iff_toInt_lt, Int32.le_iff_toInt_le, ← Int32.toInt_inj, zi_c] at *; omega)))
    exact h1 j hj e
  · simp only [↓zq, ↓reduceIte, zr_si2, zr_sr1, zr_cp2, zr_tl, zr_tn, shq, List.contains_nil, List.contains_cons, Nat.reduceBEq, Bool.false_or, Bool.or_false, Bool.true_or, Bool.false_eq_true, if_false, if_true, true_and, and_true, List.set_cons_zero, List.set_cons_succ, List.length_cons, List.length_nil, Nat.reduceAdd, Nat.reduceLeDiff, Nat.le_refl, Nat.zero_le, true_or, or_true, zn_cl, ↓jj_Mo_isNode]
    refine h0 (a.imp id (fun z => ?_))
    (simp only [Int32.lt_iff_toInt_lt, Int32.le_iff_toInt_le, ← Int32.toInt_inj, zi_c] at *; omega)
set_option maxHeartbeats 4000000 in
set_option maxRecDepth 100000 in
theorem k_Mo_node {d : Nat} {h : zm_M} {R : zm_R} {F : zs_F} {sp : Nat → Nat} {U : zs_U} {Q : zs_Q} {x : Int32} (hO : zO h F sp U Q) (hR : ∀ h' : zm_M, zo_fr h h' → R (some (.inl (A_node F sp x))) h') : zm_C (d + 5) TT m_Mo_node [.inr (some 133), .inl x] h R := by
  refine st_Mo_node [] 9 ?_
  unfold A_node at hR
  simp only [↓zq, ↓reduceIte, zr_si2, zr_sr1, zr_cp2, zr_tl, zr_tn, shq, List.contains_nil, List.contains_cons, Nat.reduceBEq, Bool.false_or, Bool.or_false, Bool.true_or, Bool.false_eq_true, if_false, if_true, true_and, and_true, List.set_cons_zero, List.set_cons_succ, List.length_cons, List.length_nil, Nat.reduceAdd, Nat.reduceLeDiff, Nat.le_refl, Nat.zero_le, true_or, or_true, zn_cl, ↓jj_Mo_node]
  refine k_Mo_isNode (fun j hj e => ?_) (fun e => ?_)
  · subst e
    rw [zs_ix_of hj (by decide)] at hR
    simp only [↓zq, ↓reduceIte, zr_si2, zr_sr1, zr_cp2, zr_tl, zr_tn, shq, List.contains_nil, List.contains_cons, Nat.reduceBEq, Bool.false_or, Bool.or_false, Bool.true_or, Bool.false_eq_true, if_false, if_true, true_and, and_true, List.set_cons_zero, List.set_cons_succ, List.length_cons, List.length_nil, Nat.reduceAdd, Nat.reduceLeDiff, Nat.le_refl, Nat.zero_le, true_or, or_true, zn_cl, ↓jj_Mo_node]
    refine ⟨fun z => absurd z (by decide), fun _ => ?_⟩
    refine k_Mo_groupsBy hO hj (fun g e1 e2 => ?_)
    simp only [↓zq, ↓reduceIte, zr_si2, zr_sr1, zr_cp2, zr_tl, zr_tn, shq, List.contains_nil, List.contains_cons, Nat.reduceBEq, Bool.false_or, Bool.or_false, Bool.true_or, Bool.false_eq_true, if_false, if_true, true_and, and_true, List.set_cons_zero, List.set_cons_succ, List.length_cons, List.length_nil, Nat.reduceAdd, Nat.reduceLeDiff, Nat.le_refl, Nat.zero_le, true_or, or_true, zn_cl, ↓jj_Mo_node]
    exact hR g (zo_fr.of e1 (fun a ha => e2 a (by omega)))
  · rw [zs_ix_no e] at hR
    simp only [↓zq, ↓reduceIte, zr_si2, zr_sr1, zr_cp2, zr_tl, zr_tn, shq, List.contains_nil, List.contains_cons, Nat.reduceBEq, Bool.false_or, Bool.or_false, Bool.true_or, Bool.false_eq_true, if_false, if_true, true_and, and_true, List.set_cons_zero, List.set_cons_succ, List.length_cons, List.length_nil, Nat.reduceAdd, Nat.reduceLeDiff, Nat.le_refl, Nat.zero_le, true_or, or_true, zn_cl, ↓jj_Mo_node]
    exact ⟨fun _ => hR h (zo_fr.rf h), fun z => absurd trivial z⟩
set_option maxHeartbeats 4000000 in
set_option maxRecDepth 100000 in
theorem k_Mo_below {d : Nat} {h : zm_M} {R : zm_R} {x y : Int32} (hR : R (some (.inl (A_below x y))) h) : zm_C (d + 5) TT m_Mo_below [.inr (some 133), .inl x, .inl y] h R := by
  refine st_Mo_below [] 9 ?_
  unfold A_below at hR
  simp only [↓zq, ↓reduceIte, zr_si2, zr_sr1, zr_cp2, zr_tl, zr_tn, shq, List.contains_nil, List.contains_cons, Nat.reduceBEq, Bool.false_or, Bool.or_false, Bool.true_or, Bool.false_eq_true, if_false, if_true, true_and, and_true, List.set_cons_zero, List.set_cons_succ, List.length_cons, List.length_nil, Nat.reduceAdd, Nat.reduceLeDiff, Nat.le_refl, Nat.zero_le, true_or, or_true, zn_cl, ↓jj_Mo_below]
  refine k_Mo_isNode (fun i hi e => ?_) (fun e => ?_)
  · subst e
    rw [zs_ix_of hi (by decide)] at hR
    simp only [↓zq, ↓reduceIte, zr_si2, zr_sr1, zr_cp2, zr_tl, zr_tn, shq, List.contains_nil, List.contains_cons, Nat.reduceBEq, Bool.false_or, Bool.or_false, Bool.true_or, Bool.false_eq_true, if_false, if_true, true_and, and_true, List.set_cons_zero, List.set_cons_succ, List.length_cons, List.length_nil, Nat.reduceAdd, Nat.reduceLeDiff, Nat.le_refl, Nat.zero_le, true_or, or_true, zn_cl, ↓jj_Mo_below]
    refine ⟨fun z => absurd z (by decide), fun _ => ?_⟩
    refine k_Mo_isNode (fun j hj e => ?_) (fun e => ?_)
    · subst e
      rw [zs_ix_of hj (by decide)] at hR
      simp only [↓zq, ↓reduceIte, zr_si2, zr_sr1, zr_cp2, zr_tl, zr_tn, shq, List.contains_nil, List.contains_cons, Nat.reduceBEq, Bool.false_or, Bool.or_false, Bool.true_or, Bool.false_eq_true, if_false, if_true, true_and, and_true, List.set_cons_zero, List.set_cons_succ, List.length_cons, List.length_nil, Nat.reduceAdd, Nat.reduceLeDiff, Nat.le_refl, Nat.zero_le, true_or, or_true, zn_cl, ↓jj_Mo_below]
      refine ⟨fun _ => ?_, fun z => absurd z (by decide)⟩
      refine k_Mo_isBelow hi hj ?_
      simp only [] at hR
      simp only [↓zq, ↓reduceIte, zr_si2, zr_sr1, zr_cp2, zr_tl, zr_tn, shq, List.contains_nil, List.contains_cons, Nat.reduceBEq, Bool.false_or, Bool.or_false, Bool.true_or, Bool.false_eq_true, if_false, if_true, true_and, and_true, List.set_cons_zero, List.set_cons_succ, List.length_cons, List.length_nil, Nat.reduceAdd, Nat.reduceLeDiff, Nat.le_refl, Nat.zero_le, true_or, or_true, zn_cl, ↓jj_Mo_below]
      cases e : zs_blw i j
      · rw [e] at hR
        simp only [Bool.false_eq_true, if_false] at hR ⊢
        exact ⟨fun _ => hR, fun z => absurd trivial z⟩
      · rw [e] at hR
        simp only [if_true] at hR ⊢
        exact ⟨fun z => absurd z (by decide), fun _ => hR⟩
    · rw [zs_ix_no e] at hR
      simp only [↓zq, ↓reduceIte, zr_si2, zr_sr1, zr_cp2, zr_tl, zr_tn, shq, List.contains_nil, List.contains_cons, Nat.reduceBEq, Bool.false_or, Bool.or_false, Bool.true_or, Bool.false_eq_true, if_false, if_true, true_and, and_true, List.set_cons_zero, List.set_cons_succ, List.length_cons, List.length_nil, Nat.reduceAdd, Nat.reduceLeDiff, Nat.le_refl, Nat.zero_le, true_or, or_true, zn_cl, ↓jj_Mo_below]
      exact ⟨fun z => absurd trivial z, fun _ => hR⟩
  · rw [zs_ix_no e] at hR
    simp only [↓zq, ↓reduceIte, zr_si2, zr_sr1, zr_cp2, zr_tl, zr_tn, shq, List.contains_nil, List.contains_cons, Nat.reduceBEq, Bool.false_or, Bool.or_false, Bool.true_or, Bool.false_eq_true, if_false, if_true, true_and, and_true, List.set_cons_zero, List.set_cons_succ, List.length_cons, List.length_nil, Nat.reduceAdd, Nat.reduceLeDiff, Nat.le_refl, Nat.zero_le, true_or, or_true, zn_cl, ↓jj_Mo_below]
    exact ⟨fun _ => hR, fun z => absurd trivial z⟩
set_option maxHeartbeats 4000000 in
set_option maxRecDepth 100000 in
theorem k_Mo_price {d : Nat} {h : zm_M} {R : zm_R} {F : zs_F} {sp : Nat → Nat} {U : zs_U} {Q : zs_Q} {x : Int32} (hO : zO h F sp U Q) (hR : ∀ h' : zm_M, zo_fr h h' → R (some (.inl (A_price F sp x))) h') : zm_C (d + 6) TT m_Mo_price [.inr (some 133), .inl x] h R := by
  have hw1 := hO.2.1.2.1
  refine st_Mo_price [] 9 ?_
  unfold A_price at hR
  simp only [↓zq, ↓reduceIte, zr_si2, zr_sr1, zr_cp2, zr_tl, zr_tn, shq, List.contains_nil, List.contains_cons, Nat.reduceBEq, Bool.false_or, Bool.or_false, Bool.true_or, Bool.false_eq_true, if_false, if_true, true_and, and_true, List.set_cons_zero, List.set_cons_succ, List.length_cons, List.length_nil, Nat.reduceAdd, Nat.reduceLeDiff, Nat.le_refl, Nat.zero_le, true_or, or_true, zn_cl, ↓jj_Mo_price]
  refine k_Mo_in (fun a b => ?_) (fun a => ?_)
  · obtain ⟨j, hj, rfl⟩ := zn_of (n := 134217728) (m := 134217728) a (fun z => b (by clear hR; (simp only [Int32.lt_iff_toInt_lt, Int32.le_iff_toInt_le, ← Int32.toInt_inj, zi_c] at *; omega)))
    rw [zs_ix_of hj (by decide)] at hR
    simp only [↓zq, ↓reduceIte, zr_si2, zr_sr1, zr_cp2, zr_tl, zr_tn, shq, List.contains_nil, List.contains_cons, Nat.reduceBEq, Bool.false_or, Bool.or_false, Bool.true_or, Bool.false_eq_true, if_false, if_true, true_and, and_true, List.set_cons_zero, List.set_cons_succ, List.length_cons, List.length_nil, Nat.reduceAdd, Nat.reduceLeDiff, Nat.le_refl, Nat.zero_le, true_or, or_true, zn_cl, ↓jj_Mo_price]
    refine ⟨fun _ => ?_, fun z => absurd z (by decide)⟩
    refine k_Mo_laysLattice hO (fun g e1 e2 => ?_)
    simp only [↓zq, ↓reduceIte, zr_si2, zr_sr1, zr_cp2, zr_tl, zr_tn, shq, List.contains_nil, List.contains_cons, Nat.reduceBEq, Bool.false_or, Bool.or_false, Bool.true_or, Bool.false_eq_true, if_false, if_true, true_and, and_true, List.set_cons_zero, List.set_cons_succ, List.length_cons, List.length_nil, Nat.reduceAdd, Nat.reduceLeDiff, Nat.le_refl, Nat.zero_le, true_or, or_true, zn_cl, ↓jj_Mo_price]
    have gO := zO_fr e1 hO
    refine k_Mo_priceBy (G := zs_gn sp F) (n := F.1) gO.1 (by omega) gO.2.1.1.1 (by omega) e2 (zs_gn_le sp F) ?_
    simp only [↓zq, ↓reduceIte, zr_si2, zr_sr1, zr_cp2, zr_tl, zr_tn, shq, List.contains_nil, List.contains_cons, Nat.reduceBEq, Bool.false_or, Bool.or_false, Bool.true_or, Bool.false_eq_true, if_false, if_true, true_and, and_true, List.set_cons_zero, List.set_cons_succ, List.length_cons, List.length_nil, Nat.reduceAdd, Nat.reduceLeDiff, Nat.le_refl, Nat.zero_le, true_or, or_true, zn_cl, ↓jj_Mo_price]
    exact hR g e1
  · rw [zs_ix_no (a.imp id (fun z => show (134217728 : Int32) ≤ x by clear hR; (simp only [Int32.lt_iff_toInt_lt, Int32.le_iff_toInt_le, ← Int32.toInt_inj, zi_c] at *; omega)))] at hR
    simp only [↓zq, ↓reduceIte, zr_si2, zr_sr1, zr_cp2, zr_tl, zr_tn, shq, List.contains_nil, List.contains_cons, Nat.reduceBEq, Bool.false_or, Bool.or_false, Bool.true_or, Bool.false_eq_true, if_false, if_true, true_and, and_true, List.set_cons_zero, List.set_cons_succ, List.length_cons, List.length_nil, Nat.reduceAdd, Nat.reduceLeDiff, Nat.le_refl, Nat.zero_le, true_or, or_true, zn_cl, ↓jj_Mo_price]
    exact ⟨fun z => absurd trivial z, fun _ => hR h (zo_fr.rf h)⟩
theorem zs_pk_lt {G : Nat → Nat} {n x k : Nat} (hn : n ≤ 512) {bp : Nat × Nat} (h : zs_pk G n x k = some bp) : bp.2 ≤ 13824 := by
  rw [(zs_pk_spec k bp h).2.2]
  exact Nat.le_trans (zs_prc_le G n _) (Nat.mul_le_mul_right 27 hn)
def zs_pkp (o : Option (Nat × Nat)) : Int32 := match o with
  | none => 100000000
  | some bp => nI bp.2
set_option maxHeartbeats 4000000 in
set_option maxRecDepth 100000 in
theorem k_Mo_greedy {d : Nat} {h : zm_M} {R : zm_R} {F : zs_F} {sp : Nat → Nat} {U : zs_U} {Q : zs_Q} {x y : Int32} (hO : zO h F sp U Q) (hR : ∀ h' : zm_M, zo_fr h h' → R (some (.inl (A_greedy F sp x y))) h') : zm_C (d + 6) TT m_Mo_greedy [.inr (some 133), .inl x, .inl y] h R := by
  have hw1 := hO.2.1.2.1
  have R0 := hR h (zo_fr.rf h)
  unfold A_greedy at hR R0
  have main : ∀ k, k < 6 → x = nI (k + 1) → (y = 0 ∨ ∃ w, 10 ≤ w ∧ w < 10 + (k + 1) ∧ y = nI w) → zm_W (zm_md m_Mo_greedy) (d + 6) TT R 29 [some (.inr (some 133)), some (.inl x), some (.inl y), none, none, none, none, none, none] [] h := by
    intro k hk hx hy
    subst hx
    rw [zs_ix_of (show k + 1 < 7 by omega) (by decide)] at hR
    simp only [] at hR
    have fin : ∀ g : zm_M, zo_fr h g → (∀ nd, nd < 27 → g.1 167 nd = nI (zs_gn sp F nd)) → (∀ j, j < k + 1 → g.1 168 j = nI (zs_gp (zs_gn sp F) F.1 (zs_gs (zs_gn sp F) F.1 j)).1) → ∀ o1 o2 o3 o4 o5, zm_W (zm_md m_Mo_greedy) (d + 6) TT R 132 [some (.inr (some 133)), some (.inl (nI (k + 1))), some (.inl y), some (.inl (nI (zs_gs (zs_gn sp F) F.1 (k + 1)))), o1, o2, o3, o4, o5] [] g := by
      intro g e1 e2 e3 o1 o2 o3 o4 o5
      have gO := zO_fr e1 hO
      obtain ⟨p50, p51, p52⟩ := zp_m2 gO.1
      obtain ⟨bc, bl⟩ := zs_gs_bc (zs_gn sp F) F.1 (k + 1) (by omega)
      have hRR := hR g e1
      refine zm_go g_Mo_greedy [38, 55] 30 (by decide +kernel) ok_Mo_greedy _ rfl ?_
      simp only [↓zq, ↓reduceIte, zr_si2, zr_sr1, zr_cp2, zr_tl, zr_tn, shq, List.contains_nil, List.contains_cons, Nat.reduceBEq, Bool.false_or, Bool.or_false, Bool.true_or, Bool.false_eq_true, if_false, if_true, true_and, and_true, List.set_cons_zero, List.set_cons_succ, List.length_cons, List.length_nil, Nat.reduceAdd, Nat.reduceLeDiff, Nat.le_refl, Nat.zero_le, true_or, or_true, zn_cl, ↓jj_Mo_greedy, p52]
      rcases hy with rfl | ⟨w, w1, w2, rfl⟩
      · rw [if_pos rfl] at hRR
        refine ⟨fun z => absurd rfl z, fun _ => ?_⟩
        refine k_Mo_priceBy (G := zs_gn sp F) (n := F.1) gO.1 bl gO.2.1.1.1 (by omega) e2 (zs_gn_le sp F) ?_
        simp only [↓zq, ↓reduceIte, zr_si2, zr_sr1, zr_cp2, zr_tl, zr_tn, shq, List.contains_nil, List.contains_cons, Nat.reduceBEq, Bool.false_or, Bool.or_false, Bool.true_or, Bool.false_eq_true, if_false, if_true, true_and, and_true, List.set_cons_zero, List.set_cons_succ, List.length_cons, List.length_nil, Nat.reduceAdd, Nat.reduceLeDiff, Nat.le_refl, Nat.zero_le, true_or, or_true, zn_cl, ↓jj_Mo_greedy]
        exact hRR
      · have nz : ¬ nI w = 0 := by
          rw [zn_z (by omega)]
          omega
        rw [if_neg nz, zs_ix_of (show w < 16 by omega) (by decide)] at hRR
        simp only [] at hRR
        rw [if_pos ⟨w1, w2⟩] at hRR
        refine ⟨fun _ => ?_, fun z => absurd z nz⟩
        rw [show (10 : Int32) = nI 10 from rfl, pk_sub (by omega)]
        refine ⟨vp_in_nI (by omega) (by decide), ?_⟩
        rw [nI_clamp (by omega), e3 _ (by omega)]
        exact hRR
    have loopI : ∀ (m nd i : Nat), nd + m = 27 → i < k + 1 → ∀ g : zm_M, zo_fr h g → (∀ nd, nd < 27 → g.1 167 nd = nI (zs_gn sp F nd)) → (∀ j, j < i → g.1 168 j = nI (zs_gp (zs_gn sp F) F.1 (zs_gs (zs_gn sp F) F.1 j)).1) → (∀ g : zm_M, zo_fr h g → (∀ nd, nd < 27 → g.1 167 nd = nI (zs_gn sp F nd)) → (∀ j, j < i + 1 → g.1 168 j = nI (zs_gp (zs_gn sp F) F.1 (zs_gs (zs_gn sp F) F.1 j)).1) → ∀ o2 o3 o4 o5, zm_W (zm_md m_Mo_greedy) (d + 6) TT R 38 [some (.inr (some 133)), some (.inl (nI (k + 1))), some (.inl y), some (.inl (nI (zs_gs (zs_gn sp F) F.1 (i + 1)))), some (.inl (nI (i + 1))), o2, o3, o4, o5] [] g) → ∀ o, zm_W (zm_md m_Mo_greedy) (d + 6) TT R 55 [some (.inr (some 133)), some (.inl (nI (k + 1))), some (.inl y), some (.inl (nI (zs_gs (zs_gn sp F) F.1 i))), some (.inl (nI i)), some (.inl (zs_pkv (zs_pk (zs_gn sp F) F.1 (zs_gs (zs_gn sp F) F.1 i) nd))), some (.inl (zs_pkp (zs_pk (zs_gn sp F) F.1 (zs_gs (zs_gn sp F) F.1 i) nd))), some (.inl (nI nd)), o] [] g := by
      intro m
      induction m with
      | zero =>
        intro nd i hnd hi g e1 e2 e3 nx o
        have : nd = 27 := by omega
        subst this
        have gO := zO_fr e1 hO
        obtain ⟨p50, p51, p52⟩ := zp_m2 gO.1
        obtain ⟨s0, s1, s2, s3⟩ := zs_gs_spec (zs_gn sp F) F.1 (show i < 6 by omega)
        rw [s0]
        simp only [zs_pkv, zs_pkp]
        have v1 : vp_in (nI i) 6 := vp_in_nI (by omega) (by decide)
        have c1 := nI_clamp (show i < 2 ^ 31 by omega)
        refine zm_go g_Mo_greedy [38, 55] 30 (by decide +kernel) ok_Mo_greedy _ rfl ?_
        simp only [↓zq, ↓reduceIte, zr_si2, zr_sr1, zr_cp2, zr_tl, zr_tn, shq, List.contains_nil, List.contains_cons, Nat.reduceBEq, Bool.false_or, Bool.or_false, Bool.true_or, Bool.false_eq_true, if_false, if_true, true_and, and_true, List.set_cons_zero, List.set_cons_succ, List.length_cons, List.length_nil, Nat.reduceAdd, Nat.reduceLeDiff, Nat.le_refl, Nat.zero_le, true_or, or_true, zn_cl, ↓jj_Mo_greedy, p52, v1, c1, nI_1]
        refine ⟨fun _ => ?_, fun z => absurd (Int32.le_refl _) z⟩
        rw [zn_s1 _ (by omega), zn_or]
        refine nx _ (e1.tr (zo_fr.of (by rfl) (fun a ha => ?_))) (fun nd hnd => ?_) (fun j hj => ?_) _ _ _ _
        · funext q
          simp only [zr_si1]
          rw [if_neg (by omega)]
        · simp only [zr_si1]
          rw [if_neg (by omega)]
          exact e2 nd hnd
        · simp only [zr_si1]
          by_cases ej : j = i
          · rw [if_pos ⟨trivial, ej⟩, ej]
          · rw [if_neg (by omega)]
            exact e3 j (by omega)
      | succ m ih =>
        intro nd i hnd hi g e1 e2 e3 nx o
        have ih := ih (nd + 1) i (by omega) hi g e1 e2 e3 nx
        have gO := zO_fr e1 hO
        obtain ⟨bc, bl⟩ := zs_gs_bc (zs_gn sp F) F.1 i (by omega)
        rw [zs_pk] at ih
        refine zm_go g_Mo_greedy [38, 55] 30 (by decide +kernel) ok_Mo_greedy _ rfl ?_
        simp only [↓zq, ↓reduceIte, zr_si2, zr_sr1, zr_cp2, zr_tl, zr_tn, shq, List.contains_nil, List.contains_cons, Nat.reduceBEq, Bool.false_or, Bool.or_false, Bool.true_or, Bool.false_eq_true, if_false, if_true, true_and, and_true, List.set_cons_zero, List.set_cons_succ, List.length_cons, List.length_nil, Nat.reduceAdd, Nat.reduceLeDiff, Nat.le_refl, Nat.zero_le, true_or, or_true, zn_cl, ↓jj_Mo_greedy]
        refine ⟨fun z => absurd z (nI_ge (b := 27) (by omega) (by decide)), fun _ => ?_⟩
        refine k_Mo_hasN (by omega) (by omega) ?_
        simp only [↓zq, ↓reduceIte, zr_si2, zr_sr1, zr_cp2, zr_tl, zr_tn, shq, List.contains_nil, List.contains_cons, Nat.reduceBEq, Bool.false_or, Bool.or_false, Bool.true_or, Bool.false_eq_true, if_false, if_true, true_and, and_true, List.set_cons_zero, List.set_cons_succ, List.length_cons, List.length_nil, Nat.reduceAdd, Nat.reduceLeDiff, Nat.le_refl, Nat.zero_le, true_or, or_true, zn_cl, ↓jj_Mo_greedy, nI_1]
        cases eb : (zs_gs (zs_gn sp F) F.1 i).testBit nd
        · rw [eb] at ih
          simp only [Bool.false_eq_true, if_false] at ih ⊢
          refine ⟨fun _ => ?_, fun z => absurd trivial z⟩
          rw [zn_s1 _ (by omega), zn_or]
          have bl2 : zs_gs (zs_gn sp F) F.1 i ||| 2 ^ nd < 2 ^ 27 := Nat.or_lt_two_pow bl (Nat.pow_lt_pow_right (by decide) (by omega))
          refine k_Mo_priceBy (G := zs_gn sp F) (n := F.1) gO.1 bl2 gO.2.1.1.1 (by omega) e2 (zs_gn_le sp F) ?_
          have pl : zs_prc (zs_gn sp F) F.1 (zs_gs (zs_gn sp F) F.1 i ||| 2 ^ nd) ≤ 240 * 27 := Nat.le_trans (zs_prc_le _ _ _) (Nat.mul_le_mul_right 27 hw1)
          simp only [↓zq, ↓reduceIte, zr_si2, zr_sr1, zr_cp2, zr_tl, zr_tn, shq, List.contains_nil, List.contains_cons, Nat.reduceBEq, Bool.false_or, Bool.or_false, Bool.true_or, Bool.false_eq_true, if_false, if_true, true_and, and_true, List.set_cons_zero, List.set_cons_succ, List.length_cons, List.length_nil, Nat.reduceAdd, Nat.reduceLeDiff, Nat.le_refl, Nat.zero_le, true_or, or_true, zn_cl, ↓jj_Mo_greedy, nI_1]
          cases eo : zs_pk (zs_gn sp F) F.1 (zs_gs (zs_gn sp F) F.1 i) nd with
          | none =>
            rw [eo] at ih
            simp only [zs_pkv, zs_pkp] at ih ⊢
            exact ⟨fun _ => ih _, fun z => absurd (nI_lt (b := 100000000) (by omega) (by decide)) z⟩
          | some bp =>
            have pb := zs_pk_lt (show F.1 ≤ 512 by omega) eo
            rw [eo] at ih
            simp only [zs_pkv, zs_pkp] at ih ⊢
            rw [zn_lt (by omega) (by omega)]
            refine ⟨fun z => ?_, fun z => ?_⟩
            · rw [if_pos z] at ih
              exact ih _
            · rw [if_neg z] at ih
              exact ih _
        · rw [eb] at ih
          simp only [if_true] at ih ⊢
          exact ⟨fun z => absurd z (by decide), fun _ => ih _⟩
    have loopO : ∀ (m i : Nat), i + m = k + 1 → ∀ g : zm_M, zo_fr h g → (∀ nd, nd < 27 → g.1 167 nd = nI (zs_gn sp F nd)) → (∀ j, j < i → g.1 168 j = nI (zs_gp (zs_gn sp F) F.1 (zs_gs (zs_gn sp F) F.1 j)).1) → ∀ o2 o3 o4 o5, zm_W (zm_md m_Mo_greedy) (d + 6) TT R 38 [some (.inr (some 133)), some (.inl (nI (k + 1))), some (.inl y), some (.inl (nI (zs_gs (zs_gn sp F) F.1 i))), some (.inl (nI i)), o2, o3, o4, o5] [] g := by
      intro m
      induction m with
      | zero =>
        intro i hi g e1 e2 e3 o2 o3 o4 o5
        have : i = k + 1 := by omega
        subst this
        refine zm_go g_Mo_greedy [38, 55, 132] 30 (by decide +kernel) ok_Mo_greedy _ rfl ?_
        simp only [↓zq, ↓reduceIte, zr_si2, zr_sr1, zr_cp2, zr_tl, zr_tn, shq, List.contains_nil, List.contains_cons, Nat.reduceBEq, Bool.false_or, Bool.or_false, Bool.true_or, Bool.false_eq_true, if_false, if_true, true_and, and_true, List.set_cons_zero, List.set_cons_succ, List.length_cons, List.length_nil, Nat.reduceAdd, Nat.reduceLeDiff, Nat.le_refl, Nat.zero_le, true_or, or_true, zn_cl, ↓jj_Mo_greedy]
        exact ⟨fun _ => fin g e1 e2 e3 _ _ _ _ _, fun z => absurd (Int32.le_refl _) z⟩
      | succ m ih =>
        intro i hi g e1 e2 e3 o2 o3 o4 o5
        refine zm_go g_Mo_greedy [38, 55, 132] 30 (by decide +kernel) ok_Mo_greedy _ rfl ?_
        simp only [↓zq, ↓reduceIte, zr_si2, zr_sr1, zr_cp2, zr_tl, zr_tn, shq, List.contains_nil, List.contains_cons, Nat.reduceBEq, Bool.false_or, Bool.or_false, Bool.true_or, Bool.false_eq_true, if_false, if_true, true_and, and_true, List.set_cons_zero, List.set_cons_succ, List.length_cons, List.length_nil, Nat.reduceAdd, Nat.reduceLeDiff, Nat.le_refl, Nat.zero_le, true_or, or_true, zn_cl, ↓jj_Mo_greedy]
        refine ⟨fun z => absurd z (nI_ge (by omega) (by omega)), fun _ => ?_⟩
        exact loopI 27 0 i rfl (by omega) g e1 e2 e3 (ih (i + 1) (by omega)) _
    refine zm_go g_Mo_greedy [38, 55] 30 (by decide +kernel) ok_Mo_greedy _ rfl ?_
    simp only [↓zq, ↓reduceIte, zr_si2, zr_sr1, zr_cp2, zr_tl, zr_tn, shq, List.contains_nil, List.contains_cons, Nat.reduceBEq, Bool.false_or, Bool.or_false, Bool.true_or, Bool.false_eq_true, if_false, if_true, true_and, and_true, List.set_cons_zero, List.set_cons_succ, List.length_cons, List.length_nil, Nat.reduceAdd, Nat.reduceLeDiff, Nat.le_refl, Nat.zero_le, true_or, or_true, zn_cl, ↓jj_Mo_greedy]
    refine k_Mo_laysLattice hO (fun g e1 e2 => ?_)
    simp only [↓zq, ↓reduceIte, zr_si2, zr_sr1, zr_cp2, zr_tl, zr_tn, shq, List.contains_nil, List.contains_cons, Nat.reduceBEq, Bool.false_or, Bool.or_false, Bool.true_or, Bool.false_eq_true, if_false, if_true, true_and, and_true, List.set_cons_zero, List.set_cons_succ, List.length_cons, List.length_nil, Nat.reduceAdd, Nat.reduceLeDiff, Nat.le_refl, Nat.zero_le, true_or, or_true, zn_cl, ↓jj_Mo_greedy]
    exact loopO (k + 1) 0 (by omega) g e1 e2 (fun j hj => absurd hj (Nat.not_lt_zero j)) _ _ _ _
  refine st_Mo_greedy [29] 9 ?_
  simp only [↓zq, ↓reduceIte, zr_si2, zr_sr1, zr_cp2, zr_tl, zr_tn, shq, List.contains_nil, List.contains_cons, Nat.reduceBEq, Bool.false_or, Bool.or_false, Bool.true_or, Bool.false_eq_true, if_false, if_true, true_and, and_true, List.set_cons_zero, List.set_cons_succ, List.length_cons, List.length_nil, Nat.reduceAdd, Nat.reduceLeDiff, Nat.le_refl, Nat.zero_le, true_or, or_true, zn_cl, ↓jj_Mo_greedy]
  refine k_Mo_in (fun a b => ?_) (fun a => ?_)
  · obtain ⟨j, hj, e⟩ := zn_of (n := 7) (x := x) (m := 7) (fun z => a (by clear hR R0 main; (simp only [Int32.lt_iff_toInt_lt, Int32.le_iff_toInt_le, ← Int32.toInt_inj, zi_c] at *; omega))) (fun z => b (by clear hR R0 main; (simp only [Int32.lt_iff_toInt_lt, Int32.le_iff_toInt_le, ← Int32.toInt_inj, zi_c] at *; omega)))
    rw [e, zs_ix_of hj (by decide)] at R0
    cases j with
    | zero => subst e; exact absurd (by decide) a
    | succ k =>
      simp only [] at R0
      have main := main k (by omega) e
      simp only [↓zq, ↓reduceIte, zr_si2, zr_sr1, zr_cp2, zr_tl, zr_tn, shq, List.contains_nil, List.contains_cons, Nat.reduceBEq, Bool.false_or, Bool.or_false, Bool.true_or, Bool.false_eq_true, if_false, if_true, true_and, and_true, List.set_cons_zero, List.set_cons_succ, List.length_cons, List.length_nil, Nat.reduceAdd, Nat.reduceLeDiff, Nat.le_refl, Nat.zero_le, true_or, or_true, zn_cl, ↓jj_Mo_greedy]
      refine ⟨fun z => absurd z (by decide), fun _ => ⟨fun z => main (Or.inl z), fun z => ?_⟩⟩
      rw [if_neg z] at R0
      subst e
      rw [show (9 : Int32) = nI 9 from rfl, nI_add]
      refine k_Mo_in (fun a b => ?_) (fun a => ?_)
      · have b2 : ¬ nI 16 ≤ y := fun z => b (by
          have h2 : nI (9 + (k + 1)) < nI 16 := nI_lt (by omega) (by decide)
          clear hR R0 main
          generalize nI (9 + (k + 1)) = q at *
          have z : (16 : Int32) ≤ y := z
          have h2 : q < (16 : Int32) := h2
          simp only [Int32.lt_iff_toInt_lt, Int32.le_iff_toInt_le] at *
          omega)
        obtain ⟨w, hw, rfl⟩ := zn_of (n := 16) (x := y) (m := nI 16) (fun z => a (by clear hR R0 main; (simp only [Int32.lt_iff_toInt_lt, Int32.le_iff_toInt_le, ← Int32.toInt_inj, zi_c] at *; omega))) b2 rfl (by decide)
        rw [show (10 : Int32) = nI 10 from rfl, zn_lt (by omega) (by decide)] at a
        rw [zn_lt (by omega) (by omega)] at b
        simp only [↓zq, ↓reduceIte, zr_si2, zr_sr1, zr_cp2, zr_tl, zr_tn, shq, List.contains_nil, List.contains_cons, Nat.reduceBEq, Bool.false_or, Bool.or_false, Bool.true_or, Bool.false_eq_true, if_false, if_true, true_and, and_true, List.set_cons_zero, List.set_cons_succ, List.length_cons, List.length_nil, Nat.reduceAdd, Nat.reduceLeDiff, Nat.le_refl, Nat.zero_le, true_or, or_true, zn_cl, ↓jj_Mo_greedy]
        exact ⟨fun _ => main (Or.inr ⟨w, by omega, by omega, rfl⟩), fun z => absurd z (by decide)⟩
      · simp only [↓zq, ↓reduceIte, zr_si2, zr_sr1, zr_cp2, zr_tl, zr_tn, shq, List.contains_nil, List.contains_cons, Nat.reduceBEq, Bool.false_or, Bool.or_false, Bool.true_or, Bool.false_eq_true, if_false, if_true, true_and, and_true, List.set_cons_zero, List.set_cons_succ, List.length_cons, List.length_nil, Nat.reduceAdd, Nat.reduceLeDiff, Nat.le_refl, Nat.zero_le, true_or, or_true, zn_cl, ↓jj_Mo_greedy]
        refine ⟨fun z => absurd trivial z, fun _ => ?_⟩
        rcases zs_cas y 16 (by decide) with ⟨w, hw, rfl⟩ | e
        · rw [zs_ix_of hw (by decide)] at R0
          simp only [] at R0
          rw [show (10 : Int32) = nI 10 from rfl, zn_lt (by omega) (by decide), zn_lt (by omega) (by omega)] at a
          rw [if_neg (by omega)] at R0
          exact R0
        · rw [zs_ix_no e] at R0
          exact R0
  · simp only [↓zq, ↓reduceIte, zr_si2, zr_sr1, zr_cp2, zr_tl, zr_tn, shq, List.contains_nil, List.contains_cons, Nat.reduceBEq, Bool.false_or, Bool.or_false, Bool.true_or, Bool.false_eq_true, if_false, if_true, true_and, and_true, List.set_cons_zero, List.set_cons_succ, List.length_cons, List.length_nil, Nat.reduceAdd, Nat.reduceLeDiff, Nat.le_refl, Nat.zero_le, true_or, or_true, zn_cl, ↓jj_Mo_greedy]
    refine ⟨fun _ => ?_, fun z => absurd trivial z⟩
    rcases zs_cas x 7 (by decide) with ⟨j, hj, rfl⟩ | e
    · rw [zs_ix_of hj (by decide)] at R0
      rw [show (1 : Int32) = nI 1 from rfl, show (6 : Int32) = nI 6 from rfl, zn_lt (by omega) (by decide), zn_lt (by omega) (by omega)] at a
      have : j = 0 := by omega
      subst this
      exact R0
    · rw [zs_ix_no e] at R0
      exact R0
def zs_b2a (o : Option (Nat × Nat × Nat)) : Int32 := match o with
  | none => 100000000
  | some y => nI y.2.2
def zs_b2b (o : Option (Nat × Nat × Nat)) : Int32 := match o with
  | none => -1
  | some y => nI y.1
def zs_b2c (o : Option (Nat × Nat × Nat)) : Int32 := match o with
  | none => -2
  | some y => nI y.2.1
set_option maxHeartbeats 4000000 in
set_option maxRecDepth 100000 in
theorem k_Mo_best {d : Nat} {h : zm_M} {R : zm_R} {F : zs_F} {sp : Nat → Nat} {U : zs_U} {Q : zs_Q} {x y : Int32} (hO : zO h F sp U Q) (hR : ∀ h' : zm_M, zo_fr h h' → R (some (.inl (A_best F sp x y))) h') : zm_C (d + 6) TT m_Mo_best [.inr (some 133), .inl x, .inl y] h R := by
  have hw1 := hO.2.1.2.1
  have R0 := hR h (zo_fr.rf h)
  unfold A_best at hR R0
  have ple : ∀ y, zs_prc (zs_gn sp F) F.1 y ≤ 240 * 27 := fun y => Nat.le_trans (zs_prc_le _ _ _) (Nat.mul_le_mul_right 27 hw1)
  have n27 : F.1 * 27 ≤ 240 * 27 := Nat.mul_le_mul_right 27 hw1
  have p2 : ∀ a b, a < 27 → b < 27 → 2 ^ a ||| 2 ^ b < 2 ^ 27 := fun a b ha hb => Nat.or_lt_two_pow (Nat.pow_lt_pow_right (by decide) ha) (Nat.pow_lt_pow_right (by decide) hb)
  have fin : ∀ (g : zm_M) (k w : Nat) (a b c : Int32), w < 3 → R (some (.inl (if w = 0 then a else if w = 1 then b else c))) g → ∀ o1 o2 o3, zm_W (zm_md m_Mo_best) (d + 6) TT R 137 [some (.inr (some 133)), some (.inl (nI k)), some (.inl (nI w)), some (.inl a), some (.inl b), some (.inl c), o1, o2, o3] [] g := by
    intro g k w a b c hw hr o1 o2 o3
    refine zm_go g_Mo_best [38, 61] 30 (by decide +kernel) ok_Mo_best _ rfl ?_
    simp only [↓zq, ↓reduceIte, zr_si2, zr_sr1, zr_cp2, zr_tl, zr_tn, shq, List.contains_nil, List.contains_cons, Nat.reduceBEq, Bool.false_or, Bool.or_false, Bool.true_or, Bool.false_eq_true, if_false, if_true, true_and, and_true, List.set_cons_zero, List.set_cons_succ, List.length_cons, List.length_nil, Nat.reduceAdd, Nat.reduceLeDiff, Nat.le_refl, Nat.zero_le, true_or, or_true, zn_cl, ↓jj_Mo_best]
    rcases (show w = 0 ∨ w = 1 ∨ w = 2 by omega) with rfl | rfl | rfl
    · exact ⟨fun z => absurd rfl z, fun _ => hr⟩
    · exact ⟨fun _ => ⟨fun z => absurd rfl z, fun _ => hr⟩, fun z => absurd z (by decide)⟩
    · exact ⟨fun _ => ⟨fun _ => hr, fun z => absurd z (by decide)⟩, fun z => absurd z (by decide)⟩
  -- one
  have one : ∀ w, w < 3 → y = nI w → x = nI 1 → zm_W (zm_md m_Mo_best) (d + 6) TT R 20 [some (.inr (some 133)), some (.inl (nI 1)), some (.inl (nI w)), none, none, none, none, none, none] [] h := by
    intro w hw hy hx
    subst hx
    subst hy
    rw [zs_ix_of (show 1 < 3 by decide) (by decide), zs_ix_of hw (by decide)] at hR
    have loop : ∀ (m a : Nat), a + m = 27 → ∀ g : zm_M, zo_fr h g → (∀ nd, nd < 27 → g.1 167 nd = nI (zs_gn sp F nd)) → ∀ o1 o2, zm_W (zm_md m_Mo_best) (d + 6) TT R 38 [some (.inr (some 133)), some (.inl (nI 1)), some (.inl (nI w)), some (.inl (zs_pkp (zs_pk (zs_gn sp F) F.1 0 a))), some (.inl (zs_pkv (zs_pk (zs_gn sp F) F.1 0 a))), some (.inl (-2)), some (.inl (nI a)), o1, o2] [] g := by
      intro m
      induction m with
      | zero =>
        intro a ha g e1 e2 o1 o2
        have : a = 27 := by omega
        subst this
        have e0 := zs_gp_ok (G := zs_gn sp F) (n := F.1) (x := 0) (by decide +kernel)
        refine zm_go g_Mo_best [38, 61, 137] 30 (by decide +kernel) ok_Mo_best _ rfl ?_
        simp only [↓zq, ↓reduceIte, zr_si2, zr_sr1, zr_cp2, zr_tl, zr_tn, shq, List.contains_nil, List.contains_cons, Nat.reduceBEq, Bool.false_or, Bool.or_false, Bool.true_or, Bool.false_eq_true, if_false, if_true, true_and, and_true, List.set_cons_zero, List.set_cons_succ, List.length_cons, List.length_nil, Nat.reduceAdd, Nat.reduceLeDiff, Nat.le_refl, Nat.zero_le, true_or, or_true, zn_cl, ↓jj_Mo_best]
        refine ⟨fun _ => fin g 1 w _ _ _ hw ?_ _ _ _, fun z => absurd (Int32.le_refl _) z⟩
        rw [e0]
        have hRR := hR g e1
        rcases (show w = 0 ∨ w = 1 ∨ w = 2 by omega) with rfl | rfl | rfl <;> exact hRR
      | succ m ih =>
        intro a ha g e1 e2 o1 o2
        have ih := ih (a + 1) (by omega) g e1 e2
        rw [zs_pk] at ih
        have gO := zO_fr e1 hO
        have pl := ple (2 ^ a)
        have en : ¬ nI (a + 1) ≤ nI a := by
          rw [zn_le (by omega) (by omega)]
          omega
        have endin : ∀ A B o1, zm_W (zm_md m_Mo_best) (d + 6) TT R 38 [some (.inr (some 133)), some (.inl (nI 1)), some (.inl (nI w)), some (.inl A), some (.inl B), some (.inl (-2)), some (.inl (nI (a + 1))), some (.inl (nI (a + 1))), o1] [] g → zm_W (zm_md m_Mo_best) (d + 6) TT R 61 [some (.inr (some 133)), some (.inl (nI 1)), some (.inl (nI w)), some (.inl A), some (.inl B), some (.inl (-2)), some (.inl (nI a)), some (.inl (nI (a + 1))), o1] [] g := by
          intro A B o1 hh
          refine zm_go g_Mo_best [38, 61] 30 (by decide +kernel) ok_Mo_best _ rfl ?_
          simp only [↓zq, ↓reduceIte, zr_si2, zr_sr1, zr_cp2, zr_tl, zr_tn, shq, List.contains_nil, List.contains_cons, Nat.reduceBEq, Bool.false_or, Bool.or_false, Bool.true_or, Bool.false_eq_true, if_false, if_true, true_and, and_true, List.set_cons_zero, List.set_cons_succ, List.length_cons, List.length_nil, Nat.reduceAdd, Nat.reduceLeDiff, Nat.le_refl, Nat.zero_le, true_or, or_true, zn_cl, ↓jj_Mo_best, nI_1]
          exact ⟨fun z => absurd rfl z, fun _ => ⟨fun _ => hh, fun z => absurd (Int32.le_refl _) z⟩⟩
        refine zm_go g_Mo_best [38, 61] 30 (by decide +kernel) ok_Mo_best _ rfl ?_
        simp only [↓zq, ↓reduceIte, zr_si2, zr_sr1, zr_cp2, zr_tl, zr_tn, shq, List.contains_nil, List.contains_cons, Nat.reduceBEq, Bool.false_or, Bool.or_false, Bool.true_or, Bool.false_eq_true, if_false, if_true, true_and, and_true, List.set_cons_zero, List.set_cons_succ, List.length_cons, List.length_nil, Nat.reduceAdd, Nat.reduceLeDiff, Nat.le_refl, Nat.zero_le, true_or, or_true, zn_cl, ↓jj_Mo_best]
        refine ⟨fun z => absurd z (nI_ge (b := 27) (by omega) (by decide)), fun _ => ⟨fun z => absurd rfl z, fun _ => ?_⟩⟩
        refine zm_go g_Mo_best [38, 61] 30 (by decide +kernel) ok_Mo_best _ rfl ?_
        simp only [↓zq, ↓reduceIte, zr_si2, zr_sr1, zr_cp2, zr_tl, zr_tn, shq, List.contains_nil, List.contains_cons, Nat.reduceBEq, Bool.false_or, Bool.or_false, Bool.true_or, Bool.false_eq_true, if_false, if_true, true_and, and_true, List.set_cons_zero, List.set_cons_succ, List.length_cons, List.length_nil, Nat.reduceAdd, Nat.reduceLeDiff, Nat.le_refl, Nat.zero_le, true_or, or_true, zn_cl, ↓jj_Mo_best, nI_1]
        refine ⟨fun z => absurd rfl z, fun _ => ⟨fun z => absurd z en, fun _ => ?_⟩⟩
        rw [zn_s1 _ (by omega), zn_or, Nat.or_self]
        refine k_Mo_priceBy (G := zs_gn sp F) (n := F.1) gO.1 (Nat.pow_lt_pow_right (by decide) (by omega)) gO.2.1.1.1 (by omega) e2 (zs_gn_le sp F) ?_
        rw [Nat.zero_testBit, if_neg (by decide), Nat.zero_or] at ih
        simp only [↓zq, ↓reduceIte, zr_si2, zr_sr1, zr_cp2, zr_tl, zr_tn, shq, List.contains_nil, List.contains_cons, Nat.reduceBEq, Bool.false_or, Bool.or_false, Bool.true_or, Bool.false_eq_true, if_false, if_true, true_and, and_true, List.set_cons_zero, List.set_cons_succ, List.length_cons, List.length_nil, Nat.reduceAdd, Nat.reduceLeDiff, Nat.le_refl, Nat.zero_le, true_or, or_true, zn_cl, ↓jj_Mo_best, nI_1]
        cases eo : zs_pk (zs_gn sp F) F.1 0 a with
        | none =>
          rw [eo] at ih
          simp only [zs_pkp, zs_pkv] at ih ⊢
          exact ⟨fun _ => ⟨fun z => absurd rfl z, fun _ => endin _ _ _ (ih _ _)⟩, fun z => absurd (nI_lt (b := 100000000) (by omega) (by decide)) z⟩
        | some bp =>
          have pb := zs_pk_lt (show F.1 ≤ 512 by omega) eo
          rw [eo] at ih
          simp only [zs_pkp, zs_pkv] at ih ⊢
          rw [zn_lt (by omega) (by omega)]
          refine ⟨fun z => ⟨fun z => absurd rfl z, fun _ => ?_⟩, fun z => ?_⟩
          · rw [if_pos z] at ih
            exact endin _ _ _ (ih _ _)
          · rw [if_neg z] at ih
            exact endin _ _ _ (ih _ _)
    refine zm_go g_Mo_best [38, 61] 30 (by decide +kernel) ok_Mo_best _ rfl ?_
    simp only [↓zq, ↓reduceIte, zr_si2, zr_sr1, zr_cp2, zr_tl, zr_tn, shq, List.contains_nil, List.contains_cons, Nat.reduceBEq, Bool.false_or, Bool.or_false, Bool.true_or, Bool.false_eq_true, if_false, if_true, true_and, and_true, List.set_cons_zero, List.set_cons_succ, List.length_cons, List.length_nil, Nat.reduceAdd, Nat.reduceLeDiff, Nat.le_refl, Nat.zero_le, true_or, or_true, zn_cl, ↓jj_Mo_best]
    refine k_Mo_laysLattice hO (fun g e1 e2 => ?_)
    simp only [↓zq, ↓reduceIte, zr_si2, zr_sr1, zr_cp2, zr_tl, zr_tn, shq, List.contains_nil, List.contains_cons, Nat.reduceBEq, Bool.false_or, Bool.or_false, Bool.true_or, Bool.false_eq_true, if_false, if_true, true_and, and_true, List.set_cons_zero, List.set_cons_succ, List.length_cons, List.length_nil, Nat.reduceAdd, Nat.reduceLeDiff, Nat.le_refl, Nat.zero_le, true_or, or_true, zn_cl, ↓jj_Mo_best]
    exact loop 27 0 rfl g e1 e2 _ _
  have two : ∀ w, w < 3 → y = nI w → x = nI 2 → zm_W (zm_md m_Mo_best) (d + 6) TT R 20 [some (.inr (some 133)), some (.inl (nI 2)), some (.inl (nI w)), none, none, none, none, none, none] [] h := by
    intro w hw hy hx
    subst hx
    subst hy
    rw [zs_ix_of (show 2 < 3 by decide) (by decide), zs_ix_of hw (by decide)] at hR
    have loopI : ∀ (m j a : Nat), a < 27 → j + m = 26 - a → ∀ g : zm_M, zo_fr h g → (∀ nd, nd < 27 → g.1 167 nd = nI (zs_gn sp F nd)) → (∀ o1 o2, zm_W (zm_md m_Mo_best) (d + 6) TT R 38 [some (.inr (some 133)), some (.inl (nI 2)), some (.inl (nI w)), some (.inl (zs_b2a (zs_bo (zs_gn sp F) F.1 (a + 1)))), some (.inl (zs_b2b (zs_bo (zs_gn sp F) F.1 (a + 1)))), some (.inl (zs_b2c (zs_bo (zs_gn sp F) F.1 (a + 1)))), some (.inl (nI (a + 1))), o1, o2] [] g) → ∀ o, zm_W (zm_md m_Mo_best) (d + 6) TT R 61 [some (.inr (some 133)), some (.inl (nI 2)), some (.inl (nI w)), some (.inl (zs_b2a (zs_bi (zs_gn sp F) F.1 a (zs_bo (zs_gn sp F) F.1 a) j))), some (.inl (zs_b2b (zs_bi (zs_gn sp F) F.1 a (zs_bo (zs_gn sp F) F.1 a) j))), some (.inl (zs_b2c (zs_bi (zs_gn sp F) F.1 a (zs_bo (zs_gn sp F) F.1 a) j))), some (.inl (nI a)), some (.inl (nI (a + 1 + j))), o] [] g := by
      intro m
      induction m with
      | zero =>
        intro j a ha hj g e1 e2 nx o
        have : j = 26 - a := by omega
        subst this
        refine zm_go g_Mo_best [38, 61] 30 (by decide +kernel) ok_Mo_best _ rfl ?_
        simp only [↓zq, ↓reduceIte, zr_si2, zr_sr1, zr_cp2, zr_tl, zr_tn, shq, List.contains_nil, List.contains_cons, Nat.reduceBEq, Bool.false_or, Bool.or_false, Bool.true_or, Bool.false_eq_true, if_false, if_true, true_and, and_true, List.set_cons_zero, List.set_cons_succ, List.length_cons, List.length_nil, Nat.reduceAdd, Nat.reduceLeDiff, Nat.le_refl, Nat.zero_le, true_or, or_true, zn_cl, ↓jj_Mo_best, nI_1]
        exact ⟨fun _ => ⟨fun _ => nx _ _, fun z => absurd (nI_le (a := 27) (b := a + 1 + (26 - a)) (by omega) (by omega)) z⟩, fun z => absurd z (by decide)⟩
      | succ m ih =>
        intro j a ha hj g e1 e2 nx o
        have ih := ih (j + 1) a ha (by omega) g e1 e2 nx
        rw [zs_bi] at ih
        have gO := zO_fr e1 hO
        have pl := ple (2 ^ a ||| 2 ^ (a + 1 + j))
        refine zm_go g_Mo_best [38, 61] 30 (by decide +kernel) ok_Mo_best _ rfl ?_
        simp only [↓zq, ↓reduceIte, zr_si2, zr_sr1, zr_cp2, zr_tl, zr_tn, shq, List.contains_nil, List.contains_cons, Nat.reduceBEq, Bool.false_or, Bool.or_false, Bool.true_or, Bool.false_eq_true, if_false, if_true, true_and, and_true, List.set_cons_zero, List.set_cons_succ, List.length_cons, List.length_nil, Nat.reduceAdd, Nat.reduceLeDiff, Nat.le_refl, Nat.zero_le, true_or, or_true, zn_cl, ↓jj_Mo_best, nI_1]
        refine ⟨fun _ => ⟨fun z => absurd z (nI_ge (b := 27) (by omega) (by decide)), fun _ => ?_⟩, fun z => absurd z (by decide)⟩
        rw [zn_s1 _ (by omega), zn_s1 _ (by omega), zn_or]
        refine k_Mo_priceBy (G := zs_gn sp F) (n := F.1) gO.1 (p2 _ _ (by omega) (by omega)) gO.2.1.1.1 (by omega) e2 (zs_gn_le sp F) ?_
        simp only [↓zq, ↓reduceIte, zr_si2, zr_sr1, zr_cp2, zr_tl, zr_tn, shq, List.contains_nil, List.contains_cons, Nat.reduceBEq, Bool.false_or, Bool.or_false, Bool.true_or, Bool.false_eq_true, if_false, if_true, true_and, and_true, List.set_cons_zero, List.set_cons_succ, List.length_cons, List.length_nil, Nat.reduceAdd, Nat.reduceLeDiff, Nat.le_refl, Nat.zero_le, true_or, or_true, zn_cl, ↓jj_Mo_best, nI_1]
        cases eo : zs_bi (zs_gn sp F) F.1 a (zs_bo (zs_gn sp F) F.1 a) j with
        | none =>
          rw [eo] at ih
          simp only [zs_b2a, zs_b2b, zs_b2c, zs_up2] at ih ⊢
          exact ⟨fun _ => ⟨fun _ => ih _, fun z => absurd z (by decide)⟩, fun z => absurd (nI_lt (b := 100000000) (by omega) (by decide)) z⟩
        | some y =>
          obtain ⟨w1, w2, w3⟩ := zs_bi_ok ha (zs_bo_ok (zs_gn sp F) F.1 a (by omega)) j (by omega) y eo
          rw [eo] at ih
          simp only [zs_b2a, zs_b2b, zs_b2c, zs_up2] at ih ⊢
          rw [zn_lt (by omega) (by omega)]
          refine ⟨fun z => ⟨fun _ => ?_, fun z => absurd z (by decide)⟩, fun z => ?_⟩
          · rw [if_pos z] at ih
            exact ih _
          · rw [if_neg z] at ih
            exact ih _
    have loopO : ∀ (m a : Nat), a + m = 27 → ∀ g : zm_M, zo_fr h g → (∀ nd, nd < 27 → g.1 167 nd = nI (zs_gn sp F nd)) → ∀ o1 o2, zm_W (zm_md m_Mo_best) (d + 6) TT R 38 [some (.inr (some 133)), some (.inl (nI 2)), some (.inl (nI w)), some (.inl (zs_b2a (zs_bo (zs_gn sp F) F.1 a))), some (.inl (zs_b2b (zs_bo (zs_gn sp F) F.1 a))), some (.inl (zs_b2c (zs_bo (zs_gn sp F) F.1 a))), some (.inl (nI a)), o1, o2] [] g := by
      intro m
      induction m with
      | zero =>
        intro a ha g e1 e2 o1 o2
        have : a = 27 := by omega
        subst this
        obtain ⟨yy, hy⟩ := zs_bo_some (zs_gn sp F) F.1 26
        have hRR := hR g e1
        rw [hy] at hRR ⊢
        refine zm_go g_Mo_best [38, 61, 137] 30 (by decide +kernel) ok_Mo_best _ rfl ?_
        simp only [↓zq, ↓reduceIte, zr_si2, zr_sr1, zr_cp2, zr_tl, zr_tn, shq, List.contains_nil, List.contains_cons, Nat.reduceBEq, Bool.false_or, Bool.or_false, Bool.true_or, Bool.false_eq_true, if_false, if_true, true_and, and_true, List.set_cons_zero, List.set_cons_succ, List.length_cons, List.length_nil, Nat.reduceAdd, Nat.reduceLeDiff, Nat.le_refl, Nat.zero_le, true_or, or_true, zn_cl, ↓jj_Mo_best]
        refine ⟨fun _ => fin g 2 w _ _ _ hw ?_ _ _ _, fun z => absurd (Int32.le_refl _) z⟩
        rcases (show w = 0 ∨ w = 1 ∨ w = 2 by omega) with rfl | rfl | rfl <;> exact hRR
      | succ m ih =>
        intro a ha g e1 e2 o1 o2
        have ih := ih (a + 1) (by omega) g e1 e2
        refine zm_go g_Mo_best [38, 61] 30 (by decide +kernel) ok_Mo_best _ rfl ?_
        simp only [↓zq, ↓reduceIte, zr_si2, zr_sr1, zr_cp2, zr_tl, zr_tn, shq, List.contains_nil, List.contains_cons, Nat.reduceBEq, Bool.false_or, Bool.or_false, Bool.true_or, Bool.false_eq_true, if_false, if_true, true_and, and_true, List.set_cons_zero, List.set_cons_succ, List.length_cons, List.length_nil, Nat.reduceAdd, Nat.reduceLeDiff, Nat.le_refl, Nat.zero_le, true_or, or_true, zn_cl, ↓jj_Mo_best, nI_1]
        refine ⟨fun z => absurd z (nI_ge (b := 27) (by omega) (by decide)), fun _ => ⟨fun _ => ?_, fun z => absurd z (by decide)⟩⟩
        exact loopI (26 - a) 0 a (by omega) (by omega) g e1 e2 ih _
    refine zm_go g_Mo_best [38, 61] 30 (by decide +kernel) ok_Mo_best _ rfl ?_
    simp only [↓zq, ↓reduceIte, zr_si2, zr_sr1, zr_cp2, zr_tl, zr_tn, shq, List.contains_nil, List.contains_cons, Nat.reduceBEq, Bool.false_or, Bool.or_false, Bool.true_or, Bool.false_eq_true, if_false, if_true, true_and, and_true, List.set_cons_zero, List.set_cons_succ, List.length_cons, List.length_nil, Nat.reduceAdd, Nat.reduceLeDiff, Nat.le_refl, Nat.zero_le, true_or, or_true, zn_cl, ↓jj_Mo_best]
    refine k_Mo_laysLattice hO (fun g e1 e2 => ?_)
    simp only [↓zq, ↓reduceIte, zr_si2, zr_sr1, zr_cp2, zr_tl, zr_tn, shq, List.contains_nil, List.contains_cons, Nat.reduceBEq, Bool.false_or, Bool.or_false, Bool.true_or, Bool.false_eq_true, if_false, if_true, true_and, and_true, List.set_cons_zero, List.set_cons_succ, List.length_cons, List.length_nil, Nat.reduceAdd, Nat.reduceLeDiff, Nat.le_refl, Nat.zero_le, true_or, or_true, zn_cl, ↓jj_Mo_best]
    exact loopO 27 0 rfl g e1 e2 _ _
  refine st_Mo_best [20] 9 ?_
  simp only [↓zq, ↓reduceIte, zr_si2, zr_sr1, zr_cp2, zr_tl, zr_tn, shq, List.contains_nil, List.contains_cons, Nat.reduceBEq, Bool.false_or, Bool.or_false, Bool.true_or, Bool.false_eq_true, if_false, if_true, true_and, and_true, List.set_cons_zero, List.set_cons_succ, List.length_cons, List.length_nil, Nat.reduceAdd, Nat.reduceLeDiff, Nat.le_refl, Nat.zero_le, true_or, or_true, zn_cl, ↓jj_Mo_best]
  refine k_Mo_in (fun a b => ?_) (fun a => ?_)
  · obtain ⟨j, hj, e⟩ := zn_of (n := 3) (x := x) (m := 3) (fun z => a (by clear hR R0 one two fin; (simp only [Int32.lt_iff_toInt_lt, Int32.le_iff_toInt_le, ← Int32.toInt_inj, zi_c] at *; omega))) (fun z => b (by clear hR R0 one two fin; (simp only [Int32.lt_iff_toInt_lt, Int32.le_iff_toInt_le, ← Int32.toInt_inj, zi_c] at *; omega)))
    simp only [↓zq, ↓reduceIte, zr_si2, zr_sr1, zr_cp2, zr_tl, zr_tn, shq, List.contains_nil, List.contains_cons, Nat.reduceBEq, Bool.false_or, Bool.or_false, Bool.true_or, Bool.false_eq_true, if_false, if_true, true_and, and_true, List.set_cons_zero, List.set_cons_succ, List.length_cons, List.length_nil, Nat.reduceAdd, Nat.reduceLeDiff, Nat.le_refl, Nat.zero_le, true_or, or_true, zn_cl, ↓jj_Mo_best]
    refine ⟨fun z => absurd z (by decide), fun _ => ?_⟩
    refine k_Mo_in (fun a2 b2 => ?_) (fun a2 => ?_)
    · obtain ⟨w, hw, e2⟩ := zn_of (n := 3) (x := y) (m := 3) (fun z => a2 (by clear hR R0 one two fin; (simp only [Int32.lt_iff_toInt_lt, Int32.le_iff_toInt_le, ← Int32.toInt_inj, zi_c] at *; omega))) (fun z => b2 (by clear hR R0 one two fin; (simp only [Int32.lt_iff_toInt_lt, Int32.le_iff_toInt_le, ← Int32.toInt_inj, zi_c] at *; omega)))
      simp only [↓zq, ↓reduceIte, zr_si2, zr_sr1, zr_cp2, zr_tl, zr_tn, shq, List.contains_nil, List.contains_cons, Nat.reduceBEq, Bool.false_or, Bool.or_false, Bool.true_or, Bool.false_eq_true, if_false, if_true, true_and, and_true, List.set_cons_zero, List.set_cons_succ, List.length_cons, List.length_nil, Nat.reduceAdd, Nat.reduceLeDiff, Nat.le_refl, Nat.zero_le, true_or, or_true, zn_cl, ↓jj_Mo_best]
      refine ⟨fun _ => ?_, fun z => absurd z (by decide)⟩
      rcases (show j = 0 ∨ j = 1 ∨ j = 2 by omega) with rfl | rfl | rfl
      · subst e; exact absurd (by decide) a
      · have := one w hw e2 e
        rw [← e, ← e2] at this
        exact this
      · have := two w hw e2 e
        rw [← e, ← e2] at this
        exact this
    · simp only [↓zq, ↓reduceIte, zr_si2, zr_sr1, zr_cp2, zr_tl, zr_tn, shq, List.contains_nil, List.contains_cons, Nat.reduceBEq, Bool.false_or, Bool.or_false, Bool.true_or, Bool.false_eq_true, if_false, if_true, true_and, and_true, List.set_cons_zero, List.set_cons_succ, List.length_cons, List.length_nil, Nat.reduceAdd, Nat.reduceLeDiff, Nat.le_refl, Nat.zero_le, true_or, or_true, zn_cl, ↓jj_Mo_best]
      refine ⟨fun z => absurd trivial z, fun _ => ?_⟩
      rw [zs_ix_no (x := y) (a2.imp id (fun z => show (3 : Int32) ≤ y by clear hR R0 one two fin; (simp only [Int32.lt_iff_toInt_lt, Int32.le_iff_toInt_le, ← Int32.toInt_inj, zi_c] at *; omega))), e, zs_ix_of hj (by decide)] at R0
      rcases (show j = 0 ∨ j = 1 ∨ j = 2 by omega) with rfl | rfl | rfl <;> exact R0
  · simp only [↓zq, ↓reduceIte, zr_si2, zr_sr1, zr_cp2, zr_tl, zr_tn, shq, List.contains_nil, List.contains_cons, Nat.reduceBEq, Bool.false_or, Bool.or_false, Bool.true_or, Bool.false_eq_true, if_false, if_true, true_and, and_true, List.set_cons_zero, List.set_cons_succ, List.length_cons, List.length_nil, Nat.reduceAdd, Nat.reduceLeDiff, Nat.le_refl, Nat.zero_le, true_or, or_true, zn_cl, ↓jj_Mo_best]
    refine ⟨fun _ => ?_, fun z => absurd trivial z⟩
    rcases zs_cas x 3 (by decide) with ⟨j, hj, e⟩ | e
    · have : j = 0 := by
        rw [e, show (1 : Int32) = nI 1 from rfl, show (2 : Int32) = nI 2 from rfl, zn_lt (by omega) (by decide), zn_lt (by omega) (by omega)] at a
        omega
      subst this
      rw [e, zs_ix_of hj (by decide)] at R0
      exact R0
    · rw [zs_ix_no e] at R0
      exact R0
