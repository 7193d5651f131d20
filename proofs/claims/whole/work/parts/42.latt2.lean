/-! telling, picking -/
def zs_tl (G ls : Nat → Nat) (t : Nat) : Nat → Nat := fun nd => if zs_blw nd t = true then min (ls nd) (G t) else ls nd
theorem zs_tl_le {G ls : Nat → Nat} {t c : Nat} (h : ∀ nd, ls nd ≤ c) : ∀ nd, zs_tl G ls t nd ≤ c := fun nd => by
  have := h nd
  unfold zs_tl
  split <;> omega
set_option maxHeartbeats 4000000 in
set_option maxRecDepth 100000 in
theorem k_Latt_tellNone {d : Nat} {h : zm_M} {R : zm_R} (hp : zp_ok h.2) (hR : R none (zm_fl h 94 27 (h.1 91 8))) : zm_C (d + 2) TT m_Latt_tellNone [.inr (some 91)] h R := by
  obtain ⟨p0, p1, p2, p3, p5, p6, p7⟩ := zp_91 hp
  refine st_Latt_tellNone [] 30 ?_
  simp only [↓zq, ↓reduceIte, zr_si2, zr_sr1, zr_cp2, zr_tl, zr_tn, shq, List.contains_nil, List.contains_cons, Nat.reduceBEq, Bool.false_or, Bool.or_false, Bool.true_or, Bool.false_eq_true, if_false, if_true, true_and, and_true, List.set_cons_zero, List.set_cons_succ, List.length_cons, List.length_nil, Nat.reduceAdd, Nat.reduceLeDiff, Nat.le_refl, Nat.zero_le, true_or, or_true, zn_cl, ↓jj_Latt_tellNone, p2]
  refine k_fill (n := 27) (by decide) (by decide) ?_
  simp only [↓zq, ↓reduceIte, zr_si2, zr_sr1, zr_cp2, zr_tl, zr_tn, shq, List.contains_nil, List.contains_cons, Nat.reduceBEq, Bool.false_or, Bool.or_false, Bool.true_or, Bool.false_eq_true, if_false, if_true, true_and, and_true, List.set_cons_zero, List.set_cons_succ, List.length_cons, List.length_nil, Nat.reduceAdd, Nat.reduceLeDiff, Nat.le_refl, Nat.zero_le, true_or, or_true, zn_cl, ↓jj_Latt_tellNone]
  exact hR
set_option maxHeartbeats 4000000 in
set_option maxRecDepth 100000 in
theorem k_Latt_tell {d : Nat} {h : zm_M} {R : zm_R} {t : Nat} {G ls : Nat → Nat} (hp : zp_ok h.2) (hN : zc_N h.1) (ht : t < 27) (hG : h.1 92 t = nI (G t)) (hG2 : G t ≤ 512) (hl : ∀ nd, nd < 27 → h.1 94 nd = nI (ls nd)) (hl2 : ∀ nd, ls nd ≤ 512) (hR : ∀ h' : zm_M, h'.2 = h.2 → (∀ c, c ≠ 94 → h'.1 c = h.1 c) → (∀ nd, nd < 27 → h'.1 94 nd = nI (zs_tl G ls t nd)) → R none h') : zm_C (d + 3) TT m_Latt_tell [.inr (some 91), .inl (nI t)] h R := by
  obtain ⟨p0, p1, p2, p3, p5, p6, p7⟩ := zp_91 hp
  have loop : ∀ (n i : Nat), i + n = 27 → ∀ g : zm_M, g.2 = h.2 → (∀ c, c ≠ 94 → g.1 c = h.1 c) → (∀ nd, nd < 27 → g.1 94 nd = nI (if nd < i then zs_tl G ls t nd else ls nd)) → zm_W (zm_md m_Latt_tell) (d + 3) TT R 2 [some (.inr (some 91)), some (.inl (nI t)), some (.inl (nI i))] [] g := by
    intro n
    induction n with
    | zero =>
      intro i hi g e1 e2 e3
      have : i = 27 := by omega
      subst this
      refine zm_go g_Latt_tell [2] 30 (by decide +kernel) ok_Latt_tell _ rfl ?_
      simp only [↓zq, ↓reduceIte, zr_si2, zr_sr1, zr_cp2, zr_tl, zr_tn, shq, List.contains_nil, List.contains_cons, Nat.reduceBEq, Bool.false_or, Bool.or_false, Bool.true_or, Bool.false_eq_true, if_false, if_true, true_and, and_true, List.set_cons_zero, List.set_cons_succ, List.length_cons, List.length_nil, Nat.reduceAdd, Nat.reduceLeDiff, Nat.le_refl, Nat.zero_le, true_or, or_true, zn_cl, ↓jj_Latt_tell]
      refine ⟨fun _ => hR g e1 e2 (fun nd hnd => ?_), fun z => absurd (Int32.le_refl _) z⟩
      have := e3 nd hnd
      rwa [if_pos hnd] at this
    | succ n ih =>
      intro i hi g e1 e2 e3
      have ih := ih (i + 1) (by omega)
      have q2 : g.2 91 2 = some 94 := by rw [e1]; exact p2
      have v1 : vp_in (nI i) 27 := vp_in_nI (by omega) (by decide)
      have c1 := nI_clamp (show i < 2 ^ 31 by omega)
      have b1 := e3 i (by omega)
      rw [if_neg (by omega)] at b1
      have l1 := hl2 i
      have gN : zc_N g.1 := fun ot ho => by rw [e2 93 (by decide)]; exact hN ot ho
      refine zm_go g_Latt_tell [2] 30 (by decide +kernel) ok_Latt_tell _ rfl ?_
      simp only [↓zq, ↓reduceIte, zr_si2, zr_sr1, zr_cp2, zr_tl, zr_tn, shq, List.contains_nil, List.contains_cons, Nat.reduceBEq, Bool.false_or, Bool.or_false, Bool.true_or, Bool.false_eq_true, if_false, if_true, true_and, and_true, List.set_cons_zero, List.set_cons_succ, List.length_cons, List.length_nil, Nat.reduceAdd, Nat.reduceLeDiff, Nat.le_refl, Nat.zero_le, true_or, or_true, zn_cl, ↓jj_Latt_tell, q2, v1, c1, b1]
      refine ⟨fun z => absurd z (nI_ge (b := 27) (by omega) (by decide)), fun _ => ?_⟩
      refine k_Latt_isBelow (by rw [e1]; exact hp) gN (by omega) ht ?_
      simp only [↓zq, ↓reduceIte, zr_si2, zr_sr1, zr_cp2, zr_tl, zr_tn, shq, List.contains_nil, List.contains_cons, Nat.reduceBEq, Bool.false_or, Bool.or_false, Bool.true_or, Bool.false_eq_true, if_false, if_true, true_and, and_true, List.set_cons_zero, List.set_cons_succ, List.length_cons, List.length_nil, Nat.reduceAdd, Nat.reduceLeDiff, Nat.le_refl, Nat.zero_le, true_or, or_true, zn_cl, ↓jj_Latt_tell, q2, v1, c1, b1, nI_1]
      cases eb : zs_blw i t
      · simp only [Bool.false_eq_true, if_false]
        refine ⟨fun _ => ih g e1 e2 (fun nd hnd => ?_), fun z => absurd trivial z⟩
        rw [e3 nd hnd]
        by_cases ei : nd = i
        · subst ei
          rw [if_neg (by omega), if_pos (by omega)]
          simp [zs_tl, eb]
        · by_cases e5 : nd < i
          · rw [if_pos e5, if_pos (by omega)]
          · rw [if_neg e5, if_neg (by omega)]
      · simp only [if_true]
        refine ⟨fun z => absurd z (by decide), fun _ => ?_⟩
        refine k_Latt_groupsOf (by rw [e1]; exact hp) ht ?_
        simp only [↓zq, ↓reduceIte, zr_si2, zr_sr1, zr_cp2, zr_tl, zr_tn, shq, List.contains_nil, List.contains_cons, Nat.reduceBEq, Bool.false_or, Bool.or_false, Bool.true_or, Bool.false_eq_true, if_false, if_true, true_and, and_true, List.set_cons_zero, List.set_cons_succ, List.length_cons, List.length_nil, Nat.reduceAdd, Nat.reduceLeDiff, Nat.le_refl, Nat.zero_le, true_or, or_true, zn_cl, ↓jj_Latt_tell, q2, v1, c1, b1, nI_1]
        rw [e2 92 (by decide), hG, zn_min (by omega) (by omega)]
        refine ih _ (by exact e1) (fun c hc => ?_) (fun nd hnd => ?_)
        · funext x
          simp only [zr_si1]
          rw [if_neg (by omega), e2 c hc]
        · simp only [zr_si1]
          by_cases ei : nd = i
          · subst ei
            rw [if_pos ⟨trivial, rfl⟩, if_pos (by omega)]
            simp [zs_tl, eb]
          · rw [if_neg (by omega), e3 nd hnd]
            by_cases e5 : nd < i
            · rw [if_pos e5, if_pos (by omega)]
            · rw [if_neg e5, if_neg (by omega)]
  refine st_Latt_tell [2] 9 ?_
  simp only [↓zq, ↓reduceIte, zr_si2, zr_sr1, zr_cp2, zr_tl, zr_tn, shq, List.contains_nil, List.contains_cons, Nat.reduceBEq, Bool.false_or, Bool.or_false, Bool.true_or, Bool.false_eq_true, if_false, if_true, true_and, and_true, List.set_cons_zero, List.set_cons_succ, List.length_cons, List.length_nil, Nat.reduceAdd, Nat.reduceLeDiff, Nat.le_refl, Nat.zero_le, true_or, or_true, zn_cl, ↓jj_Latt_tell]
  refine loop 27 0 rfl h rfl (fun _ _ => rfl) (fun nd hnd => ?_)
  rw [if_neg (by omega)]
  exact hl nd hnd
set_option maxHeartbeats 4000000 in
set_option maxRecDepth 100000 in
theorem k_Latt_priceWith {d : Nat} {h : zm_M} {R : zm_R} {t : Nat} {G ls : Nat → Nat} (hp : zp_ok h.2) (hN : zc_N h.1) (ht : t < 27) (hG : h.1 92 t = nI (G t)) (hG2 : G t ≤ 512) (hl : ∀ nd, nd < 27 → h.1 94 nd = nI (ls nd)) (hl2 : ∀ nd, ls nd ≤ 512) (hR : R (some (.inl (nI (zs_cum (zs_tl G ls t) 27)))) h) : zm_C (d + 3) TT m_Latt_priceWith [.inr (some 91), .inl (nI t)] h R := by
  obtain ⟨p0, p1, p2, p3, p5, p6, p7⟩ := zp_91 hp
  have loop : ∀ (n i : Nat), i + n = 27 → zm_W (zm_md m_Latt_priceWith) (d + 3) TT R 4 [some (.inr (some 91)), some (.inl (nI t)), some (.inl (nI (zs_cum (zs_tl G ls t) i))), some (.inl (nI i))] [] h := by
    intro n
    induction n with
    | zero =>
      intro i hi
      have : i = 27 := by omega
      subst this
      refine zm_go g_Latt_priceWith [4] 30 (by decide +kernel) ok_Latt_priceWith _ rfl ?_
      simp only [↓zq, ↓reduceIte, zr_si2, zr_sr1, zr_cp2, zr_tl, zr_tn, shq, List.contains_nil, List.contains_cons, Nat.reduceBEq, Bool.false_or, Bool.or_false, Bool.true_or, Bool.false_eq_true, if_false, if_true, true_and, and_true, List.set_cons_zero, List.set_cons_succ, List.length_cons, List.length_nil, Nat.reduceAdd, Nat.reduceLeDiff, Nat.le_refl, Nat.zero_le, true_or, or_true, zn_cl, ↓jj_Latt_priceWith]
      exact ⟨fun _ => hR, fun z => absurd (Int32.le_refl _) z⟩
    | succ n ih =>
      intro i hi
      have ih := ih (i + 1) (by omega)
      rw [zs_cum] at ih
      have v1 : vp_in (nI i) 27 := vp_in_nI (by omega) (by decide)
      have c1 := nI_clamp (show i < 2 ^ 31 by omega)
      have b1 := hl i (by omega)
      have l1 := hl2 i
      refine zm_go g_Latt_priceWith [4] 30 (by decide +kernel) ok_Latt_priceWith _ rfl ?_
      simp only [↓zq, ↓reduceIte, zr_si2, zr_sr1, zr_cp2, zr_tl, zr_tn, shq, List.contains_nil, List.contains_cons, Nat.reduceBEq, Bool.false_or, Bool.or_false, Bool.true_or, Bool.false_eq_true, if_false, if_true, true_and, and_true, List.set_cons_zero, List.set_cons_succ, List.length_cons, List.length_nil, Nat.reduceAdd, Nat.reduceLeDiff, Nat.le_refl, Nat.zero_le, true_or, or_true, zn_cl, ↓jj_Latt_priceWith, p2, v1, c1, b1]
      refine ⟨fun z => absurd z (nI_ge (b := 27) (by omega) (by decide)), fun _ => ?_⟩
      refine k_Latt_isBelow hp hN (by omega) ht ?_
      simp only [↓zq, ↓reduceIte, zr_si2, zr_sr1, zr_cp2, zr_tl, zr_tn, shq, List.contains_nil, List.contains_cons, Nat.reduceBEq, Bool.false_or, Bool.or_false, Bool.true_or, Bool.false_eq_true, if_false, if_true, true_and, and_true, List.set_cons_zero, List.set_cons_succ, List.length_cons, List.length_nil, Nat.reduceAdd, Nat.reduceLeDiff, Nat.le_refl, Nat.zero_le, true_or, or_true, zn_cl, ↓jj_Latt_priceWith, p2, v1, c1, b1, nI_1]
      cases eb : zs_blw i t
      · simp only [Bool.false_eq_true, if_false]
        refine ⟨fun _ => ?_, fun z => absurd trivial z⟩
        rw [nI_add]
        rw [show zs_tl G ls t i = ls i by simp [zs_tl, eb]] at ih
        exact ih
      · simp only [if_true]
        refine ⟨fun z => absurd z (by decide), fun _ => ?_⟩
        refine k_Latt_groupsOf hp ht ?_
        simp only [↓zq, ↓reduceIte, zr_si2, zr_sr1, zr_cp2, zr_tl, zr_tn, shq, List.contains_nil, List.contains_cons, Nat.reduceBEq, Bool.false_or, Bool.or_false, Bool.true_or, Bool.false_eq_true, if_false, if_true, true_and, and_true, List.set_cons_zero, List.set_cons_succ, List.length_cons, List.length_nil, Nat.reduceAdd, Nat.reduceLeDiff, Nat.le_refl, Nat.zero_le, true_or, or_true, zn_cl, ↓jj_Latt_priceWith, nI_1]
        rw [hG, zn_min (by omega) (by omega), nI_add]
        rw [show zs_tl G ls t i = min (ls i) (G t) by simp [zs_tl, eb]] at ih
        exact ih
  refine st_Latt_priceWith [4] 9 ?_
  simp only [↓zq, ↓reduceIte, zr_si2, zr_sr1, zr_cp2, zr_tl, zr_tn, shq, List.contains_nil, List.contains_cons, Nat.reduceBEq, Bool.false_or, Bool.or_false, Bool.true_or, Bool.false_eq_true, if_false, if_true, true_and, and_true, List.set_cons_zero, List.set_cons_succ, List.length_cons, List.length_nil, Nat.reduceAdd, Nat.reduceLeDiff, Nat.le_refl, Nat.zero_le, true_or, or_true, zn_cl, ↓jj_Latt_priceWith]
  exact loop 27 0 rfl
set_option maxHeartbeats 4000000 in
set_option maxRecDepth 100000 in
theorem k_Latt_priceOf {d : Nat} {h : zm_M} {R : zm_R} {x n : Nat} {G : Nat → Nat} (hp : zp_ok h.2) (hN : zc_N h.1) (hx : x < 2 ^ 27) (hn : h.1 91 8 = nI n) (hn2 : n ≤ 512) (hG : ∀ nd, nd < 27 → h.1 92 nd = nI (G nd)) (hG2 : ∀ nd, G nd ≤ 512) (hR : ∀ h' : zm_M, h'.2 = h.2 → (∀ c, c ≠ 94 → h'.1 c = h.1 c) → R (some (.inl (nI (zs_prc G n x)))) h') : zm_C (d + 4) TT m_Latt_priceOf [.inr (some 91), .inl (nI x)] h R := by
  obtain ⟨p0, p1, p2, p3, p5, p6, p7⟩ := zp_91 hp
  have lle : ∀ t nd, zs_lst G n x nd t ≤ 512 := fun t nd => Nat.le_trans (zs_lst_le G n x nd t) hn2
  have loop2 : ∀ (m i : Nat), i + m = 27 → ∀ g : zm_M, g.2 = h.2 → (∀ c, c ≠ 94 → g.1 c = h.1 c) → (∀ nd, nd < 27 → g.1 94 nd = nI (zs_lst G n x nd 27)) → zm_W (zm_md m_Latt_priceOf) (d + 4) TT R 35 [some (.inr (some 91)), some (.inl (nI x)), some (.inl (nI (zs_cum (fun nd => zs_lst G n x nd 27) i))), some (.inl (nI i))] [] g := by
    intro m
    induction m with
    | zero =>
      intro i hi g e1 e2 e3
      have : i = 27 := by omega
      subst this
      have := hR g e1 e2
      unfold zs_prc at this
      refine zm_go g_Latt_priceOf [35] 30 (by decide +kernel) ok_Latt_priceOf _ rfl ?_
      generalize zs_cum (fun nd => zs_lst G n x nd 27) 27 = y at this
      simp only [↓zq, ↓reduceIte, zr_si2, zr_sr1, zr_cp2, zr_tl, zr_tn, shq, List.contains_nil, List.contains_cons, Nat.reduceBEq, Bool.false_or, Bool.or_false, Bool.true_or, Bool.false_eq_true, if_false, if_true, true_and, and_true, List.set_cons_zero, List.set_cons_succ, List.length_cons, List.length_nil, Nat.reduceAdd, Nat.reduceLeDiff, Nat.le_refl, Nat.zero_le, true_or, or_true, zn_cl, ↓jj_Latt_priceOf]
      exact ⟨fun _ => this, fun z => absurd (Int32.le_refl _) z⟩
    | succ m ih =>
      intro i hi g e1 e2 e3
      have ih := ih (i + 1) (by omega) g e1 e2 e3
      rw [zs_cum] at ih
      have q2 : g.2 91 2 = some 94 := by rw [e1]; exact p2
      have v1 : vp_in (nI i) 27 := vp_in_nI (by omega) (by decide)
      have c1 := nI_clamp (show i < 2 ^ 31 by omega)
      have b1 := e3 i (by omega)
      refine zm_go g_Latt_priceOf [35] 30 (by decide +kernel) ok_Latt_priceOf _ rfl ?_
      simp only [↓zq, ↓reduceIte, zr_si2, zr_sr1, zr_cp2, zr_tl, zr_tn, shq, List.contains_nil, List.contains_cons, Nat.reduceBEq, Bool.false_or, Bool.or_false, Bool.true_or, Bool.false_eq_true, if_false, if_true, true_and, and_true, List.set_cons_zero, List.set_cons_succ, List.length_cons, List.length_nil, Nat.reduceAdd, Nat.reduceLeDiff, Nat.le_refl, Nat.zero_le, true_or, or_true, zn_cl, ↓jj_Latt_priceOf, q2, v1, c1, b1, nI_add, nI_1]
      exact ⟨fun z => absurd z (nI_ge (b := 27) (by omega) (by decide)), fun _ => ih⟩
  have loop1 : ∀ (m i : Nat), i + m = 27 → ∀ g : zm_M, g.2 = h.2 → (∀ c, c ≠ 94 → g.1 c = h.1 c) → (∀ nd, nd < 27 → g.1 94 nd = nI (zs_lst G n x nd i)) → ∀ o, zm_W (zm_md m_Latt_priceOf) (d + 4) TT R 6 [some (.inr (some 91)), some (.inl (nI x)), some (.inl (nI i)), o] [] g := by
    intro m
    induction m with
    | zero =>
      intro i hi g e1 e2 e3 o
      have : i = 27 := by omega
      subst this
      refine zm_go g_Latt_priceOf [6, 35] 30 (by decide +kernel) ok_Latt_priceOf _ rfl ?_
      simp only [↓zq, ↓reduceIte, zr_si2, zr_sr1, zr_cp2, zr_tl, zr_tn, shq, List.contains_nil, List.contains_cons, Nat.reduceBEq, Bool.false_or, Bool.or_false, Bool.true_or, Bool.false_eq_true, if_false, if_true, true_and, and_true, List.set_cons_zero, List.set_cons_succ, List.length_cons, List.length_nil, Nat.reduceAdd, Nat.reduceLeDiff, Nat.le_refl, Nat.zero_le, true_or, or_true, zn_cl, ↓jj_Latt_priceOf]
      exact ⟨fun _ => loop2 27 0 rfl g e1 e2 e3, fun z => absurd (Int32.le_refl _) z⟩
    | succ m ih =>
      intro i hi g e1 e2 e3 o
      have ih := ih (i + 1) (by omega)
      refine zm_go g_Latt_priceOf [6, 35] 30 (by decide +kernel) ok_Latt_priceOf _ rfl ?_
      simp only [↓zq, ↓reduceIte, zr_si2, zr_sr1, zr_cp2, zr_tl, zr_tn, shq, List.contains_nil, List.contains_cons, Nat.reduceBEq, Bool.false_or, Bool.or_false, Bool.true_or, Bool.false_eq_true, if_false, if_true, true_and, and_true, List.set_cons_zero, List.set_cons_succ, List.length_cons, List.length_nil, Nat.reduceAdd, Nat.reduceLeDiff, Nat.le_refl, Nat.zero_le, true_or, or_true, zn_cl, ↓jj_Latt_priceOf, nI_1]
      rw [zn_bitN (by omega) (by omega)]
      refine ⟨fun z => absurd z (nI_ge (b := 27) (by omega) (by decide)), fun _ => ⟨fun z => ?_, fun z => ?_⟩⟩
      · refine ih g e1 e2 (fun nd hnd => ?_) o
        rw [zs_lst, if_neg (by rw [z]; simp)]
        exact e3 nd hnd
      · refine k_Latt_tell (G := G) (ls := fun nd => zs_lst G n x nd i) (by rw [e1]; exact hp) (fun ot ho => by rw [e2 93 (by decide)]; exact hN ot ho) (by omega) (by rw [e2 92 (by decide)]; exact hG i (by omega)) (hG2 i) e3 (lle i) (fun g' f1 f2 f3 => ?_)
        simp only [↓zq, ↓reduceIte, zr_si2, zr_sr1, zr_cp2, zr_tl, zr_tn, shq, List.contains_nil, List.contains_cons, Nat.reduceBEq, Bool.false_or, Bool.or_false, Bool.true_or, Bool.false_eq_true, if_false, if_true, true_and, and_true, List.set_cons_zero, List.set_cons_succ, List.length_cons, List.length_nil, Nat.reduceAdd, Nat.reduceLeDiff, Nat.le_refl, Nat.zero_le, true_or, or_true, zn_cl, ↓jj_Latt_priceOf, nI_1]
        refine ih g' (f1.trans e1) (fun c hc => (f2 c hc).trans (e2 c hc)) (fun nd hnd => ?_) o
        rw [f3 nd hnd, zs_lst]
        unfold zs_tl
        have z1 : x.testBit i = true := by simpa using z
        simp only [z1, true_and]
  refine st_Latt_priceOf [6, 35] 9 ?_
  simp only [↓zq, ↓reduceIte, zr_si2, zr_sr1, zr_cp2, zr_tl, zr_tn, shq, List.contains_nil, List.contains_cons, Nat.reduceBEq, Bool.false_or, Bool.or_false, Bool.true_or, Bool.false_eq_true, if_false, if_true, true_and, and_true, List.set_cons_zero, List.set_cons_succ, List.length_cons, List.length_nil, Nat.reduceAdd, Nat.reduceLeDiff, Nat.le_refl, Nat.zero_le, true_or, or_true, zn_cl, ↓jj_Latt_priceOf]
  refine k_Latt_tellNone hp ?_
  simp only [↓zq, ↓reduceIte, zr_si2, zr_sr1, zr_cp2, zr_tl, zr_tn, shq, List.contains_nil, List.contains_cons, Nat.reduceBEq, Bool.false_or, Bool.or_false, Bool.true_or, Bool.false_eq_true, if_false, if_true, true_and, and_true, List.set_cons_zero, List.set_cons_succ, List.length_cons, List.length_nil, Nat.reduceAdd, Nat.reduceLeDiff, Nat.le_refl, Nat.zero_le, true_or, or_true, zn_cl, ↓jj_Latt_priceOf]
  refine loop1 27 0 rfl (zm_fl h 94 27 (h.1 91 8)) rfl (fun c hc => ?_) (fun nd hnd => ?_) none
  · funext j
    simp only [zm_fl]
    rw [if_neg (by omega)]
  · simp only [zm_fl]
    rw [if_pos ⟨trivial, hnd⟩, hn]
    rfl
/-- the node below k, not yet told, by which the price is least, and that price -/
def zs_pk (G : Nat → Nat) (n x : Nat) : Nat → Option (Nat × Nat)
  | 0 => none
  | k + 1 => if x.testBit k = true then zs_pk G n x k else match zs_pk G n x k with
    | none => some (k, zs_prc G n (x ||| 2 ^ k))
    | some bp => if zs_prc G n (x ||| 2 ^ k) < bp.2 then some (k, zs_prc G n (x ||| 2 ^ k)) else some bp
theorem zs_pk_spec {G : Nat → Nat} {n x : Nat} : ∀ k bp, zs_pk G n x k = some bp → bp.1 < k ∧ x.testBit bp.1 = false ∧ bp.2 = zs_prc G n (x ||| 2 ^ bp.1)
  | 0, bp, h => by cases h
  | k + 1, bp, h => by
    rw [zs_pk] at h
    split at h
    · obtain ⟨a, b⟩ := zs_pk_spec k bp h
      exact ⟨by omega, b⟩
    · next e =>
      have e2 : x.testBit k = false := by simpa using e
      split at h
      · cases h
        exact ⟨by dsimp only; omega, e2, rfl⟩
      · next bq hq =>
        split at h
        · cases h
          exact ⟨by dsimp only; omega, e2, rfl⟩
        · cases h
          obtain ⟨a, b⟩ := zs_pk_spec k _ hq
          exact ⟨by omega, b⟩
theorem zs_pk_none {G : Nat → Nat} {n x : Nat} : ∀ k, zs_pk G n x k = none → ∀ j, j < k → x.testBit j = true
  | 0, _, j, hj => absurd hj (Nat.not_lt_zero j)
  | k + 1, h, j, hj => by
    rw [zs_pk] at h
    split at h
    · next e =>
      by_cases hjk : j = k
      · rw [hjk]; exact e
      · exact zs_pk_none k h j (by omega)
    · split at h
      · cases h
      · split at h <;> cases h
def zs_pkv (o : Option (Nat × Nat)) : Int32 := match o with
  | none => -1
  | some bp => nI bp.1
theorem zs_prc_or {G : Nat → Nat} {n x t : Nat} (ht : t < 27) (hx : x.testBit t = false) : zs_cum (zs_tl G (fun nd => zs_lst G n x nd 27) t) 27 = zs_prc G n (x ||| 2 ^ t) := by
  unfold zs_prc
  refine zs_cum_congr 27 (fun nd _ => ?_)
  rw [zs_lst_add hx]
  unfold zs_tl
  simp only [ht, true_and]
set_option maxHeartbeats 4000000 in
set_option maxRecDepth 100000 in
theorem k_Latt_pickNext {d : Nat} {h : zm_M} {R : zm_R} {x n i : Nat} {G : Nat → Nat} (hp : zp_ok h.2) (hN : zc_N h.1) (hx : x < 2 ^ 27) (hi6 : i < 6) (hn2 : n ≤ 512) (hG : ∀ nd, nd < 27 → h.1 92 nd = nI (G nd)) (hG2 : ∀ nd, G nd ≤ 512) (hl : ∀ nd, nd < 27 → h.1 94 nd = nI (zs_lst G n x nd 27)) (hR : ∀ h' : zm_M, h'.2 = h.2 → (∀ c, c ≠ 91 → c ≠ 95 → h'.1 c = h.1 c) → h'.1 91 8 = h.1 91 8 → (∀ bp, zs_pk G n x 27 = some bp → h'.1 91 4 = nI bp.2) → h'.1 95 i = zs_pkv (zs_pk G n x 27) → (∀ j, j ≠ i → h'.1 95 j = h.1 95 j) → R none h') : zm_C (d + 4) TT m_Latt_pickNext [.inr (some 91), .inl (nI i), .inl (nI x)] h R := by
  obtain ⟨p0, p1, p2, p3, p5, p6, p7⟩ := zp_91 hp
  have lle : ∀ nd, zs_lst G n x nd 27 ≤ 512 := fun nd => Nat.le_trans (zs_lst_le G n x nd 27) hn2
  have ple : ∀ y, zs_prc G n y ≤ 512 * 27 := fun y => Nat.le_trans (zs_prc_le G n y) (Nat.mul_le_mul_right 27 hn2)
  have loop : ∀ (m k : Nat), k + m = 27 → ∀ g : zm_M, g.2 = h.2 → (∀ c, c ≠ 91 → g.1 c = h.1 c) → g.1 91 8 = h.1 91 8 → (∀ bp, zs_pk G n x k = some bp → g.1 91 4 = nI bp.2) → ∀ o, zm_W (zm_md m_Latt_pickNext) (d + 4) TT R 5 [some (.inr (some 91)), some (.inl (nI i)), some (.inl (nI x)), some (.inl (zs_pkv (zs_pk G n x k))), some (.inl (nI k)), o] [] g := by
    intro m
    induction m with
    | zero =>
      intro k hk g e1 e2 e3 e4 o
      have : k = 27 := by omega
      subst this
      have q3 : g.2 91 3 = some 95 := by rw [e1]; exact p3
      have v1 : vp_in (nI i) 6 := vp_in_nI (by omega) (by decide)
      have c1 := nI_clamp (show i < 2 ^ 31 by omega)
      refine zm_go g_Latt_pickNext [5] 30 (by decide +kernel) ok_Latt_pickNext _ rfl ?_
      simp only [↓zq, ↓reduceIte, zr_si2, zr_sr1, zr_cp2, zr_tl, zr_tn, shq, List.contains_nil, List.contains_cons, Nat.reduceBEq, Bool.false_or, Bool.or_false, Bool.true_or, Bool.false_eq_true, if_false, if_true, true_and, and_true, List.set_cons_zero, List.set_cons_succ, List.length_cons, List.length_nil, Nat.reduceAdd, Nat.reduceLeDiff, Nat.le_refl, Nat.zero_le, true_or, or_true, zn_cl, ↓jj_Latt_pickNext, q3, v1, c1]
      refine ⟨fun _ => ⟨fun z => absurd z (nI_pos (by omega)), fun _ => ⟨fun z => absurd z (nI_ge (b := 6) hi6 (by decide)), fun _ => ?_⟩⟩, fun z => absurd (Int32.le_refl _) z⟩
      refine hR _ e1 (fun c a1 a2 => ?_) ?_ (fun bp hb => ?_) ?_ (fun j hj => ?_)
      · funext j
        simp only [zr_si1]
        rw [if_neg (by omega), e2 c a1]
      · simp only [zr_si1]
        rw [if_neg (by omega), e3]
      · simp only [zr_si1]
        rw [if_neg (by omega), e4 bp hb]
      · simp [zr_si1]
      · simp only [zr_si1]
        rw [if_neg (by omega), e2 95 (by decide)]
    | succ m ih =>
      intro k hk g e1 e2 e3 e4 o
      have ih := ih (k + 1) (by omega)
      rw [zs_pk] at ih
      have gN : zc_N g.1 := fun ot ho => by rw [e2 93 (by decide)]; exact hN ot ho
      refine zm_go g_Latt_pickNext [5] 30 (by decide +kernel) ok_Latt_pickNext _ rfl ?_
      simp only [↓zq, ↓reduceIte, zr_si2, zr_sr1, zr_cp2, zr_tl, zr_tn, shq, List.contains_nil, List.contains_cons, Nat.reduceBEq, Bool.false_or, Bool.or_false, Bool.true_or, Bool.false_eq_true, if_false, if_true, true_and, and_true, List.set_cons_zero, List.set_cons_succ, List.length_cons, List.length_nil, Nat.reduceAdd, Nat.reduceLeDiff, Nat.le_refl, Nat.zero_le, true_or, or_true, zn_cl, ↓jj_Latt_pickNext, nI_1]
      rw [zn_bitN (by omega) (by omega)]
      refine ⟨fun z => absurd z (nI_ge (b := 27) (by omega) (by decide)), fun _ => ⟨fun z => ?_, fun z => ?_⟩⟩
      · rw [if_pos (by simpa using z)] at ih
        exact ih g e1 e2 e3 e4 o
      · rw [if_neg (by rw [z]; decide)] at ih
        refine k_Latt_priceWith (G := G) (ls := fun nd => zs_lst G n x nd 27) (by rw [e1]; exact hp) gN (by omega) (by rw [e2 92 (by decide)]; exact hG k (by omega)) (hG2 k) (fun nd hnd => by rw [e2 94 (by decide)]; exact hl nd hnd) lle ?_
        rw [zs_prc_or (by omega) z]
        have pl := ple (x ||| 2 ^ k)
        simp only [↓zq, ↓reduceIte, zr_si2, zr_sr1, zr_cp2, zr_tl, zr_tn, shq, List.contains_nil, List.contains_cons, Nat.reduceBEq, Bool.false_or, Bool.or_false, Bool.true_or, Bool.false_eq_true, if_false, if_true, true_and, and_true, List.set_cons_zero, List.set_cons_succ, List.length_cons, List.length_nil, Nat.reduceAdd, Nat.reduceLeDiff, Nat.le_refl, Nat.zero_le, true_or, or_true, zn_cl, ↓jj_Latt_pickNext, nI_1]
        cases eo : zs_pk G n x k with
        | none =>
          rw [eo] at ih
          simp only [zs_pkv] at ih ⊢
          refine ⟨fun _ => ih _ (by exact e1) (fun c hc => ?_) ?_ (fun bp hb => ?_) _, fun z => absurd trivial z⟩
          · funext j
            simp only [zr_si1]
            rw [if_neg (by omega), e2 c hc]
          · simp only [zr_si1]
            rw [if_neg (by decide), e3]
          · cases hb
            simp [zr_si1]
        | some bp =>
          rw [eo] at ih
          have hb4 := e4 bp eo
          obtain ⟨s1, s2, s3⟩ := zs_pk_spec k bp eo
          have pl2 := ple (x ||| 2 ^ bp.1)
          have nz : ¬ nI bp.1 = -1 := by
            have e : ∀ b, b < 27 → ¬ nI b = -1 := by decide
            exact e _ (by omega)
          simp only [zs_pkv] at ih ⊢
          rw [hb4]
          simp only [zn_le (show bp.2 < 2 ^ 31 by omega) (show zs_prc G n (x ||| 2 ^ k) < 2 ^ 31 by omega)]
          refine ⟨fun z => absurd z nz, fun _ => ⟨fun z2 => ?_, fun z2 => ?_⟩⟩
          · rw [if_neg (by omega)] at ih
            exact ih g e1 e2 e3 (fun bq hq => by cases hq; exact hb4) _
          · rw [if_pos (by omega)] at ih
            refine ih _ (by exact e1) (fun c hc => ?_) ?_ (fun bq hq => ?_) _
            · funext j
              simp only [zr_si1]
              rw [if_neg (by omega), e2 c hc]
            · simp only [zr_si1]
              rw [if_neg (by decide), e3]
            · cases hq
              simp [zr_si1]
  refine st_Latt_pickNext [5] 9 ?_
  simp only [↓zq, ↓reduceIte, zr_si2, zr_sr1, zr_cp2, zr_tl, zr_tn, shq, List.contains_nil, List.contains_cons, Nat.reduceBEq, Bool.false_or, Bool.or_false, Bool.true_or, Bool.false_eq_true, if_false, if_true, true_and, and_true, List.set_cons_zero, List.set_cons_succ, List.length_cons, List.length_nil, Nat.reduceAdd, Nat.reduceLeDiff, Nat.le_refl, Nat.zero_le, true_or, or_true, zn_cl, ↓jj_Latt_pickNext]
  exact loop 27 0 rfl h rfl (fun _ _ => rfl) rfl (fun bp hb => by cases hb) none
