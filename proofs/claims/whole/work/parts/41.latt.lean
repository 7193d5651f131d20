/-! Lattice of the class: recount, prices -/
set_option maxHeartbeats 4000000 in
set_option maxRecDepth 100000 in
theorem k_Latt_recount {d : Nat} {h : zm_M} {R : zm_R} {F : zs_F} {sp : Nat → Nat} (hp : zp_ok h.2) (hF : zc_F h.1 F) (hw : zw_F F) (hS : zc_S h.1 sp) (hs : zw_S sp) (hR : ∀ h' : zm_M, h'.2 = h.2 → (∀ c, c ≠ 91 → c ≠ 92 → c ≠ 96 → c ≠ 97 → c ≠ 98 → h'.1 c = h.1 c) → h'.1 91 8 = nI F.1 → (∀ nd, nd < 27 → h'.1 92 nd = nI (zs_gn sp F nd)) → R none h') : zm_C (d + 4) TT m_Latt_recount [.inr (some 91), .inr (some 30), .inr (some 28)] h R := by
  obtain ⟨p0, p1, p2, p3, p5, p6, p7⟩ := zp_91 hp
  have hw1 := hw.1
  have rlt := fun r => zs_lr_lt hw r F.1 (Nat.le_refl _)
  let fr : zm_M → Prop := fun g => g.2 = h.2 ∧ (∀ c, c ≠ 91 → c ≠ 92 → c ≠ 96 → c ≠ 97 → c ≠ 98 → g.1 c = h.1 c) ∧ g.1 91 8 = nI F.1
  -- nodes of a level
  have loopN : ∀ (n j L : Nat), j + n = 9 → L < 3 → ∀ g : zm_M, fr g → (∀ r, r < 64 → g.1 96 r = nI (zs_lr F r F.1)) → (∀ r, r < 64 → g.1 97 r = nI (zs_nu sp 2 L (zs_lr F r F.1) 8)) → (∀ nd, nd < 27 → (nd % 3 < L ∨ nd % 3 = L ∧ nd < L + 3 * j) → g.1 92 nd = nI (zs_gn sp F nd)) → (∀ g : zm_M, fr g → (∀ r, r < 64 → g.1 96 r = nI (zs_lr F r F.1)) → (∀ nd, nd < 27 → nd % 3 < L + 1 → g.1 92 nd = nI (zs_gn sp F nd)) → ∀ o, zm_W (zm_md m_Latt_recount) (d + 4) TT R 63 [some (.inr (some 91)), some (.inr (some 30)), some (.inr (some 28)), some (.inl (nI (L + 1))), o] [] g) → zm_W (zm_md m_Latt_recount) (d + 4) TT R 107 [some (.inr (some 91)), some (.inr (some 30)), some (.inr (some 28)), some (.inl (nI L)), some (.inl (nI (L + 3 * j)))] [] g := by
    intro n
    induction n with
    | zero =>
      intro j L hj hL g f e6 e7 e2 nx
      have : j = 9 := by omega
      subst this
      have nxt := nx g f e6 (fun nd hnd hm => e2 nd hnd (by omega)) (some (.inl (nI (L + 3 * 9))))
      refine zm_go g_Latt_recount [18, 63, 71, 107] 30 (by decide +kernel) ok_Latt_recount _ rfl ?_
      simp only [↓zq, ↓reduceIte, zr_si2, zr_sr1, zr_cp2, zr_tl, zr_tn, shq, List.contains_nil, List.contains_cons, Nat.reduceBEq, Bool.false_or, Bool.or_false, Bool.true_or, Bool.false_eq_true, if_false, if_true, true_and, and_true, List.set_cons_zero, List.set_cons_succ, List.length_cons, List.length_nil, Nat.reduceAdd, Nat.reduceLeDiff, Nat.le_refl, Nat.zero_le, true_or, or_true, zn_cl, ↓jj_Latt_recount, nI_1]
      exact ⟨fun _ => nxt, fun z => absurd (nI_le (a := 27) (by omega) (by omega)) z⟩
    | succ n ih =>
      intro j L hj hL g f e6 e7 e2 nx
      have ih := ih (j + 1) L (by omega) hL
      obtain ⟨f1, f2, f3⟩ := id f
      have q0 : g.2 91 0 = some 92 := by rw [f1]; exact p0
      have v1 : vp_in (nI (L + 3 * j)) 27 := vp_in_nI (by omega) (by decide)
      have c1 := nI_clamp (show L + 3 * j < 2 ^ 31 by omega)
      refine zm_go g_Latt_recount [18, 63, 71, 107] 30 (by decide +kernel) ok_Latt_recount _ rfl ?_
      simp only [↓zq, ↓reduceIte, zr_si2, zr_sr1, zr_cp2, zr_tl, zr_tn, shq, List.contains_nil, List.contains_cons, Nat.reduceBEq, Bool.false_or, Bool.or_false, Bool.true_or, Bool.false_eq_true, if_false, if_true, true_and, and_true, List.set_cons_zero, List.set_cons_succ, List.length_cons, List.length_nil, Nat.reduceAdd, Nat.reduceLeDiff, Nat.le_refl, Nat.zero_le, true_or, or_true, zn_cl, ↓jj_Latt_recount, q0, v1, c1]
      refine ⟨fun z => absurd z (nI_ge (b := 27) (by omega) (by decide)), fun _ => ?_⟩
      refine k_Latt_mergedGroups (nd := L + 3 * j) (sp := sp) (rl := fun r => zs_nu sp 2 L (zs_lr F r F.1) 8) (by rw [f1]; exact hp) (by omega) (fun v hv => by rw [f2 29 (by decide) (by decide) (by decide) (by decide) (by decide)]; exact hS v hv) hs e7 (fun r => zs_nu_lt hs (by decide) _ _ 8 (Nat.le_refl _)) (fun g' m1 m2 => ?_)
      have e3 : zs_nr (L + 3 * j) 2 = L := by
        show (L + 3 * j) / 3 ^ (2 - 2) % 3 = L
        rw [show (3 : Nat) ^ (2 - 2) = 1 from rfl, Nat.div_one]
        omega
      have hg := zs_gn_eq hs hw (L + 3 * j)
      rw [e3] at hg
      rw [hg]
      simp only [↓zq, ↓reduceIte, zr_si2, zr_sr1, zr_cp2, zr_tl, zr_tn, shq, List.contains_nil, List.contains_cons, Nat.reduceBEq, Bool.false_or, Bool.or_false, Bool.true_or, Bool.false_eq_true, if_false, if_true, true_and, and_true, List.set_cons_zero, List.set_cons_succ, List.length_cons, List.length_nil, Nat.reduceAdd, Nat.reduceLeDiff, Nat.le_refl, Nat.zero_le, true_or, or_true, zn_cl, ↓jj_Latt_recount, v1, c1]
      rw [show (3 : Int32) = nI 3 from rfl, nI_add, show L + 3 * j + 3 = L + 3 * (j + 1) by omega]
      refine ih _ ⟨m1.trans f1, fun c a1 a2 a3 a4 a5 => ?_, ?_⟩ (fun r hr => ?_) (fun r hr => ?_) (fun nd hnd hm => ?_) nx
      · funext x
        simp only [zr_si1]
        rw [if_neg (by omega), m2 c a5, f2 c a1 a2 a3 a4 a5]
      · simp only [zr_si1]
        rw [if_neg (by omega), m2 91 (by decide), f3]
      · simp only [zr_si1]
        rw [if_neg (by omega), m2 96 (by decide)]
        exact e6 r hr
      · simp only [zr_si1]
        rw [if_neg (by omega), m2 97 (by decide)]
        exact e7 r hr
      · simp only [zr_si1]
        by_cases e : nd = L + 3 * j
        · rw [if_pos ⟨trivial, e⟩, e]
        · rw [if_neg (by omega), m2 92 (by decide)]
          exact e2 nd hnd (by omega)
  -- rows at a level
  have loopR : ∀ (n i L : Nat), i + n = 64 → L < 3 → ∀ g : zm_M, fr g → (∀ r, r < 64 → g.1 96 r = nI (zs_lr F r F.1)) → (∀ r, r < i → g.1 97 r = nI (zs_nu sp 2 L (zs_lr F r F.1) 8)) → (∀ nd, nd < 27 → nd % 3 < L → g.1 92 nd = nI (zs_gn sp F nd)) → (∀ g : zm_M, fr g → (∀ r, r < 64 → g.1 96 r = nI (zs_lr F r F.1)) → (∀ nd, nd < 27 → nd % 3 < L + 1 → g.1 92 nd = nI (zs_gn sp F nd)) → ∀ o, zm_W (zm_md m_Latt_recount) (d + 4) TT R 63 [some (.inr (some 91)), some (.inr (some 30)), some (.inr (some 28)), some (.inl (nI (L + 1))), o] [] g) → zm_W (zm_md m_Latt_recount) (d + 4) TT R 71 [some (.inr (some 91)), some (.inr (some 30)), some (.inr (some 28)), some (.inl (nI L)), some (.inl (nI i))] [] g := by
    intro n
    induction n with
    | zero =>
      intro i L hi hL g f e6 e7 e2 nx
      have : i = 64 := by omega
      subst this
      refine zm_go g_Latt_recount [18, 63, 71, 107] 30 (by decide +kernel) ok_Latt_recount _ rfl ?_
      simp only [↓zq, ↓reduceIte, zr_si2, zr_sr1, zr_cp2, zr_tl, zr_tn, shq, List.contains_nil, List.contains_cons, Nat.reduceBEq, Bool.false_or, Bool.or_false, Bool.true_or, Bool.false_eq_true, if_false, if_true, true_and, and_true, List.set_cons_zero, List.set_cons_succ, List.length_cons, List.length_nil, Nat.reduceAdd, Nat.reduceLeDiff, Nat.le_refl, Nat.zero_le, true_or, or_true, zn_cl, ↓jj_Latt_recount]
      refine ⟨fun _ => ?_, fun z => absurd (Int32.le_refl _) z⟩
      exact loopN 9 0 L rfl hL g f e6 e7 (fun nd hnd hm => e2 nd hnd (by omega)) nx
    | succ n ih =>
      intro i L hi hL g f e6 e7 e2 nx
      have ih := ih (i + 1) L (by omega) hL
      obtain ⟨f1, f2, f3⟩ := id f
      have q5 : g.2 91 5 = some 96 := by rw [f1]; exact p5
      have q6 : g.2 91 6 = some 97 := by rw [f1]; exact p6
      have v1 : vp_in (nI i) 64 := vp_in_nI (by omega) (by decide)
      have c1 := nI_clamp (show i < 2 ^ 31 by omega)
      have b1 := e6 i (by omega)
      refine zm_go g_Latt_recount [18, 63, 71, 107] 30 (by decide +kernel) ok_Latt_recount _ rfl ?_
      simp only [↓zq, ↓reduceIte, zr_si2, zr_sr1, zr_cp2, zr_tl, zr_tn, shq, List.contains_nil, List.contains_cons, Nat.reduceBEq, Bool.false_or, Bool.or_false, Bool.true_or, Bool.false_eq_true, if_false, if_true, true_and, and_true, List.set_cons_zero, List.set_cons_succ, List.length_cons, List.length_nil, Nat.reduceAdd, Nat.reduceLeDiff, Nat.le_refl, Nat.zero_le, true_or, or_true, zn_cl, ↓jj_Latt_recount, q5, q6, v1, c1, b1]
      refine ⟨fun z => absurd z (nI_ge (b := 64) (by omega) (by decide)), fun _ => ?_⟩
      refine k_Shape_numbersOf (side := 2) (sp := sp) (by rw [f1]; exact zk_shp28 hp) hs (fun v hv => by rw [f2 29 (by decide) (by decide) (by decide) (by decide) (by decide)]; exact hS v hv) (by decide) (by omega) (rlt i) ?_
      simp only [↓zq, ↓reduceIte, zr_si2, zr_sr1, zr_cp2, zr_tl, zr_tn, shq, List.contains_nil, List.contains_cons, Nat.reduceBEq, Bool.false_or, Bool.or_false, Bool.true_or, Bool.false_eq_true, if_false, if_true, true_and, and_true, List.set_cons_zero, List.set_cons_succ, List.length_cons, List.length_nil, Nat.reduceAdd, Nat.reduceLeDiff, Nat.le_refl, Nat.zero_le, true_or, or_true, zn_cl, ↓jj_Latt_recount, v1, c1, nI_1]
      refine ih _ ⟨f1, fun c a1 a2 a3 a4 a5 => ?_, ?_⟩ (fun r hr => ?_) (fun r hr => ?_) (fun nd hnd hm => ?_) nx
      · funext x
        simp only [zr_si1]
        rw [if_neg (by omega), f2 c a1 a2 a3 a4 a5]
      · simp only [zr_si1]
        rw [if_neg (by omega), f3]
      · simp only [zr_si1]
        rw [if_neg (by omega)]
        exact e6 r hr
      · simp only [zr_si1]
        by_cases e : r = i
        · rw [if_pos ⟨trivial, e⟩, e]
        · rw [if_neg (by omega)]
          exact e7 r (by omega)
      · simp only [zr_si1]
        rw [if_neg (by omega)]
        exact e2 nd hnd hm
  have loopL : ∀ (n L : Nat), L + n = 3 → ∀ g : zm_M, fr g → (∀ r, r < 64 → g.1 96 r = nI (zs_lr F r F.1)) → (∀ nd, nd < 27 → nd % 3 < L → g.1 92 nd = nI (zs_gn sp F nd)) → ∀ o, zm_W (zm_md m_Latt_recount) (d + 4) TT R 63 [some (.inr (some 91)), some (.inr (some 30)), some (.inr (some 28)), some (.inl (nI L)), o] [] g := by
    intro n
    induction n with
    | zero =>
      intro L hL g f e6 e2 o
      have : L = 3 := by omega
      subst this
      refine zm_go g_Latt_recount [18, 63, 71, 107] 30 (by decide +kernel) ok_Latt_recount _ rfl ?_
      simp only [↓zq, ↓reduceIte, zr_si2, zr_sr1, zr_cp2, zr_tl, zr_tn, shq, List.contains_nil, List.contains_cons, Nat.reduceBEq, Bool.false_or, Bool.or_false, Bool.true_or, Bool.false_eq_true, if_false, if_true, true_and, and_true, List.set_cons_zero, List.set_cons_succ, List.length_cons, List.length_nil, Nat.reduceAdd, Nat.reduceLeDiff, Nat.le_refl, Nat.zero_le, true_or, or_true, zn_cl, ↓jj_Latt_recount]
      exact ⟨fun _ => hR g f.1 f.2.1 f.2.2 (fun nd hnd => e2 nd hnd (by omega)), fun z => absurd (Int32.le_refl _) z⟩
    | succ n ih =>
      intro L hL g f e6 e2 o
      refine zm_go g_Latt_recount [18, 63, 71, 107] 30 (by decide +kernel) ok_Latt_recount _ rfl ?_
      simp only [↓zq, ↓reduceIte, zr_si2, zr_sr1, zr_cp2, zr_tl, zr_tn, shq, List.contains_nil, List.contains_cons, Nat.reduceBEq, Bool.false_or, Bool.or_false, Bool.true_or, Bool.false_eq_true, if_false, if_true, true_and, and_true, List.set_cons_zero, List.set_cons_succ, List.length_cons, List.length_nil, Nat.reduceAdd, Nat.reduceLeDiff, Nat.le_refl, Nat.zero_le, true_or, or_true, zn_cl, ↓jj_Latt_recount]
      refine ⟨fun z => absurd z (nI_ge (b := 3) (by omega) (by decide)), fun _ => ?_⟩
      exact loopR 64 0 L rfl (by omega) g f e6 (fun r hr => absurd hr (Nat.not_lt_zero r)) e2 (ih (L + 1) (by omega))
  have loopF : ∀ (n i : Nat), i + n = F.1 → ∀ g : zm_M, fr g → (∀ r, r < 64 → g.1 96 r = nI (zs_lr F r i)) → ∀ o, zm_W (zm_md m_Latt_recount) (d + 4) TT R 18 [some (.inr (some 91)), some (.inr (some 30)), some (.inr (some 28)), some (.inl (nI i)), o] [] g := by
    intro n
    induction n with
    | zero =>
      intro i hi g f e6 o
      have : i = F.1 := by omega
      subst this
      have f3 := f.2.2
      refine zm_go g_Latt_recount [18, 63, 71, 107] 30 (by decide +kernel) ok_Latt_recount _ rfl ?_
      simp only [↓zq, ↓reduceIte, zr_si2, zr_sr1, zr_cp2, zr_tl, zr_tn, shq, List.contains_nil, List.contains_cons, Nat.reduceBEq, Bool.false_or, Bool.or_false, Bool.true_or, Bool.false_eq_true, if_false, if_true, true_and, and_true, List.set_cons_zero, List.set_cons_succ, List.length_cons, List.length_nil, Nat.reduceAdd, Nat.reduceLeDiff, Nat.le_refl, Nat.zero_le, true_or, or_true, zn_cl, ↓jj_Latt_recount, f3]
      refine ⟨fun _ => ?_, fun z => absurd (Int32.le_refl _) z⟩
      exact loopL 3 0 rfl g f e6 (fun nd _ hm => absurd hm (Nat.not_lt_zero _)) o
    | succ n ih =>
      intro i hi g f e6 o
      have ih := ih (i + 1) (by omega)
      obtain ⟨f1, f2, f3⟩ := id f
      have hiF : i < F.1 := by omega
      obtain ⟨wa, wb, wc, -, w240⟩ := zw_F_at hw hiF
      have q5 : g.2 91 5 = some 96 := by rw [f1]; exact p5
      refine zm_go g_Latt_recount [18, 63, 71, 107] 30 (by decide +kernel) ok_Latt_recount _ rfl ?_
      simp only [↓zq, ↓reduceIte, zr_si2, zr_sr1, zr_cp2, zr_tl, zr_tn, shq, List.contains_nil, List.contains_cons, Nat.reduceBEq, Bool.false_or, Bool.or_false, Bool.true_or, Bool.false_eq_true, if_false, if_true, true_and, and_true, List.set_cons_zero, List.set_cons_succ, List.length_cons, List.length_nil, Nat.reduceAdd, Nat.reduceLeDiff, Nat.le_refl, Nat.zero_le, true_or, or_true, zn_cl, ↓jj_Latt_recount, f3, q5]
      refine ⟨fun z => absurd z (nI_ge (by omega) (by omega)), fun _ => ?_⟩
      refine k_Facts_tripleAt (by rw [f1]; exact hp) (by omega) ?_
      simp only [↓zq, ↓reduceIte, zr_si2, zr_sr1, zr_cp2, zr_tl, zr_tn, shq, List.contains_nil, List.contains_cons, Nat.reduceBEq, Bool.false_or, Bool.or_false, Bool.true_or, Bool.false_eq_true, if_false, if_true, true_and, and_true, List.set_cons_zero, List.set_cons_succ, List.length_cons, List.length_nil, Nat.reduceAdd, Nat.reduceLeDiff, Nat.le_refl, Nat.zero_le, true_or, or_true, zn_cl, ↓jj_Latt_recount, f3, q5, nI_1]
      rw [f2 31 (by decide) (by decide) (by decide) (by decide) (by decide), (hF.2 i hiF).1]
      have e3 : nI (64 * F.2.1 i 0 + 8 * F.2.1 i 1 + F.2.1 i 2) >>> ((3 : Int32) &&& 31) &&& 63 = nI (8 * F.2.1 i 0 + F.2.1 i 1) := by
        rw [zn_s3 (by omega), show (64 * F.2.1 i 0 + 8 * F.2.1 i 1 + F.2.1 i 2) / 8 = 8 * F.2.1 i 0 + F.2.1 i 1 by omega, show (63 : Int32) = nI (2 ^ 6 - 1) from rfl, zn_and, Nat.and_two_pow_sub_one_eq_mod, Nat.mod_eq_of_lt (by omega)]
      have v1 : vp_in (nI (8 * F.2.1 i 0 + F.2.1 i 1)) 64 := vp_in_nI (by omega) (by decide)
      rw [e3, zn_a7, show (64 * F.2.1 i 0 + 8 * F.2.1 i 1 + F.2.1 i 2) % 8 = F.2.1 i 2 by omega, zn_s1 _ (by omega)]
      refine ⟨v1, v1, ?_⟩
      rw [nI_clamp (by omega), e6 _ (by omega), zn_or]
      refine ih _ ⟨(by exact f1), fun c a1 a2 a3 a4 a5 => ?_, ?_⟩ (fun r hr => ?_) _
      · funext x
        simp only [zr_si1]
        rw [if_neg (by omega), f2 c a1 a2 a3 a4 a5]
      · simp only [zr_si1]
        rw [if_neg (by omega), f3]
      · simp only [zr_si1]
        rw [zs_lr]
        by_cases e : r = 8 * F.2.1 i 0 + F.2.1 i 1
        · rw [if_pos ⟨trivial, e⟩, if_pos e.symm, e]
        · rw [if_neg (fun y => e y.2), if_neg (fun y => e y.symm)]
          exact e6 r hr
  have f1 := hF.1
  refine st_Latt_recount [18] 9 ?_
  simp only [↓zq, ↓reduceIte, zr_si2, zr_sr1, zr_cp2, zr_tl, zr_tn, shq, List.contains_nil, List.contains_cons, Nat.reduceBEq, Bool.false_or, Bool.or_false, Bool.true_or, Bool.false_eq_true, if_false, if_true, true_and, and_true, List.set_cons_zero, List.set_cons_succ, List.length_cons, List.length_nil, Nat.reduceAdd, Nat.reduceLeDiff, Nat.le_refl, Nat.zero_le, true_or, or_true, zn_cl, ↓jj_Latt_recount, f1, p5]
  refine k_fill (n := 64) (by decide) (by decide) ?_
  simp only [↓zq, ↓reduceIte, zr_si2, zr_sr1, zr_cp2, zr_tl, zr_tn, shq, List.contains_nil, List.contains_cons, Nat.reduceBEq, Bool.false_or, Bool.or_false, Bool.true_or, Bool.false_eq_true, if_false, if_true, true_and, and_true, List.set_cons_zero, List.set_cons_succ, List.length_cons, List.length_nil, Nat.reduceAdd, Nat.reduceLeDiff, Nat.le_refl, Nat.zero_le, true_or, or_true, zn_cl, ↓jj_Latt_recount]
  refine loopF F.1 0 (by omega) (zm_fl (zm_si h 91 8 (nI F.1)) 96 64 0) ⟨rfl, fun c a1 a2 a3 a4 a5 => ?_, ?_⟩ (fun r hr => ?_) none
  · funext x
    simp only [zm_fl, zr_si1]
    rw [if_neg (by omega), if_neg (by omega)]
  · simp [zm_fl, zr_si1]
  · simp only [zm_fl]
    rw [if_pos ⟨trivial, hr⟩]
    rfl
/-! below, prices -/
def zs_blw (nd ot : Nat) : Bool := decide (ot / 9 % 3 ≤ nd / 9 % 3) && decide (ot / 3 % 3 ≤ nd / 3 % 3) && decide (ot % 3 ≤ nd % 3)
def zs_nb (ot : Nat) : Nat := zs_bits (fun nd => zs_blw nd ot) 27
def zc_N (I : Nat → Nat → Int32) : Prop := ∀ ot, ot < 27 → I 93 ot = nI (zs_nb ot)
theorem zs_nb_lt (ot : Nat) : zs_nb ot < 2 ^ 27 := zs_bits_lt _ 27
theorem zs_nb_tb {nd ot : Nat} (h : nd < 27) : (zs_nb ot).testBit nd = zs_blw nd ot := by
  unfold zs_nb
  rw [zs_bits_tb]
  simp [h]
set_option maxHeartbeats 4000000 in
set_option maxRecDepth 100000 in
theorem k_Latt_isBelow {d : Nat} {h : zm_M} {R : zm_R} {nd ot : Nat} (hp : zp_ok h.2) (hN : zc_N h.1) (h1 : nd < 27) (h2 : ot < 27) (hR : R (some (.inl (if zs_blw nd ot = true then 1 else 0))) h) : zm_C (d + 2) TT m_Latt_isBelow [.inr (some 91), .inl (nI nd), .inl (nI ot)] h R := by
  obtain ⟨p0, p1, p2, p3, p5, p6, p7⟩ := zp_91 hp
  have v1 : vp_in (nI ot) 27 := vp_in_nI h2 (by decide)
  have c1 := nI_clamp (show ot < 2 ^ 31 by omega)
  have b1 := hN ot h2
  have lt := zs_nb_lt ot
  refine st_Latt_isBelow [] 30 ?_
  simp only [↓zq, ↓reduceIte, zr_si2, zr_sr1, zr_cp2, zr_tl, zr_tn, shq, List.contains_nil, List.contains_cons, Nat.reduceBEq, Bool.false_or, Bool.or_false, Bool.true_or, Bool.false_eq_true, if_false, if_true, true_and, and_true, List.set_cons_zero, List.set_cons_succ, List.length_cons, List.length_nil, Nat.reduceAdd, Nat.reduceLeDiff, Nat.le_refl, Nat.zero_le, true_or, or_true, zn_cl, ↓jj_Latt_isBelow, p1]
  refine k_KS_isNode (fun j hj e => ?_) (fun e => ?_)
  · simp only [↓zq, ↓reduceIte, zr_si2, zr_sr1, zr_cp2, zr_tl, zr_tn, shq, List.contains_nil, List.contains_cons, Nat.reduceBEq, Bool.false_or, Bool.or_false, Bool.true_or, Bool.false_eq_true, if_false, if_true, true_and, and_true, List.set_cons_zero, List.set_cons_succ, List.length_cons, List.length_nil, Nat.reduceAdd, Nat.reduceLeDiff, Nat.le_refl, Nat.zero_le, true_or, or_true, zn_cl, ↓jj_Latt_isBelow, p1]
    refine ⟨fun z => absurd z (by decide), fun _ => ?_⟩
    refine k_KS_isNode (fun j hj e => ?_) (fun e => ?_)
    · simp only [↓zq, ↓reduceIte, zr_si2, zr_sr1, zr_cp2, zr_tl, zr_tn, shq, List.contains_nil, List.contains_cons, Nat.reduceBEq, Bool.false_or, Bool.or_false, Bool.true_or, Bool.false_eq_true, if_false, if_true, true_and, and_true, List.set_cons_zero, List.set_cons_succ, List.length_cons, List.length_nil, Nat.reduceAdd, Nat.reduceLeDiff, Nat.le_refl, Nat.zero_le, true_or, or_true, zn_cl, ↓jj_Latt_isBelow, p1, v1, c1, b1]
      refine ⟨fun z => absurd z (by decide), fun _ => ?_⟩
      rw [zn_bitN (by omega) (by omega), zs_nb_tb h1]
      refine ⟨fun z => ?_, fun z => ?_⟩
      · rw [if_neg (by rw [z]; decide)] at hR
        exact hR
      · rw [if_pos (by simpa using z)] at hR
        exact hR
    · rcases e with e | e
      · exact absurd e (nI_pos (by omega))
      · exact absurd e (nI_ge (b := 27) h2 (by decide))
  · rcases e with e | e
    · exact absurd e (nI_pos (by omega))
    · exact absurd e (nI_ge (b := 27) h1 (by decide))
set_option maxHeartbeats 4000000 in
set_option maxRecDepth 100000 in
theorem k_Latt_groupsOf {d : Nat} {h : zm_M} {R : zm_R} {nd : Nat} (hp : zp_ok h.2) (h1 : nd < 27) (hR : R (some (.inl (h.1 92 nd))) h) : zm_C (d + 2) TT m_Latt_groupsOf [.inr (some 91), .inl (nI nd)] h R := by
  obtain ⟨p0, p1, p2, p3, p5, p6, p7⟩ := zp_91 hp
  have v1 : vp_in (nI nd) 27 := vp_in_nI h1 (by decide)
  have c1 := nI_clamp (show nd < 2 ^ 31 by omega)
  refine st_Latt_groupsOf [] 30 ?_
  simp only [↓zq, ↓reduceIte, zr_si2, zr_sr1, zr_cp2, zr_tl, zr_tn, shq, List.contains_nil, List.contains_cons, Nat.reduceBEq, Bool.false_or, Bool.or_false, Bool.true_or, Bool.false_eq_true, if_false, if_true, true_and, and_true, List.set_cons_zero, List.set_cons_succ, List.length_cons, List.length_nil, Nat.reduceAdd, Nat.reduceLeDiff, Nat.le_refl, Nat.zero_le, true_or, or_true, zn_cl, ↓jj_Latt_groupsOf, p0]
  refine k_KS_isNode (fun j hj e => ?_) (fun e => ?_)
  · simp only [↓zq, ↓reduceIte, zr_si2, zr_sr1, zr_cp2, zr_tl, zr_tn, shq, List.contains_nil, List.contains_cons, Nat.reduceBEq, Bool.false_or, Bool.or_false, Bool.true_or, Bool.false_eq_true, if_false, if_true, true_and, and_true, List.set_cons_zero, List.set_cons_succ, List.length_cons, List.length_nil, Nat.reduceAdd, Nat.reduceLeDiff, Nat.le_refl, Nat.zero_le, true_or, or_true, zn_cl, ↓jj_Latt_groupsOf, p0, v1, c1]
    exact ⟨fun z => absurd z (by decide), fun _ => hR⟩
  · rcases e with e | e
    · exact absurd e (nI_pos (by omega))
    · exact absurd e (nI_ge (b := 27) h1 (by decide))
set_option maxHeartbeats 4000000 in
set_option maxRecDepth 100000 in
theorem k_Latt_pickAt {d : Nat} {h : zm_M} {R : zm_R} {i : Nat} (hp : zp_ok h.2) (h1 : i < 6) (hR : R (some (.inl (h.1 95 i))) h) : zm_C (d + 1) TT m_Latt_pickAt [.inr (some 91), .inl (nI i)] h R := by
  obtain ⟨p0, p1, p2, p3, p5, p6, p7⟩ := zp_91 hp
  have v1 : vp_in (nI i) 6 := vp_in_nI h1 (by decide)
  have c1 := nI_clamp (show i < 2 ^ 31 by omega)
  refine st_Latt_pickAt [] 30 ?_
  simp only [↓zq, ↓reduceIte, zr_si2, zr_sr1, zr_cp2, zr_tl, zr_tn, shq, List.contains_nil, List.contains_cons, Nat.reduceBEq, Bool.false_or, Bool.or_false, Bool.true_or, Bool.false_eq_true, if_false, if_true, true_and, and_true, List.set_cons_zero, List.set_cons_succ, List.length_cons, List.length_nil, Nat.reduceAdd, Nat.reduceLeDiff, Nat.le_refl, Nat.zero_le, true_or, or_true, zn_cl, ↓jj_Latt_pickAt, p3, v1, c1]
  exact ⟨fun z => absurd z (nI_pos (by omega)), fun _ => ⟨fun z => absurd z (nI_ge (b := 6) h1 (by decide)), fun _ => hR⟩⟩
/-- least of a node by the told ones below k -/
def zs_lst (G : Nat → Nat) (n some nd : Nat) : Nat → Nat
  | 0 => n
  | t + 1 => if some.testBit t = true ∧ zs_blw nd t = true then min (zs_lst G n some nd t) (G t) else zs_lst G n some nd t
def zs_prc (G : Nat → Nat) (n some : Nat) : Nat := zs_cum (fun nd => zs_lst G n some nd 27) 27
theorem zs_lst_le (G : Nat → Nat) (n some nd : Nat) : ∀ k, zs_lst G n some nd k ≤ n
  | 0 => Nat.le_refl _
  | k + 1 => by
    have := zs_lst_le G n some nd k
    rw [zs_lst]
    split <;> omega
theorem zs_lst_add {G : Nat → Nat} {n some nd t : Nat} (ht : some.testBit t = false) : ∀ k, zs_lst G n (some ||| 2 ^ t) nd k = if t < k ∧ zs_blw nd t = true then min (zs_lst G n some nd k) (G t) else zs_lst G n some nd k
  | 0 => by simp [zs_lst]
  | k + 1 => by
    have ih := zs_lst_add (G := G) (n := n) (nd := nd) ht k
    rw [zs_lst, ih, zs_lst, Nat.testBit_or, Nat.testBit_two_pow]
    by_cases e : t = k
    · subst e
      by_cases e2 : zs_blw nd t = true
      · simp [e2, ht]
      · simp [e2, ht]
    · by_cases e1 : t < k
      · have e3 : t < k + 1 := by omega
        by_cases e2 : zs_blw nd t = true
        · by_cases e4 : some.testBit k = true ∧ zs_blw nd k = true
          · simp [e, e1, e2, e3, e4]; omega
          · by_cases e5 : some.testBit k = true
            · have e6 : ¬ zs_blw nd k = true := fun z => e4 ⟨e5, z⟩
              simp [e, e1, e2, e3, e5, e6]
            · simp [e, e1, e2, e3, e5]
        · simp [e, e1, e2, e3]
      · have e3 : ¬ t < k + 1 := by omega
        simp [e, e1, e3]
theorem zs_cum_bd {f : Nat → Nat} {c : Nat} (h : ∀ k, f k ≤ c) : ∀ m, zs_cum f m ≤ c * m
  | 0 => Nat.le_refl 0
  | m + 1 => by
    have := zs_cum_bd h m
    have := h m
    rw [zs_cum, Nat.mul_succ]
    omega
theorem zs_prc_le (G : Nat → Nat) (n some : Nat) : zs_prc G n some ≤ n * 27 := zs_cum_bd (fun nd => zs_lst_le G n some nd 27) 27
