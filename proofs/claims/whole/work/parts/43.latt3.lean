/-! picking one by one, the best two -/
def zs_gp (G : Nat → Nat) (n x : Nat) : Nat × Nat := (zs_pk G n x 27).getD (0, 0)
def zs_gs (G : Nat → Nat) (n : Nat) : Nat → Nat
  | 0 => 0
  | i + 1 => zs_gs G n i ||| 2 ^ (zs_gp G n (zs_gs G n i)).1
def zs_bc (x : Nat) : Nat := zs_some (fun k => if x.testBit k = true then 1 else 0) 27
theorem zs_some_all {f : Nat → Nat} : ∀ m, (∀ k, k < m → f k ≠ 0) → zs_some f m = m
  | 0, _ => rfl
  | m + 1, h => by
    rw [zs_some, zs_some_all m (fun k hk => h k (by omega)), if_neg (h m (by omega))]
theorem zs_gp_ok {G : Nat → Nat} {n x : Nat} (h : zs_bc x < 27) : zs_pk G n x 27 = some (zs_gp G n x) := by
  unfold zs_gp
  cases e : zs_pk G n x 27 with
  | some bp => rfl
  | none =>
    have h1 := zs_pk_none 27 e
    unfold zs_bc at h
    rw [zs_some_all 27 (fun k hk => by rw [if_pos (h1 k hk)]; decide)] at h
    omega
theorem zs_bc_or {x t : Nat} (ht : t < 27) (hx : x.testBit t = false) : zs_bc (x ||| 2 ^ t) = zs_bc x + 1 := by
  unfold zs_bc
  refine zs_some_new (k := t) ?_ ?_ 27 ht (fun j hj hn => ?_)
  · rw [if_neg (by rw [hx]; decide)]
  · rw [if_pos (by rw [Nat.testBit_or, Nat.testBit_two_pow]; simp)]
    decide
  · rw [Nat.testBit_or, Nat.testBit_two_pow]
    simp [show ¬ t = j from fun z => hn z.symm]
theorem zs_bc_0 : zs_bc 0 = 0 := by decide +kernel
theorem zs_gs_bc (G : Nat → Nat) (n : Nat) : ∀ i, i ≤ 6 → zs_bc (zs_gs G n i) = i ∧ zs_gs G n i < 2 ^ 27
  | 0, _ => ⟨zs_bc_0, show (0 : Nat) < 2 ^ 27 by decide⟩
  | i + 1, h => by
    obtain ⟨a, b⟩ := zs_gs_bc G n i (by omega)
    have e := zs_gp_ok (G := G) (n := n) (x := zs_gs G n i) (by omega)
    obtain ⟨s1, s2, s3⟩ := zs_pk_spec 27 _ e
    refine ⟨?_, ?_⟩
    · rw [zs_gs, zs_bc_or s1 s2, a]
    · rw [zs_gs]
      exact Nat.or_lt_two_pow b (Nat.pow_lt_pow_right (by decide) s1)
theorem zs_gs_spec (G : Nat → Nat) (n : Nat) {i : Nat} (hi : i < 6) : zs_pk G n (zs_gs G n i) 27 = some (zs_gp G n (zs_gs G n i)) ∧ (zs_gp G n (zs_gs G n i)).1 < 27 ∧ (zs_gs G n i).testBit (zs_gp G n (zs_gs G n i)).1 = false ∧ (zs_gp G n (zs_gs G n i)).2 = zs_prc G n (zs_gs G n (i + 1)) := by
  obtain ⟨a, b⟩ := zs_gs_bc G n i (by omega)
  have e := zs_gp_ok (G := G) (n := n) (x := zs_gs G n i) (by omega)
  obtain ⟨s1, s2, s3⟩ := zs_pk_spec 27 _ e
  exact ⟨e, s1, s2, s3⟩
theorem zs_tl_lst {G : Nat → Nat} {n x t nd : Nat} (ht : t < 27) (hx : x.testBit t = false) : zs_tl G (fun nd => zs_lst G n x nd 27) t nd = zs_lst G n (x ||| 2 ^ t) nd 27 := by
  rw [zs_lst_add hx]
  unfold zs_tl
  simp only [ht, true_and]
theorem zs_lst_0 (G : Nat → Nat) (n nd : Nat) : ∀ k, zs_lst G n 0 nd k = n
  | 0 => rfl
  | k + 1 => by rw [zs_lst, zs_lst_0 G n nd k]; simp
set_option maxHeartbeats 4000000 in
set_option maxRecDepth 100000 in
theorem k_Latt_pickGreedily {d : Nat} {h : zm_M} {R : zm_R} {n k : Nat} {G : Nat → Nat} (hp : zp_ok h.2) (hN : zc_N h.1) (hk1 : 1 ≤ k) (hk6 : k ≤ 6) (hn : h.1 91 8 = nI n) (hn2 : n ≤ 512) (hG : ∀ nd, nd < 27 → h.1 92 nd = nI (G nd)) (hG2 : ∀ nd, G nd ≤ 512) (hR : ∀ h' : zm_M, h'.2 = h.2 → (∀ c, c ≠ 91 → c ≠ 94 → c ≠ 95 → h'.1 c = h.1 c) → h'.1 91 4 = nI (zs_prc G n (zs_gs G n k)) → (∀ j, j < k → h'.1 95 j = nI (zs_gp G n (zs_gs G n j)).1) → R none h') : zm_C (d + 5) TT m_Latt_pickGreedily [.inr (some 91), .inl (nI k)] h R := by
  obtain ⟨p0, p1, p2, p3, p5, p6, p7⟩ := zp_91 hp
  have loop : ∀ (m i : Nat), i + m = k → ∀ g : zm_M, g.2 = h.2 → (∀ c, c ≠ 91 → c ≠ 94 → c ≠ 95 → g.1 c = h.1 c) → g.1 91 8 = nI n → (1 ≤ i → g.1 91 4 = nI (zs_prc G n (zs_gs G n i))) → (∀ j, j < i → g.1 95 j = nI (zs_gp G n (zs_gs G n j)).1) → (∀ nd, nd < 27 → g.1 94 nd = nI (zs_lst G n (zs_gs G n i) nd 27)) → zm_W (zm_md m_Latt_pickGreedily) (d + 5) TT R 8 [some (.inr (some 91)), some (.inl (nI k)), some (.inl (nI (zs_gs G n i))), some (.inl (nI i))] [] g := by
    intro m
    induction m with
    | zero =>
      intro i hi g e1 e2 e3 e4 e5 e6
      have : i = k := by omega
      subst this
      refine zm_go g_Latt_pickGreedily [8] 30 (by decide +kernel) ok_Latt_pickGreedily _ rfl ?_
      simp only [↓zq, ↓reduceIte, zr_si2, zr_sr1, zr_cp2, zr_tl, zr_tn, shq, List.contains_nil, List.contains_cons, Nat.reduceBEq, Bool.false_or, Bool.or_false, Bool.true_or, Bool.false_eq_true, if_false, if_true, true_and, and_true, List.set_cons_zero, List.set_cons_succ, List.length_cons, List.length_nil, Nat.reduceAdd, Nat.reduceLeDiff, Nat.le_refl, Nat.zero_le, true_or, or_true, zn_cl, ↓jj_Latt_pickGreedily]
      exact ⟨fun _ => hR g e1 e2 (e4 hk1) e5, fun z => absurd (Int32.le_refl _) z⟩
    | succ m ih =>
      intro i hi g e1 e2 e3 e4 e5 e6
      have ih := ih (i + 1) (by omega)
      obtain ⟨bc, bl⟩ := zs_gs_bc G n i (by omega)
      obtain ⟨s0, s1, s2, s3⟩ := zs_gs_spec G n (show i < 6 by omega)
      have gN : zc_N g.1 := fun ot ho => by rw [e2 93 (by decide) (by decide) (by decide)]; exact hN ot ho
      have v1 : vp_in (nI i) 6 := vp_in_nI (by omega) (by decide)
      have c1 := nI_clamp (show i < 2 ^ 31 by omega)
      refine zm_go g_Latt_pickGreedily [8] 30 (by decide +kernel) ok_Latt_pickGreedily _ rfl ?_
      simp only [↓zq, ↓reduceIte, zr_si2, zr_sr1, zr_cp2, zr_tl, zr_tn, shq, List.contains_nil, List.contains_cons, Nat.reduceBEq, Bool.false_or, Bool.or_false, Bool.true_or, Bool.false_eq_true, if_false, if_true, true_and, and_true, List.set_cons_zero, List.set_cons_succ, List.length_cons, List.length_nil, Nat.reduceAdd, Nat.reduceLeDiff, Nat.le_refl, Nat.zero_le, true_or, or_true, zn_cl, ↓jj_Latt_pickGreedily]
      refine ⟨fun z => absurd z (nI_ge (by omega) (by omega)), fun _ => ⟨fun z => absurd z (nI_ge (b := 6) (by omega) (by decide)), fun _ => ?_⟩⟩
      refine k_Latt_pickNext (G := G) (n := n) (by rw [e1]; exact hp) gN bl (by omega) hn2 (fun nd hnd => by rw [e2 92 (by decide) (by decide) (by decide)]; exact hG nd hnd) hG2 e6 (fun g' f1 f2 f3 f4 f5 f6 => ?_)
      have q3 : g'.2 91 3 = some 95 := by rw [f1, e1]; exact p3
      rw [s0] at f5
      have f5' : g'.1 95 i = nI (zs_gp G n (zs_gs G n i)).1 := f5
      simp only [↓zq, ↓reduceIte, zr_si2, zr_sr1, zr_cp2, zr_tl, zr_tn, shq, List.contains_nil, List.contains_cons, Nat.reduceBEq, Bool.false_or, Bool.or_false, Bool.true_or, Bool.false_eq_true, if_false, if_true, true_and, and_true, List.set_cons_zero, List.set_cons_succ, List.length_cons, List.length_nil, Nat.reduceAdd, Nat.reduceLeDiff, Nat.le_refl, Nat.zero_le, true_or, or_true, zn_cl, ↓jj_Latt_pickGreedily, q3, v1, c1, f5']
      rw [zn_s1 _ (by omega), zn_or]
      refine k_Latt_tell (G := G) (ls := fun nd => zs_lst G n (zs_gs G n i) nd 27) (by rw [f1, e1]; exact hp) (fun ot ho => by rw [f2 93 (by decide) (by decide)]; exact gN ot ho) s1 (by rw [f2 92 (by decide) (by decide), e2 92 (by decide) (by decide) (by decide)]; exact hG _ s1) (hG2 _) (fun nd hnd => by rw [f2 94 (by decide) (by decide)]; exact e6 nd hnd) (fun nd => Nat.le_trans (zs_lst_le _ _ _ _ _) hn2) (fun g2 t1 t2 t3 => ?_)
      simp only [↓zq, ↓reduceIte, zr_si2, zr_sr1, zr_cp2, zr_tl, zr_tn, shq, List.contains_nil, List.contains_cons, Nat.reduceBEq, Bool.false_or, Bool.or_false, Bool.true_or, Bool.false_eq_true, if_false, if_true, true_and, and_true, List.set_cons_zero, List.set_cons_succ, List.length_cons, List.length_nil, Nat.reduceAdd, Nat.reduceLeDiff, Nat.le_refl, Nat.zero_le, true_or, or_true, zn_cl, ↓jj_Latt_pickGreedily, nI_1]
      refine ih g2 (t1.trans (f1.trans e1)) (fun c a1 a2 a3 => (t2 c a2).trans ((f2 c a1 a3).trans (e2 c a1 a2 a3))) ?_ (fun _ => ?_) (fun j hj => ?_) (fun nd hnd => ?_)
      · rw [t2 91 (by decide), f3, e3]
      · rw [t2 91 (by decide), f4 _ s0, s3]
      · rw [t2 95 (by decide)]
        by_cases ej : j = i
        · rw [ej, f5']
        · rw [f6 j ej]
          exact e5 j (by omega)
      · rw [t3 nd hnd, zs_tl_lst s1 s2]
        rfl
  refine st_Latt_pickGreedily [8] 9 ?_
  simp only [↓zq, ↓reduceIte, zr_si2, zr_sr1, zr_cp2, zr_tl, zr_tn, shq, List.contains_nil, List.contains_cons, Nat.reduceBEq, Bool.false_or, Bool.or_false, Bool.true_or, Bool.false_eq_true, if_false, if_true, true_and, and_true, List.set_cons_zero, List.set_cons_succ, List.length_cons, List.length_nil, Nat.reduceAdd, Nat.reduceLeDiff, Nat.le_refl, Nat.zero_le, true_or, or_true, zn_cl, ↓jj_Latt_pickGreedily]
  refine k_Latt_tellNone hp ?_
  simp only [↓zq, ↓reduceIte, zr_si2, zr_sr1, zr_cp2, zr_tl, zr_tn, shq, List.contains_nil, List.contains_cons, Nat.reduceBEq, Bool.false_or, Bool.or_false, Bool.true_or, Bool.false_eq_true, if_false, if_true, true_and, and_true, List.set_cons_zero, List.set_cons_succ, List.length_cons, List.length_nil, Nat.reduceAdd, Nat.reduceLeDiff, Nat.le_refl, Nat.zero_le, true_or, or_true, zn_cl, ↓jj_Latt_pickGreedily]
  refine loop k 0 (by omega) (zm_fl h 94 27 (h.1 91 8)) rfl (fun c a1 a2 a3 => ?_) ?_ (fun z => absurd z (by decide)) (fun j hj => absurd hj (Nat.not_lt_zero j)) (fun nd hnd => ?_)
  · funext j
    simp only [zm_fl]
    rw [if_neg (by omega)]
  · simp only [zm_fl]
    rw [if_neg (by decide)]
    exact hn
  · simp only [zm_fl]
    rw [if_pos ⟨trivial, hnd⟩, hn, zs_gs, zs_lst_0]
/-- pairs: of two nodes, the price -/
def zs_up2 (o : Option (Nat × Nat × Nat)) (a b p : Nat) : Option (Nat × Nat × Nat) := match o with
  | none => some (a, b, p)
  | some y => if p < y.2.2 then some (a, b, p) else some y
def zs_bi (G : Nat → Nat) (n a : Nat) (o : Option (Nat × Nat × Nat)) : Nat → Option (Nat × Nat × Nat)
  | 0 => o
  | j + 1 => zs_up2 (zs_bi G n a o j) a (a + 1 + j) (zs_prc G n (2 ^ a ||| 2 ^ (a + 1 + j)))
def zs_bo (G : Nat → Nat) (n : Nat) : Nat → Option (Nat × Nat × Nat)
  | 0 => none
  | a + 1 => zs_bi G n a (zs_bo G n a) (26 - a)
theorem zs_up2_ok {c : Nat} {o : Option (Nat × Nat × Nat)} {a b p : Nat} (ha : a < 27) (hb : b < 27) (hp : p ≤ c) (h : ∀ y, o = some y → y.1 < 27 ∧ y.2.1 < 27 ∧ y.2.2 ≤ c) : ∀ y, zs_up2 o a b p = some y → y.1 < 27 ∧ y.2.1 < 27 ∧ y.2.2 ≤ c := by
  intro y hy
  unfold zs_up2 at hy
  split at hy
  · cases hy; exact ⟨ha, hb, hp⟩
  · next y2 =>
    split at hy
    · cases hy; exact ⟨ha, hb, hp⟩
    · cases hy; exact h _ rfl
theorem zs_bi_ok {G : Nat → Nat} {n a : Nat} (ha : a < 27) {o : Option (Nat × Nat × Nat)} (h : ∀ y, o = some y → y.1 < 27 ∧ y.2.1 < 27 ∧ y.2.2 ≤ n * 27) : ∀ j, a + j < 27 → ∀ y, zs_bi G n a o j = some y → y.1 < 27 ∧ y.2.1 < 27 ∧ y.2.2 ≤ n * 27
  | 0, _ => h
  | j + 1, hj => zs_up2_ok ha (by omega) (zs_prc_le G n _) (zs_bi_ok ha h j (by omega))
theorem zs_bo_ok (G : Nat → Nat) (n : Nat) : ∀ a, a ≤ 27 → ∀ y, zs_bo G n a = some y → y.1 < 27 ∧ y.2.1 < 27 ∧ y.2.2 ≤ n * 27
  | 0, _ => fun y hy => by cases hy
  | a + 1, h => zs_bi_ok (by omega) (zs_bo_ok G n a (by omega)) (26 - a) (by omega)
theorem zs_up2_some (o : Option (Nat × Nat × Nat)) (a b p : Nat) : ∃ y, zs_up2 o a b p = some y := by
  unfold zs_up2
  split
  · exact ⟨_, rfl⟩
  · split <;> exact ⟨_, rfl⟩
theorem zs_bi_some {G : Nat → Nat} {n a : Nat} {o : Option (Nat × Nat × Nat)} (h : ∃ y, o = some y) : ∀ j, ∃ y, zs_bi G n a o j = some y
  | 0 => h
  | j + 1 => zs_up2_some _ _ _ _
theorem zs_bo_some (G : Nat → Nat) (n : Nat) : ∀ a, ∃ y, zs_bo G n (a + 1) = some y
  | 0 => zs_up2_some _ _ _ _
  | a + 1 => zs_bi_some (zs_bo_some G n a) _
def zc_b2 (I : Nat → Nat → Int32) (o : Option (Nat × Nat × Nat)) : Prop := ∀ y, o = some y → I 91 4 = nI y.2.2 ∧ I 95 0 = nI y.1 ∧ I 95 1 = nI y.2.1
set_option maxHeartbeats 4000000 in
set_option maxRecDepth 100000 in
theorem k_Latt_pickBestTwo {d : Nat} {h : zm_M} {R : zm_R} {n : Nat} {G : Nat → Nat} (hp : zp_ok h.2) (hN : zc_N h.1) (hn : h.1 91 8 = nI n) (hn2 : n ≤ 512) (hG : ∀ nd, nd < 27 → h.1 92 nd = nI (G nd)) (hG2 : ∀ nd, G nd ≤ 512) (hR : ∀ h' : zm_M, h'.2 = h.2 → (∀ c, c ≠ 91 → c ≠ 94 → c ≠ 95 → h'.1 c = h.1 c) → zc_b2 h'.1 (zs_bo G n 27) → R none h') : zm_C (d + 4) TT m_Latt_pickBestTwo [.inr (some 91)] h R := by
  obtain ⟨p0, p1, p2, p3, p5, p6, p7⟩ := zp_91 hp
  let fr : zm_M → Prop := fun g => g.2 = h.2 ∧ (∀ c, c ≠ 91 → c ≠ 94 → c ≠ 95 → g.1 c = h.1 c) ∧ g.1 91 8 = nI n
  have ple : ∀ y, zs_prc G n y ≤ 512 * 27 := fun y => Nat.le_trans (zs_prc_le G n y) (Nat.mul_le_mul_right 27 hn2)
  have n27 : n * 27 ≤ 512 * 27 := Nat.mul_le_mul_right 27 hn2
  have loopI : ∀ (m j a : Nat), a < 27 → j + m = 26 - a → ∀ g : zm_M, fr g → zc_b2 g.1 (zs_bi G n a (zs_bo G n a) j) → (∀ nd, nd < 27 → g.1 94 nd = nI (zs_lst G n (2 ^ a) nd 27)) → (∀ g : zm_M, fr g → zc_b2 g.1 (zs_bo G n (a + 1)) → ∀ o1 o2, zm_W (zm_md m_Latt_pickBestTwo) (d + 4) TT R 4 [some (.inr (some 91)), some (.inl (if (zs_bo G n (a + 1)).isSome = true then 1 else 0)), some (.inl (nI (a + 1))), o1, o2] [] g) → ∀ o, zm_W (zm_md m_Latt_pickBestTwo) (d + 4) TT R 23 [some (.inr (some 91)), some (.inl (if (zs_bi G n a (zs_bo G n a) j).isSome = true then 1 else 0)), some (.inl (nI a)), some (.inl (nI (a + 1 + j))), o] [] g := by
    intro m
    induction m with
    | zero =>
      intro j a ha hj g f e e6 nx o
      have : j = 26 - a := by omega
      subst this
      have nxt := nx g f e
      refine zm_go g_Latt_pickBestTwo [4, 23] 30 (by decide +kernel) ok_Latt_pickBestTwo _ rfl ?_
      simp only [↓zq, ↓reduceIte, zr_si2, zr_sr1, zr_cp2, zr_tl, zr_tn, shq, List.contains_nil, List.contains_cons, Nat.reduceBEq, Bool.false_or, Bool.or_false, Bool.true_or, Bool.false_eq_true, if_false, if_true, true_and, and_true, List.set_cons_zero, List.set_cons_succ, List.length_cons, List.length_nil, Nat.reduceAdd, Nat.reduceLeDiff, Nat.le_refl, Nat.zero_le, true_or, or_true, zn_cl, ↓jj_Latt_pickBestTwo, nI_1]
      refine ⟨fun _ => ?_, fun z => absurd (nI_le (a := 27) (b := a + 1 + (26 - a)) (by omega) (by omega)) z⟩
      exact nxt _ _
    | succ m ih =>
      intro j a ha hj g f e e6 nx o
      obtain ⟨f1, f2, f3⟩ := id f
      have ih := ih (j + 1) a ha (by omega)
      rw [zs_bi] at ih
      have gp : zp_ok g.2 := by rw [f1]; exact hp
      have q3 : g.2 91 3 = some 95 := by rw [f1]; exact p3
      have gN : zc_N g.1 := fun ot ho => by rw [f2 93 (by decide) (by decide) (by decide)]; exact hN ot ho
      have pl := ple (2 ^ a ||| 2 ^ (a + 1 + j))
      have tb : (2 ^ a).testBit (a + 1 + j) = false := by rw [Nat.testBit_two_pow]; simp; omega
      refine zm_go g_Latt_pickBestTwo [4, 23] 30 (by decide +kernel) ok_Latt_pickBestTwo _ rfl ?_
      simp only [↓zq, ↓reduceIte, zr_si2, zr_sr1, zr_cp2, zr_tl, zr_tn, shq, List.contains_nil, List.contains_cons, Nat.reduceBEq, Bool.false_or, Bool.or_false, Bool.true_or, Bool.false_eq_true, if_false, if_true, true_and, and_true, List.set_cons_zero, List.set_cons_succ, List.length_cons, List.length_nil, Nat.reduceAdd, Nat.reduceLeDiff, Nat.le_refl, Nat.zero_le, true_or, or_true, zn_cl, ↓jj_Latt_pickBestTwo, q3]
      refine ⟨fun z => absurd z (nI_ge (b := 27) (by omega) (by decide)), fun _ => ?_⟩
      refine k_Latt_priceWith (G := G) (ls := fun nd => zs_lst G n (2 ^ a) nd 27) gp gN (by omega) (by rw [f2 92 (by decide) (by decide) (by decide)]; exact hG _ (by omega)) (hG2 _) e6 (fun nd => Nat.le_trans (zs_lst_le _ _ _ _ _) hn2) ?_
      rw [zs_prc_or (by omega) tb]
      simp only [↓zq, ↓reduceIte, zr_si2, zr_sr1, zr_cp2, zr_tl, zr_tn, shq, List.contains_nil, List.contains_cons, Nat.reduceBEq, Bool.false_or, Bool.or_false, Bool.true_or, Bool.false_eq_true, if_false, if_true, true_and, and_true, List.set_cons_zero, List.set_cons_succ, List.length_cons, List.length_nil, Nat.reduceAdd, Nat.reduceLeDiff, Nat.le_refl, Nat.zero_le, true_or, or_true, zn_cl, ↓jj_Latt_pickBestTwo, q3, nI_1]
      have wr : zs_up2 (zs_bi G n a (zs_bo G n a) j) a (a + 1 + j) (zs_prc G n (2 ^ a ||| 2 ^ (a + 1 + j))) = some (a, a + 1 + j, zs_prc G n (2 ^ a ||| 2 ^ (a + 1 + j))) → ∀ o, zm_W (zm_md m_Latt_pickBestTwo) (d + 4) TT R 23 [some (.inr (some 91)), some (.inl 1), some (.inl (nI a)), some (.inl (nI (a + 1 + j + 1))), o] [] (zm_si (zm_si (zm_si g 91 4 (nI (zs_prc G n (2 ^ a ||| 2 ^ (a + 1 + j))))) 95 0 (nI a)) 95 1 (nI (a + 1 + j))) := by
        intro eu o
        rw [eu] at ih
        refine ih _ ⟨(by exact f1), fun c a1 a2 a3 => ?_, ?_⟩ (fun y hy => ?_) (fun nd hnd => ?_) nx o
        · funext x
          simp only [zr_si1]
          rw [if_neg (by omega), if_neg (by omega), if_neg (by omega), f2 c a1 a2 a3]
        · simp only [zr_si1]
          rw [if_neg (by decide), if_neg (by decide), if_neg (by decide), f3]
        · cases hy
          simp [zr_si1]
        · simp only [zr_si1]
          rw [if_neg (by omega), if_neg (by omega), if_neg (by omega)]
          exact e6 nd hnd
      cases eo : zs_bi G n a (zs_bo G n a) j with
      | none =>
        simp only [Option.isSome, Bool.false_eq_true, if_false]
        refine ⟨fun _ => ⟨zn_v, zn_v, ?_⟩, fun z => absurd trivial z⟩
        exact wr (by rw [eo]; rfl) _
      | some y =>
        obtain ⟨y1, y2, y3⟩ := e y eo
        obtain ⟨w1, w2, w3⟩ := zs_bi_ok ha (zs_bo_ok G n a (by omega)) j (by omega) y eo
        simp only [Option.isSome, if_true]
        rw [y1]
        simp only [zn_le (show y.2.2 < 2 ^ 31 by omega) (show zs_prc G n (2 ^ a ||| 2 ^ (a + 1 + j)) < 2 ^ 31 by omega)]
        refine ⟨fun z => absurd z (by decide), fun _ => ⟨fun z => ?_, fun z => ⟨zn_v, zn_v, ?_⟩⟩⟩
        · rw [eo] at ih
          have eu : zs_up2 (some y) a (a + 1 + j) (zs_prc G n (2 ^ a ||| 2 ^ (a + 1 + j))) = some y := by
            unfold zs_up2
            simp only []
            rw [if_neg (by omega)]
          rw [eu] at ih
          exact ih g f (fun y' hy' => by cases hy'; exact ⟨y1, y2, y3⟩) e6 nx _
        · refine wr ?_ _
          rw [eo]
          unfold zs_up2
          simp only []
          rw [if_pos (by omega)]
  have loopO : ∀ (m a : Nat), a + m = 27 → ∀ g : zm_M, fr g → zc_b2 g.1 (zs_bo G n a) → ∀ o1 o2, zm_W (zm_md m_Latt_pickBestTwo) (d + 4) TT R 4 [some (.inr (some 91)), some (.inl (if (zs_bo G n a).isSome = true then 1 else 0)), some (.inl (nI a)), o1, o2] [] g := by
    intro m
    induction m with
    | zero =>
      intro a ha g f e o1 o2
      have : a = 27 := by omega
      subst this
      refine zm_go g_Latt_pickBestTwo [4, 23] 30 (by decide +kernel) ok_Latt_pickBestTwo _ rfl ?_
      simp only [↓zq, ↓reduceIte, zr_si2, zr_sr1, zr_cp2, zr_tl, zr_tn, shq, List.contains_nil, List.contains_cons, Nat.reduceBEq, Bool.false_or, Bool.or_false, Bool.true_or, Bool.false_eq_true, if_false, if_true, true_and, and_true, List.set_cons_zero, List.set_cons_succ, List.length_cons, List.length_nil, Nat.reduceAdd, Nat.reduceLeDiff, Nat.le_refl, Nat.zero_le, true_or, or_true, zn_cl, ↓jj_Latt_pickBestTwo]
      exact ⟨fun _ => hR g f.1 f.2.1 e, fun z => absurd (Int32.le_refl _) z⟩
    | succ m ih =>
      intro a ha g f e o1 o2
      have ih := ih (a + 1) (by omega)
      obtain ⟨f1, f2, f3⟩ := id f
      have gN : zc_N g.1 := fun ot ho => by rw [f2 93 (by decide) (by decide) (by decide)]; exact hN ot ho
      refine zm_go g_Latt_pickBestTwo [4, 23] 30 (by decide +kernel) ok_Latt_pickBestTwo _ rfl ?_
      simp only [↓zq, ↓reduceIte, zr_si2, zr_sr1, zr_cp2, zr_tl, zr_tn, shq, List.contains_nil, List.contains_cons, Nat.reduceBEq, Bool.false_or, Bool.or_false, Bool.true_or, Bool.false_eq_true, if_false, if_true, true_and, and_true, List.set_cons_zero, List.set_cons_succ, List.length_cons, List.length_nil, Nat.reduceAdd, Nat.reduceLeDiff, Nat.le_refl, Nat.zero_le, true_or, or_true, zn_cl, ↓jj_Latt_pickBestTwo]
      refine ⟨fun z => absurd z (nI_ge (b := 27) (by omega) (by decide)), fun _ => ?_⟩
      refine k_Latt_tellNone (by rw [f1]; exact hp) ?_
      simp only [↓zq, ↓reduceIte, zr_si2, zr_sr1, zr_cp2, zr_tl, zr_tn, shq, List.contains_nil, List.contains_cons, Nat.reduceBEq, Bool.false_or, Bool.or_false, Bool.true_or, Bool.false_eq_true, if_false, if_true, true_and, and_true, List.set_cons_zero, List.set_cons_succ, List.length_cons, List.length_nil, Nat.reduceAdd, Nat.reduceLeDiff, Nat.le_refl, Nat.zero_le, true_or, or_true, zn_cl, ↓jj_Latt_pickBestTwo]
      refine k_Latt_tell (G := G) (ls := fun nd => zs_lst G n 0 nd 27) (by exact (by rw [f1]; exact hp : zp_ok g.2)) (fun ot ho => ?_) (by omega) ?_ (hG2 _) (fun nd hnd => ?_) (fun nd => Nat.le_trans (zs_lst_le _ _ _ _ _) hn2) (fun g2 t1 t2 t3 => ?_)
      · simp only [zm_fl]
        rw [if_neg (by omega)]
        exact gN ot ho
      · simp only [zm_fl]
        rw [if_neg (by omega), f2 92 (by decide) (by decide) (by decide)]
        exact hG _ (by omega)
      · simp only [zm_fl]
        rw [if_pos ⟨trivial, hnd⟩, f3, zs_lst_0]
      · simp only [↓zq, ↓reduceIte, zr_si2, zr_sr1, zr_cp2, zr_tl, zr_tn, shq, List.contains_nil, List.contains_cons, Nat.reduceBEq, Bool.false_or, Bool.or_false, Bool.true_or, Bool.false_eq_true, if_false, if_true, true_and, and_true, List.set_cons_zero, List.set_cons_succ, List.length_cons, List.length_nil, Nat.reduceAdd, Nat.reduceLeDiff, Nat.le_refl, Nat.zero_le, true_or, or_true, zn_cl, ↓jj_Latt_pickBestTwo, nI_1]
        have e94 : ∀ c, c ≠ 94 → g2.1 c = g.1 c := fun c hc => by
          rw [t2 c hc]
          funext x
          simp only [zm_fl]
          rw [if_neg (by omega)]
        refine loopI (26 - a) 0 a (by omega) (by omega) g2 ⟨t1.trans f1, fun c a1 a2 a3 => (e94 c a2).trans (f2 c a1 a2 a3), ?_⟩ ?_ (fun nd hnd => ?_) ih _
        · rw [e94 91 (by decide), f3]
        · intro y hy
          rw [e94 91 (by decide), e94 95 (by decide)]
          exact e y hy
        · rw [t3 nd hnd, zs_tl_lst (by omega) (by simp), Nat.zero_or]
  refine st_Latt_pickBestTwo [4, 23] 9 ?_
  simp only [↓zq, ↓reduceIte, zr_si2, zr_sr1, zr_cp2, zr_tl, zr_tn, shq, List.contains_nil, List.contains_cons, Nat.reduceBEq, Bool.false_or, Bool.or_false, Bool.true_or, Bool.false_eq_true, if_false, if_true, true_and, and_true, List.set_cons_zero, List.set_cons_succ, List.length_cons, List.length_nil, Nat.reduceAdd, Nat.reduceLeDiff, Nat.le_refl, Nat.zero_le, true_or, or_true, zn_cl, ↓jj_Latt_pickBestTwo]
  exact loopO 27 0 rfl h ⟨rfl, fun _ _ _ _ => rfl, hn⟩ (fun y hy => by cases hy) none none
