/-! the law's text as the reference reads it -/
abbrev zr_K : Type := List (Nat × Nat)
def zr_sk (g : Nat → Int32) : zr_K → Prop
  | [] => True
  | x :: r => g r.length = nI (1048576 * x.1 + x.2) ∧ x.1 ≤ 14 ∧ x.2 < 1048576 ∧ zr_sk g r
theorem zr_sk_c {g g' : Nat → Int32} : ∀ (k : zr_K), (∀ i, i < k.length → g' i = g i) → zr_sk g k → zr_sk g' k
  | [], _, _ => trivial
  | x :: r, h, hs => ⟨(h r.length (by simp)).trans hs.1, hs.2.1, hs.2.2.1, zr_sk_c r (fun i hi => h i (by simp; omega)) hs.2.2.2⟩
def zr_c (I : Nat → Nat → Int32) (c : zl_c) : Prop := I 133 14 = nI c.1 ∧ c.1 ≤ 240 ∧ ∀ k, k < c.1 → I 138 k = nI (1048576 * (c.2 k).1 + (c.2 k).2) ∧ (c.2 k).1 ≤ 12 ∧ (c.2 k).2 < 1048576
def zr_w (I : Nat → Nat → Int32) (k : zr_K) : Prop := I 133 15 = nI k.length ∧ k.length ≤ 240 ∧ zr_sk (I 139) k
def zr_s (h : zm_M) (T : Nat → Nat) (n p : Nat) (c : zl_c) (k : zr_K) (o : Nat) : Prop := zp_mo h.2 ∧ zu_s h T n p ∧ zr_c h.1 c ∧ zr_w h.1 k ∧ (h.1 133 13 = nI o ∧ o ≤ 6)
/-- changed: place, fault, number, open, codes, what waits -/
def zr_f2 (h h' : zm_M) : Prop := h'.2 = h.2 ∧ (∀ a, a ≠ 133 → a ≠ 138 → a ≠ 139 → h'.1 a = h.1 a) ∧ ∀ k, (k < 9 ∨ k = 10 ∨ 15 < k) → h'.1 133 k = h.1 133 k
theorem zr_f2.rf (h : zm_M) : zr_f2 h h := ⟨rfl, fun _ _ _ _ => rfl, fun _ _ => rfl⟩
theorem zr_f2.tr {h h' h'' : zm_M} (a : zr_f2 h h') (b : zr_f2 h' h'') : zr_f2 h h'' := ⟨b.1.trans a.1, fun x h1 h2 h3 => (b.2.1 x h1 h2 h3).trans (a.2.1 x h1 h2 h3), fun k hk => (b.2.2 k hk).trans (a.2.2 k hk)⟩
theorem zu_n.r {h h' : zm_M} (a : zu_n h h') : zr_f2 h h' := ⟨a.1, fun x h1 _ _ => a.2.1 x h1, fun k hk => a.2.2 k (by omega) (by omega) (by omega)⟩
theorem zr_s_n {h h' : zm_M} {T : Nat → Nat} {n p p' : Nat} {c : zl_c} {k : zr_K} {o : Nat} (hs : zr_s h T n p c k o) (hf : zu_n h h') (hs' : zu_s h' T n p') : zr_s h' T n p' c k o := by
  obtain ⟨a1, a2, a3, a4, a5⟩ := hs
  refine ⟨by rw [hf.1]; exact a1, hs', ?_, ?_, ?_⟩
  · unfold zr_c
    rw [hf.2.2 14 (by omega) (by omega) (by omega), hf.2.1 138 (by omega)]
    exact a3
  · unfold zr_w
    rw [hf.2.2 15 (by omega) (by omega) (by omega), hf.2.1 139 (by omega)]
    exact a4
  · rw [hf.2.2 13 (by omega) (by omega) (by omega)]
    exact a5
set_option maxHeartbeats 4000000 in
set_option maxRecDepth 100000 in
theorem k_Mo_notes {d : Nat} {h : zm_M} {R : zm_R} {T : Nat → Nat} {n p op v o : Nat} {c : zl_c} {k : zr_K} (hs : zr_s h T n p c k o) (h1 : op ≤ 12) (h2 : v < 1048576) (h3 : c.1 < 240) (hR : ∀ h' : zm_M, zr_f2 h h' → zr_s h' T n p (lc_push op v c) k o → R none h') : zm_C (d + 1) TT m_Mo_notes [.inr (some 133), .inl (nI op), .inl (nI v)] h R := by
  obtain ⟨a1, a2, ⟨a3, a4, a5⟩, a6, a7⟩ := id hs
  have p18 : h.2 133 18 = some 138 := by simp only [a1]
  have v1 : vp_in (nI c.1) 260 := vp_in_nI (by omega) (by decide)
  have cl := nI_clamp (show c.1 < 2 ^ 31 by omega)
  have ev : (1048576 : Int32) * nI op + nI v = nI (1048576 * op + v) := by rw [show (1048576 : Int32) = nI 1048576 from rfl, pk_mul, nI_add]
  obtain ⟨b1, b2, b3⟩ := lc_push_at (op := op) (v := v) h3
  refine st_Mo_notes [] 30 ?_
  simp only [↓zq, ↓reduceIte, zr_si2, zr_sr1, zr_cp2, zr_tl, zr_tn, shq, List.contains_nil, List.contains_cons, Nat.reduceBEq, Bool.false_or, Bool.or_false, Bool.true_or, Bool.false_eq_true, if_false, if_true, true_and, and_true, List.set_cons_zero, List.set_cons_succ, List.length_cons, List.length_nil, Nat.reduceAdd, Nat.reduceLeDiff, Nat.le_refl, Nat.zero_le, true_or, or_true, zn_cl, ↓jj_Mo_notes, p18, a3, v1, cl, ev]
  simp only [zr_si1, show ¬ (133 : Nat) = 138 by decide, false_and, if_false, a3, nI_1]
  obtain ⟨g, hg⟩ : ∃ g : zm_M, g = zm_si (zm_si h 138 c.1 (nI (1048576 * op + v))) 133 14 (nI (c.1 + 1)) := ⟨_, rfl⟩
  rw [← hg]
  have e2 : g.2 = h.2 := by rw [hg]; rfl
  have eI : ∀ a, a ≠ 133 → a ≠ 138 → g.1 a = h.1 a := fun a h1 h2 => by rw [hg]; funext j; rw [zr_si1, if_neg (fun z => h1 z.1), zr_si1, if_neg (fun z => h2 z.1)]
  have e0 : ∀ j, j ≠ 14 → g.1 133 j = h.1 133 j := fun j hj => by rw [hg, zr_si1, if_neg (fun z => hj z.2), zr_si1, if_neg (by omega)]
  have e14 : g.1 133 14 = nI (c.1 + 1) := by rw [hg, zr_si1, if_pos ⟨rfl, rfl⟩]
  have e138 : ∀ j, g.1 138 j = if j = c.1 then nI (1048576 * op + v) else h.1 138 j := fun j => by
    rw [hg, zr_si1, if_neg (by omega), zr_si1]
    by_cases z : j = c.1
    · rw [if_pos ⟨rfl, z⟩, if_pos z]
    · rw [if_neg (fun q => z q.2), if_neg z]
  clear hg
  refine hR g ⟨e2, fun a h1 h2 _ => eI a h1 h2, fun j hj => e0 j (by omega)⟩ ⟨by rw [e2]; exact a1, zu_s_i a2 e2 (e0 9 (by omega)) (e0 10 (by omega)) (eI 137 (by omega) (by omega)), ⟨by rw [b1]; exact e14, by omega, fun j hj => ?_⟩, ?_, ?_⟩
  · rw [e138]
    rw [b1] at hj
    by_cases z : j = c.1
    · subst z
      rw [if_pos rfl, b2]
      exact ⟨rfl, h1, h2⟩
    · rw [if_neg z, b3 j (by omega)]
      exact a5 j (by omega)
  · unfold zr_w
    rw [e0 15 (by omega), eI 139 (by omega) (by omega)]
    exact a6
  · rw [e0 13 (by omega)]
    exact a7
def zr_top (k : zr_K) : Int32 := match k with
  | [] => -1
  | x :: _ => nI x.1
theorem zn_unit {a b : Nat} (ha : a ≤ 14) (hb : b < 1048576) : nI (1048576 * a + b) / 1048576 = nI a ∧ nI (1048576 * a + b) - nI a * 1048576 = nI b := by
  have e1 : nI (1048576 * a + b) / 1048576 = nI a := by
    have := pk_div (a := 1048576 * a + b) (d := 1048576) (by omega) (by decide) (by decide)
    refine this.trans ?_
    congr 1
    omega
  refine ⟨e1, ?_⟩
  rw [show (1048576 : Int32) = nI 1048576 from rfl, pk_mul, pk_sub (by omega)]
  congr 1
  omega
set_option maxHeartbeats 4000000 in
set_option maxRecDepth 100000 in
theorem k_Mo_waitTop {d : Nat} {h : zm_M} {R : zm_R} {T : Nat → Nat} {n p o : Nat} {c : zl_c} {k : zr_K} (hs : zr_s h T n p c k o) (hR : R (some (.inl (zr_top k))) h) : zm_C (d + 1) TT m_Mo_waitTop [.inr (some 133)] h R := by
  obtain ⟨a1, a2, a3, ⟨a4, a5, a6⟩, a7⟩ := hs
  have p19 : h.2 133 19 = some 139 := by simp only [a1]
  refine st_Mo_waitTop [] 30 ?_
  match k, a4, a5, a6, hR with
  | [], a4, a5, a6, hR =>
    have e : h.1 133 15 = 0 := a4
    simp only [↓zq, ↓reduceIte, zr_si2, zr_sr1, zr_cp2, zr_tl, zr_tn, shq, List.contains_nil, List.contains_cons, Nat.reduceBEq, Bool.false_or, Bool.or_false, Bool.true_or, Bool.false_eq_true, if_false, if_true, true_and, and_true, List.set_cons_zero, List.set_cons_succ, List.length_cons, List.length_nil, Nat.reduceAdd, Nat.reduceLeDiff, Nat.le_refl, Nat.zero_le, true_or, or_true, zn_cl, ↓jj_Mo_waitTop, e]
    exact ⟨fun z => absurd trivial z, fun _ => hR⟩
  | x :: r, a4, a5, a6, hR =>
    rw [List.length_cons] at a4 a5
    have v1 : vp_in (nI r.length) 260 := vp_in_nI (by omega) (by decide)
    have cl := nI_clamp (show r.length < 2 ^ 31 by omega)
    have ep : nI (r.length + 1) - 1 = nI r.length := nI_pred _
    have eu := (zn_unit a6.2.1 a6.2.2.1).1
    have ex := a6.1
    simp only [↓zq, ↓reduceIte, zr_si2, zr_sr1, zr_cp2, zr_tl, zr_tn, shq, List.contains_nil, List.contains_cons, Nat.reduceBEq, Bool.false_or, Bool.or_false, Bool.true_or, Bool.false_eq_true, if_false, if_true, true_and, and_true, List.set_cons_zero, List.set_cons_succ, List.length_cons, List.length_nil, Nat.reduceAdd, Nat.reduceLeDiff, Nat.le_refl, Nat.zero_le, true_or, or_true, zn_cl, ↓jj_Mo_waitTop, p19, a4, ep, v1, cl, ex, eu]
    exact ⟨fun _ => ⟨by decide, hR⟩, fun z => absurd z (nI_ne0 (by omega) (by omega))⟩
/-- how many of what waits are no jumps -/
def zr_wt : zr_K → Nat
  | [] => 0
  | x :: r => (if x.1 = 11 ∨ x.1 = 12 then 0 else 1) + zr_wt r
theorem zr_pop {h : zm_M} {T : Nat → Nat} {n p o : Nat} {c : zl_c} {x : Nat × Nat} {k : zr_K} (hs : zr_s h T n p c (x :: k) o) : h.1 133 15 - 1 = nI k.length ∧ zr_f2 h (zm_si h 133 15 (nI k.length)) ∧ zr_s (zm_si h 133 15 (nI k.length)) T n p c k o := by
  obtain ⟨a1, a2, a3, ⟨a4, a5, a6⟩, a7⟩ := hs
  rw [List.length_cons] at a4 a5
  refine ⟨by rw [a4, nI_pred], ⟨rfl, fun a h1 _ _ => by funext j; rw [zr_si1, if_neg (fun z => h1 z.1)], fun j hj => by rw [zr_si1, if_neg (by omega)]⟩, a1, zu_s_i a2 rfl (by rw [zr_si1, if_neg (by omega)]) (by rw [zr_si1, if_neg (by omega)]) (by funext j; rw [zr_si1, if_neg (by omega)]), ?_, ⟨by rw [zr_si1, if_pos ⟨rfl, rfl⟩], by omega, ?_⟩, ?_⟩
  · unfold zr_c
    rw [zr_si1, if_neg (by omega), show (zm_si h 133 15 (nI k.length)).1 138 = h.1 138 by funext j; rw [zr_si1, if_neg (by omega)]]
    exact a3
  · refine zr_sk_c k (fun i hi => ?_) a6.2.2.2
    rw [zr_si1, if_neg (by omega)]
  · rw [zr_si1, if_neg (by omega)]
    exact a7
/-- an entry pushed -/
theorem zr_push {h : zm_M} {T : Nat → Nat} {n p o : Nat} {c : zl_c} {k : zr_K} {x : Nat × Nat} {y : Int32} (hs : zr_s h T n p c k o) (hx : x.1 ≤ 14) (hx2 : x.2 < 1048576) (hk : k.length < 240) (hy : y = nI (1048576 * x.1 + x.2)) : zr_f2 h (zm_si (zm_si h 139 k.length y) 133 15 (nI (k.length + 1))) ∧ zr_s (zm_si (zm_si h 139 k.length y) 133 15 (nI (k.length + 1))) T n p c (x :: k) o := by
  obtain ⟨a1, a2, a3, ⟨a4, a5, a6⟩, a7⟩ := hs
  refine ⟨⟨rfl, fun a h1 _ h3 => by funext j; rw [zr_si1, if_neg (fun z => h1 z.1), zr_si1, if_neg (fun z => h3 z.1)], fun j hj => by rw [zr_si1, if_neg (by omega), zr_si1, if_neg (by omega)]⟩, a1, zu_s_i a2 rfl (by rw [zr_si1, if_neg (by omega), zr_si1, if_neg (by omega)]) (by rw [zr_si1, if_neg (by omega), zr_si1, if_neg (by omega)]) (by funext j; rw [zr_si1, if_neg (by omega), zr_si1, if_neg (by omega)]), ?_, ⟨by rw [zr_si1, if_pos ⟨rfl, rfl⟩]; rfl, by rw [List.length_cons]; omega, ?_, hx, hx2, ?_⟩, ?_⟩
  · unfold zr_c
    rw [zr_si1, if_neg (by omega), zr_si1, if_neg (by omega), show (zm_si (zm_si h 139 k.length y) 133 15 (nI (k.length + 1))).1 138 = h.1 138 by funext j; rw [zr_si1, if_neg (by omega), zr_si1, if_neg (by omega)]]
    exact a3
  · rw [zr_si1, if_neg (by omega), zr_si1, if_pos ⟨rfl, rfl⟩]
    exact hy
  · refine zr_sk_c k (fun i hi => ?_) a6
    rw [zr_si1, if_neg (by omega), zr_si1, if_neg (by omega)]
  · rw [zr_si1, if_neg (by omega), zr_si1, if_neg (by omega)]
    exact a7
theorem zr_place {h : zm_M} {T : Nat → Nat} {n p o : Nat} {c : zl_c} {k : zr_K} (hs : zr_s h T n p c k o) (hp : p < n) : h.1 133 9 + 1 = nI (p + 1) ∧ zr_f2 h (zm_si h 133 9 (nI (p + 1))) ∧ zr_s (zm_si h 133 9 (nI (p + 1))) T n (p + 1) c k o := by
  have hf := (zu_n.rf h).s 9 (by omega) (nI (p + 1))
  refine ⟨by rw [hs.2.1.2.2.2.2.1, nI_1], hf.r, zr_s_n hs hf (zu_s_n hs.2.1 hf (by rw [zr_si1, if_pos ⟨rfl, rfl⟩]) hp)⟩
theorem zr_open {h : zm_M} {T : Nat → Nat} {n p o o' : Nat} {c : zl_c} {k : zr_K} (hs : zr_s h T n p c k o) (ho : o' ≤ 6) : zr_f2 h (zm_si h 133 13 (nI o')) ∧ zr_s (zm_si h 133 13 (nI o')) T n p c k o' := by
  obtain ⟨a1, a2, a3, a4, a7⟩ := hs
  refine ⟨⟨rfl, fun a h1 _ _ => by funext j; rw [zr_si1, if_neg (fun z => h1 z.1)], fun j hj => by rw [zr_si1, if_neg (by omega)]⟩, a1, zu_s_i a2 rfl (by rw [zr_si1, if_neg (by omega)]) (by rw [zr_si1, if_neg (by omega)]) (by funext j; rw [zr_si1, if_neg (by omega)]), ?_, ?_, ⟨by rw [zr_si1, if_pos ⟨rfl, rfl⟩], ho⟩⟩
  · unfold zr_c
    rw [zr_si1, if_neg (by omega), show (zm_si h 133 13 (nI o')).1 138 = h.1 138 by funext j; rw [zr_si1, if_neg (by omega)]]
    exact a3
  · unfold zr_w
    rw [zr_si1, if_neg (by omega), show (zm_si h 133 13 (nI o')).1 139 = h.1 139 by funext j; rw [zr_si1, if_neg (by omega)]]
    exact a4
set_option maxHeartbeats 4000000 in
set_option maxRecDepth 100000 in
theorem k_Mo_opens {d : Nat} {h : zm_M} {R : zm_R} {T : Nat → Nat} {n p wh o : Nat} {c : zl_c} {k : zr_K} (hs : zr_s h T n p c k o) (hw : wh ≤ 14) (hp : p < n) (hk : k.length < 240) (hb : o = 6 → ∀ h' : zm_M, zr_f2 h h' → h'.1 133 11 = t_an (5, p) → R (some (.inl 0)) h') (hg : o < 6 → ∀ h' : zm_M, zr_f2 h h' → zr_s h' T n (p + 1) c ((wh, 0) :: k) (o + 1) → R (some (.inl 1)) h') : zm_C (d + 2) TT m_Mo_opens [.inr (some 133), .inl (nI wh)] h R := by
  have p19 : h.2 133 19 = some 139 := by have := hs.1; simp only [this]
  have s5 := hs.2.1.2.2.2.2.1
  have eo := hs.2.2.2.2.1
  have eo2 := hs.2.2.2.2.2
  have e6 : (nI o = 6) = (o = 6) := zn_eq (b := 6) (by omega) (by decide)
  have ek := hs.2.2.2.1.1
  have v1 : vp_in (nI k.length) 260 := vp_in_nI (by omega) (by decide)
  have cl := nI_clamp (show k.length < 2 ^ 31 by omega)
  refine st_Mo_opens [] 30 ?_
  simp only [↓zq, ↓reduceIte, zr_si2, zr_sr1, zr_cp2, zr_tl, zr_tn, shq, List.contains_nil, List.contains_cons, Nat.reduceBEq, Bool.false_or, Bool.or_false, Bool.true_or, Bool.false_eq_true, if_false, if_true, true_and, and_true, List.set_cons_zero, List.set_cons_succ, List.length_cons, List.length_nil, Nat.reduceAdd, Nat.reduceLeDiff, Nat.le_refl, Nat.zero_le, true_or, or_true, zn_cl, ↓jj_Mo_opens, eo, e6, s5]
  refine ⟨fun z => ?_, fun z => ?_⟩
  · obtain ⟨f1, s1⟩ := zr_open hs (o' := o + 1) (by omega)
    rw [nI_1]
    have p19' : (zm_si h 133 13 (nI (o + 1))).2 133 19 = some 139 := p19
    have ek1 : (zm_si h 133 13 (nI (o + 1))).1 133 15 = nI k.length := s1.2.2.2.1.1
    obtain ⟨g1, hg1⟩ : ∃ g1 : zm_M, g1 = zm_si h 133 13 (nI (o + 1)) := ⟨_, rfl⟩
    rw [← hg1] at f1 s1 p19' ek1 ⊢
    have ev : (1048576 : Int32) * nI wh = nI (1048576 * wh + 0) := by rw [show (1048576 : Int32) = nI 1048576 from rfl, pk_mul, Nat.add_zero]
    simp only [↓zq, ↓reduceIte, zr_si2, zr_sr1, zr_cp2, zr_tl, zr_tn, shq, List.contains_nil, List.contains_cons, Nat.reduceBEq, Bool.false_or, Bool.or_false, Bool.true_or, Bool.false_eq_true, if_false, if_true, true_and, and_true, List.set_cons_zero, List.set_cons_succ, List.length_cons, List.length_nil, Nat.reduceAdd, Nat.reduceLeDiff, Nat.le_refl, Nat.zero_le, true_or, or_true, zn_cl, ↓jj_Mo_opens, p19, p19', ek1, v1, cl, ev]
    have s51 : g1.1 133 9 = nI p := s1.2.1.2.2.2.2.1
    simp only [zr_si1, show ¬ (133 : Nat) = 139 by decide, Nat.reduceEqDiff, false_and, and_false, if_false, ek1, s51, nI_1]
    obtain ⟨f2, s2⟩ := zr_push (x := (wh, 0)) s1 hw (show 0 < 1048576 by decide) hk rfl
    obtain ⟨_, f3, s3⟩ := zr_place s2 hp
    exact hg (by omega) _ ((f1.tr f2).tr f3) s3
  · refine k_Mo_wrongAt (f := 5) (q := p) ?_
    simp only [↓zq, ↓reduceIte, zr_si2, zr_sr1, zr_cp2, zr_tl, zr_tn, shq, List.contains_nil, List.contains_cons, Nat.reduceBEq, Bool.false_or, Bool.or_false, Bool.true_or, Bool.false_eq_true, if_false, if_true, true_and, and_true, List.set_cons_zero, List.set_cons_succ, List.length_cons, List.length_nil, Nat.reduceAdd, Nat.reduceLeDiff, Nat.le_refl, Nat.zero_le, true_or, or_true, zn_cl, ↓jj_Mo_opens]
    obtain ⟨f1, f2⟩ := zu_n_11 h (t_an (5, p))
    exact hb z _ f1.r f2
set_option maxHeartbeats 4000000 in
set_option maxRecDepth 100000 in
theorem k_Mo_isDigit {d : Nat} {h : zm_M} {R : zm_R} {T : Nat → Nat} {n p : Nat} (hs : zu_s h T n p) (h1 : 48 ≤ t_c T n (.inr p) ∧ t_c T n (.inr p) ≤ 57 → R (some (.inl 1)) h) (h0 : ¬ (48 ≤ t_c T n (.inr p) ∧ t_c T n (.inr p) ≤ 57) → R (some (.inl 0)) h) : zm_C (d + 2) TT m_Mo_isDigit [.inr (some 133)] h R := by
  have zd := zt_dig hs.c_le
  refine st_Mo_isDigit [] 30 ?_
  simp only [↓zq, ↓reduceIte, zr_si2, zr_sr1, zr_cp2, zr_tl, zr_tn, shq, List.contains_nil, List.contains_cons, Nat.reduceBEq, Bool.false_or, Bool.or_false, Bool.true_or, Bool.false_eq_true, if_false, if_true, true_and, and_true, List.set_cons_zero, List.set_cons_succ, List.length_cons, List.length_nil, Nat.reduceAdd, Nat.reduceLeDiff, Nat.le_refl, Nat.zero_le, true_or, or_true, zn_cl, ↓jj_Mo_isDigit]
  refine k_Mo_here hs ?_
  simp only [↓zq, ↓reduceIte, zr_si2, zr_sr1, zr_cp2, zr_tl, zr_tn, shq, List.contains_nil, List.contains_cons, Nat.reduceBEq, Bool.false_or, Bool.or_false, Bool.true_or, Bool.false_eq_true, if_false, if_true, true_and, and_true, List.set_cons_zero, List.set_cons_succ, List.length_cons, List.length_nil, Nat.reduceAdd, Nat.reduceLeDiff, Nat.le_refl, Nat.zero_le, true_or, or_true, zn_cl, ↓jj_Mo_isDigit]
  refine ⟨fun z => h0 (fun q => (zd.mp q).1 z), fun z1 => k_Mo_here hs ?_⟩
  simp only [↓zq, ↓reduceIte, zr_si2, zr_sr1, zr_cp2, zr_tl, zr_tn, shq, List.contains_nil, List.contains_cons, Nat.reduceBEq, Bool.false_or, Bool.or_false, Bool.true_or, Bool.false_eq_true, if_false, if_true, true_and, and_true, List.set_cons_zero, List.set_cons_succ, List.length_cons, List.length_nil, Nat.reduceAdd, Nat.reduceLeDiff, Nat.le_refl, Nat.zero_le, true_or, or_true, zn_cl, ↓jj_Mo_isDigit]
  exact ⟨fun z => h0 (fun q => (zd.mp q).2 z), fun z2 => h1 (zd.mpr ⟨z1, z2⟩)⟩
set_option maxHeartbeats 4000000 in
set_option maxRecDepth 100000 in
theorem k_Mo_readsNumber {d : Nat} {h : zm_M} {R : zm_R} {T : Nat → Nat} {n p : Nat} (hs : zu_s h T n p) (hb : ∀ x, (p_num T n 6 0 (.inr p)).2 = .inl x → ∀ h' : zm_M, zu_n h h' → h'.1 133 11 = t_an x → R (some (.inl 0)) h') (hg : ∀ p', (p_num T n 6 0 (.inr p)).2 = .inr p' → ∀ h' : zm_M, zu_n h h' → zu_s h' T n p' → h'.1 133 12 = nI (p_num T n 6 0 (.inr p)).1 → R (some (.inl 1)) h') : zm_C (d + 3) TT m_Mo_readsNumber [.inr (some 133)] h R := by
  have s5 := hs.2.2.2.2.1
  have s6 := hs.2.2.2.2.2
  have s3 := hs.2.2.1
  have loop : ∀ (f v q m : Nat) (g : zm_M), q = p + (6 - f) → f ≤ 6 → v < 10 ^ m → f + m ≤ 6 → zu_n h g → zu_s g T n q → g.1 133 12 = nI v → (1 ≤ f ∨ ¬ (48 ≤ t_c T n (.inr q) ∧ t_c T n (.inr q) ≤ 57)) → p_num T n 6 0 (.inr p) = p_num T n f v (.inr q) → zm_W (zm_md m_Mo_readsNumber) (d + 3) TT R 10 [some (.inr (some 133)), some (.inl (nI p))] [] g := by
    intro f
    induction f with
    | zero =>
      intro v q m g hq hf6 hv hm hf hs' h12 hor he
      have nd : ¬ (48 ≤ t_c T n (.inr q) ∧ t_c T n (.inr q) ≤ 57) := by
        rcases hor with z | z
        · omega
        · exact z
      rw [he] at hg
      refine zm_go g_Mo_readsNumber [10] 30 (by decide +kernel) ok_Mo_readsNumber _ rfl ?_
      simp only [↓zq, ↓reduceIte, zr_si2, zr_sr1, zr_cp2, zr_tl, zr_tn, shq, List.contains_nil, List.contains_cons, Nat.reduceBEq, Bool.false_or, Bool.or_false, Bool.true_or, Bool.false_eq_true, if_false, if_true, true_and, and_true, List.set_cons_zero, List.set_cons_succ, List.length_cons, List.length_nil, Nat.reduceAdd, Nat.reduceLeDiff, Nat.le_refl, Nat.zero_le, true_or, or_true, zn_cl, ↓jj_Mo_readsNumber]
      refine k_Mo_isDigit hs' (fun z => absurd z nd) (fun _ => ?_)
      simp only [↓zq, ↓reduceIte, zr_si2, zr_sr1, zr_cp2, zr_tl, zr_tn, shq, List.contains_nil, List.contains_cons, Nat.reduceBEq, Bool.false_or, Bool.or_false, Bool.true_or, Bool.false_eq_true, if_false, if_true, true_and, and_true, List.set_cons_zero, List.set_cons_succ, List.length_cons, List.length_nil, Nat.reduceAdd, Nat.reduceLeDiff, Nat.le_refl, Nat.zero_le, true_or, or_true, zn_cl, ↓jj_Mo_readsNumber]
      exact ⟨fun _ => hg q rfl g hf hs' h12, fun z => (by first | exact absurd trivial z | exact absurd rfl z | exact absurd z (by decide))⟩
    | succ f ih =>
      intro v q m g hq hf6 hv hm hf hs' h12 hor he
      rw [p_num_s T n f v (.inr q)] at he
      have s5' := hs'.2.2.2.2.1
      refine zm_go g_Mo_readsNumber [10] 30 (by decide +kernel) ok_Mo_readsNumber _ rfl ?_
      simp only [↓zq, ↓reduceIte, zr_si2, zr_sr1, zr_cp2, zr_tl, zr_tn, shq, List.contains_nil, List.contains_cons, Nat.reduceBEq, Bool.false_or, Bool.or_false, Bool.true_or, Bool.false_eq_true, if_false, if_true, true_and, and_true, List.set_cons_zero, List.set_cons_succ, List.length_cons, List.length_nil, Nat.reduceAdd, Nat.reduceLeDiff, Nat.le_refl, Nat.zero_le, true_or, or_true, zn_cl, ↓jj_Mo_readsNumber]
      refine k_Mo_isDigit hs' (fun hd => ?_) (fun nd => ?_)
      · rw [if_pos hd] at he
        have e5 : nI p + 5 = nI (p + 5) := nI_add p 5
        have eq5 : (nI q = nI (p + 5)) = (q = p + 5) := zn_eq (by omega) (by omega)
        simp only [↓zq, ↓reduceIte, zr_si2, zr_sr1, zr_cp2, zr_tl, zr_tn, shq, List.contains_nil, List.contains_cons, Nat.reduceBEq, Bool.false_or, Bool.or_false, Bool.true_or, Bool.false_eq_true, if_false, if_true, true_and, and_true, List.set_cons_zero, List.set_cons_succ, List.length_cons, List.length_nil, Nat.reduceAdd, Nat.reduceLeDiff, Nat.le_refl, Nat.zero_le, true_or, or_true, zn_cl, ↓jj_Mo_readsNumber, s5', e5, eq5]
        refine ⟨fun z => absurd z (by decide), fun _ => ⟨fun z => ?_, fun z => ?_⟩⟩
        · have f0 : f ≠ 0 := by omega
          rw [if_neg f0] at he
          refine k_Mo_here hs' ?_
          have pn : q < n := t_c_r_lt (T := T) (by omega)
          have hv6 : v < 10 ^ 5 := Nat.lt_of_lt_of_le hv (Nat.pow_le_pow_right (by decide) (by omega))
          have ev : 10 * nI v + zt_v (t_c T n (.inr q)) - 48 = nI (10 * v + (t_c T n (.inr q) - 48)) := by
            have e1 : zt_v (t_c T n (.inr q)) = nI (t_c T n (.inr q)) := if_neg (by omega)
            rw [e1, show (10 : Int32) = nI 10 from rfl, pk_mul, nI_add, show (48 : Int32) = nI 48 from rfl, pk_sub (by omega)]
            congr 1
            omega
          simp only [↓zq, ↓reduceIte, zr_si2, zr_sr1, zr_cp2, zr_tl, zr_tn, shq, List.contains_nil, List.contains_cons, Nat.reduceBEq, Bool.false_or, Bool.or_false, Bool.true_or, Bool.false_eq_true, if_false, if_true, true_and, and_true, List.set_cons_zero, List.set_cons_succ, List.length_cons, List.length_nil, Nat.reduceAdd, Nat.reduceLeDiff, Nat.le_refl, Nat.zero_le, true_or, or_true, zn_cl, ↓jj_Mo_readsNumber, h12, ev]
          simp only [zr_si1, Nat.reduceEqDiff, and_false, if_false, s5', nI_1]
          have f1 := (hf.s 12 (by omega) (nI (10 * v + (t_c T n (.inr q) - 48)))).s 9 (by omega) (nI (q + 1))
          refine ih _ (q + 1) (m + 1) _ (by omega) (by omega) (by rw [Nat.pow_succ]; omega) (by omega) f1 ?_ ?_ (Or.inl (by omega)) he
          · have fg := ((zu_n.rf g).s 12 (by omega) (nI (10 * v + (t_c T n (.inr q) - 48)))).s 9 (by omega) (nI (q + 1))
            exact zu_s_n hs' fg (by rw [zr_si1, if_pos ⟨rfl, rfl⟩]) pn
          · rw [zr_si1, if_neg (by omega), zr_si1, if_pos ⟨rfl, rfl⟩]
        · have f0 : f = 0 := by omega
          subst f0
          rw [if_pos rfl] at he
          refine k_Mo_wrongAt (f := 2) (q := q) ?_
          simp only [↓zq, ↓reduceIte, zr_si2, zr_sr1, zr_cp2, zr_tl, zr_tn, shq, List.contains_nil, List.contains_cons, Nat.reduceBEq, Bool.false_or, Bool.or_false, Bool.true_or, Bool.false_eq_true, if_false, if_true, true_and, and_true, List.set_cons_zero, List.set_cons_succ, List.length_cons, List.length_nil, Nat.reduceAdd, Nat.reduceLeDiff, Nat.le_refl, Nat.zero_le, true_or, or_true, zn_cl, ↓jj_Mo_readsNumber]
          obtain ⟨f1, f2⟩ := zu_n_11 g (t_an (2, q))
          exact hb (2, q) (by rw [he]; rfl) _ (hf.tr f1) f2
      · rw [if_neg nd] at he
        rw [he] at hg
        simp only [↓zq, ↓reduceIte, zr_si2, zr_sr1, zr_cp2, zr_tl, zr_tn, shq, List.contains_nil, List.contains_cons, Nat.reduceBEq, Bool.false_or, Bool.or_false, Bool.true_or, Bool.false_eq_true, if_false, if_true, true_and, and_true, List.set_cons_zero, List.set_cons_succ, List.length_cons, List.length_nil, Nat.reduceAdd, Nat.reduceLeDiff, Nat.le_refl, Nat.zero_le, true_or, or_true, zn_cl, ↓jj_Mo_readsNumber]
        exact ⟨fun _ => hg q rfl g hf hs' h12, fun z => (by first | exact absurd trivial z | exact absurd rfl z | exact absurd z (by decide))⟩
  refine st_Mo_readsNumber [10] 30 ?_
  simp only [↓zq, ↓reduceIte, zr_si2, zr_sr1, zr_cp2, zr_tl, zr_tn, shq, List.contains_nil, List.contains_cons, Nat.reduceBEq, Bool.false_or, Bool.or_false, Bool.true_or, Bool.false_eq_true, if_false, if_true, true_and, and_true, List.set_cons_zero, List.set_cons_succ, List.length_cons, List.length_nil, Nat.reduceAdd, Nat.reduceLeDiff, Nat.le_refl, Nat.zero_le, true_or, or_true, zn_cl, ↓jj_Mo_readsNumber, s5]
  have f1 := (zu_n.rf h).s 12 (by omega) 0
  exact loop 6 0 p 0 _ (by omega) (by decide) (by decide) (by decide) f1 (zu_s_n hs f1 (by rw [zr_si1, if_neg (by omega)]; exact s5) s6) (by rw [zr_si1, if_pos ⟨rfl, rfl⟩]; rfl) (Or.inl (by decide)) rfl
def zr_sg (c : Nat) : Int32 := if c = 43 ∨ c = 45 ∨ c = 42 ∨ c = 47 ∨ c = 37 then nI (l_op c) else -1
set_option maxHeartbeats 4000000 in
set_option maxRecDepth 100000 in
theorem k_Mo_sumSign {d : Nat} {T : zm_T} {h : zm_M} {R : zm_R} {c : Nat} (hc : c ≤ 256) (hR : R (some (.inl (zr_sg c))) h) : zm_C (d + 1) T m_Mo_sumSign [.inl (zt_v c)] h R := by
  have ev : ∀ k, k < 256 → (zt_v c = nI k ↔ c = k) := fun k hk => Eq.to_iff (zt_v_eq hc hk)
  refine st_Mo_sumSign [] 30 ?_
  simp only [↓zq, ↓reduceIte, zr_si2, zr_sr1, zr_cp2, zr_tl, zr_tn, shq, List.contains_nil, List.contains_cons, Nat.reduceBEq, Bool.false_or, Bool.or_false, Bool.true_or, Bool.false_eq_true, if_false, if_true, true_and, and_true, List.set_cons_zero, List.set_cons_succ, List.length_cons, List.length_nil, Nat.reduceAdd, Nat.reduceLeDiff, Nat.le_refl, Nat.zero_le, true_or, or_true, zn_cl, ↓jj_Mo_sumSign]
  refine ⟨fun z1 => ⟨fun z2 => ⟨fun z3 => ⟨fun z4 => ⟨fun z5 => ?_, fun z => by have := (ev 37 (by decide)).mp z; subst this; exact hR⟩, fun z => by have := (ev 47 (by decide)).mp z; subst this; exact hR⟩, fun z => by have := (ev 42 (by decide)).mp z; subst this; exact hR⟩, fun z => by have := (ev 45 (by decide)).mp z; subst this; exact hR⟩, fun z => by have := (ev 43 (by decide)).mp z; subst this; exact hR⟩
  have e : zr_sg c = -1 := if_neg (by
    rintro (z | z | z | z | z)
    · exact z1 ((ev 43 (by decide)).mpr z)
    · exact z2 ((ev 45 (by decide)).mpr z)
    · exact z3 ((ev 42 (by decide)).mpr z)
    · exact z4 ((ev 47 (by decide)).mpr z)
    · exact z5 ((ev 37 (by decide)).mpr z))
  rw [e] at hR
  exact hR
