/-! which way: the same from below and from above -/
def zs_bst (cv : Nat → Bool) (co : Nat → Nat) (n0 lo hi : Nat) (o : Option Nat × Nat) : Prop := (o.1 = none → o.2 = n0 ∧ ∀ j, lo ≤ j → j < hi → cv j = true → n0 < co j) ∧ ∀ i, o.1 = some i → o.2 = co i ∧ lo ≤ i ∧ i < hi ∧ cv i = true ∧ co i ≤ n0 ∧ ∀ j, lo ≤ j → j < hi → cv j = true → co i < co j ∨ co i = co j ∧ i ≤ j
theorem zs_bst_wy (sp : Nat → Nat) (F : zs_F) (U : zs_U) (q : Nat → Nat) : ∀ i, zs_bst (fun s => zs_cov sp (U.2 s) q) (fun s => zs_cost sp F (U.2 s)) F.1 0 i (zs_wy sp F U q i)
  | 0 => ⟨fun _ => ⟨rfl, fun j _ hj => absurd hj (Nat.not_lt_zero j)⟩, fun i h => by cases h⟩
  | i + 1 => by
    obtain ⟨h1, h2⟩ := zs_bst_wy sp F U q i
    rw [zs_wy]
    generalize zs_wy sp F U q i = y at h1 h2 ⊢
    split
    · next e =>
      obtain ⟨ec, e⟩ := e
      refine ⟨fun z => (by cases z), fun k hk => ?_⟩
      cases hk
      refine ⟨rfl, Nat.zero_le _, by omega, ec, ?_, fun j _ hj hc => ?_⟩
      · cases hy : y.1 with
        | none => have := (h1 hy).1; dsimp only; omega
        | some k => obtain ⟨a1, a2, a3, a4, a5, a6⟩ := h2 k hy; dsimp only at *; rw [hy] at e; simp at e; omega
      · by_cases hji : j = i
        · subst hji; exact Or.inr ⟨rfl, Nat.le_refl _⟩
        · cases hy : y.1 with
          | none =>
            have := (h1 hy).1
            have := (h1 hy).2 j (Nat.zero_le _) (by omega) hc
            dsimp only at *
            omega
          | some k =>
            obtain ⟨a1, a2, a3, a4, a5, a6⟩ := h2 k hy
            have := a6 j (Nat.zero_le _) (by omega) hc
            rw [hy] at e
            simp at e
            dsimp only at *
            omega
    · next e =>
      refine ⟨fun hy => ⟨(h1 hy).1, fun j _ hj hc => ?_⟩, fun k hk => ?_⟩
      · by_cases hji : j = i
        · subst hji
          have := (h1 hy).1
          dsimp only at *
          have e2 : ¬ (zs_cost sp F (U.2 j) < y.2 ∨ zs_cost sp F (U.2 j) = y.2) := fun z => e ⟨hc, z.imp id (fun q => ⟨q, hy⟩)⟩
          omega
        · exact (h1 hy).2 j (Nat.zero_le _) (by omega) hc
      · obtain ⟨a1, a2, a3, a4, a5, a6⟩ := h2 k hk
        refine ⟨a1, a2, by omega, a4, a5, fun j _ hj hc => ?_⟩
        by_cases hji : j = i
        · subst hji
          have e2 : ¬ zs_cost sp F (U.2 j) < y.2 := fun z => e ⟨hc, Or.inl z⟩
          dsimp only at *
          omega
        · exact a6 j (Nat.zero_le _) (by omega) hc
theorem zs_bst_wd (sp : Nat → Nat) (F : zs_F) (U : zs_U) (q : Nat → Nat) : ∀ n, n ≤ U.1 → zs_bst (fun s => zs_cov sp (U.2 s) q) (fun s => zs_cost sp F (U.2 s)) F.1 (U.1 - n) U.1 (zs_wd sp F U q n)
  | 0, _ => ⟨fun _ => ⟨rfl, fun j h1 h2 => by omega⟩, fun i h => by cases h⟩
  | n + 1, hn => by
    obtain ⟨h1, h2⟩ := zs_bst_wd sp F U q n (by omega)
    rw [zs_wd]
    generalize zs_wd sp F U q n = y at h1 h2 ⊢
    generalize hs : U.1 - (n + 1) = s at *
    have hs2 : U.1 - n = s + 1 := by omega
    rw [hs2] at h1 h2
    split
    · next e =>
      obtain ⟨ec, e⟩ := e
      refine ⟨fun z => (by cases z), fun k hk => ?_⟩
      cases hk
      refine ⟨rfl, Nat.le_refl _, by omega, ec, ?_, fun j hl hj hc => ?_⟩
      · cases hy : y.1 with
        | none => have := (h1 hy).1; dsimp only; omega
        | some k => obtain ⟨a1, a2, a3, a4, a5, a6⟩ := h2 k hy; dsimp only at *; omega
      · by_cases hji : j = s
        · subst hji; exact Or.inr ⟨rfl, Nat.le_refl _⟩
        · cases hy : y.1 with
          | none =>
            have := (h1 hy).1
            have := (h1 hy).2 j (by omega) hj hc
            dsimp only at *
            omega
          | some k =>
            obtain ⟨a1, a2, a3, a4, a5, a6⟩ := h2 k hy
            have := a6 j (by omega) hj hc
            dsimp only at *
            omega
    · next e =>
      refine ⟨fun hy => ⟨(h1 hy).1, fun j hl hj hc => ?_⟩, fun k hk => ?_⟩
      · by_cases hji : j = s
        · subst hji
          have := (h1 hy).1
          have e2 : ¬ zs_cost sp F (U.2 j) ≤ y.2 := fun z => e ⟨hc, z⟩
          dsimp only at *
          omega
        · exact (h1 hy).2 j (by omega) hj hc
      · obtain ⟨a1, a2, a3, a4, a5, a6⟩ := h2 k hk
        refine ⟨a1, by omega, a3, a4, a5, fun j hl hj hc => ?_⟩
        by_cases hji : j = s
        · subst hji
          have e2 : ¬ zs_cost sp F (U.2 j) ≤ y.2 := fun z => e ⟨hc, z⟩
          dsimp only at *
          omega
        · exact a6 j (by omega) hj hc
theorem zs_bst_one {cv : Nat → Bool} {co : Nat → Nat} {n0 lo hi : Nat} {o p : Option Nat × Nat} (h : zs_bst cv co n0 lo hi o) (h' : zs_bst cv co n0 lo hi p) : o.1 = p.1 := by
  cases e : o.1 with
  | none =>
    cases e' : p.1 with
    | none => rfl
    | some i =>
      obtain ⟨a1, a2, a3, a4, a5, a6⟩ := h'.2 i e'
      have := (h.1 e).2 i a2 a3 a4
      omega
  | some i =>
    obtain ⟨a1, a2, a3, a4, a5, a6⟩ := h.2 i e
    cases e' : p.1 with
    | none =>
      have := (h'.1 e').2 i a2 a3 a4
      omega
    | some k =>
      obtain ⟨b1, b2, b3, b4, b5, b6⟩ := h'.2 k e'
      have x1 := a6 k b2 b3 b4
      have x2 := b6 i a2 a3 a4
      have : i = k := by omega
      rw [this]
theorem zs_wd_wy (sp : Nat → Nat) (F : zs_F) (U : zs_U) (q : Nat → Nat) : (zs_wd sp F U q U.1).1 = (zs_wy sp F U q U.1).1 := by
  have h1 := zs_bst_wd sp F U q U.1 (Nat.le_refl _)
  rw [Nat.sub_self] at h1
  exact zs_bst_one h1 (zs_bst_wy sp F U q U.1)
theorem zs_wy_cov {sp : Nat → Nat} {F : zs_F} {U : zs_U} {q : Nat → Nat} {i : Nat} (h : (zs_wy sp F U q U.1).1 = some i) : i < U.1 ∧ zs_cov sp (U.2 i) q = true := by
  obtain ⟨a1, a2, a3, a4, a5, a6⟩ := (zs_bst_wy sp F U q U.1).2 i h
  exact ⟨a3, a4⟩
theorem zs_cov_in {sp row q : Nat → Nat} (h : zs_cov sp row q = true) (hp : row 6 < 16) (hq : q 6 ≤ 6) : zs_covS sp row q = true ∧ q 6 ≤ 4 := by
  unfold zs_cov at h
  simp only [Bool.and_eq_true, decide_eq_true_eq] at h
  refine ⟨h.2, ?_⟩
  have h1 := (zs_pf_has (q 6) hq (row 6) hp).mp h.1
  split at h1 <;> omega
/-! how many differ -/
set_option maxHeartbeats 4000000 in
set_option maxRecDepth 100000 in
theorem k_Mo_differs {d : Nat} {h : zm_M} {R : zm_R} {F : zs_F} {sp : Nat → Nat} {U : zs_U} {Q : zs_Q} {tab : zs_tb} (hO : zO h F sp U Q) (hq : Q.1 = true) (hA : zo_A h.1 tab (zs_sg sp Q.2 F) (Q.2 6) 512) (hv : ∀ k, k < 512 → zs_val tab (zs_sg sp Q.2 F) (Q.2 6) k < 2 ^ 20) (hv2 : ∀ k, k < 512 → zs_val (zs_tabF sp F Q.2) (zs_sg sp Q.2 F) (Q.2 6) k < 2 ^ 20) (hR : ∀ h' : zm_M, zo_fr h h' → R (some (.inl (nI (zs_unl tab (zs_tabF sp F Q.2) (zs_sg sp Q.2 F) (zs_sg sp Q.2 F) (Q.2 6) 512)))) h') : zm_C (d + 8) TT m_Mo_differs [.inr (some 133), .inl (nI (zs_some (fun k => (tab k).1) 512))] h R := by
  obtain ⟨p42, p43, p44, p45, p46, p47, p48, p49⟩ := zp_m3 hO.1
  generalize hva : (fun k => zs_val tab (zs_sg sp Q.2 F) (Q.2 6) k) = va at *
  generalize hvf : (fun k => zs_val (zs_tabF sp F Q.2) (zs_sg sp Q.2 F) (Q.2 6) k) = vf at *
  have va' : ∀ k, zs_val tab (zs_sg sp Q.2 F) (Q.2 6) k = va k := fun k => by rw [← hva]
  have vf' : ∀ k, zs_val (zs_tabF sp F Q.2) (zs_sg sp Q.2 F) (Q.2 6) k = vf k := fun k => by rw [← hvf]
  have z0 : ∀ k, (tab k).1 = 0 → va k = 0 := fun k e => by rw [← va']; unfold zs_val; rw [if_pos e]
  have z1 : ∀ k, (zs_tabF sp F Q.2 k).1 = 0 → vf k = 0 := fun k e => by rw [← vf']; unfold zs_val; rw [if_pos e]
  have l1 : ∀ k, k < 512 → va k < 2 ^ 20 := fun k hk => by rw [← va']; exact hv k hk
  have l2 : ∀ k, k < 512 → vf k < 2 ^ 20 := fun k hk => by rw [← vf']; exact hv2 k hk
  have m1 : ∀ x, x < 2 ^ 20 → ¬ nI x = -1 := fun x hx e => by
    have : nI x < 0 := by rw [e]; decide
    exact nI_pos (by omega) this
  generalize hfa : (fun k => (tab k).1) = fa at *
  generalize hff : (fun k => (zs_tabF sp F Q.2 k).1) = ff at *
  have fa' : ∀ k, (tab k).1 = fa k := fun k => by rw [← hfa]
  have ff' : ∀ k, (zs_tabF sp F Q.2 k).1 = ff k := fun k => by rw [← hff]
  have sl := zs_some_le fa 512
  let D : Nat → Nat := fun k => if ff k ≠ 0 ∧ ¬ (fa k ≠ 0 ∧ va k = vf k) then 1 else 0
  let E : Nat → Nat := fun k => if fa k ≠ 0 ∧ ff k = 0 then 1 else 0
  have tot : ∀ m, zs_some D m + zs_some E m = zs_unl tab (zs_tabF sp F Q.2) (zs_sg sp Q.2 F) (zs_sg sp Q.2 F) (Q.2 6) m := by
    intro m
    induction m with
    | zero => rfl
    | succ m ih =>
      rw [zs_unl, ← ih, zs_some, zs_some, va', vf', fa', ff']
      have za := z0 m
      have zf := z1 m
      rw [fa'] at za
      rw [ff'] at zf
      by_cases e1 : fa m = 0 <;> by_cases e2 : ff m = 0 <;> by_cases e3 : va m = vf m <;> simp [D, E, e1, e2, e3] <;> try omega
  -- the last loop
  have loop4 : ∀ (n k : Nat), k + n = 512 → ∀ g : zm_M, zo_fr h g → (∀ j, j < 512 → g.1 160 j = if ff j ≠ 0 then -1 else if fa j ≠ 0 then nI (va j) else -1) → zm_W (zm_md m_Mo_differs) (d + 8) TT R 112 [some (.inr (some 133)), some (.inl (nI (zs_some fa 512))), some (.inl (nI (zs_some D 512 + zs_some E k))), some (.inl (nI k))] [] g := by
    intro n
    induction n with
    | zero =>
      intro k hk g e1 e2
      have : k = 512 := by omega
      subst this
      have := hR g e1
      rw [← tot] at this
      generalize zs_some D 512 + zs_some E 512 = y at this ⊢
      refine zm_go g_Mo_differs [112] 30 (by decide +kernel) ok_Mo_differs _ rfl ?_
      simp only [↓zq, ↓reduceIte, zr_si2, zr_sr1, zr_cp2, zr_tl, zr_tn, shq, List.contains_nil, List.contains_cons, Nat.reduceBEq, Bool.false_or, Bool.or_false, Bool.true_or, Bool.false_eq_true, if_false, if_true, true_and, and_true, List.set_cons_zero, List.set_cons_succ, List.length_cons, List.length_nil, Nat.reduceAdd, Nat.reduceLeDiff, Nat.le_refl, Nat.zero_le, true_or, or_true, zn_cl, ↓jj_Mo_differs]
      exact ⟨fun _ => this, fun z => absurd (Int32.le_refl _) z⟩
    | succ n ih =>
      intro k hk g e1 e2
      have hk5 : k < 512 := by omega
      have ih := ih (k + 1) (by omega) g e1 e2
      rw [show zs_some E (k + 1) = zs_some E k + (if E k = 0 then 0 else 1) from rfl, ← Nat.add_assoc] at ih
      have q44 : g.2 133 44 = some 160 := by rw [e1.1]; exact p44
      have hv1 : vp_in (nI k) 512 := vp_in_nI hk5 (by decide)
      have hcl := nI_clamp (show k < 2 ^ 31 by omega)
      have b1 := e2 k hk5
      generalize zs_some D 512 + zs_some E k = y at ih ⊢
      refine zm_go g_Mo_differs [112] 30 (by decide +kernel) ok_Mo_differs _ rfl ?_
      simp only [↓zq, ↓reduceIte, zr_si2, zr_sr1, zr_cp2, zr_tl, zr_tn, shq, List.contains_nil, List.contains_cons, Nat.reduceBEq, Bool.false_or, Bool.or_false, Bool.true_or, Bool.false_eq_true, if_false, if_true, true_and, and_true, List.set_cons_zero, List.set_cons_succ, List.length_cons, List.length_nil, Nat.reduceAdd, Nat.reduceLeDiff, Nat.le_refl, Nat.zero_le, true_or, or_true, zn_cl, ↓jj_Mo_differs, q44, hv1, hcl, b1, nI_1]
      refine ⟨fun z => absurd z (nI_ge (b := 512) hk5 (by decide)), fun _ => ?_⟩
      by_cases e3 : ff k = 0
      · by_cases e4 : fa k = 0
        · simp only [E, e3, e4, ne_eq, not_true_eq_false, false_and, if_false, if_true, Nat.add_zero] at ih ⊢
          exact ⟨fun _ => ih, fun z => (by first | exact z.elim | exact absurd trivial z)⟩
        · simp only [E, e3, e4, ne_eq, not_true_eq_false, not_false_eq_true, and_self, if_false, if_true] at ih ⊢
          refine ⟨fun z => absurd z (m1 _ (l1 k hk5)), fun _ => ?_⟩
          exact ih
      · simp only [E, e3, ne_eq, not_false_eq_true, and_false, if_false, if_true, Nat.add_zero] at ih ⊢
        exact ⟨fun _ => ih, fun z => absurd trivial z⟩
  have loop3 : ∀ (n j kb : Nat), j + n = zs_some ff 512 → kb ≤ 512 → zs_some ff kb = j → ∀ g : zm_M, zo_fr h g → zo_A g.1 (zs_tabF sp F Q.2) (zs_sg sp Q.2 F) (Q.2 6) 512 → (∀ j, j < 512 → g.1 160 j = if ff j ≠ 0 ∧ j < kb then -1 else if fa j ≠ 0 then nI (va j) else -1) → zm_W (zm_md m_Mo_differs) (d + 8) TT R 60 [some (.inr (some 133)), some (.inl (nI (zs_some fa 512))), some (.inl (nI (zs_some D kb))), some (.inl (nI j))] [] g := by
    intro n
    have hDz : ∀ j, D j ≠ 0 → ff j ≠ 0 := fun j hj z => hj (by simp [D, z])
    have sf := zs_some_le ff 512
    induction n with
    | zero =>
      intro j kb hj hkb hs g e1 e2 e3
      have gz : ∀ x, kb ≤ x → x < 512 → ff x = 0 := fun x x1 x2 => by
        refine Classical.byContradiction (fun z => ?_)
        have a := zs_some_slt x2 z
        have b := zs_some_mono ff x1
        omega
      have d1 := zs_some_gap hDz (a := kb) (512 - kb) (by rw [show kb + (512 - kb) = 512 by omega]; omega)
      rw [show kb + (512 - kb) = 512 by omega] at d1
      have am : g.1 133 41 = nI (zs_some ff 512) := by rw [e2.1, hff]
      have nx := loop4 512 0 rfl g e1 (fun x hx => by
        rw [e3 x hx]
        by_cases e5 : ff x = 0
        · simp [e5]
        · have : x < kb := by
            rcases Nat.lt_or_ge x kb with q | q
            · exact q
            · exact absurd (gz x q hx) e5
          simp [e5, this])
      rw [show zs_some E 0 = 0 from rfl, Nat.add_zero, d1] at nx
      have ej : j = zs_some ff 512 := by omega
      rw [ej]
      generalize zs_some ff 512 = M at *
      refine zm_go g_Mo_differs [60, 112] 30 (by decide +kernel) ok_Mo_differs _ rfl ?_
      simp only [↓zq, ↓reduceIte, zr_si2, zr_sr1, zr_cp2, zr_tl, zr_tn, shq, List.contains_nil, List.contains_cons, Nat.reduceBEq, Bool.false_or, Bool.or_false, Bool.true_or, Bool.false_eq_true, if_false, if_true, true_and, and_true, List.set_cons_zero, List.set_cons_succ, List.length_cons, List.length_nil, Nat.reduceAdd, Nat.reduceLeDiff, Nat.le_refl, Nat.zero_le, true_or, or_true, zn_cl, ↓jj_Mo_differs, am]
      exact ⟨fun _ => nx, fun z => absurd (Int32.le_refl _) z⟩
    | succ n ih =>
      intro j kb hj hkb hs g e1 e2 e3
      obtain ⟨k2, hk2⟩ := zs_nth_ex (f := ff) (i := j) 512 (by omega)
      obtain ⟨k25, k2n, k2s⟩ := zs_nth_spec 512 hk2
      have hle : kb ≤ k2 := by
        rcases Nat.lt_or_ge k2 kb with q | q
        · have := zs_some_slt (f := ff) q k2n
          omega
        · exact q
      have d1 := zs_some_gap hDz (a := kb) (k2 - kb) (by rw [show kb + (k2 - kb) = k2 by omega]; omega)
      rw [show kb + (k2 - kb) = k2 by omega] at d1
      have ih2 := ih (j + 1) (k2 + 1) (by omega) (by omega) (by rw [zs_some, if_neg k2n, k2s])
      clear ih
      rw [show zs_some D (k2 + 1) = zs_some D k2 + (if D k2 = 0 then 0 else 1) from rfl, d1] at ih2
      have am : g.1 133 41 = nI (zs_some ff 512) := by rw [e2.1, hff]
      obtain ⟨a1, a2⟩ := e2.2 k2 k25 (by rw [ff']; exact k2n)
      rw [hff, k2s] at a1 a2
      rw [vf'] at a2
      have q42 : g.2 133 42 = some 158 := by rw [e1.1]; exact p42
      have q43 : g.2 133 43 = some 159 := by rw [e1.1]; exact p43
      have q44 : g.2 133 44 = some 160 := by rw [e1.1]; exact p44
      have hv1 : vp_in (nI j) 512 := vp_in_nI (by omega) (by decide)
      have hc1 := nI_clamp (show j < 2 ^ 31 by omega)
      have hv2' : vp_in (nI k2) 512 := vp_in_nI k25 (by decide)
      have hc2 := nI_clamp (show k2 < 2 ^ 31 by omega)
      have b1 := e3 k2 k25
      rw [if_neg (by omega)] at b1
      have nx : ∀ c, zm_W (zm_md m_Mo_differs) (d + 8) TT R 60 [some (.inr (some 133)), some (.inl (nI (zs_some fa 512))), some (.inl (nI (zs_some D kb + if D k2 = 0 then 0 else 1))), some (.inl (nI (j + 1)))] [] (zm_si g 160 k2 c) ∨ ¬ c = -1 := fun c => by
        by_cases hc : c = -1
        · subst hc
          refine Or.inl (ih2 _ (e1.tr (zo_fr.of rfl (fun a ha => ?_))) ⟨?_, fun k hk hn => ?_⟩ (fun x hx => ?_))
          · funext q
            simp only [zr_si1]
            rw [if_neg (by omega)]
          · simp only [zr_si1]
            rw [if_neg (by omega)]
            exact e2.1
          · simp only [zr_si1]
            rw [if_neg (by omega), if_neg (by omega)]
            exact e2.2 k hk hn
          · simp only [zr_si1]
            by_cases ex : x = k2
            · rw [if_pos ⟨trivial, ex⟩, if_pos ⟨by rw [ex]; exact k2n, by omega⟩]
            · rw [if_neg (fun y => ex y.2), e3 x hx]
              by_cases e5 : ff x ≠ 0 ∧ x < kb
              · rw [if_pos e5, if_pos ⟨e5.1, by omega⟩]
              · have e6 : ¬ (ff x ≠ 0 ∧ x < k2 + 1) := by
                  rintro ⟨y1, y2⟩
                  have : ¬ x < kb := fun y => e5 ⟨y1, y⟩
                  have s1 := zs_some_slt (show x < k2 by omega) y1
                  have s2 := zs_some_mono ff (show kb ≤ x by omega)
                  omega
                rw [if_neg e5, if_neg e6]
        · exact Or.inr hc
      have nx1 := (nx (-1)).resolve_right (fun z => z rfl)
      generalize zs_some ff 512 = M at *
      generalize zs_some D kb = y at *
      refine zm_go g_Mo_differs [60, 112] 30 (by decide +kernel) ok_Mo_differs _ rfl ?_
      simp only [↓zq, ↓reduceIte, zr_si2, zr_sr1, zr_cp2, zr_tl, zr_tn, shq, List.contains_nil, List.contains_cons, Nat.reduceBEq, Bool.false_or, Bool.or_false, Bool.true_or, Bool.false_eq_true, if_false, if_true, true_and, and_true, List.set_cons_zero, List.set_cons_succ, List.length_cons, List.length_nil, Nat.reduceAdd, Nat.reduceLeDiff, Nat.le_refl, Nat.zero_le, true_or, or_true, zn_cl, ↓jj_Mo_differs, am, q42, q43, q44, hv1, hc1, hv2', hc2, a1, a2, b1, nI_1]
      refine ⟨fun z => absurd z (nI_ge (by omega) (by omega)), fun _ => ?_⟩
      by_cases e4 : fa k2 = 0
      · have hD : ¬ D k2 = 0 := by simp [D, k2n, e4]
        rw [if_neg hD] at nx1
        simp only [e4, ne_eq, not_true_eq_false, if_false]
        refine ⟨fun z => absurd z.symm (m1 _ (l2 k2 k25)), fun _ => nx1⟩
      · simp only [e4, ne_eq, not_false_eq_true, if_true]
        have b2 := l1 k2 k25
        have b3 := l2 k2 k25
        rw [zn_eq (by omega) (by omega)]
        refine ⟨fun z => ?_, fun z => ?_⟩
        · rw [if_pos (by simp [D, e4, z]), Nat.add_zero] at nx1
          exact nx1
        · rw [if_neg (by simp [D, e4, z, k2n])] at nx1
          exact nx1
  have mid : ∀ g : zm_M, zo_fr h g → (∀ j, j < 512 → g.1 160 j = if fa j ≠ 0 then nI (va j) else -1) → ∀ o, zm_W (zm_md m_Mo_differs) (d + 8) TT R 54 [some (.inr (some 133)), some (.inl (nI (zs_some fa 512))), some (.inl (nI 0)), o] [] g := by
    intro g e1 e2 o
    refine zm_go g_Mo_differs [60, 112] 30 (by decide +kernel) ok_Mo_differs _ rfl ?_
    simp only [↓zq, ↓reduceIte, zr_si2, zr_sr1, zr_cp2, zr_tl, zr_tn, shq, List.contains_nil, List.contains_cons, Nat.reduceBEq, Bool.false_or, Bool.or_false, Bool.true_or, Bool.false_eq_true, if_false, if_true, true_and, and_true, List.set_cons_zero, List.set_cons_succ, List.length_cons, List.length_nil, Nat.reduceAdd, Nat.reduceLeDiff, Nat.le_refl, Nat.zero_le, true_or, or_true, zn_cl, ↓jj_Mo_differs]
    refine k_Mo_answersByFacts (zO_fr e1 hO) hq (fun g2 f1 f2 f3 => ?_)
    simp only [↓zq, ↓reduceIte, zr_si2, zr_sr1, zr_cp2, zr_tl, zr_tn, shq, List.contains_nil, List.contains_cons, Nat.reduceBEq, Bool.false_or, Bool.or_false, Bool.true_or, Bool.false_eq_true, if_false, if_true, true_and, and_true, List.set_cons_zero, List.set_cons_succ, List.length_cons, List.length_nil, Nat.reduceAdd, Nat.reduceLeDiff, Nat.le_refl, Nat.zero_le, true_or, or_true, zn_cl, ↓jj_Mo_differs]
    refine loop3 (zs_some ff 512) 0 0 (by omega) (by decide) rfl g2 (e1.tr f1) f3 (fun j hj => ?_)
    rw [f2, if_neg (by omega)]
    exact e2 j hj
  have loop2 : ∀ (n j kb : Nat), j + n = zs_some fa 512 → kb ≤ 512 → zs_some fa kb = j → ∀ g : zm_M, zo_fr h g → zo_A g.1 tab (zs_sg sp Q.2 F) (Q.2 6) 512 → (∀ j, j < 512 → g.1 160 j = if fa j ≠ 0 ∧ j < kb then nI (va j) else -1) → zm_W (zm_md m_Mo_differs) (d + 8) TT R 26 [some (.inr (some 133)), some (.inl (nI (zs_some fa 512))), some (.inl (nI 0)), some (.inl (nI j))] [] g := by
    intro n
    induction n with
    | zero =>
      intro j kb hj hkb hs g e1 e2 e3
      have gz : ∀ x, kb ≤ x → x < 512 → fa x = 0 := fun x x1 x2 => by
        refine Classical.byContradiction (fun z => ?_)
        have a := zs_some_slt x2 z
        have b := zs_some_mono fa x1
        omega
      have nx := mid g e1 (fun x hx => by
        rw [e3 x hx]
        by_cases e5 : fa x = 0
        · simp [e5]
        · have : x < kb := by
            rcases Nat.lt_or_ge x kb with q | q
            · exact q
            · exact absurd (gz x q hx) e5
          simp [e5, this]) (some (.inl (nI j)))
      have ej : j = zs_some fa 512 := by omega
      rw [ej] at nx ⊢
      generalize zs_some fa 512 = M at *
      refine zm_go g_Mo_differs [26, 54, 60, 112] 30 (by decide +kernel) ok_Mo_differs _ rfl ?_
      simp only [↓zq, ↓reduceIte, zr_si2, zr_sr1, zr_cp2, zr_tl, zr_tn, shq, List.contains_nil, List.contains_cons, Nat.reduceBEq, Bool.false_or, Bool.or_false, Bool.true_or, Bool.false_eq_true, if_false, if_true, true_and, and_true, List.set_cons_zero, List.set_cons_succ, List.length_cons, List.length_nil, Nat.reduceAdd, Nat.reduceLeDiff, Nat.le_refl, Nat.zero_le, true_or, or_true, zn_cl, ↓jj_Mo_differs]
      exact ⟨fun _ => nx, fun z => absurd (Int32.le_refl _) z⟩
    | succ n ih =>
      intro j kb hj hkb hs g e1 e2 e3
      obtain ⟨k2, hk2⟩ := zs_nth_ex (f := fa) (i := j) 512 (by omega)
      obtain ⟨k25, k2n, k2s⟩ := zs_nth_spec 512 hk2
      have hle : kb ≤ k2 := by
        rcases Nat.lt_or_ge k2 kb with q | q
        · have := zs_some_slt (f := fa) q k2n
          omega
        · exact q
      have ih2 := ih (j + 1) (k2 + 1) (by omega) (by omega) (by rw [zs_some, if_neg k2n, k2s])
      clear ih
      obtain ⟨a1, a2⟩ := e2.2 k2 k25 (by rw [fa']; exact k2n)
      rw [hfa, k2s] at a1 a2
      rw [va'] at a2
      have q42 : g.2 133 42 = some 158 := by rw [e1.1]; exact p42
      have q43 : g.2 133 43 = some 159 := by rw [e1.1]; exact p43
      have q44 : g.2 133 44 = some 160 := by rw [e1.1]; exact p44
      have hv1 : vp_in (nI j) 512 := vp_in_nI (by omega) (by decide)
      have hc1 := nI_clamp (show j < 2 ^ 31 by omega)
      have hv2' : vp_in (nI k2) 512 := vp_in_nI k25 (by decide)
      have hc2 := nI_clamp (show k2 < 2 ^ 31 by omega)
      have nx : zm_W (zm_md m_Mo_differs) (d + 8) TT R 26 [some (.inr (some 133)), some (.inl (nI (zs_some fa 512))), some (.inl (nI 0)), some (.inl (nI (j + 1)))] [] (zm_si g 160 k2 (nI (va k2))) := by
        refine ih2 _ (e1.tr (zo_fr.of (by rfl) (fun a ha => ?_))) ⟨?_, fun k hk hn => ?_⟩ (fun x hx => ?_)
        · funext q
          simp only [zr_si1]
          rw [if_neg (by omega)]
        · simp only [zr_si1]
          rw [if_neg (by omega)]
          exact e2.1
        · simp only [zr_si1]
          rw [if_neg (by omega), if_neg (by omega)]
          exact e2.2 k hk hn
        · simp only [zr_si1]
          by_cases ex : x = k2
          · rw [if_pos ⟨trivial, ex⟩, if_pos ⟨by rw [ex]; exact k2n, by omega⟩, ex]
          · rw [if_neg (fun y => ex y.2), e3 x hx]
            by_cases e5 : fa x ≠ 0 ∧ x < kb
            · rw [if_pos e5, if_pos ⟨e5.1, by omega⟩]
            · have e6 : ¬ (fa x ≠ 0 ∧ x < k2 + 1) := by
                rintro ⟨y1, y2⟩
                have : ¬ x < kb := fun y => e5 ⟨y1, y⟩
                have s1 := zs_some_slt (show x < k2 by omega) y1
                have s2 := zs_some_mono fa (show kb ≤ x by omega)
                omega
              rw [if_neg e5, if_neg e6]
      generalize zs_some fa 512 = M at *
      refine zm_go g_Mo_differs [26, 54, 60, 112] 30 (by decide +kernel) ok_Mo_differs _ rfl ?_
      simp only [↓zq, ↓reduceIte, zr_si2, zr_sr1, zr_cp2, zr_tl, zr_tn, shq, List.contains_nil, List.contains_cons, Nat.reduceBEq, Bool.false_or, Bool.or_false, Bool.true_or, Bool.false_eq_true, if_false, if_true, true_and, and_true, List.set_cons_zero, List.set_cons_succ, List.length_cons, List.length_nil, Nat.reduceAdd, Nat.reduceLeDiff, Nat.le_refl, Nat.zero_le, true_or, or_true, zn_cl, ↓jj_Mo_differs, q42, q43, q44, hv1, hc1, hv2', hc2, a1, a2, nI_1]
      exact ⟨fun z => absurd z (nI_ge (by omega) (by omega)), fun _ => nx⟩
  have loop1 : ∀ (n k : Nat), k + n = 512 → ∀ g : zm_M, zo_fr h g → zo_A g.1 tab (zs_sg sp Q.2 F) (Q.2 6) 512 → (∀ j, j < k → g.1 160 j = -1) → zm_W (zm_md m_Mo_differs) (d + 8) TT R 4 [some (.inr (some 133)), some (.inl (nI (zs_some fa 512))), some (.inl (nI 0)), some (.inl (nI k))] [] g := by
    intro n
    induction n with
    | zero =>
      intro k hk g e1 e2 e3
      have : k = 512 := by omega
      subst this
      have nx := loop2 (zs_some fa 512) 0 0 (by omega) (by decide) rfl g e1 e2 (fun j hj => by rw [if_neg (by omega)]; exact e3 j hj)
      refine zm_go g_Mo_differs [4, 26, 54, 60, 112] 30 (by decide +kernel) ok_Mo_differs _ rfl ?_
      simp only [↓zq, ↓reduceIte, zr_si2, zr_sr1, zr_cp2, zr_tl, zr_tn, shq, List.contains_nil, List.contains_cons, Nat.reduceBEq, Bool.false_or, Bool.or_false, Bool.true_or, Bool.false_eq_true, if_false, if_true, true_and, and_true, List.set_cons_zero, List.set_cons_succ, List.length_cons, List.length_nil, Nat.reduceAdd, Nat.reduceLeDiff, Nat.le_refl, Nat.zero_le, true_or, or_true, zn_cl, ↓jj_Mo_differs]
      exact ⟨fun _ => nx, fun z => absurd (Int32.le_refl _) z⟩
    | succ n ih =>
      intro k hk g e1 e2 e3
      have hk5 : k < 512 := by omega
      have ih := ih (k + 1) (by omega)
      have q44 : g.2 133 44 = some 160 := by rw [e1.1]; exact p44
      have hv1 : vp_in (nI k) 512 := vp_in_nI hk5 (by decide)
      have hcl := nI_clamp (show k < 2 ^ 31 by omega)
      refine zm_go g_Mo_differs [4, 26, 54, 60, 112] 30 (by decide +kernel) ok_Mo_differs _ rfl ?_
      simp only [↓zq, ↓reduceIte, zr_si2, zr_sr1, zr_cp2, zr_tl, zr_tn, shq, List.contains_nil, List.contains_cons, Nat.reduceBEq, Bool.false_or, Bool.or_false, Bool.true_or, Bool.false_eq_true, if_false, if_true, true_and, and_true, List.set_cons_zero, List.set_cons_succ, List.length_cons, List.length_nil, Nat.reduceAdd, Nat.reduceLeDiff, Nat.le_refl, Nat.zero_le, true_or, or_true, zn_cl, ↓jj_Mo_differs, q44, hv1, hcl, nI_1]
      refine ⟨fun z => absurd z (nI_ge (b := 512) hk5 (by decide)), fun _ => ?_⟩
      refine ih _ (e1.tr (zo_fr.of (by rfl) (fun a ha => ?_))) ⟨?_, fun k hk hn => ?_⟩ (fun j hj => ?_)
      · funext q
        simp only [zr_si1]
        rw [if_neg (by omega)]
      · simp only [zr_si1]
        rw [if_neg (by omega)]
        exact e2.1
      · simp only [zr_si1]
        rw [if_neg (by omega), if_neg (by omega)]
        exact e2.2 k hk hn
      · simp only [zr_si1]
        by_cases ej : j = k
        · rw [if_pos ⟨trivial, ej⟩]
        · rw [if_neg (by omega)]
          exact e3 j (by omega)
  refine st_Mo_differs [4] 9 ?_
  simp only [↓zq, ↓reduceIte, zr_si2, zr_sr1, zr_cp2, zr_tl, zr_tn, shq, List.contains_nil, List.contains_cons, Nat.reduceBEq, Bool.false_or, Bool.or_false, Bool.true_or, Bool.false_eq_true, if_false, if_true, true_and, and_true, List.set_cons_zero, List.set_cons_succ, List.length_cons, List.length_nil, Nat.reduceAdd, Nat.reduceLeDiff, Nat.le_refl, Nat.zero_le, true_or, or_true, zn_cl, ↓jj_Mo_differs]
  exact loop1 512 0 rfl h (zo_fr.rf h) hA (fun j hj => absurd hj (Nat.not_lt_zero j))
