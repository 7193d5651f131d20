/-! spans, levels, parts: rows read by the reference -/
theorem f_ss_s (T : Nat → Nat) (n : Nat) (sp : Nat → Nat) (f told : Nat) (lets : Nat → Nat) (e : zt_S) : f_ss T n sp (f + 1) told lets e = if t_c T n e = 59 then f_ss T n sp f (told ||| 2 ^ (f_sd T n (t_st e)).1) (f_sl T n sp told lets (t_st e)) (f_s7 T n told (t_st e)) else (lets, e) := rfl
theorem f_pt_s (T : Nat → Nat) (n f ks : Nat) (e : zt_S) : f_pt T n (f + 1) ks e = if f_w (t_c T n e) < 4 then f_pt T n f (ks ||| 2 ^ f_w (t_c T n e)) (t_st (if ks.testBit (f_w (t_c T n e)) = true then t_fl 6 e else e)) else (ks, e) := rfl
set_option maxHeartbeats 4000000 in
set_option maxRecDepth 100000 in
theorem k_Mo_readsSpans {d : Nat} {h : zm_M} {R : zm_R} {T : Nat → Nat} {n p : Nat} {sp lets : Nat → Nat} (hp : zp_mo h.2) (hs : zu_s h T n p) (hn : n ≤ 80) (hsp : zo_S h.1 sp) (hw : zw_S sp) (hlt : ∀ k, k < 3 → h.1 152 (3 + k) = nI (lets k)) (hb : ∀ x, t_en n (f_ss T n sp 80 0 lets (.inr p)).2 = .inl x → ∀ h' : zm_M, zu_f h h' → h'.1 133 11 = t_an x → R (some (.inl 0)) h') (hg : ∀ p', t_en n (f_ss T n sp 80 0 lets (.inr p)).2 = .inr p' → ∀ h' : zm_M, zu_f h h' → (∀ k, k < 3 → h'.1 152 (3 + k) = nI ((f_ss T n sp 80 0 lets (.inr p)).1 k)) → (∀ k, k < 3 ∨ k = 6 → h'.1 152 k = h.1 152 k) → R (some (.inl 1)) h') : zm_C (d + 5) TT m_Mo_readsSpans [.inr (some 133)] h R := by
  have bad : ∀ (g : zm_M) (x : Nat × Nat), zu_f h g → g.1 133 11 = t_an x → t_en n (f_ss T n sp 80 0 lets (.inr p)).2 = .inl x → zm_W (zm_md m_Mo_readsSpans) (d + 5) TT R 7 [some (.inr (some 133)), some (.inl 0)] [] g := by
    intro g x hf h11 he
    refine zm_go g_Mo_readsSpans [7] 30 (by decide +kernel) ok_Mo_readsSpans _ rfl ?_
    simp only [↓zq, ↓reduceIte, zr_si2, zr_sr1, zr_cp2, zr_tl, zr_tn, shq, List.contains_nil, List.contains_cons, Nat.reduceBEq, Bool.false_or, Bool.or_false, Bool.true_or, Bool.false_eq_true, if_false, if_true, true_and, and_true, List.set_cons_zero, List.set_cons_succ, List.length_cons, List.length_nil, Nat.reduceAdd, Nat.reduceLeDiff, Nat.le_refl, Nat.zero_le, true_or, or_true, zn_cl, ↓jj_Mo_readsSpans]
    exact ⟨fun _ => hb x he g hf h11, fun z => (by first | exact absurd trivial z | exact absurd rfl z | exact absurd z (by decide))⟩
  have loop : ∀ (f told p' : Nat) (lets' : Nat → Nat) (g : zm_M), zu_f h g → zu_s g T n p' → g.1 133 32 = nI told → told < 8 → (∀ k, k < 3 → g.1 152 (3 + k) = nI (lets' k)) → (∀ k, k < 3 ∨ k = 6 → g.1 152 k = h.1 152 k) → 160 ≤ p' + 2 * f → f_ss T n sp 80 0 lets (.inr p) = f_ss T n sp f told lets' (.inr p') → zm_W (zm_md m_Mo_readsSpans) (d + 5) TT R 7 [some (.inr (some 133)), some (.inl 1)] [] g := by
    intro f
    induction f with
    | zero =>
      intro told p' lets' g hf hs'
      have := hs'.2.2.2.2.2
      intro _ _ _ _ hh
      omega
    | succ f ih =>
      intro told p' lets' g hf hs' ht htl hl h6 hpf he
      obtain ⟨_, s2, _, _, s5, s6⟩ := id hs'
      rw [f_ss_s T n sp f told lets' (.inr p')] at he
      refine zm_go g_Mo_readsSpans [7] 30 (by decide +kernel) ok_Mo_readsSpans _ rfl ?_
      simp only [↓zq, ↓reduceIte, zr_si2, zr_sr1, zr_cp2, zr_tl, zr_tn, shq, List.contains_nil, List.contains_cons, Nat.reduceBEq, Bool.false_or, Bool.or_false, Bool.true_or, Bool.false_eq_true, if_false, if_true, true_and, and_true, List.set_cons_zero, List.set_cons_succ, List.length_cons, List.length_nil, Nat.reduceAdd, Nat.reduceLeDiff, Nat.le_refl, Nat.zero_le, true_or, or_true, zn_cl, ↓jj_Mo_readsSpans, s2, s5]
      refine ⟨fun z => absurd z (by decide), fun _ => ⟨fun z => ?_, fun z => ?_⟩⟩
      · have pn : ¬ p' < n := fun q => nI_ge q (by omega) z
        rw [if_neg (by rw [t_c_r, if_neg pn]; decide)] at he
        rw [he] at hg
        dsimp only at hg
        rw [t_en_r, if_neg pn] at hg
        exact hg p' rfl g hf hl h6
      · have pn : p' < n := by
          rcases Nat.lt_or_ge p' n with q | q
          · exact q
          · exact absurd (nI_le q (by omega)) z
        refine k_Mo_takes (c := 59) hs' (by decide) (fun y hy g2 f2 h11 => ?_) (fun hy g2 f2 s2 => ?_)
        · simp only [↓zq, ↓reduceIte, zr_si2, zr_sr1, zr_cp2, zr_tl, zr_tn, shq, List.contains_nil, List.contains_cons, Nat.reduceBEq, Bool.false_or, Bool.or_false, Bool.true_or, Bool.false_eq_true, if_false, if_true, true_and, and_true, List.set_cons_zero, List.set_cons_succ, List.length_cons, List.length_nil, Nat.reduceAdd, Nat.reduceLeDiff, Nat.le_refl, Nat.zero_le, true_or, or_true, zn_cl, ↓jj_Mo_readsSpans]
          refine ⟨fun _ => ?_, fun z => (by first | exact absurd trivial z | exact absurd rfl z | exact absurd z (by decide))⟩
          refine bad g2 y (hf.tr f2.f) h11 ?_
          unfold t_tk at hy
          split at hy
          · cases hy
          · next q =>
            rw [if_neg q] at he
            rw [he, t_en_r, if_pos pn]
            exact hy
        · simp only [↓zq, ↓reduceIte, zr_si2, zr_sr1, zr_cp2, zr_tl, zr_tn, shq, List.contains_nil, List.contains_cons, Nat.reduceBEq, Bool.false_or, Bool.or_false, Bool.true_or, Bool.false_eq_true, if_false, if_true, true_and, and_true, List.set_cons_zero, List.set_cons_succ, List.length_cons, List.length_nil, Nat.reduceAdd, Nat.reduceLeDiff, Nat.le_refl, Nat.zero_le, true_or, or_true, zn_cl, ↓jj_Mo_readsSpans]
          refine ⟨fun z => absurd z (by decide), fun _ => ?_⟩
          have hc59 : t_c T n (.inr p') = 59 := by
            unfold t_tk at hy
            split at hy
            · next q => exact q
            · cases hy
          rw [if_pos hc59] at he
          have hf2 := hf.tr f2.f
          refine k_Mo_readsSpan (told := told) (sp := sp) (lets := lets') (by rw [hf2.1]; exact hp) s2 (by unfold zo_S; rw [hf2.2.1 136 (by omega) (by omega) (by omega)]; exact hsp) hw (by rw [f2.2.2 32 (by omega) (by omega) (by omega)]; exact ht) htl (fun k hk => by rw [f2.2.1 152 (by omega)]; exact hl k hk) (fun y hy g3 f3 h11 => ?_) (fun q' hq' hpq g3 f3 s3 t3 l3 c3 => ?_)
          · simp only [↓zq, ↓reduceIte, zr_si2, zr_sr1, zr_cp2, zr_tl, zr_tn, shq, List.contains_nil, List.contains_cons, Nat.reduceBEq, Bool.false_or, Bool.or_false, Bool.true_or, Bool.false_eq_true, if_false, if_true, true_and, and_true, List.set_cons_zero, List.set_cons_succ, List.length_cons, List.length_nil, Nat.reduceAdd, Nat.reduceLeDiff, Nat.le_refl, Nat.zero_le, true_or, or_true, zn_cl, ↓jj_Mo_readsSpans]
            refine ⟨fun _ => ?_, fun z => (by first | exact absurd trivial z | exact absurd rfl z | exact absurd z (by decide))⟩
            refine bad g3 y (hf2.tr f3) h11 ?_
            rw [he, show t_st (.inr p') = .inr (p' + 1) from rfl, hy, f_ss_d]
            rfl
          · simp only [↓zq, ↓reduceIte, zr_si2, zr_sr1, zr_cp2, zr_tl, zr_tn, shq, List.contains_nil, List.contains_cons, Nat.reduceBEq, Bool.false_or, Bool.or_false, Bool.true_or, Bool.false_eq_true, if_false, if_true, true_and, and_true, List.set_cons_zero, List.set_cons_succ, List.length_cons, List.length_nil, Nat.reduceAdd, Nat.reduceLeDiff, Nat.le_refl, Nat.zero_le, true_or, or_true, zn_cl, ↓jj_Mo_readsSpans]
            refine ⟨fun z => absurd z (by decide), fun _ => ?_⟩
            have s3l := f_sd_lt T n (.inr (p' + 1))
            refine ih _ q' _ g3 (hf2.tr f3) s3 t3 (Nat.or_lt_two_pow (n := 3) htl (Nat.pow_lt_pow_right (by decide) s3l)) l3 (fun k hk => by rw [c3 k hk, f2.2.1 152 (by omega)]; exact h6 k hk) (by omega) ?_
            rw [he, show t_st (.inr p') = .inr (p' + 1) from rfl, hq']
  refine st_Mo_readsSpans [7] 30 ?_
  simp only [↓zq, ↓reduceIte, zr_si2, zr_sr1, zr_cp2, zr_tl, zr_tn, shq, List.contains_nil, List.contains_cons, Nat.reduceBEq, Bool.false_or, Bool.or_false, Bool.true_or, Bool.false_eq_true, if_false, if_true, true_and, and_true, List.set_cons_zero, List.set_cons_succ, List.length_cons, List.length_nil, Nat.reduceAdd, Nat.reduceLeDiff, Nat.le_refl, Nat.zero_le, true_or, or_true, zn_cl, ↓jj_Mo_readsSpans]
  have f1 := (zu_f.rf h).s0 32 (by omega) 0
  refine loop 80 0 p lets _ f1 (zu_s_i hs rfl ?_ ?_ ?_) ?_ (by decide) (fun k hk => ?_) (fun k hk => ?_) (by omega) rfl
  · rw [zr_si1, if_neg (by omega)]
  · rw [zr_si1, if_neg (by omega)]
  · funext t; rw [zr_si1, if_neg (by omega)]
  · rw [zr_si1, if_pos ⟨rfl, rfl⟩]; rfl
  · rw [zr_si1, if_neg (by omega)]; exact hlt k hk
  · rw [zr_si1, if_neg (by omega)]
set_option maxHeartbeats 4000000 in
set_option maxRecDepth 100000 in
theorem k_Mo_readsLevels {d : Nat} {h : zm_M} {R : zm_R} {T : Nat → Nat} {n p : Nat} (hp : zp_mo h.2) (hs : zu_s h T n p) (hb : ∀ x, f_e3 T n (.inr p) = .inl x → ∀ h' : zm_M, zu_f h h' → h'.1 133 11 = t_an x → R (some (.inl 0)) h') (hg : f_e3 T n (.inr p) = .inr (p + 3) → ∀ h' : zm_M, zu_f h h' → zu_s h' T n (p + 3) → (∀ k, k < 3 → h'.1 152 k = nI (f_le T n (.inr p) k)) → (∀ k, k < 3 → h'.1 152 (3 + k) = 255) → R (some (.inl 1)) h') : zm_C (d + 4) TT m_Mo_readsLevels [.inr (some 133)] h R := by
  have step : ∀ (g : zm_M) (s q : Nat), s < 3 → zu_f h g → zu_s g T n q → (∀ x, (f_lv T n 2 (.inr q)).2 = .inl x → f_e3 T n (.inr p) = .inl x) → ((f_lv T n 2 (.inr q)).2 = .inr (q + 1) → ∀ g' : zm_M, zu_f h g' → zu_n g g' → zu_s g' T n (q + 1) → zm_W (zm_md m_Mo_readsLevels) (d + 4) TT R 2 [some (.inr (some 133)), some (.inl (nI (s + 1)))] [] (zm_si (zm_si g' 152 s (nI (f_lv T n 2 (.inr q)).1)) 152 (3 + s) 255)) → zm_W (zm_md m_Mo_readsLevels) (d + 4) TT R 2 [some (.inr (some 133)), some (.inl (nI s))] [] g := by
    intro g s q hs3 hf hsg hx hk
    refine zm_go g_Mo_readsLevels [2] 30 (by decide +kernel) ok_Mo_readsLevels _ rfl ?_
    simp only [↓zq, ↓reduceIte, zr_si2, zr_sr1, zr_cp2, zr_tl, zr_tn, shq, List.contains_nil, List.contains_cons, Nat.reduceBEq, Bool.false_or, Bool.or_false, Bool.true_or, Bool.false_eq_true, if_false, if_true, true_and, and_true, List.set_cons_zero, List.set_cons_succ, List.length_cons, List.length_nil, Nat.reduceAdd, Nat.reduceLeDiff, Nat.le_refl, Nat.zero_le, true_or, or_true, zn_cl, ↓jj_Mo_readsLevels]
    refine ⟨fun z => absurd z (nI_ge (b := 3) hs3 (by decide)), fun _ => ?_⟩
    refine k_Mo_readsLevel (m := 2) hsg (by decide) (fun x hx2 g2 f2 h11 => ?_) (fun hx2 g2 f2 s2 n2 => ?_)
    · simp only [↓zq, ↓reduceIte, zr_si2, zr_sr1, zr_cp2, zr_tl, zr_tn, shq, List.contains_nil, List.contains_cons, Nat.reduceBEq, Bool.false_or, Bool.or_false, Bool.true_or, Bool.false_eq_true, if_false, if_true, true_and, and_true, List.set_cons_zero, List.set_cons_succ, List.length_cons, List.length_nil, Nat.reduceAdd, Nat.reduceLeDiff, Nat.le_refl, Nat.zero_le, true_or, or_true, zn_cl, ↓jj_Mo_readsLevels]
      exact ⟨fun z => (by first | exact absurd trivial z | exact absurd rfl z | exact absurd z (by decide)), fun _ => hb x (hx x hx2) g2 (hf.tr f2.f) h11⟩
    · have q34 : g2.2 133 34 = some 152 := by rw [f2.1, hf.1]; exact (zp_34 hp).1
      have v1 : vp_in (nI s) 8 := vp_in_nI (by omega) (by decide)
      have c1 := nI_clamp (show s < 2 ^ 31 by omega)
      have v2 : vp_in (nI (3 + s)) 8 := vp_in_nI (by omega) (by decide)
      have c2 := nI_clamp (show 3 + s < 2 ^ 31 by omega)
      have e3 : (3 : Int32) + nI s = nI (3 + s) := nI_add 3 s
      simp only [↓zq, ↓reduceIte, zr_si2, zr_sr1, zr_cp2, zr_tl, zr_tn, shq, List.contains_nil, List.contains_cons, Nat.reduceBEq, Bool.false_or, Bool.or_false, Bool.true_or, Bool.false_eq_true, if_false, if_true, true_and, and_true, List.set_cons_zero, List.set_cons_succ, List.length_cons, List.length_nil, Nat.reduceAdd, Nat.reduceLeDiff, Nat.le_refl, Nat.zero_le, true_or, or_true, zn_cl, ↓jj_Mo_readsLevels, q34, v1, c1, v2, c2, e3, n2, nI_1]
      refine ⟨fun _ => hk hx2 g2 (hf.tr f2.f) f2 s2, fun z => absurd z (by decide)⟩
  have sx : ∀ (g : zm_M) (a b q : Nat) (y z : Int32), zu_s g T n q → zu_s (zm_si (zm_si g 152 a y) 152 b z) T n q := fun g a b q y z hg => zu_s_i hg rfl (by rw [zr_si1, if_neg (by omega), zr_si1, if_neg (by omega)]) (by rw [zr_si1, if_neg (by omega), zr_si1, if_neg (by omega)]) (by funext j; rw [zr_si1, if_neg (by omega), zr_si1, if_neg (by omega)])
  refine st_Mo_readsLevels [2] 30 ?_
  simp only [↓zq, ↓reduceIte, zr_si2, zr_sr1, zr_cp2, zr_tl, zr_tn, shq, List.contains_nil, List.contains_cons, Nat.reduceBEq, Bool.false_or, Bool.or_false, Bool.true_or, Bool.false_eq_true, if_false, if_true, true_and, and_true, List.set_cons_zero, List.set_cons_succ, List.length_cons, List.length_nil, Nat.reduceAdd, Nat.reduceLeDiff, Nat.le_refl, Nat.zero_le, true_or, or_true, zn_cl, ↓jj_Mo_readsLevels]
  refine step h 0 p (by decide) (zu_f.rf h) hs (fun x hx => f_lv_i (by decide) (f_lv_i (by decide) hx)) (fun hx1 g1 f1 n1 s1 => ?_)
  have e1 : f_e1 T n (.inr p) = .inr (p + 1) := hx1
  refine step _ 1 (p + 1) (by decide) ((f1.s1 152 _ (by omega) _).s1 152 _ (by omega) _) (sx _ _ _ _ _ _ s1) (fun x hx => f_lv_i (by decide) (by unfold f_e2; rw [e1]; exact hx)) (fun hx2 g2 f2 n2 s2 => ?_)
  have e2 : f_e2 T n (.inr p) = .inr (p + 1 + 1) := by unfold f_e2; rw [e1]; exact hx2
  refine step _ 2 (p + 1 + 1) (by decide) ((f2.s1 152 _ (by omega) _).s1 152 _ (by omega) _) (sx _ _ _ _ _ _ s2) (fun x hx => by unfold f_e3; rw [e2]; exact hx) (fun hx3 g3 f3 n3 s3 => ?_)
  have e3 : f_e3 T n (.inr p) = .inr (p + 3) := by unfold f_e3; rw [e2]; exact hx3
  refine zm_go g_Mo_readsLevels [2] 30 (by decide +kernel) ok_Mo_readsLevels _ rfl ?_
  simp only [↓zq, ↓reduceIte, zr_si2, zr_sr1, zr_cp2, zr_tl, zr_tn, shq, List.contains_nil, List.contains_cons, Nat.reduceBEq, Bool.false_or, Bool.or_false, Bool.true_or, Bool.false_eq_true, if_false, if_true, true_and, and_true, List.set_cons_zero, List.set_cons_succ, List.length_cons, List.length_nil, Nat.reduceAdd, Nat.reduceLeDiff, Nat.le_refl, Nat.zero_le, true_or, or_true, zn_cl, ↓jj_Mo_readsLevels]
  refine ⟨fun _ => ?_, fun z => absurd (by decide) z⟩
  have a3 := n3.2.1 152 (by omega)
  have a2 := n2.2.1 152 (by omega)
  refine hg e3 _ ((f3.s1 152 _ (by omega) _).s1 152 _ (by omega) _) (sx _ _ _ _ _ _ s3) (fun k hk => ?_) (fun k hk => ?_)
  · unfold f_le
    rw [e1, e2]
    rcases (show k = 0 ∨ k = 1 ∨ k = 2 by omega) with rfl | rfl | rfl <;> simp [zr_si1, a3, a2]
  · rcases (show k = 0 ∨ k = 1 ∨ k = 2 by omega) with rfl | rfl | rfl <;> simp [zr_si1, a3, a2]
def zt_p (w : Nat) : Int32 := if w < 4 then nI w else -1
set_option maxHeartbeats 4000000 in
set_option maxRecDepth 100000 in
theorem k_Mo_partOf {d : Nat} {T : zm_T} {h : zm_M} {R : zm_R} {c : Nat} (hc : c ≤ 256) (hR : R (some (.inl (zt_p (f_w c)))) h) : zm_C (d + 1) T m_Mo_partOf [.inl (zt_v c)] h R := by
  have ev : ∀ k, k < 256 → (zt_v c = nI k ↔ c = k) := fun k hk => Eq.to_iff (zt_v_eq hc hk)
  refine st_Mo_partOf [] 30 ?_
  simp only [↓zq, ↓reduceIte, zr_si2, zr_sr1, zr_cp2, zr_tl, zr_tn, shq, List.contains_nil, List.contains_cons, Nat.reduceBEq, Bool.false_or, Bool.or_false, Bool.true_or, Bool.false_eq_true, if_false, if_true, true_and, and_true, List.set_cons_zero, List.set_cons_succ, List.length_cons, List.length_nil, Nat.reduceAdd, Nat.reduceLeDiff, Nat.le_refl, Nat.zero_le, true_or, or_true, zn_cl, ↓jj_Mo_partOf]
  refine ⟨fun z1 => ⟨fun z2 => ⟨fun z3 => ⟨fun z4 => ?_, fun z => by have := (ev 120 (by decide)).mp z; subst this; exact hR⟩, fun z => by have := (ev 110 (by decide)).mp z; subst this; exact hR⟩, fun z => by have := (ev 99 (by decide)).mp z; subst this; exact hR⟩, fun z => by have := (ev 115 (by decide)).mp z; subst this; exact hR⟩
  have e7 : ¬ f_w c < 4 := by
    unfold f_w
    rw [if_neg (fun q => z1 ((ev 115 (by decide)).mpr q)), if_neg (fun q => z2 ((ev 99 (by decide)).mpr q)), if_neg (fun q => z3 ((ev 110 (by decide)).mpr q)), if_neg (fun q => z4 ((ev 120 (by decide)).mpr q))]
    split
    · omega
    · split
      · omega
      · split <;> omega
  rw [show zt_p (f_w c) = -1 from if_neg e7] at hR
  exact hR
set_option maxHeartbeats 4000000 in
set_option maxRecDepth 100000 in
theorem k_Mo_whatOf {d : Nat} {T : zm_T} {h : zm_M} {R : zm_R} {c : Nat} (hc : c ≤ 256) (hR : R (some (.inl (zt_w (f_w c)))) h) : zm_C (d + 2) T m_Mo_whatOf [.inl (zt_v c)] h R := by
  have ev : ∀ k, k < 256 → (zt_v c = nI k ↔ c = k) := fun k hk => Eq.to_iff (zt_v_eq hc hk)
  refine st_Mo_whatOf [] 30 ?_
  simp only [↓zq, ↓reduceIte, zr_si2, zr_sr1, zr_cp2, zr_tl, zr_tn, shq, List.contains_nil, List.contains_cons, Nat.reduceBEq, Bool.false_or, Bool.or_false, Bool.true_or, Bool.false_eq_true, if_false, if_true, true_and, and_true, List.set_cons_zero, List.set_cons_succ, List.length_cons, List.length_nil, Nat.reduceAdd, Nat.reduceLeDiff, Nat.le_refl, Nat.zero_le, true_or, or_true, zn_cl, ↓jj_Mo_whatOf]
  refine ⟨fun z1 => ⟨fun z2 => ⟨fun z3 => k_Mo_partOf hc ?_, fun z => by have := (ev 109 (by decide)).mp z; subst this; exact hR⟩, fun z => by have := (ev 100 (by decide)).mp z; subst this; exact hR⟩, fun z => by have := (ev 118 (by decide)).mp z; subst this; exact hR⟩
  simp only [↓zq, ↓reduceIte, zr_si2, zr_sr1, zr_cp2, zr_tl, zr_tn, shq, List.contains_nil, List.contains_cons, Nat.reduceBEq, Bool.false_or, Bool.or_false, Bool.true_or, Bool.false_eq_true, if_false, if_true, true_and, and_true, List.set_cons_zero, List.set_cons_succ, List.length_cons, List.length_nil, Nat.reduceAdd, Nat.reduceLeDiff, Nat.le_refl, Nat.zero_le, true_or, or_true, zn_cl, ↓jj_Mo_whatOf]
  have e : zt_p (f_w c) = zt_w (f_w c) := by
    unfold zt_p zt_w
    by_cases q : f_w c < 4
    · rw [if_pos q, if_neg (by omega)]
    · rw [if_neg q, if_pos]
      unfold f_w at q ⊢
      rw [if_neg (fun y => z1 ((ev 118 (by decide)).mpr y)), if_neg (fun y => z2 ((ev 100 (by decide)).mpr y)), if_neg (fun y => z3 ((ev 109 (by decide)).mpr y))] at q ⊢
      split at q
      · omega
      · split at q
        · omega
        · split at q
          · omega
          · split at q
            · omega
            · next a b c' d' => rw [if_neg a, if_neg b, if_neg c', if_neg d']
  rw [e]
  exact hR
set_option maxHeartbeats 4000000 in
set_option maxRecDepth 100000 in
theorem k_Mo_readsParts {d : Nat} {h : zm_M} {R : zm_R} {T : Nat → Nat} {n p : Nat} (hp : zp_mo h.2) (hs : zu_s h T n p) (hn : n < p + 80) (hb : ∀ x, f_pe T n (.inr p) = .inl x → ∀ h' : zm_M, zu_f h h' → h'.1 133 11 = t_an x → R (some (.inl 0)) h') (hg : ∀ p', f_pe T n (.inr p) = .inr p' → ∀ h' : zm_M, zu_f h h' → zu_s h' T n p' → h'.1 152 6 = nI (f_pt T n 80 0 (.inr p)).1 → (∀ k, k < 6 → h'.1 152 k = h.1 152 k) → R (some (.inl 1)) h') : zm_C (d + 2) TT m_Mo_readsParts [.inr (some 133)] h R := by
  have q34 := (zp_34 hp).1
  have v6 : vp_in 6 8 := zn_v (k := 6)
  have loop : ∀ (f ks p' : Nat) (g : zm_M), zu_f h g → zu_s g T n p' → g.1 152 6 = nI ks → ks < 16 → (f_w (t_c T n (.inr p')) < 4 ∨ ks ≠ 0) → (∀ k, k < 6 → g.1 152 k = h.1 152 k) → n < p' + f → f_pt T n 80 0 (.inr p) = f_pt T n f ks (.inr p') → zm_W (zm_md m_Mo_readsParts) (d + 2) TT R 31 [some (.inr (some 133)), some (.inl (zt_p (f_w (t_c T n (.inr p')))))] [] g := by
    intro f
    induction f with
    | zero =>
      intro ks p' g hf hs'
      have := hs'.2.2.2.2.2
      intro _ _ _ _ hh
      omega
    | succ f ih =>
      intro ks p' g hf hs' hk hk16 hor h6 hpf he
      have s5 := hs'.2.2.2.2.1
      have q34' : g.2 133 34 = some 152 := by rw [hf.1]; exact q34
      rw [f_pt_s T n f ks (.inr p')] at he
      by_cases hw4 : f_w (t_c T n (.inr p')) < 4
      · rw [if_pos hw4] at he
        have ew : zt_p (f_w (t_c T n (.inr p'))) = nI (f_w (t_c T n (.inr p'))) := if_pos hw4
        have nm : ¬ nI (f_w (t_c T n (.inr p'))) = -1 := fun z => absurd (show nI (f_w (t_c T n (.inr p'))) < 0 by rw [z]; decide) (nI_pos (by omega))
        have p16 : 2 ^ f_w (t_c T n (.inr p')) < 16 := Nat.pow_lt_pow_right (n := 4) (by decide) hw4
        rw [ew]
        refine zm_go g_Mo_readsParts [31] 30 (by decide +kernel) ok_Mo_readsParts _ rfl ?_
        simp only [↓zq, ↓reduceIte, zr_si2, zr_sr1, zr_cp2, zr_tl, zr_tn, shq, List.contains_nil, List.contains_cons, Nat.reduceBEq, Bool.false_or, Bool.or_false, Bool.true_or, Bool.false_eq_true, if_false, if_true, true_and, and_true, List.set_cons_zero, List.set_cons_succ, List.length_cons, List.length_nil, Nat.reduceAdd, Nat.reduceLeDiff, Nat.le_refl, Nat.zero_le, true_or, or_true, zn_cl, ↓jj_Mo_readsParts, q34', v6, hk, nm]
        simp only [not_false_eq_true, not_true_eq_false, false_imp_iff, true_imp_iff, forall_const, and_true, true_and, and_self, false_or, or_false, Int32.reduceLT, Int32.reduceLE, Int32.reduceSub, Int32.reduceAdd]
        refine k_Mo_has (by omega) (by omega) ?_
        have eb : (1 : Int32) <<< (nI (f_w (t_c T n (.inr p'))) &&& 31) = nI (2 ^ f_w (t_c T n (.inr p'))) := zn_s1 _ (by omega)
        simp only [↓zq, ↓reduceIte, zr_si2, zr_sr1, zr_cp2, zr_tl, zr_tn, shq, List.contains_nil, List.contains_cons, Nat.reduceBEq, Bool.false_or, Bool.or_false, Bool.true_or, Bool.false_eq_true, if_false, if_true, true_and, and_true, List.set_cons_zero, List.set_cons_succ, List.length_cons, List.length_nil, Nat.reduceAdd, Nat.reduceLeDiff, Nat.le_refl, Nat.zero_le, true_or, or_true, zn_cl, ↓jj_Mo_readsParts, q34', v6, hk, s5, eb, zn_or]
        by_cases tb : ks.testBit (f_w (t_c T n (.inr p'))) = true
        · rw [if_pos tb]
          refine ⟨fun z => absurd z (by decide), fun _ => ?_⟩
          refine k_Mo_wrongAt (f := 6) (q := p') ?_
          simp only [↓zq, ↓reduceIte, zr_si2, zr_sr1, zr_cp2, zr_tl, zr_tn, shq, List.contains_nil, List.contains_cons, Nat.reduceBEq, Bool.false_or, Bool.or_false, Bool.true_or, Bool.false_eq_true, if_false, if_true, true_and, and_true, List.set_cons_zero, List.set_cons_succ, List.length_cons, List.length_nil, Nat.reduceAdd, Nat.reduceLeDiff, Nat.le_refl, Nat.zero_le, true_or, or_true, zn_cl, ↓jj_Mo_readsParts]
          obtain ⟨f3, g3⟩ := zu_n_11 g (t_an (6, p'))
          refine hb (6, p') ?_ _ (hf.tr f3.f) g3
          rw [if_pos tb, show t_st (t_fl 6 (.inr p')) = .inl (6, p') from rfl, f_pt_d] at he
          unfold f_pe
          rw [he]
          dsimp only
          rw [if_neg]
          intro z
          have : 2 ^ f_w (t_c T n (.inr p')) ≤ ks ||| 2 ^ f_w (t_c T n (.inr p')) := Nat.right_le_or
          have h2 : 0 < 2 ^ f_w (t_c T n (.inr p')) := Nat.two_pow_pos _
          omega
        · rw [if_neg tb] at he ⊢
          refine ⟨fun _ => ?_, fun z => (by first | exact absurd trivial z | exact absurd rfl z | exact absurd z (by decide))⟩
          simp only [zr_si1, show ¬ (133 : Nat) = 152 by decide, false_and, if_false, s5, nI_1]
          obtain ⟨g2, hg2⟩ : ∃ g2 : zm_M, g2 = zm_si (zm_si g 152 6 (nI (ks ||| 2 ^ f_w (t_c T n (.inr p'))))) 133 9 (nI (p' + 1)) := ⟨_, rfl⟩
          rw [← hg2]
          have f2 : zu_f h g2 := by subst hg2; exact (hf.s1 152 _ (by omega) _).s0 9 (by omega) _
          have s2 : zu_s g2 T n (p' + 1) := by
            subst hg2
            obtain ⟨a1, a2, a3, a4, a5, a6⟩ := hs'
            refine ⟨a1, ?_, a3, ?_, ?_, t_c_r_lt (T := T) (f_w_c (by omega))⟩
            · rw [zr_si1, if_neg (by omega), zr_si1, if_neg (by omega)]; exact a2
            · intro k hk
              rw [zr_si1, if_neg (by omega), zr_si1, if_neg (by omega)]
              exact a4 k hk
            · rw [zr_si1, if_pos ⟨rfl, rfl⟩]
          have k2 : g2.1 152 6 = nI (ks ||| 2 ^ f_w (t_c T n (.inr p'))) := by subst hg2; rw [zr_si1, if_neg (by omega), zr_si1, if_pos ⟨rfl, rfl⟩]
          have o2 : ∀ k, k < 6 → g2.1 152 k = h.1 152 k := fun k hk => by subst hg2; rw [zr_si1, if_neg (by omega), zr_si1, if_neg (by omega)]; exact h6 k hk
          clear hg2
          refine k_Mo_here s2 ?_
          simp only [↓zq, ↓reduceIte, zr_si2, zr_sr1, zr_cp2, zr_tl, zr_tn, shq, List.contains_nil, List.contains_cons, Nat.reduceBEq, Bool.false_or, Bool.or_false, Bool.true_or, Bool.false_eq_true, if_false, if_true, true_and, and_true, List.set_cons_zero, List.set_cons_succ, List.length_cons, List.length_nil, Nat.reduceAdd, Nat.reduceLeDiff, Nat.le_refl, Nat.zero_le, true_or, or_true, zn_cl, ↓jj_Mo_readsParts]
          refine k_Mo_partOf s2.c_le ?_
          simp only [↓zq, ↓reduceIte, zr_si2, zr_sr1, zr_cp2, zr_tl, zr_tn, shq, List.contains_nil, List.contains_cons, Nat.reduceBEq, Bool.false_or, Bool.or_false, Bool.true_or, Bool.false_eq_true, if_false, if_true, true_and, and_true, List.set_cons_zero, List.set_cons_succ, List.length_cons, List.length_nil, Nat.reduceAdd, Nat.reduceLeDiff, Nat.le_refl, Nat.zero_le, true_or, or_true, zn_cl, ↓jj_Mo_readsParts]
          refine ih _ (p' + 1) g2 f2 s2 k2 (Nat.or_lt_two_pow (n := 4) hk16 p16) (Or.inr ?_) o2 (by omega) he
          intro z
          have : 2 ^ f_w (t_c T n (.inr p')) ≤ ks ||| 2 ^ f_w (t_c T n (.inr p')) := Nat.right_le_or
          have h2 : 0 < 2 ^ f_w (t_c T n (.inr p')) := Nat.two_pow_pos _
          omega
      · rw [if_neg hw4] at he
        have ks0 : ks ≠ 0 := by
          rcases hor with z | z
          · exact absurd z hw4
          · exact z
        have ew : zt_p (f_w (t_c T n (.inr p'))) = -1 := if_neg hw4
        have e : f_pe T n (.inr p) = .inr p' := by
          unfold f_pe
          rw [he]
          dsimp only
          rw [if_neg ks0]
        rw [he] at hg
        rw [ew]
        refine zm_go g_Mo_readsParts [31] 30 (by decide +kernel) ok_Mo_readsParts _ rfl ?_
        simp only [↓zq, ↓reduceIte, zr_si2, zr_sr1, zr_cp2, zr_tl, zr_tn, shq, List.contains_nil, List.contains_cons, Nat.reduceBEq, Bool.false_or, Bool.or_false, Bool.true_or, Bool.false_eq_true, if_false, if_true, true_and, and_true, List.set_cons_zero, List.set_cons_succ, List.length_cons, List.length_nil, Nat.reduceAdd, Nat.reduceLeDiff, Nat.le_refl, Nat.zero_le, true_or, or_true, zn_cl, ↓jj_Mo_readsParts]
        simp only [not_false_eq_true, not_true_eq_false, false_imp_iff, true_imp_iff, forall_const, and_true, true_and, and_self, false_or, or_false, Int32.reduceLT, Int32.reduceLE, Int32.reduceSub, Int32.reduceAdd]
        exact hg p' e g hf hs' hk h6
  refine st_Mo_readsParts [31] 30 ?_
  simp only [↓zq, ↓reduceIte, zr_si2, zr_sr1, zr_cp2, zr_tl, zr_tn, shq, List.contains_nil, List.contains_cons, Nat.reduceBEq, Bool.false_or, Bool.or_false, Bool.true_or, Bool.false_eq_true, if_false, if_true, true_and, and_true, List.set_cons_zero, List.set_cons_succ, List.length_cons, List.length_nil, Nat.reduceAdd, Nat.reduceLeDiff, Nat.le_refl, Nat.zero_le, true_or, or_true, zn_cl, ↓jj_Mo_readsParts, q34, v6]
  have f1 := (zu_f.rf h).s1 152 6 (by omega) 0
  have s1 : zu_s (zm_si h 152 6 0) T n p := zu_s_i hs rfl (by rw [zr_si1, if_neg (by omega)]) (by rw [zr_si1, if_neg (by omega)]) (by funext t; rw [zr_si1, if_neg (by omega)])
  have s5 := s1.2.2.2.2.1
  refine k_Mo_here s1 ?_
  simp only [↓zq, ↓reduceIte, zr_si2, zr_sr1, zr_cp2, zr_tl, zr_tn, shq, List.contains_nil, List.contains_cons, Nat.reduceBEq, Bool.false_or, Bool.or_false, Bool.true_or, Bool.false_eq_true, if_false, if_true, true_and, and_true, List.set_cons_zero, List.set_cons_succ, List.length_cons, List.length_nil, Nat.reduceAdd, Nat.reduceLeDiff, Nat.le_refl, Nat.zero_le, true_or, or_true, zn_cl, ↓jj_Mo_readsParts]
  refine k_Mo_partOf s1.c_le ?_
  by_cases hw4 : f_w (t_c T n (.inr p)) < 4
  · have ew : zt_p (f_w (t_c T n (.inr p))) = nI (f_w (t_c T n (.inr p))) := if_pos hw4
    have nm : ¬ nI (f_w (t_c T n (.inr p))) = -1 := fun z => absurd (show nI (f_w (t_c T n (.inr p))) < 0 by rw [z]; decide) (nI_pos (by omega))
    have nm' : ¬ zt_p (f_w (t_c T n (.inr p))) = -1 := by rw [ew]; exact nm
    simp only [↓zq, ↓reduceIte, zr_si2, zr_sr1, zr_cp2, zr_tl, zr_tn, shq, List.contains_nil, List.contains_cons, Nat.reduceBEq, Bool.false_or, Bool.or_false, Bool.true_or, Bool.false_eq_true, if_false, if_true, true_and, and_true, List.set_cons_zero, List.set_cons_succ, List.length_cons, List.length_nil, Nat.reduceAdd, Nat.reduceLeDiff, Nat.le_refl, Nat.zero_le, true_or, or_true, zn_cl, ↓jj_Mo_readsParts, nm']
    simp only [not_false_eq_true, not_true_eq_false, false_imp_iff, true_imp_iff, forall_const, and_true, true_and, and_self, false_or, or_false, Int32.reduceLT, Int32.reduceLE, Int32.reduceSub, Int32.reduceAdd]
    refine loop 80 0 p _ f1 s1 ?_ (by decide) (Or.inl hw4) (fun k hk => ?_) hn rfl
    · rw [zr_si1, if_pos ⟨rfl, rfl⟩]; rfl
    · rw [zr_si1, if_neg (by omega)]
  · have ew : zt_p (f_w (t_c T n (.inr p))) = -1 := if_neg hw4
    rw [ew]
    simp only [↓zq, ↓reduceIte, zr_si2, zr_sr1, zr_cp2, zr_tl, zr_tn, shq, List.contains_nil, List.contains_cons, Nat.reduceBEq, Bool.false_or, Bool.or_false, Bool.true_or, Bool.false_eq_true, if_false, if_true, true_and, and_true, List.set_cons_zero, List.set_cons_succ, List.length_cons, List.length_nil, Nat.reduceAdd, Nat.reduceLeDiff, Nat.le_refl, Nat.zero_le, true_or, or_true, zn_cl, ↓jj_Mo_readsParts, s5]
    simp only [not_false_eq_true, not_true_eq_false, false_imp_iff, true_imp_iff, forall_const, and_true, true_and, and_self, false_or, or_false, Int32.reduceLT, Int32.reduceLE, Int32.reduceSub, Int32.reduceAdd]
    refine k_Mo_wrongAt (f := 1) (q := p) ?_
    simp only [↓zq, ↓reduceIte, zr_si2, zr_sr1, zr_cp2, zr_tl, zr_tn, shq, List.contains_nil, List.contains_cons, Nat.reduceBEq, Bool.false_or, Bool.or_false, Bool.true_or, Bool.false_eq_true, if_false, if_true, true_and, and_true, List.set_cons_zero, List.set_cons_succ, List.length_cons, List.length_nil, Nat.reduceAdd, Nat.reduceLeDiff, Nat.le_refl, Nat.zero_le, true_or, or_true, zn_cl, ↓jj_Mo_readsParts]
    obtain ⟨f3, g3⟩ := zu_n_11 (zm_si h 152 6 0) (t_an (1, p))
    refine hb (1, p) ?_ _ (f1.tr f3.f) g3
    unfold f_pe
    rw [f_pt_s T n 79 0 (.inr p), if_neg hw4]
    rfl
