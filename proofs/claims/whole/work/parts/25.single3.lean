/-! tallySingled, on -/
theorem zc_met_skip {I : Nat → Nat → Int32} {t : Nat} {sp q : Nat → Nat} {F : zs_F} (hM : ∀ f, f < F.1 → F.2.2 f < 100) {g : Nat} (hg : g < F.1) (hn : ¬ zs_let q (F.2.1 g) = true) (h : zc_met I t sp q F (zs_rk2 F.2.2 F.1 g)) : zc_met I t sp q F (zs_rk2 F.2.2 F.1 g + 1) := by
  intro k hk
  have h1 := h k hk
  have e : ∀ m, zs_ct sp q F (zs_rk2 F.2.2 F.1 g + 1) k m F.1 = zs_ct sp q F (zs_rk2 F.2.2 F.1 g) k m F.1 := zs_met_o hM hg (fun z => hn z.1)
  simp only [zs_cp, e] at h1 ⊢
  exact h1
/-- a step changes what is met at its key alone -/
theorem zc_met_step {I J : Nat → Nat → Int32} {t : Nat} {sp q : Nat → Nat} {F : zs_F} (hM : ∀ f, f < F.1 → F.2.2 f < 100) {g : Nat} (hg : g < F.1) (h : zc_met I t sp q F (zs_rk2 F.2.2 F.1 g)) (ho : ∀ k, k ≠ zs_key sp q (F.2.1 g) → J 35 k = I 35 k ∧ J (t + 5) k = I (t + 5) k)
    (hk : (zs_key sp q (F.2.1 g)) < 512 → if q 6 = 5 then ((∀ m, zs_ct sp q F (zs_rk2 F.2.2 F.1 g + 1) (zs_key sp q (F.2.1 g)) m F.1 = 0) → J 35 (zs_key sp q (F.2.1 g)) = 0) ∧ ((∃ m, zs_ct sp q F (zs_rk2 F.2.2 F.1 g + 1) (zs_key sp q (F.2.1 g)) m F.1 ≠ 0) → ∃ mu, zs_ct sp q F (zs_rk2 F.2.2 F.1 g + 1) (zs_key sp q (F.2.1 g)) mu F.1 ≠ 0 ∧ mu < 100 ∧ (∀ m, zs_ct sp q F (zs_rk2 F.2.2 F.1 g + 1) (zs_key sp q (F.2.1 g)) m F.1 ≠ 0 → m ≤ mu) ∧ J 35 (zs_key sp q (F.2.1 g)) = nI (mu + 1) ∧ J (t + 5) (zs_key sp q (F.2.1 g)) = nI (zs_some (fun m => zs_ct sp q F (zs_rk2 F.2.2 F.1 g + 1) (zs_key sp q (F.2.1 g)) m F.1) 100)) else (J 35 (zs_key sp q (F.2.1 g)) = nI (zs_cp sp q F (zs_rk2 F.2.2 F.1 g + 1) (zs_key sp q (F.2.1 g))) ∧ ((zs_cnt sp q F 0 F.1 (zs_key sp q (F.2.1 g)) + 1) / 2 ≤ zs_cp sp q F (zs_rk2 F.2.2 F.1 g + 1) (zs_key sp q (F.2.1 g)) → zs_cnt sp q F 0 F.1 (zs_key sp q (F.2.1 g)) ≠ 0 → J (t + 5) (zs_key sp q (F.2.1 g)) = nI (zs_md (fun m => zs_tm sp q F (zs_key sp q (F.2.1 g)) m F.1) ((zs_cnt sp q F 0 F.1 (zs_key sp q (F.2.1 g)) + 1) / 2))))) : zc_met J t sp q F (zs_rk2 F.2.2 F.1 g + 1) := by
  intro k hk5
  by_cases e : k = zs_key sp q (F.2.1 g)
  · subst e
    exact hk hk5
  · have h1 := h k hk5
    have e2 : ∀ m, zs_ct sp q F (zs_rk2 F.2.2 F.1 g + 1) k m F.1 = zs_ct sp q F (zs_rk2 F.2.2 F.1 g) k m F.1 := zs_met_o hM hg (fun z => e z.2.symm)
    obtain ⟨o1, o2⟩ := ho k e
    simp only [zs_cp, e2] at h1 ⊢
    rw [o1, o2]
    exact h1
set_option maxHeartbeats 4000000 in
set_option maxRecDepth 100000 in
theorem k_Facts_tallySingled {d : Nat} {h : zm_M} {R : zm_R} {F : zs_F} {t : Nat} {sp q : Nat → Nat} {tab : zs_tb} (hp : zp_ok h.2) (hF : zc_F h.1 F) (hw : zw_F F) (hkt : zk_tab h.2 t) (hT : zc_T h.1 t tab) (hcnt : ∀ k, (tab k).1 = zs_cnt sp q F 0 F.1 k) (ht : 72 < t) (hr : zc_R h.1 70 q) (hq6 : h.1 70 3 = nI (q 6)) (hwr : zw_R q) (hqw : q 6 = 5 ∨ q 6 = 6) (hsp : zc_S h.1 sp) (hs : zw_S sp) (hR : ∀ h' : zm_M, zc_f3 t h h' → (∀ k, k < 512 → zs_cnt sp q F 0 F.1 k ≠ 0 → h'.1 (t + 5) k = nI (zs_sg sp q F k)) → R none h') : zm_C (d + 4) TT m_Facts_tallySingled [.inr (some 30), .inr (some t), .inr (some 70), .inr (some 28)] h R := by
  have hw1 := hw.1
  have hM : ∀ f, f < F.1 → F.2.2 f < 100 := fun f hf => (zw_F_at hw hf).2.2.2.1
  have p5 := (zp_30 hp).2.2.2.2
  have p3 := (zp_30 hp).2.2.1
  have kt0 := hkt.1
  have keep : ∀ g : zm_M, zc_f3 t h g → zp_ok g.2 ∧ zc_F g.1 F ∧ zk_tab g.2 t ∧ zc_T g.1 t tab ∧ zc_R g.1 70 q ∧ g.1 70 3 = nI (q 6) ∧ zc_S g.1 sp ∧ g.2 30 3 = some 33 := by
    intro g e
    refine ⟨by rw [e.1]; exact hp, ?_, by rw [e.1]; exact hkt, zc_T_fr hT (fun a a1 a2 => e.2 a (by omega)), zc_R_fr hr (e.2 71 (by omega)) (e.2 72 (by omega)), by rw [e.2 70 (by omega)]; exact hq6, ?_, by rw [e.1]; exact p3⟩
    · unfold zc_F
      rw [e.2 30 (by omega), e.2 31 (by omega), e.2 32 (by omega)]
      exact hF
    · unfold zc_S
      rw [e.2 29 (by omega)]
      exact hsp
  have fin : ∀ g : zm_M, zc_f3 t h g → zc_met g.1 t sp q F F.1 → R none g := by
    intro g e1 e2
    refine hR g e1 (fun k hk hc => ?_)
    have h1 := e2 k hk
    have ea : ∀ m, zs_ct sp q F F.1 k m F.1 = zs_tm sp q F k m F.1 := fun m => zs_ct_all sp q hM k m F.1 (Nat.le_refl _)
    have ec := zs_tm_cum sp q hM k F.1 (Nat.le_refl _)
    unfold zs_sg
    simp only [zs_cp, ea] at h1
    by_cases e5 : q 6 = 5
    · rw [if_pos e5] at h1 ⊢
      refine (h1.2 ?_).elim (fun mu hh => hh.2.2.2.2)
      refine Classical.byContradiction (fun hno => ?_)
      have : ∀ m, zs_tm sp q F k m F.1 = 0 := fun m => Classical.byContradiction (fun z => hno ⟨m, z⟩)
      rw [zs_cum_zero 100 (fun _ _ => trivial) this] at ec
      omega
    · rw [if_neg e5] at h1 ⊢
      rw [ec] at h1 ⊢
      exact h1.2 (by omega) hc
  have loop : ∀ (n i : Nat), i + n = F.1 → ∀ (g : zm_M) (o1 o2 o3 : Option zm_V), zc_f3 t h g → (∀ f, f < F.1 → g.1 33 (zs_rk2 F.2.2 F.1 f) = nI f) → zc_met g.1 t sp q F i → zm_W (zm_md m_Facts_tallySingled) (d + 4) TT R 15 [some (.inr (some 30)), some (.inr (some t)), some (.inr (some 70)), some (.inr (some 28)), some (.inl (nI i)), o1, o2, o3] [] g := by
    intro n
    induction n with
    | zero =>
      intro i hi g o1 o2 o3 e1 e2 e3
      have : i = F.1 := by omega
      subst this
      obtain ⟨-, f1, -⟩ := keep g e1
      have f1 := f1.1
      refine zm_go g_Facts_tallySingled [15] 30 (by decide +kernel) ok_Facts_tallySingled _ rfl ?_
      simp only [↓zq, ↓reduceIte, zr_si2, zr_sr1, zr_cp2, zr_tl, zr_tn, shq, List.contains_nil, List.contains_cons, Nat.reduceBEq, Bool.false_or, Bool.or_false, Bool.true_or, Bool.false_eq_true, if_false, if_true, true_and, and_true, List.set_cons_zero, List.set_cons_succ, List.length_cons, List.length_nil, Nat.reduceAdd, Nat.reduceLeDiff, Nat.le_refl, Nat.zero_le, true_or, or_true, zn_cl, ↓jj_Facts_tallySingled, f1]
      exact ⟨fun _ => fin g e1 e3, fun z => absurd (Int32.le_refl _) z⟩
    | succ n ih =>
      intro i hi g o1 o2 o3 e1 e2 e3
      obtain ⟨c1, c2, c3, c4, c5, c6, c7, c8⟩ := keep g e1
      obtain ⟨f, hf, hfi⟩ := zs_rk2_hit (M := 100) hM (show i < F.1 by omega)
      obtain ⟨a0, a1, a2, a3, a4⟩ := zw_F_at hw hf
      have f1 := c2.1
      have b1 := e2 f hf
      rw [hfi] at b1
      have hv : vp_in (nI i) 240 := vp_in_nI (by omega) (by decide)
      have hcl := nI_clamp (show i < 2 ^ 31 by omega)
      have hk5 := zs_key_lt (row := q) hs a0 a1 a2
      have ih := ih (i + 1) (by omega)
      have k70 := (zk_cutQ c1).1
      refine zm_go g_Facts_tallySingled [15] 30 (by decide +kernel) ok_Facts_tallySingled _ rfl ?_
      simp only [↓zq, ↓reduceIte, zr_si2, zr_sr1, zr_cp2, zr_tl, zr_tn, shq, List.contains_nil, List.contains_cons, Nat.reduceBEq, Bool.false_or, Bool.or_false, Bool.true_or, Bool.false_eq_true, if_false, if_true, true_and, and_true, List.set_cons_zero, List.set_cons_succ, List.length_cons, List.length_nil, Nat.reduceAdd, Nat.reduceLeDiff, Nat.le_refl, Nat.zero_le, true_or, or_true, zn_cl, ↓jj_Facts_tallySingled, f1, c8, hv, hcl, b1, nI_1]
      refine ⟨fun z => absurd z (nI_ge (by omega) (by omega)), fun _ => ⟨fun z => absurd z (nI_ge (b := 240) (by omega) (by decide)), fun _ => ?_⟩⟩
      refine k_Facts_tripleAt c1 (by omega) ?_
      simp only [↓zq, ↓reduceIte, zr_si2, zr_sr1, zr_cp2, zr_tl, zr_tn, shq, List.contains_nil, List.contains_cons, Nat.reduceBEq, Bool.false_or, Bool.or_false, Bool.true_or, Bool.false_eq_true, if_false, if_true, true_and, and_true, List.set_cons_zero, List.set_cons_succ, List.length_cons, List.length_nil, Nat.reduceAdd, Nat.reduceLeDiff, Nat.le_refl, Nat.zero_le, true_or, or_true, zn_cl, ↓jj_Facts_tallySingled, f1, c8, hv, hcl, b1, nI_1]
      rw [(c2.2 f hf).1]
      refine k_Cut_letsTriple (zk_cutQ c1) c5 hwr a0 a1 a2 ?_
      cases el : zs_let q (F.2.1 f)
      · simp only [↓zq, ↓reduceIte, zr_si2, zr_sr1, zr_cp2, zr_tl, zr_tn, shq, List.contains_nil, List.contains_cons, Nat.reduceBEq, Bool.false_or, Bool.or_false, Bool.true_or, Bool.false_eq_true, if_false, if_true, true_and, and_true, List.set_cons_zero, List.set_cons_succ, List.length_cons, List.length_nil, Nat.reduceAdd, Nat.reduceLeDiff, Nat.le_refl, Nat.zero_le, true_or, or_true, zn_cl, ↓jj_Facts_tallySingled, f1, c8, hv, hcl, b1, nI_1]
        refine ⟨fun z => absurd trivial z, fun _ => ih g _ _ _ e1 e2 ?_⟩
        rw [← hfi]
        rw [← hfi] at e3
        exact zc_met_skip hM hf (by rw [el]; decide) e3
      · simp only [↓zq, ↓reduceIte, zr_si2, zr_sr1, zr_cp2, zr_tl, zr_tn, shq, List.contains_nil, List.contains_cons, Nat.reduceBEq, Bool.false_or, Bool.or_false, Bool.true_or, Bool.false_eq_true, if_false, if_true, true_and, and_true, List.set_cons_zero, List.set_cons_succ, List.length_cons, List.length_nil, Nat.reduceAdd, Nat.reduceLeDiff, Nat.le_refl, Nat.zero_le, true_or, or_true, zn_cl, ↓jj_Facts_tallySingled, f1, c8, hv, hcl, b1, nI_1]
        refine ⟨fun _ => ?_, fun z => absurd z (by decide)⟩
        refine k_Shape_keyOf (zk_shp28 c1) c7 hs (zk_cutQ c1) c5 hwr a0 a1 a2 ?_
        simp only [↓zq, ↓reduceIte, zr_si2, zr_sr1, zr_cp2, zr_tl, zr_tn, shq, List.contains_nil, List.contains_cons, Nat.reduceBEq, Bool.false_or, Bool.or_false, Bool.true_or, Bool.false_eq_true, if_false, if_true, true_and, and_true, List.set_cons_zero, List.set_cons_succ, List.length_cons, List.length_nil, Nat.reduceAdd, Nat.reduceLeDiff, Nat.le_refl, Nat.zero_le, true_or, or_true, zn_cl, ↓jj_Facts_tallySingled, f1, c8, hv, hcl, b1, nI_1]
        refine k_Facts_measureAt c1 (by omega) ?_
        rw [(c2.2 f hf).2]
        simp only [↓zq, ↓reduceIte, zr_si2, zr_sr1, zr_cp2, zr_tl, zr_tn, shq, List.contains_nil, List.contains_cons, Nat.reduceBEq, Bool.false_or, Bool.or_false, Bool.true_or, Bool.false_eq_true, if_false, if_true, true_and, and_true, List.set_cons_zero, List.set_cons_succ, List.length_cons, List.length_nil, Nat.reduceAdd, Nat.reduceLeDiff, Nat.le_refl, Nat.zero_le, true_or, or_true, zn_cl, ↓jj_Facts_tallySingled, f1, c8, hv, hcl, b1, nI_1, c6]
        rw [show (5 : Int32) = nI 5 from rfl, zn_eq (by omega) (by decide)]
        subst hfi
        obtain ⟨s1, s2, s3, s4⟩ := zs_met_s (sp := sp) hM hf ⟨el, rfl⟩
        have met := e3 (zs_key sp q (F.2.1 f)) hk5
        -- the memory behind a step
        have go : ∀ (J : zm_M), J.2 = g.2 → (∀ a, ¬ a = 35 → ¬ a = t + 5 → J.1 a = g.1 a) → (∀ k, k ≠ zs_key sp q (F.2.1 f) → J.1 35 k = g.1 35 k ∧ J.1 (t + 5) k = g.1 (t + 5) k) → _ → ∀ o1 o2 o3, zm_W (zm_md m_Facts_tallySingled) (d + 4) TT R 15 [some (.inr (some 30)), some (.inr (some t)), some (.inr (some 70)), some (.inr (some 28)), some (.inl (nI (zs_rk2 F.2.2 F.1 f + 1))), o1, o2, o3] [] J := fun J j1 j2 j3 j4 o1 o2 o3 => ih J o1 o2 o3 ⟨j1.trans e1.1, fun a ha => (j2 a (by omega) (by omega)).trans (e1.2 a ha)⟩ (fun x hx => by rw [j2 33 (by omega) (by omega)]; exact e2 x hx) (zc_met_step hM hf e3 j3 j4)
        refine ⟨fun z => ?_, fun z => ?_⟩
        · -- the middle
          rw [if_neg z] at met
          have hcp := zs_cp_le sp q hM (zs_rk2 F.2.2 F.1 f) (zs_key sp q (F.2.1 f))
          have hcp1 := zs_cp_le sp q hM (zs_rk2 F.2.2 F.1 f + 1) (zs_key sp q (F.2.1 f))
          have hcn := zs_cnt_le sp q F 0 (zs_key sp q (F.2.1 f)) F.1
          refine k_Facts_meetMiddle (c := zs_cnt sp q F 0 F.1 (zs_key sp q (F.2.1 f))) c1 c3 hk5 ht (by rw [(c4.1 _ hk5).1, hcnt]) (by omega) met.1 (by omega) (fun z2 => ?_) (fun z2 => ?_)
          · simp only [↓zq, ↓reduceIte, zr_si2, zr_sr1, zr_cp2, zr_tl, zr_tn, shq, List.contains_nil, List.contains_cons, Nat.reduceBEq, Bool.false_or, Bool.or_false, Bool.true_or, Bool.false_eq_true, if_false, if_true, true_and, and_true, List.set_cons_zero, List.set_cons_succ, List.length_cons, List.length_nil, Nat.reduceAdd, Nat.reduceLeDiff, Nat.le_refl, Nat.zero_le, true_or, or_true, zn_cl, ↓jj_Facts_tallySingled, nI_1]
            refine go _ (by rfl) (fun a x1 x2 => ?_) (fun k hk => ?_) (fun _ => ?_) _ _ _
            · funext j
              simp only [zr_si1]
              rw [if_neg (by omega), if_neg (by omega)]
            · simp only [zr_si1]
              rw [if_neg (by omega), if_neg (by omega), if_neg (by omega), if_neg (by omega)]
              exact ⟨rfl, rfl⟩
            · rw [if_neg z, s4]
              simp only [zr_si1]
              rw [if_neg (by omega), if_pos ⟨trivial, trivial⟩, if_pos ⟨trivial, trivial⟩]
              refine ⟨rfl, fun _ hc => ?_⟩
              rw [zs_md_eq a3]
              · have e1' : zs_cum (fun m => zs_tm sp q F (zs_key sp q (F.2.1 f)) m F.1) (F.2.2 f) = zs_cum (fun m => zs_ct sp q F (zs_rk2 F.2.2 F.1 f) (zs_key sp q (F.2.1 f)) m F.1) (F.2.2 f) := zs_cum_congr _ (fun j hj => (s3 j hj).symm)
                have e2' := zs_cum_mono (fun m => zs_ct sp q F (zs_rk2 F.2.2 F.1 f) (zs_key sp q (F.2.1 f)) m F.1) (F.2.2 f) (100 - F.2.2 f)
                rw [show F.2.2 f + (100 - F.2.2 f) = 100 by omega] at e2'
                have e3' : zs_cp sp q F (zs_rk2 F.2.2 F.1 f) (zs_key sp q (F.2.1 f)) = zs_cum (fun m => zs_ct sp q F (zs_rk2 F.2.2 F.1 f) (zs_key sp q (F.2.1 f)) m F.1) 100 := rfl
                omega
              · have e1' := zs_cum_le (fun m => zs_ct_le sp q F (zs_rk2 F.2.2 F.1 f + 1) (zs_key sp q (F.2.1 f)) m F.1) (F.2.2 f + 1)
                have e2' := zs_cum_from (t := fun m => zs_ct sp q F (zs_rk2 F.2.2 F.1 f + 1) (zs_key sp q (F.2.1 f)) m F.1) (m0 := F.2.2 f + 1) (fun j hj => by
                  rw [s1, if_neg (by omega), Nat.add_zero]
                  refine Classical.byContradiction (fun zz => ?_)
                  have := s2 j zz
                  omega) (100 - (F.2.2 f + 1))
                rw [show F.2.2 f + 1 + (100 - (F.2.2 f + 1)) = 100 by omega] at e2'
                have e3' : zs_cp sp q F (zs_rk2 F.2.2 F.1 f + 1) (zs_key sp q (F.2.1 f)) = zs_cum (fun m => zs_ct sp q F (zs_rk2 F.2.2 F.1 f + 1) (zs_key sp q (F.2.1 f)) m F.1) 100 := rfl
                omega
          · simp only [↓zq, ↓reduceIte, zr_si2, zr_sr1, zr_cp2, zr_tl, zr_tn, shq, List.contains_nil, List.contains_cons, Nat.reduceBEq, Bool.false_or, Bool.or_false, Bool.true_or, Bool.false_eq_true, if_false, if_true, true_and, and_true, List.set_cons_zero, List.set_cons_succ, List.length_cons, List.length_nil, Nat.reduceAdd, Nat.reduceLeDiff, Nat.le_refl, Nat.zero_le, true_or, or_true, zn_cl, ↓jj_Facts_tallySingled, nI_1]
            refine go _ (by rfl) (fun a x1 x2 => ?_) (fun k hk => ?_) (fun _ => ?_) _ _ _
            · funext j
              simp only [zr_si1]
              rw [if_neg (by omega)]
            · simp only [zr_si1]
              rw [if_neg (by omega), if_neg (by omega)]
              exact ⟨rfl, rfl⟩
            · rw [if_neg z, s4]
              simp only [zr_si1]
              rw [if_pos ⟨trivial, trivial⟩, if_neg (by omega)]
              exact ⟨rfl, fun h1 hc => met.2 (by omega) hc⟩
        · -- unlike ones
          rw [if_pos z] at met
          have hs0 : zs_ct sp q F (zs_rk2 F.2.2 F.1 f + 1) (zs_key sp q (F.2.1 f)) (F.2.2 f) F.1 ≠ 0 := by rw [s1, if_pos rfl]; omega
          have hmax : ∀ m, zs_ct sp q F (zs_rk2 F.2.2 F.1 f + 1) (zs_key sp q (F.2.1 f)) m F.1 ≠ 0 → m ≤ F.2.2 f := fun m hm => by
            by_cases e : m = F.2.2 f
            · omega
            · rw [s1, if_neg e, Nat.add_zero] at hm
              exact s2 m hm
          have oth : ∀ j, j ≠ F.2.2 f → (zs_ct sp q F (zs_rk2 F.2.2 F.1 f) (zs_key sp q (F.2.1 f)) j F.1 = 0 ↔ zs_ct sp q F (zs_rk2 F.2.2 F.1 f + 1) (zs_key sp q (F.2.1 f)) j F.1 = 0) := fun j hj => by rw [s1, if_neg hj, Nat.add_zero]
          refine k_Facts_meetUnlike c1 c3 hk5 (fun z2 => ?_) (fun z2 z3 => ?_) (fun z2 z3 => ?_)
          · simp only [↓zq, ↓reduceIte, zr_si2, zr_sr1, zr_cp2, zr_tl, zr_tn, shq, List.contains_nil, List.contains_cons, Nat.reduceBEq, Bool.false_or, Bool.or_false, Bool.true_or, Bool.false_eq_true, if_false, if_true, true_and, and_true, List.set_cons_zero, List.set_cons_succ, List.length_cons, List.length_nil, Nat.reduceAdd, Nat.reduceLeDiff, Nat.le_refl, Nat.zero_le, true_or, or_true, zn_cl, ↓jj_Facts_tallySingled, nI_1]
            have hno : ∀ m, zs_ct sp q F (zs_rk2 F.2.2 F.1 f) (zs_key sp q (F.2.1 f)) m F.1 = 0 := fun m => Classical.byContradiction (fun zz => by
              obtain ⟨mu, -, m1, -, m2, -⟩ := met.2 ⟨m, zz⟩
              rw [m2] at z2
              exact absurd z2 (nI_ne0 (by omega) (by omega)))
            refine go _ (by rfl) (fun a x1 x2 => ?_) (fun k hk => ?_) (fun _ => ?_) _ _ _
            · funext j
              simp only [zr_si1]
              rw [if_neg (by omega), if_neg (by omega)]
            · simp only [zr_si1]
              rw [if_neg (by omega), if_neg (by omega), if_neg (by omega), if_neg (by omega)]
              exact ⟨rfl, rfl⟩
            · rw [if_pos z]
              refine ⟨fun hh => absurd (hh (F.2.2 f)) hs0, fun _ => ⟨F.2.2 f, hs0, a3, hmax, ?_, ?_⟩⟩
              · simp only [zr_si1]
                rw [if_pos ⟨trivial, trivial⟩]
              · simp only [zr_si1]
                rw [if_neg (by omega), if_pos ⟨trivial, trivial⟩, zs_some_new (f := fun m => zs_ct sp q F (zs_rk2 F.2.2 F.1 f) (zs_key sp q (F.2.1 f)) m F.1) (k := F.2.2 f) (hno _) hs0 100 a3 (fun j _ hj => oth j hj), zs_some_pre (m := 0) (fun j hj => absurd hj (Nat.not_lt_zero j)) (fun j _ => hno j)]
                rfl
          · simp only [↓zq, ↓reduceIte, zr_si2, zr_sr1, zr_cp2, zr_tl, zr_tn, shq, List.contains_nil, List.contains_cons, Nat.reduceBEq, Bool.false_or, Bool.or_false, Bool.true_or, Bool.false_eq_true, if_false, if_true, true_and, and_true, List.set_cons_zero, List.set_cons_succ, List.length_cons, List.length_nil, Nat.reduceAdd, Nat.reduceLeDiff, Nat.le_refl, Nat.zero_le, true_or, or_true, zn_cl, ↓jj_Facts_tallySingled, nI_1]
            obtain ⟨mu, m0, m1, m3, m2, m4⟩ := met.2 (Classical.byContradiction (fun zz => z2 (met.1 (fun m => Classical.byContradiction (fun y => zz ⟨m, y⟩)))))
            have hmu : mu = F.2.2 f := by
              rw [m2] at z3
              have := (nI_eq (by omega) (by omega)).mp z3
              omega
            subst hmu
            refine go _ (by rfl) (fun a x1 x2 => ?_) (fun k hk => ?_) (fun _ => ?_) _ _ _
            · funext j
              simp only [zr_si1]
              rw [if_neg (by omega)]
            · simp only [zr_si1]
              rw [if_neg (by omega), if_neg (by omega)]
              exact ⟨rfl, rfl⟩
            · rw [if_pos z]
              refine ⟨fun hh => absurd (hh (F.2.2 f)) hs0, fun _ => ⟨F.2.2 f, hs0, a3, hmax, ?_, ?_⟩⟩
              · simp only [zr_si1]
                rw [if_pos ⟨trivial, trivial⟩]
              · simp only [zr_si1]
                rw [if_neg (by omega), m4]
                refine congrArg nI (zs_some_congr 100 (fun j _ => ?_))
                by_cases e : j = F.2.2 f
                · rw [e]
                  exact ⟨fun y => absurd y m0, fun y => absurd y hs0⟩
                · exact oth j e
          · simp only [↓zq, ↓reduceIte, zr_si2, zr_sr1, zr_cp2, zr_tl, zr_tn, shq, List.contains_nil, List.contains_cons, Nat.reduceBEq, Bool.false_or, Bool.or_false, Bool.true_or, Bool.false_eq_true, if_false, if_true, true_and, and_true, List.set_cons_zero, List.set_cons_succ, List.length_cons, List.length_nil, Nat.reduceAdd, Nat.reduceLeDiff, Nat.le_refl, Nat.zero_le, true_or, or_true, zn_cl, ↓jj_Facts_tallySingled, nI_1]
            obtain ⟨mu, m0, m1, m3, m2, m4⟩ := met.2 (Classical.byContradiction (fun zz => z2 (met.1 (fun m => Classical.byContradiction (fun y => zz ⟨m, y⟩)))))
            have hz0 : zs_ct sp q F (zs_rk2 F.2.2 F.1 f) (zs_key sp q (F.2.1 f)) (F.2.2 f) F.1 = 0 := Classical.byContradiction (fun zz => by
              have y1 := m3 _ zz
              have y2 := s2 _ m0
              have : mu = F.2.2 f := by omega
              rw [m2, this] at z3
              exact z3 rfl)
            refine go _ (by rfl) (fun a x1 x2 => ?_) (fun k hk => ?_) (fun _ => ?_) _ _ _
            · funext j
              simp only [zr_si1]
              rw [if_neg (by omega), if_neg (by omega)]
            · simp only [zr_si1]
              rw [if_neg (by omega), if_neg (by omega), if_neg (by omega), if_neg (by omega)]
              exact ⟨rfl, rfl⟩
            · rw [if_pos z]
              refine ⟨fun hh => absurd (hh (F.2.2 f)) hs0, fun _ => ⟨F.2.2 f, hs0, a3, hmax, ?_, ?_⟩⟩
              · simp only [zr_si1]
                rw [if_pos ⟨trivial, trivial⟩]
              · simp only [zr_si1]
                rw [if_neg (by omega), if_pos ⟨trivial, trivial⟩, m4, zs_some_new (f := fun m => zs_ct sp q F (zs_rk2 F.2.2 F.1 f) (zs_key sp q (F.2.1 f)) m F.1) (k := F.2.2 f) hz0 hs0 100 a3 (fun j _ hj => oth j hj)]
                exact nI_1 _
  refine st_Facts_tallySingled [15] 30 ?_
  simp only [↓zq, ↓reduceIte, zr_si2, zr_sr1, zr_cp2, zr_tl, zr_tn, shq, List.contains_nil, List.contains_cons, Nat.reduceBEq, Bool.false_or, Bool.or_false, Bool.true_or, Bool.false_eq_true, if_false, if_true, true_and, and_true, List.set_cons_zero, List.set_cons_succ, List.length_cons, List.length_nil, Nat.reduceAdd, Nat.reduceLeDiff, Nat.le_refl, Nat.zero_le, true_or, or_true, zn_cl, ↓jj_Facts_tallySingled]
  refine k_Facts_sortByMeasure hp hF hw (fun g e1 e2 => ?_)
  have p5' : g.2 30 5 = some 35 := by rw [e1.1]; exact p5
  simp only [↓zq, ↓reduceIte, zr_si2, zr_sr1, zr_cp2, zr_tl, zr_tn, shq, List.contains_nil, List.contains_cons, Nat.reduceBEq, Bool.false_or, Bool.or_false, Bool.true_or, Bool.false_eq_true, if_false, if_true, true_and, and_true, List.set_cons_zero, List.set_cons_succ, List.length_cons, List.length_nil, Nat.reduceAdd, Nat.reduceLeDiff, Nat.le_refl, Nat.zero_le, true_or, or_true, zn_cl, ↓jj_Facts_tallySingled, p5']
  refine k_fill (n := 512) (by decide) (by decide) ?_
  simp only [↓zq, ↓reduceIte, zr_si2, zr_sr1, zr_cp2, zr_tl, zr_tn, shq, List.contains_nil, List.contains_cons, Nat.reduceBEq, Bool.false_or, Bool.or_false, Bool.true_or, Bool.false_eq_true, if_false, if_true, true_and, and_true, List.set_cons_zero, List.set_cons_succ, List.length_cons, List.length_nil, Nat.reduceAdd, Nat.reduceLeDiff, Nat.le_refl, Nat.zero_le, true_or, or_true, zn_cl, ↓jj_Facts_tallySingled, p5']
  refine loop F.1 0 (by omega) _ _ _ _ ⟨e1.1, fun a ha => ?_⟩ (fun f hf => ?_) (fun k hk => ?_)
  · rw [← e1.2 a (by omega)]
    funext j
    simp only [zm_fl]
    rw [if_neg (by omega)]
  · simp only [zm_fl]
    rw [if_neg (by omega)]
    exact e2 f hf
  · have hz : (zm_fl g 35 512 0).1 35 k = 0 := by
      simp only [zm_fl]
      rw [if_pos ⟨trivial, hk⟩]
    have h0 : ∀ m, zs_ct sp q F 0 k m F.1 = 0 := fun m => zs_ct_0 sp q F k m F.1
    have hc0 : zs_cp sp q F 0 k = 0 := zs_cum_zero 100 (fun _ _ => trivial) h0
    split
    · exact ⟨fun _ => hz, fun hh => hh.elim (fun m hm => absurd (h0 m) hm)⟩
    · rw [hc0]
      refine ⟨hz, fun hh hc => ?_⟩
      omega
