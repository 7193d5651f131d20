/-! summary, question (reference) -/
theorem f_e3_i {T : Nat → Nat} {n : Nat} {e : zt_S} {x : Nat × Nat} (h : e = .inl x) : f_e3 T n e = .inl x := f_lv_i (by decide) (f_lv_i (by decide) (f_lv_i (by decide) h))
theorem f_pe_i {T : Nat → Nat} {n : Nat} {e : zt_S} {x : Nat × Nat} (h : e = .inl x) : f_pe T n e = .inl x := by
  subst h
  unfold f_pe
  rw [f_pt_d]
  rfl
theorem f_ye_i {T : Nat → Nat} {n : Nat} {sp : Nat → Nat} {e : zt_S} {x : Nat × Nat} (h : f_pe T n (f_ym T n e) = .inl x) : f_ye T n sp e = .inl x := by
  unfold f_ye
  rw [h, f_ss_d]
  rfl
theorem f_qe_i {T : Nat → Nat} {n : Nat} {sp : Nat → Nat} {e : zt_S} {x : Nat × Nat} (h : f_e3 T n (f_qm T n e) = .inl x) : f_qe T n sp e = .inl x := by
  unfold f_qe
  rw [h, f_ss_d]
  rfl
set_option maxHeartbeats 4000000 in
set_option maxRecDepth 100000 in
theorem k_Mo_readsSummary {d : Nat} {h : zm_M} {R : zm_R} {T : Nat → Nat} {n : Nat} {sp : Nat → Nat} (u : Nat) (hp : zp_mo h.2) (hs : zu_s h T n 0) (hn : n ≤ 80) (hsp : zo_S h.1 sp) (hw : zw_S sp) (hb : ∀ x, f_ye T n sp (.inr 0) = .inl x → ∀ h' : zm_M, zu_f h h' → h'.1 133 11 = t_an x → R (some (.inl 0)) h') (hg : ∀ p', f_ye T n sp (.inr 0) = .inr p' → ∀ h' : zm_M, zu_f h h' → (∀ k, k < 7 → h'.1 152 k = nI (f_yr T n sp u (.inr 0) k)) → R (some (.inl 1)) h') : zm_C (d + 6) TT m_Mo_readsSummary [.inr (some 133)] h R := by
  refine st_Mo_readsSummary [] 30 ?_
  simp only [↓zq, ↓reduceIte, zr_si2, zr_sr1, zr_cp2, zr_tl, zr_tn, shq, List.contains_nil, List.contains_cons, Nat.reduceBEq, Bool.false_or, Bool.or_false, Bool.true_or, Bool.false_eq_true, if_false, if_true, true_and, and_true, List.set_cons_zero, List.set_cons_succ, List.length_cons, List.length_nil, Nat.reduceAdd, Nat.reduceLeDiff, Nat.le_refl, Nat.zero_le, true_or, or_true, zn_cl, ↓jj_Mo_readsSummary]
  refine k_Mo_readsLevels hp hs (fun x hx g f1 h11 => ?_) (fun e3 g1 f1 s1 l1 a1 => ?_)
  · simp only [↓zq, ↓reduceIte, zr_si2, zr_sr1, zr_cp2, zr_tl, zr_tn, shq, List.contains_nil, List.contains_cons, Nat.reduceBEq, Bool.false_or, Bool.or_false, Bool.true_or, Bool.false_eq_true, if_false, if_true, true_and, and_true, List.set_cons_zero, List.set_cons_succ, List.length_cons, List.length_nil, Nat.reduceAdd, Nat.reduceLeDiff, Nat.le_refl, Nat.zero_le, true_or, or_true, zn_cl, ↓jj_Mo_readsSummary]
    exact ⟨fun _ => hb x (f_ye_i (f_pe_i (t_tk_i (by decide) hx))) g f1 h11, fun z => (by first | exact absurd trivial z | exact absurd rfl z | exact absurd z (by decide))⟩
  · simp only [↓zq, ↓reduceIte, zr_si2, zr_sr1, zr_cp2, zr_tl, zr_tn, shq, List.contains_nil, List.contains_cons, Nat.reduceBEq, Bool.false_or, Bool.or_false, Bool.true_or, Bool.false_eq_true, if_false, if_true, true_and, and_true, List.set_cons_zero, List.set_cons_succ, List.length_cons, List.length_nil, Nat.reduceAdd, Nat.reduceLeDiff, Nat.le_refl, Nat.zero_le, true_or, or_true, zn_cl, ↓jj_Mo_readsSummary]
    refine ⟨fun z => absurd z (by decide), fun _ => ?_⟩
    refine k_Mo_takes (c := 58) s1 (by decide) (fun x hx g f2 h11 => ?_) (fun e4 g2 f2 s2 => ?_)
    · simp only [↓zq, ↓reduceIte, zr_si2, zr_sr1, zr_cp2, zr_tl, zr_tn, shq, List.contains_nil, List.contains_cons, Nat.reduceBEq, Bool.false_or, Bool.or_false, Bool.true_or, Bool.false_eq_true, if_false, if_true, true_and, and_true, List.set_cons_zero, List.set_cons_succ, List.length_cons, List.length_nil, Nat.reduceAdd, Nat.reduceLeDiff, Nat.le_refl, Nat.zero_le, true_or, or_true, zn_cl, ↓jj_Mo_readsSummary]
      exact ⟨fun _ => hb x (f_ye_i (f_pe_i (by unfold f_ym; rw [e3]; exact hx))) g (f1.tr f2.f) h11, fun z => (by first | exact absurd trivial z | exact absurd rfl z | exact absurd z (by decide))⟩
    · have em : f_ym T n (.inr 0) = .inr (0 + 3 + 1) := by unfold f_ym; rw [e3]; exact e4
      have f2' := f1.tr f2.f
      simp only [↓zq, ↓reduceIte, zr_si2, zr_sr1, zr_cp2, zr_tl, zr_tn, shq, List.contains_nil, List.contains_cons, Nat.reduceBEq, Bool.false_or, Bool.or_false, Bool.true_or, Bool.false_eq_true, if_false, if_true, true_and, and_true, List.set_cons_zero, List.set_cons_succ, List.length_cons, List.length_nil, Nat.reduceAdd, Nat.reduceLeDiff, Nat.le_refl, Nat.zero_le, true_or, or_true, zn_cl, ↓jj_Mo_readsSummary]
      refine ⟨fun z => absurd z (by decide), fun _ => ?_⟩
      refine k_Mo_readsParts (by rw [f2'.1]; exact hp) s2 (by omega) (fun x hx g f3 h11 => ?_) (fun p' hp' g3 f3 s3 k3 o3 => ?_)
      · simp only [↓zq, ↓reduceIte, zr_si2, zr_sr1, zr_cp2, zr_tl, zr_tn, shq, List.contains_nil, List.contains_cons, Nat.reduceBEq, Bool.false_or, Bool.or_false, Bool.true_or, Bool.false_eq_true, if_false, if_true, true_and, and_true, List.set_cons_zero, List.set_cons_succ, List.length_cons, List.length_nil, Nat.reduceAdd, Nat.reduceLeDiff, Nat.le_refl, Nat.zero_le, true_or, or_true, zn_cl, ↓jj_Mo_readsSummary]
        exact ⟨fun _ => hb x (f_ye_i (by rw [em]; exact hx)) g (f2'.tr f3) h11, fun z => (by first | exact absurd trivial z | exact absurd rfl z | exact absurd z (by decide))⟩
      · have f3' := f2'.tr f3
        simp only [↓zq, ↓reduceIte, zr_si2, zr_sr1, zr_cp2, zr_tl, zr_tn, shq, List.contains_nil, List.contains_cons, Nat.reduceBEq, Bool.false_or, Bool.or_false, Bool.true_or, Bool.false_eq_true, if_false, if_true, true_and, and_true, List.set_cons_zero, List.set_cons_succ, List.length_cons, List.length_nil, Nat.reduceAdd, Nat.reduceLeDiff, Nat.le_refl, Nat.zero_le, true_or, or_true, zn_cl, ↓jj_Mo_readsSummary]
        refine ⟨fun z => absurd z (by decide), fun _ => ?_⟩
        have ey : f_ye T n sp (.inr 0) = t_en n (f_ss T n sp 80 0 f_255 (.inr p')).2 := by unfold f_ye; rw [em, hp']
        refine k_Mo_readsSpans (sp := sp) (lets := f_255) (by rw [f3'.1]; exact hp) s3 hn (by unfold zo_S; rw [f3'.2.1 136 (by omega) (by omega) (by omega)]; exact hsp) hw (fun k hk => by rw [o3 _ (by omega), f2.2.1 152 (by omega)]; exact a1 k hk) (fun x hx g f4 h11 => ?_) (fun q' hq' g4 f4 l4 o4 => ?_)
        · simp only [↓zq, ↓reduceIte, zr_si2, zr_sr1, zr_cp2, zr_tl, zr_tn, shq, List.contains_nil, List.contains_cons, Nat.reduceBEq, Bool.false_or, Bool.or_false, Bool.true_or, Bool.false_eq_true, if_false, if_true, true_and, and_true, List.set_cons_zero, List.set_cons_succ, List.length_cons, List.length_nil, Nat.reduceAdd, Nat.reduceLeDiff, Nat.le_refl, Nat.zero_le, true_or, or_true, zn_cl, ↓jj_Mo_readsSummary]
          exact ⟨fun _ => hb x (by rw [ey]; exact hx) g (f3'.tr f4) h11, fun z => (by first | exact absurd trivial z | exact absurd rfl z | exact absurd z (by decide))⟩
        · simp only [↓zq, ↓reduceIte, zr_si2, zr_sr1, zr_cp2, zr_tl, zr_tn, shq, List.contains_nil, List.contains_cons, Nat.reduceBEq, Bool.false_or, Bool.or_false, Bool.true_or, Bool.false_eq_true, if_false, if_true, true_and, and_true, List.set_cons_zero, List.set_cons_succ, List.length_cons, List.length_nil, Nat.reduceAdd, Nat.reduceLeDiff, Nat.le_refl, Nat.zero_le, true_or, or_true, zn_cl, ↓jj_Mo_readsSummary]
          refine ⟨fun z => absurd z (by decide), fun _ => ?_⟩
          refine hg q' (by rw [ey]; exact hq') g4 (f3'.tr f4) (fun k hk => ?_)
          unfold f_yr
          by_cases z1 : k < 3
          · rw [if_pos z1, o4 k (by omega), o3 k (by omega), f2.2.1 152 (by omega)]
            exact l1 k z1
          · rw [if_neg z1]
            by_cases z2 : k < 6
            · rw [if_pos z2, em, hp']
              have := l4 (k - 3) (by omega)
              rw [show 3 + (k - 3) = k by omega] at this
              exact this
            · rw [if_neg z2, if_pos (by omega), show k = 6 by omega, o4 6 (by omega), em]
              exact k3
set_option maxHeartbeats 4000000 in
set_option maxRecDepth 100000 in
theorem k_Mo_readsQuestion {d : Nat} {h : zm_M} {R : zm_R} {T : Nat → Nat} {n : Nat} {sp : Nat → Nat} (hp : zp_mo h.2) (hs : zu_s h T n 0) (hn : n ≤ 80) (hsp : zo_S h.1 sp) (hw : zw_S sp) (hb : ∀ x, f_qe T n sp (.inr 0) = .inl x → ∀ h' : zm_M, zu_f h h' → h'.1 133 11 = t_an x → R (some (.inl 0)) h') (hg : ∀ p', f_qe T n sp (.inr 0) = .inr p' → ∀ h' : zm_M, zu_f h h' → (∀ k, k < 7 → h'.1 152 k = nI (f_qr T n sp (.inr 0) k)) → R (some (.inl 1)) h') : zm_C (d + 6) TT m_Mo_readsQuestion [.inr (some 133)] h R := by
  have s5 := hs.2.2.2.2.1
  have wl := f_w_le (t_c T n (.inr 0))
  refine st_Mo_readsQuestion [] 30 ?_
  simp only [↓zq, ↓reduceIte, zr_si2, zr_sr1, zr_cp2, zr_tl, zr_tn, shq, List.contains_nil, List.contains_cons, Nat.reduceBEq, Bool.false_or, Bool.or_false, Bool.true_or, Bool.false_eq_true, if_false, if_true, true_and, and_true, List.set_cons_zero, List.set_cons_succ, List.length_cons, List.length_nil, Nat.reduceAdd, Nat.reduceLeDiff, Nat.le_refl, Nat.zero_le, true_or, or_true, zn_cl, ↓jj_Mo_readsQuestion]
  refine k_Mo_here hs ?_
  simp only [↓zq, ↓reduceIte, zr_si2, zr_sr1, zr_cp2, zr_tl, zr_tn, shq, List.contains_nil, List.contains_cons, Nat.reduceBEq, Bool.false_or, Bool.or_false, Bool.true_or, Bool.false_eq_true, if_false, if_true, true_and, and_true, List.set_cons_zero, List.set_cons_succ, List.length_cons, List.length_nil, Nat.reduceAdd, Nat.reduceLeDiff, Nat.le_refl, Nat.zero_le, true_or, or_true, zn_cl, ↓jj_Mo_readsQuestion]
  refine k_Mo_whatOf hs.c_le ?_
  by_cases h7 : f_w (t_c T n (.inr 0)) = 7
  · have ew : zt_w (f_w (t_c T n (.inr 0))) = -1 := if_pos h7
    rw [ew]
    simp only [↓zq, ↓reduceIte, zr_si2, zr_sr1, zr_cp2, zr_tl, zr_tn, shq, List.contains_nil, List.contains_cons, Nat.reduceBEq, Bool.false_or, Bool.or_false, Bool.true_or, Bool.false_eq_true, if_false, if_true, true_and, and_true, List.set_cons_zero, List.set_cons_succ, List.length_cons, List.length_nil, Nat.reduceAdd, Nat.reduceLeDiff, Nat.le_refl, Nat.zero_le, true_or, or_true, zn_cl, ↓jj_Mo_readsQuestion, s5]
    simp only [not_false_eq_true, not_true_eq_false, false_imp_iff, true_imp_iff, forall_const, and_true, true_and, and_self, false_or, or_false, Int32.reduceLT, Int32.reduceLE, Int32.reduceSub, Int32.reduceAdd]
    refine k_Mo_wrongAt (f := 1) (q := 0) ?_
    simp only [↓zq, ↓reduceIte, zr_si2, zr_sr1, zr_cp2, zr_tl, zr_tn, shq, List.contains_nil, List.contains_cons, Nat.reduceBEq, Bool.false_or, Bool.or_false, Bool.true_or, Bool.false_eq_true, if_false, if_true, true_and, and_true, List.set_cons_zero, List.set_cons_succ, List.length_cons, List.length_nil, Nat.reduceAdd, Nat.reduceLeDiff, Nat.le_refl, Nat.zero_le, true_or, or_true, zn_cl, ↓jj_Mo_readsQuestion]
    obtain ⟨f3, g3⟩ := zu_n_11 h (t_an (1, 0))
    refine hb (1, 0) (f_qe_i (f_e3_i ?_)) _ f3.f g3
    unfold f_qm
    rw [if_pos h7]
    exact t_tk_d T n (by decide) _
  · have ew : zt_w (f_w (t_c T n (.inr 0))) = nI (f_w (t_c T n (.inr 0))) := if_neg h7
    have nm : ¬ nI (f_w (t_c T n (.inr 0))) = -1 := fun z => absurd (show nI (f_w (t_c T n (.inr 0))) < 0 by rw [z]; decide) (nI_pos (by omega))
    rw [ew]
    simp only [↓zq, ↓reduceIte, zr_si2, zr_sr1, zr_cp2, zr_tl, zr_tn, shq, List.contains_nil, List.contains_cons, Nat.reduceBEq, Bool.false_or, Bool.or_false, Bool.true_or, Bool.false_eq_true, if_false, if_true, true_and, and_true, List.set_cons_zero, List.set_cons_succ, List.length_cons, List.length_nil, Nat.reduceAdd, Nat.reduceLeDiff, Nat.le_refl, Nat.zero_le, true_or, or_true, zn_cl, ↓jj_Mo_readsQuestion, s5, nm]
    simp only [not_false_eq_true, not_true_eq_false, false_imp_iff, true_imp_iff, forall_const, and_true, true_and, and_self, false_or, or_false, Int32.reduceLT, Int32.reduceLE, Int32.reduceSub, Int32.reduceAdd]
    have eq1 : nI 0 + 1 = nI (0 + 1) := nI_1 0
    rw [eq1]
    have f1 := (zu_n.rf h).s 9 (by omega) (nI (0 + 1))
    have s1 : zu_s (zm_si h 133 9 (nI (0 + 1))) T n (0 + 1) := zu_s_n hs f1 (by rw [zr_si1, if_pos ⟨rfl, rfl⟩]) (t_c_r_lt (T := T) (f_w_c h7))
    have em0 : f_qm T n (.inr 0) = t_tk T n 58 (.inr (0 + 1)) := by unfold f_qm; rw [if_neg h7]; rfl
    refine k_Mo_takes (c := 58) s1 (by decide) (fun x hx g f2 h11 => ?_) (fun e2 g2 f2 s2 => ?_)
    · simp only [↓zq, ↓reduceIte, zr_si2, zr_sr1, zr_cp2, zr_tl, zr_tn, shq, List.contains_nil, List.contains_cons, Nat.reduceBEq, Bool.false_or, Bool.or_false, Bool.true_or, Bool.false_eq_true, if_false, if_true, true_and, and_true, List.set_cons_zero, List.set_cons_succ, List.length_cons, List.length_nil, Nat.reduceAdd, Nat.reduceLeDiff, Nat.le_refl, Nat.zero_le, true_or, or_true, zn_cl, ↓jj_Mo_readsQuestion]
      exact ⟨fun _ => hb x (f_qe_i (f_e3_i (by rw [em0]; exact hx))) g (f1.tr f2).f h11, fun z => (by first | exact absurd trivial z | exact absurd rfl z | exact absurd z (by decide))⟩
    · have f2 := f1.tr f2
      have em : f_qm T n (.inr 0) = .inr (0 + 1 + 1) := by rw [em0]; exact e2
      simp only [↓zq, ↓reduceIte, zr_si2, zr_sr1, zr_cp2, zr_tl, zr_tn, shq, List.contains_nil, List.contains_cons, Nat.reduceBEq, Bool.false_or, Bool.or_false, Bool.true_or, Bool.false_eq_true, if_false, if_true, true_and, and_true, List.set_cons_zero, List.set_cons_succ, List.length_cons, List.length_nil, Nat.reduceAdd, Nat.reduceLeDiff, Nat.le_refl, Nat.zero_le, true_or, or_true, zn_cl, ↓jj_Mo_readsQuestion]
      refine ⟨fun z => absurd z (by decide), fun _ => ?_⟩
      refine k_Mo_readsLevels (by rw [f2.1]; exact hp) s2 (fun x hx g f3 h11 => ?_) (fun e3 g3 f3 s3 l3 a3 => ?_)
      · simp only [↓zq, ↓reduceIte, zr_si2, zr_sr1, zr_cp2, zr_tl, zr_tn, shq, List.contains_nil, List.contains_cons, Nat.reduceBEq, Bool.false_or, Bool.or_false, Bool.true_or, Bool.false_eq_true, if_false, if_true, true_and, and_true, List.set_cons_zero, List.set_cons_succ, List.length_cons, List.length_nil, Nat.reduceAdd, Nat.reduceLeDiff, Nat.le_refl, Nat.zero_le, true_or, or_true, zn_cl, ↓jj_Mo_readsQuestion]
        exact ⟨fun _ => hb x (f_qe_i (by rw [em]; exact hx)) g (f2.f.tr f3) h11, fun z => (by first | exact absurd trivial z | exact absurd rfl z | exact absurd z (by decide))⟩
      · have f3' := f2.f.tr f3
        have ey : f_qe T n sp (.inr 0) = t_en n (f_ss T n sp 80 0 f_255 (.inr (0 + 1 + 1 + 3))).2 := by unfold f_qe; rw [em, e3]
        simp only [↓zq, ↓reduceIte, zr_si2, zr_sr1, zr_cp2, zr_tl, zr_tn, shq, List.contains_nil, List.contains_cons, Nat.reduceBEq, Bool.false_or, Bool.or_false, Bool.true_or, Bool.false_eq_true, if_false, if_true, true_and, and_true, List.set_cons_zero, List.set_cons_succ, List.length_cons, List.length_nil, Nat.reduceAdd, Nat.reduceLeDiff, Nat.le_refl, Nat.zero_le, true_or, or_true, zn_cl, ↓jj_Mo_readsQuestion]
        refine ⟨fun z => absurd z (by decide), fun _ => ?_⟩
        refine k_Mo_readsSpans (sp := sp) (lets := f_255) (by rw [f3'.1]; exact hp) s3 hn (by unfold zo_S; rw [f3'.2.1 136 (by omega) (by omega) (by omega)]; exact hsp) hw a3 (fun x hx g f4 h11 => ?_) (fun q' hq' g4 f4 l4 o4 => ?_)
        · simp only [↓zq, ↓reduceIte, zr_si2, zr_sr1, zr_cp2, zr_tl, zr_tn, shq, List.contains_nil, List.contains_cons, Nat.reduceBEq, Bool.false_or, Bool.or_false, Bool.true_or, Bool.false_eq_true, if_false, if_true, true_and, and_true, List.set_cons_zero, List.set_cons_succ, List.length_cons, List.length_nil, Nat.reduceAdd, Nat.reduceLeDiff, Nat.le_refl, Nat.zero_le, true_or, or_true, zn_cl, ↓jj_Mo_readsQuestion]
          exact ⟨fun z => (by first | exact absurd trivial z | exact absurd rfl z | exact absurd z (by decide)), fun _ => hb x (by rw [ey]; exact hx) g (f3'.tr f4) h11⟩
        · have f4' := f3'.tr f4
          have q34 : g4.2 133 34 = some 152 := by rw [f4'.1]; exact (zp_34 hp).1
          have v6 : vp_in 6 8 := zn_v (k := 6)
          simp only [↓zq, ↓reduceIte, zr_si2, zr_sr1, zr_cp2, zr_tl, zr_tn, shq, List.contains_nil, List.contains_cons, Nat.reduceBEq, Bool.false_or, Bool.or_false, Bool.true_or, Bool.false_eq_true, if_false, if_true, true_and, and_true, List.set_cons_zero, List.set_cons_succ, List.length_cons, List.length_nil, Nat.reduceAdd, Nat.reduceLeDiff, Nat.le_refl, Nat.zero_le, true_or, or_true, zn_cl, ↓jj_Mo_readsQuestion, q34, v6]
          refine ⟨fun _ => ?_, fun z => absurd z (by decide)⟩
          refine hg q' (by rw [ey]; exact hq') _ (f4'.s1 152 6 (by omega) _) (fun k hk => ?_)
          rw [zr_si1]
          unfold f_qr
          by_cases z1 : k < 3
          · rw [if_neg (by omega), if_pos z1, o4 k (by omega), em]
            exact l3 k z1
          · rw [if_neg z1]
            by_cases z2 : k < 6
            · rw [if_neg (by omega), if_pos z2, em, e3]
              have := l4 (k - 3) (by omega)
              rw [show 3 + (k - 3) = k by omega] at this
              exact this
            · rw [if_pos ⟨rfl, by omega⟩, if_neg z2]
set_option maxHeartbeats 4000000 in
set_option maxRecDepth 100000 in
theorem k_Mo_summary {d : Nat} {h : zm_M} {R : zm_R} {n0 : Nat} {F : zs_F} {sp : Nat → Nat} {U : zs_U} {Q : zs_Q} {B : zs_B} {L : zs_L} {x : Nat} {K : zs_K} {v : Int32} (hO : zOO h n0 F sp U Q B L x K) (hR : ∀ h' : zm_M, zo_own h h' → zOO h' n0 F sp (D_summary F sp U B v).2.2 Q (D_summary F sp U B v).2.1 L x K → R (some (.inl (D_summary F sp U B v).1)) h') : zm_C (d + 7) TT m_Mo_summary [.inr (some 133), .inl v] h R := by
  have hp := hO.1.1
  have p7 : h.2 133 7 = some 137 := by simp only [hp]
  obtain ⟨hB, hBw⟩ := hO.2.1
  have b1 := hB.1
  have b260 := hBw.1
  have u8 := hO.1.2.2.2.1.2.1
  have bad : (∀ n, v = nI n → 1 ≤ n → n ≤ 80 → n ≤ B.1 → False) → R (some (.inl (-1))) h := fun no => by
    have eD : D_summary F sp U B v = (-1, B, U) := by
      unfold D_summary
      rw [zs_tx_no (by decide) no]
    rw [eD] at hR
    exact hR h (zo_own.rf h) hO
  refine st_Mo_summary [69] 30 ?_
  simp only [↓zq, ↓reduceIte, zr_si2, zr_sr1, zr_cp2, zr_tl, zr_tn, shq, List.contains_nil, List.contains_cons, Nat.reduceBEq, Bool.false_or, Bool.or_false, Bool.true_or, Bool.false_eq_true, if_false, if_true, true_and, and_true, List.set_cons_zero, List.set_cons_succ, List.length_cons, List.length_nil, Nat.reduceAdd, Nat.reduceLeDiff, Nat.le_refl, Nat.zero_le, true_or, or_true, zn_cl, ↓jj_Mo_summary]
  refine k_Mo_in (fun z1 z2 => ?_) (fun z => ?_)
  · simp only [↓zq, ↓reduceIte, zr_si2, zr_sr1, zr_cp2, zr_tl, zr_tn, shq, List.contains_nil, List.contains_cons, Nat.reduceBEq, Bool.false_or, Bool.or_false, Bool.true_or, Bool.false_eq_true, if_false, if_true, true_and, and_true, List.set_cons_zero, List.set_cons_succ, List.length_cons, List.length_nil, Nat.reduceAdd, Nat.reduceLeDiff, Nat.le_refl, Nat.zero_le, true_or, or_true, zn_cl, ↓jj_Mo_summary, b1]
    refine ⟨fun z => absurd z (by decide), fun _ => ⟨fun z3 => ?_, fun z3 => bad (fun m em m1 m2 m3 => ?_)⟩⟩
    · obtain ⟨n, n0', n1, n2, rfl⟩ := zs_tx_in (m := 80) (by decide) b260 z1 z2 z3
      have eT := zs_tx_of n0' n1 n2 (show 80 < 1000 by decide)
      refine k_Mo_beginsText p7 hB hBw n2 (by omega) (fun g1 e1 e2 e3 e4 e5 s1 => ?_)
      simp only [↓zq, ↓reduceIte, zr_si2, zr_sr1, zr_cp2, zr_tl, zr_tn, shq, List.contains_nil, List.contains_cons, Nat.reduceBEq, Bool.false_or, Bool.or_false, Bool.true_or, Bool.false_eq_true, if_false, if_true, true_and, and_true, List.set_cons_zero, List.set_cons_succ, List.length_cons, List.length_nil, Nat.reduceAdd, Nat.reduceLeDiff, Nat.le_refl, Nat.zero_le, true_or, or_true, zn_cl, ↓jj_Mo_summary]
      have v1 : zv_f h g1 := ⟨e1, fun a h1 _ _ => e2 a h1, fun k h1 h2 _ _ h5 h6 _ _ => e3 k h1 h2 h5 h6⟩
      refine k_Mo_readsSummary (sp := sp) F.1 (by rw [e1]; exact hp) s1 n1 (by unfold zo_S; rw [e2 136 (by omega)]; exact hO.1.2.2.1.1) hO.1.2.2.1.2 (fun y hy g f2 h11 => ?_) (fun p' hp' g f2 r2 => ?_)
      · have hf := v1.tr f2
        have eD : D_summary F sp U B (nI n) = (t_an y, (0, B.2), U) := by
          unfold D_summary
          rw [eT]
          dsimp only
          rw [hy]
        rw [eD] at hR
        obtain ⟨o1, o2⟩ := zOO_zv hO hf
        have h11' : (zm_si g 133 8 0).1 133 11 = t_an y := by rw [zr_si1, if_neg (by omega)]; exact h11
        simp only [↓zq, ↓reduceIte, zr_si2, zr_sr1, zr_cp2, zr_tl, zr_tn, shq, List.contains_nil, List.contains_cons, Nat.reduceBEq, Bool.false_or, Bool.or_false, Bool.true_or, Bool.false_eq_true, if_false, if_true, true_and, and_true, List.set_cons_zero, List.set_cons_succ, List.length_cons, List.length_nil, Nat.reduceAdd, Nat.reduceLeDiff, Nat.le_refl, Nat.zero_le, true_or, or_true, zn_cl, ↓jj_Mo_summary, h11']
        exact ⟨fun z => (by first | exact absurd trivial z | exact absurd rfl z | exact absurd z (by decide)), fun _ => hR _ o1 o2⟩
      · have hf := v1.tr f2
        have hrw := f_yr_w (u := F.1) hp'
        have eD : D_summary F sp U B (nI n) = if U.1 = 8 then (-3, (0, B.2), U) else (nI U.1, (0, B.2), zs_uadd U (f_yr B.2 n sp F.1 (.inr 0))) := by
          unfold D_summary
          rw [eT]
          dsimp only
          rw [hp']
        generalize f_yr B.2 n sp F.1 (.inr 0) = row at *
        rw [eD] at hR
        obtain ⟨o1, o2⟩ := zOO_zv hO hf
        obtain ⟨g8, hg8⟩ : ∃ g8 : zm_M, g8 = zm_si g 133 8 0 := ⟨_, rfl⟩
        have r8 : ∀ k, k < 7 → g8.1 152 k = nI (row k) := fun k hk => by rw [hg8, zr_si1, if_neg (by omega)]; exact r2 k hk
        have us : g8.1 133 2 = nI U.1 := by rw [hg8]; exact o2.1.2.2.2.1.1.1
        simp only [↓zq, ↓reduceIte, zr_si2, zr_sr1, zr_cp2, zr_tl, zr_tn, shq, List.contains_nil, List.contains_cons, Nat.reduceBEq, Bool.false_or, Bool.or_false, Bool.true_or, Bool.false_eq_true, if_false, if_true, true_and, and_true, List.set_cons_zero, List.set_cons_succ, List.length_cons, List.length_nil, Nat.reduceAdd, Nat.reduceLeDiff, Nat.le_refl, Nat.zero_le, true_or, or_true, zn_cl, ↓jj_Mo_summary]
        rw [← hg8] at o1 o2 ⊢
        have e8 : (nI U.1 = 8) = (U.1 = 8) := zn_eq (b := 8) (by omega) (by decide)
        rw [us, e8]
        refine ⟨fun _ => ⟨fun z8 => ?_, fun z8 => ?_⟩, fun z => absurd z (by decide)⟩
        · rw [if_neg z8] at hR
          have fs : g8.1 133 1 = nI F.1 := o2.1.2.1.1.1
          have q34 : g8.2 133 34 = some 152 := (zp_34 o2.1.1).1
          have q34' : (zm_si g 133 8 0).2 133 34 = some 152 := by rw [← hg8]; exact q34
          have v7 : vp_in 7 8 := zn_v (k := 7)
          have q34'' : g.2 133 34 = some 152 := q34'
          simp only [↓zq, ↓reduceIte, zr_si2, zr_sr1, zr_cp2, zr_tl, zr_tn, shq, List.contains_nil, List.contains_cons, Nat.reduceBEq, Bool.false_or, Bool.or_false, Bool.true_or, Bool.false_eq_true, if_false, if_true, true_and, and_true, List.set_cons_zero, List.set_cons_succ, List.length_cons, List.length_nil, Nat.reduceAdd, Nat.reduceLeDiff, Nat.le_refl, Nat.zero_le, true_or, or_true, zn_cl, ↓jj_Mo_summary, q34'', q34, v7, fs]
          obtain ⟨g9, hg9⟩ : ∃ g9 : zm_M, g9 = zm_si g8 152 7 (nI F.1) := ⟨_, rfl⟩
          have r9 : ∀ k, k < 8 → g9.1 152 k = nI (row k) := fun k hk => by
            rw [hg9, zr_si1]
            by_cases z : k = 7
            · rw [if_pos ⟨rfl, z⟩, z, hrw.2.2.2]
            · rw [if_neg (fun q => z q.2)]
              exact r8 k (by omega)
          have i9 : ∀ a, a ≠ 152 → g9.1 a = g8.1 a := fun a ha => by
            rw [hg9]
            funext j
            rw [zr_si1, if_neg (fun z => ha z.1)]
          have p9 : g9.2 = g8.2 := by rw [hg9]; rfl
          rw [← hg9]
          have loop : ∀ (j i : Nat) (q : zm_M), i + j = 8 → q.2 = g8.2 → (∀ a, a ≠ 152 → a ≠ 135 → q.1 a = g8.1 a) → q.1 152 = g9.1 152 → (∀ k, k < 8 * U.1 → q.1 135 k = g8.1 135 k) → (∀ k, k < i → q.1 135 (8 * U.1 + k) = nI (row k)) → zm_W (zm_md m_Mo_summary) (d + 7) TT R 69 [some (.inr (some 133)), some (.inl (nI n)), some (.inl 1), some (.inl (nI i))] [] q := by
            intro j
            induction j with
            | zero =>
              intro i q hi q2 qI q9 ql qr
              have : i = 8 := by omega
              subst this
              have us' : q.1 133 2 = nI U.1 := by rw [qI 133 (by omega) (by omega)]; exact us
              refine zm_go g_Mo_summary [69] 30 (by decide +kernel) ok_Mo_summary _ rfl ?_
              simp only [↓zq, ↓reduceIte, zr_si2, zr_sr1, zr_cp2, zr_tl, zr_tn, shq, List.contains_nil, List.contains_cons, Nat.reduceBEq, Bool.false_or, Bool.or_false, Bool.true_or, Bool.false_eq_true, if_false, if_true, true_and, and_true, List.set_cons_zero, List.set_cons_succ, List.length_cons, List.length_nil, Nat.reduceAdd, Nat.reduceLeDiff, Nat.le_refl, Nat.zero_le, true_or, or_true, zn_cl, ↓jj_Mo_summary]
              simp only [zr_si1, and_self, if_true, us', nI_1, nI_pred]
              refine ⟨fun _ => ?_, fun z => absurd (by decide) z⟩
              obtain ⟨qq, hqq⟩ : ∃ qq : zm_M, qq = zm_si q 133 2 (nI (U.1 + 1)) := ⟨_, rfl⟩
              rw [← hqq]
              have m2 : qq.2 = g8.2 := by rw [hqq]; exact q2
              have mI : ∀ a, a ≠ 133 → a ≠ 152 → a ≠ 135 → qq.1 a = g8.1 a := fun a h1 h2 h3 => by
                rw [hqq, ← qI a h2 h3]
                funext j
                rw [zr_si1, if_neg (fun z => h1 z.1)]
              have m0 : ∀ k, k ≠ 2 → qq.1 133 k = g8.1 133 k := fun k hk => by
                rw [hqq, zr_si1, if_neg (fun z => hk z.2), qI 133 (by omega) (by omega)]
              have m22 : qq.1 133 2 = nI (U.1 + 1) := by rw [hqq, zr_si1, if_pos ⟨rfl, rfl⟩]
              have m135 : qq.1 135 = q.1 135 := by rw [hqq]; funext j; rw [zr_si1, if_neg (by omega)]
              obtain ⟨c1, c3, c5, c6, c7, c7w⟩ := id o2
              have zz : zO qq F sp (zs_uadd U row) Q := by
                refine ⟨by rw [m2]; exact c1.1, ⟨?_, c1.2.1.2⟩, ⟨?_, c1.2.2.1.2⟩, ⟨⟨m22, fun s hs k hk => ?_⟩, zw_U_add c1.2.2.2.1.2 (by omega) ⟨hrw.1, hrw.2.1, hrw.2.2.1, Nat.le_of_eq hrw.2.2.2⟩⟩, ?_, c1.2.2.2.2.2⟩
                · unfold zo_F
                  rw [m0 1 (by omega), mI 134 (by omega) (by omega) (by omega)]
                  exact c1.2.1.1
                · unfold zo_S
                  rw [mI 136 (by omega) (by omega) (by omega)]
                  exact c1.2.2.1.1
                · have hs' : s < U.1 + 1 := hs
                  rw [m135]
                  by_cases z : s = U.1
                  · subst z
                    rw [qr k hk]
                    exact congrArg nI (if_pos rfl).symm
                  · rw [ql _ (by omega), c1.2.2.2.1.1.2 s (by omega) k hk]
                    exact congrArg nI (if_neg z).symm
                · unfold zo_Q
                  rw [m0 36 (by omega), mI 153 (by omega) (by omega) (by omega)]
                  exact c1.2.2.2.2.1
              refine hR qq (o1.tr ⟨m2, fun a ha => mI a (by omega) (by omega) (by omega)⟩) ?_
              exact zOO_up o2 zz (fun a ha => mI a (by omega) (by omega) (by omega)) (fun k hk => m0 k (by omega)) (fun k _ => by rw [mI 134 (by omega) (by omega) (by omega)]) (by rw [m0 0 (by omega)]; exact c6.1) c6.2 (Nat.le_refl _) (Nat.le_refl _)
            | succ j ih =>
              intro i q hi q2 qI q9 ql qr
              have us' : q.1 133 2 = nI U.1 := by rw [qI 133 (by omega) (by omega)]; exact us
              have p34 : q.2 133 34 = some 152 := by rw [q2]; exact q34
              have p5 : q.2 133 5 = some 135 := by rw [q2]; have := o2.1.1; simp only [this]
              have e8' : (8 : Int32) * nI U.1 + nI i = nI (8 * U.1 + i) := zn_8s
              have v1 : vp_in (nI i) 8 := vp_in_nI (by omega) (by decide)
              have c1 := nI_clamp (show i < 2 ^ 31 by omega)
              have v2 : vp_in (nI (8 * U.1 + i)) 64 := vp_in_nI (by omega) (by decide)
              have c2 := nI_clamp (show 8 * U.1 + i < 2 ^ 31 by omega)
              have cc : q.1 152 i = nI (row i) := by rw [q9]; exact r9 i (by omega)
              refine zm_go g_Mo_summary [69] 30 (by decide +kernel) ok_Mo_summary _ rfl ?_
              simp only [↓zq, ↓reduceIte, zr_si2, zr_sr1, zr_cp2, zr_tl, zr_tn, shq, List.contains_nil, List.contains_cons, Nat.reduceBEq, Bool.false_or, Bool.or_false, Bool.true_or, Bool.false_eq_true, if_false, if_true, true_and, and_true, List.set_cons_zero, List.set_cons_succ, List.length_cons, List.length_nil, Nat.reduceAdd, Nat.reduceLeDiff, Nat.le_refl, Nat.zero_le, true_or, or_true, zn_cl, ↓jj_Mo_summary, us', p34, p5, e8', v1, c1, v2, c2, cc, nI_1]
              refine ⟨fun z => absurd z (nI_ge (b := 8) (by omega) (by decide)), fun _ => ?_⟩
              refine ih (i + 1) _ (by omega) q2 (fun a h1 h2 => ?_) ?_ (fun k hk => ?_) (fun k hk => ?_)
              · rw [← qI a h1 h2]
                funext t
                rw [zr_si1, if_neg (fun z => h2 z.1)]
              · rw [← q9]
                funext t
                rw [zr_si1, if_neg (by omega)]
              · rw [zr_si1, if_neg (by omega)]; exact ql k hk
              · rw [zr_si1]
                by_cases z : k = i
                · rw [if_pos ⟨rfl, by omega⟩, z]
                · rw [if_neg (by omega)]
                  exact qr k (by omega)
          exact loop 8 0 g9 (by omega) p9 (fun a h1 _ => i9 a h1) rfl (fun k _ => by rw [i9 135 (by omega)]) (fun k hk => absurd hk (Nat.not_lt_zero _))
        · rw [if_pos z8] at hR
          exact hR _ o1 o2
    · subst em
      exact z3 (nI_le m3 (by omega))
  · simp only [↓zq, ↓reduceIte, zr_si2, zr_sr1, zr_cp2, zr_tl, zr_tn, shq, List.contains_nil, List.contains_cons, Nat.reduceBEq, Bool.false_or, Bool.or_false, Bool.true_or, Bool.false_eq_true, if_false, if_true, true_and, and_true, List.set_cons_zero, List.set_cons_succ, List.length_cons, List.length_nil, Nat.reduceAdd, Nat.reduceLeDiff, Nat.le_refl, Nat.zero_le, true_or, or_true, zn_cl, ↓jj_Mo_summary]
    refine ⟨fun _ => bad (fun m em m1 m2 m3 => ?_), fun z => (by first | exact absurd trivial z | exact absurd rfl z | exact absurd z (by decide))⟩
    subst em
    rcases z with z | z
    · exact nI_nlt (b := 1) m1 (by omega) z
    · exact nI_nlt (a := 80) m2 (by omega) z
