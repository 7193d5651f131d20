/-! spans, levels, parts read by the reference -/
theorem zp_34 {P : Nat → Nat → Option Nat} (hp : zp_mo P) : P 133 34 = some 152 ∧ P 133 6 = some 136 := by
  refine ⟨?_, ?_⟩ <;> simp only [hp]
set_option maxHeartbeats 4000000 in
set_option maxRecDepth 100000 in
theorem k_Mo_spanBy {d : Nat} {h : zm_M} {R : zm_R} {sp : Nat → Nat} {side lev lo hi : Nat} (hp : zp_mo h.2) (hsp : zo_S h.1 sp) (hw : zw_S sp) (h1 : side < 3) (h2 : lev ≤ 2) (h3 : lo < 8) (h4 : hi < 8) (hR : R (some (.inl (nI (f_sb sp side lev lo hi)))) h) : zm_C (d + 2) TT m_Mo_spanBy [.inr (some 133), .inl (nI side), .inl (nI lev), .inl (nI lo), .inl (nI hi)] h R := by
  obtain ⟨p34, p6⟩ := zp_34 hp
  have loop : ∀ (j v : Nat), v + j = 8 → zm_W (zm_md m_Mo_spanBy) (d + 2) TT R 6 [some (.inr (some 133)), some (.inl (nI side)), some (.inl (nI lev)), some (.inl (nI lo)), some (.inl (nI hi)), some (.inl (nI (zs_bits (fun v => decide (lo ≤ zs_num sp side lev v ∧ zs_num sp side lev v ≤ hi)) v))), some (.inl (nI v))] [] h := by
    intro j
    induction j with
    | zero =>
      intro v hv
      have : v = 8 := by omega
      subst this
      refine zm_go g_Mo_spanBy [6] 30 (by decide +kernel) ok_Mo_spanBy _ rfl ?_
      simp only [↓zq, ↓reduceIte, zr_si2, zr_sr1, zr_cp2, zr_tl, zr_tn, shq, List.contains_nil, List.contains_cons, Nat.reduceBEq, Bool.false_or, Bool.or_false, Bool.true_or, Bool.false_eq_true, if_false, if_true, true_and, and_true, List.set_cons_zero, List.set_cons_succ, List.length_cons, List.length_nil, Nat.reduceAdd, Nat.reduceLeDiff, Nat.le_refl, Nat.zero_le, true_or, or_true, zn_cl, ↓jj_Mo_spanBy]
      exact ⟨fun _ => hR, fun z => absurd (by decide) z⟩
    | succ j ih =>
      intro v hv
      have nl : zs_num sp side lev v < 8 := zs_num_lt hw h1 (by omega)
      have nx := ih (v + 1) (by omega)
      have hb := zs_bits_lt (fun v => decide (lo ≤ zs_num sp side lev v ∧ zs_num sp side lev v ≤ hi)) v
      have eb := zn_or8 v (by omega) _ hb
      refine zm_go g_Mo_spanBy [6] 30 (by decide +kernel) ok_Mo_spanBy _ rfl ?_
      simp only [↓zq, ↓reduceIte, zr_si2, zr_sr1, zr_cp2, zr_tl, zr_tn, shq, List.contains_nil, List.contains_cons, Nat.reduceBEq, Bool.false_or, Bool.or_false, Bool.true_or, Bool.false_eq_true, if_false, if_true, true_and, and_true, List.set_cons_zero, List.set_cons_succ, List.length_cons, List.length_nil, Nat.reduceAdd, Nat.reduceLeDiff, Nat.le_refl, Nat.zero_le, true_or, or_true, zn_cl, ↓jj_Mo_spanBy]
      refine ⟨fun z => absurd z (nI_ge (b := 8) (by omega) (by decide)), fun _ => ?_⟩
      refine k_Mo_numberAt p6 hsp h1 h2 (by omega) ?_
      simp only [↓zq, ↓reduceIte, zr_si2, zr_sr1, zr_cp2, zr_tl, zr_tn, shq, List.contains_nil, List.contains_cons, Nat.reduceBEq, Bool.false_or, Bool.or_false, Bool.true_or, Bool.false_eq_true, if_false, if_true, true_and, and_true, List.set_cons_zero, List.set_cons_succ, List.length_cons, List.length_nil, Nat.reduceAdd, Nat.reduceLeDiff, Nat.le_refl, Nat.zero_le, true_or, or_true, zn_cl, ↓jj_Mo_spanBy]
      refine k_Mo_in (fun z1 z2 => ?_) (fun z => ?_)
      · simp only [↓zq, ↓reduceIte, zr_si2, zr_sr1, zr_cp2, zr_tl, zr_tn, shq, List.contains_nil, List.contains_cons, Nat.reduceBEq, Bool.false_or, Bool.or_false, Bool.true_or, Bool.false_eq_true, if_false, if_true, true_and, and_true, List.set_cons_zero, List.set_cons_succ, List.length_cons, List.length_nil, Nat.reduceAdd, Nat.reduceLeDiff, Nat.le_refl, Nat.zero_le, true_or, or_true, zn_cl, ↓jj_Mo_spanBy, eb, nI_1]
        refine ⟨fun z => absurd z (by decide), fun _ => ?_⟩
        rw [zs_bits, if_pos ?_] at nx
        · exact nx
        · rw [zn_lt (by omega) (by omega)] at z1 z2
          simp
          omega
      · simp only [↓zq, ↓reduceIte, zr_si2, zr_sr1, zr_cp2, zr_tl, zr_tn, shq, List.contains_nil, List.contains_cons, Nat.reduceBEq, Bool.false_or, Bool.or_false, Bool.true_or, Bool.false_eq_true, if_false, if_true, true_and, and_true, List.set_cons_zero, List.set_cons_succ, List.length_cons, List.length_nil, Nat.reduceAdd, Nat.reduceLeDiff, Nat.le_refl, Nat.zero_le, true_or, or_true, zn_cl, ↓jj_Mo_spanBy, nI_1]
        refine ⟨fun _ => ?_, fun z => (by first | exact absurd trivial z | exact absurd rfl z | exact absurd z (by decide))⟩
        rw [zs_bits, if_neg ?_] at nx
        · exact nx
        · rw [zn_lt (by omega) (by omega), zn_lt (by omega) (by omega)] at z
          simp
          omega
  refine st_Mo_spanBy [6] 30 ?_
  simp only [↓zq, ↓reduceIte, zr_si2, zr_sr1, zr_cp2, zr_tl, zr_tn, shq, List.contains_nil, List.contains_cons, Nat.reduceBEq, Bool.false_or, Bool.or_false, Bool.true_or, Bool.false_eq_true, if_false, if_true, true_and, and_true, List.set_cons_zero, List.set_cons_succ, List.length_cons, List.length_nil, Nat.reduceAdd, Nat.reduceLeDiff, Nat.le_refl, Nat.zero_le, true_or, or_true, zn_cl, ↓jj_Mo_spanBy]
  exact loop 8 0 (by omega)
theorem f_s7_6 {T : Nat → Nat} {n told : Nat} {e : zt_S} {x : Nat × Nat} (h : (f_s6 T n told e).2 = .inl x) : f_s7 T n told e = .inl x := by
  unfold f_s7
  rw [h]
  split <;> rfl
theorem f_s7_5 {T : Nat → Nat} {n told : Nat} {e : zt_S} {x : Nat × Nat} (h : f_s5 T n told e = .inl x) : f_s7 T n told e = .inl x := f_s7_6 (f_dg_i (by decide) h)
theorem f_s7_4 {T : Nat → Nat} {n told : Nat} {e : zt_S} {x : Nat × Nat} (h : (f_s4 T n told e).2 = .inl x) : f_s7 T n told e = .inl x := f_s7_5 (t_tk_i (by decide) h)
theorem f_s7_t {T : Nat → Nat} {n told : Nat} {e : zt_S} {x : Nat × Nat} (h : t_tk T n 61 (f_s3 T n told e).2 = .inl x) : f_s7 T n told e = .inl x := f_s7_4 (f_dg_i (by decide) h)
theorem f_s7_3 {T : Nat → Nat} {n told : Nat} {e : zt_S} {x : Nat × Nat} (h : (f_s3 T n told e).2 = .inl x) : f_s7 T n told e = .inl x := f_s7_t (t_tk_i (by decide) h)
theorem f_s7_2 {T : Nat → Nat} {n told : Nat} {e : zt_S} {x : Nat × Nat} (h : f_s2 T n told e = .inl x) : f_s7 T n told e = .inl x := f_s7_3 (f_lv_i (by decide) h)
theorem f_s7_1 {T : Nat → Nat} {n told : Nat} {e : zt_S} {x : Nat × Nat} (h : (f_sd T n e).2 = .inl x) : f_s7 T n told e = .inl x := by
  apply f_s7_2
  unfold f_s2
  rw [h]
  split <;> rfl
theorem f_lv_r {T : Nat → Nat} {n m q : Nat} {e : zt_S} (h : (f_lv T n m e).2 = .inr q) : ∃ r, e = .inr r ∧ q = r + 1 := by
  unfold f_lv at h
  split at h
  · obtain ⟨r, h1, _⟩ := f_dg_r h
    exact absurd h1 (t_st_fl r)
  · exact f_dg_r h
set_option maxHeartbeats 4000000 in
set_option maxRecDepth 100000 in
theorem k_Mo_readsSpan {d : Nat} {h : zm_M} {R : zm_R} {T : Nat → Nat} {n p told : Nat} {sp lets : Nat → Nat} (hp : zp_mo h.2) (hs : zu_s h T n p) (hsp : zo_S h.1 sp) (hw : zw_S sp) (ht : h.1 133 32 = nI told) (htl : told < 8) (hlt : ∀ k, k < 3 → h.1 152 (3 + k) = nI (lets k)) (hb : ∀ x, f_s7 T n told (.inr p) = .inl x → ∀ h' : zm_M, zu_f h h' → h'.1 133 11 = t_an x → R (some (.inl 0)) h') (hg : ∀ p', f_s7 T n told (.inr p) = .inr p' → p + 1 ≤ p' → ∀ h' : zm_M, zu_f h h' → zu_s h' T n p' → h'.1 133 32 = nI (told ||| 2 ^ (f_sd T n (.inr p)).1) → (∀ k, k < 3 → h'.1 152 (3 + k) = nI (f_sl T n sp told lets (.inr p) k)) → (∀ k, k < 3 ∨ k = 6 → h'.1 152 k = h.1 152 k) → R (some (.inl 1)) h') : zm_C (d + 4) TT m_Mo_readsSpan [.inr (some 133)] h R := by
  have s5 := hs.2.2.2.2.1
  have cl := hs.c_le
  refine st_Mo_readsSpan [] 30 ?_
  simp only [↓zq, ↓reduceIte, zr_si2, zr_sr1, zr_cp2, zr_tl, zr_tn, shq, List.contains_nil, List.contains_cons, Nat.reduceBEq, Bool.false_or, Bool.or_false, Bool.true_or, Bool.false_eq_true, if_false, if_true, true_and, and_true, List.set_cons_zero, List.set_cons_succ, List.length_cons, List.length_nil, Nat.reduceAdd, Nat.reduceLeDiff, Nat.le_refl, Nat.zero_le, true_or, or_true, zn_cl, ↓jj_Mo_readsSpan, s5]
  refine k_Mo_here hs ?_
  simp only [↓zq, ↓reduceIte, zr_si2, zr_sr1, zr_cp2, zr_tl, zr_tn, shq, List.contains_nil, List.contains_cons, Nat.reduceBEq, Bool.false_or, Bool.or_false, Bool.true_or, Bool.false_eq_true, if_false, if_true, true_and, and_true, List.set_cons_zero, List.set_cons_succ, List.length_cons, List.length_nil, Nat.reduceAdd, Nat.reduceLeDiff, Nat.le_refl, Nat.zero_le, true_or, or_true, zn_cl, ↓jj_Mo_readsSpan]
  by_cases hc : 97 ≤ t_c T n (.inr p) ∧ t_c T n (.inr p) < 100
  · have e1 : f_sd T n (.inr p) = (t_c T n (.inr p) - 97, .inr (p + 1)) := if_pos hc
    rw [show zt_v (t_c T n (.inr p)) - 97 = nI (t_c T n (.inr p) - 97) from zt_v_sub (k := 97) (by omega) hc.1]
    obtain ⟨sd, hsd⟩ : ∃ sd, sd = t_c T n (.inr p) - 97 := ⟨_, rfl⟩
    rw [← hsd] at e1 ⊢
    have sd3 : sd < 3 := by omega
    refine k_Mo_isSide (fun j hj ej => ?_) (fun z => ?_)
    · simp only [↓zq, ↓reduceIte, zr_si2, zr_sr1, zr_cp2, zr_tl, zr_tn, shq, List.contains_nil, List.contains_cons, Nat.reduceBEq, Bool.false_or, Bool.or_false, Bool.true_or, Bool.false_eq_true, if_false, if_true, true_and, and_true, List.set_cons_zero, List.set_cons_succ, List.length_cons, List.length_nil, Nat.reduceAdd, Nat.reduceLeDiff, Nat.le_refl, Nat.zero_le, true_or, or_true, zn_cl, ↓jj_Mo_readsSpan, ht]
      refine ⟨fun _ => ?_, fun z => absurd z (by decide)⟩
      refine k_Mo_hasN (by omega) (by omega) ?_
      simp only [↓zq, ↓reduceIte, zr_si2, zr_sr1, zr_cp2, zr_tl, zr_tn, shq, List.contains_nil, List.contains_cons, Nat.reduceBEq, Bool.false_or, Bool.or_false, Bool.true_or, Bool.false_eq_true, if_false, if_true, true_and, and_true, List.set_cons_zero, List.set_cons_succ, List.length_cons, List.length_nil, Nat.reduceAdd, Nat.reduceLeDiff, Nat.le_refl, Nat.zero_le, true_or, or_true, zn_cl, ↓jj_Mo_readsSpan]
      by_cases tb : told.testBit sd = true
      · rw [if_pos tb]
        refine ⟨fun z => absurd z (by decide), fun _ => ?_⟩
        refine k_Mo_wrongAt (f := 6) (q := p) ?_
        simp only [↓zq, ↓reduceIte, zr_si2, zr_sr1, zr_cp2, zr_tl, zr_tn, shq, List.contains_nil, List.contains_cons, Nat.reduceBEq, Bool.false_or, Bool.or_false, Bool.true_or, Bool.false_eq_true, if_false, if_true, true_and, and_true, List.set_cons_zero, List.set_cons_succ, List.length_cons, List.length_nil, Nat.reduceAdd, Nat.reduceLeDiff, Nat.le_refl, Nat.zero_le, true_or, or_true, zn_cl, ↓jj_Mo_readsSpan]
        obtain ⟨f3, g3⟩ := zu_n_11 h (t_an (6, p))
        refine hb (6, p) (f_s7_2 ?_) _ f3.f g3
        unfold f_s2
        rw [e1, if_pos tb]
        rfl
      · have e2 : f_s2 T n told (.inr p) = .inr (p + 1) := by
          unfold f_s2
          rw [e1, if_neg tb]
        rw [if_neg tb]
        refine ⟨fun _ => ?_, fun z => (by first | exact absurd trivial z | exact absurd rfl z | exact absurd z (by decide))⟩
        rw [ht, zn_s1 _ (by omega), zn_or]
        simp only [zr_si1, Nat.reduceEqDiff, and_false, if_false, s5, nI_1]
        obtain ⟨h3, hh3⟩ : ∃ h3 : zm_M, h3 = zm_si (zm_si h 133 32 (nI (told ||| 2 ^ sd))) 133 9 (nI (p + 1)) := ⟨_, rfl⟩
        rw [← hh3]
        have f3 : zu_f h h3 := by subst hh3; exact ((zu_f.rf h).s0 32 (by omega) _).s0 9 (by omega) _
        have s3 : zu_s h3 T n (p + 1) := by
          subst hh3
          obtain ⟨a1, a2, a3, a4, a5, a6⟩ := hs
          refine ⟨a1, ?_, a3, ?_, ?_, t_c_r_lt (T := T) (by omega)⟩
          · rw [zr_si1, if_neg (by omega), zr_si1, if_neg (by omega)]; exact a2
          · intro k hk
            rw [zr_si1, if_neg (by omega), zr_si1, if_neg (by omega)]
            exact a4 k hk
          · rw [zr_si1, if_pos ⟨rfl, rfl⟩]
        have t3 : h3.1 133 32 = nI (told ||| 2 ^ sd) := by subst hh3; rw [zr_si1, if_neg (by omega), zr_si1, if_pos ⟨rfl, rfl⟩]
        have o3 : h3.1 152 = h.1 152 := by subst hh3; funext t; rw [zr_si1, if_neg (by omega), zr_si1, if_neg (by omega)]
        clear hh3
        refine k_Mo_readsLevel (m := 1) s3 (by decide) (fun x hx h4 f4 h11 => ?_) (fun hx4 h4 f4 s4 n4 => ?_)
        · simp only [↓zq, ↓reduceIte, zr_si2, zr_sr1, zr_cp2, zr_tl, zr_tn, shq, List.contains_nil, List.contains_cons, Nat.reduceBEq, Bool.false_or, Bool.or_false, Bool.true_or, Bool.false_eq_true, if_false, if_true, true_and, and_true, List.set_cons_zero, List.set_cons_succ, List.length_cons, List.length_nil, Nat.reduceAdd, Nat.reduceLeDiff, Nat.le_refl, Nat.zero_le, true_or, or_true, zn_cl, ↓jj_Mo_readsSpan]
          exact ⟨fun z => (by first | exact absurd trivial z | exact absurd rfl z | exact absurd z (by decide)), fun _ => hb x (f_s7_3 (by unfold f_s3; rw [e2]; exact hx)) h4 (f3.tr f4.f) h11⟩
        · have e3 : f_s3 T n told (.inr p) = ((f_lv T n 1 (.inr (p + 1))).1, .inr (p + 1 + 1)) := by unfold f_s3; rw [e2, ← hx4]
          have l1 := f_lv_le T n 1 (.inr (p + 1))
          generalize (f_lv T n 1 (.inr (p + 1))).1 = lev at *
          simp only [↓zq, ↓reduceIte, zr_si2, zr_sr1, zr_cp2, zr_tl, zr_tn, shq, List.contains_nil, List.contains_cons, Nat.reduceBEq, Bool.false_or, Bool.or_false, Bool.true_or, Bool.false_eq_true, if_false, if_true, true_and, and_true, List.set_cons_zero, List.set_cons_succ, List.length_cons, List.length_nil, Nat.reduceAdd, Nat.reduceLeDiff, Nat.le_refl, Nat.zero_le, true_or, or_true, zn_cl, ↓jj_Mo_readsSpan, n4]
          refine ⟨fun _ => ?_, fun z => absurd z (by decide)⟩
          refine k_Mo_takes (c := 61) s4 (by decide) (fun x hx h5 f5 h11 => ?_) (fun hx5 h5 f5 s5' => ?_)
          · simp only [↓zq, ↓reduceIte, zr_si2, zr_sr1, zr_cp2, zr_tl, zr_tn, shq, List.contains_nil, List.contains_cons, Nat.reduceBEq, Bool.false_or, Bool.or_false, Bool.true_or, Bool.false_eq_true, if_false, if_true, true_and, and_true, List.set_cons_zero, List.set_cons_succ, List.length_cons, List.length_nil, Nat.reduceAdd, Nat.reduceLeDiff, Nat.le_refl, Nat.zero_le, true_or, or_true, zn_cl, ↓jj_Mo_readsSpan]
            exact ⟨fun _ => hb x (f_s7_t (by rw [e3]; exact hx)) h5 (f3.tr (f4.tr f5).f) h11, fun z => (by first | exact absurd trivial z | exact absurd rfl z | exact absurd z (by decide))⟩
          · have f5 := f4.tr f5
            simp only [↓zq, ↓reduceIte, zr_si2, zr_sr1, zr_cp2, zr_tl, zr_tn, shq, List.contains_nil, List.contains_cons, Nat.reduceBEq, Bool.false_or, Bool.or_false, Bool.true_or, Bool.false_eq_true, if_false, if_true, true_and, and_true, List.set_cons_zero, List.set_cons_succ, List.length_cons, List.length_nil, Nat.reduceAdd, Nat.reduceLeDiff, Nat.le_refl, Nat.zero_le, true_or, or_true, zn_cl, ↓jj_Mo_readsSpan]
            refine ⟨fun z => absurd z (by decide), fun _ => ?_⟩
            refine k_Mo_readsDigit (m := 7) s5' (by decide) (fun x hx h6 f6 h11 => ?_) (fun hx6 h6 f6 s6 n6 => ?_)
            · simp only [↓zq, ↓reduceIte, zr_si2, zr_sr1, zr_cp2, zr_tl, zr_tn, shq, List.contains_nil, List.contains_cons, Nat.reduceBEq, Bool.false_or, Bool.or_false, Bool.true_or, Bool.false_eq_true, if_false, if_true, true_and, and_true, List.set_cons_zero, List.set_cons_succ, List.length_cons, List.length_nil, Nat.reduceAdd, Nat.reduceLeDiff, Nat.le_refl, Nat.zero_le, true_or, or_true, zn_cl, ↓jj_Mo_readsSpan]
              exact ⟨fun z => (by first | exact absurd trivial z | exact absurd rfl z | exact absurd z (by decide)), fun _ => hb x (f_s7_4 (by unfold f_s4; rw [e3]; dsimp only; rw [hx5]; exact hx)) h6 (f3.tr (f5.tr f6).f) h11⟩
            · have f6 := f5.tr f6
              have e4 : f_s4 T n told (.inr p) = ((f_dg T n 7 (.inr (p + 1 + 1 + 1))).1, .inr (p + 1 + 1 + 1 + 1)) := by unfold f_s4; rw [e3]; dsimp only; rw [hx5, ← hx6]
              have l4 := f_dg_le T n 7 (.inr (p + 1 + 1 + 1))
              generalize (f_dg T n 7 (.inr (p + 1 + 1 + 1))).1 = lo at *
              simp only [↓zq, ↓reduceIte, zr_si2, zr_sr1, zr_cp2, zr_tl, zr_tn, shq, List.contains_nil, List.contains_cons, Nat.reduceBEq, Bool.false_or, Bool.or_false, Bool.true_or, Bool.false_eq_true, if_false, if_true, true_and, and_true, List.set_cons_zero, List.set_cons_succ, List.length_cons, List.length_nil, Nat.reduceAdd, Nat.reduceLeDiff, Nat.le_refl, Nat.zero_le, true_or, or_true, zn_cl, ↓jj_Mo_readsSpan, n6]
              refine ⟨fun _ => ?_, fun z => absurd z (by decide)⟩
              refine k_Mo_takes (c := 45) s6 (by decide) (fun x hx h7 f7 h11 => ?_) (fun hx7 h7 f7 s7 => ?_)
              · simp only [↓zq, ↓reduceIte, zr_si2, zr_sr1, zr_cp2, zr_tl, zr_tn, shq, List.contains_nil, List.contains_cons, Nat.reduceBEq, Bool.false_or, Bool.or_false, Bool.true_or, Bool.false_eq_true, if_false, if_true, true_and, and_true, List.set_cons_zero, List.set_cons_succ, List.length_cons, List.length_nil, Nat.reduceAdd, Nat.reduceLeDiff, Nat.le_refl, Nat.zero_le, true_or, or_true, zn_cl, ↓jj_Mo_readsSpan]
                exact ⟨fun z => (by first | exact absurd trivial z | exact absurd rfl z | exact absurd z (by decide)), fun _ => hb x (f_s7_5 (by unfold f_s5; rw [e4]; exact hx)) h7 (f3.tr (f6.tr f7).f) h11⟩
              · have f7 := f6.tr f7
                have e5 : f_s5 T n told (.inr p) = .inr (p + 1 + 1 + 1 + 1 + 1) := by unfold f_s5; rw [e4]; exact hx7
                have p7 := s7.2.2.2.2.1
                simp only [↓zq, ↓reduceIte, zr_si2, zr_sr1, zr_cp2, zr_tl, zr_tn, shq, List.contains_nil, List.contains_cons, Nat.reduceBEq, Bool.false_or, Bool.or_false, Bool.true_or, Bool.false_eq_true, if_false, if_true, true_and, and_true, List.set_cons_zero, List.set_cons_succ, List.length_cons, List.length_nil, Nat.reduceAdd, Nat.reduceLeDiff, Nat.le_refl, Nat.zero_le, true_or, or_true, zn_cl, ↓jj_Mo_readsSpan, p7]
                refine ⟨fun _ => ?_, fun z => absurd z (by decide)⟩
                refine k_Mo_readsDigit (m := 7) s7 (by decide) (fun x hx h8 f8 h11 => ?_) (fun hx8 h8 f8 s8 n8 => ?_)
                · simp only [↓zq, ↓reduceIte, zr_si2, zr_sr1, zr_cp2, zr_tl, zr_tn, shq, List.contains_nil, List.contains_cons, Nat.reduceBEq, Bool.false_or, Bool.or_false, Bool.true_or, Bool.false_eq_true, if_false, if_true, true_and, and_true, List.set_cons_zero, List.set_cons_succ, List.length_cons, List.length_nil, Nat.reduceAdd, Nat.reduceLeDiff, Nat.le_refl, Nat.zero_le, true_or, or_true, zn_cl, ↓jj_Mo_readsSpan]
                  exact ⟨fun z => (by first | exact absurd trivial z | exact absurd rfl z | exact absurd z (by decide)), fun _ => hb x (f_s7_6 (by unfold f_s6; rw [e5]; exact hx)) h8 (f3.tr (f7.tr f8).f) h11⟩
                · have f8 := f7.tr f8
                  have e6 : f_s6 T n told (.inr p) = ((f_dg T n 7 (.inr (p + 1 + 1 + 1 + 1 + 1))).1, .inr (p + 1 + 1 + 1 + 1 + 1 + 1)) := by unfold f_s6; rw [e5, ← hx8]
                  have l6 := f_dg_le T n 7 (.inr (p + 1 + 1 + 1 + 1 + 1))
                  generalize (f_dg T n 7 (.inr (p + 1 + 1 + 1 + 1 + 1))).1 = hi at *
                  have ele : (nI lo ≤ nI hi) = (lo ≤ hi) := zn_le (by omega) (by omega)
                  have q34 : h8.2 133 34 = some 152 := by rw [f8.1, f3.1]; exact (zp_34 hp).1
                  simp only [↓zq, ↓reduceIte, zr_si2, zr_sr1, zr_cp2, zr_tl, zr_tn, shq, List.contains_nil, List.contains_cons, Nat.reduceBEq, Bool.false_or, Bool.or_false, Bool.true_or, Bool.false_eq_true, if_false, if_true, true_and, and_true, List.set_cons_zero, List.set_cons_succ, List.length_cons, List.length_nil, Nat.reduceAdd, Nat.reduceLeDiff, Nat.le_refl, Nat.zero_le, true_or, or_true, zn_cl, ↓jj_Mo_readsSpan, n8, ele, q34]
                  refine ⟨fun _ => ⟨fun z => ?_, fun z => ?_⟩, fun z => absurd z (by decide)⟩
                  · have e7 : f_s7 T n told (.inr p) = .inr (p + 1 + 1 + 1 + 1 + 1 + 1) := by unfold f_s7; rw [e6, e4]; dsimp only; rw [if_neg (by omega)]
                    refine k_Mo_spanBy (sp := sp) (by rw [f8.1, f3.1]; exact hp) ?_ hw sd3 (by omega) (by omega) (by omega) ?_
                    · unfold zo_S
                      rw [f8.2.1 136 (by omega), f3.2.1 136 (by omega) (by omega) (by omega)]
                      exact hsp
                    · have ei : (3 : Int32) + nI sd = nI (3 + sd) := nI_add 3 sd
                      have v1 : vp_in (nI (3 + sd)) 8 := vp_in_nI (by omega) (by decide)
                      have c1 := nI_clamp (show 3 + sd < 2 ^ 31 by omega)
                      simp only [↓zq, ↓reduceIte, zr_si2, zr_sr1, zr_cp2, zr_tl, zr_tn, shq, List.contains_nil, List.contains_cons, Nat.reduceBEq, Bool.false_or, Bool.or_false, Bool.true_or, Bool.false_eq_true, if_false, if_true, true_and, and_true, List.set_cons_zero, List.set_cons_succ, List.length_cons, List.length_nil, Nat.reduceAdd, Nat.reduceLeDiff, Nat.le_refl, Nat.zero_le, true_or, or_true, zn_cl, ↓jj_Mo_readsSpan, ei, v1, c1]
                      refine hg _ e7 (by omega) _ ((f3.tr f8.f).s1 152 _ (by omega) _) (zu_s_i s8 rfl ?_ ?_ ?_) ?_ (fun k hk => ?_) (fun k hk => ?_)
                      · rw [zr_si1, if_neg (by omega)]
                      · rw [zr_si1, if_neg (by omega)]
                      · funext t; rw [zr_si1, if_neg (by omega)]
                      · rw [zr_si1, if_neg (by omega), f8.2.2 32 (by omega) (by omega) (by omega), t3, e1]
                      · rw [zr_si1]
                        unfold f_sl
                        rw [e1, e3, e4, e6]
                        dsimp only
                        by_cases z : k = sd
                        · rw [if_pos ⟨rfl, by omega⟩, if_pos z]
                        · rw [if_neg (by omega), if_neg z, f8.2.1 152 (by omega), o3]
                          exact hlt k hk
                      · rw [zr_si1, if_neg (by omega), f8.2.1 152 (by omega), o3]
                  · have e7 : f_s7 T n told (.inr p) = .inl (3, p + 1 + 1 + 1 + 1 + 1) := by unfold f_s7; rw [e6, e4]; dsimp only; rw [if_pos (by omega), e5]; rfl
                    refine k_Mo_wrongAt (f := 3) (q := p + 1 + 1 + 1 + 1 + 1) ?_
                    simp only [↓zq, ↓reduceIte, zr_si2, zr_sr1, zr_cp2, zr_tl, zr_tn, shq, List.contains_nil, List.contains_cons, Nat.reduceBEq, Bool.false_or, Bool.or_false, Bool.true_or, Bool.false_eq_true, if_false, if_true, true_and, and_true, List.set_cons_zero, List.set_cons_succ, List.length_cons, List.length_nil, Nat.reduceAdd, Nat.reduceLeDiff, Nat.le_refl, Nat.zero_le, true_or, or_true, zn_cl, ↓jj_Mo_readsSpan]
                    obtain ⟨f9, g9⟩ := zu_n_11 h8 (t_an (3, p + 1 + 1 + 1 + 1 + 1))
                    exact hb _ e7 _ (f3.tr (f8.tr f9).f) g9
    · exfalso
      rcases z with z | z
      · exact nI_pos (by omega) z
      · exact nI_ge (b := 3) (by omega) (by decide) z
  · have e1 : f_sd T n (.inr p) = (0, .inl (1, p)) := if_neg hc
    refine k_Mo_isSide (fun j hj ej => ?_) (fun z => ?_)
    · exfalso
      by_cases h0 : t_c T n (.inr p) = 256 ∨ t_c T n (.inr p) < 97
      · have := zt_v_neg h0 (by decide)
        rw [show nI 97 = 97 from rfl, ej] at this
        exact nI_pos (by omega) this
      · have e2 : zt_v (t_c T n (.inr p)) - 97 = nI (t_c T n (.inr p) - 97) := zt_v_sub (k := 97) (by omega) (by omega)
        rw [e2] at ej
        have := (nI_eq (by omega) (by omega)).mp ej
        omega
    · simp only [↓zq, ↓reduceIte, zr_si2, zr_sr1, zr_cp2, zr_tl, zr_tn, shq, List.contains_nil, List.contains_cons, Nat.reduceBEq, Bool.false_or, Bool.or_false, Bool.true_or, Bool.false_eq_true, if_false, if_true, true_and, and_true, List.set_cons_zero, List.set_cons_succ, List.length_cons, List.length_nil, Nat.reduceAdd, Nat.reduceLeDiff, Nat.le_refl, Nat.zero_le, true_or, or_true, zn_cl, ↓jj_Mo_readsSpan, s5]
      refine ⟨fun z => (by first | exact absurd trivial z | exact absurd rfl z | exact absurd z (by decide)), fun _ => ?_⟩
      refine k_Mo_wrongAt (f := 1) (q := p) ?_
      simp only [↓zq, ↓reduceIte, zr_si2, zr_sr1, zr_cp2, zr_tl, zr_tn, shq, List.contains_nil, List.contains_cons, Nat.reduceBEq, Bool.false_or, Bool.or_false, Bool.true_or, Bool.false_eq_true, if_false, if_true, true_and, and_true, List.set_cons_zero, List.set_cons_succ, List.length_cons, List.length_nil, Nat.reduceAdd, Nat.reduceLeDiff, Nat.le_refl, Nat.zero_le, true_or, or_true, zn_cl, ↓jj_Mo_readsSpan]
      obtain ⟨f3, g3⟩ := zu_n_11 h (t_an (1, p))
      exact hb (1, p) (f_s7_1 (by rw [e1])) _ f3.f g3
