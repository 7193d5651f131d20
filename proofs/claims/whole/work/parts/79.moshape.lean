/-! shapes read by the reference -/
theorem f_dg_i {T : Nat → Nat} {n m : Nat} {e : zt_S} {x : Nat × Nat} (hm : m ≤ 9) (h : e = .inl x) : (f_dg T n m e).2 = .inl x := by subst h; rw [f_dg_d T n hm]
theorem f_lv_i {T : Nat → Nat} {n m : Nat} {e : zt_S} {x : Nat × Nat} (hm : m ≤ 9) (h : e = .inl x) : (f_lv T n m e).2 = .inl x := by subst h; rw [f_lv_d T n hm]
theorem t_tk_i {T : Nat → Nat} {n c : Nat} {e : zt_S} {x : Nat × Nat} (hc : c < 256) (h : e = .inl x) : t_tk T n c e = .inl x := by subst h; exact t_tk_d T n hc x
theorem f_ln_4 {T : Nat → Nat} {n told : Nat} {e : zt_S} {x : Nat × Nat} (h : t_tk T n 61 (f_ln_e T n told e) = .inl x) : (f_ln_c T n told e).2 = .inl x := f_dg_i (by decide) h
theorem f_ln_3 {T : Nat → Nat} {n told : Nat} {e : zt_S} {x : Nat × Nat} (h : f_ln_e T n told e = .inl x) : (f_ln_c T n told e).2 = .inl x := f_ln_4 (t_tk_i (by decide) h)
theorem f_ln_2 {T : Nat → Nat} {n told : Nat} {e : zt_S} {x : Nat × Nat} (h : (f_dg T n 7 (f_sd T n e).2).2 = .inl x) : (f_ln_c T n told e).2 = .inl x := by
  apply f_ln_3
  unfold f_ln_e
  rw [h]
  split <;> rfl
theorem f_ln_1 {T : Nat → Nat} {n told : Nat} {e : zt_S} {x : Nat × Nat} (h : (f_sd T n e).2 = .inl x) : (f_ln_c T n told e).2 = .inl x := f_ln_2 (f_dg_i (by decide) h)
/-- changed: place, fault, number, what is told, lines, the new coarse ones, the new row -/
def zu_f (h h' : zm_M) : Prop := h'.2 = h.2 ∧ (∀ a, a ≠ 133 → a ≠ 151 → a ≠ 152 → h'.1 a = h.1 a) ∧ ∀ k, k ≠ 9 → k ≠ 11 → k ≠ 12 → k ≠ 32 → k ≠ 33 → h'.1 133 k = h.1 133 k
theorem zu_f.rf (h : zm_M) : zu_f h h := ⟨rfl, fun _ _ _ _ => rfl, fun _ _ _ _ _ _ => rfl⟩
theorem zu_f.tr {h h' h'' : zm_M} (a : zu_f h h') (b : zu_f h' h'') : zu_f h h'' := ⟨b.1.trans a.1, fun x h1 h2 h3 => (b.2.1 x h1 h2 h3).trans (a.2.1 x h1 h2 h3), fun k h1 h2 h3 h4 h5 => (b.2.2 k h1 h2 h3 h4 h5).trans (a.2.2 k h1 h2 h3 h4 h5)⟩
theorem zu_n.f {h h' : zm_M} (a : zu_n h h') : zu_f h h' := ⟨a.1, fun x h1 _ _ => a.2.1 x h1, fun k h1 h2 h3 _ _ => a.2.2 k h1 h2 h3⟩
theorem zu_f.s0 {h h' : zm_M} (a : zu_f h h') (k : Nat) (hk : k = 9 ∨ k = 11 ∨ k = 12 ∨ k = 32 ∨ k = 33) (x : Int32) : zu_f h (zm_si h' 133 k x) := ⟨a.1, fun q h1 h2 h3 => by funext j; rw [zr_si1, if_neg (fun z => h1 z.1), a.2.1 q h1 h2 h3], fun j h1 h2 h3 h4 h5 => by rw [zr_si1, if_neg (by omega), a.2.2 j h1 h2 h3 h4 h5]⟩
theorem zu_f.s1 {h h' : zm_M} (a : zu_f h h') (c k : Nat) (hc : c = 151 ∨ c = 152) (x : Int32) : zu_f h (zm_si h' c k x) := ⟨a.1, fun q h1 h2 h3 => by funext j; rw [zr_si1, if_neg (by omega), a.2.1 q h1 h2 h3], fun j h1 h2 h3 h4 h5 => by rw [zr_si1, if_neg (by omega), a.2.2 j h1 h2 h3 h4 h5]⟩
theorem zu_s_i {h h' : zm_M} {T : Nat → Nat} {n p : Nat} (hs : zu_s h T n p) (h2 : h'.2 = h.2) (h9 : h'.1 133 9 = h.1 133 9) (h10 : h'.1 133 10 = h.1 133 10) (h3 : h'.1 137 = h.1 137) : zu_s h' T n p := by
  unfold zu_s at *
  rw [h2, h9, h10, h3]
  exact hs
theorem zs_or31 {a i : Nat} (ha : a < 2 ^ 24) (hi : i < 24) : a ||| 2 ^ i < 2 ^ 31 := Nat.lt_trans (zs_or24 ha hi) (by decide)
set_option maxHeartbeats 4000000 in
set_option maxRecDepth 100000 in
theorem k_Mo_readsCoarse {d : Nat} {h : zm_M} {R : zm_R} {T : Nat → Nat} {n p told l : Nat} {sp : Nat → Nat} (hp : zp_mo h.2) (hs : zu_s h T n p) (ht : h.1 133 32 = nI told) (htl : told < 2 ^ 24) (hl : h.1 133 33 = nI l) (hsp : ∀ k, k < 24 → h.1 151 k = nI (sp k)) (hb : ∀ x, (f_ln_c T n told (.inr p)).2 = .inl x → ∀ h' : zm_M, zu_f h h' → h'.1 133 11 = t_an x → R (some (.inl 0)) h') (hg : ∀ p', (f_ln_c T n told (.inr p)).2 = .inr p' → ∀ h' : zm_M, zu_f h h' → zu_s h' T n p' → h'.1 133 32 = nI (told ||| 2 ^ f_ln_ix T n (.inr p)) → h'.1 133 33 = nI (l + 1) → (∀ k, k < 24 → h'.1 151 k = nI (f_ln_s T n told sp (.inr p) k)) → R (some (.inl 1)) h') : zm_C (d + 3) TT m_Mo_readsCoarse [.inr (some 133)] h R := by
  have s5 := hs.2.2.2.2.1
  have cl := hs.c_le
  have ixl := f_ln_lt T n (.inr p)
  refine st_Mo_readsCoarse [] 30 ?_
  simp only [↓zq, ↓reduceIte, zr_si2, zr_sr1, zr_cp2, zr_tl, zr_tn, shq, List.contains_nil, List.contains_cons, Nat.reduceBEq, Bool.false_or, Bool.or_false, Bool.true_or, Bool.false_eq_true, if_false, if_true, true_and, and_true, List.set_cons_zero, List.set_cons_succ, List.length_cons, List.length_nil, Nat.reduceAdd, Nat.reduceLeDiff, Nat.le_refl, Nat.zero_le, true_or, or_true, zn_cl, ↓jj_Mo_readsCoarse, s5]
  refine k_Mo_here hs ?_
  simp only [↓zq, ↓reduceIte, zr_si2, zr_sr1, zr_cp2, zr_tl, zr_tn, shq, List.contains_nil, List.contains_cons, Nat.reduceBEq, Bool.false_or, Bool.or_false, Bool.true_or, Bool.false_eq_true, if_false, if_true, true_and, and_true, List.set_cons_zero, List.set_cons_succ, List.length_cons, List.length_nil, Nat.reduceAdd, Nat.reduceLeDiff, Nat.le_refl, Nat.zero_le, true_or, or_true, zn_cl, ↓jj_Mo_readsCoarse]
  by_cases hc : 97 ≤ t_c T n (.inr p) ∧ t_c T n (.inr p) < 100
  · have e1 : f_sd T n (.inr p) = (t_c T n (.inr p) - 97, .inr (p + 1)) := if_pos hc
    rw [show zt_v (t_c T n (.inr p)) - 97 = nI (t_c T n (.inr p) - 97) from zt_v_sub (k := 97) (by omega) hc.1]
    obtain ⟨sd, hsd⟩ : ∃ sd, sd = t_c T n (.inr p) - 97 := ⟨_, rfl⟩
    rw [← hsd] at e1 ⊢
    have sd3 : sd < 3 := by omega
    refine k_Mo_isSide (fun j hj ej => ?_) (fun z => ?_)
    · simp only [↓zq, ↓reduceIte, zr_si2, zr_sr1, zr_cp2, zr_tl, zr_tn, shq, List.contains_nil, List.contains_cons, Nat.reduceBEq, Bool.false_or, Bool.or_false, Bool.true_or, Bool.false_eq_true, if_false, if_true, true_and, and_true, List.set_cons_zero, List.set_cons_succ, List.length_cons, List.length_nil, Nat.reduceAdd, Nat.reduceLeDiff, Nat.le_refl, Nat.zero_le, true_or, or_true, zn_cl, ↓jj_Mo_readsCoarse, s5, nI_1]
      refine ⟨fun _ => ?_, fun z => absurd z (by decide)⟩
      have f1 := (zu_n.rf h).s 9 (by omega) (nI (p + 1))
      have s1 : zu_s (zm_si h 133 9 (nI (p + 1))) T n (p + 1) := zu_s_n hs f1 (by rw [zr_si1, if_pos ⟨rfl, rfl⟩]) (t_c_r_lt (T := T) (by omega))
      have eix : f_ln_ix T n (.inr p) = 8 * sd + (f_dg T n 7 (.inr (p + 1))).1 := by unfold f_ln_ix; rw [e1]
      refine k_Mo_readsDigit (m := 7) s1 (by decide) (fun x hx h2 f2 h11 => ?_) (fun hx h2 f2 s2 h12 => ?_)
      · simp only [↓zq, ↓reduceIte, zr_si2, zr_sr1, zr_cp2, zr_tl, zr_tn, shq, List.contains_nil, List.contains_cons, Nat.reduceBEq, Bool.false_or, Bool.or_false, Bool.true_or, Bool.false_eq_true, if_false, if_true, true_and, and_true, List.set_cons_zero, List.set_cons_succ, List.length_cons, List.length_nil, Nat.reduceAdd, Nat.reduceLeDiff, Nat.le_refl, Nat.zero_le, true_or, or_true, zn_cl, ↓jj_Mo_readsCoarse]
        exact ⟨fun z => (by first | exact absurd trivial z | exact absurd rfl z | exact absurd z (by decide)), fun _ => hb x (f_ln_2 (by rw [e1]; exact hx)) h2 (f1.tr f2).f h11⟩
      · have f2 := f1.tr f2
        have ht2 : h2.1 133 32 = nI told := by rw [f2.2.2 32 (by omega) (by omega) (by omega)]; exact ht
        have e8 : (8 : Int32) * nI sd + nI (f_dg T n 7 (.inr (p + 1))).1 = nI (f_ln_ix T n (.inr p)) := by rw [eix]; exact zn_8s
        simp only [↓zq, ↓reduceIte, zr_si2, zr_sr1, zr_cp2, zr_tl, zr_tn, shq, List.contains_nil, List.contains_cons, Nat.reduceBEq, Bool.false_or, Bool.or_false, Bool.true_or, Bool.false_eq_true, if_false, if_true, true_and, and_true, List.set_cons_zero, List.set_cons_succ, List.length_cons, List.length_nil, Nat.reduceAdd, Nat.reduceLeDiff, Nat.le_refl, Nat.zero_le, true_or, or_true, zn_cl, ↓jj_Mo_readsCoarse, h12, ht2, e8]
        refine ⟨fun _ => ?_, fun z => absurd z (by decide)⟩
        refine k_Mo_hasN (by omega) (by omega) ?_
        simp only [↓zq, ↓reduceIte, zr_si2, zr_sr1, zr_cp2, zr_tl, zr_tn, shq, List.contains_nil, List.contains_cons, Nat.reduceBEq, Bool.false_or, Bool.or_false, Bool.true_or, Bool.false_eq_true, if_false, if_true, true_and, and_true, List.set_cons_zero, List.set_cons_succ, List.length_cons, List.length_nil, Nat.reduceAdd, Nat.reduceLeDiff, Nat.le_refl, Nat.zero_le, true_or, or_true, zn_cl, ↓jj_Mo_readsCoarse]
        by_cases tb : told.testBit (f_ln_ix T n (.inr p)) = true
        · rw [if_pos tb]
          refine ⟨fun z => absurd z (by decide), fun _ => ?_⟩
          refine k_Mo_wrongAt (f := 6) (q := p) ?_
          simp only [↓zq, ↓reduceIte, zr_si2, zr_sr1, zr_cp2, zr_tl, zr_tn, shq, List.contains_nil, List.contains_cons, Nat.reduceBEq, Bool.false_or, Bool.or_false, Bool.true_or, Bool.false_eq_true, if_false, if_true, true_and, and_true, List.set_cons_zero, List.set_cons_succ, List.length_cons, List.length_nil, Nat.reduceAdd, Nat.reduceLeDiff, Nat.le_refl, Nat.zero_le, true_or, or_true, zn_cl, ↓jj_Mo_readsCoarse]
          obtain ⟨f3, g3⟩ := zu_n_11 h2 (t_an (6, p))
          refine hb (6, p) (f_ln_3 ?_) _ (f2.tr f3).f g3
          unfold f_ln_e
          rw [if_pos tb, e1]
          dsimp only
          rw [hx]
          rfl
        · have ee : f_ln_e T n told (.inr p) = .inr (p + 1 + 1) := by
            unfold f_ln_e
            rw [if_neg tb, e1]
            exact hx
          rw [if_neg tb]
          refine ⟨fun _ => ?_, fun z => (by first | exact absurd trivial z | exact absurd rfl z | exact absurd z (by decide))⟩
          rw [ht2, zn_s1 _ (by omega), zn_or]
          obtain ⟨h3, hh3⟩ : ∃ h3 : zm_M, h3 = zm_si h2 133 32 (nI (told ||| 2 ^ f_ln_ix T n (.inr p))) := ⟨_, rfl⟩
          rw [← hh3]
          have f3 : zu_f h h3 := by subst hh3; exact f2.f.s0 32 (by omega) _
          have s3 : zu_s h3 T n (p + 1 + 1) := by subst hh3; exact zu_s_i s2 rfl (by rw [zr_si1, if_neg (by omega)]) (by rw [zr_si1, if_neg (by omega)]) (by funext j; rw [zr_si1, if_neg (by omega)])
          have t3 : h3.1 133 32 = nI (told ||| 2 ^ f_ln_ix T n (.inr p)) := by subst hh3; rw [zr_si1, if_pos ⟨rfl, rfl⟩]
          have l3 : h3.1 133 33 = nI l := by subst hh3; rw [zr_si1, if_neg (by omega), f2.2.2 33 (by omega) (by omega) (by omega)]; exact hl
          have c3 : ∀ k, k < 24 → h3.1 151 k = nI (sp k) := fun k hk => by subst hh3; rw [zr_si1, if_neg (by omega), f2.2.1 151 (by omega)]; exact hsp k hk
          clear hh3
          refine k_Mo_takes (c := 61) s3 (by decide) (fun x hx h4 f4 h11 => ?_) (fun hx4 h4 f4 s4 => ?_)
          · simp only [↓zq, ↓reduceIte, zr_si2, zr_sr1, zr_cp2, zr_tl, zr_tn, shq, List.contains_nil, List.contains_cons, Nat.reduceBEq, Bool.false_or, Bool.or_false, Bool.true_or, Bool.false_eq_true, if_false, if_true, true_and, and_true, List.set_cons_zero, List.set_cons_succ, List.length_cons, List.length_nil, Nat.reduceAdd, Nat.reduceLeDiff, Nat.le_refl, Nat.zero_le, true_or, or_true, zn_cl, ↓jj_Mo_readsCoarse]
            refine ⟨fun _ => hb x (f_ln_4 (by rw [ee]; exact hx)) h4 (f3.tr f4.f) h11, fun z => (by first | exact absurd trivial z | exact absurd rfl z | exact absurd z (by decide))⟩
          · simp only [↓zq, ↓reduceIte, zr_si2, zr_sr1, zr_cp2, zr_tl, zr_tn, shq, List.contains_nil, List.contains_cons, Nat.reduceBEq, Bool.false_or, Bool.or_false, Bool.true_or, Bool.false_eq_true, if_false, if_true, true_and, and_true, List.set_cons_zero, List.set_cons_succ, List.length_cons, List.length_nil, Nat.reduceAdd, Nat.reduceLeDiff, Nat.le_refl, Nat.zero_le, true_or, or_true, zn_cl, ↓jj_Mo_readsCoarse]
            refine ⟨fun z => absurd z (by decide), fun _ => ?_⟩
            have ec : f_ln_c T n told (.inr p) = f_dg T n 3 (.inr (p + 1 + 1 + 1)) := by unfold f_ln_c; rw [ee, hx4]
            refine k_Mo_readsDigit (m := 3) s4 (by decide) (fun x hx h5 f5 h11 => ?_) (fun hx5 h5 f5 s5 h12 => ?_)
            · simp only [↓zq, ↓reduceIte, zr_si2, zr_sr1, zr_cp2, zr_tl, zr_tn, shq, List.contains_nil, List.contains_cons, Nat.reduceBEq, Bool.false_or, Bool.or_false, Bool.true_or, Bool.false_eq_true, if_false, if_true, true_and, and_true, List.set_cons_zero, List.set_cons_succ, List.length_cons, List.length_nil, Nat.reduceAdd, Nat.reduceLeDiff, Nat.le_refl, Nat.zero_le, true_or, or_true, zn_cl, ↓jj_Mo_readsCoarse]
              exact ⟨fun z => (by first | exact absurd trivial z | exact absurd rfl z | exact absurd z (by decide)), fun _ => hb x (by rw [ec]; exact hx) h5 (f3.tr (f4.tr f5).f) h11⟩
            · have f45 := f4.tr f5
              have q31 : h5.2 133 31 = some 151 := by rw [f45.1, f3.1]; simp only [hp]
              have v1 : vp_in (nI (f_ln_ix T n (.inr p))) 24 := vp_in_nI ixl (by decide)
              have c1 := nI_clamp (show f_ln_ix T n (.inr p) < 2 ^ 31 by omega)
              have l5 : h5.1 133 33 = nI l := by rw [f45.2.2 33 (by omega) (by omega) (by omega)]; exact l3
              simp only [↓zq, ↓reduceIte, zr_si2, zr_sr1, zr_cp2, zr_tl, zr_tn, shq, List.contains_nil, List.contains_cons, Nat.reduceBEq, Bool.false_or, Bool.or_false, Bool.true_or, Bool.false_eq_true, if_false, if_true, true_and, and_true, List.set_cons_zero, List.set_cons_succ, List.length_cons, List.length_nil, Nat.reduceAdd, Nat.reduceLeDiff, Nat.le_refl, Nat.zero_le, true_or, or_true, zn_cl, ↓jj_Mo_readsCoarse, q31, v1, c1, h12]
              simp only [zr_si1, show ¬ (133 : Nat) = 151 by decide, false_and, if_false, l5, nI_1]
              refine ⟨fun _ => ?_, fun z => absurd z (by decide)⟩
              refine hg (p + 1 + 1 + 1 + 1) (by rw [ec]; exact hx5) _ (((f3.tr f45.f).s1 151 _ (by omega) _).s0 33 (by omega) _) (zu_s_i s5 rfl ?_ ?_ ?_) ?_ ?_ (fun k hk => ?_)
              · rw [zr_si1, if_neg (by omega), zr_si1, if_neg (by omega)]
              · rw [zr_si1, if_neg (by omega), zr_si1, if_neg (by omega)]
              · funext j; rw [zr_si1, if_neg (by omega), zr_si1, if_neg (by omega)]
              · rw [zr_si1, if_neg (by omega), zr_si1, if_neg (by omega), f45.2.2 32 (by omega) (by omega) (by omega)]
                exact t3
              · rw [zr_si1, if_pos ⟨rfl, rfl⟩]
              · rw [zr_si1, if_neg (by omega), zr_si1]
                unfold f_ln_s
                by_cases z : k = f_ln_ix T n (.inr p)
                · rw [if_pos ⟨rfl, z⟩, if_pos z, ec]
                · rw [if_neg (fun q => z q.2), if_neg z, f45.2.1 151 (by omega)]
                  exact c3 k hk
    · exfalso
      rcases z with z | z
      · exact nI_pos (by omega) z
      · exact nI_ge (b := 3) (by omega) (by decide) z
  · have e1 : f_sd T n (.inr p) = (0, .inl (1, p)) := if_neg hc
    refine k_Mo_isSide (fun j hj ej => ?_) (fun z => ?_)
    · exfalso
      by_cases h0 : t_c T n (.inr p) = 256 ∨ t_c T n (.inr p) < 97
      · have := zt_v_neg h0 (by decide)
        rw [show nI 97 = 97 from rfl, ej] at this
        exact nI_pos (by omega) this
      · have e2 : zt_v (t_c T n (.inr p)) - 97 = nI (t_c T n (.inr p) - 97) := zt_v_sub (k := 97) (by omega) (by omega)
        rw [e2] at ej
        have := (nI_eq (by omega) (by omega)).mp ej
        omega
    · simp only [↓zq, ↓reduceIte, zr_si2, zr_sr1, zr_cp2, zr_tl, zr_tn, shq, List.contains_nil, List.contains_cons, Nat.reduceBEq, Bool.false_or, Bool.or_false, Bool.true_or, Bool.false_eq_true, if_false, if_true, true_and, and_true, List.set_cons_zero, List.set_cons_succ, List.length_cons, List.length_nil, Nat.reduceAdd, Nat.reduceLeDiff, Nat.le_refl, Nat.zero_le, true_or, or_true, zn_cl, ↓jj_Mo_readsCoarse, s5]
      refine ⟨fun z => (by first | exact absurd trivial z | exact absurd rfl z | exact absurd z (by decide)), fun _ => ?_⟩
      refine k_Mo_wrongAt (f := 1) (q := p) ?_
      simp only [↓zq, ↓reduceIte, zr_si2, zr_sr1, zr_cp2, zr_tl, zr_tn, shq, List.contains_nil, List.contains_cons, Nat.reduceBEq, Bool.false_or, Bool.or_false, Bool.true_or, Bool.false_eq_true, if_false, if_true, true_and, and_true, List.set_cons_zero, List.set_cons_succ, List.length_cons, List.length_nil, Nat.reduceAdd, Nat.reduceLeDiff, Nat.le_refl, Nat.zero_le, true_or, or_true, zn_cl, ↓jj_Mo_readsCoarse]
      obtain ⟨f3, g3⟩ := zu_n_11 h (t_an (1, p))
      exact hb (1, p) (f_ln_1 (by rw [e1])) _ f3.f g3
