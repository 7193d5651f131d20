/-! rules read by the reference -/
def zr_r (I : Nat → Nat → Int32) (r : zs_Rr) : Prop := I 133 16 = nI r.1 ∧ r.1 ≤ 16 ∧ ∀ q, q < r.1 → I 140 q = nI (r.2 q).1 ∧ I 141 q = nI (r.2 q).2.1 ∧ I 142 q = nI (r.2 q).2.2.1 ∧ I 143 q = nI (r.2 q).2.2.2
def zr_b (h : zm_M) (T : Nat → Nat) (n p : Nat) (c : zl_c) : Prop := zp_mo h.2 ∧ zu_s h T n p ∧ zr_c h.1 c
/-- changed: what reading laws writes -/
def zr_f3 (h h' : zm_M) : Prop := h'.2 = h.2 ∧ (∀ a, a ≠ 133 → (a < 138 ∨ 143 < a) → h'.1 a = h.1 a) ∧ ∀ k, (k < 9 ∨ k = 10 ∨ 16 < k) → h'.1 133 k = h.1 133 k
theorem zr_f3.rf (h : zm_M) : zr_f3 h h := ⟨rfl, fun _ _ _ => rfl, fun _ _ => rfl⟩
theorem zr_f3.tr {h h' h'' : zm_M} (a : zr_f3 h h') (b : zr_f3 h' h'') : zr_f3 h h'' := ⟨b.1.trans a.1, fun x h1 h2 => (b.2.1 x h1 h2).trans (a.2.1 x h1 h2), fun k hk => (b.2.2 k hk).trans (a.2.2 k hk)⟩
theorem zr_f2.f3 {h h' : zm_M} (a : zr_f2 h h') : zr_f3 h h' := ⟨a.1, fun x h1 h2 => a.2.1 x h1 (by omega) (by omega), fun k hk => a.2.2 k (by omega)⟩
theorem zu_n.f3 {h h' : zm_M} (a : zu_n h h') : zr_f3 h h' := a.r.f3
theorem zp_20 {P : Nat → Nat → Option Nat} (hp : zp_mo P) : P 133 20 = some 140 ∧ P 133 21 = some 141 ∧ P 133 22 = some 142 ∧ P 133 23 = some 143 := by
  refine ⟨?_, ?_, ?_, ?_⟩ <;> simp only [hp]
theorem zr_r_f2 {h h' : zm_M} {r : zs_Rr} (hf : zr_f2 h h') (hr : zr_r h.1 r) : zr_r h'.1 r := by
  unfold zr_r
  rw [hf.2.2 16 (by omega), hf.2.1 140 (by omega) (by omega) (by omega), hf.2.1 141 (by omega) (by omega) (by omega), hf.2.1 142 (by omega) (by omega) (by omega), hf.2.1 143 (by omega) (by omega) (by omega)]
  exact hr
set_option maxHeartbeats 4000000 in
set_option maxRecDepth 100000 in
theorem k_Mo_readsRule {d : Nat} {h : zm_M} {R : zm_R} {T : Nat → Nat} {n p : Nat} {c : zl_c} {r : zs_Rr} (hn : n ≤ 240) (hc : c.1 ≤ p) (hs : zr_b h T n p c) (hr : zr_r h.1 r) (hb : ∀ x, p_r3 T n r.1 (.inr p, c) = .inl x → ∀ g', zr_f3 h g' → g'.1 133 11 = t_an x → R (some (.inl 0)) g') (hg : ∀ p', p_r3 T n r.1 (.inr p, c) = .inr p' → ∀ g', zr_f3 h g' → zr_b g' T n p' (p_r2 T n r.1 (.inr p, c)).2 → zr_r g'.1 (p_ra T n r (.inr p, c)) → R (some (.inl 1)) g') : zm_C (d + 8) TT m_Mo_readsRule [.inr (some 133)] h R := by
  obtain ⟨a1, a2, a3⟩ := id hs
  obtain ⟨r1, r2, r3⟩ := id hr
  obtain ⟨p20, p21, p22, p23⟩ := zp_20 a1
  have cl := a2.c_le
  have s5 := a2.2.2.2.2.1
  have pn0 := a2.2.2.2.2.2
  have e109 : (zt_v (t_c T n (.inr p)) = 109) = (t_c T n (.inr p) = 109) := zt_v_eq (k := 109) cl (by decide)
  have e117 : (zt_v (t_c T n (.inr p)) = 117) = (t_c T n (.inr p) = 117) := zt_v_eq (k := 117) cl (by decide)
  have e120 : (zt_v (t_c T n (.inr p)) = 120) = (t_c T n (.inr p) = 120) := zt_v_eq (k := 120) cl (by decide)
  have e16 : (nI r.1 = 16) = (r.1 = 16) := zn_eq (b := 16) (by omega) (by decide)
  have c14 := a3.1
  have at33 : (t_c T n (.inr p) = 109 ∨ t_c T n (.inr p) = 117 ∨ t_c T n (.inr p) = 120) → zm_W (zm_md m_Mo_readsRule) (d + 8) TT R 33 [some (.inr (some 133)), some (.inl (zt_v (t_c T n (.inr p))))] [] h := by
    intro hh
    have pn : p < n := t_c_r_lt (T := T) (by omega)
    by_cases z16 : r.1 = 16
    · have t16 := eq_true z16
      refine zm_go g_Mo_readsRule [33, 110] 30 (by decide +kernel) ok_Mo_readsRule _ rfl ?_
      simp only [↓zq, ↓reduceIte, zr_si2, zr_sr1, zr_cp2, zr_tl, zr_tn, shq, List.contains_nil, List.contains_cons, Nat.reduceBEq, Bool.false_or, Bool.or_false, Bool.true_or, Bool.false_eq_true, if_false, if_true, true_and, and_true, List.set_cons_zero, List.set_cons_succ, List.length_cons, List.length_nil, Nat.reduceAdd, Nat.reduceLeDiff, Nat.le_refl, Nat.zero_le, true_or, or_true, zn_cl, ↓jj_Mo_readsRule, r1, e16, t16, s5]
      simp only [not_false_eq_true, not_true_eq_false, false_imp_iff, true_imp_iff, forall_const, and_true, true_and, and_self, false_or, or_false, Int32.reduceLT, Int32.reduceLE, Int32.reduceSub, Int32.reduceAdd]
      refine k_Mo_wrongAt (f := 4) (q := p) ?_
      simp only [↓zq, ↓reduceIte, zr_si2, zr_sr1, zr_cp2, zr_tl, zr_tn, shq, List.contains_nil, List.contains_cons, Nat.reduceBEq, Bool.false_or, Bool.or_false, Bool.true_or, Bool.false_eq_true, if_false, if_true, true_and, and_true, List.set_cons_zero, List.set_cons_succ, List.length_cons, List.length_nil, Nat.reduceAdd, Nat.reduceLeDiff, Nat.le_refl, Nat.zero_le, true_or, or_true, zn_cl, ↓jj_Mo_readsRule]
      obtain ⟨f4, f5⟩ := zu_n_11 h (t_an (4, p))
      refine hb (4, p) (p_r3_dh ?_) _ f4.f3 f5
      rcases p_hd_r (T := T) (n := n) (m := r.1) (p := p) with ⟨_, _, y, _⟩ | ⟨y, _⟩ | ⟨_, y⟩
      · omega
      · exact y
      · exact absurd hh y
    · have t16 := eq_false z16
      have hhd : p_hd T n r.1 (.inr p) = .inr (p + 1) := by
        rcases p_hd_r (T := T) (n := n) (m := r.1) (p := p) with ⟨y, _⟩ | ⟨_, y, _⟩ | ⟨_, y⟩
        · exact y
        · omega
        · exact absurd hh y
      have ezv : zt_v (t_c T n (.inr p)) = nI (t_c T n (.inr p)) := if_neg (by omega)
      have v1 : vp_in (nI r.1) 16 := vp_in_nI (by omega) (by decide)
      have cr := nI_clamp (show r.1 < 2 ^ 31 by omega)
      obtain ⟨g5, hg5⟩ : ∃ g5 : zm_M, g5 = zm_si (zm_si (zm_si (zm_si (zm_si h 140 r.1 (zt_v (t_c T n (.inr p)))) 133 9 (nI (p + 1))) 141 r.1 (nI c.1)) 133 13 0) 133 15 0 := ⟨_, rfl⟩
      have q2 : g5.2 = h.2 := by rw [hg5]; rfl
      have qI : ∀ a, a ≠ 133 → a ≠ 140 → a ≠ 141 → g5.1 a = h.1 a := fun a h1 h2 h3 => by rw [hg5]; funext j; simp only [zr_si1, h1, h2, h3, false_and, if_false]
      have q0 : ∀ j, j ≠ 9 → j ≠ 13 → j ≠ 15 → g5.1 133 j = h.1 133 j := fun j h1 h2 h3 => by rw [hg5]; simp only [zr_si1, h1, h2, h3, show ¬ (133 : Nat) = 140 by decide, show ¬ (133 : Nat) = 141 by decide, false_and, and_false, if_false]
      have q9 : g5.1 133 9 = nI (p + 1) := by rw [hg5]; simp [zr_si1]
      have q13 : g5.1 133 13 = 0 := by rw [hg5]; simp [zr_si1]
      have q15 : g5.1 133 15 = 0 := by rw [hg5]; simp [zr_si1]
      have q140 : ∀ j, g5.1 140 j = if j = r.1 then nI (t_c T n (.inr p)) else h.1 140 j := fun j => by
        rw [hg5, ← ezv]
        simp only [zr_si1, show ¬ (140 : Nat) = 133 by decide, show ¬ (140 : Nat) = 141 by decide, false_and, if_false, true_and]
      have q141 : ∀ j, g5.1 141 j = if j = r.1 then nI c.1 else h.1 141 j := fun j => by
        rw [hg5]
        simp only [zr_si1, show ¬ (141 : Nat) = 133 by decide, show ¬ (141 : Nat) = 140 by decide, false_and, if_false, true_and]
      have s5' : zr_s g5 T n (p + 1) c [] 0 := by
        obtain ⟨b1, b2, b3, b4, b5, b6⟩ := a2
        refine ⟨by rw [q2]; exact a1, ⟨by rw [q2]; exact b1, by rw [q0 10 (by omega) (by omega) (by omega)]; exact b2, b3, by rw [qI 137 (by omega) (by omega) (by omega)]; exact b4, q9, pn⟩, ?_, ⟨q15, by decide, trivial⟩, q13, by decide⟩
        unfold zr_c
        rw [q0 14 (by omega) (by omega) (by omega), qI 138 (by omega) (by omega) (by omega)]
        exact a3
      have f5 : zr_f3 h g5 := ⟨q2, fun a h1 h2 => qI a h1 (by omega) (by omega), fun j hj => q0 j (by omega) (by omega) (by omega)⟩
      have at110 : ∀ (g6 : zm_M) (q : Nat) (o : Nat), zr_f2 g5 g6 → zr_s g6 T n q (p_r1 T n r.1 (.inr p, c)).2 [] o → (p_r1 T n r.1 (.inr p, c)).1 = .inr q → p < q → (p_r1 T n r.1 (.inr p, c)).2.1 ≤ q → zm_W (zm_md m_Mo_readsRule) (d + 8) TT R 110 [some (.inr (some 133)), some (.inl (zt_v (t_c T n (.inr p))))] [] g6 := by
        intro g6 q o f6 s6 hq1 hpq hcq
        have ecb : p_cb T n (.inr q, (p_r1 T n r.1 (.inr p, c)).2) = (p_r3 T n r.1 (.inr p, c), (p_r2 T n r.1 (.inr p, c)).2) := by
          unfold p_r3 p_r2
          rw [hq1]
          rfl
        have pp22 : g6.2 133 22 = some 142 := by rw [f6.1, q2]; exact p22
        have r16 : g6.1 133 16 = nI r.1 := by rw [f6.2.2 16 (by omega), q0 16 (by omega) (by omega) (by omega)]; exact r1
        have c14' := s6.2.2.1.1
        refine zm_go g_Mo_readsRule [33, 110] 30 (by decide +kernel) ok_Mo_readsRule _ rfl ?_
        simp only [↓zq, ↓reduceIte, zr_si2, zr_sr1, zr_cp2, zr_tl, zr_tn, shq, List.contains_nil, List.contains_cons, Nat.reduceBEq, Bool.false_or, Bool.or_false, Bool.true_or, Bool.false_eq_true, if_false, if_true, true_and, and_true, List.set_cons_zero, List.set_cons_succ, List.length_cons, List.length_nil, Nat.reduceAdd, Nat.reduceLeDiff, Nat.le_refl, Nat.zero_le, true_or, or_true, zn_cl, ↓jj_Mo_readsRule, pp22, r16, v1, cr, c14']
        obtain ⟨g7, hg7⟩ : ∃ g7 : zm_M, g7 = zm_si g6 142 r.1 (nI (p_r1 T n r.1 (.inr p, c)).2.1) := ⟨_, rfl⟩
        rw [← hg7]
        have t2 : g7.2 = g6.2 := by rw [hg7]; rfl
        have tI : ∀ a, a ≠ 142 → g7.1 a = g6.1 a := fun a h1 => by rw [hg7]; funext j; rw [zr_si1, if_neg (fun z => h1 z.1)]
        have t142 : ∀ j, g7.1 142 j = if j = r.1 then nI (p_r1 T n r.1 (.inr p, c)).2.1 else g6.1 142 j := fun j => by
          rw [hg7, zr_si1]
          by_cases z : j = r.1
          · rw [if_pos ⟨rfl, z⟩, if_pos z]
          · rw [if_neg (fun y => z y.2), if_neg z]
        clear hg7
        have s7 : zr_s g7 T n q (p_r1 T n r.1 (.inr p, c)).2 [] o := by
          obtain ⟨y1, y2, y3, y4, y5⟩ := s6
          refine ⟨by rw [t2]; exact y1, zu_s_i y2 t2 (by rw [tI 133 (by omega)]) (by rw [tI 133 (by omega)]) (tI 137 (by omega)), ?_, ?_, ?_⟩
          · unfold zr_c
            rw [tI 133 (by omega), tI 138 (by omega)]
            exact y3
          · unfold zr_w
            rw [tI 133 (by omega), tI 139 (by omega)]
            exact y4
          · rw [tI 133 (by omega)]
            exact y5
        have f7 : zr_f3 h g7 := (f5.tr f6.f3).tr ⟨t2, fun a h1 h2 => tI a (by omega), fun j _ => by rw [tI 133 (by omega)]⟩
        refine k_Mo_readsCondition hn (by omega) hcq s7 (fun x hx g8 f8 h11 => ?_) (fun p' hp' g8 f8 s8 => ?_)
        · rw [ecb] at hx
          simp only [↓zq, ↓reduceIte, zr_si2, zr_sr1, zr_cp2, zr_tl, zr_tn, shq, List.contains_nil, List.contains_cons, Nat.reduceBEq, Bool.false_or, Bool.or_false, Bool.true_or, Bool.false_eq_true, if_false, if_true, true_and, and_true, List.set_cons_zero, List.set_cons_succ, List.length_cons, List.length_nil, Nat.reduceAdd, Nat.reduceLeDiff, Nat.le_refl, Nat.zero_le, true_or, or_true, zn_cl, ↓jj_Mo_readsRule]
          exact ⟨fun z => (by first | exact absurd trivial z | exact absurd rfl z | exact absurd z (by decide)), fun _ => hb x hx g8 (f7.tr f8.f3) h11⟩
        · rw [ecb] at hp' s8
          have pp23 : g8.2 133 23 = some 143 := by rw [f8.1, t2, f6.1, q2]; exact p23
          have r16' : g8.1 133 16 = nI r.1 := by rw [f8.2.2 16 (by omega), tI 133 (by omega)]; exact r16
          have c14'' := s8.2.2.1.1
          simp only [↓zq, ↓reduceIte, zr_si2, zr_sr1, zr_cp2, zr_tl, zr_tn, shq, List.contains_nil, List.contains_cons, Nat.reduceBEq, Bool.false_or, Bool.or_false, Bool.true_or, Bool.false_eq_true, if_false, if_true, true_and, and_true, List.set_cons_zero, List.set_cons_succ, List.length_cons, List.length_nil, Nat.reduceAdd, Nat.reduceLeDiff, Nat.le_refl, Nat.zero_le, true_or, or_true, zn_cl, ↓jj_Mo_readsRule, pp23, r16', v1, cr, c14'']
          simp only [zr_si1, show ¬ (133 : Nat) = 143 by decide, false_and, if_false, r16', nI_1]
          refine ⟨fun _ => ?_, fun z => absurd z (by decide)⟩
          obtain ⟨g9, hg9⟩ : ∃ g9 : zm_M, g9 = zm_si (zm_si g8 143 r.1 (nI (p_r2 T n r.1 (.inr p, c)).2.1)) 133 16 (nI (r.1 + 1)) := ⟨_, rfl⟩
          rw [← hg9]
          have w2 : g9.2 = g8.2 := by rw [hg9]; rfl
          have wI : ∀ a, a ≠ 133 → a ≠ 143 → g9.1 a = g8.1 a := fun a h1 h2 => by rw [hg9]; funext j; rw [zr_si1, if_neg (fun z => h1 z.1), zr_si1, if_neg (fun z => h2 z.1)]
          have w0 : ∀ j, j ≠ 16 → g9.1 133 j = g8.1 133 j := fun j hj => by rw [hg9, zr_si1, if_neg (fun z => hj z.2), zr_si1, if_neg (by omega)]
          have w16 : g9.1 133 16 = nI (r.1 + 1) := by rw [hg9, zr_si1, if_pos ⟨rfl, rfl⟩]
          have w143 : ∀ j, g9.1 143 j = if j = r.1 then nI (p_r2 T n r.1 (.inr p, c)).2.1 else g8.1 143 j := fun j => by
            rw [hg9, zr_si1, if_neg (by omega), zr_si1]
            by_cases z : j = r.1
            · rw [if_pos ⟨rfl, z⟩, if_pos z]
            · rw [if_neg (fun y => z y.2), if_neg z]
          clear hg9
          refine hg p' hp' g9 ((f7.tr f8.f3).tr ⟨w2, fun a h1 h2 => wI a h1 (by omega), fun j hj => w0 j (by omega)⟩) ⟨by rw [w2]; exact s8.1, zu_s_i s8.2.1 w2 (w0 9 (by omega)) (w0 10 (by omega)) (wI 137 (by omega) (by omega)), ?_⟩ ?_
          · unfold zr_c
            rw [w0 14 (by omega), wI 138 (by omega) (by omega)]
            exact s8.2.2.1
          · have era : p_ra T n r (.inr p, c) = (r.1 + 1, fun q => if q = r.1 then (t_c T n (.inr p), c.1, (p_r1 T n r.1 (.inr p, c)).2.1, (p_r2 T n r.1 (.inr p, c)).2.1) else r.2 q) := if_pos (by omega)
            rw [era]
            refine ⟨w16, by dsimp only; omega, fun j hj => ?_⟩
            have hj' : j < r.1 + 1 := hj
            dsimp only
            rw [wI 140 (by omega) (by omega), wI 141 (by omega) (by omega), wI 142 (by omega) (by omega), w143, f8.2.1 140 (by omega) (by omega) (by omega), f8.2.1 141 (by omega) (by omega) (by omega), f8.2.1 142 (by omega) (by omega) (by omega), f8.2.1 143 (by omega) (by omega) (by omega), tI 140 (by omega), tI 141 (by omega), t142, tI 143 (by omega), f6.2.1 140 (by omega) (by omega) (by omega), f6.2.1 141 (by omega) (by omega) (by omega), f6.2.1 142 (by omega) (by omega) (by omega), f6.2.1 143 (by omega) (by omega) (by omega), q140, q141, qI 142 (by omega) (by omega) (by omega), qI 143 (by omega) (by omega) (by omega)]
            by_cases z : j = r.1
            · rw [if_pos z, if_pos z, if_pos z, if_pos z, if_pos z]
              exact ⟨rfl, rfl, rfl, rfl⟩
            · rw [if_neg z, if_neg z, if_neg z, if_neg z, if_neg z]
              exact r3 j (by omega)
      refine zm_go g_Mo_readsRule [33, 110] 30 (by decide +kernel) ok_Mo_readsRule _ rfl ?_
      simp only [↓zq, ↓reduceIte, zr_si2, zr_sr1, zr_cp2, zr_tl, zr_tn, shq, List.contains_nil, List.contains_cons, Nat.reduceBEq, Bool.false_or, Bool.or_false, Bool.true_or, Bool.false_eq_true, if_false, if_true, true_and, and_true, List.set_cons_zero, List.set_cons_succ, List.length_cons, List.length_nil, Nat.reduceAdd, Nat.reduceLeDiff, Nat.le_refl, Nat.zero_le, true_or, or_true, zn_cl, ↓jj_Mo_readsRule, r1, e16, t16, p20, p21, v1, cr, e120]
      simp only [zr_si1, show ¬ (133 : Nat) = 140 by decide, show ¬ (133 : Nat) = 141 by decide, Nat.reduceEqDiff, false_and, and_false, if_false, r1, s5, c14, nI_1, v1, cr]
      simp only [not_false_eq_true, not_true_eq_false, false_imp_iff, true_imp_iff, forall_const, and_true, true_and, and_self, false_or, or_false, Int32.reduceLT, Int32.reduceLE, Int32.reduceSub, Int32.reduceAdd]
      rw [← hg5]
      clear hg5
      refine ⟨fun z => ?_, fun z => ?_⟩
      · have e1 : p_r1 T n r.1 (.inr p, c) = (.inr (p + 1), c) := by
          unfold p_r1
          dsimp only
          rw [if_pos z, hhd]
        refine at110 g5 (p + 1) 0 (zr_f2.rf g5) (by rw [e1]; exact s5') (by rw [e1]) (by omega) (by rw [e1]; dsimp only; omega)
      · have e1 : p_r1 T n r.1 (.inr p, c) = p_sum T n 6 (.inr (p + 1), c) := by
          unfold p_r1
          dsimp only
          rw [if_neg z, hhd]
        refine k_Mo_readsSum (dp := 6) hn (by decide) (show 1 ≤ p + 1 by omega) (by show c.1 + 0 ≤ p + 1; omega) (by show 0 ≤ p + 1; omega) (fun x r e => by cases e) s5' (fun x hx g6 f6 h11 => ?_) (fun q hq g6 f6 s6 => ?_)
        · simp only [↓zq, ↓reduceIte, zr_si2, zr_sr1, zr_cp2, zr_tl, zr_tn, shq, List.contains_nil, List.contains_cons, Nat.reduceBEq, Bool.false_or, Bool.or_false, Bool.true_or, Bool.false_eq_true, if_false, if_true, true_and, and_true, List.set_cons_zero, List.set_cons_succ, List.length_cons, List.length_nil, Nat.reduceAdd, Nat.reduceLeDiff, Nat.le_refl, Nat.zero_le, true_or, or_true, zn_cl, ↓jj_Mo_readsRule]
          exact ⟨fun z => (by first | exact absurd trivial z | exact absurd rfl z | exact absurd z (by decide)), fun _ => hb x (p_r3_d1 (by rw [e1]; exact hx)) g6 (f5.tr f6.f3) h11⟩
        · obtain ⟨⟨y1, y2, y3, y4, y5⟩, _⟩ := p_sum_ok hn 6 (p + 1) c q [] (by omega) pn hn (by omega) hq
          simp only [↓zq, ↓reduceIte, zr_si2, zr_sr1, zr_cp2, zr_tl, zr_tn, shq, List.contains_nil, List.contains_cons, Nat.reduceBEq, Bool.false_or, Bool.or_false, Bool.true_or, Bool.false_eq_true, if_false, if_true, true_and, and_true, List.set_cons_zero, List.set_cons_succ, List.length_cons, List.length_nil, Nat.reduceAdd, Nat.reduceLeDiff, Nat.le_refl, Nat.zero_le, true_or, or_true, zn_cl, ↓jj_Mo_readsRule]
          refine ⟨fun _ => ?_, fun z => absurd z (by decide)⟩
          exact at110 g6 q 0 f6 (by rw [e1]; exact s6) (by rw [e1]; exact hq) (by omega) (by rw [e1]; omega)
  refine st_Mo_readsRule [33, 110] 30 ?_
  simp only [↓zq, ↓reduceIte, zr_si2, zr_sr1, zr_cp2, zr_tl, zr_tn, shq, List.contains_nil, List.contains_cons, Nat.reduceBEq, Bool.false_or, Bool.or_false, Bool.true_or, Bool.false_eq_true, if_false, if_true, true_and, and_true, List.set_cons_zero, List.set_cons_succ, List.length_cons, List.length_nil, Nat.reduceAdd, Nat.reduceLeDiff, Nat.le_refl, Nat.zero_le, true_or, or_true, zn_cl, ↓jj_Mo_readsRule]
  refine k_Mo_here a2 ?_
  simp only [↓zq, ↓reduceIte, zr_si2, zr_sr1, zr_cp2, zr_tl, zr_tn, shq, List.contains_nil, List.contains_cons, Nat.reduceBEq, Bool.false_or, Bool.or_false, Bool.true_or, Bool.false_eq_true, if_false, if_true, true_and, and_true, List.set_cons_zero, List.set_cons_succ, List.length_cons, List.length_nil, Nat.reduceAdd, Nat.reduceLeDiff, Nat.le_refl, Nat.zero_le, true_or, or_true, zn_cl, ↓jj_Mo_readsRule, e109, e117, e120, s5]
  refine ⟨fun z => at33 (Or.inl z), fun z1 => ⟨fun z => at33 (Or.inr (Or.inl z)), fun z2 => ⟨fun z => at33 (Or.inr (Or.inr z)), fun z3 => ?_⟩⟩⟩
  refine k_Mo_wrongAt (f := 1) (q := p) ?_
  simp only [↓zq, ↓reduceIte, zr_si2, zr_sr1, zr_cp2, zr_tl, zr_tn, shq, List.contains_nil, List.contains_cons, Nat.reduceBEq, Bool.false_or, Bool.or_false, Bool.true_or, Bool.false_eq_true, if_false, if_true, true_and, and_true, List.set_cons_zero, List.set_cons_succ, List.length_cons, List.length_nil, Nat.reduceAdd, Nat.reduceLeDiff, Nat.le_refl, Nat.zero_le, true_or, or_true, zn_cl, ↓jj_Mo_readsRule]
  obtain ⟨f4, f5⟩ := zu_n_11 h (t_an (1, p))
  refine hb (1, p) (p_r3_dh ?_) _ f4.f3 f5
  rcases p_hd_r (T := T) (n := n) (m := r.1) (p := p) with ⟨_, _, _, y⟩ | ⟨_, _, y⟩ | ⟨y, _⟩
  · omega
  · omega
  · exact y
