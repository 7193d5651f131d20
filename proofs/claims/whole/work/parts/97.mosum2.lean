/-! sums read by the reference -/
theorem zr_sk_at {g : Nat → Int32} : ∀ (a : zr_K) (x : Nat × Nat) (b : zr_K), zr_sk g (a ++ x :: b) → g b.length = nI (1048576 * x.1 + x.2) ∧ x.1 ≤ 14 ∧ x.2 < 1048576
  | [], x, b, h => ⟨h.1, h.2.1, h.2.2.1⟩
  | y :: a, x, b, h => zr_sk_at a x b h.2.2.2
set_option maxHeartbeats 4000000 in
set_option maxRecDepth 100000 in
theorem k_Mo_hasOpenSum {d : Nat} {h : zm_M} {R : zm_R} {T : Nat → Nat} {n p o : Nat} {c : zl_c} {u bs : zr_K} (hs : zr_s h T n p c (u ++ bs) o) (h1 : (∃ x ∈ u, x.1 = 14) → R (some (.inl 1)) h) (h0 : (∀ x ∈ u, x.1 ≠ 14) → R (some (.inl 0)) h) : zm_C (d + 1) TT m_Mo_hasOpenSum [.inr (some 133), .inl (nI bs.length)] h R := by
  obtain ⟨a1, a2, a3, ⟨a4, a5, a6⟩, a7⟩ := id hs
  have p19 : h.2 133 19 = some 139 := by simp only [a1]
  have loop : ∀ (j : Nat) (a y : zr_K), a.length = j → u = a ++ y → (∀ x ∈ y, x.1 ≠ 14) → zm_W (zm_md m_Mo_hasOpenSum) (d + 1) TT R 2 [some (.inr (some 133)), some (.inl (nI bs.length)), some (.inl (nI (y.length + bs.length)))] [] h := by
    intro j
    induction j with
    | zero =>
      intro a y ha hu hy
      have : a = [] := List.eq_nil_of_length_eq_zero ha
      subst this
      have hu' : u = y := hu
      have el : h.1 133 15 = nI (y.length + bs.length) := by rw [a4, hu', List.length_append]
      refine zm_go g_Mo_hasOpenSum [2] 30 (by decide +kernel) ok_Mo_hasOpenSum _ rfl ?_
      simp only [↓zq, ↓reduceIte, zr_si2, zr_sr1, zr_cp2, zr_tl, zr_tn, shq, List.contains_nil, List.contains_cons, Nat.reduceBEq, Bool.false_or, Bool.or_false, Bool.true_or, Bool.false_eq_true, if_false, if_true, true_and, and_true, List.set_cons_zero, List.set_cons_succ, List.length_cons, List.length_nil, Nat.reduceAdd, Nat.reduceLeDiff, Nat.le_refl, Nat.zero_le, true_or, or_true, zn_cl, ↓jj_Mo_hasOpenSum, el]
      exact ⟨fun _ => h0 (by rw [hu']; exact hy), fun z => absurd (Int32.le_refl _) z⟩
    | succ j ih =>
      intro a y ha hu hy
      have hne : a ≠ [] := fun z => by rw [z] at ha; cases ha
      obtain ⟨a', x, rfl⟩ : ∃ a' x, a = a' ++ [x] := ⟨a.dropLast, a.getLast hne, (List.dropLast_concat_getLast hne).symm⟩
      have hlen : (u ++ bs).length ≤ 240 := a5
      have e1 : u ++ bs = a' ++ x :: (y ++ bs) := by rw [hu]; simp
      have e2 : (y ++ bs).length = y.length + bs.length := List.length_append
      have hx := zr_sk_at a' x (y ++ bs) (by rw [← e1]; exact a6)
      rw [e2] at hx
      have hl2 : (u ++ bs).length = a'.length + (y.length + bs.length + 1) := by rw [e1, List.length_append, List.length_cons, e2]
      have g1 := nI_ge (show y.length + bs.length < (u ++ bs).length by omega) (by omega)
      have v1 : vp_in (nI (y.length + bs.length)) 260 := vp_in_nI (by omega) (by decide)
      have cl := nI_clamp (show y.length + bs.length < 2 ^ 31 by omega)
      have eu := (zn_unit hx.2.1 hx.2.2).1
      have ex := hx.1
      have e14 : (nI x.1 = 14) = (x.1 = 14) := zn_eq (b := 14) (by omega) (by decide)
      refine zm_go g_Mo_hasOpenSum [2] 30 (by decide +kernel) ok_Mo_hasOpenSum _ rfl ?_
      simp only [↓zq, ↓reduceIte, zr_si2, zr_sr1, zr_cp2, zr_tl, zr_tn, shq, List.contains_nil, List.contains_cons, Nat.reduceBEq, Bool.false_or, Bool.or_false, Bool.true_or, Bool.false_eq_true, if_false, if_true, true_and, and_true, List.set_cons_zero, List.set_cons_succ, List.length_cons, List.length_nil, Nat.reduceAdd, Nat.reduceLeDiff, Nat.le_refl, Nat.zero_le, true_or, or_true, zn_cl, ↓jj_Mo_hasOpenSum, a4, g1, p19, v1, cl, ex, eu, e14, nI_1]
      simp only [not_false_eq_true, not_true_eq_false, false_imp_iff, true_imp_iff, forall_const, and_true, true_and, and_self, false_or, or_false, Int32.reduceLT, Int32.reduceLE, Int32.reduceSub, Int32.reduceAdd]
      refine ⟨by decide, fun z => ?_, fun z => ?_⟩
      · have := ih a' (x :: y) (by simp at ha; exact ha) (by rw [hu]; simp) (fun w hw => by
          rcases List.mem_cons.mp hw with q | q
          · rw [q]; exact z
          · exact hy w q)
        rw [List.length_cons, show y.length + 1 + bs.length = y.length + bs.length + 1 by omega] at this
        exact this
      · exact h1 ⟨x, by rw [hu]; simp, z⟩
  refine st_Mo_hasOpenSum [2] 30 ?_
  simp only [↓zq, ↓reduceIte, zr_si2, zr_sr1, zr_cp2, zr_tl, zr_tn, shq, List.contains_nil, List.contains_cons, Nat.reduceBEq, Bool.false_or, Bool.or_false, Bool.true_or, Bool.false_eq_true, if_false, if_true, true_and, and_true, List.set_cons_zero, List.set_cons_succ, List.length_cons, List.length_nil, Nat.reduceAdd, Nat.reduceLeDiff, Nat.le_refl, Nat.zero_le, true_or, or_true, zn_cl, ↓jj_Mo_hasOpenSum]
  have := loop u.length u [] rfl (by simp) (fun x hx => by cases hx)
  rw [List.length_nil, Nat.zero_add] at this
  exact this
def p_fc (T : Nat → Nat) (n : Nat) : Nat → zl_s → zl_s
  | 0 => p_fac T n id 0
  | d + 1 => p_fac T n (p_sum T n d) (d + 1)
theorem p_sum_fc (T : Nat → Nat) (n dp : Nat) : p_sum T n dp = p_suml T n (p_fc T n dp) 240 none none := by cases dp <;> rfl
theorem p_fc_d {T : Nat → Nat} {n : Nat} (dp : Nat) (x : Nat × Nat) (c : zl_c) : (p_fc T n dp (.inl x, c)).1 = .inl x := by
  cases dp with
  | zero => exact p_fac_d x c
  | succ dp => exact p_fac_d x c
theorem p_fc_ok {T : Nat → Nat} {n : Nat} (hn : n ≤ 240) (dp : Nat) : p_okF T n (2 * dp + 1) (p_fc T n dp) := by
  cases dp with
  | zero => exact p_okF_fac (by decide) (fun z => absurd z (Nat.lt_irrefl 0)) (fun x c => rfl)
  | succ dp => exact p_okF_fac (by omega) (fun _ => p_sum_ok hn dp) (fun x c => p_sum_d dp x c)
/-- what is left of a sum behind a factor -/
def p_aft (T : Nat → Nat) (n : Nat) (fac : zl_s → zl_s) (f : Nat) (ts fs : Option Nat) (s : zl_s) : zl_s :=
  if t_c T n s.1 = 42 ∨ t_c T n s.1 = 47 ∨ t_c T n s.1 = 37 then p_suml T n fac f ts (some (l_op (t_c T n s.1))) (t_st s.1, lc_wait fs s.2)
  else if t_c T n s.1 = 43 ∨ t_c T n s.1 = 45 then p_suml T n fac f (some (l_op (t_c T n s.1))) none (t_st s.1, lc_wait ts (lc_wait fs s.2))
  else (s.1, lc_wait ts (lc_wait fs s.2))
theorem p_suml_aft (T : Nat → Nat) (n : Nat) (fac : zl_s → zl_s) (f : Nat) (ts fs : Option Nat) (s : zl_s) : p_suml T n fac (f + 1) ts fs s = p_aft T n fac f ts fs (fac s) := rfl
theorem p_aft_d {T : Nat → Nat} {n f : Nat} {fac : zl_s → zl_s} {ts fs : Option Nat} {x : Nat × Nat} {c : zl_c} : (p_aft T n fac f ts fs (.inl x, c)).1 = .inl x := by
  unfold p_aft
  rw [if_neg (by rw [t_c_d]; omega), if_neg (by rw [t_c_d]; omega)]
def r_op (c : Nat) : Prop := c = 43 ∨ c = 45 ∨ c = 42 ∨ c = 47 ∨ c = 37
def r_W14 (d : Nat) (R : zm_R) (bs : zr_K) (g : zm_M) : Prop := ∀ l2 : Option zm_V, zm_W (zm_md m_Mo_readsSum) (d + 5) TT R 14 [some (.inr (some 133)), some (.inl (nI bs.length)), l2] [] g
/-- about to read a factor of depth dp -/
def r_X (d : Nat) (h : zm_M) (R : zm_R) (T : Nat → Nat) (n : Nat) (bs : zr_K) (dp : Nat) : Prop := ∀ (p : Nat) (c : zl_c) (u : zr_K) (g : zm_M) (l1 : Option zm_V) (Kf : zm_R), 1 ≤ p → c.1 + zr_wt (u ++ bs) ≤ p → (u ++ bs).length ≤ p → zr_f2 h g → zr_s g T n p c (u ++ bs) (6 - dp) → (∀ g', R (some (.inl 0)) g' → Kf (some (.inl 0)) g') → (∀ g', r_W14 d R bs g' → Kf (some (.inl 1)) g') → (∀ x, (p_fc T n dp (.inr p, c)).1 = .inl x → ∀ g', zr_f2 h g' → g'.1 133 11 = t_an x → R (some (.inl 0)) g') → (∀ p', (p_fc T n dp (.inr p, c)).1 = .inr p' → ∀ g', zr_f2 h g' → zr_s g' T n p' (p_fc T n dp (.inr p, c)).2 (u ++ bs) (6 - dp) → r_W14 d R bs g') → zm_W (zm_md m_Mo_readsFactor) (d + 4) TT Kf 0 [some (.inr (some 133)), l1] [] g
/-- behind a factor of depth dp -/
def r_A (d : Nat) (h : zm_M) (R : zm_R) (T : Nat → Nat) (n : Nat) (bs : zr_K) (dp : Nat) : Prop := ∀ (f : Nat) (ts fs : Option Nat) (p : Nat) (c : zl_c) (u : zr_K) (g : zm_M), 1 ≤ p → n < p + f + 1 → c.1 + l_cn fs + l_cn ts + zr_wt (u ++ bs) ≤ p → (zr_pd fs (zr_pd ts (u ++ bs))).length ≤ p → r_bs (u ++ bs) → (∀ op, ts = some op → op = 2 ∨ op = 3) → (∀ op, fs = some op → 4 ≤ op ∧ op ≤ 6) → zr_f2 h g → zr_s g T n p c (zr_pd fs (zr_pd ts (u ++ bs))) (6 - dp) → (∀ x, (p_aft T n (p_fc T n dp) f ts fs (.inr p, c)).1 = .inl x → ∀ g', zr_f2 h g' → g'.1 133 11 = t_an x → R (some (.inl 0)) g') → (∀ (ts' fs' : Option Nat) (p' : Nat) (c' : zl_c) (g' : zm_M), p ≤ p' → zr_f2 h g' → zr_s g' T n p' c' (zr_pd fs' (zr_pd ts' (u ++ bs))) (6 - dp) → c'.1 + l_cn fs' + l_cn ts' + zr_wt (u ++ bs) ≤ p' → (∀ op, ts' = some op → op = 2 ∨ op = 3) → (∀ op, fs' = some op → 4 ≤ op ∧ op ≤ 6) → ¬ r_op (t_c T n (.inr p')) → p_aft T n (p_fc T n dp) f ts fs (.inr p, c) = (.inr p', lc_wait ts' (lc_wait fs' c')) → r_W14 d R bs g') → r_W14 d R bs g
theorem zr_pd_len (o : Option Nat) (k : zr_K) : (zr_pd o k).length = l_cn o + k.length := by
  cases o with
  | none => simp [zr_pd, l_cn]
  | some op => simp [zr_pd, l_cn]; omega
theorem zr_pd_app (o : Option Nat) (u bs : zr_K) : zr_pd o u ++ bs = zr_pd o (u ++ bs) := by cases o <;> rfl
theorem zr_sg_1 {c : Nat} (h : r_op c) : zr_sg c = nI (l_op c) := if_pos h
theorem zr_sg_0 {c : Nat} (h : ¬ r_op c) : zr_sg c = -1 := if_neg h
theorem l_op_r {c : Nat} : (c = 42 ∨ c = 47 ∨ c = 37 → 4 ≤ l_op c ∧ l_op c ≤ 6) ∧ (c = 43 ∨ c = 45 → l_op c = 2 ∨ l_op c = 3) := by
  refine ⟨?_, ?_⟩
  · rintro (z | z | z) <;> rw [z] <;> decide
  · rintro (z | z) <;> rw [z] <;> decide
set_option maxHeartbeats 4000000 in
set_option maxRecDepth 100000 in
theorem r_sumA {d : Nat} {h : zm_M} {R : zm_R} {T : Nat → Nat} {n : Nat} {bs : zr_K} {dp : Nat} (hn : n ≤ 240) (hX : r_X d h R T n bs dp) : r_A d h R T n bs dp := by
  intro f
  induction f with
  | zero =>
    intro ts fs p c u g h1 hf hc hl hk hts hfs fg sg hb he
    have := sg.2.1.2.2.2.2.2
    have pn : p = n := by omega
    have no : ¬ r_op (t_c T n (.inr p)) := by
      rw [t_c_r, if_neg (by omega)]
      unfold r_op
      omega
    refine he ts fs p c g (Nat.le_refl _) fg sg hc hts hfs no ?_
    unfold r_op at no
    unfold p_aft
    dsimp only
    rw [if_neg (by omega), if_neg (by omega)]
  | succ f ih =>
    intro ts fs p c u g h1 hf hc hl hk hts hfs fg sg hb he
    by_cases hop : r_op (t_c T n (.inr p))
    · have pn : p < n := t_c_r_lt (T := T) (by unfold r_op at hop; omega)
      have cl := sg.2.1.c_le
      have p19 : g.2 133 19 = some 139 := by have := sg.1; simp only [this]
      rw [zr_pd_len, zr_pd_len] at hl
      intro l2
      refine zm_go g_Mo_readsSum [14] 30 (by decide +kernel) ok_Mo_readsSum _ rfl ?_
      simp only [↓zq, ↓reduceIte, zr_si2, zr_sr1, zr_cp2, zr_tl, zr_tn, shq, List.contains_nil, List.contains_cons, Nat.reduceBEq, Bool.false_or, Bool.or_false, Bool.true_or, Bool.false_eq_true, if_false, if_true, true_and, and_true, List.set_cons_zero, List.set_cons_succ, List.length_cons, List.length_nil, Nat.reduceAdd, Nat.reduceLeDiff, Nat.le_refl, Nat.zero_le, true_or, or_true, zn_cl, ↓jj_Mo_readsSum]
      refine k_Mo_here sg.2.1 ?_
      simp only [↓zq, ↓reduceIte, zr_si2, zr_sr1, zr_cp2, zr_tl, zr_tn, shq, List.contains_nil, List.contains_cons, Nat.reduceBEq, Bool.false_or, Bool.or_false, Bool.true_or, Bool.false_eq_true, if_false, if_true, true_and, and_true, List.set_cons_zero, List.set_cons_succ, List.length_cons, List.length_nil, Nat.reduceAdd, Nat.reduceLeDiff, Nat.le_refl, Nat.zero_le, true_or, or_true, zn_cl, ↓jj_Mo_readsSum]
      refine k_Mo_sumSign cl ?_
      rw [zr_sg_1 hop]
      have lop : l_op (t_c T n (.inr p)) ≤ 9 := by
        unfold l_op
        repeat' split
        all_goals omega
      have nm : ¬ nI (l_op (t_c T n (.inr p))) = -1 := fun z => absurd (show nI (l_op (t_c T n (.inr p))) < 0 by rw [z]; decide) (nI_pos (by omega))
      have l4 : (4 ≤ nI (l_op (t_c T n (.inr p)))) = (4 ≤ l_op (t_c T n (.inr p))) := zn_le (a := 4) (by decide) (by omega)
      have ev : (1048576 : Int32) * nI (l_op (t_c T n (.inr p))) = nI (1048576 * l_op (t_c T n (.inr p)) + 0) := by rw [show (1048576 : Int32) = nI 1048576 from rfl, pk_mul, Nat.add_zero]
      simp only [↓zq, ↓reduceIte, zr_si2, zr_sr1, zr_cp2, zr_tl, zr_tn, shq, List.contains_nil, List.contains_cons, Nat.reduceBEq, Bool.false_or, Bool.or_false, Bool.true_or, Bool.false_eq_true, if_false, if_true, true_and, and_true, List.set_cons_zero, List.set_cons_succ, List.length_cons, List.length_nil, Nat.reduceAdd, Nat.reduceLeDiff, Nat.le_refl, Nat.zero_le, true_or, or_true, zn_cl, ↓jj_Mo_readsSum, nm, l4]
      simp only [not_false_eq_true, not_true_eq_false, false_imp_iff, true_imp_iff, forall_const, and_true, true_and, and_self, false_or, or_false, Int32.reduceLT, Int32.reduceLE, Int32.reduceSub, Int32.reduceAdd]
      have wf := zr_wt_pd fs (zr_pd ts (u ++ bs)) (fun op hh => (hfs op hh).2)
      have wt := zr_wt_pd ts (u ++ bs) (fun op hh => by have := hts op hh; omega)
      have cn1 : ∀ y, l_cn (some y) = 1 := fun _ => rfl
      have cn0 : l_cn none = 0 := rfl
      have tl1 : l_cn ts ≤ 1 := by cases ts <;> simp [l_cn]
      have fl1 : l_cn fs ≤ 1 := by cases fs <;> simp [l_cn]
      have lwf : (lc_wait fs c).1 = c.1 + l_cn fs := by
        cases fs with
        | none => rfl
        | some y => exact (lc_push_at (op := y) (v := 0) (c := c) (by have := cn1 y; omega)).1
      have lwt : (lc_wait ts (lc_wait fs c)).1 = c.1 + l_cn fs + l_cn ts := by
        cases ts with
        | none => exact lwf
        | some y => rw [← lwf]; exact (lc_push_at (op := y) (v := 0) (c := lc_wait fs c) (by have := cn1 y; omega)).1
      by_cases hm : t_c T n (.inr p) = 42 ∨ t_c T n (.inr p) = 47 ∨ t_c T n (.inr p) = 37
      · obtain ⟨o4, o6⟩ := l_op_r.1 hm
        refine ⟨fun _ => ?_, fun z => absurd o4 z⟩
        have ea : p_aft T n (p_fc T n dp) (f + 1) ts fs (.inr p, c) = p_suml T n (p_fc T n dp) (f + 1) ts (some (l_op (t_c T n (.inr p)))) (.inr (p + 1), lc_wait fs c) := by
          unfold p_aft
          dsimp only
          rw [if_pos hm]
          rfl
        refine k_Mo_closesF sg hts hfs hk (by omega) (fun g2 f2 s2 => ?_)
        have p19' : g2.2 133 19 = some 139 := by have := s2.1; simp only [this]
        have ek := s2.2.2.2.1.1
        have hkl : (zr_pd ts (u ++ bs)).length < 240 := by rw [zr_pd_len]; omega
        have v1 : vp_in (nI (zr_pd ts (u ++ bs)).length) 260 := vp_in_nI (by omega) (by decide)
        have cl1 := nI_clamp (show (zr_pd ts (u ++ bs)).length < 2 ^ 31 by omega)
        have s5 := s2.2.1.2.2.2.2.1
        simp only [↓zq, ↓reduceIte, zr_si2, zr_sr1, zr_cp2, zr_tl, zr_tn, shq, List.contains_nil, List.contains_cons, Nat.reduceBEq, Bool.false_or, Bool.or_false, Bool.true_or, Bool.false_eq_true, if_false, if_true, true_and, and_true, List.set_cons_zero, List.set_cons_succ, List.length_cons, List.length_nil, Nat.reduceAdd, Nat.reduceLeDiff, Nat.le_refl, Nat.zero_le, true_or, or_true, zn_cl, ↓jj_Mo_readsSum, p19', ek, v1, cl1, ev]
        simp only [zr_si1, show ¬ (133 : Nat) = 139 by decide, Nat.reduceEqDiff, false_and, and_false, if_false, ek, s5, nI_1]
        obtain ⟨f3, s3⟩ := zr_push (x := (l_op (t_c T n (.inr p)), 0)) s2 (by dsimp only; omega) (show 0 < 1048576 by decide) hkl rfl
        obtain ⟨_, f4, s4⟩ := zr_place s3 pn
        have f4' := (f2.tr f3).tr f4
        refine st_Mo_readsFactor [0] 30 ?_
        simp only [↓zq, ↓reduceIte, zr_si2, zr_sr1, zr_cp2, zr_tl, zr_tn, shq, List.contains_nil, List.contains_cons, Nat.reduceBEq, Bool.false_or, Bool.or_false, Bool.true_or, Bool.false_eq_true, if_false, if_true, true_and, and_true, List.set_cons_zero, List.set_cons_succ, List.length_cons, List.length_nil, Nat.reduceAdd, Nat.reduceLeDiff, Nat.le_refl, Nat.zero_le, true_or, or_true, zn_cl, ↓jj_Mo_readsFactor]
        have ew : ((l_op (t_c T n (.inr p)), 0) :: zr_pd ts u) ++ bs = (l_op (t_c T n (.inr p)), 0) :: zr_pd ts (u ++ bs) := by rw [List.cons_append, zr_pd_app]
        have w1 : zr_wt ((l_op (t_c T n (.inr p)), 0) :: zr_pd ts (u ++ bs)) = 1 + (l_cn ts + zr_wt (u ++ bs)) := by
          show (if l_op (t_c T n (.inr p)) = 11 ∨ l_op (t_c T n (.inr p)) = 12 then 0 else 1) + zr_wt (zr_pd ts (u ++ bs)) = _
          rw [if_neg (by omega), wt]
        have lu : ((l_op (t_c T n (.inr p)), 0) :: zr_pd ts (u ++ bs)).length = l_cn ts + (u ++ bs).length + 1 := by rw [List.length_cons, zr_pd_len]
        rw [← ew] at s4
        refine hX (p + 1) (lc_wait fs c) ((l_op (t_c T n (.inr p)), 0) :: zr_pd ts u) _ _ _ (by omega) (by rw [ew, w1]; omega) (by rw [ew, lu]; omega) (fg.tr f4') s4 (fun g' hg' => ?_) (fun g' hg' => ?_) (fun x hx g' fg' h11 => hb x ?_ g' fg' h11) (fun p' hp' g' fg' sg' => ?_)
        · simp only [↓zq, ↓reduceIte, zr_si2, zr_sr1, zr_cp2, zr_tl, zr_tn, shq, List.contains_nil, List.contains_cons, Nat.reduceBEq, Bool.false_or, Bool.or_false, Bool.true_or, Bool.false_eq_true, if_false, if_true, true_and, and_true, List.set_cons_zero, List.set_cons_succ, List.length_cons, List.length_nil, Nat.reduceAdd, Nat.reduceLeDiff, Nat.le_refl, Nat.zero_le, true_or, or_true, zn_cl, ↓jj_Mo_readsSum]
          exact ⟨fun z => (by first | exact absurd trivial z | exact absurd rfl z | exact absurd z (by decide)), fun _ => hg'⟩
        · simp only [↓zq, ↓reduceIte, zr_si2, zr_sr1, zr_cp2, zr_tl, zr_tn, shq, List.contains_nil, List.contains_cons, Nat.reduceBEq, Bool.false_or, Bool.or_false, Bool.true_or, Bool.false_eq_true, if_false, if_true, true_and, and_true, List.set_cons_zero, List.set_cons_succ, List.length_cons, List.length_nil, Nat.reduceAdd, Nat.reduceLeDiff, Nat.le_refl, Nat.zero_le, true_or, or_true, zn_cl, ↓jj_Mo_readsSum]
          exact ⟨fun _ => hg' _, fun z => absurd z (by decide)⟩
        · rw [ea, p_suml_aft]
          have : p_fc T n dp (.inr (p + 1), (lc_wait fs c)) = (.inl x, (p_fc T n dp (.inr (p + 1), (lc_wait fs c))).2) := by rw [← hx]
          rw [this]
          exact p_aft_d
        · obtain ⟨⟨q1, q2, q3, q4, q5⟩, _⟩ := p_fc_ok hn dp (p + 1) (lc_wait fs c) p' [] (by omega) pn hn (by omega) hp'
          have e2 : p_aft T n (p_fc T n dp) (f + 1) ts fs (.inr p, c) = p_aft T n (p_fc T n dp) f ts (some (l_op (t_c T n (.inr p)))) (.inr p', (p_fc T n dp (.inr (p + 1), (lc_wait fs c))).2) := by
            rw [ea, p_suml_aft, ← hp']
          refine ih ts (some (l_op (t_c T n (.inr p)))) p' (p_fc T n dp (.inr (p + 1), (lc_wait fs c))).2 u g' (by omega) (by omega) (by rw [cn1]; omega) (by rw [zr_pd_len, zr_pd_len, cn1]; omega) hk hts (fun op hh => by cases hh; exact ⟨o4, o6⟩) fg' (by rw [ew] at sg'; exact sg') (fun x hx g'' fg'' h11 => hb x (by rw [e2]; exact hx) g'' fg'' h11) (fun ts' fs' p'' c' g'' b1 b2 b3 b4 b5 b6 b7 b8 => he ts' fs' p'' c' g'' (by omega) b2 b3 b4 b5 b6 b7 (by rw [e2]; exact b8))
      · have hadd : t_c T n (.inr p) = 43 ∨ t_c T n (.inr p) = 45 := by unfold r_op at hop; omega
        have o23 := l_op_r.2 hadd
        refine ⟨fun z => absurd z (by omega), fun _ => ?_⟩
        have ea : p_aft T n (p_fc T n dp) (f + 1) ts fs (.inr p, c) = p_suml T n (p_fc T n dp) (f + 1) (some (l_op (t_c T n (.inr p)))) none (.inr (p + 1), lc_wait ts (lc_wait fs c)) := by
          unfold p_aft
          dsimp only
          rw [if_neg hm, if_pos hadd]
          rfl
        refine k_Mo_closesAll sg hts hfs hk (by omega) (fun g2 f2 s2 => ?_)
        have p19' : g2.2 133 19 = some 139 := by have := s2.1; simp only [this]
        have ek := s2.2.2.2.1.1
        have hkl : (u ++ bs).length < 240 := by omega
        have v1 : vp_in (nI (u ++ bs).length) 260 := vp_in_nI (by omega) (by decide)
        have cl1 := nI_clamp (show (u ++ bs).length < 2 ^ 31 by omega)
        have s5 := s2.2.1.2.2.2.2.1
        simp only [↓zq, ↓reduceIte, zr_si2, zr_sr1, zr_cp2, zr_tl, zr_tn, shq, List.contains_nil, List.contains_cons, Nat.reduceBEq, Bool.false_or, Bool.or_false, Bool.true_or, Bool.false_eq_true, if_false, if_true, true_and, and_true, List.set_cons_zero, List.set_cons_succ, List.length_cons, List.length_nil, Nat.reduceAdd, Nat.reduceLeDiff, Nat.le_refl, Nat.zero_le, true_or, or_true, zn_cl, ↓jj_Mo_readsSum, p19', ek, v1, cl1, ev]
        simp only [zr_si1, show ¬ (133 : Nat) = 139 by decide, Nat.reduceEqDiff, false_and, and_false, if_false, ek, s5, nI_1]
        obtain ⟨f3, s3⟩ := zr_push (x := (l_op (t_c T n (.inr p)), 0)) s2 (by dsimp only; omega) (show 0 < 1048576 by decide) hkl rfl
        obtain ⟨_, f4, s4⟩ := zr_place s3 pn
        have f4' := (f2.tr f3).tr f4
        refine st_Mo_readsFactor [0] 30 ?_
        simp only [↓zq, ↓reduceIte, zr_si2, zr_sr1, zr_cp2, zr_tl, zr_tn, shq, List.contains_nil, List.contains_cons, Nat.reduceBEq, Bool.false_or, Bool.or_false, Bool.true_or, Bool.false_eq_true, if_false, if_true, true_and, and_true, List.set_cons_zero, List.set_cons_succ, List.length_cons, List.length_nil, Nat.reduceAdd, Nat.reduceLeDiff, Nat.le_refl, Nat.zero_le, true_or, or_true, zn_cl, ↓jj_Mo_readsFactor]
        have w1 : zr_wt ((l_op (t_c T n (.inr p)), 0) :: (u ++ bs)) = 1 + zr_wt (u ++ bs) := by
          show (if l_op (t_c T n (.inr p)) = 11 ∨ l_op (t_c T n (.inr p)) = 12 then 0 else 1) + zr_wt (u ++ bs) = _
          rw [if_neg (by omega)]
        have ew : ((l_op (t_c T n (.inr p)), 0) :: u) ++ bs = (l_op (t_c T n (.inr p)), 0) :: (u ++ bs) := rfl
        have lu : ((l_op (t_c T n (.inr p)), 0) :: (u ++ bs)).length = (u ++ bs).length + 1 := List.length_cons
        refine hX (p + 1) (lc_wait ts (lc_wait fs c)) ((l_op (t_c T n (.inr p)), 0) :: u) _ _ _ (by omega) (by rw [ew, w1]; omega) (by rw [ew, lu]; omega) (fg.tr f4') s4 (fun g' hg' => ?_) (fun g' hg' => ?_) (fun x hx g' fg' h11 => hb x ?_ g' fg' h11) (fun p' hp' g' fg' sg' => ?_)
        · simp only [↓zq, ↓reduceIte, zr_si2, zr_sr1, zr_cp2, zr_tl, zr_tn, shq, List.contains_nil, List.contains_cons, Nat.reduceBEq, Bool.false_or, Bool.or_false, Bool.true_or, Bool.false_eq_true, if_false, if_true, true_and, and_true, List.set_cons_zero, List.set_cons_succ, List.length_cons, List.length_nil, Nat.reduceAdd, Nat.reduceLeDiff, Nat.le_refl, Nat.zero_le, true_or, or_true, zn_cl, ↓jj_Mo_readsSum]
          exact ⟨fun z => (by first | exact absurd trivial z | exact absurd rfl z | exact absurd z (by decide)), fun _ => hg'⟩
        · simp only [↓zq, ↓reduceIte, zr_si2, zr_sr1, zr_cp2, zr_tl, zr_tn, shq, List.contains_nil, List.contains_cons, Nat.reduceBEq, Bool.false_or, Bool.or_false, Bool.true_or, Bool.false_eq_true, if_false, if_true, true_and, and_true, List.set_cons_zero, List.set_cons_succ, List.length_cons, List.length_nil, Nat.reduceAdd, Nat.reduceLeDiff, Nat.le_refl, Nat.zero_le, true_or, or_true, zn_cl, ↓jj_Mo_readsSum]
          exact ⟨fun _ => hg' _, fun z => absurd z (by decide)⟩
        · rw [ea, p_suml_aft]
          have : p_fc T n dp (.inr (p + 1), (lc_wait ts (lc_wait fs c))) = (.inl x, (p_fc T n dp (.inr (p + 1), (lc_wait ts (lc_wait fs c)))).2) := by rw [← hx]
          rw [this]
          exact p_aft_d
        · obtain ⟨⟨q1, q2, q3, q4, q5⟩, _⟩ := p_fc_ok hn dp (p + 1) (lc_wait ts (lc_wait fs c)) p' [] (by omega) pn hn (by omega) hp'
          have e2 : p_aft T n (p_fc T n dp) (f + 1) ts fs (.inr p, c) = p_aft T n (p_fc T n dp) f (some (l_op (t_c T n (.inr p)))) none (.inr p', (p_fc T n dp (.inr (p + 1), (lc_wait ts (lc_wait fs c)))).2) := by
            rw [ea, p_suml_aft, ← hp']
          refine ih (some (l_op (t_c T n (.inr p)))) none p' (p_fc T n dp (.inr (p + 1), (lc_wait ts (lc_wait fs c)))).2 u g' (by omega) (by omega) (by rw [cn1, cn0]; omega) (by rw [zr_pd_len, zr_pd_len, cn1, cn0]; omega) hk (fun op hh => by cases hh; exact o23) (fun op hh => by cases hh) fg' sg' (fun x hx g'' fg'' h11 => hb x (by rw [e2]; exact hx) g'' fg'' h11) (fun ts' fs' p'' c' g'' b1 b2 b3 b4 b5 b6 b7 b8 => he ts' fs' p'' c' g'' (by omega) b2 b3 b4 b5 b6 b7 (by rw [e2]; exact b8))
    · have no := hop
      refine he ts fs p c g (Nat.le_refl _) fg sg hc hts hfs no ?_
      unfold r_op at no
      unfold p_aft
      dsimp only
      rw [if_neg (by omega), if_neg (by omega)]
