/-! the law asked: rules in their order -/
theorem zl_run_ty {cd : zl_cd} {ty : Nat → List Bool} {lt : Nat → Int32} {a b : Nat} (hty : zl_ty cd ty a b [true]) : ∀ (f k : Nat) (st : List Int32), b ≤ k + f → a ≤ k → k ≤ b → zl_tv (ty k) st → (zl_run cd lt b f k st).getD 0 = 0 ∨ (zl_run cd lt b f k st).getD 0 = 1 := by
  have fin : ∀ (f : Nat) (st : List Int32), zl_tv (ty b) st → (zl_run cd lt b f b st).getD 0 = 0 ∨ (zl_run cd lt b f b st).getD 0 = 1 := by
    intro f st h4
    rw [zl_run_end]
    rw [hty.2.2.1] at h4
    match st, h4 with
    | [x], h4 => exact h4.1 rfl
  intro f
  induction f with
  | zero =>
    intro k st h1 h2 h3 h4
    have : k = b := by omega
    subst this
    exact fin 0 st h4
  | succ f ih =>
    intro k st h1 h2 h3 h4
    rcases Nat.lt_or_ge k b with hkb | hkb
    · rcases hty.2.2.2.2 k h2 hkb with ⟨o1, o2, o3⟩ | ⟨o1, o2, o3⟩ | ⟨o1, o2, r, o3, o4⟩ | ⟨o1, o2, o2b, r, o3, o4, o5⟩ | ⟨o1, o1b, o2, r, o3, o4⟩ | ⟨o1, o1b, o2, r, o3, o4⟩
      · rw [zl_run_s, if_neg (by omega), if_pos o1]
        exact ih (k + 1) _ (by omega) (by omega) (by omega) (by rw [o3]; exact ⟨fun z => absurd z (by decide), h4⟩)
      · rw [zl_run_s, if_neg (by omega), if_neg (by omega), if_pos o1]
        exact ih (k + 1) _ (by omega) (by omega) (by omega) (by rw [o3]; exact ⟨fun z => absurd z (by decide), h4⟩)
      · rw [o3] at h4
        match st, h4 with
        | x :: st, h4 =>
        rw [zl_run_s, if_neg (by omega), if_neg (by omega), if_neg (by omega), if_pos o1]
        exact ih (k + 1) _ (by omega) (by omega) (by omega) (by rw [o4]; exact ⟨fun _ => by rcases h4.1 rfl with rfl | rfl; exact Or.inr rfl; exact Or.inl rfl, h4.2⟩)
      · rw [o3] at h4
        match st, h4 with
        | x :: st, h4 =>
        rw [zl_run_j cd lt b f k x st hkb o1]
        by_cases zz : (if (cd k).1 = 11 then x = 0 else x = 1)
        · rw [if_pos zz]
          exact ih (cd k).2 (x :: st) (by omega) (by omega) (by omega) (by rw [o5]; exact ⟨h4.1, h4.2⟩)
        · rw [if_neg zz]
          exact ih (k + 1) st (by omega) (by omega) (by omega) (by rw [o4]; exact h4.2)
      · rw [o3] at h4
        match st, h4 with
        | y :: x :: st, h4 =>
        rw [zl_run_b cd lt b f k x y st hkb o1 (by omega)]
        split
        · exact Or.inl rfl
        · exact ih (k + 1) _ (by omega) (by omega) (by omega) (by rw [o4]; exact ⟨fun z => absurd z (by decide), h4.2.2⟩)
      · rw [o3] at h4
        match st, h4 with
        | y :: x :: st, h4 =>
        rw [zl_run_b cd lt b f k x y st hkb (by omega) o1b]
        split
        · exact Or.inl rfl
        · exact ih (k + 1) _ (by omega) (by omega) (by omega) (by rw [o4]; exact ⟨fun z => zl_ap_b o1 o1b, h4.2.2⟩)
    · have : k = b := by omega
      subst this
      exact fin _ st h4
/-- a rule's condition, a rule's E -/
def zl_cv (L : zs_L) (lt : Nat → Int32) (q : Nat) : Int32 := (zl_run L.2.2 lt (L.2.1 q).2.2.2 ((L.2.1 q).2.2.2 - (L.2.1 q).2.2.1) (L.2.1 q).2.2.1 []).getD 0
def zl_ev (L : zs_L) (lt : Nat → Int32) (q : Nat) : Int32 := (zl_run L.2.2 lt (L.2.1 q).2.2.1 ((L.2.1 q).2.2.1 - (L.2.1 q).2.1) (L.2.1 q).2.1 []).getD 0
/-- the first rule of a letter, from q on, n of them, that holds -/
def zl_fd (L : zs_L) (lt : Nat → Int32) (hd : Nat) : Nat → Nat → Option Nat
  | 0, _ => none
  | n + 1, q => if (L.2.1 q).1 = hd ∧ zl_cv L lt q = 1 then some q else zl_fd L lt hd n (q + 1)
def zl_val (L : zs_L) (lt : Nat → Int32) (hd : Nat) (x : Int32) : Int32 := match zl_fd L lt hd L.1 0 with
  | none => x
  | some q => zl_ev L lt q
def zw_rule (L : zs_L) (q : Nat) : Prop := ((L.2.1 q).1 = 109 ∨ (L.2.1 q).1 = 117 ∨ (L.2.1 q).1 = 120) ∧ (L.2.1 q).2.1 ≤ (L.2.1 q).2.2.1 ∧ (L.2.1 q).2.2.2 ≤ 240 ∧ (∃ ty, zl_ty L.2.2 ty (L.2.1 q).2.2.1 (L.2.1 q).2.2.2 [true]) ∧ ((L.2.1 q).1 ≠ 120 → ∃ ty, zl_ty L.2.2 ty (L.2.1 q).2.1 (L.2.1 q).2.2.1 [false])
def zw_L (L : zs_L) : Prop := L.1 ≤ 16 ∧ ∀ q, q < L.1 → zw_rule L q
/-- how the class holds a law, at w -/
def zc_L (I : Nat → Nat → Int32) (w : Nat) (L : zs_L) : Prop := I w 7 = nI L.1 ∧ ∀ q, q < L.1 → I (w + 3) q = nI (L.2.1 q).1 ∧ I (w + 4) q = nI (L.2.1 q).2.1 ∧ I (w + 5) q = nI (L.2.1 q).2.2.1 ∧ I (w + 6) q = nI (L.2.1 q).2.2.2 ∧ ∀ k, k < (L.2.1 q).2.2.2 → I (w + 1) k = nI (zl_sn (L.2.2 k).1) ∧ I (w + 2) k = nI (L.2.2 k).2
def zo_L (I : Nat → Nat → Int32) (L : zs_L) : Prop := I 133 17 = nI L.1 ∧ ∀ q, q < L.1 → I 145 q = nI (L.2.1 q).1 ∧ I 146 q = nI (L.2.1 q).2.1 ∧ I 147 q = nI (L.2.1 q).2.2.1 ∧ I 148 q = nI (L.2.1 q).2.2.2 ∧ ∀ k, k < (L.2.1 q).2.2.2 → I 144 k = nI (1048576 * (L.2.2 k).1 + (L.2.2 k).2)
theorem zc_L_lf {w : Nat} {h h' : zm_M} {L : zs_L} (hf : zl_lf w h h') (hL : zc_L h.1 w L) : zc_L h'.1 w L := by
  unfold zc_L
  rw [hf.2.2 7 (by omega) (by omega), hf.2.1 (w + 1) (by omega) (by omega), hf.2.1 (w + 2) (by omega) (by omega), hf.2.1 (w + 3) (by omega) (by omega), hf.2.1 (w + 4) (by omega) (by omega), hf.2.1 (w + 5) (by omega) (by omega), hf.2.1 (w + 6) (by omega) (by omega)]
  exact hL
theorem zo_L_mf {h h' : zm_M} {L : zs_L} (hf : zl_mf h h') (hL : zo_L h.1 L) : zo_L h'.1 L := by
  unfold zo_L
  rw [hf.2 133 (by omega), hf.2 144 (by omega), hf.2 145 (by omega), hf.2 146 (by omega), hf.2 147 (by omega), hf.2 148 (by omega)]
  exact hL
theorem zl_cv01 {L : zs_L} {lt : Nat → Int32} {q : Nat} (hw : zw_rule L q) : zl_cv L lt q = 0 ∨ zl_cv L lt q = 1 := by
  obtain ⟨w1, w2, w3, ⟨ty, w4⟩, w5⟩ := hw
  exact zl_run_ty w4 _ _ [] (by have := w4.1; omega) (Nat.le_refl _) w4.1 (by rw [w4.2.1]; exact trivial)
theorem zl_fd_at {L : zs_L} {lt : Nat → Int32} {hd : Nat} : ∀ (n q s : Nat), zl_fd L lt hd n q = some s → q ≤ s ∧ s < q + n ∧ (L.2.1 s).1 = hd := by
  intro n
  induction n with
  | zero => intro q s h; cases h
  | succ n ih =>
    intro q s h
    unfold zl_fd at h
    split at h
    · next z =>
      cases h
      exact ⟨Nat.le_refl _, by omega, z.1⟩
    · obtain ⟨h1, h2, h3⟩ := ih _ _ h
      exact ⟨by omega, by omega, h3⟩
set_option maxHeartbeats 4000000 in
set_option maxRecDepth 100000 in
theorem k_Law_cond {d : Nat} {h h' : zm_M} {R : zm_R} {w q : Nat} {L : zs_L} {lt : Nat → Int32} (hk : zk_law h.2 w) (hL : zc_L h.1 w L) (hw : zw_L L) (hq : q < L.1) (hlt : ∀ v, v < 7 → h.1 (w + 8) v = lt v) (hf : zl_lf w h h') (hR : ∀ h'' : zm_M, zl_lf w h h'' → R (some (.inl (zl_cv L lt q))) h'') : zm_C (d + 3) TT m_Law_run [.inr (some w), .inl (nI (L.2.1 q).2.2.1), .inl (nI (L.2.1 q).2.2.2)] h' R := by
  obtain ⟨w1, w2, w3, ⟨ty, w4⟩, w5⟩ := hw.2 q hq
  have hL' := (zc_L_lf hf hL).2 q hq
  refine k_Law_run (zk_law_lf hf hk) w3 (fun k _ h2 => hL'.2.2.2.2 k h2) (fun v hv => ?_) w4 (fun h'' hf'' => hR h'' (hf.tr hf''))
  rw [hf.2.1 _ (by omega) (by omega)]
  exact hlt v hv
set_option maxHeartbeats 4000000 in
set_option maxRecDepth 100000 in
theorem k_Law_firstHolding {d : Nat} {h : zm_M} {R : zm_R} {w hd : Nat} {L : zs_L} {lt : Nat → Int32} (hk : zk_law h.2 w) (hL : zc_L h.1 w L) (hw : zw_L L) (hhd : hd < 256) (hlt : ∀ v, v < 7 → h.1 (w + 8) v = lt v) (h1 : ∀ (h' : zm_M) (q : Nat), zl_lf w h h' → zl_fd L lt hd L.1 0 = some q → R (some (.inl (nI q))) h') (h0 : ∀ h' : zm_M, zl_lf w h h' → zl_fd L lt hd L.1 0 = none → R (some (.inl (-1))) h') : zm_C (d + 4) TT m_Law_firstHolding [.inr (some w), .inl (nI hd)] h R := by
  have k0 := hk.1
  have hw1 := hw.1
  have loop : ∀ (n q : Nat) (h' : zm_M), q + n = L.1 → zl_lf w h h' → (∀ (h' : zm_M) (s : Nat), zl_lf w h h' → zl_fd L lt hd n q = some s → R (some (.inl (nI s))) h') → (∀ h' : zm_M, zl_lf w h h' → zl_fd L lt hd n q = none → R (some (.inl (-1))) h') → zm_W (zm_md m_Law_firstHolding) (d + 4) TT R 2 [some (.inr (some w)), some (.inl (nI hd)), some (.inl (nI q))] [] h' := by
    intro n
    induction n with
    | zero =>
      intro q h' hq hf h1 h0
      have : q = L.1 := by omega
      subst this
      have hL' := zc_L_lf hf hL
      refine zm_go g_Law_firstHolding [2] 30 (by decide +kernel) ok_Law_firstHolding _ rfl ?_
      simp only [↓zq, ↓reduceIte, zr_si2, zr_sr1, zr_cp2, zr_tl, zr_tn, shq, List.contains_nil, List.contains_cons, Nat.reduceBEq, Bool.false_or, Bool.or_false, Bool.true_or, Bool.false_eq_true, if_false, if_true, true_and, and_true, List.set_cons_zero, List.set_cons_succ, List.length_cons, List.length_nil, Nat.reduceAdd, Nat.reduceLeDiff, Nat.le_refl, Nat.zero_le, true_or, or_true, zn_cl, ↓jj_Law_firstHolding, k0, hL'.1]
      have := h0 h' hf rfl
      exact ⟨fun _ => this, fun z => absurd (Int32.le_refl _) z⟩
    | succ n ih =>
      intro q h' hq hf h1 h0
      have hL' := zc_L_lf hf hL
      obtain ⟨r1, r2, r3, r4, r5⟩ := hL'.2 q (by omega)
      have hkk := zk_law_lf hf hk
      obtain ⟨k0', k1, k2, k3, k4, k5, k6, k7, k8, q0, q1, q3, q4, q5, q6, q8, q11⟩ := hkk
      have v1 : vp_in (nI q) 16 := vp_in_nI (by omega) (by decide)
      have c1 := nI_clamp (show q < 2 ^ 31 by omega)
      have g1 := nI_ge (show q < L.1 by omega) (by omega)
      have g2 : ¬ 16 ≤ nI q := nI_ge (b := 16) (show q < 16 by omega) (by omega)
      have n1 := nI_1 q
      have hwq := hw.2 q (by omega)
      have hdq : (L.2.1 q).1 < 256 := by have := hwq.1; omega
      have e1 : (nI (L.2.1 q).1 = nI hd) = ((L.2.1 q).1 = hd) := zn_eq (by omega) (by omega)
      refine zm_go g_Law_firstHolding [2] 30 (by decide +kernel) ok_Law_firstHolding _ rfl ?_
      simp only [↓zq, ↓reduceIte, zr_si2, zr_sr1, zr_cp2, zr_tl, zr_tn, shq, List.contains_nil, List.contains_cons, Nat.reduceBEq, Bool.false_or, Bool.or_false, Bool.true_or, Bool.false_eq_true, if_false, if_true, true_and, and_true, List.set_cons_zero, List.set_cons_succ, List.length_cons, List.length_nil, Nat.reduceAdd, Nat.reduceLeDiff, Nat.le_refl, Nat.zero_le, true_or, or_true, zn_cl, ↓jj_Law_firstHolding, k0, hL'.1, k3, k5, k6, q3, q5, q6, v1, c1, r1, r3, r4, g1, g2, e1, n1]
      simp only [not_false_eq_true, not_true_eq_false, false_imp_iff, true_imp_iff, forall_const, and_true, true_and, and_self, false_or, or_false, Int32.reduceLT, Int32.reduceLE, Int32.reduceSub, Int32.reduceAdd]
      refine ⟨fun ne => ?_, fun eq => ?_⟩
      · refine ih (q + 1) h' (by omega) hf (fun h2 s hf2 e => h1 h2 s hf2 ?_) (fun h2 hf2 e => h0 h2 hf2 ?_)
        · rw [zl_fd, if_neg (fun z => ne z.1)]; exact e
        · rw [zl_fd, if_neg (fun z => ne z.1)]; exact e
      · refine k_Law_cond hk hL hw (by omega) hlt hf (fun h2 hf2 => ?_)
        simp only [↓zq, ↓reduceIte, zr_si2, zr_sr1, zr_cp2, zr_tl, zr_tn, shq, List.contains_nil, List.contains_cons, Nat.reduceBEq, Bool.false_or, Bool.or_false, Bool.true_or, Bool.false_eq_true, if_false, if_true, true_and, and_true, List.set_cons_zero, List.set_cons_succ, List.length_cons, List.length_nil, Nat.reduceAdd, Nat.reduceLeDiff, Nat.le_refl, Nat.zero_le, true_or, or_true, zn_cl, ↓jj_Law_firstHolding, n1]
        refine ⟨fun z => ?_, fun z => ?_⟩
        · refine ih (q + 1) h2 (by omega) hf2 (fun h2 s hf2 e => h1 h2 s hf2 ?_) (fun h2 hf2 e => h0 h2 hf2 ?_)
          · rw [zl_fd, if_neg (fun y => by rw [z] at y; exact absurd y.2 (by decide))]; exact e
          · rw [zl_fd, if_neg (fun y => by rw [z] at y; exact absurd y.2 (by decide))]; exact e
        · refine h1 h2 q hf2 ?_
          have y1 : zl_cv L lt q = 1 := by
            rcases zl_cv01 (lt := lt) hwq with y | y
            · exact absurd y z
            · exact y
          rw [zl_fd, if_pos ⟨eq, y1⟩]
  refine st_Law_firstHolding [2] 30 ?_
  simp only [↓zq, ↓reduceIte, zr_si2, zr_sr1, zr_cp2, zr_tl, zr_tn, shq, List.contains_nil, List.contains_cons, Nat.reduceBEq, Bool.false_or, Bool.or_false, Bool.true_or, Bool.false_eq_true, if_false, if_true, true_and, and_true, List.set_cons_zero, List.set_cons_succ, List.length_cons, List.length_nil, Nat.reduceAdd, Nat.reduceLeDiff, Nat.le_refl, Nat.zero_le, true_or, or_true, zn_cl, ↓jj_Law_firstHolding]
  exact loop L.1 0 h (by omega) (zl_lf.rf w h) h1 h0
set_option maxHeartbeats 4000000 in
set_option maxRecDepth 100000 in
theorem k_Law_refuses {d : Nat} {h : zm_M} {R : zm_R} {w : Nat} {L : zs_L} {lt : Nat → Int32} (hk : zk_law h.2 w) (hL : zc_L h.1 w L) (hw : zw_L L) (hlt : ∀ v, v < 7 → h.1 (w + 8) v = lt v) (hR : ∀ h' : zm_M, zl_lf w h h' → R (some (.inl (if zl_fd L lt 120 L.1 0 = none then 0 else 1))) h') : zm_C (d + 5) TT m_Law_refuses [.inr (some w)] h R := by
  have k0 := hk.1
  refine st_Law_refuses [] 30 ?_
  simp only [↓zq, ↓reduceIte, zr_si2, zr_sr1, zr_cp2, zr_tl, zr_tn, shq, List.contains_nil, List.contains_cons, Nat.reduceBEq, Bool.false_or, Bool.or_false, Bool.true_or, Bool.false_eq_true, if_false, if_true, true_and, and_true, List.set_cons_zero, List.set_cons_succ, List.length_cons, List.length_nil, Nat.reduceAdd, Nat.reduceLeDiff, Nat.le_refl, Nat.zero_le, true_or, or_true, zn_cl, ↓jj_Law_refuses, k0]
  refine k_Law_firstHolding (hd := 120) hk hL hw (by decide) hlt (fun h' q hf e => ?_) (fun h' hf e => ?_)
  · have hr := hR h' hf
    rw [e, if_neg (by simp)] at hr
    have := zl_fd_at _ _ _ e
    have g : ¬ nI q = -1 := fun z => absurd (show nI q < 0 by rw [z]; decide) (nI_pos (by have := hw.1; omega))
    simp only [↓zq, ↓reduceIte, zr_si2, zr_sr1, zr_cp2, zr_tl, zr_tn, shq, List.contains_nil, List.contains_cons, Nat.reduceBEq, Bool.false_or, Bool.or_false, Bool.true_or, Bool.false_eq_true, if_false, if_true, true_and, and_true, List.set_cons_zero, List.set_cons_succ, List.length_cons, List.length_nil, Nat.reduceAdd, Nat.reduceLeDiff, Nat.le_refl, Nat.zero_le, true_or, or_true, zn_cl, ↓jj_Law_refuses, g]
    simp only [not_false_eq_true, not_true_eq_false, false_imp_iff, true_imp_iff, forall_const, and_true, true_and, and_self, false_or, or_false, Int32.reduceLT, Int32.reduceLE, Int32.reduceSub, Int32.reduceAdd]
    exact hr
  · have hr := hR h' hf
    rw [e, if_pos rfl] at hr
    simp only [↓zq, ↓reduceIte, zr_si2, zr_sr1, zr_cp2, zr_tl, zr_tn, shq, List.contains_nil, List.contains_cons, Nat.reduceBEq, Bool.false_or, Bool.or_false, Bool.true_or, Bool.false_eq_true, if_false, if_true, true_and, and_true, List.set_cons_zero, List.set_cons_succ, List.length_cons, List.length_nil, Nat.reduceAdd, Nat.reduceLeDiff, Nat.le_refl, Nat.zero_le, true_or, or_true, zn_cl, ↓jj_Law_refuses]
    simp only [not_false_eq_true, not_true_eq_false, false_imp_iff, true_imp_iff, forall_const, and_true, true_and, and_self, false_or, or_false, Int32.reduceLT, Int32.reduceLE, Int32.reduceSub, Int32.reduceAdd]
    exact hr
set_option maxHeartbeats 4000000 in
set_option maxRecDepth 100000 in
theorem k_Law_result {d : Nat} {h h' : zm_M} {R : zm_R} {w q : Nat} {L : zs_L} {lt : Nat → Int32} (hk : zk_law h.2 w) (hL : zc_L h.1 w L) (hw : zw_L L) (hq : q < L.1) (hx : (L.2.1 q).1 ≠ 120) (hlt : ∀ v, v < 7 → h.1 (w + 8) v = lt v) (hf : zl_lf w h h') (hR : ∀ h'' : zm_M, zl_lf w h h'' → R (some (.inl (zl_ev L lt q))) h'') : zm_C (d + 4) TT m_Law_result [.inr (some w), .inl (nI q)] h' R := by
  obtain ⟨w1, w2, w3, ⟨ty0, w4⟩, w5⟩ := hw.2 q hq
  obtain ⟨ty, w6⟩ := w5 hx
  have hL' := (zc_L_lf hf hL).2 q hq
  obtain ⟨r1, r2, r3, r4, r5⟩ := hL'
  have hkk := zk_law_lf hf hk
  obtain ⟨k0, k1, k2, k3, k4, k5, k6, k7, k8, q0, q1, q3, q4, q5, q6, q8, q11⟩ := hkk
  have v1 : vp_in (nI q) 16 := vp_in_nI (by have := hw.1; omega) (by decide)
  have c1 := nI_clamp (show q < 2 ^ 31 by have := hw.1; omega)
  have g1 := nI_pos (show q < 2 ^ 31 by have := hw.1; omega)
  have g2 : ¬ 16 ≤ nI q := nI_ge (b := 16) (show q < 16 by have := hw.1; omega) (by omega)
  refine st_Law_result [] 30 ?_
  simp only [↓zq, ↓reduceIte, zr_si2, zr_sr1, zr_cp2, zr_tl, zr_tn, shq, List.contains_nil, List.contains_cons, Nat.reduceBEq, Bool.false_or, Bool.or_false, Bool.true_or, Bool.false_eq_true, if_false, if_true, true_and, and_true, List.set_cons_zero, List.set_cons_succ, List.length_cons, List.length_nil, Nat.reduceAdd, Nat.reduceLeDiff, Nat.le_refl, Nat.zero_le, true_or, or_true, zn_cl, ↓jj_Law_result, k0, k4, k5, q4, q5, v1, c1, r2, r3, g1, g2]
  simp only [not_false_eq_true, not_true_eq_false, false_imp_iff, true_imp_iff, forall_const, and_true, true_and, and_self, false_or, or_false, Int32.reduceLT, Int32.reduceLE, Int32.reduceSub, Int32.reduceAdd]
  refine k_Law_run (lt := lt) (zk_law_lf hf hk) (by have := w4.1; omega) (fun k _ h2 => r5 k (by have := w4.1; omega)) (fun v hv => ?_) w6 (fun h'' hf'' => ?_)
  · rw [hf.2.1 _ (by omega) (by omega)]
    exact hlt v hv
  · simp only [↓zq, ↓reduceIte, zr_si2, zr_sr1, zr_cp2, zr_tl, zr_tn, shq, List.contains_nil, List.contains_cons, Nat.reduceBEq, Bool.false_or, Bool.or_false, Bool.true_or, Bool.false_eq_true, if_false, if_true, true_and, and_true, List.set_cons_zero, List.set_cons_succ, List.length_cons, List.length_nil, Nat.reduceAdd, Nat.reduceLeDiff, Nat.le_refl, Nat.zero_le, true_or, or_true, zn_cl, ↓jj_Law_result]
    exact hR h'' (hf.tr hf'')
/-- a measure of an int -/
def zl_cl (x : Int32) : Nat := if x < 0 then 0 else if 99 < x then 99 else x.toNatClampNeg
theorem zl_cl_lt (x : Int32) : zl_cl x < 100 := by
  unfold zl_cl
  split
  · omega
  · split
    · omega
    · next h1 h2 =>
      obtain ⟨j, hj, rfl⟩ := nI_of h1
      rw [nI_clamp hj]
      rcases Nat.lt_or_ge 99 j with z | z
      · exact absurd (nI_lt (a := 99) z hj) h2
      · omega
theorem zl_cl_nI {m : Nat} (h : m < 100) : zl_cl (nI m) = m := by
  unfold zl_cl
  rw [if_neg (nI_pos (by omega)), if_neg (show ¬ 99 < nI m from nI_nlt (b := m) (a := 99) (by omega) (by omega)), nI_clamp (by omega)]
theorem zl_cl_eq (x : Int32) : (if (0 : Int32) < (if x < 99 then x else 99) then (if x < 99 then x else 99) else 0) = nI (zl_cl x) := by
  unfold zl_cl
  have e0 : (0 : Int32).toInt = 0 := rfl
  have e99 : (99 : Int32).toInt = 99 := rfl
  by_cases h1 : x < 99
  · rw [if_pos h1]
    by_cases h0 : 0 < x
    · have h2 : ¬ x < 0 := by rw [Int32.lt_iff_toInt_lt] at h0 h1 ⊢; omega
      rw [if_pos h0, if_neg h2, if_neg (by rw [Int32.lt_iff_toInt_lt] at h0 h1 ⊢; omega)]
      obtain ⟨j, hj, rfl⟩ := nI_of h2
      rw [nI_clamp hj]
    · rw [if_neg h0]
      split
      · rfl
      · next h3 =>
        have : x = 0 := by rw [Int32.lt_iff_toInt_lt] at h0 h1 h3; rw [← Int32.toInt_inj]; omega
        subst this
        rfl
  · rw [if_neg h1, if_pos (by decide), if_neg (by rw [Int32.lt_iff_toInt_lt] at h1 ⊢; omega)]
    split
    · rfl
    · next h3 =>
      have : x = 99 := by rw [Int32.lt_iff_toInt_lt] at h1 h3; rw [← Int32.toInt_inj]; omega
      subst this
      rfl
set_option maxHeartbeats 4000000 in
set_option maxRecDepth 100000 in
theorem k_Law_measureFor {d : Nat} {h : zm_M} {R : zm_R} {w m : Nat} {L : zs_L} {lt : Nat → Int32} (hk : zk_law h.2 w) (hL : zc_L h.1 w L) (hw : zw_L L) (hm : m < 100) (hlt : ∀ v, v < 7 → h.1 (w + 8) v = lt v) (hR : ∀ h' : zm_M, zl_lf w h h' → R (some (.inl (nI (zl_cl (zl_val L lt 109 (nI m)))))) h') : zm_C (d + 5) TT m_Law_measureFor [.inr (some w), .inl (nI m)] h R := by
  have k0 := hk.1
  refine st_Law_measureFor [] 30 ?_
  simp only [↓zq, ↓reduceIte, zr_si2, zr_sr1, zr_cp2, zr_tl, zr_tn, shq, List.contains_nil, List.contains_cons, Nat.reduceBEq, Bool.false_or, Bool.or_false, Bool.true_or, Bool.false_eq_true, if_false, if_true, true_and, and_true, List.set_cons_zero, List.set_cons_succ, List.length_cons, List.length_nil, Nat.reduceAdd, Nat.reduceLeDiff, Nat.le_refl, Nat.zero_le, true_or, or_true, zn_cl, ↓jj_Law_measureFor, k0]
  refine k_Law_firstHolding (hd := 109) hk hL hw (by decide) hlt (fun h' q hf e => ?_) (fun h' hf e => ?_)
  · have := zl_fd_at _ _ _ e
    have g : ¬ nI q = -1 := fun z => absurd (show nI q < 0 by rw [z]; decide) (nI_pos (by have := hw.1; omega))
    simp only [↓zq, ↓reduceIte, zr_si2, zr_sr1, zr_cp2, zr_tl, zr_tn, shq, List.contains_nil, List.contains_cons, Nat.reduceBEq, Bool.false_or, Bool.or_false, Bool.true_or, Bool.false_eq_true, if_false, if_true, true_and, and_true, List.set_cons_zero, List.set_cons_succ, List.length_cons, List.length_nil, Nat.reduceAdd, Nat.reduceLeDiff, Nat.le_refl, Nat.zero_le, true_or, or_true, zn_cl, ↓jj_Law_measureFor, g, k0]
    simp only [not_false_eq_true, not_true_eq_false, false_imp_iff, true_imp_iff, forall_const, and_true, true_and, and_self, false_or, or_false, Int32.reduceLT, Int32.reduceLE, Int32.reduceSub, Int32.reduceAdd]
    refine k_Law_result hk hL hw (by omega) (by omega) hlt hf (fun h2 hf2 => ?_)
    simp only [↓zq, ↓reduceIte, zr_si2, zr_sr1, zr_cp2, zr_tl, zr_tn, shq, List.contains_nil, List.contains_cons, Nat.reduceBEq, Bool.false_or, Bool.or_false, Bool.true_or, Bool.false_eq_true, if_false, if_true, true_and, and_true, List.set_cons_zero, List.set_cons_succ, List.length_cons, List.length_nil, Nat.reduceAdd, Nat.reduceLeDiff, Nat.le_refl, Nat.zero_le, true_or, or_true, zn_cl, ↓jj_Law_measureFor]
    rw [zl_cl_eq]
    have hr := hR h2 hf2
    unfold zl_val at hr
    rw [e] at hr
    exact hr
  · have hr := hR h' hf
    unfold zl_val at hr
    rw [e] at hr
    dsimp only at hr
    rw [zl_cl_nI hm] at hr
    simp only [↓zq, ↓reduceIte, zr_si2, zr_sr1, zr_cp2, zr_tl, zr_tn, shq, List.contains_nil, List.contains_cons, Nat.reduceBEq, Bool.false_or, Bool.or_false, Bool.true_or, Bool.false_eq_true, if_false, if_true, true_and, and_true, List.set_cons_zero, List.set_cons_succ, List.length_cons, List.length_nil, Nat.reduceAdd, Nat.reduceLeDiff, Nat.le_refl, Nat.zero_le, true_or, or_true, zn_cl, ↓jj_Law_measureFor]
    simp only [not_false_eq_true, not_true_eq_false, false_imp_iff, true_imp_iff, forall_const, and_true, true_and, and_self, false_or, or_false, Int32.reduceLT, Int32.reduceLE, Int32.reduceSub, Int32.reduceAdd]
    exact hr
set_option maxHeartbeats 4000000 in
set_option maxRecDepth 100000 in
theorem k_Law_summaryToRenew {d : Nat} {h : zm_M} {R : zm_R} {w : Nat} {L : zs_L} {lt : Nat → Int32} (hk : zk_law h.2 w) (hL : zc_L h.1 w L) (hw : zw_L L) (hlt : ∀ v, v < 7 → h.1 (w + 8) v = lt v) (hR : ∀ h' : zm_M, zl_lf w h h' → R (some (.inl (zl_val L lt 117 (-1)))) h') : zm_C (d + 5) TT m_Law_summaryToRenew [.inr (some w)] h R := by
  have k0 := hk.1
  refine st_Law_summaryToRenew [] 30 ?_
  simp only [↓zq, ↓reduceIte, zr_si2, zr_sr1, zr_cp2, zr_tl, zr_tn, shq, List.contains_nil, List.contains_cons, Nat.reduceBEq, Bool.false_or, Bool.or_false, Bool.true_or, Bool.false_eq_true, if_false, if_true, true_and, and_true, List.set_cons_zero, List.set_cons_succ, List.length_cons, List.length_nil, Nat.reduceAdd, Nat.reduceLeDiff, Nat.le_refl, Nat.zero_le, true_or, or_true, zn_cl, ↓jj_Law_summaryToRenew, k0]
  refine k_Law_firstHolding (hd := 117) hk hL hw (by decide) hlt (fun h' q hf e => ?_) (fun h' hf e => ?_)
  · have := zl_fd_at _ _ _ e
    have g : ¬ nI q = -1 := fun z => absurd (show nI q < 0 by rw [z]; decide) (nI_pos (by have := hw.1; omega))
    simp only [↓zq, ↓reduceIte, zr_si2, zr_sr1, zr_cp2, zr_tl, zr_tn, shq, List.contains_nil, List.contains_cons, Nat.reduceBEq, Bool.false_or, Bool.or_false, Bool.true_or, Bool.false_eq_true, if_false, if_true, true_and, and_true, List.set_cons_zero, List.set_cons_succ, List.length_cons, List.length_nil, Nat.reduceAdd, Nat.reduceLeDiff, Nat.le_refl, Nat.zero_le, true_or, or_true, zn_cl, ↓jj_Law_summaryToRenew, g, k0]
    simp only [not_false_eq_true, not_true_eq_false, false_imp_iff, true_imp_iff, forall_const, and_true, true_and, and_self, false_or, or_false, Int32.reduceLT, Int32.reduceLE, Int32.reduceSub, Int32.reduceAdd]
    refine k_Law_result hk hL hw (by omega) (by omega) hlt hf (fun h2 hf2 => ?_)
    simp only [↓zq, ↓reduceIte, zr_si2, zr_sr1, zr_cp2, zr_tl, zr_tn, shq, List.contains_nil, List.contains_cons, Nat.reduceBEq, Bool.false_or, Bool.or_false, Bool.true_or, Bool.false_eq_true, if_false, if_true, true_and, and_true, List.set_cons_zero, List.set_cons_succ, List.length_cons, List.length_nil, Nat.reduceAdd, Nat.reduceLeDiff, Nat.le_refl, Nat.zero_le, true_or, or_true, zn_cl, ↓jj_Law_summaryToRenew]
    have hr := hR h2 hf2
    unfold zl_val at hr
    rw [e] at hr
    exact hr
  · have hr := hR h' hf
    unfold zl_val at hr
    rw [e] at hr
    simp only [↓zq, ↓reduceIte, zr_si2, zr_sr1, zr_cp2, zr_tl, zr_tn, shq, List.contains_nil, List.contains_cons, Nat.reduceBEq, Bool.false_or, Bool.or_false, Bool.true_or, Bool.false_eq_true, if_false, if_true, true_and, and_true, List.set_cons_zero, List.set_cons_succ, List.length_cons, List.length_nil, Nat.reduceAdd, Nat.reduceLeDiff, Nat.le_refl, Nat.zero_le, true_or, or_true, zn_cl, ↓jj_Law_summaryToRenew]
    simp only [not_false_eq_true, not_true_eq_false, false_imp_iff, true_imp_iff, forall_const, and_true, true_and, and_self, false_or, or_false, Int32.reduceLT, Int32.reduceLE, Int32.reduceSub, Int32.reduceAdd]
    exact hr
