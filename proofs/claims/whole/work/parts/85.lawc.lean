/-! the law's text as the class reads it: codes written into the spare law at w -/
abbrev zl_c : Type := Nat × zl_cd
abbrev zl_s : Type := zt_S × zl_c
def lc_push (op v : Nat) (c : zl_c) : zl_c := if c.1 < 240 then (c.1 + 1, fun k => if k = c.1 then (op, v) else c.2 k) else c
def lc_lead (o : Option Nat) (c : zl_c) : zl_c := match o with
  | none => c
  | some i => if i < c.1 then (c.1, fun k => if k = i then ((c.2 i).1, c.1) else c.2 k) else c
def lc_wait (o : Option Nat) (c : zl_c) : zl_c := match o with
  | none => c
  | some op => lc_push op 0 c
def l_op (s : Nat) : Nat := if s = 43 then 2 else if s = 45 then 3 else if s = 42 then 4 else if s = 47 then 5 else if s = 37 then 6 else if s = 60 then 7 else if s = 62 then 8 else 9
def l_let (s : Nat) : Nat := if s = 97 then 0 else if s = 98 then 1 else if s = 99 then 2 else if s = 109 then 3 else if s = 110 then 4 else if s = 107 then 5 else if s = 119 then 6 else 7
def zq_c (I : Nat → Nat → Int32) (w : Nat) (c : zl_c) : Prop := I w 2 = nI c.1 ∧ c.1 ≤ 240 ∧ ∀ k, k < c.1 → I (w + 1) k = nI (zl_sn (c.2 k).1) ∧ I (w + 2) k = nI (c.2 k).2
def zq_s (h : zm_M) (T : Nat → Nat) (n w : Nat) (s : zl_s) : Prop := zt_s h T n s.1 ∧ zq_c h.1 w s.2
/-- changed: the tape's place and fault, the spare law's codes -/
def zw_f (w : Nat) (h h' : zm_M) : Prop := h'.2 = h.2 ∧ (∀ a, a ≠ 1 → a ≠ w → a ≠ w + 1 → a ≠ w + 2 → h'.1 a = h.1 a) ∧ (∀ k, k < 3 → h'.1 1 k = h.1 1 k) ∧ ∀ k, k ≠ 2 → h'.1 w k = h.1 w k
def zg (P : Nat → Nat → Option Nat) (w : Nat) : Prop := P 3 0 = some 1 ∧ P 3 1 = some w ∧ zk_law P w ∧ (w = 4 ∨ w = 19)
theorem zw_f.rf (w : Nat) (h : zm_M) : zw_f w h h := ⟨rfl, fun _ _ _ _ _ => rfl, fun _ _ => rfl, fun _ _ => rfl⟩
theorem zw_f.tr {w : Nat} {h h' h'' : zm_M} (a : zw_f w h h') (b : zw_f w h' h'') : zw_f w h h'' := ⟨b.1.trans a.1, fun x h1 h2 h3 h4 => (b.2.1 x h1 h2 h3 h4).trans (a.2.1 x h1 h2 h3 h4), fun k hk => (b.2.2.1 k hk).trans (a.2.2.1 k hk), fun k hk => (b.2.2.2 k hk).trans (a.2.2.2 k hk)⟩
theorem zt_f.w {w : Nat} {h h' : zm_M} (hw : w = 4 ∨ w = 19) (a : zt_f h h') : zw_f w h h' := ⟨a.1, fun x h1 _ _ _ => a.2.1 x h1, a.2.2, fun k _ => by rw [a.2.1 w (by omega)]⟩
theorem zq_c_t {w : Nat} {h h' : zm_M} {c : zl_c} (hw : w = 4 ∨ w = 19) (hf : zt_f h h') (hc : zq_c h.1 w c) : zq_c h'.1 w c := by
  unfold zq_c
  rw [hf.2.1 w (by omega), hf.2.1 (w + 1) (by omega), hf.2.1 (w + 2) (by omega)]
  exact hc
theorem zg_of {w : Nat} {h h' : zm_M} (e : h'.2 = h.2) (a : zg h.2 w) : zg h'.2 w := by rw [e]; exact a
set_option maxHeartbeats 4000000 in
set_option maxRecDepth 100000 in
theorem k_Law_addStep {d : Nat} {h : zm_M} {R : zm_R} {T : Nat → Nat} {n w op v : Nat} {s : zl_s} (hg : zg h.2 w) (hs : zq_s h T n w s) (hR : ∀ h' : zm_M, zw_f w h h' → zq_s h' T n w (s.1, lc_push op v s.2) → R (some (.inl (nI ((lc_push op v s.2).1 - 1)))) h') : zm_C (d + 1) TT m_Law_addStep [.inr (some w), .inl (nI (zl_sn op)), .inl (nI v)] h R := by
  obtain ⟨g1, g2, ⟨k0, k1, k2, k3, k4, k5, k6, k7, k8, q0, q1, q3, q4, q5, q6, q8, q11⟩, hw⟩ := id hg
  obtain ⟨t1, c1, c2, c3⟩ := id hs
  have cl := nI_clamp (show s.2.1 < 2 ^ 31 by omega)
  refine st_Law_addStep [] 30 ?_
  rcases Nat.lt_or_ge s.2.1 240 with hl | hl
  · have v1 : vp_in (nI s.2.1) 240 := vp_in_nI hl (by decide)
    have ge : ¬ 240 ≤ nI s.2.1 := nI_ge (b := 240) hl (by decide)
    have ep : lc_push op v s.2 = (s.2.1 + 1, fun k => if k = s.2.1 then (op, v) else s.2.2 k) := if_pos hl
    rw [ep] at hR
    simp only [↓zq, ↓reduceIte, zr_si2, zr_sr1, zr_cp2, zr_tl, zr_tn, shq, List.contains_nil, List.contains_cons, Nat.reduceBEq, Bool.false_or, Bool.or_false, Bool.true_or, Bool.false_eq_true, if_false, if_true, true_and, and_true, List.set_cons_zero, List.set_cons_succ, List.length_cons, List.length_nil, Nat.reduceAdd, Nat.reduceLeDiff, Nat.le_refl, Nat.zero_le, true_or, or_true, zn_cl, ↓jj_Law_addStep, k0, k1, k2, q0, q1, c1, v1, cl, ge]
    simp only [zr_si1, show ¬ w = w + 1 by omega, show ¬ w = w + 2 by omega, false_and, if_false, and_self, if_true, c1, nI_1, nI_pred, cl, v1, true_and]
    simp only [not_false_eq_true, not_true_eq_false, false_imp_iff, true_imp_iff, forall_const, and_true, true_and, and_self, false_or, or_false, Int32.reduceLT, Int32.reduceLE, Int32.reduceSub, Int32.reduceAdd]
    refine hR _ ⟨rfl, fun a h1 h2 h3 h4 => ?_, fun k hk => ?_, fun k hk => ?_⟩ ⟨zt_s_i t1 rfl ?_ ?_, ?_, Nat.succ_le_of_lt hl, fun k hk => ?_⟩
    · funext j; simp only [zr_si1, h2, h3, h4, false_and, if_false]
    · rw [zr_si1, if_neg (by omega), zr_si1, if_neg (by omega), zr_si1, if_neg (by omega)]
    · rw [zr_si1, if_neg (fun z => hk z.2), zr_si1, if_neg (by omega), zr_si1, if_neg (by omega)]
    · funext j; rw [zr_si1, if_neg (by omega), zr_si1, if_neg (by omega), zr_si1, if_neg (by omega)]
    · funext j; rw [zr_si1, if_neg (by omega), zr_si1, if_neg (by omega), zr_si1, if_neg (by omega)]
    · rw [zr_si1, if_pos ⟨rfl, rfl⟩]
    · have hk' : k < s.2.1 + 1 := hk
      dsimp only
      by_cases z : k = s.2.1
      · subst z
        rw [if_pos rfl]
        refine ⟨?_, ?_⟩
        · rw [zr_si1, if_neg (by omega), zr_si1, if_neg (by omega), zr_si1, if_pos ⟨rfl, rfl⟩]
        · rw [zr_si1, if_neg (by omega), zr_si1, if_pos ⟨rfl, rfl⟩]
      · rw [if_neg z]
        obtain ⟨a1, a2⟩ := c3 k (by omega)
        refine ⟨?_, ?_⟩
        · rw [zr_si1, if_neg (by omega), zr_si1, if_neg (by omega), zr_si1, if_neg (by omega)]; exact a1
        · rw [zr_si1, if_neg (by omega), zr_si1, if_neg (by omega), zr_si1, if_neg (by omega)]; exact a2
  · have ep : lc_push op v s.2 = s.2 := if_neg (by omega)
    rw [ep] at hR
    have e1 : nI s.2.1 - 1 = nI (s.2.1 - 1) := pk_sub (a := s.2.1) (b := 1) (by omega)
    simp only [↓zq, ↓reduceIte, zr_si2, zr_sr1, zr_cp2, zr_tl, zr_tn, shq, List.contains_nil, List.contains_cons, Nat.reduceBEq, Bool.false_or, Bool.or_false, Bool.true_or, Bool.false_eq_true, if_false, if_true, true_and, and_true, List.set_cons_zero, List.set_cons_succ, List.length_cons, List.length_nil, Nat.reduceAdd, Nat.reduceLeDiff, Nat.le_refl, Nat.zero_le, true_or, or_true, zn_cl, ↓jj_Law_addStep, k0, c1, e1]
    refine ⟨fun _ => hR h (zw_f.rf w h) hs, fun z => absurd (nI_le (a := 240) hl (by omega)) z⟩
def zl_o (o : Option Nat) : Int32 := match o with
  | none => -1
  | some i => nI i
set_option maxHeartbeats 4000000 in
set_option maxRecDepth 100000 in
theorem k_Law_leadHere {d : Nat} {h : zm_M} {R : zm_R} {T : Nat → Nat} {n w : Nat} {o : Option Nat} {s : zl_s} (hg : zg h.2 w) (hs : zq_s h T n w s) (ho : ∀ i, o = some i → i < 1000) (hR : ∀ h' : zm_M, zw_f w h h' → zq_s h' T n w (s.1, lc_lead o s.2) → R none h') : zm_C (d + 1) TT m_Law_leadHere [.inr (some w), .inl (zl_o o)] h R := by
  obtain ⟨g1, g2, ⟨k0, k1, k2, k3, k4, k5, k6, k7, k8, q0, q1, q3, q4, q5, q6, q8, q11⟩, hw⟩ := id hg
  obtain ⟨t1, c1, c2, c3⟩ := id hs
  refine st_Law_leadHere [] 30 ?_
  match o, ho, hR with
  | none, ho, hR =>
    simp only [↓zq, ↓reduceIte, zr_si2, zr_sr1, zr_cp2, zr_tl, zr_tn, shq, List.contains_nil, List.contains_cons, Nat.reduceBEq, Bool.false_or, Bool.or_false, Bool.true_or, Bool.false_eq_true, if_false, if_true, true_and, and_true, List.set_cons_zero, List.set_cons_succ, List.length_cons, List.length_nil, Nat.reduceAdd, Nat.reduceLeDiff, Nat.le_refl, Nat.zero_le, true_or, or_true, zn_cl, ↓jj_Law_leadHere, k0]
    exact ⟨fun _ => hR h (zw_f.rf w h) hs, fun z => absurd (by decide) z⟩
  | some i, ho, hR =>
    have hi := ho i rfl
    rw [show zl_o (some i) = nI i from rfl]
    have el : lc_lead (some i) s.2 = if i < s.2.1 then (s.2.1, fun k => if k = i then ((s.2.2 i).1, s.2.1) else s.2.2 k) else s.2 := rfl
    rw [el] at hR
    have ei : (nI s.2.1 ≤ nI i) = (s.2.1 ≤ i) := zn_le (by omega) (by omega)
    have cl := nI_clamp (show i < 2 ^ 31 by omega)
    simp only [↓zq, ↓reduceIte, zr_si2, zr_sr1, zr_cp2, zr_tl, zr_tn, shq, List.contains_nil, List.contains_cons, Nat.reduceBEq, Bool.false_or, Bool.or_false, Bool.true_or, Bool.false_eq_true, if_false, if_true, true_and, and_true, List.set_cons_zero, List.set_cons_succ, List.length_cons, List.length_nil, Nat.reduceAdd, Nat.reduceLeDiff, Nat.le_refl, Nat.zero_le, true_or, or_true, zn_cl, ↓jj_Law_leadHere, k0, k2, q1, c1, ei, cl]
    refine ⟨fun z => absurd z (nI_pos (by omega)), fun _ => ⟨fun z => ?_, fun z => ⟨vp_in_nI (by omega) (by decide), ?_⟩⟩⟩
    · rw [if_neg (by omega)] at hR
      exact hR h (zw_f.rf w h) hs
    · rw [if_pos (by omega)] at hR
      refine hR _ ⟨rfl, fun a h1 h2 h3 h4 => ?_, fun k hk => ?_, fun k hk => ?_⟩ ⟨zt_s_i t1 rfl ?_ ?_, ?_, c2, fun k hk => ?_⟩
      · funext j; rw [zr_si1, if_neg (fun z => h4 z.1)]
      · rw [zr_si1, if_neg (by omega)]
      · rw [zr_si1, if_neg (by omega)]
      · funext j; rw [zr_si1, if_neg (by omega)]
      · funext j; rw [zr_si1, if_neg (by omega)]
      · rw [zr_si1, if_neg (by omega)]; exact c1
      · have hk' : k < s.2.1 := hk
        obtain ⟨a1, a2⟩ := c3 k hk'
        dsimp only
        rw [zr_si1, if_neg (by omega), zr_si1]
        by_cases z : k = i
        · subst z
          rw [if_pos rfl, if_pos ⟨rfl, rfl⟩]
          exact ⟨a1, rfl⟩
        · rw [if_neg z, if_neg (fun q => z q.2)]
          exact ⟨a1, a2⟩
def zl_o2 (o : Option Nat) : Int32 := match o with
  | none => -1
  | some op => nI (zl_sn op)
theorem zl_sn_lt : ∀ op, op < 13 → zl_sn op < 256 := by decide
set_option maxHeartbeats 4000000 in
set_option maxRecDepth 100000 in
theorem k_LawR_addWaiting {d : Nat} {h : zm_M} {R : zm_R} {T : Nat → Nat} {n w : Nat} {o : Option Nat} {s : zl_s} (hg : zg h.2 w) (hs : zq_s h T n w s) (ho : ∀ i, o = some i → i < 13) (hR : ∀ h' : zm_M, zw_f w h h' → zq_s h' T n w (s.1, lc_wait o s.2) → R none h') : zm_C (d + 2) TT m_LawR_addWaiting [.inr (some 3), .inl (zl_o2 o)] h R := by
  obtain ⟨g1, g2, g3, hw⟩ := id hg
  have k0 := g3.1
  refine st_LawR_addWaiting [] 30 ?_
  match o, ho, hR with
  | none, ho, hR =>
    simp only [↓zq, ↓reduceIte, zr_si2, zr_sr1, zr_cp2, zr_tl, zr_tn, shq, List.contains_nil, List.contains_cons, Nat.reduceBEq, Bool.false_or, Bool.or_false, Bool.true_or, Bool.false_eq_true, if_false, if_true, true_and, and_true, List.set_cons_zero, List.set_cons_succ, List.length_cons, List.length_nil, Nat.reduceAdd, Nat.reduceLeDiff, Nat.le_refl, Nat.zero_le, true_or, or_true, zn_cl, ↓jj_LawR_addWaiting, g2]
    exact ⟨fun _ => hR h (zw_f.rf w h) hs, fun z => absurd rfl z⟩
  | some op, ho, hR =>
    have hi := zl_sn_lt op (ho op rfl)
    rw [show zl_o2 (some op) = nI (zl_sn op) from rfl]
    have nm : ¬ nI (zl_sn op) = -1 := fun z => absurd (show nI (zl_sn op) < 0 by rw [z]; decide) (nI_pos (by omega))
    simp only [↓zq, ↓reduceIte, zr_si2, zr_sr1, zr_cp2, zr_tl, zr_tn, shq, List.contains_nil, List.contains_cons, Nat.reduceBEq, Bool.false_or, Bool.or_false, Bool.true_or, Bool.false_eq_true, if_false, if_true, true_and, and_true, List.set_cons_zero, List.set_cons_succ, List.length_cons, List.length_nil, Nat.reduceAdd, Nat.reduceLeDiff, Nat.le_refl, Nat.zero_le, true_or, or_true, zn_cl, ↓jj_LawR_addWaiting, g2, nm]
    simp only [not_false_eq_true, not_true_eq_false, false_imp_iff, true_imp_iff, forall_const, and_true, true_and, and_self, false_or, or_false, Int32.reduceLT, Int32.reduceLE, Int32.reduceSub, Int32.reduceAdd]
    refine ⟨k0, ?_⟩
    refine k_Law_addStep (v := 0) hg hs (fun h' hf hs' => ?_)
    simp only [↓zq, ↓reduceIte, zr_si2, zr_sr1, zr_cp2, zr_tl, zr_tn, shq, List.contains_nil, List.contains_cons, Nat.reduceBEq, Bool.false_or, Bool.or_false, Bool.true_or, Bool.false_eq_true, if_false, if_true, true_and, and_true, List.set_cons_zero, List.set_cons_succ, List.length_cons, List.length_nil, Nat.reduceAdd, Nat.reduceLeDiff, Nat.le_refl, Nat.zero_le, true_or, or_true, zn_cl, ↓jj_LawR_addWaiting]
    exact hR h' hf hs'
def zt_l (w : Nat) : Int32 := if w = 7 then -1 else nI w
set_option maxHeartbeats 4000000 in
set_option maxRecDepth 100000 in
theorem k_Law_letterOf {d : Nat} {T : zm_T} {h : zm_M} {R : zm_R} {c : Nat} (hc : c ≤ 256) (hR : R (some (.inl (zt_l (l_let c)))) h) : zm_C (d + 1) T m_Law_letterOf [.inl (zt_v c)] h R := by
  have ev : ∀ k, k < 256 → (zt_v c = nI k ↔ c = k) := fun k hk => Eq.to_iff (zt_v_eq hc hk)
  refine st_Law_letterOf [] 30 ?_
  simp only [↓zq, ↓reduceIte, zr_si2, zr_sr1, zr_cp2, zr_tl, zr_tn, shq, List.contains_nil, List.contains_cons, Nat.reduceBEq, Bool.false_or, Bool.or_false, Bool.true_or, Bool.false_eq_true, if_false, if_true, true_and, and_true, List.set_cons_zero, List.set_cons_succ, List.length_cons, List.length_nil, Nat.reduceAdd, Nat.reduceLeDiff, Nat.le_refl, Nat.zero_le, true_or, or_true, zn_cl, ↓jj_Law_letterOf]
  refine ⟨fun z => by have := (ev 97 (by decide)).mp z; subst this; exact hR, fun z97 => ⟨fun z => by have := (ev 98 (by decide)).mp z; subst this; exact hR, fun z98 => ⟨fun z => by have := (ev 99 (by decide)).mp z; subst this; exact hR, fun z99 => ⟨fun z => by have := (ev 100 (by decide)).mp z; subst this; exact hR, fun z100 => ⟨fun z => by have := (ev 101 (by decide)).mp z; subst this; exact hR, fun z101 => ⟨fun z => by have := (ev 102 (by decide)).mp z; subst this; exact hR, fun z102 => ⟨fun z => by have := (ev 103 (by decide)).mp z; subst this; exact hR, fun z103 => ⟨fun z => by have := (ev 104 (by decide)).mp z; subst this; exact hR, fun z104 => ⟨fun z => by have := (ev 105 (by decide)).mp z; subst this; exact hR, fun z105 => ⟨fun z => by have := (ev 106 (by decide)).mp z; subst this; exact hR, fun z106 => ⟨fun z => by have := (ev 107 (by decide)).mp z; subst this; exact hR, fun z107 => ⟨fun z => by have := (ev 108 (by decide)).mp z; subst this; exact hR, fun z108 => ⟨fun z => by have := (ev 109 (by decide)).mp z; subst this; exact hR, fun z109 => ⟨fun z => by have := (ev 110 (by decide)).mp z; subst this; exact hR, fun z110 => ⟨fun z => by have := (ev 111 (by decide)).mp z; subst this; exact hR, fun z111 => ⟨fun z => by have := (ev 112 (by decide)).mp z; subst this; exact hR, fun z112 => ⟨fun z => by have := (ev 113 (by decide)).mp z; subst this; exact hR, fun z113 => ⟨fun z => by have := (ev 114 (by decide)).mp z; subst this; exact hR, fun z114 => ⟨fun z => by have := (ev 115 (by decide)).mp z; subst this; exact hR, fun z115 => ⟨fun z => by have := (ev 116 (by decide)).mp z; subst this; exact hR, fun z116 => ⟨fun z => by have := (ev 117 (by decide)).mp z; subst this; exact hR, fun z117 => ⟨fun z => by have := (ev 118 (by decide)).mp z; subst this; exact hR, fun z118 => ⟨fun z => by have := (ev 119 (by decide)).mp z; subst this; exact hR, fun z119 => ?_⟩⟩⟩⟩⟩⟩⟩⟩⟩⟩⟩⟩⟩⟩⟩⟩⟩⟩⟩⟩⟩⟩⟩
  have e7 : l_let c = 7 := by
    unfold l_let
    rw [if_neg (fun q => z97 ((ev 97 (by decide)).mpr q)), if_neg (fun q => z98 ((ev 98 (by decide)).mpr q)), if_neg (fun q => z99 ((ev 99 (by decide)).mpr q)), if_neg (fun q => z109 ((ev 109 (by decide)).mpr q)), if_neg (fun q => z110 ((ev 110 (by decide)).mpr q)), if_neg (fun q => z107 ((ev 107 (by decide)).mpr q)), if_neg (fun q => z119 ((ev 119 (by decide)).mpr q))]
  rw [e7] at hR
  exact hR
set_option maxHeartbeats 4000000 in
set_option maxRecDepth 100000 in
theorem k_Mo_factOf {d : Nat} {T : zm_T} {h : zm_M} {R : zm_R} {c : Nat} (hc : c ≤ 256) (hR : R (some (.inl (zt_l (l_let c)))) h) : zm_C (d + 1) T m_Mo_factOf [.inl (zt_v c)] h R := by
  have ev : ∀ k, k < 256 → (zt_v c = nI k ↔ c = k) := fun k hk => Eq.to_iff (zt_v_eq hc hk)
  refine st_Mo_factOf [] 30 ?_
  simp only [↓zq, ↓reduceIte, zr_si2, zr_sr1, zr_cp2, zr_tl, zr_tn, shq, List.contains_nil, List.contains_cons, Nat.reduceBEq, Bool.false_or, Bool.or_false, Bool.true_or, Bool.false_eq_true, if_false, if_true, true_and, and_true, List.set_cons_zero, List.set_cons_succ, List.length_cons, List.length_nil, Nat.reduceAdd, Nat.reduceLeDiff, Nat.le_refl, Nat.zero_le, true_or, or_true, zn_cl, ↓jj_Mo_factOf]
  refine ⟨fun z => by have := (ev 97 (by decide)).mp z; subst this; exact hR, fun z97 => ⟨fun z => by have := (ev 98 (by decide)).mp z; subst this; exact hR, fun z98 => ⟨fun z => by have := (ev 99 (by decide)).mp z; subst this; exact hR, fun z99 => ⟨fun z => by have := (ev 100 (by decide)).mp z; subst this; exact hR, fun z100 => ⟨fun z => by have := (ev 101 (by decide)).mp z; subst this; exact hR, fun z101 => ⟨fun z => by have := (ev 102 (by decide)).mp z; subst this; exact hR, fun z102 => ⟨fun z => by have := (ev 103 (by decide)).mp z; subst this; exact hR, fun z103 => ⟨fun z => by have := (ev 104 (by decide)).mp z; subst this; exact hR, fun z104 => ⟨fun z => by have := (ev 105 (by decide)).mp z; subst this; exact hR, fun z105 => ⟨fun z => by have := (ev 106 (by decide)).mp z; subst this; exact hR, fun z106 => ⟨fun z => by have := (ev 107 (by decide)).mp z; subst this; exact hR, fun z107 => ⟨fun z => by have := (ev 108 (by decide)).mp z; subst this; exact hR, fun z108 => ⟨fun z => by have := (ev 109 (by decide)).mp z; subst this; exact hR, fun z109 => ⟨fun z => by have := (ev 110 (by decide)).mp z; subst this; exact hR, fun z110 => ⟨fun z => by have := (ev 111 (by decide)).mp z; subst this; exact hR, fun z111 => ⟨fun z => by have := (ev 112 (by decide)).mp z; subst this; exact hR, fun z112 => ⟨fun z => by have := (ev 113 (by decide)).mp z; subst this; exact hR, fun z113 => ⟨fun z => by have := (ev 114 (by decide)).mp z; subst this; exact hR, fun z114 => ⟨fun z => by have := (ev 115 (by decide)).mp z; subst this; exact hR, fun z115 => ⟨fun z => by have := (ev 116 (by decide)).mp z; subst this; exact hR, fun z116 => ⟨fun z => by have := (ev 117 (by decide)).mp z; subst this; exact hR, fun z117 => ⟨fun z => by have := (ev 118 (by decide)).mp z; subst this; exact hR, fun z118 => ⟨fun z => by have := (ev 119 (by decide)).mp z; subst this; exact hR, fun z119 => ?_⟩⟩⟩⟩⟩⟩⟩⟩⟩⟩⟩⟩⟩⟩⟩⟩⟩⟩⟩⟩⟩⟩⟩
  have e7 : l_let c = 7 := by
    unfold l_let
    rw [if_neg (fun q => z97 ((ev 97 (by decide)).mpr q)), if_neg (fun q => z98 ((ev 98 (by decide)).mpr q)), if_neg (fun q => z99 ((ev 99 (by decide)).mpr q)), if_neg (fun q => z109 ((ev 109 (by decide)).mpr q)), if_neg (fun q => z110 ((ev 110 (by decide)).mpr q)), if_neg (fun q => z107 ((ev 107 (by decide)).mpr q)), if_neg (fun q => z119 ((ev 119 (by decide)).mpr q))]
  rw [e7] at hR
  exact hR
