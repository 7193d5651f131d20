/-! pieces ended, jumps landed (reference) -/
set_option maxHeartbeats 4000000 in
set_option maxRecDepth 100000 in
theorem k_Mo_ends1 {d : Nat} {h : zm_M} {R : zm_R} {T : Nat → Nat} {n p o : Nat} {c : zl_c} {k : zr_K} (hs : zr_s h T n p c ((10, 0) :: k) (o + 1)) (hc : c.1 < 240) (hR : ∀ h' : zm_M, zr_f2 h h' → zr_s h' T n p (lc_push 10 0 c) k o → zm_W (zm_md m_Mo_endsPiece) (d + 2) TT R 0 [some (.inr (some 133))] [] h') : zm_W (zm_md m_Mo_endsPiece) (d + 2) TT R 0 [some (.inr (some 133))] [] h := by
  refine zm_go g_Mo_endsPiece [0] 30 (by decide +kernel) ok_Mo_endsPiece _ rfl ?_
  simp only [↓zq, ↓reduceIte, zr_si2, zr_sr1, zr_cp2, zr_tl, zr_tn, shq, List.contains_nil, List.contains_cons, Nat.reduceBEq, Bool.false_or, Bool.or_false, Bool.true_or, Bool.false_eq_true, if_false, if_true, true_and, and_true, List.set_cons_zero, List.set_cons_succ, List.length_cons, List.length_nil, Nat.reduceAdd, Nat.reduceLeDiff, Nat.le_refl, Nat.zero_le, true_or, or_true, zn_cl, ↓jj_Mo_endsPiece]
  refine k_Mo_waitTop hs ?_
  rw [show zr_top ((10, 0) :: k) = 10 from rfl]
  simp only [↓zq, ↓reduceIte, zr_si2, zr_sr1, zr_cp2, zr_tl, zr_tn, shq, List.contains_nil, List.contains_cons, Nat.reduceBEq, Bool.false_or, Bool.or_false, Bool.true_or, Bool.false_eq_true, if_false, if_true, true_and, and_true, List.set_cons_zero, List.set_cons_succ, List.length_cons, List.length_nil, Nat.reduceAdd, Nat.reduceLeDiff, Nat.le_refl, Nat.zero_le, true_or, or_true, zn_cl, ↓jj_Mo_endsPiece]
  simp only [not_false_eq_true, not_true_eq_false, false_imp_iff, true_imp_iff, forall_const, and_true, true_and, and_self, false_or, or_false, Int32.reduceLT, Int32.reduceLE, Int32.reduceSub, Int32.reduceAdd]
  refine k_Mo_notes (op := 10) (v := 0) hs (by decide) (by decide) hc (fun h2 f2 s2 => ?_)
  obtain ⟨e1, f3, s3⟩ := zr_pop s2
  have eo : (zm_si h2 133 15 (nI k.length)).1 133 13 - 1 = nI o := by rw [s3.2.2.2.2.1, nI_pred]
  obtain ⟨f4, s4⟩ := zr_open s3 (o' := o) (by have := s3.2.2.2.2.2; omega)
  simp only [↓zq, ↓reduceIte, zr_si2, zr_sr1, zr_cp2, zr_tl, zr_tn, shq, List.contains_nil, List.contains_cons, Nat.reduceBEq, Bool.false_or, Bool.or_false, Bool.true_or, Bool.false_eq_true, if_false, if_true, true_and, and_true, List.set_cons_zero, List.set_cons_succ, List.length_cons, List.length_nil, Nat.reduceAdd, Nat.reduceLeDiff, Nat.le_refl, Nat.zero_le, true_or, or_true, zn_cl, ↓jj_Mo_endsPiece, e1, eo]
  exact hR _ ((f2.tr f3).tr f4) s4
set_option maxHeartbeats 4000000 in
set_option maxRecDepth 100000 in
theorem k_Mo_ends0 {d : Nat} {h : zm_M} {R : zm_R} {T : Nat → Nat} {n p o : Nat} {c : zl_c} {k : zr_K} (hs : zr_s h T n p c k o) (hk : ∀ x r, k = x :: r → x.1 ≠ 10) (hR : R none h) : zm_W (zm_md m_Mo_endsPiece) (d + 2) TT R 0 [some (.inr (some 133))] [] h := by
  have ne : ¬ zr_top k = 10 := by
    match k, hk, hs with
    | [], hk, hs => decide
    | x :: r, hk, hs =>
      have hx14 := hs.2.2.2.1.2.2.2.1
      intro z
      have z' : nI x.1 = nI 10 := z
      exact hk x r rfl ((nI_eq (by omega) (by decide)).mp z')
  refine zm_go g_Mo_endsPiece [0] 30 (by decide +kernel) ok_Mo_endsPiece _ rfl ?_
  simp only [↓zq, ↓reduceIte, zr_si2, zr_sr1, zr_cp2, zr_tl, zr_tn, shq, List.contains_nil, List.contains_cons, Nat.reduceBEq, Bool.false_or, Bool.or_false, Bool.true_or, Bool.false_eq_true, if_false, if_true, true_and, and_true, List.set_cons_zero, List.set_cons_succ, List.length_cons, List.length_nil, Nat.reduceAdd, Nat.reduceLeDiff, Nat.le_refl, Nat.zero_le, true_or, or_true, zn_cl, ↓jj_Mo_endsPiece]
  refine k_Mo_waitTop hs ?_
  simp only [↓zq, ↓reduceIte, zr_si2, zr_sr1, zr_cp2, zr_tl, zr_tn, shq, List.contains_nil, List.contains_cons, Nat.reduceBEq, Bool.false_or, Bool.or_false, Bool.true_or, Bool.false_eq_true, if_false, if_true, true_and, and_true, List.set_cons_zero, List.set_cons_succ, List.length_cons, List.length_nil, Nat.reduceAdd, Nat.reduceLeDiff, Nat.le_refl, Nat.zero_le, true_or, or_true, zn_cl, ↓jj_Mo_endsPiece]
  exact ⟨fun _ => hR, fun z => absurd z ne⟩
def zr_j (op : Nat) (o : Option Nat) (k : zr_K) : zr_K := match o with
  | none => k
  | some i => (op, i) :: k
set_option maxHeartbeats 4000000 in
set_option maxRecDepth 100000 in
theorem k_Mo_lands1 {d : Nat} {h : zm_M} {R : zm_R} {T : Nat → Nat} {n p o op i : Nat} {c : zl_c} {k : zr_K} {all : Bool} (hs : zr_s h T n p c ((op, i) :: k) o) (hop : op = 11 ∨ (all = true ∧ op = 12)) (hi : i < c.1) (hR : ∀ (h' : zm_M) (l2 : Option zm_V), zr_f2 h h' → zr_s h' T n p (lc_lead (some i) c) k o → zm_W (zm_md m_Mo_lands) (d + 2) TT R 0 [some (.inr (some 133)), some (.inl (if all = true then 1 else 0)), l2] [] h') (l2 : Option zm_V) : zm_W (zm_md m_Mo_lands) (d + 2) TT R 0 [some (.inr (some 133)), some (.inl (if all = true then 1 else 0)), l2] [] h := by
  have tp : zr_top ((op, i) :: k) = nI op := rfl
  obtain ⟨a1, a2, ⟨a3, a4, a5⟩, ⟨a6, a7, a8⟩, a9⟩ := id hs
  rw [List.length_cons] at a6 a7
  have p19 : h.2 133 19 = some 139 := by simp only [a1]
  have p18 : h.2 133 18 = some 138 := by simp only [a1]
  have at22 : zm_W (zm_md m_Mo_lands) (d + 2) TT R 22 [some (.inr (some 133)), some (.inl (if all = true then 1 else 0)), l2] [] h := by
    have ep : nI (k.length + 1) - 1 = nI k.length := nI_pred _
    have v1 : vp_in (nI k.length) 260 := vp_in_nI (by omega) (by decide)
    have c1 := nI_clamp (show k.length < 2 ^ 31 by omega)
    have ex : h.1 139 k.length = nI (1048576 * op + i) := a8.1
    have hop14 : op ≤ 14 := a8.2.1
    have hi2 : i < 1048576 := a8.2.2.1
    obtain ⟨u1, u2⟩ := zn_unit hop14 hi2
    have v2 : vp_in (nI i) 260 := vp_in_nI (by omega) (by decide)
    have c2 := nI_clamp (show i < 2 ^ 31 by omega)
    obtain ⟨b1, b2, b3⟩ := a5 i hi
    obtain ⟨w1, w2⟩ := zn_unit (show (c.2 i).1 ≤ 14 by omega) b3
    have ev : (1048576 : Int32) * nI (c.2 i).1 + nI c.1 = nI (1048576 * (c.2 i).1 + c.1) := by rw [show (1048576 : Int32) = nI 1048576 from rfl, pk_mul, nI_add]
    have el : lc_lead (some i) c = (c.1, fun q => if q = i then ((c.2 i).1, c.1) else c.2 q) := if_pos hi
    refine zm_go g_Mo_lands [0, 22, 73] 30 (by decide +kernel) ok_Mo_lands _ rfl ?_
    simp only [↓zq, ↓reduceIte, zr_si2, zr_sr1, zr_cp2, zr_tl, zr_tn, shq, List.contains_nil, List.contains_cons, Nat.reduceBEq, Bool.false_or, Bool.or_false, Bool.true_or, Bool.false_eq_true, if_false, if_true, true_and, and_true, List.set_cons_zero, List.set_cons_succ, List.length_cons, List.length_nil, Nat.reduceAdd, Nat.reduceLeDiff, Nat.le_refl, Nat.zero_le, true_or, or_true, zn_cl, ↓jj_Mo_lands, p19, p18, a6, ep, v1, c1, ex, u1, u2, v2, c2, b1, w1, a3, ev]
    simp only [zr_si1, show ¬ (133 : Nat) = 138 by decide, false_and, if_false, a6, ep]
    have sA : zr_s (zm_si h 138 i (nI (1048576 * (c.2 i).1 + c.1))) T n p (lc_lead (some i) c) ((op, i) :: k) o := by
      refine ⟨a1, zu_s_i a2 rfl (by rw [zr_si1, if_neg (by omega)]) (by rw [zr_si1, if_neg (by omega)]) (by funext j; rw [zr_si1, if_neg (by omega)]), ?_, ?_, ?_⟩
      · rw [el]
        refine ⟨by rw [zr_si1, if_neg (by omega)]; exact a3, a4, fun q hq => ?_⟩
        dsimp only at hq ⊢
        rw [zr_si1]
        by_cases z : q = i
        · subst z
          rw [if_pos ⟨rfl, rfl⟩, if_pos rfl]
          exact ⟨rfl, b2, by dsimp only; omega⟩
        · rw [if_neg (fun y => z y.2), if_neg z]
          exact a5 q hq
      · unfold zr_w
        rw [zr_si1, if_neg (by omega), show (zm_si h 138 i (nI (1048576 * (c.2 i).1 + c.1))).1 139 = h.1 139 by funext j; rw [zr_si1, if_neg (by omega)]]
        exact ⟨by rw [List.length_cons]; exact a6, by rw [List.length_cons]; exact a7, a8⟩
      · rw [zr_si1, if_neg (by omega)]
        exact a9
    have fA : zr_f2 h (zm_si h 138 i (nI (1048576 * (c.2 i).1 + c.1))) := ⟨rfl, fun a h1 h2 _ => by funext j; rw [zr_si1, if_neg (fun z => h2 z.1)], fun j hj => by rw [zr_si1, if_neg (by omega)]⟩
    obtain ⟨e1, f3, s3⟩ := zr_pop sA
    refine ⟨by decide, by decide, ?_⟩
    exact hR _ _ (fA.tr f3) s3
  have q11 : (nI op = 11) = (op = 11) := zn_eq (b := 11) (by omega) (by decide)
  have q12 : (nI op = 12) = (op = 12) := zn_eq (b := 12) (by omega) (by decide)
  refine zm_go g_Mo_lands [0, 22, 73] 30 (by decide +kernel) ok_Mo_lands _ rfl ?_
  simp only [↓zq, ↓reduceIte, zr_si2, zr_sr1, zr_cp2, zr_tl, zr_tn, shq, List.contains_nil, List.contains_cons, Nat.reduceBEq, Bool.false_or, Bool.or_false, Bool.true_or, Bool.false_eq_true, if_false, if_true, true_and, and_true, List.set_cons_zero, List.set_cons_succ, List.length_cons, List.length_nil, Nat.reduceAdd, Nat.reduceLeDiff, Nat.le_refl, Nat.zero_le, true_or, or_true, zn_cl, ↓jj_Mo_lands]
  refine k_Mo_waitTop hs ?_
  rw [tp]
  simp only [↓zq, ↓reduceIte, zr_si2, zr_sr1, zr_cp2, zr_tl, zr_tn, shq, List.contains_nil, List.contains_cons, Nat.reduceBEq, Bool.false_or, Bool.or_false, Bool.true_or, Bool.false_eq_true, if_false, if_true, true_and, and_true, List.set_cons_zero, List.set_cons_succ, List.length_cons, List.length_nil, Nat.reduceAdd, Nat.reduceLeDiff, Nat.le_refl, Nat.zero_le, true_or, or_true, zn_cl, ↓jj_Mo_lands, q11]
  refine ⟨fun _ => at22, fun z => ?_⟩
  have ha : all = true ∧ op = 12 := by
    rcases hop with y | y
    · exact absurd y z
    · exact y
  rw [if_pos ha.1] at at22 ⊢
  refine ⟨fun z => absurd z (by decide), fun _ => k_Mo_waitTop hs ?_⟩
  rw [tp]
  simp only [↓zq, ↓reduceIte, zr_si2, zr_sr1, zr_cp2, zr_tl, zr_tn, shq, List.contains_nil, List.contains_cons, Nat.reduceBEq, Bool.false_or, Bool.or_false, Bool.true_or, Bool.false_eq_true, if_false, if_true, true_and, and_true, List.set_cons_zero, List.set_cons_succ, List.length_cons, List.length_nil, Nat.reduceAdd, Nat.reduceLeDiff, Nat.le_refl, Nat.zero_le, true_or, or_true, zn_cl, ↓jj_Mo_lands, q12]
  exact ⟨fun z => absurd ha.2 z, fun _ => at22⟩
set_option maxHeartbeats 4000000 in
set_option maxRecDepth 100000 in
theorem k_Mo_lands0 {d : Nat} {h : zm_M} {R : zm_R} {T : Nat → Nat} {n p o : Nat} {c : zl_c} {k : zr_K} {all : Bool} (hs : zr_s h T n p c k o) (hk : ∀ x r, k = x :: r → x.1 ≠ 11 ∧ (all = true → x.1 ≠ 12)) (hR : R none h) (l2 : Option zm_V) : zm_W (zm_md m_Mo_lands) (d + 2) TT R 0 [some (.inr (some 133)), some (.inl (if all = true then 1 else 0)), l2] [] h := by
  have ne : ¬ zr_top k = 11 ∧ (all = true → ¬ zr_top k = 12) := by
    match k, hk, hs with
    | [], hk, hs => exact ⟨by decide, fun _ => by decide⟩
    | x :: r, hk, hs =>
      have hx14 := hs.2.2.2.1.2.2.2.1
      refine ⟨fun z => ?_, fun ha z => ?_⟩
      · have z' : nI x.1 = nI 11 := z
        exact (hk x r rfl).1 ((nI_eq (by omega) (by decide)).mp z')
      · have z' : nI x.1 = nI 12 := z
        exact (hk x r rfl).2 ha ((nI_eq (by omega) (by decide)).mp z')
  refine zm_go g_Mo_lands [0, 22] 30 (by decide +kernel) ok_Mo_lands _ rfl ?_
  simp only [↓zq, ↓reduceIte, zr_si2, zr_sr1, zr_cp2, zr_tl, zr_tn, shq, List.contains_nil, List.contains_cons, Nat.reduceBEq, Bool.false_or, Bool.or_false, Bool.true_or, Bool.false_eq_true, if_false, if_true, true_and, and_true, List.set_cons_zero, List.set_cons_succ, List.length_cons, List.length_nil, Nat.reduceAdd, Nat.reduceLeDiff, Nat.le_refl, Nat.zero_le, true_or, or_true, zn_cl, ↓jj_Mo_lands]
  refine k_Mo_waitTop hs ?_
  simp only [↓zq, ↓reduceIte, zr_si2, zr_sr1, zr_cp2, zr_tl, zr_tn, shq, List.contains_nil, List.contains_cons, Nat.reduceBEq, Bool.false_or, Bool.or_false, Bool.true_or, Bool.false_eq_true, if_false, if_true, true_and, and_true, List.set_cons_zero, List.set_cons_succ, List.length_cons, List.length_nil, Nat.reduceAdd, Nat.reduceLeDiff, Nat.le_refl, Nat.zero_le, true_or, or_true, zn_cl, ↓jj_Mo_lands]
  refine ⟨fun z => absurd z ne.1, fun _ => ?_⟩
  by_cases ha : all = true
  · rw [if_pos ha]
    refine ⟨fun _ => hR, fun _ => k_Mo_waitTop hs ?_⟩
    simp only [↓zq, ↓reduceIte, zr_si2, zr_sr1, zr_cp2, zr_tl, zr_tn, shq, List.contains_nil, List.contains_cons, Nat.reduceBEq, Bool.false_or, Bool.or_false, Bool.true_or, Bool.false_eq_true, if_false, if_true, true_and, and_true, List.set_cons_zero, List.set_cons_succ, List.length_cons, List.length_nil, Nat.reduceAdd, Nat.reduceLeDiff, Nat.le_refl, Nat.zero_le, true_or, or_true, zn_cl, ↓jj_Mo_lands]
    exact ⟨fun _ => hR, fun z => absurd z (ne.2 ha)⟩
  · rw [if_neg ha]
    exact ⟨fun _ => hR, fun z => (by first | exact absurd trivial z | exact absurd rfl z | exact absurd z (by decide))⟩
theorem lc_lead_1 (o : Option Nat) (c : zl_c) : (lc_lead o c).1 = c.1 := by
  cases o with
  | none => rfl
  | some i =>
    show (if i < c.1 then _ else c).1 = c.1
    split <;> rfl
set_option maxHeartbeats 4000000 in
set_option maxRecDepth 100000 in
theorem k_Mo_landsA {d : Nat} {h : zm_M} {R : zm_R} {T : Nat → Nat} {n p o : Nat} {c : zl_c} {k : zr_K} {tb pb : Option Nat} (hs : zr_s h T n p c (zr_j 11 tb (zr_j 12 pb k)) o) (ht : ∀ i, tb = some i → i < c.1) (hp : ∀ i, pb = some i → i < c.1) (hk : ∀ x r, k = x :: r → x.1 ≠ 11 ∧ x.1 ≠ 12) (hR : ∀ h' : zm_M, zr_f2 h h' → zr_s h' T n p (lc_lead pb (lc_lead tb c)) k o → R none h') : zm_C (d + 2) TT m_Mo_lands [.inr (some 133), .inl 1] h R := by
  have step2 : ∀ (g : zm_M) (c1 : zl_c) (l2 : Option zm_V), zr_f2 h g → zr_s g T n p c1 (zr_j 12 pb k) o → c1.1 = c.1 → lc_lead pb c1 = lc_lead pb (lc_lead tb c) → zm_W (zm_md m_Mo_lands) (d + 2) TT R 0 [some (.inr (some 133)), some (.inl (if true = true then 1 else 0)), l2] [] g := by
    intro g c1 l2 hf hs1 hc1 he
    match pb, hp, hs1, he, hR with
    | none, hp, hs1, he, hR => exact k_Mo_lands0 (all := true) hs1 (fun x r e => ⟨(hk x r e).1, fun _ => (hk x r e).2⟩) (hR g hf (by rw [← he]; exact hs1)) l2
    | some i, hp, hs1, he, hR =>
      exact k_Mo_lands1 (all := true) hs1 (Or.inr ⟨rfl, rfl⟩) (by rw [hc1]; exact hp i rfl) (fun g2 l f2 s2 => k_Mo_lands0 (all := true) s2 (fun x r e => ⟨(hk x r e).1, fun _ => (hk x r e).2⟩) (hR g2 (hf.tr f2) (by rw [← he]; exact s2)) l) l2
  refine st_Mo_lands [0] 30 ?_
  simp only [↓zq, ↓reduceIte, zr_si2, zr_sr1, zr_cp2, zr_tl, zr_tn, shq, List.contains_nil, List.contains_cons, Nat.reduceBEq, Bool.false_or, Bool.or_false, Bool.true_or, Bool.false_eq_true, if_false, if_true, true_and, and_true, List.set_cons_zero, List.set_cons_succ, List.length_cons, List.length_nil, Nat.reduceAdd, Nat.reduceLeDiff, Nat.le_refl, Nat.zero_le, true_or, or_true, zn_cl, ↓jj_Mo_lands]
  match tb, ht, hs, step2 with
  | none, ht, hs, step2 => exact step2 h c none (zr_f2.rf h) hs rfl rfl
  | some i, ht, hs, step2 => exact k_Mo_lands1 (all := true) hs (Or.inl rfl) (ht i rfl) (fun g2 l f2 s2 => step2 g2 _ l f2 s2 (lc_lead_1 _ _) rfl) none
set_option maxHeartbeats 4000000 in
set_option maxRecDepth 100000 in
theorem k_Mo_landsN {d : Nat} {h : zm_M} {R : zm_R} {T : Nat → Nat} {n p o : Nat} {c : zl_c} {k : zr_K} {tb pb : Option Nat} (hs : zr_s h T n p c (zr_j 11 tb (zr_j 12 pb k)) o) (ht : ∀ i, tb = some i → i < c.1) (hk : ∀ x r, k = x :: r → x.1 ≠ 11 ∧ x.1 ≠ 12) (hR : ∀ h' : zm_M, zr_f2 h h' → zr_s h' T n p (lc_lead tb c) (zr_j 12 pb k) o → R none h') : zm_C (d + 2) TT m_Mo_lands [.inr (some 133), .inl 0] h R := by
  have nk : ∀ x r, zr_j 12 pb k = x :: r → x.1 ≠ 11 ∧ (false = true → x.1 ≠ 12) := by
    intro x r e
    refine ⟨?_, fun z => absurd z (by decide)⟩
    cases pb with
    | none => exact (hk x r e).1
    | some i =>
      have e' : (12, i) :: k = x :: r := e
      cases e'
      show 12 ≠ 11
      decide
  refine st_Mo_lands [0] 30 ?_
  simp only [↓zq, ↓reduceIte, zr_si2, zr_sr1, zr_cp2, zr_tl, zr_tn, shq, List.contains_nil, List.contains_cons, Nat.reduceBEq, Bool.false_or, Bool.or_false, Bool.true_or, Bool.false_eq_true, if_false, if_true, true_and, and_true, List.set_cons_zero, List.set_cons_succ, List.length_cons, List.length_nil, Nat.reduceAdd, Nat.reduceLeDiff, Nat.le_refl, Nat.zero_le, true_or, or_true, zn_cl, ↓jj_Mo_lands]
  match tb, ht, hs, hR with
  | none, ht, hs, hR => exact k_Mo_lands0 (all := false) hs nk (hR h (zr_f2.rf h) hs) none
  | some i, ht, hs, hR => exact k_Mo_lands1 (all := false) hs (Or.inl rfl) (ht i rfl) (fun g2 l f2 s2 => k_Mo_lands0 (all := false) s2 nk (hR g2 f2 s2) l) none
set_option maxHeartbeats 4000000 in
set_option maxRecDepth 100000 in
theorem k_Mo_jumps {d : Nat} {h : zm_M} {R : zm_R} {T : Nat → Nat} {n p o op : Nat} {c : zl_c} {k : zr_K} (hs : zr_s h T n p c k o) (hop : op ≤ 12) (hc : c.1 < 240) (hk : k.length < 240) (hp : p < n) (hR : ∀ h' : zm_M, zr_f2 h h' → zr_s h' T n (p + 1) (lc_push op 0 c) ((op, c.1) :: k) o → R none h') : zm_C (d + 2) TT m_Mo_jumps [.inr (some 133), .inl (nI op)] h R := by
  have p19 : h.2 133 19 = some 139 := by have := hs.1; simp only [this]
  have ek := hs.2.2.2.1.1
  have ec := hs.2.2.1.1
  have v1 : vp_in (nI k.length) 260 := vp_in_nI (by omega) (by decide)
  have cl := nI_clamp (show k.length < 2 ^ 31 by omega)
  have ev : (1048576 : Int32) * nI op + nI c.1 = nI (1048576 * op + c.1) := by rw [show (1048576 : Int32) = nI 1048576 from rfl, pk_mul, nI_add]
  refine st_Mo_jumps [] 30 ?_
  simp only [↓zq, ↓reduceIte, zr_si2, zr_sr1, zr_cp2, zr_tl, zr_tn, shq, List.contains_nil, List.contains_cons, Nat.reduceBEq, Bool.false_or, Bool.or_false, Bool.true_or, Bool.false_eq_true, if_false, if_true, true_and, and_true, List.set_cons_zero, List.set_cons_succ, List.length_cons, List.length_nil, Nat.reduceAdd, Nat.reduceLeDiff, Nat.le_refl, Nat.zero_le, true_or, or_true, zn_cl, ↓jj_Mo_jumps, p19, ek, ec, v1, cl, ev]
  simp only [zr_si1, show ¬ (133 : Nat) = 139 by decide, false_and, if_false, ek, nI_1]
  obtain ⟨f2, s2⟩ := zr_push (x := (op, c.1)) hs (by dsimp only; omega) (by dsimp only; omega) hk rfl
  refine k_Mo_notes (v := 0) s2 hop (by decide) hc (fun g3 f3 s3 => ?_)
  obtain ⟨e1, f4, s4⟩ := zr_place s3 hp
  simp only [↓zq, ↓reduceIte, zr_si2, zr_sr1, zr_cp2, zr_tl, zr_tn, shq, List.contains_nil, List.contains_cons, Nat.reduceBEq, Bool.false_or, Bool.or_false, Bool.true_or, Bool.false_eq_true, if_false, if_true, true_and, and_true, List.set_cons_zero, List.set_cons_succ, List.length_cons, List.length_nil, Nat.reduceAdd, Nat.reduceLeDiff, Nat.le_refl, Nat.zero_le, true_or, or_true, zn_cl, ↓jj_Mo_jumps, e1]
  exact hR _ ((f2.tr f3).tr f4) s4
