/-! the law's codes run by the class -/
def zl_lf (w : Nat) (h h' : zm_M) : Prop := h'.2 = h.2 ∧ (∀ a, a ≠ w → a ≠ w + 7 → h'.1 a = h.1 a) ∧ ∀ k, k ≠ 9 → k ≠ 10 → h'.1 w k = h.1 w k
theorem zl_lf.rf (w : Nat) (h : zm_M) : zl_lf w h h := ⟨rfl, fun _ _ _ => rfl, fun _ _ _ => rfl⟩
theorem zl_lf.tr {w : Nat} {h h' h'' : zm_M} (a : zl_lf w h h') (b : zl_lf w h' h'') : zl_lf w h h'' := ⟨b.1.trans a.1, fun x h1 h2 => (b.2.1 x h1 h2).trans (a.2.1 x h1 h2), fun x h1 h2 => (b.2.2 x h1 h2).trans (a.2.2 x h1 h2)⟩
theorem zl_lf.s7 {w : Nat} {h h' : zm_M} (a : zl_lf w h h') (k : Nat) (x : Int32) : zl_lf w h (zm_si h' (w + 7) k x) := by
  refine ⟨a.1, fun c h1 h2 => ?_, fun c h1 h2 => ?_⟩
  · funext j
    rw [zr_si1, if_neg (fun z => h2 z.1), a.2.1 c h1 h2]
  · rw [zr_si1, if_neg (fun z => absurd z.1 (by omega)), a.2.2 c h1 h2]
theorem zl_lf.s0 {w : Nat} {h h' : zm_M} (a : zl_lf w h h') (k : Nat) (hk : k = 9 ∨ k = 10) (x : Int32) : zl_lf w h (zm_si h' w k x) := by
  refine ⟨a.1, fun c h1 h2 => ?_, fun c h1 h2 => ?_⟩
  · funext j
    rw [zr_si1, if_neg (fun z => h1 z.1), a.2.1 c h1 h2]
  · rw [zr_si1, if_neg (fun z => absurd z.2 (by omega)), a.2.2 c h1 h2]
def zl_ls (w : Nat) (h h' : zm_M) (st : List Int32) : Prop := zl_lf w h h' ∧ h'.1 w 9 = nI st.length ∧ h'.1 w 10 = 0 ∧ zl_sk (h'.1 (w + 7)) st
theorem zk_law_lf {w : Nat} {h h' : zm_M} (a : zl_lf w h h') (hk : zk_law h.2 w) : zk_law h'.2 w := by rw [a.1]; exact hk
set_option maxHeartbeats 4000000 in
set_option maxRecDepth 100000 in
theorem l_push {d : Nat} {h h' : zm_M} {R : zm_R} {w : Nat} {st : List Int32} {x : Int32} (hk : zk_law h.2 w) (hl : zl_ls w h h' st) (hn : st.length < 32) (hR : ∀ h'' : zm_M, zl_ls w h h'' (x :: st) → R none h'') : zm_C (d + 1) TT m_Law_push [.inr (some w), .inl x] h' R := by
  refine k_Law_push (n := st.length) (zk_law_lf hl.1 hk) hl.2.1 hn ?_
  refine hR _ ⟨(hl.1.s7 _ _).s0 9 (Or.inl rfl) _, ?_, ?_, ?_⟩
  · rw [zr_si1, if_pos ⟨rfl, rfl⟩]
    rfl
  · rw [zr_si1, if_neg (by omega), zr_si1, if_neg (by omega)]
    exact hl.2.2.1
  · refine ⟨?_, zl_sk_c st (fun i hi => ?_) hl.2.2.2⟩
    · rw [zr_si1, if_neg (by omega), zr_si1, if_pos ⟨rfl, rfl⟩]
    · rw [zr_si1, if_neg (by omega), zr_si1, if_neg (by omega)]
set_option maxHeartbeats 4000000 in
set_option maxRecDepth 100000 in
theorem l_pop {d : Nat} {h h' : zm_M} {R : zm_R} {w : Nat} {st : List Int32} {x : Int32} (hk : zk_law h.2 w) (hl : zl_ls w h h' (x :: st)) (hn : st.length < 32) (hR : ∀ h'' : zm_M, zl_ls w h h'' st → R (some (.inl x)) h'') : zm_C (d + 1) TT m_Law_pop [.inr (some w)] h' R := by
  refine k_Law_pop (n := st.length) (zk_law_lf hl.1 hk) hl.2.1 hn ?_
  rw [hl.2.2.2.1]
  refine hR _ ⟨hl.1.s0 9 (Or.inl rfl) _, ?_, ?_, zl_sk_c st (fun i hi => ?_) hl.2.2.2.2⟩
  · rw [zr_si1, if_pos ⟨rfl, rfl⟩]
  · rw [zr_si1, if_neg (by omega)]
    exact hl.2.2.1
  · rw [zr_si1, if_neg (by omega)]
set_option maxHeartbeats 4000000 in
set_option maxRecDepth 100000 in
theorem l_afterTest {d : Nat} {h h' : zm_M} {R : zm_R} {w : Nat} {st : List Int32} {x : Int32} {op t : Nat} (hk : zk_law h.2 w) (hl : zl_ls w h h' (x :: st)) (hn : st.length < 32) (hx : x = 0 ∨ x = 1) (hop : op = 11 ∨ op = 12) (h1 : (if op = 11 then x = 0 else x = 1) → ∀ h'' : zm_M, zl_ls w h h'' (x :: st) → R (some (.inl (nI t))) h'') (h0 : ¬ (if op = 11 then x = 0 else x = 1) → ∀ h'' : zm_M, zl_ls w h h'' st → R (some (.inl (-1))) h'') : zm_C (d + 2) TT m_Law_afterTest [.inr (some w), .inl (nI (zl_sn op)), .inl (nI t)] h' R := by
  refine k_Law_afterTest (n := st.length) (zk_law_lf hl.1 hk) hl.2.1 hn hl.2.2.2.1 hx hop (fun q => h1 q _ ?_) (fun q => h0 q _ ?_)
  · refine ⟨((hl.1.s0 9 (Or.inl rfl) _).s7 _ _).s0 9 (Or.inl rfl) _, ?_, ?_, ?_, zl_sk_c st (fun i hi => ?_) hl.2.2.2.2⟩
    · rw [zr_si1, if_pos ⟨rfl, rfl⟩]
      rfl
    · rw [zr_si1, if_neg (by omega), zr_si1, if_neg (by omega), zr_si1, if_neg (by omega)]
      exact hl.2.2.1
    · rw [zr_si1, if_neg (by omega), zr_si1, if_pos ⟨rfl, rfl⟩]
    · rw [zr_si1, if_neg (by omega), zr_si1, if_neg (by omega), zr_si1, if_neg (by omega)]
  · refine ⟨hl.1.s0 9 (Or.inl rfl) _, ?_, ?_, zl_sk_c st (fun i hi => ?_) hl.2.2.2.2⟩
    · rw [zr_si1, if_pos ⟨rfl, rfl⟩]
    · rw [zr_si1, if_neg (by omega)]
      exact hl.2.2.1
    · rw [zr_si1, if_neg (by omega)]
set_option maxHeartbeats 4000000 in
set_option maxRecDepth 100000 in
theorem l_reckon {d : Nat} {h h' : zm_M} {R : zm_R} {w op : Nat} {st : List Int32} {x y : Int32} (hk : zk_law h.2 w) (hl : zl_ls w h h' st) (h2 : 2 ≤ op) (h9 : op ≤ 9) (h0 : (op = 5 ∨ op = 6) ∧ y = 0 → ∀ h'' : zm_M, zl_lf w h h'' → h''.1 w 10 = 1 → h''.1 w 9 = nI st.length → R (some (.inl 0)) h'') (h1 : ¬ ((op = 5 ∨ op = 6) ∧ y = 0) → ∀ h'' : zm_M, zl_ls w h h'' st → R (some (.inl (zl_ap op x y))) h'') : zm_C (d + 1) TT m_Law_reckon [.inr (some w), .inl (nI (zl_sn op)), .inl x, .inl y] h' R := by
  refine k_Law_reckon hk.1 hl.2.2.1 h2 h9 (fun q1 q2 => h0 ⟨q1, q2⟩ _ (hl.1.s0 10 (Or.inr rfl) _) ?_ ?_) (fun q g hg => h1 q g ?_)
  · rw [zr_si1, if_pos ⟨rfl, rfl⟩]
  · rw [zr_si1, if_neg (by omega)]
    exact hl.2.1
  · rcases hg with rfl | rfl
    · exact hl
    · refine ⟨hl.1.s0 10 (Or.inr rfl) _, ?_, ?_, zl_sk_c st (fun i hi => ?_) hl.2.2.2⟩
      · rw [zr_si1, if_neg (by omega)]
        exact hl.2.1
      · rw [zr_si1, if_pos ⟨rfl, rfl⟩]
      · rw [zr_si1, if_neg (by omega)]
theorem zl_run_s (cd : zl_cd) (lt : Nat → Int32) (b f k : Nat) (st : List Int32) : zl_run cd lt b (f + 1) k st = if b ≤ k then some (st.headD 0) else
    if (cd k).1 = 0 then zl_run cd lt b f (k + 1) (nI (cd k).2 :: st) else
    if (cd k).1 = 1 then zl_run cd lt b f (k + 1) (lt (cd k).2 :: st) else
    if (cd k).1 = 10 then (match st with
      | x :: r => zl_run cd lt b f (k + 1) ((1 - x) :: r)
      | [] => none) else
    if (cd k).1 = 11 then (match st with
      | x :: r => if x = 0 then zl_run cd lt b f (cd k).2 (x :: r) else zl_run cd lt b f (k + 1) r
      | [] => none) else
    if (cd k).1 = 12 then (match st with
      | x :: r => if x = 1 then zl_run cd lt b f (cd k).2 (x :: r) else zl_run cd lt b f (k + 1) r
      | [] => none) else
    (match st with
      | y :: x :: r => if ((cd k).1 = 5 ∨ (cd k).1 = 6) ∧ y = 0 then none else zl_run cd lt b f (k + 1) (zl_ap (cd k).1 x y :: r)
      | _ => none) := by
  rcases st with _ | ⟨x, _ | ⟨y, r⟩⟩ <;> rfl
theorem zl_run_j (cd : zl_cd) (lt : Nat → Int32) (b f k : Nat) (x : Int32) (r : List Int32) (hk : k < b) (ho : (cd k).1 = 11 ∨ (cd k).1 = 12) : zl_run cd lt b (f + 1) k (x :: r) = if (if (cd k).1 = 11 then x = 0 else x = 1) then zl_run cd lt b f (cd k).2 (x :: r) else zl_run cd lt b f (k + 1) r := by
  rw [zl_run_s, if_neg (by omega), if_neg (by omega), if_neg (by omega), if_neg (by omega)]
  rcases ho with o | o
  · rw [if_pos o]
    simp only [o, if_true]
  · rw [if_neg (by omega), if_pos o]
    simp only [o]
    rfl
theorem zl_run_b (cd : zl_cd) (lt : Nat → Int32) (b f k : Nat) (x y : Int32) (r : List Int32) (hk : k < b) (h2 : 2 ≤ (cd k).1) (h9 : (cd k).1 ≤ 9) : zl_run cd lt b (f + 1) k (y :: x :: r) = if ((cd k).1 = 5 ∨ (cd k).1 = 6) ∧ y = 0 then none else zl_run cd lt b f (k + 1) (zl_ap (cd k).1 x y :: r) := by
  rw [zl_run_s, if_neg (by omega), if_neg (by omega), if_neg (by omega), if_neg (by omega), if_neg (by omega), if_neg (by omega)]
theorem zl_run_end (cd : zl_cd) (lt : Nat → Int32) (b f : Nat) (st : List Int32) : zl_run cd lt b f b st = some (st.headD 0) := by
  cases f with
  | zero => rfl
  | succ f => rw [zl_run_s, if_pos (Nat.le_refl _)]
theorem zl_sn29 : ∀ op, op < 10 → 2 ≤ op → ¬ nI (zl_sn op) = 0 ∧ ¬ nI (zl_sn op) = 1 ∧ ¬ nI (zl_sn op) = 33 ∧ ¬ nI (zl_sn op) = 38 ∧ ¬ nI (zl_sn op) = 124 := by decide
theorem zl_sn_j : ∀ op, op < 13 → (op = 11 ∨ op = 12) → ¬ nI (zl_sn op) = 0 ∧ ¬ nI (zl_sn op) = 1 ∧ ¬ nI (zl_sn op) = 33 ∧ (nI (zl_sn op) = 38 ∨ nI (zl_sn op) = 124) := by decide
set_option maxHeartbeats 4000000 in
set_option maxRecDepth 100000 in
theorem k_Law_run {d : Nat} {h : zm_M} {R : zm_R} {w a b : Nat} {cd : zl_cd} {ty : Nat → List Bool} {s1 : Bool} {lt : Nat → Int32} (hk : zk_law h.2 w) (hb : b ≤ 240) (hcd : ∀ k, a ≤ k → k < b → h.1 (w + 1) k = nI (zl_sn (cd k).1) ∧ h.1 (w + 2) k = nI (cd k).2) (hlt : ∀ v, v < 7 → h.1 (w + 8) v = lt v) (hty : zl_ty cd ty a b [s1]) (hR : ∀ h' : zm_M, zl_lf w h h' → R (some (.inl ((zl_run cd lt b (b - a) a []).getD 0))) h') : zm_C (d + 3) TT m_Law_run [.inr (some w), .inl (nI a), .inl (nI b)] h R := by
  have k0 := hk.1
  have hk1 : ∀ h' : zm_M, zl_lf w h h' → (h'.2 w 0 = some (w + 1) ∧ h'.2 w 1 = some (w + 2)) ∧ (zm_sh TT (w + 1) = (0, 240) ∧ zm_sh TT (w + 2) = (0, 240)) := fun h' hf => by
    rw [hf.1]
    obtain ⟨k0, k1, k2, k3, k4, k5, k6, k7, k8, q0, q1, q3, q4, q5, q6, q8, q11⟩ := hk
    exact ⟨⟨q0, q1⟩, k1, k2⟩
  have fin : ∀ (h' : zm_M) (f : Nat) (st : List Int32) (l1 l4 l5 : Option zm_V), zl_ls w h h' st → st.length = 1 → (∀ h' : zm_M, zl_lf w h h' → R (some (.inl ((zl_run cd lt b f b st).getD 0))) h') → zm_W (zm_md m_Law_run) (d + 3) TT R 16 [some (.inr (some w)), l1, some (.inl (nI b)), some (.inl (nI b)), l4, l5] [] h' := by
    intro h' f st l1 l4 l5 hl hn hR
    obtain ⟨x, rfl⟩ : ∃ x, st = [x] := by
      match st, hn with
      | [x], _ => exact ⟨x, rfl⟩
    rw [zl_run_end] at hR
    refine zm_go g_Law_run [16] 30 (by decide +kernel) ok_Law_run _ rfl ?_
    simp only [↓zq, ↓reduceIte, zr_si2, zr_sr1, zr_cp2, zr_tl, zr_tn, shq, List.contains_nil, List.contains_cons, Nat.reduceBEq, Bool.false_or, Bool.or_false, Bool.true_or, Bool.false_eq_true, if_false, if_true, true_and, and_true, List.set_cons_zero, List.set_cons_succ, List.length_cons, List.length_nil, Nat.reduceAdd, Nat.reduceLeDiff, Nat.le_refl, Nat.zero_le, true_or, or_true, zn_cl, ↓jj_Law_run, k0, hl.2.2.1]
    refine ⟨fun _ => ⟨fun _ => ?_, fun z => (by first | exact absurd trivial z | exact absurd rfl z | exact absurd z (by decide))⟩, fun z => absurd (Int32.le_refl _) z⟩
    refine l_pop hk hl (by decide) (fun h'' hl2 => ?_)
    simp only [↓zq, ↓reduceIte, zr_si2, zr_sr1, zr_cp2, zr_tl, zr_tn, shq, List.contains_nil, List.contains_cons, Nat.reduceBEq, Bool.false_or, Bool.or_false, Bool.true_or, Bool.false_eq_true, if_false, if_true, true_and, and_true, List.set_cons_zero, List.set_cons_succ, List.length_cons, List.length_nil, Nat.reduceAdd, Nat.reduceLeDiff, Nat.le_refl, Nat.zero_le, true_or, or_true, zn_cl, ↓jj_Law_run, k0]
    exact hR h'' hl2.1
  have dead : ∀ (h' : zm_M) (n : Nat) (l1 l4 l5 : Option zm_V) (k : Nat), zl_lf w h h' → h'.1 w 10 = 1 → (∀ h' : zm_M, zl_lf w h h' → R (some (.inl 0)) h') → zm_W (zm_md m_Law_run) (d + 3) TT R 16 [some (.inr (some w)), l1, some (.inl (nI b)), some (.inl (nI k)), l4, l5] [] h' := by
    intro h' n l1 l4 l5 k hf h10 hR
    refine zm_go g_Law_run [16] 30 (by decide +kernel) ok_Law_run _ rfl ?_
    simp only [↓zq, ↓reduceIte, zr_si2, zr_sr1, zr_cp2, zr_tl, zr_tn, shq, List.contains_nil, List.contains_cons, Nat.reduceBEq, Bool.false_or, Bool.or_false, Bool.true_or, Bool.false_eq_true, if_false, if_true, true_and, and_true, List.set_cons_zero, List.set_cons_succ, List.length_cons, List.length_nil, Nat.reduceAdd, Nat.reduceLeDiff, Nat.le_refl, Nat.zero_le, true_or, or_true, zn_cl, ↓jj_Law_run, k0, h10]
    have hr := hR h' hf
    refine ⟨fun _ => ⟨fun z => absurd z (by decide), fun _ => hr⟩, fun _ => ⟨fun _ => ⟨fun z => absurd z (by decide), fun _ => hr⟩, fun _ => ⟨fun _ => ⟨fun z => absurd z (by decide), fun _ => hr⟩, fun z => absurd z (by decide)⟩⟩⟩
  have loop : ∀ (f k : Nat) (st : List Int32) (h' : zm_M) (l1 l4 l5 : Option zm_V), b ≤ k + f → a ≤ k → k ≤ b → zl_tv (ty k) st → zl_ls w h h' st → (∀ h' : zm_M, zl_lf w h h' → R (some (.inl ((zl_run cd lt b f k st).getD 0))) h') → zm_W (zm_md m_Law_run) (d + 3) TT R 16 [some (.inr (some w)), l1, some (.inl (nI b)), some (.inl (nI k)), l4, l5] [] h' := by
    intro f
    induction f with
    | zero =>
      intro k st h' l1 l4 l5 h1 h2 h3 h4 h5 hR
      have : k = b := by omega
      subst this
      refine fin h' 0 st l1 l4 l5 h5 ?_ hR
      rw [zl_tv_len _ _ h4, hty.2.2.1]
      rfl
    | succ f ih =>
      intro k st h' l1 l4 l5 h1 h2 h3 h4 h5 hR
      rcases Nat.lt_or_ge k b with hkb | hkb
      · have hln : st.length ≤ 30 := by
          rw [zl_tv_len _ _ h4]
          exact hty.2.2.2.1 k h2 h3
        have hcdk := hcd k h2 hkb
        have e1 : h'.1 (w + 1) k = nI (zl_sn (cd k).1) := by rw [h5.1.2.1 _ (by omega) (by omega)]; exact hcdk.1
        have e2 : h'.1 (w + 2) k = nI (cd k).2 := by rw [h5.1.2.1 _ (by omega) (by omega)]; exact hcdk.2
        obtain ⟨⟨p0, p1⟩, s1, s2⟩ := hk1 h' h5.1
        have v1 : vp_in (nI k) 240 := vp_in_nI (by omega) (by decide)
        have c1 := nI_clamp (show k < 2 ^ 31 by omega)
        have g1 := nI_ge hkb (by omega)
        have g2 := nI_ge (show k < 240 by omega) (by omega)
        have g2' : ¬ 240 ≤ nI k := g2
        have n1 := nI_1 k
        have bin : ∀ (r : List Bool) (t : Bool), 2 ≤ (cd k).1 → (cd k).1 ≤ 9 → (t = true → 7 ≤ (cd k).1) → ty k = false :: false :: r → ty (k + 1) = t :: r → zm_W (zm_md m_Law_run) (d + 3) TT R 16 [some (.inr (some w)), l1, some (.inl (nI b)), some (.inl (nI k)), l4, l5] [] h' := by
          intro r t o1 o1b ot o3 o4
          obtain ⟨j0, j1, j33, j38, j124⟩ := zl_sn29 (cd k).1 (by omega) o1
          rw [o3] at h4
          match st, h4, h5, hR, hln with
          | y :: x :: st, h4, h5, hR, hln =>
          rw [zl_run_b cd lt b f k x y st hkb o1 o1b] at hR
          rw [List.length_cons, List.length_cons] at hln
          refine zm_go g_Law_run [16] 30 (by decide +kernel) ok_Law_run _ rfl ?_
          simp only [↓zq, ↓reduceIte, zr_si2, zr_sr1, zr_cp2, zr_tl, zr_tn, shq, List.contains_nil, List.contains_cons, Nat.reduceBEq, Bool.false_or, Bool.or_false, Bool.true_or, Bool.false_eq_true, if_false, if_true, true_and, and_true, List.set_cons_zero, List.set_cons_succ, List.length_cons, List.length_nil, Nat.reduceAdd, Nat.reduceLeDiff, Nat.le_refl, Nat.zero_le, true_or, or_true, zn_cl, ↓jj_Law_run, k0, h5.2.2.1, p0, p1, s1, s2, v1, c1, e1, e2, g1, g2', j0, j1, j33, j38, j124]
          refine ⟨fun z => absurd z (by simp), fun _ => ⟨fun z => absurd z (by simp), fun _ => ⟨fun z => (by first | exact absurd trivial z | exact absurd rfl z | exact absurd z (by decide)), fun _ => ⟨fun _ => ⟨fun _ => ⟨fun _ => ⟨fun z => z.elim, fun _ => ⟨fun _ => ?_, fun z => by first | exact z.elim | exact absurd trivial z⟩⟩, fun z => (by first | exact absurd trivial z | exact absurd rfl z | exact absurd z (by decide))⟩, fun z => (by first | exact absurd trivial z | exact absurd rfl z | exact absurd z (by decide))⟩, fun z => (by first | exact absurd trivial z | exact absurd rfl z | exact absurd z (by decide))⟩⟩⟩⟩
          refine l_pop hk h5 (by rw [List.length_cons]; omega) (fun h2 hl2 => ?_)
          simp only [↓zq, ↓reduceIte, zr_si2, zr_sr1, zr_cp2, zr_tl, zr_tn, shq, List.contains_nil, List.contains_cons, Nat.reduceBEq, Bool.false_or, Bool.or_false, Bool.true_or, Bool.false_eq_true, if_false, if_true, true_and, and_true, List.set_cons_zero, List.set_cons_succ, List.length_cons, List.length_nil, Nat.reduceAdd, Nat.reduceLeDiff, Nat.le_refl, Nat.zero_le, true_or, or_true, zn_cl, ↓jj_Law_run, k0]
          refine l_pop hk hl2 (by omega) (fun h3 hl3 => ?_)
          simp only [↓zq, ↓reduceIte, zr_si2, zr_sr1, zr_cp2, zr_tl, zr_tn, shq, List.contains_nil, List.contains_cons, Nat.reduceBEq, Bool.false_or, Bool.or_false, Bool.true_or, Bool.false_eq_true, if_false, if_true, true_and, and_true, List.set_cons_zero, List.set_cons_succ, List.length_cons, List.length_nil, Nat.reduceAdd, Nat.reduceLeDiff, Nat.le_refl, Nat.zero_le, true_or, or_true, zn_cl, ↓jj_Law_run, k0]
          refine l_reckon hk hl3 o1 o1b (fun q h4' hf h10 h9 => ?_) (fun q h4' hl4 => ?_)
          · rw [if_pos q] at hR
            simp only [↓zq, ↓reduceIte, zr_si2, zr_sr1, zr_cp2, zr_tl, zr_tn, shq, List.contains_nil, List.contains_cons, Nat.reduceBEq, Bool.false_or, Bool.or_false, Bool.true_or, Bool.false_eq_true, if_false, if_true, true_and, and_true, List.set_cons_zero, List.set_cons_succ, List.length_cons, List.length_nil, Nat.reduceAdd, Nat.reduceLeDiff, Nat.le_refl, Nat.zero_le, true_or, or_true, zn_cl, ↓jj_Law_run, k0]
            refine k_Law_push (n := st.length) (zk_law_lf hf hk) h9 (by omega) ?_
            simp only [↓zq, ↓reduceIte, zr_si2, zr_sr1, zr_cp2, zr_tl, zr_tn, shq, List.contains_nil, List.contains_cons, Nat.reduceBEq, Bool.false_or, Bool.or_false, Bool.true_or, Bool.false_eq_true, if_false, if_true, true_and, and_true, List.set_cons_zero, List.set_cons_succ, List.length_cons, List.length_nil, Nat.reduceAdd, Nat.reduceLeDiff, Nat.le_refl, Nat.zero_le, true_or, or_true, zn_cl, ↓jj_Law_run, n1]
            refine dead _ 0 _ _ _ (k + 1) ((hf.s7 _ _).s0 9 (Or.inl rfl) _) ?_ hR
            rw [zr_si1, if_neg (by omega), zr_si1, if_neg (by omega)]
            exact h10
          · rw [if_neg q] at hR
            simp only [↓zq, ↓reduceIte, zr_si2, zr_sr1, zr_cp2, zr_tl, zr_tn, shq, List.contains_nil, List.contains_cons, Nat.reduceBEq, Bool.false_or, Bool.or_false, Bool.true_or, Bool.false_eq_true, if_false, if_true, true_and, and_true, List.set_cons_zero, List.set_cons_succ, List.length_cons, List.length_nil, Nat.reduceAdd, Nat.reduceLeDiff, Nat.le_refl, Nat.zero_le, true_or, or_true, zn_cl, ↓jj_Law_run, k0]
            refine l_push hk hl4 (by omega) (fun h5' hl5 => ?_)
            simp only [↓zq, ↓reduceIte, zr_si2, zr_sr1, zr_cp2, zr_tl, zr_tn, shq, List.contains_nil, List.contains_cons, Nat.reduceBEq, Bool.false_or, Bool.or_false, Bool.true_or, Bool.false_eq_true, if_false, if_true, true_and, and_true, List.set_cons_zero, List.set_cons_succ, List.length_cons, List.length_nil, Nat.reduceAdd, Nat.reduceLeDiff, Nat.le_refl, Nat.zero_le, true_or, or_true, zn_cl, ↓jj_Law_run, n1]
            exact ih (k + 1) _ h5' _ _ _ (by omega) (by omega) (by omega) (by rw [o4]; exact ⟨fun z => zl_ap_b (ot z) o1b, h4.2.2⟩) hl5 hR
        rcases hty.2.2.2.2 k h2 hkb with ⟨o1, o2, o3⟩ | ⟨o1, o2, o3⟩ | ⟨o1, o2, r, o3, o4⟩ | ⟨o1, o2, o2b, r, o3, o4, o5⟩ | ⟨o1, o1b, o2, r, o3, o4⟩ | ⟨o1, o1b, o2, r, o3, o4⟩
        · rw [o1, show nI (zl_sn 0) = 0 from rfl] at e1
          have er : zl_run cd lt b (f + 1) k st = zl_run cd lt b f (k + 1) (nI (cd k).2 :: st) := by rw [zl_run_s, if_neg (by omega), if_pos o1]
          rw [er] at hR
          refine zm_go g_Law_run [16] 30 (by decide +kernel) ok_Law_run _ rfl ?_
          simp only [↓zq, ↓reduceIte, zr_si2, zr_sr1, zr_cp2, zr_tl, zr_tn, shq, List.contains_nil, List.contains_cons, Nat.reduceBEq, Bool.false_or, Bool.or_false, Bool.true_or, Bool.false_eq_true, if_false, if_true, true_and, and_true, List.set_cons_zero, List.set_cons_succ, List.length_cons, List.length_nil, Nat.reduceAdd, Nat.reduceLeDiff, Nat.le_refl, Nat.zero_le, true_or, or_true, zn_cl, ↓jj_Law_run, k0, h5.2.2.1, p0, p1, s1, s2, v1, c1, e1, e2, g1, g2']
          refine ⟨fun z => absurd z (by simp), fun _ => ⟨fun z => absurd z (by simp), fun _ => ⟨fun z => (by first | exact absurd trivial z | exact absurd rfl z | exact absurd z (by decide)), fun _ => ⟨fun z => (by first | exact absurd trivial z | exact absurd rfl z | exact absurd z (by decide)), fun _ => ?_⟩⟩⟩⟩
          refine l_push hk h5 (by omega) (fun h'' hl => ?_)
          simp only [↓zq, ↓reduceIte, zr_si2, zr_sr1, zr_cp2, zr_tl, zr_tn, shq, List.contains_nil, List.contains_cons, Nat.reduceBEq, Bool.false_or, Bool.or_false, Bool.true_or, Bool.false_eq_true, if_false, if_true, true_and, and_true, List.set_cons_zero, List.set_cons_succ, List.length_cons, List.length_nil, Nat.reduceAdd, Nat.reduceLeDiff, Nat.le_refl, Nat.zero_le, true_or, or_true, zn_cl, ↓jj_Law_run, n1]
          exact ih (k + 1) _ h'' _ _ _ (by omega) (by omega) (by omega) (by rw [o3]; exact ⟨fun z => absurd z (by decide), h4⟩) hl hR
        · rw [o1, show nI (zl_sn 1) = 1 from rfl] at e1
          have er : zl_run cd lt b (f + 1) k st = zl_run cd lt b f (k + 1) (lt (cd k).2 :: st) := by rw [zl_run_s, if_neg (by omega), if_neg (by omega), if_pos o1]
          rw [er] at hR
          refine zm_go g_Law_run [16] 30 (by decide +kernel) ok_Law_run _ rfl ?_
          simp only [↓zq, ↓reduceIte, zr_si2, zr_sr1, zr_cp2, zr_tl, zr_tn, shq, List.contains_nil, List.contains_cons, Nat.reduceBEq, Bool.false_or, Bool.or_false, Bool.true_or, Bool.false_eq_true, if_false, if_true, true_and, and_true, List.set_cons_zero, List.set_cons_succ, List.length_cons, List.length_nil, Nat.reduceAdd, Nat.reduceLeDiff, Nat.le_refl, Nat.zero_le, true_or, or_true, zn_cl, ↓jj_Law_run, k0, h5.2.2.1, p0, p1, s1, s2, v1, c1, e1, e2, g1, g2']
          refine ⟨fun z => absurd z (by simp), fun _ => ⟨fun z => absurd z (by simp), fun _ => ⟨fun z => (by first | exact absurd trivial z | exact absurd rfl z | exact absurd z (by decide)), fun _ => ⟨fun _ => ⟨fun z => (by first | exact absurd trivial z | exact absurd rfl z | exact absurd z (by decide)), fun _ => ?_⟩, fun z => (by first | exact absurd trivial z | exact absurd rfl z | exact absurd z (by decide))⟩⟩⟩⟩
          refine k_Law_letterAt (zk_law_lf h5.1 hk) o2 ?_
          rw [show h'.1 (w + 8) (cd k).2 = lt (cd k).2 by rw [h5.1.2.1 _ (by omega) (by omega)]; exact hlt _ o2]
          simp only [↓zq, ↓reduceIte, zr_si2, zr_sr1, zr_cp2, zr_tl, zr_tn, shq, List.contains_nil, List.contains_cons, Nat.reduceBEq, Bool.false_or, Bool.or_false, Bool.true_or, Bool.false_eq_true, if_false, if_true, true_and, and_true, List.set_cons_zero, List.set_cons_succ, List.length_cons, List.length_nil, Nat.reduceAdd, Nat.reduceLeDiff, Nat.le_refl, Nat.zero_le, true_or, or_true, zn_cl, ↓jj_Law_run, k0]
          refine l_push hk h5 (by omega) (fun h'' hl => ?_)
          simp only [↓zq, ↓reduceIte, zr_si2, zr_sr1, zr_cp2, zr_tl, zr_tn, shq, List.contains_nil, List.contains_cons, Nat.reduceBEq, Bool.false_or, Bool.or_false, Bool.true_or, Bool.false_eq_true, if_false, if_true, true_and, and_true, List.set_cons_zero, List.set_cons_succ, List.length_cons, List.length_nil, Nat.reduceAdd, Nat.reduceLeDiff, Nat.le_refl, Nat.zero_le, true_or, or_true, zn_cl, ↓jj_Law_run, n1]
          exact ih (k + 1) _ h'' _ _ _ (by omega) (by omega) (by omega) (by rw [o3]; exact ⟨fun z => absurd z (by decide), h4⟩) hl hR
        · rw [o1, show nI (zl_sn 10) = 33 from rfl] at e1
          rw [o3] at h4
          match st, h4, h5, hR, hln with
          | x :: st, h4, h5, hR, hln =>
          have er : zl_run cd lt b (f + 1) k (x :: st) = zl_run cd lt b f (k + 1) ((1 - x) :: st) := by rw [zl_run_s, if_neg (by omega), if_neg (by omega), if_neg (by omega), if_pos o1]
          rw [er] at hR
          rw [List.length_cons] at hln
          refine zm_go g_Law_run [16] 30 (by decide +kernel) ok_Law_run _ rfl ?_
          simp only [↓zq, ↓reduceIte, zr_si2, zr_sr1, zr_cp2, zr_tl, zr_tn, shq, List.contains_nil, List.contains_cons, Nat.reduceBEq, Bool.false_or, Bool.or_false, Bool.true_or, Bool.false_eq_true, if_false, if_true, true_and, and_true, List.set_cons_zero, List.set_cons_succ, List.length_cons, List.length_nil, Nat.reduceAdd, Nat.reduceLeDiff, Nat.le_refl, Nat.zero_le, true_or, or_true, zn_cl, ↓jj_Law_run, k0, h5.2.2.1, p0, p1, s1, s2, v1, c1, e1, e2, g1, g2']
          refine ⟨fun z => absurd z (by simp), fun _ => ⟨fun z => absurd z (by simp), fun _ => ⟨fun z => (by first | exact absurd trivial z | exact absurd rfl z | exact absurd z (by decide)), fun _ => ⟨fun _ => ⟨fun _ => ⟨fun z => (by first | exact absurd trivial z | exact absurd rfl z | exact absurd z (by decide)), fun _ => ?_⟩, fun z => (by first | exact absurd trivial z | exact absurd rfl z | exact absurd z (by decide))⟩, fun z => (by first | exact absurd trivial z | exact absurd rfl z | exact absurd z (by decide))⟩⟩⟩⟩
          refine l_pop hk h5 (by omega) (fun h'' hl => ?_)
          simp only [↓zq, ↓reduceIte, zr_si2, zr_sr1, zr_cp2, zr_tl, zr_tn, shq, List.contains_nil, List.contains_cons, Nat.reduceBEq, Bool.false_or, Bool.or_false, Bool.true_or, Bool.false_eq_true, if_false, if_true, true_and, and_true, List.set_cons_zero, List.set_cons_succ, List.length_cons, List.length_nil, Nat.reduceAdd, Nat.reduceLeDiff, Nat.le_refl, Nat.zero_le, true_or, or_true, zn_cl, ↓jj_Law_run, k0]
          rcases h4.1 rfl with rfl | rfl
          · refine ⟨fun z => (by first | exact absurd trivial z | exact absurd rfl z | exact absurd z (by decide)), fun _ => ?_⟩
            refine l_push hk hl (by omega) (fun h3 hl3 => ?_)
            simp only [↓zq, ↓reduceIte, zr_si2, zr_sr1, zr_cp2, zr_tl, zr_tn, shq, List.contains_nil, List.contains_cons, Nat.reduceBEq, Bool.false_or, Bool.or_false, Bool.true_or, Bool.false_eq_true, if_false, if_true, true_and, and_true, List.set_cons_zero, List.set_cons_succ, List.length_cons, List.length_nil, Nat.reduceAdd, Nat.reduceLeDiff, Nat.le_refl, Nat.zero_le, true_or, or_true, zn_cl, ↓jj_Law_run, n1]
            exact ih (k + 1) _ h3 _ _ _ (by omega) (by omega) (by omega) (by rw [o4]; exact ⟨fun _ => Or.inr rfl, h4.2⟩) hl3 hR
          · refine ⟨fun _ => ?_, fun z => absurd z (by decide)⟩
            refine l_push hk hl (by omega) (fun h3 hl3 => ?_)
            simp only [↓zq, ↓reduceIte, zr_si2, zr_sr1, zr_cp2, zr_tl, zr_tn, shq, List.contains_nil, List.contains_cons, Nat.reduceBEq, Bool.false_or, Bool.or_false, Bool.true_or, Bool.false_eq_true, if_false, if_true, true_and, and_true, List.set_cons_zero, List.set_cons_succ, List.length_cons, List.length_nil, Nat.reduceAdd, Nat.reduceLeDiff, Nat.le_refl, Nat.zero_le, true_or, or_true, zn_cl, ↓jj_Law_run, n1]
            exact ih (k + 1) _ h3 _ _ _ (by omega) (by omega) (by omega) (by rw [o4]; exact ⟨fun _ => Or.inl rfl, h4.2⟩) hl3 hR
        · obtain ⟨j0, j1, j33, jj⟩ := zl_sn_j (cd k).1 (by omega) o1
          rw [o3] at h4
          match st, h4, h5, hR, hln with
          | x :: st, h4, h5, hR, hln =>
          rw [zl_run_j cd lt b f k x st hkb o1] at hR
          rw [List.length_cons] at hln
          have aft : ∀ l4' : Option zm_V, zm_C (d + 1 + 1) TT m_Law_afterTest [.inr (some w), .inl (nI (zl_sn (cd k).1)), .inl (nI (cd k).2)] h' (fun v g => ∃ y : Int32, v = some (.inl y) ∧ zm_W (zm_md m_Law_run) (d + 3) TT R 16 [some (.inr (some w)), l1, some (.inl (nI b)), some (.inl ((if nI k < y - 1 then y - 1 else nI k) + 1)), l4', l5] [] g) := by
            intro l4'
            refine l_afterTest hk h5 (by omega) (h4.1 rfl) o1 (fun q h'' hl => ?_) (fun q h'' hl => ?_)
            · rw [if_pos q] at hR
              refine ⟨_, rfl, ?_⟩
              have ek : (if nI k < nI (cd k).2 - 1 then nI (cd k).2 - 1 else nI k) + 1 = nI (cd k).2 := by
                obtain ⟨t, ht⟩ : ∃ t, (cd k).2 = t + 1 := ⟨(cd k).2 - 1, by omega⟩
                rw [ht, nI_pred]
                split
                · exact nI_1 t
                · next q =>
                  have : t = k := by
                    rcases Nat.lt_or_ge k t with z | z
                    · exact absurd (nI_lt z (by omega)) q
                    · omega
                  subst this
                  exact nI_1 t
              rw [ek]
              exact ih _ _ h'' _ _ _ (by omega) (by omega) (by omega) (by rw [o5]; exact ⟨h4.1, h4.2⟩) hl hR
            · rw [if_neg q] at hR
              refine ⟨_, rfl, ?_⟩
              rw [if_neg (by clear hR ih hl h5; have := nI_toInt (show k < 2 ^ 31 by omega); rw [Int32.lt_iff_toInt_lt, this, show ((-1 : Int32) - 1).toInt = -2 from rfl]; omega), n1]
              exact ih _ _ h'' _ _ _ (by omega) (by omega) (by omega) (by rw [o4]; exact h4.2) hl hR
          refine zm_go g_Law_run [16] 30 (by decide +kernel) ok_Law_run _ rfl ?_
          simp only [↓zq, ↓reduceIte, zr_si2, zr_sr1, zr_cp2, zr_tl, zr_tn, shq, List.contains_nil, List.contains_cons, Nat.reduceBEq, Bool.false_or, Bool.or_false, Bool.true_or, Bool.false_eq_true, if_false, if_true, true_and, and_true, List.set_cons_zero, List.set_cons_succ, List.length_cons, List.length_nil, Nat.reduceAdd, Nat.reduceLeDiff, Nat.le_refl, Nat.zero_le, true_or, or_true, zn_cl, ↓jj_Law_run, k0, h5.2.2.1, p0, p1, s1, s2, v1, c1, e1, e2, g1, g2', j0, j1, j33]
          have fi := (aft (some (.inl (nI (zl_sn (cd k).1)))))
          refine ⟨fun z => absurd z (by simp), fun _ => ⟨fun z => absurd z (by simp), fun _ => ⟨fun z => (by first | exact absurd trivial z | exact absurd rfl z | exact absurd z (by decide)), fun _ => ⟨fun _ => ⟨fun _ => ⟨fun _ => ⟨fun _ => ?_, fun q => ⟨fun z => absurd z ?_, fun _ => ?_⟩⟩, fun z => (by first | exact absurd trivial z | exact absurd rfl z | exact absurd z (by decide))⟩, fun z => (by first | exact absurd trivial z | exact absurd rfl z | exact absurd z (by decide))⟩, fun z => (by first | exact absurd trivial z | exact absurd rfl z | exact absurd z (by decide))⟩⟩⟩⟩
          · refine zm_C.mono fi (Nat.le_refl _) ?_
            rintro _ g ⟨y, rfl, hy⟩
            simp only [↓zq, ↓reduceIte, zr_si2, zr_sr1, zr_cp2, zr_tl, zr_tn, shq, List.contains_nil, List.contains_cons, Nat.reduceBEq, Bool.false_or, Bool.or_false, Bool.true_or, Bool.false_eq_true, if_false, if_true, true_and, and_true, List.set_cons_zero, List.set_cons_succ, List.length_cons, List.length_nil, Nat.reduceAdd, Nat.reduceLeDiff, Nat.le_refl, Nat.zero_le, true_or, or_true, zn_cl, ↓jj_Law_run]
            exact hy
          · rcases jj with j | j
            · exact absurd j q
            · exact fun z => z j
          · refine zm_C.mono fi (Nat.le_refl _) ?_
            rintro _ g ⟨y, rfl, hy⟩
            simp only [↓zq, ↓reduceIte, zr_si2, zr_sr1, zr_cp2, zr_tl, zr_tn, shq, List.contains_nil, List.contains_cons, Nat.reduceBEq, Bool.false_or, Bool.or_false, Bool.true_or, Bool.false_eq_true, if_false, if_true, true_and, and_true, List.set_cons_zero, List.set_cons_succ, List.length_cons, List.length_nil, Nat.reduceAdd, Nat.reduceLeDiff, Nat.le_refl, Nat.zero_le, true_or, or_true, zn_cl, ↓jj_Law_run]
            exact hy
        · exact bin r false o1 (by omega) (fun z => absurd z (by decide)) o3 o4
        · exact bin r true (by omega) o1b (fun _ => o1) o3 o4
      · have : k = b := by omega
        subst this
        refine fin h' (f + 1) st l1 l4 l5 h5 ?_ hR
        rw [zl_tv_len _ _ h4, hty.2.2.1]
        rfl
  refine st_Law_run [16] 30 ?_
  simp only [↓zq, ↓reduceIte, zr_si2, zr_sr1, zr_cp2, zr_tl, zr_tn, shq, List.contains_nil, List.contains_cons, Nat.reduceBEq, Bool.false_or, Bool.or_false, Bool.true_or, Bool.false_eq_true, if_false, if_true, true_and, and_true, List.set_cons_zero, List.set_cons_succ, List.length_cons, List.length_nil, Nat.reduceAdd, Nat.reduceLeDiff, Nat.le_refl, Nat.zero_le, true_or, or_true, zn_cl, ↓jj_Law_run, k0]
  have ea : (if (0 : Int32) < nI a then nI a else 0) = nI a := by
    split
    · rfl
    · next q =>
      have : a = 0 := by
        rcases Nat.eq_zero_or_pos a with z | z
        · exact z
        · exact absurd (nI_lt (a := 0) z (by have := hty.1; omega)) q
      subst this
      rfl
  rw [ea]
  refine loop (b - a) a [] _ _ _ _ (by omega) (Nat.le_refl _) hty.1 (by rw [hty.2.1]; exact trivial) ⟨((zl_lf.rf w h).s0 9 (Or.inl rfl) _).s0 10 (Or.inr rfl) _, ?_, ?_, trivial⟩ hR
  · rw [zr_si1, if_neg (by omega), zr_si1, if_pos ⟨rfl, rfl⟩]
    rfl
  · rw [zr_si1, if_pos ⟨rfl, rfl⟩]
