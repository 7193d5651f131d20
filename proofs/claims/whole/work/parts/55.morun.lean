/-! the law's codes run by the reference -/
set_option maxHeartbeats 4000000 in
set_option maxRecDepth 100000 in
theorem k_Mo_reckon {d : Nat} {T : zm_T} {h : zm_M} {R : zm_R} {op : Nat} {x y : Int32} (h2 : 2 ≤ op) (h9 : op ≤ 9) (hy : ¬ ((op = 5 ∨ op = 6) ∧ y = 0)) (hR : R (some (.inl (zl_ap op x y))) h) : zm_C (d + 1) T m_Mo_reckon [.inl (nI op), .inl x, .inl y] h R := by
  rcases (show op = 2 ∨ op = 3 ∨ op = 4 ∨ op = 5 ∨ op = 6 ∨ op = 7 ∨ op = 8 ∨ op = 9 by omega) with rfl | rfl | rfl | rfl | rfl | rfl | rfl | rfl
  · rw [show nI 2 = 2 from rfl]
    refine st_Mo_reckon [] 30 ?_
    simp only [↓zq, ↓reduceIte, zr_si2, zr_sr1, zr_cp2, zr_tl, zr_tn, shq, List.contains_nil, List.contains_cons, Nat.reduceBEq, Bool.false_or, Bool.or_false, Bool.true_or, Bool.false_eq_true, if_false, if_true, true_and, and_true, List.set_cons_zero, List.set_cons_succ, List.length_cons, List.length_nil, Nat.reduceAdd, Nat.reduceLeDiff, Nat.le_refl, Nat.zero_le, true_or, or_true, zn_cl, ↓jj_Mo_reckon]
    exact ⟨fun _ => hR, fun z => (by first | exact absurd trivial z | exact absurd rfl z | exact absurd z (by decide))⟩
  · rw [show nI 3 = 3 from rfl]
    refine st_Mo_reckon [] 30 ?_
    simp only [↓zq, ↓reduceIte, zr_si2, zr_sr1, zr_cp2, zr_tl, zr_tn, shq, List.contains_nil, List.contains_cons, Nat.reduceBEq, Bool.false_or, Bool.or_false, Bool.true_or, Bool.false_eq_true, if_false, if_true, true_and, and_true, List.set_cons_zero, List.set_cons_succ, List.length_cons, List.length_nil, Nat.reduceAdd, Nat.reduceLeDiff, Nat.le_refl, Nat.zero_le, true_or, or_true, zn_cl, ↓jj_Mo_reckon]
    exact ⟨fun z => (by first | exact absurd trivial z | exact absurd rfl z | exact absurd z (by decide)), fun _ => ⟨fun _ => hR, fun z => (by first | exact absurd trivial z | exact absurd rfl z | exact absurd z (by decide))⟩⟩
  · rw [show nI 4 = 4 from rfl]
    refine st_Mo_reckon [] 30 ?_
    simp only [↓zq, ↓reduceIte, zr_si2, zr_sr1, zr_cp2, zr_tl, zr_tn, shq, List.contains_nil, List.contains_cons, Nat.reduceBEq, Bool.false_or, Bool.or_false, Bool.true_or, Bool.false_eq_true, if_false, if_true, true_and, and_true, List.set_cons_zero, List.set_cons_succ, List.length_cons, List.length_nil, Nat.reduceAdd, Nat.reduceLeDiff, Nat.le_refl, Nat.zero_le, true_or, or_true, zn_cl, ↓jj_Mo_reckon]
    exact ⟨fun z => (by first | exact absurd trivial z | exact absurd rfl z | exact absurd z (by decide)), fun _ => ⟨fun z => (by first | exact absurd trivial z | exact absurd rfl z | exact absurd z (by decide)), fun _ => ⟨fun _ => hR, fun z => (by first | exact absurd trivial z | exact absurd rfl z | exact absurd z (by decide))⟩⟩⟩
  · rw [show nI 5 = 5 from rfl]
    have hy' : ¬ y = 0 := fun z => hy ⟨by decide, z⟩
    refine st_Mo_reckon [] 30 ?_
    simp only [↓zq, ↓reduceIte, zr_si2, zr_sr1, zr_cp2, zr_tl, zr_tn, shq, List.contains_nil, List.contains_cons, Nat.reduceBEq, Bool.false_or, Bool.or_false, Bool.true_or, Bool.false_eq_true, if_false, if_true, true_and, and_true, List.set_cons_zero, List.set_cons_succ, List.length_cons, List.length_nil, Nat.reduceAdd, Nat.reduceLeDiff, Nat.le_refl, Nat.zero_le, true_or, or_true, zn_cl, ↓jj_Mo_reckon]
    exact ⟨fun z => (by first | exact absurd trivial z | exact absurd rfl z | exact absurd z (by decide)), fun _ => ⟨fun z => (by first | exact absurd trivial z | exact absurd rfl z | exact absurd z (by decide)), fun _ => ⟨fun z => (by first | exact absurd trivial z | exact absurd rfl z | exact absurd z (by decide)), fun _ => ⟨fun _ => ⟨hy', hR⟩, fun z => (by first | exact absurd trivial z | exact absurd rfl z | exact absurd z (by decide))⟩⟩⟩⟩
  · rw [show nI 6 = 6 from rfl]
    have hy' : ¬ y = 0 := fun z => hy ⟨by decide, z⟩
    refine st_Mo_reckon [] 30 ?_
    simp only [↓zq, ↓reduceIte, zr_si2, zr_sr1, zr_cp2, zr_tl, zr_tn, shq, List.contains_nil, List.contains_cons, Nat.reduceBEq, Bool.false_or, Bool.or_false, Bool.true_or, Bool.false_eq_true, if_false, if_true, true_and, and_true, List.set_cons_zero, List.set_cons_succ, List.length_cons, List.length_nil, Nat.reduceAdd, Nat.reduceLeDiff, Nat.le_refl, Nat.zero_le, true_or, or_true, zn_cl, ↓jj_Mo_reckon]
    exact ⟨fun z => (by first | exact absurd trivial z | exact absurd rfl z | exact absurd z (by decide)), fun _ => ⟨fun z => (by first | exact absurd trivial z | exact absurd rfl z | exact absurd z (by decide)), fun _ => ⟨fun z => (by first | exact absurd trivial z | exact absurd rfl z | exact absurd z (by decide)), fun _ => ⟨fun z => (by first | exact absurd trivial z | exact absurd rfl z | exact absurd z (by decide)), fun _ => ⟨fun _ => ⟨hy', hR⟩, fun z => (by first | exact absurd trivial z | exact absurd rfl z | exact absurd z (by decide))⟩⟩⟩⟩⟩
  · rw [show nI 7 = 7 from rfl]
    rw [zl_ap7] at hR
    refine st_Mo_reckon [] 30 ?_
    simp only [↓zq, ↓reduceIte, zr_si2, zr_sr1, zr_cp2, zr_tl, zr_tn, shq, List.contains_nil, List.contains_cons, Nat.reduceBEq, Bool.false_or, Bool.or_false, Bool.true_or, Bool.false_eq_true, if_false, if_true, true_and, and_true, List.set_cons_zero, List.set_cons_succ, List.length_cons, List.length_nil, Nat.reduceAdd, Nat.reduceLeDiff, Nat.le_refl, Nat.zero_le, true_or, or_true, zn_cl, ↓jj_Mo_reckon]
    refine ⟨fun z => (by first | exact absurd trivial z | exact absurd rfl z | exact absurd z (by decide)), fun _ => ⟨fun z => (by first | exact absurd trivial z | exact absurd rfl z | exact absurd z (by decide)), fun _ => ⟨fun z => (by first | exact absurd trivial z | exact absurd rfl z | exact absurd z (by decide)), fun _ => ⟨fun z => (by first | exact absurd trivial z | exact absurd rfl z | exact absurd z (by decide)), fun _ => ⟨fun z => (by first | exact absurd trivial z | exact absurd rfl z | exact absurd z (by decide)), fun _ => ⟨fun _ => ?_, fun z => (by first | exact absurd trivial z | exact absurd rfl z | exact absurd z (by decide))⟩⟩⟩⟩⟩⟩
    refine ⟨fun z => ?_, fun z => ?_⟩
    · rw [if_neg (fun q => by clear hR; (simp only [Int32.lt_iff_toInt_lt, Int32.le_iff_toInt_le, ← Int32.toInt_inj, zi_c] at *; omega))] at hR
      exact hR
    · rw [if_pos (by clear hR; (simp only [Int32.lt_iff_toInt_lt, Int32.le_iff_toInt_le, ← Int32.toInt_inj, zi_c] at *; omega))] at hR
      exact hR
  · rw [show nI 8 = 8 from rfl]
    rw [zl_ap8] at hR
    refine st_Mo_reckon [] 30 ?_
    simp only [↓zq, ↓reduceIte, zr_si2, zr_sr1, zr_cp2, zr_tl, zr_tn, shq, List.contains_nil, List.contains_cons, Nat.reduceBEq, Bool.false_or, Bool.or_false, Bool.true_or, Bool.false_eq_true, if_false, if_true, true_and, and_true, List.set_cons_zero, List.set_cons_succ, List.length_cons, List.length_nil, Nat.reduceAdd, Nat.reduceLeDiff, Nat.le_refl, Nat.zero_le, true_or, or_true, zn_cl, ↓jj_Mo_reckon]
    refine ⟨fun z => (by first | exact absurd trivial z | exact absurd rfl z | exact absurd z (by decide)), fun _ => ⟨fun z => (by first | exact absurd trivial z | exact absurd rfl z | exact absurd z (by decide)), fun _ => ⟨fun z => (by first | exact absurd trivial z | exact absurd rfl z | exact absurd z (by decide)), fun _ => ⟨fun z => (by first | exact absurd trivial z | exact absurd rfl z | exact absurd z (by decide)), fun _ => ⟨fun z => (by first | exact absurd trivial z | exact absurd rfl z | exact absurd z (by decide)), fun _ => ⟨fun z => (by first | exact absurd trivial z | exact absurd rfl z | exact absurd z (by decide)), fun _ => ⟨fun _ => ?_, fun z => (by first | exact absurd trivial z | exact absurd rfl z | exact absurd z (by decide))⟩⟩⟩⟩⟩⟩⟩
    refine ⟨fun z => ?_, fun z => ?_⟩
    · rw [if_neg (fun q => by clear hR; (simp only [Int32.lt_iff_toInt_lt, Int32.le_iff_toInt_le, ← Int32.toInt_inj, zi_c] at *; omega))] at hR
      exact hR
    · rw [if_pos (by clear hR; (simp only [Int32.lt_iff_toInt_lt, Int32.le_iff_toInt_le, ← Int32.toInt_inj, zi_c] at *; omega))] at hR
      exact hR
  · rw [show nI 9 = 9 from rfl]
    rw [zl_ap9] at hR
    refine st_Mo_reckon [] 30 ?_
    simp only [↓zq, ↓reduceIte, zr_si2, zr_sr1, zr_cp2, zr_tl, zr_tn, shq, List.contains_nil, List.contains_cons, Nat.reduceBEq, Bool.false_or, Bool.or_false, Bool.true_or, Bool.false_eq_true, if_false, if_true, true_and, and_true, List.set_cons_zero, List.set_cons_succ, List.length_cons, List.length_nil, Nat.reduceAdd, Nat.reduceLeDiff, Nat.le_refl, Nat.zero_le, true_or, or_true, zn_cl, ↓jj_Mo_reckon]
    refine ⟨fun z => (by first | exact absurd trivial z | exact absurd rfl z | exact absurd z (by decide)), fun _ => ⟨fun z => (by first | exact absurd trivial z | exact absurd rfl z | exact absurd z (by decide)), fun _ => ⟨fun z => (by first | exact absurd trivial z | exact absurd rfl z | exact absurd z (by decide)), fun _ => ⟨fun z => (by first | exact absurd trivial z | exact absurd rfl z | exact absurd z (by decide)), fun _ => ⟨fun z => (by first | exact absurd trivial z | exact absurd rfl z | exact absurd z (by decide)), fun _ => ⟨fun z => (by first | exact absurd trivial z | exact absurd rfl z | exact absurd z (by decide)), fun _ => ⟨fun z => (by first | exact absurd trivial z | exact absurd rfl z | exact absurd z (by decide)), fun _ => ?_⟩⟩⟩⟩⟩⟩⟩
    refine ⟨fun z => ?_, fun z => ?_⟩
    · rw [if_neg z] at hR
      exact hR
    · rw [if_pos z] at hR
      exact hR
def zl_mf (h h' : zm_M) : Prop := h'.2 = h.2 ∧ ∀ a, a ≠ 149 → h'.1 a = h.1 a
theorem zl_mf.rf (h : zm_M) : zl_mf h h := ⟨rfl, fun _ _ => rfl⟩
theorem zl_mf.s {h h' : zm_M} (a : zl_mf h h') (k : Nat) (x : Int32) : zl_mf h (zm_si h' 149 k x) := by
  refine ⟨a.1, fun c h1 => ?_⟩
  funext j
  rw [zr_si1, if_neg (fun z => h1 z.1), a.2 c h1]
theorem zl_sk_push {h : zm_M} {st : List Int32} {x : Int32} (hs : zl_sk (h.1 149) st) : zl_sk ((zm_si h 149 st.length x).1 149) (x :: st) := by
  refine ⟨?_, zl_sk_c st (fun i hi => ?_) hs⟩
  · rw [zr_si1, if_pos ⟨rfl, rfl⟩]
  · rw [zr_si1, if_neg (by omega)]
theorem zn_code {op v : Nat} (h1 : op ≤ 12) (h2 : v < 1048576) : nI (1048576 * op + v) / 1048576 = nI op ∧ nI (1048576 * op + v) - nI (1048576 * op + v) / 1048576 * 1048576 = nI v := by
  have e1 := pk_div (a := 1048576 * op + v) (d := 1048576) (by omega) (by decide) (by decide)
  have e2 := pk_rem (a := 1048576 * op + v) (d := 1048576) (by omega) (by decide) (by decide)
  refine ⟨e1.trans ?_, e2.trans ?_⟩ <;> (congr 1; omega)
theorem zn_T {n c : Nat} {x : Int32} (hx : nI c = x) (h : n = c) : (nI n = x) = True := eq_true (by rw [h]; exact hx)
theorem zn_Fa {n c : Nat} {x : Int32} (hx : nI c = x) (hn : n < 2 ^ 31) (hc : c < 2 ^ 31) (h : n ≠ c) : (nI n = x) = False := eq_false (fun z => h ((nI_eq hn hc).mp (z.trans hx.symm)))
set_option maxHeartbeats 4000000 in
set_option maxRecDepth 100000 in
theorem k_Mo_reckonsTo {d : Nat} {h : zm_M} {R : zm_R} {a b : Nat} {cd : zl_cd} {ty : Nat → List Bool} {s1 : Bool} {lt : Nat → Int32} (hp : zp_mo h.2) (hb : b ≤ 240) (hcd : ∀ k, a ≤ k → k < b → h.1 144 k = nI (1048576 * (cd k).1 + (cd k).2)) (hlt : ∀ v, v < 7 → h.1 150 v = lt v) (hty : zl_ty cd ty a b [s1]) (hR : ∀ h' : zm_M, zl_mf h h' → R (some (.inl ((zl_run cd lt b (b - a) a []).getD 0))) h') : zm_C (d + 2) TT m_Mo_reckonsTo [.inr (some 133), .inl (nI a), .inl (nI b)] h R := by
  have k0 : (zm_sh TT 133).1 = 15 := rfl
  have p24 : ∀ h' : zm_M, zl_mf h h' → h'.2 133 24 = some 144 := fun h' hf => by rw [hf.1]; simp only [hp]
  have p29 : ∀ h' : zm_M, zl_mf h h' → h'.2 133 29 = some 149 := fun h' hf => by rw [hf.1]; simp only [hp]
  have p30 : ∀ h' : zm_M, zl_mf h h' → h'.2 133 30 = some 150 := fun h' hf => by rw [hf.1]; simp only [hp]
  have fin : ∀ (h' : zm_M) (f : Nat) (st : List Int32) (l1 l4 l6 l7 : Option zm_V), zl_mf h h' → zl_sk (h'.1 149) st → st.length = 1 → (∀ h' : zm_M, zl_mf h h' → R (some (.inl ((zl_run cd lt b f b st).getD 0))) h') → zm_W (zm_md m_Mo_reckonsTo) (d + 2) TT R 16 [some (.inr (some 133)), l1, some (.inl (nI b)), some (.inl (nI st.length)), l4, some (.inl (nI b)), l6, l7] [] h' := by
    intro h' f st l1 l4 l6 l7 hf hs hn hR
    obtain ⟨x, rfl⟩ : ∃ x, st = [x] := by
      match st, hn with
      | [x], _ => exact ⟨x, rfl⟩
    rw [zl_run_end] at hR
    refine zm_go g_Mo_reckonsTo [16] 30 (by decide +kernel) ok_Mo_reckonsTo _ rfl ?_
    simp only [↓zq, ↓reduceIte, zr_si2, zr_sr1, zr_cp2, zr_tl, zr_tn, shq, List.contains_nil, List.contains_cons, Nat.reduceBEq, Bool.false_or, Bool.or_false, Bool.true_or, Bool.false_eq_true, if_false, if_true, true_and, and_true, List.set_cons_zero, List.set_cons_succ, List.length_cons, List.length_nil, Nat.reduceAdd, Nat.reduceLeDiff, Nat.le_refl, Nat.zero_le, true_or, or_true, zn_cl, ↓jj_Mo_reckonsTo, p29 h' hf]
    refine ⟨fun _ => ⟨zn_v (k := 0), ?_⟩, fun z => absurd (Int32.le_refl _) z⟩
    rw [show h'.1 149 0 = x from hs.1]
    exact hR h' hf
  have loop : ∀ (f k : Nat) (st : List Int32) (h' : zm_M) (l1 l6 l7 : Option zm_V), b ≤ k + f → a ≤ k → k ≤ b → zl_tv (ty k) st → zl_mf h h' → zl_sk (h'.1 149) st → (∀ h' : zm_M, zl_mf h h' → R (some (.inl ((zl_run cd lt b f k st).getD 0))) h') → zm_W (zm_md m_Mo_reckonsTo) (d + 2) TT R 16 [some (.inr (some 133)), l1, some (.inl (nI b)), some (.inl (nI st.length)), some (.inl 0), some (.inl (nI k)), l6, l7] [] h' := by
    intro f
    induction f with
    | zero =>
      intro k st h' l1 l6 l7 h1 h2 h3 h4 hf hs hR
      have : k = b := by omega
      subst this
      refine fin h' 0 st l1 _ l6 l7 hf hs ?_ hR
      rw [zl_tv_len _ _ h4, hty.2.2.1]
      rfl
    | succ f ih =>
      intro k st h' l1 l6 l7 h1 h2 h3 h4 hf hs hR
      rcases Nat.lt_or_ge k b with hkb | hkb
      · have hln : st.length ≤ 30 := by
          rw [zl_tv_len _ _ h4]
          exact hty.2.2.2.1 k h2 h3
        have hbd : (cd k).1 ≤ 12 ∧ (cd k).2 < 1048576 := by
          rcases hty.2.2.2.2 k h2 hkb with ⟨o1, o2, o3⟩ | ⟨o1, o2, o3⟩ | ⟨o1, o2, r, o3, o4⟩ | ⟨o1, o2, o2b, r, o3, o4, o5⟩ | ⟨o1, o1b, o2, r, o3, o4⟩ | ⟨o1, o1b, o2, r, o3, o4⟩ <;> omega
        obtain ⟨d1, d2⟩ := zn_code hbd.1 hbd.2
        rw [d1] at d2
        have e1 : h'.1 144 k = nI (1048576 * (cd k).1 + (cd k).2) := by rw [hf.2 _ (by omega)]; exact hcd k h2 hkb
        have v1 : vp_in (nI k) 260 := vp_in_nI (by omega) (by decide)
        have c1 := nI_clamp (show k < 2 ^ 31 by omega)
        have vs : vp_in (nI st.length) 260 := vp_in_nI (by omega) (by decide)
        have cs := nI_clamp (show st.length < 2 ^ 31 by omega)
        have g1 := nI_ge hkb (by omega)
        have n1 := nI_1 k
        have q24 := p24 h' hf
        have q29 := p29 h' hf
        have q30 := p30 h' hf
        have bin : ∀ (r : List Bool) (t : Bool), 2 ≤ (cd k).1 → (cd k).1 ≤ 9 → (t = true → 7 ≤ (cd k).1) → ty k = false :: false :: r → ty (k + 1) = t :: r → zm_W (zm_md m_Mo_reckonsTo) (d + 2) TT R 16 [some (.inr (some 133)), l1, some (.inl (nI b)), some (.inl (nI st.length)), some (.inl 0), some (.inl (nI k)), l6, l7] [] h' := by
          intro r t o1 o1b ot o3 o4
          have j0 : ¬ nI (cd k).1 = 0 := fun z => by have := (nI_eq (b := 0) (by omega) (by omega)).mp z; omega
          have j1 : ¬ nI (cd k).1 = 1 := fun z => by have := (nI_eq (b := 1) (by omega) (by omega)).mp z; omega
          have j10 : ¬ nI (cd k).1 = 10 := fun z => by have := (nI_eq (b := 10) (by omega) (by omega)).mp z; omega
          have j11 : ¬ nI (cd k).1 = 11 := fun z => by have := (nI_eq (b := 11) (by omega) (by omega)).mp z; omega
          have j12 : ¬ nI (cd k).1 = 12 := fun z => by have := (nI_eq (b := 12) (by omega) (by omega)).mp z; omega
          rw [o3] at h4
          match st, h4, hs, hR, hln with
          | y :: x :: st, h4, hs, hR, hln =>
          rw [zl_run_b cd lt b f k x y st hkb o1 o1b] at hR
          rw [List.length_cons, List.length_cons] at hln
          have es1 : nI (y :: x :: st).length - 1 = nI (st.length + 1) := nI_pred _
          have es2 : nI (st.length + 1) - 1 = nI st.length := nI_pred _
          have vs1 : vp_in (nI (st.length + 1)) 260 := vp_in_nI (by omega) (by decide)
          have cs1 := nI_clamp (show st.length + 1 < 2 ^ 31 by omega)
          have vs0 : vp_in (nI st.length) 260 := vp_in_nI (by omega) (by decide)
          have cs0 := nI_clamp (show st.length < 2 ^ 31 by omega)
          have hy : h'.1 149 (st.length + 1) = y := hs.1
          have hx : h'.1 149 st.length = x := hs.2.1
          refine zm_go g_Mo_reckonsTo [16] 30 (by decide +kernel) ok_Mo_reckonsTo _ rfl ?_
          simp only [List.length_cons] at es1
          simp only [↓zq, ↓reduceIte, zr_si2, zr_sr1, zr_cp2, zr_tl, zr_tn, shq, List.contains_nil, List.contains_cons, Nat.reduceBEq, Bool.false_or, Bool.or_false, Bool.true_or, Bool.false_eq_true, if_false, if_true, true_and, and_true, List.set_cons_zero, List.set_cons_succ, List.length_cons, List.length_nil, Nat.reduceAdd, Nat.reduceLeDiff, Nat.le_refl, Nat.zero_le, true_or, or_true, zn_cl, ↓jj_Mo_reckonsTo, k0, q24, q29, q30, v1, c1, e1, d1, d2, g1, n1, es1, es2, vs1, cs1, vs0, cs0, hy, hx, j0, j1, j10, j11, j12]
          simp only [not_false_eq_true, not_true_eq_false, false_imp_iff, true_imp_iff, forall_const, and_true, true_and, and_self, false_or, or_false, Int32.reduceLT, Int32.reduceLE, Int32.reduceSub, Int32.reduceAdd]
          have call : ∀ (K : zm_R), ¬ (((cd k).1 = 5 ∨ (cd k).1 = 6) ∧ y = 0) → K (some (.inl (zl_ap (cd k).1 x y))) h' → zm_C (d + 1) TT 216 [.inl (nI (cd k).1), .inl x, .inl y] h' K := fun K hq hK => k_Mo_reckon o1 o1b hq hK
          have nxt : ¬ (((cd k).1 = 5 ∨ (cd k).1 = 6) ∧ y = 0) → zm_W (zm_md m_Mo_reckonsTo) (d + 2) TT R 16 [some (.inr (some 133)), l1, some (.inl (nI b)), some (.inl (nI (st.length + 1))), some (.inl 0), some (.inl (nI (k + 1))), some (.inl (nI (cd k).1)), some (.inl (nI (cd k).2))] [] (zm_si h' 149 st.length (zl_ap (cd k).1 x y)) := by
            intro hq
            rw [if_neg hq] at hR
            exact ih (k + 1) _ _ _ _ _ (by omega) (by omega) (by omega) (by rw [o4]; exact ⟨fun z => zl_ap_b (ot z) o1b, h4.2.2⟩) (hf.s _ _) (zl_sk_push hs.2.2) hR
          have i5 : nI (cd k).1 = 5 → (cd k).1 = 5 := fun z => (nI_eq (b := 5) (by omega) (by omega)).mp z
          have i6 : nI (cd k).1 = 6 → (cd k).1 = 6 := fun z => (nI_eq (b := 6) (by omega) (by omega)).mp z
          refine ⟨by decide, by decide, fun z5 => ⟨fun y0 => ?_, fun y0 => ?_⟩, fun z5 => ⟨fun z6 => ?_, fun z6 => ⟨fun y0 => ?_, fun y0 => ?_⟩⟩⟩
          · refine call _ (fun q => y0 q.2) ?_
            simp only [↓zq, ↓reduceIte, zr_si2, zr_sr1, zr_cp2, zr_tl, zr_tn, shq, List.contains_nil, List.contains_cons, Nat.reduceBEq, Bool.false_or, Bool.or_false, Bool.true_or, Bool.false_eq_true, if_false, if_true, true_and, and_true, List.set_cons_zero, List.set_cons_succ, List.length_cons, List.length_nil, Nat.reduceAdd, Nat.reduceLeDiff, Nat.le_refl, Nat.zero_le, true_or, or_true, zn_cl, ↓jj_Mo_reckonsTo, vs0, cs0]
            exact nxt (fun q => y0 q.2)
          · rw [if_pos ⟨Or.inl (i5 z5), y0⟩] at hR
            exact hR h' hf
          · have nq : ¬ (((cd k).1 = 5 ∨ (cd k).1 = 6) ∧ y = 0) := fun q => by
              rcases q.1 with q1 | q1
              · exact z5 (by rw [q1]; rfl)
              · exact z6 (by rw [q1]; rfl)
            refine call _ nq ?_
            simp only [↓zq, ↓reduceIte, zr_si2, zr_sr1, zr_cp2, zr_tl, zr_tn, shq, List.contains_nil, List.contains_cons, Nat.reduceBEq, Bool.false_or, Bool.or_false, Bool.true_or, Bool.false_eq_true, if_false, if_true, true_and, and_true, List.set_cons_zero, List.set_cons_succ, List.length_cons, List.length_nil, Nat.reduceAdd, Nat.reduceLeDiff, Nat.le_refl, Nat.zero_le, true_or, or_true, zn_cl, ↓jj_Mo_reckonsTo, vs0, cs0]
            exact nxt nq
          · refine call _ (fun q => y0 q.2) ?_
            simp only [↓zq, ↓reduceIte, zr_si2, zr_sr1, zr_cp2, zr_tl, zr_tn, shq, List.contains_nil, List.contains_cons, Nat.reduceBEq, Bool.false_or, Bool.or_false, Bool.true_or, Bool.false_eq_true, if_false, if_true, true_and, and_true, List.set_cons_zero, List.set_cons_succ, List.length_cons, List.length_nil, Nat.reduceAdd, Nat.reduceLeDiff, Nat.le_refl, Nat.zero_le, true_or, or_true, zn_cl, ↓jj_Mo_reckonsTo, vs0, cs0]
            exact nxt (fun q => y0 q.2)
          · rw [if_pos ⟨Or.inr (i6 z6), y0⟩] at hR
            exact hR h' hf
        rcases hty.2.2.2.2 k h2 hkb with ⟨o1, o2, o3⟩ | ⟨o1, o2, o3⟩ | ⟨o1, o2, r, o3, o4⟩ | ⟨o1, o2, o2b, r, o3, o4, o5⟩ | ⟨o1, o1b, o2, r, o3, o4⟩ | ⟨o1, o1b, o2, r, o3, o4⟩
        · have er : zl_run cd lt b (f + 1) k st = zl_run cd lt b f (k + 1) (nI (cd k).2 :: st) := by rw [zl_run_s, if_neg (by omega), if_pos o1]
          rw [er] at hR
          have J0 := zn_T (n := (cd k).1) (c := 0) (x := 0) rfl o1
          have J1 := zn_Fa (n := (cd k).1) (c := 1) (x := 1) rfl (by omega) (by omega) (by omega)
          have J5 := zn_Fa (n := (cd k).1) (c := 5) (x := 5) rfl (by omega) (by omega) (by omega)
          have J6 := zn_Fa (n := (cd k).1) (c := 6) (x := 6) rfl (by omega) (by omega) (by omega)
          have J10 := zn_Fa (n := (cd k).1) (c := 10) (x := 10) rfl (by omega) (by omega) (by omega)
          have J11 := zn_Fa (n := (cd k).1) (c := 11) (x := 11) rfl (by omega) (by omega) (by omega)
          have J12 := zn_Fa (n := (cd k).1) (c := 12) (x := 12) rfl (by omega) (by omega) (by omega)
          have nx := ih (k + 1) _ _ l1 (some (.inl (nI (cd k).1))) (some (.inl (nI (cd k).2))) (by omega) (by omega) (by omega) (by rw [o3]; exact ⟨fun z => absurd z (by decide), h4⟩) (hf.s st.length (nI (cd k).2)) (zl_sk_push hs) hR
          rw [List.length_cons, ← nI_1] at nx
          refine zm_go g_Mo_reckonsTo [16] 30 (by decide +kernel) ok_Mo_reckonsTo _ rfl ?_
          simp only [↓zq, ↓reduceIte, zr_si2, zr_sr1, zr_cp2, zr_tl, zr_tn, shq, List.contains_nil, List.contains_cons, Nat.reduceBEq, Bool.false_or, Bool.or_false, Bool.true_or, Bool.false_eq_true, if_false, if_true, true_and, and_true, List.set_cons_zero, List.set_cons_succ, List.length_cons, List.length_nil, Nat.reduceAdd, Nat.reduceLeDiff, Nat.le_refl, Nat.zero_le, true_or, or_true, zn_cl, ↓jj_Mo_reckonsTo, k0, q24, q29, q30, v1, c1, e1, d1, d2, g1, n1, vs, cs, J0, J1, J10, J11, J12]
          simp only [not_false_eq_true, not_true_eq_false, false_imp_iff, true_imp_iff, forall_const, and_true, true_and, and_self, false_or, or_false, Int32.reduceLT, Int32.reduceLE, Int32.reduceSub, Int32.reduceAdd]
          exact ⟨by decide, by decide, nx⟩
        · have er : zl_run cd lt b (f + 1) k st = zl_run cd lt b f (k + 1) (lt (cd k).2 :: st) := by rw [zl_run_s, if_neg (by omega), if_neg (by omega), if_pos o1]
          rw [er] at hR
          have J0 := zn_Fa (n := (cd k).1) (c := 0) (x := 0) rfl (by omega) (by omega) (by omega)
          have J1 := zn_T (n := (cd k).1) (c := 1) (x := 1) rfl o1
          have J5 := zn_Fa (n := (cd k).1) (c := 5) (x := 5) rfl (by omega) (by omega) (by omega)
          have J6 := zn_Fa (n := (cd k).1) (c := 6) (x := 6) rfl (by omega) (by omega) (by omega)
          have J10 := zn_Fa (n := (cd k).1) (c := 10) (x := 10) rfl (by omega) (by omega) (by omega)
          have J11 := zn_Fa (n := (cd k).1) (c := 11) (x := 11) rfl (by omega) (by omega) (by omega)
          have J12 := zn_Fa (n := (cd k).1) (c := 12) (x := 12) rfl (by omega) (by omega) (by omega)
          have nx := ih (k + 1) _ _ l1 (some (.inl (nI (cd k).1))) (some (.inl (nI (cd k).2))) (by omega) (by omega) (by omega) (by rw [o3]; exact ⟨fun z => absurd z (by decide), h4⟩) (hf.s st.length (lt (cd k).2)) (zl_sk_push hs) hR
          rw [List.length_cons, ← nI_1] at nx
          have v7 : vp_in (nI (cd k).2) 7 := vp_in_nI o2 (by decide)
          have c7 := nI_clamp (show (cd k).2 < 2 ^ 31 by omega)
          have l7' : h'.1 150 (cd k).2 = lt (cd k).2 := by rw [hf.2 _ (by omega)]; exact hlt _ o2
          refine zm_go g_Mo_reckonsTo [16] 30 (by decide +kernel) ok_Mo_reckonsTo _ rfl ?_
          simp only [↓zq, ↓reduceIte, zr_si2, zr_sr1, zr_cp2, zr_tl, zr_tn, shq, List.contains_nil, List.contains_cons, Nat.reduceBEq, Bool.false_or, Bool.or_false, Bool.true_or, Bool.false_eq_true, if_false, if_true, true_and, and_true, List.set_cons_zero, List.set_cons_succ, List.length_cons, List.length_nil, Nat.reduceAdd, Nat.reduceLeDiff, Nat.le_refl, Nat.zero_le, true_or, or_true, zn_cl, ↓jj_Mo_reckonsTo, k0, q24, q29, q30, v1, c1, e1, d1, d2, g1, n1, vs, cs, v7, c7, l7', J0, J1, J10, J11, J12]
          simp only [not_false_eq_true, not_true_eq_false, false_imp_iff, true_imp_iff, forall_const, and_true, true_and, and_self, false_or, or_false, Int32.reduceLT, Int32.reduceLE, Int32.reduceSub, Int32.reduceAdd]
          exact ⟨by decide, by decide, nx⟩
        · rw [o3] at h4
          match st, h4, hs, hR, hln, vs, cs with
          | x :: st, h4, hs, hR, hln, vs, cs =>
          have er : zl_run cd lt b (f + 1) k (x :: st) = zl_run cd lt b f (k + 1) ((1 - x) :: st) := by rw [zl_run_s, if_neg (by omega), if_neg (by omega), if_neg (by omega), if_pos o1]
          rw [er] at hR
          have J0 := zn_Fa (n := (cd k).1) (c := 0) (x := 0) rfl (by omega) (by omega) (by omega)
          have J1 := zn_Fa (n := (cd k).1) (c := 1) (x := 1) rfl (by omega) (by omega) (by omega)
          have J5 := zn_Fa (n := (cd k).1) (c := 5) (x := 5) rfl (by omega) (by omega) (by omega)
          have J6 := zn_Fa (n := (cd k).1) (c := 6) (x := 6) rfl (by omega) (by omega) (by omega)
          have J10 := zn_T (n := (cd k).1) (c := 10) (x := 10) rfl o1
          have J11 := zn_Fa (n := (cd k).1) (c := 11) (x := 11) rfl (by omega) (by omega) (by omega)
          have J12 := zn_Fa (n := (cd k).1) (c := 12) (x := 12) rfl (by omega) (by omega) (by omega)
          rw [List.length_cons] at hln
          have es1 : nI (st.length + 1) - 1 = nI st.length := nI_pred _
          have vs0 : vp_in (nI st.length) 260 := vp_in_nI (by omega) (by decide)
          have cs0 := nI_clamp (show st.length < 2 ^ 31 by omega)
          have hx : h'.1 149 st.length = x := hs.1
          have nx := ih (k + 1) _ _ l1 (some (.inl (nI (cd k).1))) (some (.inl (nI (cd k).2))) (by omega) (by omega) (by omega) (by rw [o4]; exact ⟨fun _ => by rcases h4.1 rfl with rfl | rfl; exact Or.inr rfl; exact Or.inl rfl, h4.2⟩) (hf.s st.length (1 - x)) (zl_sk_push hs.2) hR
          rw [List.length_cons] at nx
          refine zm_go g_Mo_reckonsTo [16] 30 (by decide +kernel) ok_Mo_reckonsTo _ rfl ?_
          simp only [↓zq, ↓reduceIte, zr_si2, zr_sr1, zr_cp2, zr_tl, zr_tn, shq, List.contains_nil, List.contains_cons, Nat.reduceBEq, Bool.false_or, Bool.or_false, Bool.true_or, Bool.false_eq_true, if_false, if_true, true_and, and_true, List.set_cons_zero, List.set_cons_succ, List.length_cons, List.length_nil, Nat.reduceAdd, Nat.reduceLeDiff, Nat.le_refl, Nat.zero_le, true_or, or_true, zn_cl, ↓jj_Mo_reckonsTo, k0, q24, q29, q30, v1, c1, e1, d1, d2, g1, n1, es1, vs0, cs0, hx, J0, J1, J10, J11, J12]
          simp only [not_false_eq_true, not_true_eq_false, false_imp_iff, true_imp_iff, forall_const, and_true, true_and, and_self, false_or, or_false, Int32.reduceLT, Int32.reduceLE, Int32.reduceSub, Int32.reduceAdd]
          exact ⟨by decide, by decide, nx⟩
        · rw [o3] at h4
          match st, h4, hs, hR, hln, vs, cs with
          | x :: st, h4, hs, hR, hln, vs, cs =>
          rw [zl_run_j cd lt b f k x st hkb o1] at hR
          rw [List.length_cons] at hln
          have es1 : nI (st.length + 1) - 1 = nI st.length := nI_pred _
          have vs0 : vp_in (nI st.length) 260 := vp_in_nI (by omega) (by decide)
          have cs0 := nI_clamp (show st.length < 2 ^ 31 by omega)
          have hx : h'.1 149 st.length = x := hs.1
          have z0 : (0 : Int32) + nI (cd k).2 = nI (cd k).2 := (nI_add 0 _).trans (by rw [Nat.zero_add])
          have nx1 : (if (cd k).1 = 11 then x = 0 else x = 1) → zm_W (zm_md m_Mo_reckonsTo) (d + 2) TT R 16 [some (.inr (some 133)), l1, some (.inl (nI b)), some (.inl (nI (st.length + 1))), some (.inl 0), some (.inl (nI (cd k).2)), some (.inl (nI (cd k).1)), some (.inl (nI (cd k).2))] [] h' := fun q => by
            rw [if_pos q] at hR
            exact ih _ (x :: st) h' _ _ _ (by omega) (by omega) (by omega) (by rw [o5]; exact ⟨h4.1, h4.2⟩) hf hs hR
          have nx0 : ¬ (if (cd k).1 = 11 then x = 0 else x = 1) → zm_W (zm_md m_Mo_reckonsTo) (d + 2) TT R 16 [some (.inr (some 133)), l1, some (.inl (nI b)), some (.inl (nI st.length)), some (.inl 0), some (.inl (nI (k + 1))), some (.inl (nI (cd k).1)), some (.inl (nI (cd k).2))] [] h' := fun q => by
            rw [if_neg q] at hR
            exact ih _ st h' _ _ _ (by omega) (by omega) (by omega) (by rw [o4]; exact h4.2) hf hs.2 hR
          rcases o1 with o1 | o1
          · rw [if_pos o1] at nx1 nx0
            have K : True := trivial
            have J0 := zn_Fa (n := (cd k).1) (c := 0) (x := 0) rfl (by omega) (by omega) (by omega)
            have J1 := zn_Fa (n := (cd k).1) (c := 1) (x := 1) rfl (by omega) (by omega) (by omega)
            have J5 := zn_Fa (n := (cd k).1) (c := 5) (x := 5) rfl (by omega) (by omega) (by omega)
            have J6 := zn_Fa (n := (cd k).1) (c := 6) (x := 6) rfl (by omega) (by omega) (by omega)
            have J10 := zn_Fa (n := (cd k).1) (c := 10) (x := 10) rfl (by omega) (by omega) (by omega)
            have J11 := zn_T (n := (cd k).1) (c := 11) (x := 11) rfl o1
            have J12 := zn_Fa (n := (cd k).1) (c := 12) (x := 12) rfl (by omega) (by omega) (by omega)
            refine zm_go g_Mo_reckonsTo [16] 30 (by decide +kernel) ok_Mo_reckonsTo _ rfl ?_
            simp only [↓zq, ↓reduceIte, zr_si2, zr_sr1, zr_cp2, zr_tl, zr_tn, shq, List.contains_nil, List.contains_cons, Nat.reduceBEq, Bool.false_or, Bool.or_false, Bool.true_or, Bool.false_eq_true, if_false, if_true, true_and, and_true, List.set_cons_zero, List.set_cons_succ, List.length_cons, List.length_nil, Nat.reduceAdd, Nat.reduceLeDiff, Nat.le_refl, Nat.zero_le, true_or, or_true, zn_cl, ↓jj_Mo_reckonsTo, k0, q24, q29, q30, v1, c1, e1, d1, d2, g1, n1, es1, vs0, cs0, hx, z0, J0, J1, J10, J11, J12]
            simp only [not_false_eq_true, not_true_eq_false, false_imp_iff, true_imp_iff, forall_const, and_true, true_and, and_self, false_or, or_false, Int32.reduceLT, Int32.reduceLE, Int32.reduceSub, Int32.reduceAdd]
            exact ⟨by decide, by decide, nx0, nx1⟩
          · rw [if_neg (by omega)] at nx1 nx0
            have J0 := zn_Fa (n := (cd k).1) (c := 0) (x := 0) rfl (by omega) (by omega) (by omega)
            have J1 := zn_Fa (n := (cd k).1) (c := 1) (x := 1) rfl (by omega) (by omega) (by omega)
            have J5 := zn_Fa (n := (cd k).1) (c := 5) (x := 5) rfl (by omega) (by omega) (by omega)
            have J6 := zn_Fa (n := (cd k).1) (c := 6) (x := 6) rfl (by omega) (by omega) (by omega)
            have J10 := zn_Fa (n := (cd k).1) (c := 10) (x := 10) rfl (by omega) (by omega) (by omega)
            have J11 := zn_Fa (n := (cd k).1) (c := 11) (x := 11) rfl (by omega) (by omega) (by omega)
            have J12 := zn_T (n := (cd k).1) (c := 12) (x := 12) rfl o1
            refine zm_go g_Mo_reckonsTo [16] 30 (by decide +kernel) ok_Mo_reckonsTo _ rfl ?_
            simp only [↓zq, ↓reduceIte, zr_si2, zr_sr1, zr_cp2, zr_tl, zr_tn, shq, List.contains_nil, List.contains_cons, Nat.reduceBEq, Bool.false_or, Bool.or_false, Bool.true_or, Bool.false_eq_true, if_false, if_true, true_and, and_true, List.set_cons_zero, List.set_cons_succ, List.length_cons, List.length_nil, Nat.reduceAdd, Nat.reduceLeDiff, Nat.le_refl, Nat.zero_le, true_or, or_true, zn_cl, ↓jj_Mo_reckonsTo, k0, q24, q29, q30, v1, c1, e1, d1, d2, g1, n1, es1, vs0, cs0, hx, z0, J0, J1, J10, J11, J12]
            simp only [not_false_eq_true, not_true_eq_false, false_imp_iff, true_imp_iff, forall_const, and_true, true_and, and_self, false_or, or_false, Int32.reduceLT, Int32.reduceLE, Int32.reduceSub, Int32.reduceAdd]
            exact ⟨by decide, by decide, nx0, nx1⟩
        · exact bin r false o1 (by omega) (fun z => absurd z (by decide)) o3 o4
        · exact bin r true (by omega) o1b (fun _ => o1) o3 o4
      · have : k = b := by omega
        subst this
        refine fin h' (f + 1) st l1 _ l6 l7 hf hs ?_ hR
        rw [zl_tv_len _ _ h4, hty.2.2.1]
        rfl
  have ea : (260 : Int32) * (nI a / 260) = 0 := by
    have : nI a / 260 = nI (a / 260) := pk_div (d := 260) (by have := hty.1; omega) (by decide) (by decide)
    rw [this, show a / 260 = 0 by have := hty.1; omega]
    rfl
  refine st_Mo_reckonsTo [16] 30 ?_
  simp only [↓zq, ↓reduceIte, zr_si2, zr_sr1, zr_cp2, zr_tl, zr_tn, shq, List.contains_nil, List.contains_cons, Nat.reduceBEq, Bool.false_or, Bool.or_false, Bool.true_or, Bool.false_eq_true, if_false, if_true, true_and, and_true, List.set_cons_zero, List.set_cons_succ, List.length_cons, List.length_nil, Nat.reduceAdd, Nat.reduceLeDiff, Nat.le_refl, Nat.zero_le, true_or, or_true, zn_cl, ↓jj_Mo_reckonsTo, ea]
  exact ⟨by decide, loop (b - a) a [] h _ _ _ (by omega) (Nat.le_refl _) hty.1 (by rw [hty.2.1]; exact trivial) (zl_mf.rf h) trivial hR⟩
