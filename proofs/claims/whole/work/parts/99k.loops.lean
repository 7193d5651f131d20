/-! constructors with loops: shapes, shelves, the lattice -/
def yf_sh (h : zm_M) (n i : Nat) : zm_M := (fun b j => if b = n ∧ j < i then nI (j % 8 / 2) else h.1 b j, h.2)
theorem yf_sh0 (h : zm_M) (n : Nat) : yf_sh h n 0 = h := by
  obtain ⟨h1, h2⟩ := h
  simp [yf_sh]
theorem yf_shS (h : zm_M) (n i : Nat) : zm_si (yf_sh h n i) n i (nI (i % 8 / 2)) = yf_sh h n (i + 1) := by
  unfold zm_si yf_sh
  congr 1
  funext b j
  dsimp only
  by_cases q : b = n ∧ j = i
  · rw [if_pos q, if_pos (by omega), q.2]
  · rw [if_neg q]
    by_cases q2 : b = n ∧ j < i
    · rw [if_pos q2, if_pos (by omega)]
    · rw [if_neg q2, if_neg (by omega)]
theorem yi_r8 : ∀ i, i < 24 → (nI i - nI i / 8 * 8) / 2 = nI (i % 8 / 2) := by decide +kernel
theorem yi_s1 (i : Nat) : nI i + Int32.ofInt 1 = nI (i + 1) := by
  rw [nI_succ]
  rfl
set_option maxHeartbeats 4000000 in
set_option maxRecDepth 100000 in
theorem yc_Shape_loop {d qq n n0 n1 : Nat} {R : zm_M → Prop} {M : zm_M} (hs : (zm_sh TT qq).1 = 9) (hsn : zm_sh TT n = (0, 24)) (hqn : qq < n1) (hnn : n < n1) (hM : M.2 qq 0 = some n) (hR : R (yf_sh M n 24)) : ∀ k i, i + k = 24 → yi_W (zm_md 85) d n0 n1 R 14 [some (.inr (some qq)), some (.inl (nI i))] [] n1 (yf_sh M n i) := by
  have hq : (zm_md 85).1.cls = zm_cn 6 := rfl
  intro k
  induction k with
  | zero =>
    intro i hi
    have hi : i = 24 := by omega
    subst hi
    refine yi_il (pc := 14) (i := 1) (x := nI 24) (by decide +kernel) rfl ?_
    refine yi_bp (pc := 15) (z := 24) (x := 24) (by decide +kernel) (by decide +kernel) ?_
    refine yi_ge (pc := 17) (o := 21) (t := 38) (by decide +kernel) (by decide) (fun _ => ?_) (fun z => absurd (by decide) z)
    exact yi_ret (by decide +kernel) (by decide +kernel) hR
  | succ k ih =>
    intro i hi
    refine yi_il (pc := 14) (i := 1) (x := nI i) (by decide +kernel) rfl ?_
    refine yi_bp (pc := 15) (z := 24) (x := 24) (by decide +kernel) (by decide +kernel) ?_
    refine yi_ge (pc := 17) (o := 21) (t := 38) (by decide +kernel) (by decide) (fun z => absurd z (nI_ge (b := 24) (by omega) (by decide))) (fun _ => ?_)
    refine yi_al (pc := 20) (i := 0) (a := qq) (by decide +kernel) rfl ?_
    refine yi_gf (pc := 21) (oc := 6) (k := 9) (fb := 0) (y := n) (by decide +kernel) hq (by decide +kernel) (by decide +kernel) hs (by omega) hM ?_
    refine yi_il (pc := 24) (i := 1) (x := nI i) (by decide +kernel) rfl ?_
    refine yi_il (pc := 25) (i := 1) (x := nI i) (by decide +kernel) rfl ?_
    refine yi_bp (pc := 26) (z := 8) (x := 8) (by decide +kernel) (by decide +kernel) ?_
    refine yi_irem (pc := 28) (by decide +kernel) (by decide) ?_
    refine yi_ic (pc := 29) (z := 2) (x := 2) (by decide +kernel) (by decide +kernel) ?_
    refine yi_idiv (pc := 30) (by decide +kernel) (by decide) ?_
    refine yi_ia (pc := 31) (N := 24) (by decide +kernel) hsn hnn (vp_in_nI (by omega) (by decide)) ?_
    rw [nI_clamp (by omega), yi_r8 i (by omega), yf_shS]
    refine yi_ii (pc := 32) (i := 1) (z := 1) (x := nI i) (y := nI (i + 1)) (by decide +kernel) (by decide +kernel) rfl (yi_s1 i) ?_
    refine yi_go (pc := 35) (o := -21) (t := 14) (by decide +kernel) (by decide) ?_
    exact ih (i + 1) (by omega)
def yf_Shape (h : zm_M) (qq n : Nat) : zm_M := yf_sh (zm_sr (yi_nw h n) qq 0 (some n)) n 24
set_option maxHeartbeats 4000000 in
set_option maxRecDepth 100000 in
theorem yc_Shape {d qq n : Nat} {h : zm_M} {R : zm_M → Prop} (hs : (zm_sh TT qq).1 = 9) (hqn : qq < n) (hn : n + 1 ≤ 171) (s0 : zm_sh TT (n) = (0, 24)) (hR : R (yf_Shape h qq n)) : yi_C (d) 85 n (n + 1) [.inr (some qq)] h R := by
  have hq : (zm_md 85).1.cls = zm_cn 6 := rfl
  refine yi_ent 2 (by decide +kernel) (by decide +kernel) (Nat.le_of_ble_eq_true rfl) (by omega) ?_
  show yi_W _ _ _ _ _ 0 [some (.inr (some qq)), none] [] _ _
  refine yi_al (pc := 0) (i := 0) (a := qq) (by decide +kernel) rfl ?_
  refine yi_ob (pc := 1) (oc := 6) (k := 3) (by decide +kernel) hq (zw_p1 125 rfl) (Nat.le_of_ble_eq_true rfl) ?_
  refine yi_al (pc := 4) (i := 0) (a := qq) (by decide +kernel) rfl ?_
  refine yi_bp (pc := 5) (z := 24) (x := 24) (by decide +kernel) (by decide +kernel) ?_
  refine yi_NA (pc := 7) (N := 24) (n' := n + 1) (by decide +kernel) (by decide +kernel) (by decide) s0 rfl (by omega) (by omega) ?_
  refine yi_pr (pc := 9) (oc := 6) (k := 9) (fb := 0) (by decide +kernel) hq (by decide +kernel) (by decide +kernel) hs (by omega) ?_
  refine yi_ic (pc := 12) (z := 0) (x := 0) (by decide +kernel) (by decide +kernel) ?_
  refine yi_is (pc := 13) (i := 1) (by decide +kernel) (by decide +kernel) ?_
  have h9 := yc_Shape_loop (d := d) (n0 := n) (n1 := n + 1) (M := (zm_sr (yi_nw h n) qq 0 (some n))) hs s0 (by omega) (by omega) (by simp [zm_sr]) hR 24 0 rfl
  rw [yf_sh0] at h9
  exact h9
def yf_Form (h : zm_M) (qq n t0 : Nat) : zm_M := (zm_sr (zm_sr (yf_Cut (yi_nw (zm_sr (yf_Shape (yi_nw h n) n (n + 1)) qq 1 (some n)) (n + 2)) (n + 2) (n + 3)) qq 2 (some (n + 2))) qq 0 (some t0))
set_option maxHeartbeats 4000000 in
set_option maxRecDepth 100000 in
theorem yc_Form {d qq n t0 : Nat} {h : zm_M} {R : zm_M → Prop} (hs : (zm_sh TT qq).1 = 5) (hqn : qq < n) (hn : n + 5 ≤ 171) (s0 : zm_sh TT (n) = (9, 0)) (s1 : zm_sh TT (n + 1) = (0, 24)) (s2 : zm_sh TT (n + 2) = (3, 0)) (s3 : zm_sh TT (n + 3) = (0, 3)) (s4 : zm_sh TT (n + 4) = (0, 3)) (hR : R (yf_Form h qq n t0)) : yi_C (d + 1) 30 n (n + 5) [.inr (some qq), .inr (some t0)] h R := by
  have hq : (zm_md 30).1.cls = zm_cn 2 := rfl
  refine yi_ent 2 (by decide +kernel) (by decide +kernel) (Nat.le_of_ble_eq_true rfl) (by omega) ?_
  show yi_W _ _ _ _ _ 0 [some (.inr (some qq)), some (.inr (some t0))] [] _ _
  refine yi_al (pc := 0) (i := 0) (a := qq) (by decide +kernel) rfl ?_
  refine yi_ob (pc := 1) (oc := 2) (k := 3) (by decide +kernel) hq (zw_p1 119 rfl) (Nat.le_of_ble_eq_true rfl) ?_
  refine yi_al (pc := 4) (i := 0) (a := qq) (by decide +kernel) rfl ?_
  refine yi_NE (pc := 5) (oc := 2) (k := 9) (c2 := 6) (n' := n + 1) (by decide +kernel) hq (zw_p1 120 rfl) (zw_p1 121 rfl) (zw_p1 6 rfl) (by decide) s0 rfl (by omega) (by omega) ?_
  refine yi_dup (pc := 8) (by decide +kernel) ?_
  refine yi_ca (pc := 9) (oc := 2) (k := 11) (j := 85) (n' := n + 2) (qq := n) [] (by decide +kernel) hq (by decide +kernel) rfl (Nat.le_of_ble_eq_true rfl) (by omega) (by omega) (by omega) ?_
  refine yc_Shape (by rw [s0]) (by omega) (by omega) s1 ?_
  refine yi_pr (pc := 12) (oc := 2) (k := 12) (fb := 1) (by decide +kernel) hq (by decide +kernel) (by decide +kernel) hs (by omega) ?_
  refine yi_al (pc := 15) (i := 0) (a := qq) (by decide +kernel) rfl ?_
  refine yi_NE (pc := 16) (oc := 2) (k := 18) (c2 := 0) (n' := n + 3) (by decide +kernel) hq (zw_p1 130 rfl) (zw_p1 131 rfl) (zw_p1 7 rfl) (by decide) s2 rfl (by omega) (by omega) ?_
  refine yi_dup (pc := 19) (by decide +kernel) ?_
  refine yi_ca (pc := 20) (oc := 2) (k := 20) (j := 0) (n' := n + 5) (qq := n + 2) [] (by decide +kernel) hq (by decide +kernel) rfl (Nat.le_of_ble_eq_true rfl) (by omega) (by omega) (by omega) ?_
  refine yc_Cut (by rw [s2]) (by omega) (by omega) s3 s4 ?_
  refine yi_pr (pc := 23) (oc := 2) (k := 21) (fb := 2) (by decide +kernel) hq (by decide +kernel) (by decide +kernel) hs (by omega) ?_
  refine yi_al (pc := 26) (i := 0) (a := qq) (by decide +kernel) rfl ?_
  refine yi_al (pc := 27) (i := 1) (a := t0) (by decide +kernel) rfl ?_
  refine yi_pr (pc := 28) (oc := 2) (k := 25) (fb := 0) (by decide +kernel) hq (by decide +kernel) (by decide +kernel) hs (by omega) ?_
  exact yi_ret (by decide +kernel) (by decide +kernel) hR
theorem zn_or27 {i x : Nat} (hi : i < 27) (hx : x < 2 ^ i) : nI x ||| (1 : Int32) <<< (nI i &&& 31) = nI (x + 2 ^ i) := by
  have e : ∀ i, i < 27 → (1 : Int32) <<< (nI i &&& 31) = nI (2 ^ i) := by decide +kernel
  rw [e i hi, zn_or]
  congr 1
  have h9 := Nat.two_pow_add_eq_or_of_lt hx 1
  rw [Nat.mul_one] at h9
  rw [Nat.or_comm, ← h9, Nat.add_comm]
set_option maxHeartbeats 4000000 in
set_option maxRecDepth 100000 in
theorem k_Latt_isNoFiner {d : Nat} {T : zm_T} {h : zm_M} {R : zm_R} {nd ot : Nat} (h1 : nd < 27) (h2 : ot < 27) (hR : R (some (.inl (if zs_blw nd ot = true then 1 else 0))) h) : zm_C (d + 2) T m_Latt_isNoFiner [.inl (nI nd), .inl (nI ot)] h R := by
  have e0 : ∀ x : Nat, x / 3 ^ (2 - 0) % 3 = x / 9 % 3 := fun _ => rfl
  have e1 : ∀ x : Nat, x / 3 ^ (2 - 1) % 3 = x / 3 % 3 := fun _ => rfl
  have e2 : ∀ x : Nat, x / 3 ^ (2 - 2) % 3 = x % 3 := fun x => by simp
  refine st_Latt_isNoFiner [] 30 ?_
  simp only [↓zq, ↓reduceIte, zr_si2, zr_sr1, zr_cp2, zr_tl, zr_tn, shq, List.contains_nil, List.contains_cons, Nat.reduceBEq, Bool.false_or, Bool.or_false, Bool.true_or, Bool.false_eq_true, if_false, if_true, true_and, and_true, List.set_cons_zero, List.set_cons_succ, List.length_cons, List.length_nil, Nat.reduceAdd, Nat.reduceLeDiff, Nat.le_refl, Nat.zero_le, true_or, or_true, zn_cl, ↓jj_Latt_isNoFiner, Int32.reduceAdd]
  refine ⟨fun z => absurd z (by decide), fun _ => ?_⟩
  refine k_KS_levelIn (s := 0) h1 (by decide) ?_
  simp only [↓zq, ↓reduceIte, zr_si2, zr_sr1, zr_cp2, zr_tl, zr_tn, shq, List.contains_nil, List.contains_cons, Nat.reduceBEq, Bool.false_or, Bool.or_false, Bool.true_or, Bool.false_eq_true, if_false, if_true, true_and, and_true, List.set_cons_zero, List.set_cons_succ, List.length_cons, List.length_nil, Nat.reduceAdd, Nat.reduceLeDiff, Nat.le_refl, Nat.zero_le, true_or, or_true, zn_cl, ↓jj_Latt_isNoFiner, Int32.reduceAdd]
  refine k_KS_levelIn (s := 0) h2 (by decide) ?_
  simp only [↓zq, ↓reduceIte, zr_si2, zr_sr1, zr_cp2, zr_tl, zr_tn, shq, List.contains_nil, List.contains_cons, Nat.reduceBEq, Bool.false_or, Bool.or_false, Bool.true_or, Bool.false_eq_true, if_false, if_true, true_and, and_true, List.set_cons_zero, List.set_cons_succ, List.length_cons, List.length_nil, Nat.reduceAdd, Nat.reduceLeDiff, Nat.le_refl, Nat.zero_le, true_or, or_true, zn_cl, ↓jj_Latt_isNoFiner, Int32.reduceAdd]
  rw [e0, e0, zn_le (by omega) (by omega)]
  refine ⟨fun c0 => ⟨fun z => absurd z (by decide), fun _ => ?_⟩, fun c0 => ?_⟩
  · refine k_KS_levelIn (s := 1) h1 (by decide) ?_
    simp only [↓zq, ↓reduceIte, zr_si2, zr_sr1, zr_cp2, zr_tl, zr_tn, shq, List.contains_nil, List.contains_cons, Nat.reduceBEq, Bool.false_or, Bool.or_false, Bool.true_or, Bool.false_eq_true, if_false, if_true, true_and, and_true, List.set_cons_zero, List.set_cons_succ, List.length_cons, List.length_nil, Nat.reduceAdd, Nat.reduceLeDiff, Nat.le_refl, Nat.zero_le, true_or, or_true, zn_cl, ↓jj_Latt_isNoFiner, Int32.reduceAdd]
    refine k_KS_levelIn (s := 1) h2 (by decide) ?_
    simp only [↓zq, ↓reduceIte, zr_si2, zr_sr1, zr_cp2, zr_tl, zr_tn, shq, List.contains_nil, List.contains_cons, Nat.reduceBEq, Bool.false_or, Bool.or_false, Bool.true_or, Bool.false_eq_true, if_false, if_true, true_and, and_true, List.set_cons_zero, List.set_cons_succ, List.length_cons, List.length_nil, Nat.reduceAdd, Nat.reduceLeDiff, Nat.le_refl, Nat.zero_le, true_or, or_true, zn_cl, ↓jj_Latt_isNoFiner, Int32.reduceAdd]
    rw [e1, e1, zn_le (by omega) (by omega)]
    refine ⟨fun c1 => ⟨fun z => absurd z (by decide), fun _ => ?_⟩, fun c1 => ?_⟩
    · refine k_KS_levelIn (s := 2) h1 (by decide) ?_
      simp only [↓zq, ↓reduceIte, zr_si2, zr_sr1, zr_cp2, zr_tl, zr_tn, shq, List.contains_nil, List.contains_cons, Nat.reduceBEq, Bool.false_or, Bool.or_false, Bool.true_or, Bool.false_eq_true, if_false, if_true, true_and, and_true, List.set_cons_zero, List.set_cons_succ, List.length_cons, List.length_nil, Nat.reduceAdd, Nat.reduceLeDiff, Nat.le_refl, Nat.zero_le, true_or, or_true, zn_cl, ↓jj_Latt_isNoFiner, Int32.reduceAdd]
      refine k_KS_levelIn (s := 2) h2 (by decide) ?_
      simp only [↓zq, ↓reduceIte, zr_si2, zr_sr1, zr_cp2, zr_tl, zr_tn, shq, List.contains_nil, List.contains_cons, Nat.reduceBEq, Bool.false_or, Bool.or_false, Bool.true_or, Bool.false_eq_true, if_false, if_true, true_and, and_true, List.set_cons_zero, List.set_cons_succ, List.length_cons, List.length_nil, Nat.reduceAdd, Nat.reduceLeDiff, Nat.le_refl, Nat.zero_le, true_or, or_true, zn_cl, ↓jj_Latt_isNoFiner, Int32.reduceAdd]
      rw [e2, e2, zn_le (by omega) (by omega)]
      refine ⟨fun c2 => ⟨fun z => ?_, fun z => absurd (by decide) z⟩, fun c2 => ?_⟩
      · rw [if_pos (by simp [zs_blw, c0, c1, c2])] at hR
        exact hR
      · rw [if_neg (by simp [zs_blw, c2])] at hR
        exact hR
    · rw [if_neg (by simp [zs_blw, c1])] at hR
      exact hR
  · rw [if_neg (by simp [zs_blw, c0])] at hR
    exact hR
