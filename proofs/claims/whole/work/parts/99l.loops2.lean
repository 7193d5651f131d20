/-! shelves, the lattice -/
def yf_Shl (M : zm_M) (n : Nat) : Nat → zm_M
  | 0 => M
  | i + 1 => zm_sr (yf_Summ (yi_nw (yf_Shl M n i) (n + 1 + 4 * i)) (n + 1 + 4 * i) (n + 1 + 4 * i + 1)) n i (some (n + 1 + 4 * i))
theorem yf_Shl2 {M : zm_M} {n qq : Nat} (hqn : qq < n) (hM : M.2 qq 0 = some n) : ∀ i, (yf_Shl M n i).2 qq 0 = some n
  | 0 => hM
  | i + 1 => by
    have ih := yf_Shl2 hqn hM i
    simp only [yf_Shl, yf_Summ, yf_Cut, zm_sr, zm_si, yi_nw]
    repeat rw [if_neg (by omega)]
    exact ih
set_option maxHeartbeats 4000000 in
set_option maxRecDepth 100000 in
theorem yc_Shelf_loop {d qq n n0 : Nat} {R : zm_M → Prop} {M : zm_M} (hs : (zm_sh TT qq).1 = 10) (hsn : zm_sh TT n = (2, 8)) (hqn : qq < n) (hn : n + 33 ≤ 171) (hsh : ∀ i, i < 8 → zm_sh TT (n + 1 + 4 * i) = (11, 0) ∧ zm_sh TT (n + 1 + 4 * i + 1) = (3, 0) ∧ zm_sh TT (n + 1 + 4 * i + 1 + 1) = (0, 3) ∧ zm_sh TT (n + 1 + 4 * i + 1 + 2) = (0, 3)) (hM : M.2 qq 0 = some n) (hR : R (yf_Shl M n 8)) : ∀ k i, i + k = 8 → yi_W (zm_md 92) (d + 2) n0 (n + 33) R 20 [some (.inr (some qq)), some (.inl (nI i))] [] (n + 1 + 4 * i) (yf_Shl M n i) := by
  have hq : (zm_md 92).1.cls = zm_cn 7 := rfl
  intro k
  induction k with
  | zero =>
    intro i hi
    have hi : i = 8 := by omega
    subst hi
    rw [show n + 1 + 4 * 8 = n + 33 by omega]
    refine yi_il (pc := 20) (i := 1) (x := nI 8) (by decide +kernel) rfl ?_
    refine yi_bp (pc := 21) (z := 8) (x := 8) (by decide +kernel) (by decide +kernel) ?_
    refine yi_ge (pc := 23) (o := 22) (t := 45) (by decide +kernel) (by decide) (fun _ => ?_) (fun z => absurd (by decide) z)
    exact yi_ret (by decide +kernel) (by decide +kernel) hR
  | succ k ih =>
    intro i hi
    obtain ⟨z0, z1, z2, z3⟩ := hsh i (by omega)
    have h9 := ih (i + 1) (by omega)
    rw [show n + 1 + 4 * (i + 1) = n + 1 + 4 * i + 1 + 3 by omega] at h9
    refine yi_il (pc := 20) (i := 1) (x := nI i) (by decide +kernel) rfl ?_
    refine yi_bp (pc := 21) (z := 8) (x := 8) (by decide +kernel) (by decide +kernel) ?_
    refine yi_ge (pc := 23) (o := 22) (t := 45) (by decide +kernel) (by decide) (fun z => absurd z (nI_ge (b := 8) (by omega) (by decide))) (fun _ => ?_)
    refine yi_al (pc := 26) (i := 0) (a := qq) (by decide +kernel) rfl ?_
    refine yi_gf (pc := 27) (oc := 7) (k := 11) (fb := 0) (y := n) (by decide +kernel) hq (by decide +kernel) (by decide +kernel) hs (by omega) (yf_Shl2 hqn hM i) ?_
    refine yi_il (pc := 30) (i := 1) (x := nI i) (by decide +kernel) rfl ?_
    refine yi_NE (pc := 31) (oc := 7) (k := 9) (c2 := 8) (n' := n + 1 + 4 * i + 1) (by decide +kernel) hq (zw_p1 203 rfl) (zw_p1 205 rfl) (zw_p1 10 rfl) (by decide) z0 rfl (by omega) (by omega) ?_
    refine yi_dup (pc := 34) (by decide +kernel) ?_
    refine yi_ca (pc := 35) (oc := 7) (k := 21) (j := 97) (n' := n + 1 + 4 * i + 1 + 3) (qq := n + 1 + 4 * i) [] (by decide +kernel) hq (by decide +kernel) rfl (Nat.le_of_ble_eq_true rfl) (by omega) (by omega) (by omega) ?_
    refine yc_Summ (by rw [z0]) (by omega) (by omega) z1 z2 z3 ?_
    refine yi_aa (pc := 38) (N := 8) (by decide +kernel) hsn (by omega) (by rw [z0]) (by omega) (vp_in_nI (by omega) (by decide)) ?_
    rw [nI_clamp (by omega)]
    refine yi_ii (pc := 39) (i := 1) (z := 1) (x := nI i) (y := nI (i + 1)) (by decide +kernel) (by decide +kernel) rfl (yi_s1 i) ?_
    refine yi_go (pc := 42) (o := -22) (t := 20) (by decide +kernel) (by decide) ?_
    exact h9
def yf_lt (M : zm_M) (n i : Nat) : zm_M := (fun b j => if b = n + 1 ∧ j < i then nI (zs_nb j) else M.1 b j, M.2)
theorem yf_lt0 (h : zm_M) (n : Nat) : yf_lt h n 0 = h := by
  obtain ⟨h1, h2⟩ := h
  simp [yf_lt]
theorem yf_ltS (h : zm_M) (n i : Nat) : zm_si (yf_lt h n i) (n + 1) i (nI (zs_nb i)) = yf_lt h n (i + 1) := by
  unfold zm_si yf_lt
  congr 1
  funext b j
  dsimp only
  by_cases q : b = n + 1 ∧ j = i
  · rw [if_pos q, if_pos (by omega), q.2]
  · rw [if_neg q]
    by_cases q2 : b = n + 1 ∧ j < i
    · rw [if_pos q2, if_pos (by omega)]
    · rw [if_neg q2, if_neg (by omega)]
set_option maxHeartbeats 4000000 in
set_option maxRecDepth 100000 in
theorem yc_Latt_in {d qq n0 n1 : Nat} {R : zm_M → Prop} {M : zm_M} {i : Nat} (hi : i < 27) (h71 : n1 ≤ 171) (kk : yi_W (zm_md 43) (d + 3) n0 n1 R 108 [some (.inr (some qq)), some (.inl (nI i)), some (.inl (nI (zs_nb i))), some (.inl (nI 27))] [] n1 M) : ∀ k j, j + k = 27 → yi_W (zm_md 43) (d + 3) n0 n1 R 82 [some (.inr (some qq)), some (.inl (nI i)), some (.inl (nI (zs_bits (fun nd => zs_blw nd i) j))), some (.inl (nI j))] [] n1 M := by
  have hq : (zm_md 43).1.cls = zm_cn 3 := rfl
  intro k
  induction k with
  | zero =>
    intro j hj
    have hj : j = 27 := by omega
    subst hj
    refine yi_il (pc := 82) (i := 3) (x := nI 27) (by decide +kernel) rfl ?_
    refine yi_bp (pc := 83) (z := 27) (x := 27) (by decide +kernel) (by decide +kernel) ?_
    refine yi_ge (pc := 85) (o := 23) (t := 108) (by decide +kernel) (by decide) (fun _ => ?_) (fun z => absurd (by decide) z)
    exact kk
  | succ k ih =>
    intro j hj
    have h9 := ih (j + 1) (by omega)
    refine yi_il (pc := 82) (i := 3) (x := nI j) (by decide +kernel) rfl ?_
    refine yi_bp (pc := 83) (z := 27) (x := 27) (by decide +kernel) (by decide +kernel) ?_
    refine yi_ge (pc := 85) (o := 23) (t := 108) (by decide +kernel) (by decide) (fun z => absurd z (nI_ge (b := 27) (by omega) (by decide))) (fun _ => ?_)
    refine yi_il (pc := 88) (i := 3) (x := nI j) (by decide +kernel) rfl ?_
    refine yi_il (pc := 89) (i := 1) (x := nI i) (by decide +kernel) rfl ?_
    refine yi_sc (pc := 90) (oc := 3) (k := 40) (j := 44) (r := []) [.inl (nI j), .inl (nI i)] (by decide +kernel) hq (by decide +kernel) (by decide +kernel) (by decide +kernel) (by rfl) rfl (Nat.zero_le _) (Nat.le_refl _) h71 ?_
    refine k_Latt_isNoFiner (by omega) hi ?_
    by_cases hb : zs_blw j i = true
    · rw [if_pos hb]
      have e : zs_bits (fun nd => zs_blw nd i) (j + 1) = zs_bits (fun nd => zs_blw nd i) j + 2 ^ j := by
        rw [zs_bits, if_pos hb]
      rw [e] at h9
      refine yi_eq (pc := 93) (st := []) (o := 9) (t := 102) (by decide +kernel) (by decide) (fun z => absurd z (by decide)) (fun _ => ?_)
      refine yi_il (pc := 96) (i := 2) (x := nI (zs_bits (fun nd => zs_blw nd i) j)) (by decide +kernel) rfl ?_
      refine yi_ic (pc := 97) (z := 1) (x := 1) (by decide +kernel) (by decide +kernel) ?_
      refine yi_il (pc := 98) (i := 3) (x := nI j) (by decide +kernel) rfl ?_
      refine yi_ishl (pc := 99) (by decide +kernel) ?_
      refine yi_ior (pc := 100) (by decide +kernel) ?_
      rw [zn_or27 (by omega) (zs_bits_lt _ _)]
      refine yi_is (pc := 101) (i := 2) (by decide +kernel) (by decide +kernel) ?_
      refine yi_ii (pc := 102) (i := 3) (z := 1) (x := nI j) (y := nI (j + 1)) (by decide +kernel) (by decide +kernel) rfl (yi_s1 j) ?_
      refine yi_go (pc := 105) (o := -23) (t := 82) (by decide +kernel) (by decide) ?_
      exact h9
    · rw [if_neg hb]
      have e : zs_bits (fun nd => zs_blw nd i) (j + 1) = zs_bits (fun nd => zs_blw nd i) j := by
        rw [zs_bits, if_neg hb]
        rfl
      rw [e] at h9
      refine yi_eq (pc := 93) (st := []) (o := 9) (t := 102) (by decide +kernel) (by decide) (fun _ => ?_) (fun z => absurd rfl z)
      refine yi_ii (pc := 102) (i := 3) (z := 1) (x := nI j) (y := nI (j + 1)) (by decide +kernel) (by decide +kernel) rfl (yi_s1 j) ?_
      refine yi_go (pc := 105) (o := -23) (t := 82) (by decide +kernel) (by decide) ?_
      exact h9
set_option maxHeartbeats 4000000 in
set_option maxRecDepth 100000 in
theorem yc_Latt_out {d qq n n0 n1 : Nat} {R : zm_M → Prop} {M : zm_M} (hs : (zm_sh TT qq).1 = 6) (hsn : zm_sh TT (n + 1) = (0, 27)) (hqn : qq < n1) (hnn : n + 1 < n1) (h71 : n1 ≤ 171) (hM : M.2 qq 1 = some (n + 1)) (hR : R (yf_lt M n 27)) : ∀ k i, i + k = 27 → ∀ x2 x3 : Option zm_V, yi_W (zm_md 43) (d + 3) n0 n1 R 72 [some (.inr (some qq)), some (.inl (nI i)), x2, x3] [] n1 (yf_lt M n i) := by
  have hq : (zm_md 43).1.cls = zm_cn 3 := rfl
  intro k
  induction k with
  | zero =>
    intro i hi x2 x3
    have hi : i = 27 := by omega
    subst hi
    refine yi_il (pc := 72) (i := 1) (x := nI 27) (by decide +kernel) rfl ?_
    refine yi_bp (pc := 73) (z := 27) (x := 27) (by decide +kernel) (by decide +kernel) ?_
    refine yi_ge (pc := 75) (o := 46) (t := 121) (by decide +kernel) (by decide) (fun _ => ?_) (fun z => absurd (by decide) z)
    exact yi_ret (by decide +kernel) (by decide +kernel) hR
  | succ k ih =>
    intro i hi x2 x3
    refine yi_il (pc := 72) (i := 1) (x := nI i) (by decide +kernel) rfl ?_
    refine yi_bp (pc := 73) (z := 27) (x := 27) (by decide +kernel) (by decide +kernel) ?_
    refine yi_ge (pc := 75) (o := 46) (t := 121) (by decide +kernel) (by decide) (fun z => absurd z (nI_ge (b := 27) (by omega) (by decide))) (fun _ => ?_)
    refine yi_ic (pc := 78) (z := 0) (x := 0) (by decide +kernel) (by decide +kernel) ?_
    refine yi_is (pc := 79) (i := 2) (by decide +kernel) (by decide +kernel) ?_
    refine yi_ic (pc := 80) (z := 0) (x := 0) (by decide +kernel) (by decide +kernel) ?_
    refine yi_is (pc := 81) (i := 3) (by decide +kernel) (by decide +kernel) ?_
    refine yc_Latt_in (i := i) (by omega) h71 ?_ 27 0 rfl
    refine yi_al (pc := 108) (i := 0) (a := qq) (by decide +kernel) rfl ?_
    refine yi_gf (pc := 109) (oc := 3) (k := 15) (fb := 1) (y := n + 1) (by decide +kernel) hq (by decide +kernel) (by decide +kernel) hs (by omega) hM ?_
    refine yi_il (pc := 112) (i := 1) (x := nI i) (by decide +kernel) rfl ?_
    refine yi_il (pc := 113) (i := 2) (x := nI (zs_nb i)) (by decide +kernel) rfl ?_
    refine yi_ia (pc := 114) (N := 27) (by decide +kernel) hsn hnn (vp_in_nI (by omega) (by decide)) ?_
    rw [nI_clamp (by omega), yf_ltS]
    refine yi_ii (pc := 115) (i := 1) (z := 1) (x := nI i) (y := nI (i + 1)) (by decide +kernel) (by decide +kernel) rfl (yi_s1 i) ?_
    refine yi_go (pc := 118) (o := -46) (t := 72) (by decide +kernel) (by decide) ?_
    exact ih (i + 1) (by omega) _ _
def yf_Shelf (h : zm_M) (qq n : Nat) : zm_M := yf_Shl (zm_si (zm_sr (yi_nw h n) qq 0 (some n)) qq 1 0) n 8
set_option maxHeartbeats 4000000 in
set_option maxRecDepth 100000 in
theorem yc_Shelf {d qq n : Nat} {h : zm_M} {R : zm_M → Prop} (hs : (zm_sh TT qq).1 = 10) (hqn : qq < n) (hn : n + 33 ≤ 171) (s0 : zm_sh TT (n) = (2, 8)) (hsh : ∀ i, i < 8 → zm_sh TT (n + 1 + 4 * i) = (11, 0) ∧ zm_sh TT (n + 1 + 4 * i + 1) = (3, 0) ∧ zm_sh TT (n + 1 + 4 * i + 1 + 1) = (0, 3) ∧ zm_sh TT (n + 1 + 4 * i + 1 + 2) = (0, 3)) (hR : R (yf_Shelf h qq n)) : yi_C (d + 2) 92 n (n + 33) [.inr (some qq)] h R := by
  have hq : (zm_md 92).1.cls = zm_cn 7 := rfl
  refine yi_ent 2 (by decide +kernel) (by decide +kernel) (Nat.le_of_ble_eq_true rfl) (by omega) ?_
  show yi_W _ _ _ _ _ 0 [some (.inr (some qq)), none] [] _ _
  refine yi_al (pc := 0) (i := 0) (a := qq) (by decide +kernel) rfl ?_
  refine yi_ob (pc := 1) (oc := 7) (k := 3) (by decide +kernel) hq (zw_p1 202 rfl) (Nat.le_of_ble_eq_true rfl) ?_
  refine yi_al (pc := 4) (i := 0) (a := qq) (by decide +kernel) rfl ?_
  refine yi_bp (pc := 5) (z := 8) (x := 8) (by decide +kernel) (by decide +kernel) ?_
  refine yi_NR (pc := 7) (oc := 7) (k := 9) (N := 8) (n' := n + 1) (by decide +kernel) hq (zw_p1 203 rfl) (by decide +kernel) (by decide) s0 rfl (by omega) (by omega) ?_
  refine yi_pr (pc := 10) (oc := 7) (k := 11) (fb := 0) (by decide +kernel) hq (by decide +kernel) (by decide +kernel) hs (by omega) ?_
  refine yi_al (pc := 13) (i := 0) (a := qq) (by decide +kernel) rfl ?_
  refine yi_ic (pc := 14) (z := 0) (x := 0) (by decide +kernel) (by decide +kernel) ?_
  refine yi_pi (pc := 15) (oc := 7) (k := 17) (fb := 1) (by decide +kernel) hq (by decide +kernel) (by decide +kernel) (by decide +kernel) hs (by omega) ?_
  refine yi_ic (pc := 18) (z := 0) (x := 0) (by decide +kernel) (by decide +kernel) ?_
  refine yi_is (pc := 19) (i := 1) (by decide +kernel) (by decide +kernel) ?_
  exact yc_Shelf_loop (d := d) (n0 := n) (M := (zm_si (zm_sr (yi_nw h n) qq 0 (some n)) qq 1 0)) hs s0 hqn hn hsh (by simp [zm_si, zm_sr]) hR 8 0 rfl
def yf_Latt (h : zm_M) (qq n : Nat) : zm_M := yf_lt (zm_si (zm_sr (yi_nw (zm_sr (yi_nw (zm_sr (yi_nw (zm_si (zm_sr (yi_nw (zm_sr (yi_nw (zm_sr (yi_nw (zm_sr (yi_nw h n) qq 0 (some n)) (n + 1)) qq 1 (some (n + 1))) (n + 2)) qq 2 (some (n + 2))) (n + 3)) qq 3 (some (n + 3))) qq 4 0) (n + 4)) qq 5 (some (n + 4))) (n + 5)) qq 6 (some (n + 5))) (n + 6)) qq 7 (some (n + 6))) qq 8 0) n 27
set_option maxHeartbeats 4000000 in
set_option maxRecDepth 100000 in
theorem yc_Latt {d qq n : Nat} {h : zm_M} {R : zm_M → Prop} (hs : (zm_sh TT qq).1 = 6) (hqn : qq < n) (hn : n + 7 ≤ 171) (s0 : zm_sh TT (n) = (0, 27)) (s1 : zm_sh TT (n + 1) = (0, 27)) (s2 : zm_sh TT (n + 2) = (0, 27)) (s3 : zm_sh TT (n + 3) = (0, 6)) (s4 : zm_sh TT (n + 4) = (0, 64)) (s5 : zm_sh TT (n + 5) = (0, 64)) (s6 : zm_sh TT (n + 6) = (0, 64)) (hR : R (yf_Latt h qq n)) : yi_C (d + 3) 43 n (n + 7) [.inr (some qq)] h R := by
  have hq : (zm_md 43).1.cls = zm_cn 3 := rfl
  refine yi_ent 4 (by decide +kernel) (by decide +kernel) (Nat.le_of_ble_eq_true rfl) (by omega) ?_
  show yi_W _ _ _ _ _ 0 [some (.inr (some qq)), none, none, none] [] _ _
  refine yi_al (pc := 0) (i := 0) (a := qq) (by decide +kernel) rfl ?_
  refine yi_ob (pc := 1) (oc := 3) (k := 3) (by decide +kernel) hq (zw_p2 26 rfl) (Nat.le_of_ble_eq_true rfl) ?_
  refine yi_al (pc := 4) (i := 0) (a := qq) (by decide +kernel) rfl ?_
  refine yi_bp (pc := 5) (z := 27) (x := 27) (by decide +kernel) (by decide +kernel) ?_
  refine yi_NA (pc := 7) (N := 27) (n' := n + 1) (by decide +kernel) (by decide +kernel) (by decide) s0 rfl (by omega) (by omega) ?_
  refine yi_pr (pc := 9) (oc := 3) (k := 9) (fb := 0) (by decide +kernel) hq (by decide +kernel) (by decide +kernel) hs (by omega) ?_
  refine yi_al (pc := 12) (i := 0) (a := qq) (by decide +kernel) rfl ?_
  refine yi_bp (pc := 13) (z := 27) (x := 27) (by decide +kernel) (by decide +kernel) ?_
  refine yi_NA (pc := 15) (N := 27) (n' := n + 2) (by decide +kernel) (by decide +kernel) (by decide) s1 rfl (by omega) (by omega) ?_
  refine yi_pr (pc := 17) (oc := 3) (k := 15) (fb := 1) (by decide +kernel) hq (by decide +kernel) (by decide +kernel) hs (by omega) ?_
  refine yi_al (pc := 20) (i := 0) (a := qq) (by decide +kernel) rfl ?_
  refine yi_bp (pc := 21) (z := 27) (x := 27) (by decide +kernel) (by decide +kernel) ?_
  refine yi_NA (pc := 23) (N := 27) (n' := n + 3) (by decide +kernel) (by decide +kernel) (by decide) s2 rfl (by omega) (by omega) ?_
  refine yi_pr (pc := 25) (oc := 3) (k := 18) (fb := 2) (by decide +kernel) hq (by decide +kernel) (by decide +kernel) hs (by omega) ?_
  refine yi_al (pc := 28) (i := 0) (a := qq) (by decide +kernel) rfl ?_
  refine yi_bp (pc := 29) (z := 6) (x := 6) (by decide +kernel) (by decide +kernel) ?_
  refine yi_NA (pc := 31) (N := 6) (n' := n + 4) (by decide +kernel) (by decide +kernel) (by decide) s3 rfl (by omega) (by omega) ?_
  refine yi_pr (pc := 33) (oc := 3) (k := 21) (fb := 3) (by decide +kernel) hq (by decide +kernel) (by decide +kernel) hs (by omega) ?_
  refine yi_al (pc := 36) (i := 0) (a := qq) (by decide +kernel) rfl ?_
  refine yi_ic (pc := 37) (z := 0) (x := 0) (by decide +kernel) (by decide +kernel) ?_
  refine yi_pi (pc := 38) (oc := 3) (k := 24) (fb := 4) (by decide +kernel) hq (by decide +kernel) (by decide +kernel) (by decide +kernel) hs (by omega) ?_
  refine yi_al (pc := 41) (i := 0) (a := qq) (by decide +kernel) rfl ?_
  refine yi_bp (pc := 42) (z := 64) (x := 64) (by decide +kernel) (by decide +kernel) ?_
  refine yi_NA (pc := 44) (N := 64) (n' := n + 5) (by decide +kernel) (by decide +kernel) (by decide) s4 rfl (by omega) (by omega) ?_
  refine yi_pr (pc := 46) (oc := 3) (k := 28) (fb := 5) (by decide +kernel) hq (by decide +kernel) (by decide +kernel) hs (by omega) ?_
  refine yi_al (pc := 49) (i := 0) (a := qq) (by decide +kernel) rfl ?_
  refine yi_bp (pc := 50) (z := 64) (x := 64) (by decide +kernel) (by decide +kernel) ?_
  refine yi_NA (pc := 52) (N := 64) (n' := n + 6) (by decide +kernel) (by decide +kernel) (by decide) s5 rfl (by omega) (by omega) ?_
  refine yi_pr (pc := 54) (oc := 3) (k := 31) (fb := 6) (by decide +kernel) hq (by decide +kernel) (by decide +kernel) hs (by omega) ?_
  refine yi_al (pc := 57) (i := 0) (a := qq) (by decide +kernel) rfl ?_
  refine yi_bp (pc := 58) (z := 64) (x := 64) (by decide +kernel) (by decide +kernel) ?_
  refine yi_NA (pc := 60) (N := 64) (n' := n + 7) (by decide +kernel) (by decide +kernel) (by decide) s6 rfl (by omega) (by omega) ?_
  refine yi_pr (pc := 62) (oc := 3) (k := 34) (fb := 7) (by decide +kernel) hq (by decide +kernel) (by decide +kernel) hs (by omega) ?_
  refine yi_al (pc := 65) (i := 0) (a := qq) (by decide +kernel) rfl ?_
  refine yi_ic (pc := 66) (z := 0) (x := 0) (by decide +kernel) (by decide +kernel) ?_
  refine yi_pi (pc := 67) (oc := 3) (k := 37) (fb := 8) (by decide +kernel) hq (by decide +kernel) (by decide +kernel) (by decide +kernel) hs (by omega) ?_
  refine yi_ic (pc := 70) (z := 0) (x := 0) (by decide +kernel) (by decide +kernel) ?_
  refine yi_is (pc := 71) (i := 1) (by decide +kernel) (by decide +kernel) ?_
  have h9 := yc_Latt_out (d := d) (qq := qq) (n := n) (n0 := n) (n1 := n + 7) (M := (zm_si (zm_sr (yi_nw (zm_sr (yi_nw (zm_sr (yi_nw (zm_si (zm_sr (yi_nw (zm_sr (yi_nw (zm_sr (yi_nw (zm_sr (yi_nw h n) qq 0 (some n)) (n + 1)) qq 1 (some (n + 1))) (n + 2)) qq 2 (some (n + 2))) (n + 3)) qq 3 (some (n + 3))) qq 4 0) (n + 4)) qq 5 (some (n + 4))) (n + 5)) qq 6 (some (n + 5))) (n + 6)) qq 7 (some (n + 6))) qq 8 0)) hs s1 (by omega) (by omega) (by omega) (by simp [zm_si, zm_sr, yi_nw]; omega) hR 27 0 rfl none none
  rw [yf_lt0] at h9
  exact h9
