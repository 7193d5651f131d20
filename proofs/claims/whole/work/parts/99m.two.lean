/-! the two constructors -/
def yf_KS (h : zm_M) : zm_M := (zm_si (zm_si (zm_si (zm_sr (yf_Shelf (yi_nw (zm_si (zm_sr (yf_Latt (yi_nw (zm_sr (yf_Table (yi_nw (zm_sr (yf_Table (yi_nw (zm_sr (yf_Table (yi_nw (zm_si (zm_sr (yf_Cut (yi_nw (zm_sr (yf_Shelf (yi_nw (zm_sr (yf_Facts (yi_nw (zm_sr (yf_Shape (yi_nw (zm_sr (yf_Law (yi_nw (zm_sr (yf_Form (yi_nw (zm_sr (yf_LawR (yi_nw (zm_sr (yf_Tape (yi_nw h 1) 1 2) 0 0 (some 1)) 3) 3 4 1) 0 1 (some 3)) 13) 13 14 1) 0 2 (some 13)) 19) 19 20) 0 3 (some 19)) 28) 28 29) 0 4 (some 28)) 30) 30 31) 0 5 (some 30)) 36) 36 37) 0 6 (some 36)) 70) 70 71) 0 7 (some 70)) 0 8 0) 73) 73 74) 0 9 (some 73)) 79) 79 80) 0 10 (some 79)) 85) 85 86) 0 11 (some 85)) 91) 91 92) 0 12 (some 91)) 0 13 1) 99) 99 100) 0 14 (some 99)) 0 15 (-1)) 0 16 1) 0 17 0)
set_option maxHeartbeats 4000000 in
set_option maxRecDepth 100000 in
theorem yc_KS {d : Nat} {h : zm_M} {R : zm_M → Prop} (hR : R (yf_KS h)) : yi_C (d + 4) 127 1 133 [.inr (some 0)] h R := by
  have hs : (zm_sh TT 0).1 = 14 := by decide +kernel
  have hq : (zm_md 127).1.cls = zm_cn 11 := rfl
  refine yi_ent 1 (by decide +kernel) (by decide +kernel) (Nat.le_of_ble_eq_true rfl) (by omega) ?_
  show yi_W _ _ _ _ _ 0 [some (.inr (some 0))] [] _ _
  refine yi_al (pc := 0) (i := 0) (a := 0) (by decide +kernel) rfl ?_
  refine yi_ob (pc := 1) (oc := 11) (k := 1) (by decide +kernel) hq (zw_p1 23 rfl) (Nat.le_of_ble_eq_true rfl) ?_
  refine yi_al (pc := 4) (i := 0) (a := 0) (by decide +kernel) rfl ?_
  refine yi_NE (pc := 5) (oc := 11) (k := 7) (c2 := 10) (n' := 2) (by decide +kernel) hq (zw_p1 26 rfl) (zw_p1 27 rfl) (zw_p1 2 rfl) (by decide) (by decide +kernel) rfl (by omega) (by omega) ?_
  refine yi_dup (pc := 8) (by decide +kernel) ?_
  refine yi_ca (pc := 9) (oc := 11) (k := 9) (j := 114) (n' := 3) (qq := 1) [] (by decide +kernel) hq (by decide +kernel) rfl (Nat.le_of_ble_eq_true rfl) (by omega) (by omega) (by omega) ?_
  refine yc_Tape (by decide +kernel) (by omega) (by omega) (by decide +kernel) ?_
  refine yi_pr (pc := 12) (oc := 11) (k := 10) (fb := 0) (by decide +kernel) hq (by decide +kernel) (by decide +kernel) hs (by omega) ?_
  refine yi_al (pc := 15) (i := 0) (a := 0) (by decide +kernel) rfl ?_
  refine yi_NE (pc := 16) (oc := 11) (k := 16) (c2 := 5) (n' := 4) (by decide +kernel) hq (zw_p1 55 rfl) (zw_p1 56 rfl) (zw_p1 3 rfl) (by decide) (by decide +kernel) rfl (by omega) (by omega) ?_
  refine yi_dup (pc := 19) (by decide +kernel) ?_
  refine yi_al (pc := 20) (i := 0) (a := 0) (by decide +kernel) rfl ?_
  refine yi_gf (pc := 21) (oc := 11) (k := 10) (fb := 0) (y := 1) (by decide +kernel) hq (by decide +kernel) (by decide +kernel) hs (by omega) (by rfl) ?_
  refine yi_ca (pc := 24) (oc := 11) (k := 18) (j := 75) (n' := 13) (qq := 3) [.inr (some 1)] (by decide +kernel) hq (by decide +kernel) rfl (Nat.le_of_ble_eq_true rfl) (by omega) (by omega) (by omega) ?_
  refine yc_LawR (by decide +kernel) (by omega) (by omega) (by decide +kernel) (by decide +kernel) (by decide +kernel) (by decide +kernel) (by decide +kernel) (by decide +kernel) (by decide +kernel) (by decide +kernel) (by decide +kernel) ?_
  refine yi_pr (pc := 27) (oc := 11) (k := 21) (fb := 1) (by decide +kernel) hq (by decide +kernel) (by decide +kernel) hs (by omega) ?_
  refine yi_al (pc := 30) (i := 0) (a := 0) (by decide +kernel) rfl ?_
  refine yi_NE (pc := 31) (oc := 11) (k := 25) (c2 := 2) (n' := 14) (by decide +kernel) hq (zw_p1 114 rfl) (zw_p1 115 rfl) (zw_p1 5 rfl) (by decide) (by decide +kernel) rfl (by omega) (by omega) ?_
  refine yi_dup (pc := 34) (by decide +kernel) ?_
  refine yi_al (pc := 35) (i := 0) (a := 0) (by decide +kernel) rfl ?_
  refine yi_gf (pc := 36) (oc := 11) (k := 10) (fb := 0) (y := 1) (by decide +kernel) hq (by decide +kernel) (by decide +kernel) hs (by omega) (by rfl) ?_
  refine yi_ca (pc := 39) (oc := 11) (k := 27) (j := 30) (n' := 19) (qq := 13) [.inr (some 1)] (by decide +kernel) hq (by decide +kernel) rfl (Nat.le_of_ble_eq_true rfl) (by omega) (by omega) (by omega) ?_
  refine yc_Form (by decide +kernel) (by omega) (by omega) (by decide +kernel) (by decide +kernel) (by decide +kernel) (by decide +kernel) (by decide +kernel) ?_
  refine yi_pr (pc := 42) (oc := 11) (k := 28) (fb := 2) (by decide +kernel) hq (by decide +kernel) (by decide +kernel) hs (by omega) ?_
  refine yi_al (pc := 45) (i := 0) (a := 0) (by decide +kernel) rfl ?_
  refine yi_NE (pc := 46) (oc := 11) (k := 32) (c2 := 4) (n' := 20) (by decide +kernel) hq (zw_p1 166 rfl) (zw_p1 62 rfl) (zw_p1 4 rfl) (by decide) (by decide +kernel) rfl (by omega) (by omega) ?_
  refine yi_dup (pc := 49) (by decide +kernel) ?_
  refine yi_ca (pc := 50) (oc := 11) (k := 34) (j := 57) (n' := 28) (qq := 19) [] (by decide +kernel) hq (by decide +kernel) rfl (Nat.le_of_ble_eq_true rfl) (by omega) (by omega) (by omega) ?_
  refine yc_Law (by decide +kernel) (by omega) (by omega) (by decide +kernel) (by decide +kernel) (by decide +kernel) (by decide +kernel) (by decide +kernel) (by decide +kernel) (by decide +kernel) (by decide +kernel) ?_
  refine yi_pr (pc := 53) (oc := 11) (k := 35) (fb := 3) (by decide +kernel) hq (by decide +kernel) (by decide +kernel) hs (by omega) ?_
  refine yi_al (pc := 56) (i := 0) (a := 0) (by decide +kernel) rfl ?_
  refine yi_NE (pc := 57) (oc := 11) (k := 39) (c2 := 6) (n' := 29) (by decide +kernel) hq (zw_p1 168 rfl) (zw_p1 121 rfl) (zw_p1 6 rfl) (by decide) (by decide +kernel) rfl (by omega) (by omega) ?_
  refine yi_dup (pc := 60) (by decide +kernel) ?_
  refine yi_ca (pc := 61) (oc := 11) (k := 41) (j := 85) (n' := 30) (qq := 28) [] (by decide +kernel) hq (by decide +kernel) rfl (Nat.le_of_ble_eq_true rfl) (by omega) (by omega) (by omega) ?_
  refine yc_Shape (by decide +kernel) (by omega) (by omega) (by decide +kernel) ?_
  refine yi_pr (pc := 64) (oc := 11) (k := 42) (fb := 4) (by decide +kernel) hq (by decide +kernel) (by decide +kernel) hs (by omega) ?_
  refine yi_al (pc := 67) (i := 0) (a := 0) (by decide +kernel) rfl ?_
  refine yi_NE (pc := 68) (oc := 11) (k := 46) (c2 := 1) (n' := 31) (by decide +kernel) hq (zw_p1 170 rfl) (zw_p1 171 rfl) (zw_p1 8 rfl) (by decide) (by decide +kernel) rfl (by omega) (by omega) ?_
  refine yi_dup (pc := 71) (by decide +kernel) ?_
  refine yi_ca (pc := 72) (oc := 11) (k := 48) (j := 17) (n' := 36) (qq := 30) [] (by decide +kernel) hq (by decide +kernel) rfl (Nat.le_of_ble_eq_true rfl) (by omega) (by omega) (by omega) ?_
  refine yc_Facts (by decide +kernel) (by omega) (by omega) (by decide +kernel) (by decide +kernel) (by decide +kernel) (by decide +kernel) (by decide +kernel) ?_
  refine yi_pr (pc := 75) (oc := 11) (k := 49) (fb := 5) (by decide +kernel) hq (by decide +kernel) (by decide +kernel) hs (by omega) ?_
  refine yi_al (pc := 78) (i := 0) (a := 0) (by decide +kernel) rfl ?_
  refine yi_NE (pc := 79) (oc := 11) (k := 53) (c2 := 7) (n' := 37) (by decide +kernel) hq (zw_p1 197 rfl) (zw_p1 198 rfl) (zw_p1 9 rfl) (by decide) (by decide +kernel) rfl (by omega) (by omega) ?_
  refine yi_dup (pc := 82) (by decide +kernel) ?_
  refine yi_ca (pc := 83) (oc := 11) (k := 55) (j := 92) (n' := 70) (qq := 36) [] (by decide +kernel) hq (by decide +kernel) rfl (Nat.le_of_ble_eq_true rfl) (by omega) (by omega) (by omega) ?_
  refine yc_Shelf (by decide +kernel) (by omega) (by omega) (by decide +kernel) (by decide +kernel) ?_
  refine yi_pr (pc := 86) (oc := 11) (k := 56) (fb := 6) (by decide +kernel) hq (by decide +kernel) (by decide +kernel) hs (by omega) ?_
  refine yi_al (pc := 89) (i := 0) (a := 0) (by decide +kernel) rfl ?_
  refine yi_NE (pc := 90) (oc := 11) (k := 60) (c2 := 0) (n' := 71) (by decide +kernel) hq (zw_p1 233 rfl) (zw_p1 131 rfl) (zw_p1 7 rfl) (by decide) (by decide +kernel) rfl (by omega) (by omega) ?_
  refine yi_dup (pc := 93) (by decide +kernel) ?_
  refine yi_ca (pc := 94) (oc := 11) (k := 62) (j := 0) (n' := 73) (qq := 70) [] (by decide +kernel) hq (by decide +kernel) rfl (Nat.le_of_ble_eq_true rfl) (by omega) (by omega) (by omega) ?_
  refine yc_Cut (by decide +kernel) (by omega) (by omega) (by decide +kernel) (by decide +kernel) ?_
  refine yi_pr (pc := 97) (oc := 11) (k := 63) (fb := 7) (by decide +kernel) hq (by decide +kernel) (by decide +kernel) hs (by omega) ?_
  refine yi_al (pc := 100) (i := 0) (a := 0) (by decide +kernel) rfl ?_
  refine yi_ic (pc := 101) (z := 0) (x := 0) (by decide +kernel) (by decide +kernel) ?_
  refine yi_pi (pc := 102) (oc := 11) (k := 67) (fb := 8) (by decide +kernel) hq (by decide +kernel) (by decide +kernel) (by decide +kernel) hs (by omega) ?_
  refine yi_al (pc := 105) (i := 0) (a := 0) (by decide +kernel) rfl ?_
  refine yi_NE (pc := 106) (oc := 11) (k := 71) (c2 := 9) (n' := 74) (by decide +kernel) hq (zw_p1 235 rfl) (zw_p1 236 rfl) (zw_p1 11 rfl) (by decide) (by decide +kernel) rfl (by omega) (by omega) ?_
  refine yi_dup (pc := 109) (by decide +kernel) ?_
  refine yi_ca (pc := 110) (oc := 11) (k := 73) (j := 99) (n' := 79) (qq := 73) [] (by decide +kernel) hq (by decide +kernel) rfl (Nat.le_of_ble_eq_true rfl) (by omega) (by omega) (by omega) ?_
  refine yc_Table (by decide +kernel) (by omega) (by omega) (by decide +kernel) (by decide +kernel) (by decide +kernel) (by decide +kernel) (by decide +kernel) ?_
  refine yi_pr (pc := 113) (oc := 11) (k := 74) (fb := 9) (by decide +kernel) hq (by decide +kernel) (by decide +kernel) hs (by omega) ?_
  refine yi_al (pc := 116) (i := 0) (a := 0) (by decide +kernel) rfl ?_
  refine yi_NE (pc := 117) (oc := 11) (k := 71) (c2 := 9) (n' := 80) (by decide +kernel) hq (zw_p1 235 rfl) (zw_p1 236 rfl) (zw_p1 11 rfl) (by decide) (by decide +kernel) rfl (by omega) (by omega) ?_
  refine yi_dup (pc := 120) (by decide +kernel) ?_
  refine yi_ca (pc := 121) (oc := 11) (k := 73) (j := 99) (n' := 85) (qq := 79) [] (by decide +kernel) hq (by decide +kernel) rfl (Nat.le_of_ble_eq_true rfl) (by omega) (by omega) (by omega) ?_
  refine yc_Table (by decide +kernel) (by omega) (by omega) (by decide +kernel) (by decide +kernel) (by decide +kernel) (by decide +kernel) (by decide +kernel) ?_
  refine yi_pr (pc := 124) (oc := 11) (k := 78) (fb := 10) (by decide +kernel) hq (by decide +kernel) (by decide +kernel) hs (by omega) ?_
  refine yi_al (pc := 127) (i := 0) (a := 0) (by decide +kernel) rfl ?_
  refine yi_NE (pc := 128) (oc := 11) (k := 71) (c2 := 9) (n' := 86) (by decide +kernel) hq (zw_p1 235 rfl) (zw_p1 236 rfl) (zw_p1 11 rfl) (by decide) (by decide +kernel) rfl (by omega) (by omega) ?_
  refine yi_dup (pc := 131) (by decide +kernel) ?_
  refine yi_ca (pc := 132) (oc := 11) (k := 73) (j := 99) (n' := 91) (qq := 85) [] (by decide +kernel) hq (by decide +kernel) rfl (Nat.le_of_ble_eq_true rfl) (by omega) (by omega) (by omega) ?_
  refine yc_Table (by decide +kernel) (by omega) (by omega) (by decide +kernel) (by decide +kernel) (by decide +kernel) (by decide +kernel) (by decide +kernel) ?_
  refine yi_pr (pc := 135) (oc := 11) (k := 81) (fb := 11) (by decide +kernel) hq (by decide +kernel) (by decide +kernel) hs (by omega) ?_
  refine yi_al (pc := 138) (i := 0) (a := 0) (by decide +kernel) rfl ?_
  refine yi_NE (pc := 139) (oc := 11) (k := 84) (c2 := 3) (n' := 92) (by decide +kernel) hq (zw_p2 21 rfl) (zw_p2 22 rfl) (zw_p1 12 rfl) (by decide) (by decide +kernel) rfl (by omega) (by omega) ?_
  refine yi_dup (pc := 142) (by decide +kernel) ?_
  refine yi_ca (pc := 143) (oc := 11) (k := 86) (j := 43) (n' := 99) (qq := 91) [] (by decide +kernel) hq (by decide +kernel) rfl (Nat.le_of_ble_eq_true rfl) (by omega) (by omega) (by omega) ?_
  refine yc_Latt (by decide +kernel) (by omega) (by omega) (by decide +kernel) (by decide +kernel) (by decide +kernel) (by decide +kernel) (by decide +kernel) (by decide +kernel) (by decide +kernel) ?_
  refine yi_pr (pc := 146) (oc := 11) (k := 87) (fb := 12) (by decide +kernel) hq (by decide +kernel) (by decide +kernel) hs (by omega) ?_
  refine yi_al (pc := 149) (i := 0) (a := 0) (by decide +kernel) rfl ?_
  refine yi_ic (pc := 150) (z := 1) (x := 1) (by decide +kernel) (by decide +kernel) ?_
  refine yi_pi (pc := 151) (oc := 11) (k := 91) (fb := 13) (by decide +kernel) hq (by decide +kernel) (by decide +kernel) (by decide +kernel) hs (by omega) ?_
  refine yi_al (pc := 154) (i := 0) (a := 0) (by decide +kernel) rfl ?_
  refine yi_NE (pc := 155) (oc := 11) (k := 53) (c2 := 7) (n' := 100) (by decide +kernel) hq (zw_p1 197 rfl) (zw_p1 198 rfl) (zw_p1 9 rfl) (by decide) (by decide +kernel) rfl (by omega) (by omega) ?_
  refine yi_dup (pc := 158) (by decide +kernel) ?_
  refine yi_ca (pc := 159) (oc := 11) (k := 55) (j := 92) (n' := 133) (qq := 99) [] (by decide +kernel) hq (by decide +kernel) rfl (Nat.le_of_ble_eq_true rfl) (by omega) (by omega) (by omega) ?_
  refine yc_Shelf (by decide +kernel) (by omega) (by omega) (by decide +kernel) (by decide +kernel) ?_
  refine yi_pr (pc := 162) (oc := 11) (k := 95) (fb := 14) (by decide +kernel) hq (by decide +kernel) (by decide +kernel) hs (by omega) ?_
  refine yi_al (pc := 165) (i := 0) (a := 0) (by decide +kernel) rfl ?_
  refine yi_ic (pc := 166) (z := -1) (x := (-1)) (by decide +kernel) (by decide +kernel) ?_
  refine yi_pi (pc := 167) (oc := 11) (k := 98) (fb := 15) (by decide +kernel) hq (by decide +kernel) (by decide +kernel) (by decide +kernel) hs (by omega) ?_
  refine yi_al (pc := 170) (i := 0) (a := 0) (by decide +kernel) rfl ?_
  refine yi_ic (pc := 171) (z := 1) (x := 1) (by decide +kernel) (by decide +kernel) ?_
  refine yi_pi (pc := 172) (oc := 11) (k := 101) (fb := 16) (by decide +kernel) hq (by decide +kernel) (by decide +kernel) (by decide +kernel) hs (by omega) ?_
  refine yi_al (pc := 175) (i := 0) (a := 0) (by decide +kernel) rfl ?_
  refine yi_ic (pc := 176) (z := 0) (x := 0) (by decide +kernel) (by decide +kernel) ?_
  refine yi_pi (pc := 177) (oc := 11) (k := 104) (fb := 17) (by decide +kernel) hq (by decide +kernel) (by decide +kernel) (by decide +kernel) hs (by omega) ?_
  exact yi_ret (by decide +kernel) (by decide +kernel) hR
set_option maxHeartbeats 4000000 in
set_option maxRecDepth 100000 in
theorem yc_Mo_loop {d qq n n0 n1 : Nat} {R : zm_M → Prop} {M : zm_M} (hs : (zm_sh TT qq).1 = 15) (hsn : zm_sh TT n = (0, 24)) (hqn : qq < n1) (hnn : n < n1) (hM : M.2 qq 6 = some n) (hR : R (yf_sh M n 24)) : ∀ k i, i + k = 24 → yi_W (zm_md 180) d n0 n1 R 325 [some (.inr (some qq)), some (.inl (nI i))] [] n1 (yf_sh M n i) := by
  have hq : (zm_md 180).1.cls = zm_cn 12 := rfl
  intro k
  induction k with
  | zero =>
    intro i hi
    have hi : i = 24 := by omega
    subst hi
    refine yi_il (pc := 325) (i := 1) (x := nI 24) (by decide +kernel) rfl ?_
    refine yi_bp (pc := 326) (z := 24) (x := 24) (by decide +kernel) (by decide +kernel) ?_
    refine yi_ge (pc := 328) (o := 21) (t := 349) (by decide +kernel) (by decide) (fun _ => ?_) (fun z => absurd (by decide) z)
    exact yi_ret (by decide +kernel) (by decide +kernel) hR
  | succ k ih =>
    intro i hi
    refine yi_il (pc := 325) (i := 1) (x := nI i) (by decide +kernel) rfl ?_
    refine yi_bp (pc := 326) (z := 24) (x := 24) (by decide +kernel) (by decide +kernel) ?_
    refine yi_ge (pc := 328) (o := 21) (t := 349) (by decide +kernel) (by decide) (fun z => absurd z (nI_ge (b := 24) (by omega) (by decide))) (fun _ => ?_)
    refine yi_al (pc := 331) (i := 0) (a := qq) (by decide +kernel) rfl ?_
    refine yi_gf (pc := 332) (oc := 12) (k := 16) (fb := 6) (y := n) (by decide +kernel) hq (by decide +kernel) (by decide +kernel) hs (by omega) hM ?_
    refine yi_il (pc := 335) (i := 1) (x := nI i) (by decide +kernel) rfl ?_
    refine yi_il (pc := 336) (i := 1) (x := nI i) (by decide +kernel) rfl ?_
    refine yi_bp (pc := 337) (z := 8) (x := 8) (by decide +kernel) (by decide +kernel) ?_
    refine yi_irem (pc := 339) (by decide +kernel) (by decide) ?_
    refine yi_ic (pc := 340) (z := 2) (x := 2) (by decide +kernel) (by decide +kernel) ?_
    refine yi_idiv (pc := 341) (by decide +kernel) (by decide) ?_
    refine yi_ia (pc := 342) (N := 24) (by decide +kernel) hsn hnn (vp_in_nI (by omega) (by decide)) ?_
    rw [nI_clamp (by omega), yi_r8 i (by omega), yf_shS]
    refine yi_ii (pc := 343) (i := 1) (z := 1) (x := nI i) (y := nI (i + 1)) (by decide +kernel) (by decide +kernel) rfl (yi_s1 i) ?_
    refine yi_go (pc := 346) (o := -21) (t := 325) (by decide +kernel) (by decide) ?_
    exact ih (i + 1) (by omega)
def yf_MoA (h : zm_M) : zm_M := (zm_si (zm_sr (yi_nw (zm_sr (yi_nw (zm_sr (yi_nw (zm_sr (yi_nw (zm_sr (yi_nw (zm_sr (yi_nw (zm_sr (yi_nw (zm_sr (yi_nw (zm_sr (yi_nw (zm_sr (yi_nw (zm_sr (yi_nw (zm_sr (yi_nw (zm_sr (yi_nw (zm_sr (yi_nw (zm_sr (yi_nw (zm_sr (yi_nw (zm_sr (yi_nw (zm_sr (yi_nw (zm_sr (yi_nw (zm_sr (yi_nw (zm_sr (yi_nw (zm_sr (yi_nw (zm_sr (yi_nw (zm_sr (yi_nw (zm_sr (yi_nw (zm_sr (yi_nw (zm_sr (yi_nw (zm_sr (yi_nw (zm_sr (yi_nw (zm_sr (yi_nw (zm_sr (yi_nw (zm_sr (yi_nw (zm_sr (yi_nw (zm_sr (yi_nw (zm_sr (yi_nw (zm_sr (yi_nw (zm_sr (yi_nw h 134) 133 4 (some 134)) 135) 133 5 (some 135)) 136) 133 6 (some 136)) 137) 133 7 (some 137)) 138) 133 18 (some 138)) 139) 133 19 (some 139)) 140) 133 20 (some 140)) 141) 133 21 (some 141)) 142) 133 22 (some 142)) 143) 133 23 (some 143)) 144) 133 24 (some 144)) 145) 133 25 (some 145)) 146) 133 26 (some 146)) 147) 133 27 (some 147)) 148) 133 28 (some 148)) 149) 133 29 (some 149)) 150) 133 30 (some 150)) 151) 133 31 (some 151)) 152) 133 34 (some 152)) 153) 133 35 (some 153)) 154) 133 37 (some 154)) 155) 133 38 (some 155)) 156) 133 39 (some 156)) 157) 133 40 (some 157)) 158) 133 42 (some 158)) 159) 133 43 (some 159)) 160) 133 44 (some 160)) 161) 133 45 (some 161)) 162) 133 46 (some 162)) 163) 133 47 (some 163)) 164) 133 48 (some 164)) 165) 133 49 (some 165)) 166) 133 50 (some 166)) 167) 133 51 (some 167)) 168) 133 52 (some 168)) 169) 133 58 (some 169)) 170) 133 59 (some 170)) 133 0 1)
def yf_Mo (h : zm_M) : zm_M := yf_sh (yf_MoA h) 136 24
set_option maxHeartbeats 4000000 in
set_option maxRecDepth 100000 in
theorem yc_Mo {d : Nat} {h : zm_M} {R : zm_M → Prop} (hR : R (yf_Mo h)) : yi_C (d) 180 134 171 [.inr (some 133)] h R := by
  have hs : (zm_sh TT 133).1 = 15 := by decide +kernel
  have hq : (zm_md 180).1.cls = zm_cn 12 := rfl
  refine yi_ent 2 (by decide +kernel) (by decide +kernel) (Nat.le_of_ble_eq_true rfl) (by omega) ?_
  show yi_W _ _ _ _ _ 0 [some (.inr (some 133)), none] [] _ _
  refine yi_al (pc := 0) (i := 0) (a := 133) (by decide +kernel) rfl ?_
  refine yi_ob (pc := 1) (oc := 12) (k := 1) (by decide +kernel) hq (zw_p5 118 rfl) (Nat.le_of_ble_eq_true rfl) ?_
  refine yi_al (pc := 4) (i := 0) (a := 133) (by decide +kernel) rfl ?_
  refine yi_sp (pc := 5) (z := 960) (x := 960) (by decide +kernel) (by decide +kernel) ?_
  refine yi_NA (pc := 8) (N := 960) (n' := 135) (by decide +kernel) (by decide +kernel) (by decide) (by decide +kernel) rfl (by omega) (by omega) ?_
  refine yi_pr (pc := 10) (oc := 12) (k := 7) (fb := 4) (by decide +kernel) hq (by decide +kernel) (by decide +kernel) hs (by omega) ?_
  refine yi_al (pc := 13) (i := 0) (a := 133) (by decide +kernel) rfl ?_
  refine yi_bp (pc := 14) (z := 64) (x := 64) (by decide +kernel) (by decide +kernel) ?_
  refine yi_NA (pc := 16) (N := 64) (n' := 136) (by decide +kernel) (by decide +kernel) (by decide) (by decide +kernel) rfl (by omega) (by omega) ?_
  refine yi_pr (pc := 18) (oc := 12) (k := 13) (fb := 5) (by decide +kernel) hq (by decide +kernel) (by decide +kernel) hs (by omega) ?_
  refine yi_al (pc := 21) (i := 0) (a := 133) (by decide +kernel) rfl ?_
  refine yi_bp (pc := 22) (z := 24) (x := 24) (by decide +kernel) (by decide +kernel) ?_
  refine yi_NA (pc := 24) (N := 24) (n' := 137) (by decide +kernel) (by decide +kernel) (by decide) (by decide +kernel) rfl (by omega) (by omega) ?_
  refine yi_pr (pc := 26) (oc := 12) (k := 16) (fb := 6) (by decide +kernel) hq (by decide +kernel) (by decide +kernel) hs (by omega) ?_
  refine yi_al (pc := 29) (i := 0) (a := 133) (by decide +kernel) rfl ?_
  refine yi_sp (pc := 30) (z := 260) (x := 260) (by decide +kernel) (by decide +kernel) ?_
  refine yi_NB (pc := 33) (N := 260) (n' := 138) (by decide +kernel) (by decide +kernel) (by decide) (by decide +kernel) rfl (by omega) (by omega) ?_
  refine yi_pr (pc := 35) (oc := 12) (k := 19) (fb := 7) (by decide +kernel) hq (by decide +kernel) (by decide +kernel) hs (by omega) ?_
  refine yi_al (pc := 38) (i := 0) (a := 133) (by decide +kernel) rfl ?_
  refine yi_sp (pc := 39) (z := 260) (x := 260) (by decide +kernel) (by decide +kernel) ?_
  refine yi_NA (pc := 42) (N := 260) (n' := 139) (by decide +kernel) (by decide +kernel) (by decide) (by decide +kernel) rfl (by omega) (by omega) ?_
  refine yi_pr (pc := 44) (oc := 12) (k := 23) (fb := 18) (by decide +kernel) hq (by decide +kernel) (by decide +kernel) hs (by omega) ?_
  refine yi_al (pc := 47) (i := 0) (a := 133) (by decide +kernel) rfl ?_
  refine yi_sp (pc := 48) (z := 260) (x := 260) (by decide +kernel) (by decide +kernel) ?_
  refine yi_NA (pc := 51) (N := 260) (n' := 140) (by decide +kernel) (by decide +kernel) (by decide) (by decide +kernel) rfl (by omega) (by omega) ?_
  refine yi_pr (pc := 53) (oc := 12) (k := 26) (fb := 19) (by decide +kernel) hq (by decide +kernel) (by decide +kernel) hs (by omega) ?_
  refine yi_al (pc := 56) (i := 0) (a := 133) (by decide +kernel) rfl ?_
  refine yi_bp (pc := 57) (z := 16) (x := 16) (by decide +kernel) (by decide +kernel) ?_
  refine yi_NA (pc := 59) (N := 16) (n' := 141) (by decide +kernel) (by decide +kernel) (by decide) (by decide +kernel) rfl (by omega) (by omega) ?_
  refine yi_pr (pc := 61) (oc := 12) (k := 29) (fb := 20) (by decide +kernel) hq (by decide +kernel) (by decide +kernel) hs (by omega) ?_
  refine yi_al (pc := 64) (i := 0) (a := 133) (by decide +kernel) rfl ?_
  refine yi_bp (pc := 65) (z := 16) (x := 16) (by decide +kernel) (by decide +kernel) ?_
  refine yi_NA (pc := 67) (N := 16) (n' := 142) (by decide +kernel) (by decide +kernel) (by decide) (by decide +kernel) rfl (by omega) (by omega) ?_
  refine yi_pr (pc := 69) (oc := 12) (k := 32) (fb := 21) (by decide +kernel) hq (by decide +kernel) (by decide +kernel) hs (by omega) ?_
  refine yi_al (pc := 72) (i := 0) (a := 133) (by decide +kernel) rfl ?_
  refine yi_bp (pc := 73) (z := 16) (x := 16) (by decide +kernel) (by decide +kernel) ?_
  refine yi_NA (pc := 75) (N := 16) (n' := 143) (by decide +kernel) (by decide +kernel) (by decide) (by decide +kernel) rfl (by omega) (by omega) ?_
  refine yi_pr (pc := 77) (oc := 12) (k := 35) (fb := 22) (by decide +kernel) hq (by decide +kernel) (by decide +kernel) hs (by omega) ?_
  refine yi_al (pc := 80) (i := 0) (a := 133) (by decide +kernel) rfl ?_
  refine yi_bp (pc := 81) (z := 16) (x := 16) (by decide +kernel) (by decide +kernel) ?_
  refine yi_NA (pc := 83) (N := 16) (n' := 144) (by decide +kernel) (by decide +kernel) (by decide) (by decide +kernel) rfl (by omega) (by omega) ?_
  refine yi_pr (pc := 85) (oc := 12) (k := 38) (fb := 23) (by decide +kernel) hq (by decide +kernel) (by decide +kernel) hs (by omega) ?_
  refine yi_al (pc := 88) (i := 0) (a := 133) (by decide +kernel) rfl ?_
  refine yi_sp (pc := 89) (z := 260) (x := 260) (by decide +kernel) (by decide +kernel) ?_
  refine yi_NA (pc := 92) (N := 260) (n' := 145) (by decide +kernel) (by decide +kernel) (by decide) (by decide +kernel) rfl (by omega) (by omega) ?_
  refine yi_pr (pc := 94) (oc := 12) (k := 41) (fb := 24) (by decide +kernel) hq (by decide +kernel) (by decide +kernel) hs (by omega) ?_
  refine yi_al (pc := 97) (i := 0) (a := 133) (by decide +kernel) rfl ?_
  refine yi_bp (pc := 98) (z := 16) (x := 16) (by decide +kernel) (by decide +kernel) ?_
  refine yi_NA (pc := 100) (N := 16) (n' := 146) (by decide +kernel) (by decide +kernel) (by decide) (by decide +kernel) rfl (by omega) (by omega) ?_
  refine yi_pr (pc := 102) (oc := 12) (k := 44) (fb := 25) (by decide +kernel) hq (by decide +kernel) (by decide +kernel) hs (by omega) ?_
  refine yi_al (pc := 105) (i := 0) (a := 133) (by decide +kernel) rfl ?_
  refine yi_bp (pc := 106) (z := 16) (x := 16) (by decide +kernel) (by decide +kernel) ?_
  refine yi_NA (pc := 108) (N := 16) (n' := 147) (by decide +kernel) (by decide +kernel) (by decide) (by decide +kernel) rfl (by omega) (by omega) ?_
  refine yi_pr (pc := 110) (oc := 12) (k := 47) (fb := 26) (by decide +kernel) hq (by decide +kernel) (by decide +kernel) hs (by omega) ?_
  refine yi_al (pc := 113) (i := 0) (a := 133) (by decide +kernel) rfl ?_
  refine yi_bp (pc := 114) (z := 16) (x := 16) (by decide +kernel) (by decide +kernel) ?_
  refine yi_NA (pc := 116) (N := 16) (n' := 148) (by decide +kernel) (by decide +kernel) (by decide) (by decide +kernel) rfl (by omega) (by omega) ?_
  refine yi_pr (pc := 118) (oc := 12) (k := 50) (fb := 27) (by decide +kernel) hq (by decide +kernel) (by decide +kernel) hs (by omega) ?_
  refine yi_al (pc := 121) (i := 0) (a := 133) (by decide +kernel) rfl ?_
  refine yi_bp (pc := 122) (z := 16) (x := 16) (by decide +kernel) (by decide +kernel) ?_
  refine yi_NA (pc := 124) (N := 16) (n' := 149) (by decide +kernel) (by decide +kernel) (by decide) (by decide +kernel) rfl (by omega) (by omega) ?_
  refine yi_pr (pc := 126) (oc := 12) (k := 53) (fb := 28) (by decide +kernel) hq (by decide +kernel) (by decide +kernel) hs (by omega) ?_
  refine yi_al (pc := 129) (i := 0) (a := 133) (by decide +kernel) rfl ?_
  refine yi_sp (pc := 130) (z := 260) (x := 260) (by decide +kernel) (by decide +kernel) ?_
  refine yi_NA (pc := 133) (N := 260) (n' := 150) (by decide +kernel) (by decide +kernel) (by decide) (by decide +kernel) rfl (by omega) (by omega) ?_
  refine yi_pr (pc := 135) (oc := 12) (k := 56) (fb := 29) (by decide +kernel) hq (by decide +kernel) (by decide +kernel) hs (by omega) ?_
  refine yi_al (pc := 138) (i := 0) (a := 133) (by decide +kernel) rfl ?_
  refine yi_bp (pc := 139) (z := 7) (x := 7) (by decide +kernel) (by decide +kernel) ?_
  refine yi_NA (pc := 141) (N := 7) (n' := 151) (by decide +kernel) (by decide +kernel) (by decide) (by decide +kernel) rfl (by omega) (by omega) ?_
  refine yi_pr (pc := 143) (oc := 12) (k := 59) (fb := 30) (by decide +kernel) hq (by decide +kernel) (by decide +kernel) hs (by omega) ?_
  refine yi_al (pc := 146) (i := 0) (a := 133) (by decide +kernel) rfl ?_
  refine yi_bp (pc := 147) (z := 24) (x := 24) (by decide +kernel) (by decide +kernel) ?_
  refine yi_NA (pc := 149) (N := 24) (n' := 152) (by decide +kernel) (by decide +kernel) (by decide) (by decide +kernel) rfl (by omega) (by omega) ?_
  refine yi_pr (pc := 151) (oc := 12) (k := 62) (fb := 31) (by decide +kernel) hq (by decide +kernel) (by decide +kernel) hs (by omega) ?_
  refine yi_al (pc := 154) (i := 0) (a := 133) (by decide +kernel) rfl ?_
  refine yi_bp (pc := 155) (z := 8) (x := 8) (by decide +kernel) (by decide +kernel) ?_
  refine yi_NA (pc := 157) (N := 8) (n' := 153) (by decide +kernel) (by decide +kernel) (by decide) (by decide +kernel) rfl (by omega) (by omega) ?_
  refine yi_pr (pc := 159) (oc := 12) (k := 65) (fb := 34) (by decide +kernel) hq (by decide +kernel) (by decide +kernel) hs (by omega) ?_
  refine yi_al (pc := 162) (i := 0) (a := 133) (by decide +kernel) rfl ?_
  refine yi_bp (pc := 163) (z := 7) (x := 7) (by decide +kernel) (by decide +kernel) ?_
  refine yi_NA (pc := 165) (N := 7) (n' := 154) (by decide +kernel) (by decide +kernel) (by decide) (by decide +kernel) rfl (by omega) (by omega) ?_
  refine yi_pr (pc := 167) (oc := 12) (k := 68) (fb := 35) (by decide +kernel) hq (by decide +kernel) (by decide +kernel) hs (by omega) ?_
  refine yi_al (pc := 170) (i := 0) (a := 133) (by decide +kernel) rfl ?_
  refine yi_sp (pc := 171) (z := 512) (x := 512) (by decide +kernel) (by decide +kernel) ?_
  refine yi_NA (pc := 174) (N := 512) (n' := 155) (by decide +kernel) (by decide +kernel) (by decide) (by decide +kernel) rfl (by omega) (by omega) ?_
  refine yi_pr (pc := 176) (oc := 12) (k := 71) (fb := 37) (by decide +kernel) hq (by decide +kernel) (by decide +kernel) hs (by omega) ?_
  refine yi_al (pc := 179) (i := 0) (a := 133) (by decide +kernel) rfl ?_
  refine yi_sp (pc := 180) (z := 512) (x := 512) (by decide +kernel) (by decide +kernel) ?_
  refine yi_NA (pc := 183) (N := 512) (n' := 156) (by decide +kernel) (by decide +kernel) (by decide) (by decide +kernel) rfl (by omega) (by omega) ?_
  refine yi_pr (pc := 185) (oc := 12) (k := 74) (fb := 38) (by decide +kernel) hq (by decide +kernel) (by decide +kernel) hs (by omega) ?_
  refine yi_al (pc := 188) (i := 0) (a := 133) (by decide +kernel) rfl ?_
  refine yi_sp (pc := 189) (z := 512) (x := 512) (by decide +kernel) (by decide +kernel) ?_
  refine yi_NA (pc := 192) (N := 512) (n' := 157) (by decide +kernel) (by decide +kernel) (by decide) (by decide +kernel) rfl (by omega) (by omega) ?_
  refine yi_pr (pc := 194) (oc := 12) (k := 77) (fb := 39) (by decide +kernel) hq (by decide +kernel) (by decide +kernel) hs (by omega) ?_
  refine yi_al (pc := 197) (i := 0) (a := 133) (by decide +kernel) rfl ?_
  refine yi_sp (pc := 198) (z := 512) (x := 512) (by decide +kernel) (by decide +kernel) ?_
  refine yi_NA (pc := 201) (N := 512) (n' := 158) (by decide +kernel) (by decide +kernel) (by decide) (by decide +kernel) rfl (by omega) (by omega) ?_
  refine yi_pr (pc := 203) (oc := 12) (k := 80) (fb := 40) (by decide +kernel) hq (by decide +kernel) (by decide +kernel) hs (by omega) ?_
  refine yi_al (pc := 206) (i := 0) (a := 133) (by decide +kernel) rfl ?_
  refine yi_sp (pc := 207) (z := 512) (x := 512) (by decide +kernel) (by decide +kernel) ?_
  refine yi_NA (pc := 210) (N := 512) (n' := 159) (by decide +kernel) (by decide +kernel) (by decide) (by decide +kernel) rfl (by omega) (by omega) ?_
  refine yi_pr (pc := 212) (oc := 12) (k := 83) (fb := 42) (by decide +kernel) hq (by decide +kernel) (by decide +kernel) hs (by omega) ?_
  refine yi_al (pc := 215) (i := 0) (a := 133) (by decide +kernel) rfl ?_
  refine yi_sp (pc := 216) (z := 512) (x := 512) (by decide +kernel) (by decide +kernel) ?_
  refine yi_NA (pc := 219) (N := 512) (n' := 160) (by decide +kernel) (by decide +kernel) (by decide) (by decide +kernel) rfl (by omega) (by omega) ?_
  refine yi_pr (pc := 221) (oc := 12) (k := 86) (fb := 43) (by decide +kernel) hq (by decide +kernel) (by decide +kernel) hs (by omega) ?_
  refine yi_al (pc := 224) (i := 0) (a := 133) (by decide +kernel) rfl ?_
  refine yi_sp (pc := 225) (z := 512) (x := 512) (by decide +kernel) (by decide +kernel) ?_
  refine yi_NA (pc := 228) (N := 512) (n' := 161) (by decide +kernel) (by decide +kernel) (by decide) (by decide +kernel) rfl (by omega) (by omega) ?_
  refine yi_pr (pc := 230) (oc := 12) (k := 89) (fb := 44) (by decide +kernel) hq (by decide +kernel) (by decide +kernel) hs (by omega) ?_
  refine yi_al (pc := 233) (i := 0) (a := 133) (by decide +kernel) rfl ?_
  refine yi_sp (pc := 234) (z := 512) (x := 512) (by decide +kernel) (by decide +kernel) ?_
  refine yi_NA (pc := 237) (N := 512) (n' := 162) (by decide +kernel) (by decide +kernel) (by decide) (by decide +kernel) rfl (by omega) (by omega) ?_
  refine yi_pr (pc := 239) (oc := 12) (k := 92) (fb := 45) (by decide +kernel) hq (by decide +kernel) (by decide +kernel) hs (by omega) ?_
  refine yi_al (pc := 242) (i := 0) (a := 133) (by decide +kernel) rfl ?_
  refine yi_sp (pc := 243) (z := 512) (x := 512) (by decide +kernel) (by decide +kernel) ?_
  refine yi_NA (pc := 246) (N := 512) (n' := 163) (by decide +kernel) (by decide +kernel) (by decide) (by decide +kernel) rfl (by omega) (by omega) ?_
  refine yi_pr (pc := 248) (oc := 12) (k := 95) (fb := 46) (by decide +kernel) hq (by decide +kernel) (by decide +kernel) hs (by omega) ?_
  refine yi_al (pc := 251) (i := 0) (a := 133) (by decide +kernel) rfl ?_
  refine yi_sp (pc := 252) (z := 512) (x := 512) (by decide +kernel) (by decide +kernel) ?_
  refine yi_NA (pc := 255) (N := 512) (n' := 164) (by decide +kernel) (by decide +kernel) (by decide) (by decide +kernel) rfl (by omega) (by omega) ?_
  refine yi_pr (pc := 257) (oc := 12) (k := 98) (fb := 47) (by decide +kernel) hq (by decide +kernel) (by decide +kernel) hs (by omega) ?_
  refine yi_al (pc := 260) (i := 0) (a := 133) (by decide +kernel) rfl ?_
  refine yi_sp (pc := 261) (z := 512) (x := 512) (by decide +kernel) (by decide +kernel) ?_
  refine yi_NA (pc := 264) (N := 512) (n' := 165) (by decide +kernel) (by decide +kernel) (by decide) (by decide +kernel) rfl (by omega) (by omega) ?_
  refine yi_pr (pc := 266) (oc := 12) (k := 101) (fb := 48) (by decide +kernel) hq (by decide +kernel) (by decide +kernel) hs (by omega) ?_
  refine yi_al (pc := 269) (i := 0) (a := 133) (by decide +kernel) rfl ?_
  refine yi_bp (pc := 270) (z := 100) (x := 100) (by decide +kernel) (by decide +kernel) ?_
  refine yi_NA (pc := 272) (N := 100) (n' := 166) (by decide +kernel) (by decide +kernel) (by decide) (by decide +kernel) rfl (by omega) (by omega) ?_
  refine yi_pr (pc := 274) (oc := 12) (k := 104) (fb := 49) (by decide +kernel) hq (by decide +kernel) (by decide +kernel) hs (by omega) ?_
  refine yi_al (pc := 277) (i := 0) (a := 133) (by decide +kernel) rfl ?_
  refine yi_bp (pc := 278) (z := 6) (x := 6) (by decide +kernel) (by decide +kernel) ?_
  refine yi_NA (pc := 280) (N := 6) (n' := 167) (by decide +kernel) (by decide +kernel) (by decide) (by decide +kernel) rfl (by omega) (by omega) ?_
  refine yi_pr (pc := 282) (oc := 12) (k := 107) (fb := 50) (by decide +kernel) hq (by decide +kernel) (by decide +kernel) hs (by omega) ?_
  refine yi_al (pc := 285) (i := 0) (a := 133) (by decide +kernel) rfl ?_
  refine yi_bp (pc := 286) (z := 27) (x := 27) (by decide +kernel) (by decide +kernel) ?_
  refine yi_NA (pc := 288) (N := 27) (n' := 168) (by decide +kernel) (by decide +kernel) (by decide) (by decide +kernel) rfl (by omega) (by omega) ?_
  refine yi_pr (pc := 290) (oc := 12) (k := 110) (fb := 51) (by decide +kernel) hq (by decide +kernel) (by decide +kernel) hs (by omega) ?_
  refine yi_al (pc := 293) (i := 0) (a := 133) (by decide +kernel) rfl ?_
  refine yi_bp (pc := 294) (z := 6) (x := 6) (by decide +kernel) (by decide +kernel) ?_
  refine yi_NA (pc := 296) (N := 6) (n' := 169) (by decide +kernel) (by decide +kernel) (by decide) (by decide +kernel) rfl (by omega) (by omega) ?_
  refine yi_pr (pc := 298) (oc := 12) (k := 113) (fb := 52) (by decide +kernel) hq (by decide +kernel) (by decide +kernel) hs (by omega) ?_
  refine yi_al (pc := 301) (i := 0) (a := 133) (by decide +kernel) rfl ?_
  refine yi_sp (pc := 302) (z := 960) (x := 960) (by decide +kernel) (by decide +kernel) ?_
  refine yi_NA (pc := 305) (N := 960) (n' := 170) (by decide +kernel) (by decide +kernel) (by decide) (by decide +kernel) rfl (by omega) (by omega) ?_
  refine yi_pr (pc := 307) (oc := 12) (k := 116) (fb := 58) (by decide +kernel) hq (by decide +kernel) (by decide +kernel) hs (by omega) ?_
  refine yi_al (pc := 310) (i := 0) (a := 133) (by decide +kernel) rfl ?_
  refine yi_bp (pc := 311) (z := 64) (x := 64) (by decide +kernel) (by decide +kernel) ?_
  refine yi_NA (pc := 313) (N := 64) (n' := 171) (by decide +kernel) (by decide +kernel) (by decide) (by decide +kernel) rfl (by omega) (by omega) ?_
  refine yi_pr (pc := 315) (oc := 12) (k := 119) (fb := 59) (by decide +kernel) hq (by decide +kernel) (by decide +kernel) hs (by omega) ?_
  refine yi_al (pc := 318) (i := 0) (a := 133) (by decide +kernel) rfl ?_
  refine yi_ic (pc := 319) (z := 1) (x := 1) (by decide +kernel) (by decide +kernel) ?_
  refine yi_pi (pc := 320) (oc := 12) (k := 122) (fb := 0) (by decide +kernel) hq (by decide +kernel) (by decide +kernel) (by decide +kernel) hs (by omega) ?_
  refine yi_ic (pc := 323) (z := 0) (x := 0) (by decide +kernel) (by decide +kernel) ?_
  refine yi_is (pc := 324) (i := 1) (by decide +kernel) (by decide +kernel) ?_
  have h9 := yc_Mo_loop (d := d) (qq := 133) (n := 136) (n0 := 134) (n1 := 171) (M := yf_MoA h) hs (by decide +kernel) (by decide) (by decide) (by rfl) hR 24 0 rfl
  rw [yf_sh0] at h9
  exact h9
