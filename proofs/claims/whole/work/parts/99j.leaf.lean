/-! constructors that make rows alone -/
theorem yi_NA {q : zm_D} {d n0 n1 : Nat} {R : zm_M → Prop} {pc : Nat} {ls : zm_L} {st : List zm_V} {n n' : Nat} {h : zm_M} {x : Int32} {N : Nat} (hd : decode q.2.1 pc = .ok (.newarray .int, 2)) (hx : nI N = x) (hN : N ≤ 1000) (hsh : zm_sh TT n = (0, N)) (hn' : n + 1 = n') (hn1 : n < n1) (h71 : n1 ≤ 171) (kk : yi_W q d n0 n1 R (pc + 2) ls (.inr (some n) :: st) n' (yi_nw h n)) : yi_W q d n0 n1 R pc ls (.inl x :: st) n h := by
  subst hn'
  exact yi_na hd hx hN hsh hn1 h71 kk
theorem yi_NB {q : zm_D} {d n0 n1 : Nat} {R : zm_M → Prop} {pc : Nat} {ls : zm_L} {st : List zm_V} {n n' : Nat} {h : zm_M} {x : Int32} {N : Nat} (hd : decode q.2.1 pc = .ok (.newarray .byte, 2)) (hx : nI N = x) (hN : N ≤ 1000) (hsh : zm_sh TT n = (1, N)) (hn' : n + 1 = n') (hn1 : n < n1) (h71 : n1 ≤ 171) (kk : yi_W q d n0 n1 R (pc + 2) ls (.inr (some n) :: st) n' (yi_nw h n)) : yi_W q d n0 n1 R pc ls (.inl x :: st) n h := by
  subst hn'
  exact yi_nb hd hx hN hsh hn1 h71 kk
theorem yi_NR {q : zm_D} {d n0 n1 : Nat} {R : zm_M → Prop} {pc : Nat} {ls : zm_L} {st : List zm_V} {n n' : Nat} {h : zm_M} {x : Int32} {N oc k : Nat} (hd : decode q.2.1 pc = .ok (.anewarray k, 3)) (hq : q.1.cls = zm_cn oc) (hL : Cond.classLink (zm_cn oc) k RX8 ∈ lw_tbl) (hx : nI N = x) (hN : N ≤ 1000) (hsh : zm_sh TT n = (2, N)) (hn' : n + 1 = n') (hn1 : n < n1) (h71 : n1 ≤ 171) (kk : yi_W q d n0 n1 R (pc + 3) ls (.inr (some n) :: st) n' (yi_nw h n)) : yi_W q d n0 n1 R pc ls (.inl x :: st) n h := by
  subst hn'
  exact yi_nr hd hq hL hx hN hsh hn1 h71 kk
theorem yi_NE {q : zm_D} {d n0 n1 : Nat} {R : zm_M → Prop} {pc : Nat} {ls : zm_L} {st : List zm_V} {n n' : Nat} {h : zm_M} {oc k c2 : Nat} (hd : decode q.2.1 pc = .ok (.new k, 3)) (hq : q.1.cls = zm_cn oc) (hL : Cond.classLink (zm_cn oc) k (zm_cn c2) ∈ lw_tbl) (hI : Cond.instantiable (zm_cn c2) (zm_fn c2) ∈ lw_tbl) (hT : Cond.initialized (zm_cn c2) ∈ lw_tbl) (hc : c2 < 13) (hsh : zm_sh TT n = (c2 + 3, 0)) (hn' : n + 1 = n') (hn1 : n < n1) (h71 : n1 ≤ 171) (kk : yi_W q d n0 n1 R (pc + 3) ls (.inr (some n) :: st) n' (yi_nw h n)) : yi_W q d n0 n1 R pc ls st n h := by
  subst hn'
  exact yi_ne hd hq hL hI hT hc hsh hn1 h71 kk
theorem yi_ent {j d n0 n1 : Nat} {R : zm_M → Prop} {as : List zm_V} {h : zm_M} (M : Nat) (hb : zm_enB j M = true) (hnm : (zm_md j).1.name = "<init>") (hlen : as.length ≤ M) (hn0 : n0 ≤ 171) (hw : yi_W (zm_md j) d n0 n1 R 0 (zm_ls0 M as) [] n0 h) : yi_C d j n0 n1 as h R := by
  simp only [zm_enB, Bool.and_eq_true, decide_eq_true_eq] at hb
  obtain ⟨⟨h1, h2⟩, rfl⟩ := hb
  exact yi_of h1 h2 hnm hlen hn0 hw
def yf_Cut (h : zm_M) (qq n : Nat) : zm_M := (zm_si (zm_si (zm_sr (yi_nw (zm_sr (yi_nw h n) qq 0 (some n)) (n + 1)) qq 1 (some (n + 1))) qq 2 0) qq 3 0)
set_option maxHeartbeats 4000000 in
set_option maxRecDepth 100000 in
theorem yc_Cut {d qq n : Nat} {h : zm_M} {R : zm_M → Prop} (hs : (zm_sh TT qq).1 = 3) (hqn : qq < n) (hn : n + 2 ≤ 171) (s0 : zm_sh TT (n) = (0, 3)) (s1 : zm_sh TT (n + 1) = (0, 3)) (hR : R (yf_Cut h qq n)) : yi_C (d) 0 n (n + 2) [.inr (some qq)] h R := by
  have hq : (zm_md 0).1.cls = zm_cn 0 := rfl
  refine yi_ent 1 (by decide +kernel) (by decide +kernel) (Nat.le_of_ble_eq_true rfl) (by omega) ?_
  show yi_W _ _ _ _ _ 0 [some (.inr (some qq))] [] _ _
  refine yi_al (pc := 0) (i := 0) (a := qq) (by decide +kernel) rfl ?_
  refine yi_ob (pc := 1) (oc := 0) (k := 3) (by decide +kernel) hq (zw_p1 135 rfl) (Nat.le_of_ble_eq_true rfl) ?_
  refine yi_al (pc := 4) (i := 0) (a := qq) (by decide +kernel) rfl ?_
  refine yi_ic (pc := 5) (z := 3) (x := 3) (by decide +kernel) (by decide +kernel) ?_
  refine yi_NA (pc := 6) (N := 3) (n' := n + 1) (by decide +kernel) (by decide +kernel) (by decide) s0 rfl (by omega) (by omega) ?_
  refine yi_pr (pc := 8) (oc := 0) (k := 9) (fb := 0) (by decide +kernel) hq (by decide +kernel) (by decide +kernel) hs (by omega) ?_
  refine yi_al (pc := 11) (i := 0) (a := qq) (by decide +kernel) rfl ?_
  refine yi_ic (pc := 12) (z := 3) (x := 3) (by decide +kernel) (by decide +kernel) ?_
  refine yi_NA (pc := 13) (N := 3) (n' := n + 2) (by decide +kernel) (by decide +kernel) (by decide) s1 rfl (by omega) (by omega) ?_
  refine yi_pr (pc := 15) (oc := 0) (k := 15) (fb := 1) (by decide +kernel) hq (by decide +kernel) (by decide +kernel) hs (by omega) ?_
  refine yi_al (pc := 18) (i := 0) (a := qq) (by decide +kernel) rfl ?_
  refine yi_ic (pc := 19) (z := 0) (x := 0) (by decide +kernel) (by decide +kernel) ?_
  refine yi_pi (pc := 20) (oc := 0) (k := 18) (fb := 2) (by decide +kernel) hq (by decide +kernel) (by decide +kernel) (by decide +kernel) hs (by omega) ?_
  refine yi_al (pc := 23) (i := 0) (a := qq) (by decide +kernel) rfl ?_
  refine yi_ic (pc := 24) (z := 0) (x := 0) (by decide +kernel) (by decide +kernel) ?_
  refine yi_pi (pc := 25) (oc := 0) (k := 22) (fb := 3) (by decide +kernel) hq (by decide +kernel) (by decide +kernel) (by decide +kernel) hs (by omega) ?_
  exact yi_ret (by decide +kernel) (by decide +kernel) hR
def yf_Tape (h : zm_M) (qq n : Nat) : zm_M := (zm_si (zm_si (zm_si (zm_si (zm_si (zm_sr (yi_nw h n) qq 0 (some n)) qq 1 0) qq 2 0) qq 3 0) qq 4 0) qq 5 0)
set_option maxHeartbeats 4000000 in
set_option maxRecDepth 100000 in
theorem yc_Tape {d qq n : Nat} {h : zm_M} {R : zm_M → Prop} (hs : (zm_sh TT qq).1 = 13) (hqn : qq < n) (hn : n + 1 ≤ 171) (s0 : zm_sh TT (n) = (0, 260)) (hR : R (yf_Tape h qq n)) : yi_C (d) 114 n (n + 1) [.inr (some qq)] h R := by
  have hq : (zm_md 114).1.cls = zm_cn 10 := rfl
  refine yi_ent 1 (by decide +kernel) (by decide +kernel) (Nat.le_of_ble_eq_true rfl) (by omega) ?_
  show yi_W _ _ _ _ _ 0 [some (.inr (some qq))] [] _ _
  refine yi_al (pc := 0) (i := 0) (a := qq) (by decide +kernel) rfl ?_
  refine yi_ob (pc := 1) (oc := 10) (k := 3) (by decide +kernel) hq (zw_p1 31 rfl) (Nat.le_of_ble_eq_true rfl) ?_
  refine yi_al (pc := 4) (i := 0) (a := qq) (by decide +kernel) rfl ?_
  refine yi_sp (pc := 5) (z := 260) (x := 260) (by decide +kernel) (by decide +kernel) ?_
  refine yi_NA (pc := 8) (N := 260) (n' := n + 1) (by decide +kernel) (by decide +kernel) (by decide) s0 rfl (by omega) (by omega) ?_
  refine yi_pr (pc := 10) (oc := 10) (k := 9) (fb := 0) (by decide +kernel) hq (by decide +kernel) (by decide +kernel) hs (by omega) ?_
  refine yi_al (pc := 13) (i := 0) (a := qq) (by decide +kernel) rfl ?_
  refine yi_ic (pc := 14) (z := 0) (x := 0) (by decide +kernel) (by decide +kernel) ?_
  refine yi_pi (pc := 15) (oc := 10) (k := 15) (fb := 1) (by decide +kernel) hq (by decide +kernel) (by decide +kernel) (by decide +kernel) hs (by omega) ?_
  refine yi_al (pc := 18) (i := 0) (a := qq) (by decide +kernel) rfl ?_
  refine yi_ic (pc := 19) (z := 0) (x := 0) (by decide +kernel) (by decide +kernel) ?_
  refine yi_pi (pc := 20) (oc := 10) (k := 19) (fb := 2) (by decide +kernel) hq (by decide +kernel) (by decide +kernel) (by decide +kernel) hs (by omega) ?_
  refine yi_al (pc := 23) (i := 0) (a := qq) (by decide +kernel) rfl ?_
  refine yi_ic (pc := 24) (z := 0) (x := 0) (by decide +kernel) (by decide +kernel) ?_
  refine yi_pi (pc := 25) (oc := 10) (k := 22) (fb := 3) (by decide +kernel) hq (by decide +kernel) (by decide +kernel) (by decide +kernel) hs (by omega) ?_
  refine yi_al (pc := 28) (i := 0) (a := qq) (by decide +kernel) rfl ?_
  refine yi_ic (pc := 29) (z := 0) (x := 0) (by decide +kernel) (by decide +kernel) ?_
  refine yi_pi (pc := 30) (oc := 10) (k := 25) (fb := 4) (by decide +kernel) hq (by decide +kernel) (by decide +kernel) (by decide +kernel) hs (by omega) ?_
  refine yi_al (pc := 33) (i := 0) (a := qq) (by decide +kernel) rfl ?_
  refine yi_ic (pc := 34) (z := 0) (x := 0) (by decide +kernel) (by decide +kernel) ?_
  refine yi_pi (pc := 35) (oc := 10) (k := 28) (fb := 5) (by decide +kernel) hq (by decide +kernel) (by decide +kernel) (by decide +kernel) hs (by omega) ?_
  exact yi_ret (by decide +kernel) (by decide +kernel) hR
def yf_Table (h : zm_M) (qq n : Nat) : zm_M := (zm_si (zm_sr (yi_nw (zm_sr (yi_nw (zm_sr (yi_nw (zm_sr (yi_nw (zm_sr (yi_nw h n) qq 0 (some n)) (n + 1)) qq 1 (some (n + 1))) (n + 2)) qq 2 (some (n + 2))) (n + 3)) qq 3 (some (n + 3))) (n + 4)) qq 4 (some (n + 4))) qq 5 0)
set_option maxHeartbeats 4000000 in
set_option maxRecDepth 100000 in
theorem yc_Table {d qq n : Nat} {h : zm_M} {R : zm_M → Prop} (hs : (zm_sh TT qq).1 = 12) (hqn : qq < n) (hn : n + 5 ≤ 171) (s0 : zm_sh TT (n) = (0, 512)) (s1 : zm_sh TT (n + 1) = (0, 512)) (s2 : zm_sh TT (n + 2) = (0, 512)) (s3 : zm_sh TT (n + 3) = (0, 512)) (s4 : zm_sh TT (n + 4) = (0, 512)) (hR : R (yf_Table h qq n)) : yi_C (d) 99 n (n + 5) [.inr (some qq)] h R := by
  have hq : (zm_md 99).1.cls = zm_cn 9 := rfl
  refine yi_ent 1 (by decide +kernel) (by decide +kernel) (Nat.le_of_ble_eq_true rfl) (by omega) ?_
  show yi_W _ _ _ _ _ 0 [some (.inr (some qq))] [] _ _
  refine yi_al (pc := 0) (i := 0) (a := qq) (by decide +kernel) rfl ?_
  refine yi_ob (pc := 1) (oc := 9) (k := 3) (by decide +kernel) hq (zw_p2 0 rfl) (Nat.le_of_ble_eq_true rfl) ?_
  refine yi_al (pc := 4) (i := 0) (a := qq) (by decide +kernel) rfl ?_
  refine yi_sp (pc := 5) (z := 512) (x := 512) (by decide +kernel) (by decide +kernel) ?_
  refine yi_NA (pc := 8) (N := 512) (n' := n + 1) (by decide +kernel) (by decide +kernel) (by decide) s0 rfl (by omega) (by omega) ?_
  refine yi_pr (pc := 10) (oc := 9) (k := 9) (fb := 0) (by decide +kernel) hq (by decide +kernel) (by decide +kernel) hs (by omega) ?_
  refine yi_al (pc := 13) (i := 0) (a := qq) (by decide +kernel) rfl ?_
  refine yi_sp (pc := 14) (z := 512) (x := 512) (by decide +kernel) (by decide +kernel) ?_
  refine yi_NA (pc := 17) (N := 512) (n' := n + 2) (by decide +kernel) (by decide +kernel) (by decide) s1 rfl (by omega) (by omega) ?_
  refine yi_pr (pc := 19) (oc := 9) (k := 15) (fb := 1) (by decide +kernel) hq (by decide +kernel) (by decide +kernel) hs (by omega) ?_
  refine yi_al (pc := 22) (i := 0) (a := qq) (by decide +kernel) rfl ?_
  refine yi_sp (pc := 23) (z := 512) (x := 512) (by decide +kernel) (by decide +kernel) ?_
  refine yi_NA (pc := 26) (N := 512) (n' := n + 3) (by decide +kernel) (by decide +kernel) (by decide) s2 rfl (by omega) (by omega) ?_
  refine yi_pr (pc := 28) (oc := 9) (k := 18) (fb := 2) (by decide +kernel) hq (by decide +kernel) (by decide +kernel) hs (by omega) ?_
  refine yi_al (pc := 31) (i := 0) (a := qq) (by decide +kernel) rfl ?_
  refine yi_sp (pc := 32) (z := 512) (x := 512) (by decide +kernel) (by decide +kernel) ?_
  refine yi_NA (pc := 35) (N := 512) (n' := n + 4) (by decide +kernel) (by decide +kernel) (by decide) s3 rfl (by omega) (by omega) ?_
  refine yi_pr (pc := 37) (oc := 9) (k := 21) (fb := 3) (by decide +kernel) hq (by decide +kernel) (by decide +kernel) hs (by omega) ?_
  refine yi_al (pc := 40) (i := 0) (a := qq) (by decide +kernel) rfl ?_
  refine yi_sp (pc := 41) (z := 512) (x := 512) (by decide +kernel) (by decide +kernel) ?_
  refine yi_NA (pc := 44) (N := 512) (n' := n + 5) (by decide +kernel) (by decide +kernel) (by decide) s4 rfl (by omega) (by omega) ?_
  refine yi_pr (pc := 46) (oc := 9) (k := 24) (fb := 4) (by decide +kernel) hq (by decide +kernel) (by decide +kernel) hs (by omega) ?_
  refine yi_al (pc := 49) (i := 0) (a := qq) (by decide +kernel) rfl ?_
  refine yi_ic (pc := 50) (z := 0) (x := 0) (by decide +kernel) (by decide +kernel) ?_
  refine yi_pi (pc := 51) (oc := 9) (k := 27) (fb := 5) (by decide +kernel) hq (by decide +kernel) (by decide +kernel) (by decide +kernel) hs (by omega) ?_
  exact yi_ret (by decide +kernel) (by decide +kernel) hR
def yf_Facts (h : zm_M) (qq n : Nat) : zm_M := (zm_sr (yi_nw (zm_sr (yi_nw (zm_sr (yi_nw (zm_si (zm_sr (yi_nw (zm_sr (yi_nw h n) qq 0 (some n)) (n + 1)) qq 1 (some (n + 1))) qq 2 0) (n + 2)) qq 3 (some (n + 2))) (n + 3)) qq 4 (some (n + 3))) (n + 4)) qq 5 (some (n + 4)))
set_option maxHeartbeats 4000000 in
set_option maxRecDepth 100000 in
theorem yc_Facts {d qq n : Nat} {h : zm_M} {R : zm_M → Prop} (hs : (zm_sh TT qq).1 = 4) (hqn : qq < n) (hn : n + 5 ≤ 171) (s0 : zm_sh TT (n) = (0, 240)) (s1 : zm_sh TT (n + 1) = (0, 240)) (s2 : zm_sh TT (n + 2) = (0, 240)) (s3 : zm_sh TT (n + 3) = (0, 101)) (s4 : zm_sh TT (n + 4) = (0, 512)) (hR : R (yf_Facts h qq n)) : yi_C (d) 17 n (n + 5) [.inr (some qq)] h R := by
  have hq : (zm_md 17).1.cls = zm_cn 1 := rfl
  refine yi_ent 1 (by decide +kernel) (by decide +kernel) (Nat.le_of_ble_eq_true rfl) (by omega) ?_
  show yi_W _ _ _ _ _ 0 [some (.inr (some qq))] [] _ _
  refine yi_al (pc := 0) (i := 0) (a := qq) (by decide +kernel) rfl ?_
  refine yi_ob (pc := 1) (oc := 1) (k := 3) (by decide +kernel) hq (zw_p1 175 rfl) (Nat.le_of_ble_eq_true rfl) ?_
  refine yi_al (pc := 4) (i := 0) (a := qq) (by decide +kernel) rfl ?_
  refine yi_sp (pc := 5) (z := 240) (x := 240) (by decide +kernel) (by decide +kernel) ?_
  refine yi_NA (pc := 8) (N := 240) (n' := n + 1) (by decide +kernel) (by decide +kernel) (by decide) s0 rfl (by omega) (by omega) ?_
  refine yi_pr (pc := 10) (oc := 1) (k := 9) (fb := 0) (by decide +kernel) hq (by decide +kernel) (by decide +kernel) hs (by omega) ?_
  refine yi_al (pc := 13) (i := 0) (a := qq) (by decide +kernel) rfl ?_
  refine yi_sp (pc := 14) (z := 240) (x := 240) (by decide +kernel) (by decide +kernel) ?_
  refine yi_NA (pc := 17) (N := 240) (n' := n + 2) (by decide +kernel) (by decide +kernel) (by decide) s1 rfl (by omega) (by omega) ?_
  refine yi_pr (pc := 19) (oc := 1) (k := 15) (fb := 1) (by decide +kernel) hq (by decide +kernel) (by decide +kernel) hs (by omega) ?_
  refine yi_al (pc := 22) (i := 0) (a := qq) (by decide +kernel) rfl ?_
  refine yi_ic (pc := 23) (z := 0) (x := 0) (by decide +kernel) (by decide +kernel) ?_
  refine yi_pi (pc := 24) (oc := 1) (k := 18) (fb := 2) (by decide +kernel) hq (by decide +kernel) (by decide +kernel) (by decide +kernel) hs (by omega) ?_
  refine yi_al (pc := 27) (i := 0) (a := qq) (by decide +kernel) rfl ?_
  refine yi_sp (pc := 28) (z := 240) (x := 240) (by decide +kernel) (by decide +kernel) ?_
  refine yi_NA (pc := 31) (N := 240) (n' := n + 3) (by decide +kernel) (by decide +kernel) (by decide) s2 rfl (by omega) (by omega) ?_
  refine yi_pr (pc := 33) (oc := 1) (k := 22) (fb := 3) (by decide +kernel) hq (by decide +kernel) (by decide +kernel) hs (by omega) ?_
  refine yi_al (pc := 36) (i := 0) (a := qq) (by decide +kernel) rfl ?_
  refine yi_bp (pc := 37) (z := 101) (x := 101) (by decide +kernel) (by decide +kernel) ?_
  refine yi_NA (pc := 39) (N := 101) (n' := n + 4) (by decide +kernel) (by decide +kernel) (by decide) s3 rfl (by omega) (by omega) ?_
  refine yi_pr (pc := 41) (oc := 1) (k := 25) (fb := 4) (by decide +kernel) hq (by decide +kernel) (by decide +kernel) hs (by omega) ?_
  refine yi_al (pc := 44) (i := 0) (a := qq) (by decide +kernel) rfl ?_
  refine yi_sp (pc := 45) (z := 512) (x := 512) (by decide +kernel) (by decide +kernel) ?_
  refine yi_NA (pc := 48) (N := 512) (n' := n + 5) (by decide +kernel) (by decide +kernel) (by decide) s4 rfl (by omega) (by omega) ?_
  refine yi_pr (pc := 50) (oc := 1) (k := 28) (fb := 5) (by decide +kernel) hq (by decide +kernel) (by decide +kernel) hs (by omega) ?_
  exact yi_ret (by decide +kernel) (by decide +kernel) hR
def yf_Law (h : zm_M) (qq n : Nat) : zm_M := (zm_sr (yi_nw (zm_si (zm_si (zm_sr (yi_nw (zm_si (zm_sr (yi_nw (zm_sr (yi_nw (zm_sr (yi_nw (zm_sr (yi_nw (zm_si (zm_sr (yi_nw (zm_sr (yi_nw h n) qq 0 (some n)) (n + 1)) qq 1 (some (n + 1))) qq 2 0) (n + 2)) qq 3 (some (n + 2))) (n + 3)) qq 4 (some (n + 3))) (n + 4)) qq 5 (some (n + 4))) (n + 5)) qq 6 (some (n + 5))) qq 7 0) (n + 6)) qq 8 (some (n + 6))) qq 9 0) qq 10 0) (n + 7)) qq 11 (some (n + 7)))
set_option maxHeartbeats 4000000 in
set_option maxRecDepth 100000 in
theorem yc_Law {d qq n : Nat} {h : zm_M} {R : zm_M → Prop} (hs : (zm_sh TT qq).1 = 7) (hqn : qq < n) (hn : n + 8 ≤ 171) (s0 : zm_sh TT (n) = (0, 240)) (s1 : zm_sh TT (n + 1) = (0, 240)) (s2 : zm_sh TT (n + 2) = (0, 16)) (s3 : zm_sh TT (n + 3) = (0, 16)) (s4 : zm_sh TT (n + 4) = (0, 16)) (s5 : zm_sh TT (n + 5) = (0, 16)) (s6 : zm_sh TT (n + 6) = (0, 32)) (s7 : zm_sh TT (n + 7) = (0, 7)) (hR : R (yf_Law h qq n)) : yi_C (d) 57 n (n + 8) [.inr (some qq)] h R := by
  have hq : (zm_md 57).1.cls = zm_cn 4 := rfl
  refine yi_ent 1 (by decide +kernel) (by decide +kernel) (Nat.le_of_ble_eq_true rfl) (by omega) ?_
  show yi_W _ _ _ _ _ 0 [some (.inr (some qq))] [] _ _
  refine yi_al (pc := 0) (i := 0) (a := qq) (by decide +kernel) rfl ?_
  refine yi_ob (pc := 1) (oc := 4) (k := 3) (by decide +kernel) hq (zw_p1 66 rfl) (Nat.le_of_ble_eq_true rfl) ?_
  refine yi_al (pc := 4) (i := 0) (a := qq) (by decide +kernel) rfl ?_
  refine yi_sp (pc := 5) (z := 240) (x := 240) (by decide +kernel) (by decide +kernel) ?_
  refine yi_NA (pc := 8) (N := 240) (n' := n + 1) (by decide +kernel) (by decide +kernel) (by decide) s0 rfl (by omega) (by omega) ?_
  refine yi_pr (pc := 10) (oc := 4) (k := 9) (fb := 0) (by decide +kernel) hq (by decide +kernel) (by decide +kernel) hs (by omega) ?_
  refine yi_al (pc := 13) (i := 0) (a := qq) (by decide +kernel) rfl ?_
  refine yi_sp (pc := 14) (z := 240) (x := 240) (by decide +kernel) (by decide +kernel) ?_
  refine yi_NA (pc := 17) (N := 240) (n' := n + 2) (by decide +kernel) (by decide +kernel) (by decide) s1 rfl (by omega) (by omega) ?_
  refine yi_pr (pc := 19) (oc := 4) (k := 15) (fb := 1) (by decide +kernel) hq (by decide +kernel) (by decide +kernel) hs (by omega) ?_
  refine yi_al (pc := 22) (i := 0) (a := qq) (by decide +kernel) rfl ?_
  refine yi_ic (pc := 23) (z := 0) (x := 0) (by decide +kernel) (by decide +kernel) ?_
  refine yi_pi (pc := 24) (oc := 4) (k := 18) (fb := 2) (by decide +kernel) hq (by decide +kernel) (by decide +kernel) (by decide +kernel) hs (by omega) ?_
  refine yi_al (pc := 27) (i := 0) (a := qq) (by decide +kernel) rfl ?_
  refine yi_bp (pc := 28) (z := 16) (x := 16) (by decide +kernel) (by decide +kernel) ?_
  refine yi_NA (pc := 30) (N := 16) (n' := n + 3) (by decide +kernel) (by decide +kernel) (by decide) s2 rfl (by omega) (by omega) ?_
  refine yi_pr (pc := 32) (oc := 4) (k := 22) (fb := 3) (by decide +kernel) hq (by decide +kernel) (by decide +kernel) hs (by omega) ?_
  refine yi_al (pc := 35) (i := 0) (a := qq) (by decide +kernel) rfl ?_
  refine yi_bp (pc := 36) (z := 16) (x := 16) (by decide +kernel) (by decide +kernel) ?_
  refine yi_NA (pc := 38) (N := 16) (n' := n + 4) (by decide +kernel) (by decide +kernel) (by decide) s3 rfl (by omega) (by omega) ?_
  refine yi_pr (pc := 40) (oc := 4) (k := 25) (fb := 4) (by decide +kernel) hq (by decide +kernel) (by decide +kernel) hs (by omega) ?_
  refine yi_al (pc := 43) (i := 0) (a := qq) (by decide +kernel) rfl ?_
  refine yi_bp (pc := 44) (z := 16) (x := 16) (by decide +kernel) (by decide +kernel) ?_
  refine yi_NA (pc := 46) (N := 16) (n' := n + 5) (by decide +kernel) (by decide +kernel) (by decide) s4 rfl (by omega) (by omega) ?_
  refine yi_pr (pc := 48) (oc := 4) (k := 28) (fb := 5) (by decide +kernel) hq (by decide +kernel) (by decide +kernel) hs (by omega) ?_
  refine yi_al (pc := 51) (i := 0) (a := qq) (by decide +kernel) rfl ?_
  refine yi_bp (pc := 52) (z := 16) (x := 16) (by decide +kernel) (by decide +kernel) ?_
  refine yi_NA (pc := 54) (N := 16) (n' := n + 6) (by decide +kernel) (by decide +kernel) (by decide) s5 rfl (by omega) (by omega) ?_
  refine yi_pr (pc := 56) (oc := 4) (k := 31) (fb := 6) (by decide +kernel) hq (by decide +kernel) (by decide +kernel) hs (by omega) ?_
  refine yi_al (pc := 59) (i := 0) (a := qq) (by decide +kernel) rfl ?_
  refine yi_ic (pc := 60) (z := 0) (x := 0) (by decide +kernel) (by decide +kernel) ?_
  refine yi_pi (pc := 61) (oc := 4) (k := 34) (fb := 7) (by decide +kernel) hq (by decide +kernel) (by decide +kernel) (by decide +kernel) hs (by omega) ?_
  refine yi_al (pc := 64) (i := 0) (a := qq) (by decide +kernel) rfl ?_
  refine yi_bp (pc := 65) (z := 32) (x := 32) (by decide +kernel) (by decide +kernel) ?_
  refine yi_NA (pc := 67) (N := 32) (n' := n + 7) (by decide +kernel) (by decide +kernel) (by decide) s6 rfl (by omega) (by omega) ?_
  refine yi_pr (pc := 69) (oc := 4) (k := 37) (fb := 8) (by decide +kernel) hq (by decide +kernel) (by decide +kernel) hs (by omega) ?_
  refine yi_al (pc := 72) (i := 0) (a := qq) (by decide +kernel) rfl ?_
  refine yi_ic (pc := 73) (z := 0) (x := 0) (by decide +kernel) (by decide +kernel) ?_
  refine yi_pi (pc := 74) (oc := 4) (k := 40) (fb := 9) (by decide +kernel) hq (by decide +kernel) (by decide +kernel) (by decide +kernel) hs (by omega) ?_
  refine yi_al (pc := 77) (i := 0) (a := qq) (by decide +kernel) rfl ?_
  refine yi_ic (pc := 78) (z := 0) (x := 0) (by decide +kernel) (by decide +kernel) ?_
  refine yi_pi (pc := 79) (oc := 4) (k := 43) (fb := 10) (by decide +kernel) hq (by decide +kernel) (by decide +kernel) (by decide +kernel) hs (by omega) ?_
  refine yi_al (pc := 82) (i := 0) (a := qq) (by decide +kernel) rfl ?_
  refine yi_bp (pc := 83) (z := 7) (x := 7) (by decide +kernel) (by decide +kernel) ?_
  refine yi_NA (pc := 85) (N := 7) (n' := n + 8) (by decide +kernel) (by decide +kernel) (by decide) s7 rfl (by omega) (by omega) ?_
  refine yi_pr (pc := 87) (oc := 4) (k := 47) (fb := 11) (by decide +kernel) hq (by decide +kernel) (by decide +kernel) hs (by omega) ?_
  exact yi_ret (by decide +kernel) (by decide +kernel) hR
def yf_Summ (h : zm_M) (qq n : Nat) : zm_M := (zm_si (zm_si (zm_sr (yf_Cut (yi_nw h n) n (n + 1)) qq 0 (some n)) qq 1 0) qq 2 0)
set_option maxHeartbeats 4000000 in
set_option maxRecDepth 100000 in
theorem yc_Summ {d qq n : Nat} {h : zm_M} {R : zm_M → Prop} (hs : (zm_sh TT qq).1 = 11) (hqn : qq < n) (hn : n + 3 ≤ 171) (s0 : zm_sh TT (n) = (3, 0)) (s1 : zm_sh TT (n + 1) = (0, 3)) (s2 : zm_sh TT (n + 2) = (0, 3)) (hR : R (yf_Summ h qq n)) : yi_C (d + 1) 97 n (n + 3) [.inr (some qq)] h R := by
  have hq : (zm_md 97).1.cls = zm_cn 8 := rfl
  refine yi_ent 1 (by decide +kernel) (by decide +kernel) (Nat.le_of_ble_eq_true rfl) (by omega) ?_
  show yi_W _ _ _ _ _ 0 [some (.inr (some qq))] [] _ _
  refine yi_al (pc := 0) (i := 0) (a := qq) (by decide +kernel) rfl ?_
  refine yi_ob (pc := 1) (oc := 8) (k := 1) (by decide +kernel) hq (zw_p1 209 rfl) (Nat.le_of_ble_eq_true rfl) ?_
  refine yi_al (pc := 4) (i := 0) (a := qq) (by decide +kernel) rfl ?_
  refine yi_NE (pc := 5) (oc := 8) (k := 7) (c2 := 0) (n' := n + 1) (by decide +kernel) hq (zw_p1 210 rfl) (zw_p1 131 rfl) (zw_p1 7 rfl) (by decide) s0 rfl (by omega) (by omega) ?_
  refine yi_dup (pc := 8) (by decide +kernel) ?_
  refine yi_ca (pc := 9) (oc := 8) (k := 9) (j := 0) (n' := n + 3) (qq := n) [] (by decide +kernel) hq (by decide +kernel) rfl (Nat.le_of_ble_eq_true rfl) (by omega) (by omega) (by omega) ?_
  refine yc_Cut (by rw [s0]) (by omega) (by omega) s1 s2 ?_
  refine yi_pr (pc := 12) (oc := 8) (k := 10) (fb := 0) (by decide +kernel) hq (by decide +kernel) (by decide +kernel) hs (by omega) ?_
  refine yi_al (pc := 15) (i := 0) (a := qq) (by decide +kernel) rfl ?_
  refine yi_ic (pc := 16) (z := 0) (x := 0) (by decide +kernel) (by decide +kernel) ?_
  refine yi_pi (pc := 17) (oc := 8) (k := 16) (fb := 1) (by decide +kernel) hq (by decide +kernel) (by decide +kernel) (by decide +kernel) hs (by omega) ?_
  refine yi_al (pc := 20) (i := 0) (a := qq) (by decide +kernel) rfl ?_
  refine yi_ic (pc := 21) (z := 0) (x := 0) (by decide +kernel) (by decide +kernel) ?_
  refine yi_pi (pc := 22) (oc := 8) (k := 20) (fb := 2) (by decide +kernel) hq (by decide +kernel) (by decide +kernel) (by decide +kernel) hs (by omega) ?_
  exact yi_ret (by decide +kernel) (by decide +kernel) hR
def yf_LawR (h : zm_M) (qq n t0 : Nat) : zm_M := (zm_sr (zm_sr (yf_Law (yi_nw h n) n (n + 1)) qq 1 (some n)) qq 0 (some t0))
set_option maxHeartbeats 4000000 in
set_option maxRecDepth 100000 in
theorem yc_LawR {d qq n t0 : Nat} {h : zm_M} {R : zm_M → Prop} (hs : (zm_sh TT qq).1 = 8) (hqn : qq < n) (hn : n + 9 ≤ 171) (s0 : zm_sh TT (n) = (7, 0)) (s1 : zm_sh TT (n + 1) = (0, 240)) (s2 : zm_sh TT (n + 2) = (0, 240)) (s3 : zm_sh TT (n + 3) = (0, 16)) (s4 : zm_sh TT (n + 4) = (0, 16)) (s5 : zm_sh TT (n + 5) = (0, 16)) (s6 : zm_sh TT (n + 6) = (0, 16)) (s7 : zm_sh TT (n + 7) = (0, 32)) (s8 : zm_sh TT (n + 8) = (0, 7)) (hR : R (yf_LawR h qq n t0)) : yi_C (d + 1) 75 n (n + 9) [.inr (some qq), .inr (some t0)] h R := by
  have hq : (zm_md 75).1.cls = zm_cn 5 := rfl
  refine yi_ent 2 (by decide +kernel) (by decide +kernel) (Nat.le_of_ble_eq_true rfl) (by omega) ?_
  show yi_W _ _ _ _ _ 0 [some (.inr (some qq)), some (.inr (some t0))] [] _ _
  refine yi_al (pc := 0) (i := 0) (a := qq) (by decide +kernel) rfl ?_
  refine yi_ob (pc := 1) (oc := 5) (k := 3) (by decide +kernel) hq (zw_p1 60 rfl) (Nat.le_of_ble_eq_true rfl) ?_
  refine yi_al (pc := 4) (i := 0) (a := qq) (by decide +kernel) rfl ?_
  refine yi_NE (pc := 5) (oc := 5) (k := 9) (c2 := 4) (n' := n + 1) (by decide +kernel) hq (zw_p1 61 rfl) (zw_p1 62 rfl) (zw_p1 4 rfl) (by decide) s0 rfl (by omega) (by omega) ?_
  refine yi_dup (pc := 8) (by decide +kernel) ?_
  refine yi_ca (pc := 9) (oc := 5) (k := 11) (j := 57) (n' := n + 9) (qq := n) [] (by decide +kernel) hq (by decide +kernel) rfl (Nat.le_of_ble_eq_true rfl) (by omega) (by omega) (by omega) ?_
  refine yc_Law (by rw [s0]) (by omega) (by omega) s1 s2 s3 s4 s5 s6 s7 s8 ?_
  refine yi_pr (pc := 12) (oc := 5) (k := 12) (fb := 1) (by decide +kernel) hq (by decide +kernel) (by decide +kernel) hs (by omega) ?_
  refine yi_al (pc := 15) (i := 0) (a := qq) (by decide +kernel) rfl ?_
  refine yi_al (pc := 16) (i := 1) (a := t0) (by decide +kernel) rfl ?_
  refine yi_pr (pc := 17) (oc := 5) (k := 18) (fb := 0) (by decide +kernel) hq (by decide +kernel) (by decide +kernel) hs (by omega) ?_
  exact yi_ret (by decide +kernel) (by decide +kernel) hR
