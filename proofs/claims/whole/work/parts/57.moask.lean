/-! the law asked by the reference; the lot -/
set_option maxHeartbeats 4000000 in
set_option maxRecDepth 100000 in
theorem k_Mo_isRefused {d : Nat} {h : zm_M} {R : zm_R} {L : zs_L} {lt : Nat → Int32} (hp : zp_mo h.2) (hL : zo_L h.1 L) (hw : zw_L L) (hlt : ∀ v, v < 7 → h.1 150 v = lt v) (hR : ∀ h' : zm_M, zl_mf h h' → R (some (.inl (if zl_fd L lt 120 L.1 0 = none then 0 else 1))) h') : zm_C (d + 3) TT m_Mo_isRefused [.inr (some 133)] h R := by
  have hw1 := hw.1
  have loop : ∀ (n q : Nat) (h' : zm_M), q + n = L.1 → zl_mf h h' → (∀ h' : zm_M, zl_mf h h' → R (some (.inl (if zl_fd L lt 120 n q = none then 0 else 1))) h') → zm_W (zm_md m_Mo_isRefused) (d + 3) TT R 2 [some (.inr (some 133)), some (.inl (nI q))] [] h' := by
    intro n
    induction n with
    | zero =>
      intro q h' hq hf hR
      have : q = L.1 := by omega
      subst this
      have hL' := zo_L_mf hf hL
      refine zm_go g_Mo_isRefused [2] 30 (by decide +kernel) ok_Mo_isRefused _ rfl ?_
      simp only [↓zq, ↓reduceIte, zr_si2, zr_sr1, zr_cp2, zr_tl, zr_tn, shq, List.contains_nil, List.contains_cons, Nat.reduceBEq, Bool.false_or, Bool.or_false, Bool.true_or, Bool.false_eq_true, if_false, if_true, true_and, and_true, List.set_cons_zero, List.set_cons_succ, List.length_cons, List.length_nil, Nat.reduceAdd, Nat.reduceLeDiff, Nat.le_refl, Nat.zero_le, true_or, or_true, zn_cl, ↓jj_Mo_isRefused, hL'.1]
      have := hR h' hf
      rw [zl_fd, if_pos rfl] at this
      exact ⟨fun _ => this, fun z => absurd (Int32.le_refl _) z⟩
    | succ n ih =>
      intro q h' hq hf hR
      have hL' := zo_L_mf hf hL
      obtain ⟨r1, r2, r3, r4, r5⟩ := hL'.2 q (by omega)
      have hwq := hw.2 q (by omega)
      obtain ⟨w1, w2, w3, ⟨ty, w4⟩, w5⟩ := hw.2 q (by omega)
      have p25 : h'.2 133 25 = some 145 := by rw [hf.1]; simp only [hp]
      have p27 : h'.2 133 27 = some 147 := by rw [hf.1]; simp only [hp]
      have p28 : h'.2 133 28 = some 148 := by rw [hf.1]; simp only [hp]
      have v1 : vp_in (nI q) 16 := vp_in_nI (by omega) (by decide)
      have c1 := nI_clamp (show q < 2 ^ 31 by omega)
      have g1 := nI_ge (show q < L.1 by omega) (by omega)
      have n1 := nI_1 q
      have hdq : (L.2.1 q).1 < 256 := by omega
      have e1 : (nI (L.2.1 q).1 = 120) = ((L.2.1 q).1 = 120) := zn_eq (b := 120) (by omega) (by omega)
      refine zm_go g_Mo_isRefused [2] 30 (by decide +kernel) ok_Mo_isRefused _ rfl ?_
      simp only [↓zq, ↓reduceIte, zr_si2, zr_sr1, zr_cp2, zr_tl, zr_tn, shq, List.contains_nil, List.contains_cons, Nat.reduceBEq, Bool.false_or, Bool.or_false, Bool.true_or, Bool.false_eq_true, if_false, if_true, true_and, and_true, List.set_cons_zero, List.set_cons_succ, List.length_cons, List.length_nil, Nat.reduceAdd, Nat.reduceLeDiff, Nat.le_refl, Nat.zero_le, true_or, or_true, zn_cl, ↓jj_Mo_isRefused, hL'.1, p25, p27, p28, v1, c1, r1, r3, r4, g1, e1, n1]
      simp only [not_false_eq_true, not_true_eq_false, false_imp_iff, true_imp_iff, forall_const, and_true, true_and, and_self, false_or, or_false, Int32.reduceLT, Int32.reduceLE, Int32.reduceSub, Int32.reduceAdd]
      refine ⟨fun ne => ?_, fun eq => ?_⟩
      · refine ih (q + 1) h' (by omega) hf (fun h2 hf2 => ?_)
        have := hR h2 hf2
        rw [zl_fd, if_neg (show ¬ ((L.2.1 q).1 = 120 ∧ zl_cv L lt q = 1) from fun z => ne z.1)] at this
        exact this
      · refine k_Mo_reckonsTo (lt := lt) (by rw [hf.1]; exact hp) w3 (fun k _ h2 => r5 k h2) (fun v hv => by rw [hf.2 _ (by omega)]; exact hlt v hv) w4 (fun h2 hf2 => ?_)
        have hf3 : zl_mf h h2 := ⟨hf2.1.trans hf.1, fun a ha => (hf2.2 a ha).trans (hf.2 a ha)⟩
        simp only [↓zq, ↓reduceIte, zr_si2, zr_sr1, zr_cp2, zr_tl, zr_tn, shq, List.contains_nil, List.contains_cons, Nat.reduceBEq, Bool.false_or, Bool.or_false, Bool.true_or, Bool.false_eq_true, if_false, if_true, true_and, and_true, List.set_cons_zero, List.set_cons_succ, List.length_cons, List.length_nil, Nat.reduceAdd, Nat.reduceLeDiff, Nat.le_refl, Nat.zero_le, true_or, or_true, zn_cl, ↓jj_Mo_isRefused, n1]
        refine ⟨fun z => ?_, fun z => ?_⟩
        · refine ih (q + 1) h2 (by omega) hf3 (fun h3 hf3 => ?_)
          have := hR h3 hf3
          rw [zl_fd, if_neg (show ¬ ((L.2.1 q).1 = 120 ∧ zl_cv L lt q = 1) from fun y => z y.2)] at this
          exact this
        · have := hR h2 hf3
          rw [zl_fd, if_pos (show (L.2.1 q).1 = 120 ∧ zl_cv L lt q = 1 from ⟨eq, z⟩), if_neg (by simp)] at this
          exact this
  refine st_Mo_isRefused [2] 30 ?_
  simp only [↓zq, ↓reduceIte, zr_si2, zr_sr1, zr_cp2, zr_tl, zr_tn, shq, List.contains_nil, List.contains_cons, Nat.reduceBEq, Bool.false_or, Bool.or_false, Bool.true_or, Bool.false_eq_true, if_false, if_true, true_and, and_true, List.set_cons_zero, List.set_cons_succ, List.length_cons, List.length_nil, Nat.reduceAdd, Nat.reduceLeDiff, Nat.le_refl, Nat.zero_le, true_or, or_true, zn_cl, ↓jj_Mo_isRefused]
  exact loop L.1 0 h (by omega) (zl_mf.rf h) hR
set_option maxHeartbeats 4000000 in
set_option maxRecDepth 100000 in
theorem k_Mo_byLaw {d : Nat} {h : zm_M} {R : zm_R} {L : zs_L} {lt : Nat → Int32} {hd : Nat} {x : Int32} (hp : zp_mo h.2) (hL : zo_L h.1 L) (hw : zw_L L) (hhd : hd < 256) (hx : hd ≠ 120) (hlt : ∀ v, v < 7 → h.1 150 v = lt v) (hR : ∀ h' : zm_M, zl_mf h h' → R (some (.inl (zl_val L lt hd x))) h') : zm_C (d + 3) TT m_Mo_byLaw [.inr (some 133), .inl (nI hd), .inl x] h R := by
  have hw1 := hw.1
  have loop : ∀ (n q : Nat) (h' : zm_M), q + n = L.1 → zl_mf h h' → (∀ h' : zm_M, zl_mf h h' → R (some (.inl (match zl_fd L lt hd n q with | none => x | some q => zl_ev L lt q))) h') → zm_W (zm_md m_Mo_byLaw) (d + 3) TT R 2 [some (.inr (some 133)), some (.inl (nI hd)), some (.inl x), some (.inl (nI q))] [] h' := by
    intro n
    induction n with
    | zero =>
      intro q h' hq hf hR
      have : q = L.1 := by omega
      subst this
      have hL' := zo_L_mf hf hL
      refine zm_go g_Mo_byLaw [2] 30 (by decide +kernel) ok_Mo_byLaw _ rfl ?_
      simp only [↓zq, ↓reduceIte, zr_si2, zr_sr1, zr_cp2, zr_tl, zr_tn, shq, List.contains_nil, List.contains_cons, Nat.reduceBEq, Bool.false_or, Bool.or_false, Bool.true_or, Bool.false_eq_true, if_false, if_true, true_and, and_true, List.set_cons_zero, List.set_cons_succ, List.length_cons, List.length_nil, Nat.reduceAdd, Nat.reduceLeDiff, Nat.le_refl, Nat.zero_le, true_or, or_true, zn_cl, ↓jj_Mo_byLaw, hL'.1]
      have := hR h' hf
      rw [zl_fd] at this
      exact ⟨fun _ => this, fun z => absurd (Int32.le_refl _) z⟩
    | succ n ih =>
      intro q h' hq hf hR
      have hL' := zo_L_mf hf hL
      obtain ⟨r1, r2, r3, r4, r5⟩ := hL'.2 q (by omega)
      obtain ⟨w1, w2, w3, ⟨ty, w4⟩, w5⟩ := hw.2 q (by omega)
      have p25 : ∀ h' : zm_M, zl_mf h h' → h'.2 133 25 = some 145 ∧ h'.2 133 26 = some 146 ∧ h'.2 133 27 = some 147 ∧ h'.2 133 28 = some 148 := fun h' hf => by
        rw [hf.1]
        refine ⟨?_, ?_, ?_, ?_⟩ <;> simp only [hp]
      have v1 : vp_in (nI q) 16 := vp_in_nI (by omega) (by decide)
      have c1 := nI_clamp (show q < 2 ^ 31 by omega)
      have g1 := nI_ge (show q < L.1 by omega) (by omega)
      have n1 := nI_1 q
      have hdq : (L.2.1 q).1 < 256 := by omega
      have e1 : (nI (L.2.1 q).1 = nI hd) = ((L.2.1 q).1 = hd) := zn_eq (by omega) (by omega)
      refine zm_go g_Mo_byLaw [2] 30 (by decide +kernel) ok_Mo_byLaw _ rfl ?_
      simp only [↓zq, ↓reduceIte, zr_si2, zr_sr1, zr_cp2, zr_tl, zr_tn, shq, List.contains_nil, List.contains_cons, Nat.reduceBEq, Bool.false_or, Bool.or_false, Bool.true_or, Bool.false_eq_true, if_false, if_true, true_and, and_true, List.set_cons_zero, List.set_cons_succ, List.length_cons, List.length_nil, Nat.reduceAdd, Nat.reduceLeDiff, Nat.le_refl, Nat.zero_le, true_or, or_true, zn_cl, ↓jj_Mo_byLaw, hL'.1, p25 h' hf, v1, c1, r1, r3, r4, g1, e1, n1]
      simp only [not_false_eq_true, not_true_eq_false, false_imp_iff, true_imp_iff, forall_const, and_true, true_and, and_self, false_or, or_false, Int32.reduceLT, Int32.reduceLE, Int32.reduceSub, Int32.reduceAdd]
      refine ⟨fun ne => ?_, fun eq => ?_⟩
      · refine ih (q + 1) h' (by omega) hf (fun h2 hf2 => ?_)
        have := hR h2 hf2
        rw [zl_fd, if_neg (fun z => ne z.1)] at this
        exact this
      · refine k_Mo_reckonsTo (lt := lt) (by rw [hf.1]; exact hp) w3 (fun k _ h2 => r5 k h2) (fun v hv => by rw [hf.2 _ (by omega)]; exact hlt v hv) w4 (fun h2 hf2 => ?_)
        have hf3 : zl_mf h h2 := ⟨hf2.1.trans hf.1, fun a ha => (hf2.2 a ha).trans (hf.2 a ha)⟩
        have hL2 := zo_L_mf hf3 hL
        obtain ⟨s1, s2, s3, s4, s5⟩ := hL2.2 q (by omega)
        simp only [↓zq, ↓reduceIte, zr_si2, zr_sr1, zr_cp2, zr_tl, zr_tn, shq, List.contains_nil, List.contains_cons, Nat.reduceBEq, Bool.false_or, Bool.or_false, Bool.true_or, Bool.false_eq_true, if_false, if_true, true_and, and_true, List.set_cons_zero, List.set_cons_succ, List.length_cons, List.length_nil, Nat.reduceAdd, Nat.reduceLeDiff, Nat.le_refl, Nat.zero_le, true_or, or_true, zn_cl, ↓jj_Mo_byLaw, n1, p25 h2 hf3, v1, c1, s2, s3]
        refine ⟨fun z => ?_, fun z => ?_⟩
        · refine ih (q + 1) h2 (by omega) hf3 (fun h3 hf3 => ?_)
          have := hR h3 hf3
          rw [zl_fd, if_neg (fun y => z y.2)] at this
          exact this
        · obtain ⟨ty2, w6⟩ := w5 (by omega)
          refine k_Mo_reckonsTo (lt := lt) (by rw [hf3.1]; exact hp) (by have := w4.1; omega) (fun k _ h2 => s5 k (by have := w4.1; omega)) (fun v hv => by rw [hf3.2 _ (by omega)]; exact hlt v hv) w6 (fun h4 hf4 => ?_)
          have hf5 : zl_mf h h4 := ⟨hf4.1.trans hf3.1, fun a ha => (hf4.2 a ha).trans (hf3.2 a ha)⟩
          simp only [↓zq, ↓reduceIte, zr_si2, zr_sr1, zr_cp2, zr_tl, zr_tn, shq, List.contains_nil, List.contains_cons, Nat.reduceBEq, Bool.false_or, Bool.or_false, Bool.true_or, Bool.false_eq_true, if_false, if_true, true_and, and_true, List.set_cons_zero, List.set_cons_succ, List.length_cons, List.length_nil, Nat.reduceAdd, Nat.reduceLeDiff, Nat.le_refl, Nat.zero_le, true_or, or_true, zn_cl, ↓jj_Mo_byLaw]
          have := hR h4 hf5
          rw [zl_fd, if_pos ⟨eq, z⟩] at this
          exact this
  refine st_Mo_byLaw [2] 30 ?_
  simp only [↓zq, ↓reduceIte, zr_si2, zr_sr1, zr_cp2, zr_tl, zr_tn, shq, List.contains_nil, List.contains_cons, Nat.reduceBEq, Bool.false_or, Bool.or_false, Bool.true_or, Bool.false_eq_true, if_false, if_true, true_and, and_true, List.set_cons_zero, List.set_cons_succ, List.length_cons, List.length_nil, Nat.reduceAdd, Nat.reduceLeDiff, Nat.le_refl, Nat.zero_le, true_or, or_true, zn_cl, ↓jj_Mo_byLaw]
  exact loop L.1 0 h (by omega) (zl_mf.rf h) hR
def zs_nx (x : Nat) : Nat := (25173 * x + 13849) % 65536
theorem zs_nx_lt (x : Nat) : zs_nx x < 65536 := Nat.mod_lt _ (by decide)
theorem zn_nx {x : Nat} (hx : x < 65536) : 25173 * nI x + 13849 - (25173 * nI x + 13849) / 65536 * 65536 = nI (zs_nx x) := by
  have e : (25173 : Int32) * nI x + 13849 = nI (25173 * x + 13849) := by
    rw [show (25173 : Int32) = nI 25173 from rfl, pk_mul, show (13849 : Int32) = nI 13849 from rfl, nI_add]
  rw [e]
  exact pk_rem (d := 65536) (by omega) (by decide) (by decide)
set_option maxHeartbeats 4000000 in
set_option maxRecDepth 100000 in
theorem k_Mo_lotGoes {d : Nat} {h : zm_M} {R : zm_R} {x : Nat} (hx : h.1 133 0 = nI x) (hlt : x < 65536) (hR : R (some (.inl (nI (zs_nx x)))) (zm_si h 133 0 (nI (zs_nx x)))) : zm_C (d + 1) TT m_Mo_lotGoes [.inr (some 133)] h R := by
  refine st_Mo_lotGoes [] 30 ?_
  simp only [↓zq, ↓reduceIte, zr_si2, zr_sr1, zr_cp2, zr_tl, zr_tn, shq, List.contains_nil, List.contains_cons, Nat.reduceBEq, Bool.false_or, Bool.or_false, Bool.true_or, Bool.false_eq_true, if_false, if_true, true_and, and_true, List.set_cons_zero, List.set_cons_succ, List.length_cons, List.length_nil, Nat.reduceAdd, Nat.reduceLeDiff, Nat.le_refl, Nat.zero_le, true_or, or_true, zn_cl, ↓jj_Mo_lotGoes, hx, zn_nx hlt]
  simp only [zr_si1, and_self, if_true]
  exact ⟨by decide, hR⟩
set_option maxHeartbeats 4000000 in
set_option maxRecDepth 100000 in
theorem k_KS_nextX {d : Nat} {h : zm_M} {R : zm_R} {x : Nat} (hx : h.1 0 13 = nI x) (hlt : x < 65536) (hR : R (some (.inl (nI (zs_nx x)))) (zm_si h 0 13 (nI (zs_nx x)))) : zm_C (d + 1) TT m_KS_nextX [.inr (some 0)] h R := by
  refine st_KS_nextX [] 30 ?_
  simp only [↓zq, ↓reduceIte, zr_si2, zr_sr1, zr_cp2, zr_tl, zr_tn, shq, List.contains_nil, List.contains_cons, Nat.reduceBEq, Bool.false_or, Bool.or_false, Bool.true_or, Bool.false_eq_true, if_false, if_true, true_and, and_true, List.set_cons_zero, List.set_cons_succ, List.length_cons, List.length_nil, Nat.reduceAdd, Nat.reduceLeDiff, Nat.le_refl, Nat.zero_le, true_or, or_true, zn_cl, ↓jj_KS_nextX, hx, zn_nx hlt]
  simp only [zr_si1, and_self, if_true]
  exact ⟨by decide, hR⟩
/-- what the letters stand for -/
def zs_lt (a b c m n k w : Nat) (v : Nat) : Int32 := nI (if v = 0 then a else if v = 1 then b else if v = 2 then c else if v = 3 then m else if v = 4 then n % 100 else if v = 5 then k else w)
set_option maxHeartbeats 4000000 in
set_option maxRecDepth 100000 in
theorem k_Law_tell {d : Nat} {h : zm_M} {R : zm_R} {w a b c m n k r : Nat} (hk : zk_law h.2 w) (ha : a < 8) (hb : b < 8) (hc : c < 8) (hn : n < 2 ^ 31) (hR : ∀ h' : zm_M, h'.2 = h.2 → (∀ q, q ≠ w + 8 → h'.1 q = h.1 q) → (∀ v, v < 7 → h'.1 (w + 8) v = zs_lt a b c m n k r v) → R none h') : zm_C (d + 2) TT m_Law_tell [.inr (some w), .inl (nI (64 * a + 8 * b + c)), .inl (nI m), .inl (nI n), .inl (nI k), .inl (nI r)] h R := by
  obtain ⟨k0, k1, k2, k3, k4, k5, k6, k7, k8, q0, q1, q3, q4, q5, q6, q8, q11⟩ := hk
  have v0 : vp_in 0 7 := zn_v (k := 0)
  have v1 : vp_in 1 7 := zn_v (k := 1)
  have v2 : vp_in 2 7 := zn_v (k := 2)
  have v3 : vp_in 3 7 := zn_v (k := 3)
  have v4 : vp_in 4 7 := zn_v (k := 4)
  have v5 : vp_in 5 7 := zn_v (k := 5)
  have v6 : vp_in 6 7 := zn_v (k := 6)
  have e100 : nI n - nI n / 100 * 100 = nI (n % 100) := pk_rem (d := 100) hn (by decide) (by decide)
  refine st_Law_tell [] 30 ?_
  simp only [↓zq, ↓reduceIte, zr_si2, zr_sr1, zr_cp2, zr_tl, zr_tn, shq, List.contains_nil, List.contains_cons, Nat.reduceBEq, Bool.false_or, Bool.or_false, Bool.true_or, Bool.false_eq_true, if_false, if_true, true_and, and_true, List.set_cons_zero, List.set_cons_succ, List.length_cons, List.length_nil, Nat.reduceAdd, Nat.reduceLeDiff, Nat.le_refl, Nat.zero_le, true_or, or_true, zn_cl, ↓jj_Law_tell, k0, k8, q11]
  refine k_KS_numberIn (s := 0) (by omega) (by decide) ?_
  simp only [↓zq, ↓reduceIte, zr_si2, zr_sr1, zr_cp2, zr_tl, zr_tn, shq, List.contains_nil, List.contains_cons, Nat.reduceBEq, Bool.false_or, Bool.or_false, Bool.true_or, Bool.false_eq_true, if_false, if_true, true_and, and_true, List.set_cons_zero, List.set_cons_succ, List.length_cons, List.length_nil, Nat.reduceAdd, Nat.reduceLeDiff, Nat.le_refl, Nat.zero_le, true_or, or_true, zn_cl, ↓jj_Law_tell, k0, k8, q11, v0]
  refine k_KS_numberIn (s := 1) (by omega) (by decide) ?_
  simp only [↓zq, ↓reduceIte, zr_si2, zr_sr1, zr_cp2, zr_tl, zr_tn, shq, List.contains_nil, List.contains_cons, Nat.reduceBEq, Bool.false_or, Bool.or_false, Bool.true_or, Bool.false_eq_true, if_false, if_true, true_and, and_true, List.set_cons_zero, List.set_cons_succ, List.length_cons, List.length_nil, Nat.reduceAdd, Nat.reduceLeDiff, Nat.le_refl, Nat.zero_le, true_or, or_true, zn_cl, ↓jj_Law_tell, k0, k8, q11, v1]
  refine k_KS_numberIn (s := 2) (by omega) (by decide) ?_
  simp only [↓zq, ↓reduceIte, zr_si2, zr_sr1, zr_cp2, zr_tl, zr_tn, shq, List.contains_nil, List.contains_cons, Nat.reduceBEq, Bool.false_or, Bool.or_false, Bool.true_or, Bool.false_eq_true, if_false, if_true, true_and, and_true, List.set_cons_zero, List.set_cons_succ, List.length_cons, List.length_nil, Nat.reduceAdd, Nat.reduceLeDiff, Nat.le_refl, Nat.zero_le, true_or, or_true, zn_cl, ↓jj_Law_tell, k0, k8, q11, v2, v3, v4, v5, v6, e100]
  refine ⟨by decide, hR _ rfl (fun q hq => ?_) (fun v hv => ?_)⟩
  · funext j
    simp only [zr_si1, hq, false_and, if_false]
  · rcases (show v = 0 ∨ v = 1 ∨ v = 2 ∨ v = 3 ∨ v = 4 ∨ v = 5 ∨ v = 6 by omega) with rfl | rfl | rfl | rfl | rfl | rfl | rfl <;> simp only [zr_si1, true_and, zs_lt] <;> simp
    · congr 1; omega
    · congr 1; omega
    · congr 1; omega
