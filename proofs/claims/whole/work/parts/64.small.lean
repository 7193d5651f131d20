/-! small public methods of the class -/
theorem zp_ok_of {P P' : Nat → Nat → Option Nat} (e : ∀ b j, b ≠ 37 → (b = 0 → j ≠ 3) → (b = 3 → j ≠ 1) → P' b j = P b j) (hp : zp_ok P) : zp_ok P' := by
  refine ⟨?_, ?_, ?_, ?_, ?_, ?_, ?_, ?_, ?_, ?_, ?_, ?_, ?_, ?_, ?_, ?_, ?_, ?_, ?_, ?_, ?_, ?_, ?_, ?_, ?_, ?_, ?_, ?_, ?_, ?_, ?_, ?_, ?_, ?_, ?_, ?_, ?_, ?_, ?_, ?_, ?_, ?_, ?_, ?_, ?_, ?_, ?_, ?_, ?_, ?_, ?_, ?_, ?_, ?_, ?_, ?_, ?_, ?_, ?_, ?_, ?_, ?_, ?_, ?_, ?_, ?_, ?_, ?_, ?_, ?_, ?_, ?_, ?_, ?_, ?_, ?_, ?_, ?_, ?_, ?_, ?_, ?_, ?_, ?_, ?_, ?_, ?_, ?_, ?_, ?_, ?_, ?_, ?_, ?_, ?_, ?_, ?_, ?_, ?_, ?_, ?_, ?_, ?_, ?_, ?_, ?_, ?_, ?_, ?_, ?_, ?_, ?_, ?_, ?_, ?_, ?_, ?_, ?_, ?_, ?_, ?_, ?_, ?_, ?_⟩ <;> (rw [e _ _ (by decide) (by decide) (by decide)]; simp only [hp])
def D_seed (x : Nat) (v : Int32) : Int32 × Nat := match zs_ix v 65536 with
  | none => (0, x)
  | some y => (1, y)
set_option maxHeartbeats 4000000 in
set_option maxRecDepth 100000 in
theorem k_KS_seed {d : Nat} {h : zm_M} {R : zm_R} {pi : Nat → Nat} {w : Nat} {F : zs_F} {sp : Nat → Nat} {U : zs_U} {Q : zs_Q} {B : zs_B} {L : zs_L} {x : Nat} {K : zs_K} {v : Int32} (hC : zCC h pi w F sp U Q B L x K) (hR : ∀ h' : zm_M, zc_own h h' → zCC h' pi w F sp U Q B L (D_seed x v).2 K → R (some (.inl (D_seed x v).1)) h') : zm_C (d + 1) TT m_KS_seed [.inr (some 0), .inl v] h R := by
  refine st_KS_seed [] 30 ?_
  simp only [↓zq, ↓reduceIte, zr_si2, zr_sr1, zr_cp2, zr_tl, zr_tn, shq, List.contains_nil, List.contains_cons, Nat.reduceBEq, Bool.false_or, Bool.or_false, Bool.true_or, Bool.false_eq_true, if_false, if_true, true_and, and_true, List.set_cons_zero, List.set_cons_succ, List.length_cons, List.length_nil, Nat.reduceAdd, Nat.reduceLeDiff, Nat.le_refl, Nat.zero_le, true_or, or_true, zn_cl, ↓jj_KS_seed]
  rcases zs_cas v 65536 (by decide) with ⟨j, hj, rfl⟩ | hno
  · have e : D_seed x (nI j) = (1, j) := by
      unfold D_seed
      rw [zs_ix_of hj (by decide)]
    rw [e] at hR
    refine ⟨fun z => absurd z (nI_pos (by omega)), fun _ => ⟨fun _ => ?_, fun z => absurd (show nI j ≤ nI 65535 from nI_le (by omega) (by decide)) z⟩⟩
    exact hR _ (zc_own_0 h 13 _) (zCC_x hC hj)
  · have e : D_seed x v = (0, x) := by
      unfold D_seed
      rw [zs_ix_no hno]
    rw [e] at hR
    have hr := hR h (zc_own.rf h) hC
    refine ⟨fun _ => hr, fun z1 => ⟨fun z2 => ?_, fun _ => hr⟩⟩
    exfalso
    rcases hno with hno | hno
    · exact z1 hno
    · rw [Int32.le_iff_toInt_le] at z2 hno
      rw [show (nI 65536).toInt = 65536 from rfl] at hno
      rw [show (65535 : Int32).toInt = 65535 from rfl] at z2
      omega
def A_count (F : zs_F) (U : zs_U) (B : zs_B) (L : zs_L) (x : Nat) (v : Int32) : Int32 := match zs_ix v 6 with
  | none => -1
  | some j => nI (if j = 0 then F.1 else if j = 1 then U.1 else if j = 2 then B.1 else if j = 3 then x else if j = 4 then zs_sum F.2.2 F.1 else L.1)
set_option maxHeartbeats 4000000 in
set_option maxRecDepth 100000 in
theorem k_KS_count {d : Nat} {h : zm_M} {R : zm_R} {pi : Nat → Nat} {w : Nat} {F : zs_F} {sp : Nat → Nat} {U : zs_U} {Q : zs_Q} {B : zs_B} {L : zs_L} {x : Nat} {K : zs_K} {v : Int32} (hC : zCC h pi w F sp U Q B L x K) (hR : R (some (.inl (A_count F U B L x v))) h) : zm_C (d + 3) TT m_KS_count [.inr (some 0), .inl v] h R := by
  obtain ⟨p0, p1, p2, p4, p5, p6, p7, p9, p10, p11, p12, p14⟩ := zC_p hC.1
  have fs := hC.1.2.2.1.1.1
  have us := hC.1.2.2.2.2.1.1.1
  have bs := hC.2.2.1.1.1
  have ex := hC.2.2.2.2.1.1
  have ls := hC.2.2.2.1.2.1.1
  obtain ⟨hw, pw⟩ := zc_W_or hC.2.2.2.1.1
  have kw := (zk_laws hC.1.1 hw).1
  refine st_KS_count [] 30 ?_
  simp only [↓zq, ↓reduceIte, zr_si2, zr_sr1, zr_cp2, zr_tl, zr_tn, shq, List.contains_nil, List.contains_cons, Nat.reduceBEq, Bool.false_or, Bool.or_false, Bool.true_or, Bool.false_eq_true, if_false, if_true, true_and, and_true, List.set_cons_zero, List.set_cons_succ, List.length_cons, List.length_nil, Nat.reduceAdd, Nat.reduceLeDiff, Nat.le_refl, Nat.zero_le, true_or, or_true, zn_cl, ↓jj_KS_count, p0, p5, p6, pw, kw, fs, us, bs, ex, ls]
  rcases zs_cas v 6 (by decide) with ⟨j, hj, rfl⟩ | hno
  · unfold A_count at hR
    rw [zs_ix_of hj (by decide)] at hR
    dsimp only at hR
    rcases (show j = 0 ∨ j = 1 ∨ j = 2 ∨ j = 3 ∨ j = 4 ∨ j = 5 by omega) with rfl | rfl | rfl | rfl | rfl | rfl
    · exact ⟨fun _ => hR, fun z => absurd rfl z⟩
    · exact ⟨fun z => absurd z (by decide), fun _ => ⟨fun _ => hR, fun z => absurd rfl z⟩⟩
    · exact ⟨fun z => absurd z (by decide), fun _ => ⟨fun z => absurd z (by decide), fun _ => ⟨fun _ => hR, fun z => absurd rfl z⟩⟩⟩
    · exact ⟨fun z => absurd z (by decide), fun _ => ⟨fun z => absurd z (by decide), fun _ => ⟨fun z => absurd z (by decide), fun _ => ⟨fun _ => hR, fun z => absurd rfl z⟩⟩⟩⟩
    · refine ⟨fun z => absurd z (by decide), fun _ => ⟨fun z => absurd z (by decide), fun _ => ⟨fun z => absurd z (by decide), fun _ => ⟨fun z => absurd z (by decide), fun _ => ⟨fun _ => ?_, fun z => absurd rfl z⟩⟩⟩⟩⟩
      refine k_Facts_measuresAdded hC.1.1 hC.1.2.2.1.1 hC.1.2.2.1.2 ?_
      simp only [↓zq, ↓reduceIte, zr_si2, zr_sr1, zr_cp2, zr_tl, zr_tn, shq, List.contains_nil, List.contains_cons, Nat.reduceBEq, Bool.false_or, Bool.or_false, Bool.true_or, Bool.false_eq_true, if_false, if_true, true_and, and_true, List.set_cons_zero, List.set_cons_succ, List.length_cons, List.length_nil, Nat.reduceAdd, Nat.reduceLeDiff, Nat.le_refl, Nat.zero_le, true_or, or_true, zn_cl, ↓jj_KS_count]
      exact hR
    · exact ⟨fun z => absurd z (by decide), fun _ => ⟨fun z => absurd z (by decide), fun _ => ⟨fun z => absurd z (by decide), fun _ => ⟨fun z => absurd z (by decide), fun _ => ⟨fun z => absurd z (by decide), fun _ => ⟨fun _ => hR, fun z => absurd rfl z⟩⟩⟩⟩⟩⟩
  · unfold A_count at hR
    rw [zs_ix_no hno] at hR
    have ne : ∀ j : Nat, j < 6 → ¬ v = nI j := fun j hj e => by
      subst e
      rcases hno with z | z
      · exact nI_pos (by omega) z
      · exact nI_ge hj (by decide) z
    exact ⟨fun z => absurd z (ne 0 (by decide)), fun _ => ⟨fun z => absurd z (ne 1 (by decide)), fun _ => ⟨fun z => absurd z (ne 2 (by decide)), fun _ => ⟨fun z => absurd z (ne 3 (by decide)), fun _ => ⟨fun z => absurd z (ne 4 (by decide)), fun _ => ⟨fun z => absurd z (ne 5 (by decide)), fun _ => hR⟩⟩⟩⟩⟩⟩
def D_renew (F : zs_F) (U : zs_U) (v : Int32) : Int32 × zs_U := match zs_ix v U.1 with
  | none => (-1, U)
  | some s => (nI (F.1 - U.2 s 7), zs_uset U s F.1)
set_option maxHeartbeats 4000000 in
set_option maxRecDepth 100000 in
theorem k_KS_renew {d : Nat} {h : zm_M} {R : zm_R} {pi : Nat → Nat} {w : Nat} {F : zs_F} {sp : Nat → Nat} {U : zs_U} {Q : zs_Q} {B : zs_B} {L : zs_L} {x : Nat} {K : zs_K} {v : Int32} (hC : zCC h pi w F sp U Q B L x K) (hR : ∀ h' : zm_M, zc_own h h' → zCC h' pi w F sp (D_renew F U v).2 Q B L x K → R (some (.inl (D_renew F U v).1)) h') : zm_C (d + 6) TT m_KS_renew [.inr (some 0), .inl v] h R := by
  obtain ⟨p0, p1, p2, p4, p5, p6, p7, p9, p10, p11, p12, p14⟩ := zC_p hC.1
  have fs := hC.1.2.2.1.1.1
  have u8 := hC.1.2.2.2.2.1.2.1
  have f240 := hC.1.2.2.1.2.1
  obtain ⟨hw, pw⟩ := zc_W_or hC.2.2.2.1.1
  refine st_KS_renew [] 30 ?_
  simp only [↓zq, ↓reduceIte, zr_si2, zr_sr1, zr_cp2, zr_tl, zr_tn, shq, List.contains_nil, List.contains_cons, Nat.reduceBEq, Bool.false_or, Bool.or_false, Bool.true_or, Bool.false_eq_true, if_false, if_true, true_and, and_true, List.set_cons_zero, List.set_cons_succ, List.length_cons, List.length_nil, Nat.reduceAdd, Nat.reduceLeDiff, Nat.le_refl, Nat.zero_le, true_or, or_true, zn_cl, ↓jj_KS_renew, p6]
  refine k_Shelf_at hC.1 (fun s hs es => ?_) (fun no => ?_)
  · subst es
    have ps := (hC.1.2.1.1 s (by omega)).2
    have ks := zk_sums hC.1.1 ps
    have y3 : h.1 (38 + 4 * pi s) 1 = nI (U.2 s 7) := (hC.1.2.2.2.2.1.1.2 s hs).2.2.1
    have w7 := (hC.1.2.2.2.2.1.2.2 s hs).2.2.2
    have e : D_renew F U (nI s) = (nI (F.1 - U.2 s 7), zs_uset U s F.1) := by
      unfold D_renew
      rw [zs_ix_of hs (by omega)]
    rw [e] at hR
    simp only [↓zq, ↓reduceIte, zr_si2, zr_sr1, zr_cp2, zr_tl, zr_tn, shq, List.contains_nil, List.contains_cons, Nat.reduceBEq, Bool.false_or, Bool.or_false, Bool.true_or, Bool.false_eq_true, if_false, if_true, true_and, and_true, List.set_cons_zero, List.set_cons_succ, List.length_cons, List.length_nil, Nat.reduceAdd, Nat.reduceLeDiff, Nat.le_refl, Nat.zero_le, true_or, or_true, zn_cl, ↓jj_KS_renew, p5, fs, ks.1, y3, pk_sub w7]
    refine ⟨fun _ => ?_, fun z => absurd z (by simp)⟩
    refine k_KS_makeAnew (row := U.2 s) hC.1.1 ks (by omega) hC.1.2.2.1.1 hC.1.2.2.1.2 hC.1.2.2.2.1.1 hC.1.2.2.2.1.2 (hC.1.2.2.2.2.1.1.2 s hs).1 (hC.1.2.2.2.2.1.2.2 s hs).1 (fun g6 q6 r6 s6 t6 => ?_)
    have zC6 := zC_mk hC.1 hs q6 r6 s6 t6
    have z6 := zCC_up hC zC6 ⟨by rw [q6], by rw [q6]⟩ (fun q hq => r6 q (by omega) (by omega)) (by rw [r6 w (by omega) (by omega)]) (by rw [r6 1 (by omega) (by omega)]) (fun k hk => by rw [r6 0 (by omega) (by omega)]) (by rw [r6 0 (by omega) (by omega)]; exact hC.2.2.2.2.1.1) hC.2.2.2.2.1.2 (fun f hf => rfl) (Nat.le_refl _)
    simp only [↓zq, ↓reduceIte, zr_si2, zr_sr1, zr_cp2, zr_tl, zr_tn, shq, List.contains_nil, List.contains_cons, Nat.reduceBEq, Bool.false_or, Bool.or_false, Bool.true_or, Bool.false_eq_true, if_false, if_true, true_and, and_true, List.set_cons_zero, List.set_cons_succ, List.length_cons, List.length_nil, Nat.reduceAdd, Nat.reduceLeDiff, Nat.le_refl, Nat.zero_le, true_or, or_true, zn_cl, ↓jj_KS_renew]
    exact hR g6 (fun q hq => ⟨r6 q (by omega) (by omega), by rw [q6]⟩) z6
  · have e : D_renew F U v = (-1, U) := by
      unfold D_renew
      rw [zs_ix_no2 (by omega) no]
    rw [e] at hR
    simp only [↓zq, ↓reduceIte, zr_si2, zr_sr1, zr_cp2, zr_tl, zr_tn, shq, List.contains_nil, List.contains_cons, Nat.reduceBEq, Bool.false_or, Bool.or_false, Bool.true_or, Bool.false_eq_true, if_false, if_true, true_and, and_true, List.set_cons_zero, List.set_cons_succ, List.length_cons, List.length_nil, Nat.reduceAdd, Nat.reduceLeDiff, Nat.le_refl, Nat.zero_le, true_or, or_true, zn_cl, ↓jj_KS_renew]
    exact ⟨fun z => (by first | exact absurd trivial z | exact absurd rfl z | exact absurd z (by decide)), fun _ => hR h (zc_own.rf h) hC⟩
def zs_udel (U : zs_U) (s : Nat) : zs_U := (U.1 - 1, fun r => if r < s then U.2 r else U.2 (r + 1))
def D_drop (U : zs_U) (v : Int32) : Int32 × zs_U := match zs_ix v U.1 with
  | none => (0, U)
  | some s => (1, zs_udel U s)
theorem zw_U_del {n : Nat} {U : zs_U} {s : Nat} (hw : zw_U n U) (hs : s < U.1) : zw_U n (zs_udel U s) := by
  refine ⟨by have := hw.1; unfold zs_udel; dsimp only; omega, fun r hr => ?_⟩
  have hr' : r < U.1 - 1 := hr
  unfold zs_udel
  dsimp only
  split
  · exact hw.2 r (by omega)
  · exact hw.2 (r + 1) (by omega)
set_option maxHeartbeats 4000000 in
set_option maxRecDepth 100000 in
theorem k_KS_drop {d : Nat} {h : zm_M} {R : zm_R} {pi : Nat → Nat} {w : Nat} {F : zs_F} {sp : Nat → Nat} {U : zs_U} {Q : zs_Q} {B : zs_B} {L : zs_L} {x : Nat} {K : zs_K} {v : Int32} (hC : zCC h pi w F sp U Q B L x K) (hR : ∀ (h' : zm_M) (pi' : Nat → Nat), zc_own h h' → zCC h' pi' w F sp (D_drop U v).2 Q B L x K → R (some (.inl (D_drop U v).1)) h') : zm_C (d + 3) TT m_KS_drop [.inr (some 0), .inl v] h R := by
  obtain ⟨p0, p1, p2, p4, p5, p6, p7, p9, p10, p11, p12, p14⟩ := zC_p hC.1
  have u8 := hC.1.2.2.2.2.1.2.1
  obtain ⟨hw, pw⟩ := zc_W_or hC.2.2.2.1.1
  refine st_KS_drop [] 30 ?_
  simp only [↓zq, ↓reduceIte, zr_si2, zr_sr1, zr_cp2, zr_tl, zr_tn, shq, List.contains_nil, List.contains_cons, Nat.reduceBEq, Bool.false_or, Bool.or_false, Bool.true_or, Bool.false_eq_true, if_false, if_true, true_and, and_true, List.set_cons_zero, List.set_cons_succ, List.length_cons, List.length_nil, Nat.reduceAdd, Nat.reduceLeDiff, Nat.le_refl, Nat.zero_le, true_or, or_true, zn_cl, ↓jj_KS_drop, p6]
  refine k_Shelf_at hC.1 (fun s hs es => ?_) (fun no => ?_)
  · subst es
    have e : D_drop U (nI s) = (1, zs_udel U s) := by
      unfold D_drop
      rw [zs_ix_of hs (by omega)]
    rw [e] at hR
    simp only [↓zq, ↓reduceIte, zr_si2, zr_sr1, zr_cp2, zr_tl, zr_tn, shq, List.contains_nil, List.contains_cons, Nat.reduceBEq, Bool.false_or, Bool.or_false, Bool.true_or, Bool.false_eq_true, if_false, if_true, true_and, and_true, List.set_cons_zero, List.set_cons_succ, List.length_cons, List.length_nil, Nat.reduceAdd, Nat.reduceLeDiff, Nat.le_refl, Nat.zero_le, true_or, or_true, zn_cl, ↓jj_KS_drop, p6]
    refine ⟨fun _ => ?_, fun z => absurd z (by simp)⟩
    refine k_Shelf_remove hC.1.1 hC.1.2.1 hC.1.2.2.2.2.1.1.1 u8 hs (fun g e1 e2 e3 e4 => ?_)
    simp only [↓zq, ↓reduceIte, zr_si2, zr_sr1, zr_cp2, zr_tl, zr_tn, shq, List.contains_nil, List.contains_cons, Nat.reduceBEq, Bool.false_or, Bool.or_false, Bool.true_or, Bool.false_eq_true, if_false, if_true, true_and, and_true, List.set_cons_zero, List.set_cons_succ, List.length_cons, List.length_nil, Nat.reduceAdd, Nat.reduceLeDiff, Nat.le_refl, Nat.zero_le, true_or, or_true, zn_cl, ↓jj_KS_drop]
    obtain ⟨c1, c2, ⟨c3, c4⟩, ⟨c5, c6⟩, ⟨c7, c8⟩, c9, c10⟩ := hC.1
    have e3' : ∀ b, b ≠ 37 → g.2 b = h.2 b := fun b hb => by funext j; exact e3 b j hb
    have zC6 : zC g (zs_rmv pi s U.1) F sp (zs_udel U s) Q := by
      refine ⟨zp_ok_of (fun b j hb _ _ => e3 b j hb) c1, e4, ⟨?_, c4⟩, ⟨?_, c6⟩, ⟨⟨e2, fun r hr => ?_⟩, zw_U_del c8 hs⟩, ⟨?_, fun hq => ?_⟩, c10⟩
      · unfold zc_F
        rw [e1 30 (by omega), e1 31 (by omega), e1 32 (by omega)]
        exact c3
      · unfold zc_S
        rw [e1 29 (by omega)]
        exact c5
      · have hr' : r < U.1 - 1 := hr
        have key : ∀ q, q < U.1 → zc_Y g.1 sp F (38 + 4 * pi q) (U.2 q) := fun q hq => by
          have hY := c7.2 q hq
          dsimp only at hY
          unfold zc_Y zc_R at hY ⊢
          rw [e1 _ (by omega), e1 _ (by omega), e1 _ (by omega), e1 _ (by omega)]
          exact hY
        unfold zs_udel zs_rmv
        dsimp only
        by_cases z : r < s
        · rw [if_pos z, if_pos z]
          exact key r (by omega)
        · rw [if_neg z, if_neg z, if_pos (by omega)]
          exact key (r + 1) (by omega)
      · rw [e1 0 (by omega)]
        exact c9.1
      · obtain ⟨q1, q2⟩ := c9.2 hq
        refine ⟨zc_R_fr q1 (e1 _ (by omega)) (e1 _ (by omega)), ?_⟩
        rw [e1 70 (by omega)]
        exact q2
    have z6 := zCC_up hC zC6 ⟨e3' 0 (by omega), e3' 3 (by omega)⟩ (fun q hq => e1 q (by omega)) (by rw [e1 w (by omega)]) (by rw [e1 1 (by omega)]) (fun k hk => by rw [e1 0 (by omega)]) (by rw [e1 0 (by omega)]; exact hC.2.2.2.2.1.1) hC.2.2.2.2.1.2 (fun f hf => rfl) (Nat.le_refl _)
    exact hR g _ (fun q hq => ⟨e1 q (by omega), e3' q (by omega)⟩) z6
  · have e : D_drop U v = (0, U) := by
      unfold D_drop
      rw [zs_ix_no2 (by omega) no]
    rw [e] at hR
    simp only [↓zq, ↓reduceIte, zr_si2, zr_sr1, zr_cp2, zr_tl, zr_tn, shq, List.contains_nil, List.contains_cons, Nat.reduceBEq, Bool.false_or, Bool.or_false, Bool.true_or, Bool.false_eq_true, if_false, if_true, true_and, and_true, List.set_cons_zero, List.set_cons_succ, List.length_cons, List.length_nil, Nat.reduceAdd, Nat.reduceLeDiff, Nat.le_refl, Nat.zero_le, true_or, or_true, zn_cl, ↓jj_KS_drop]
    exact ⟨fun z => (by first | exact absurd trivial z | exact absurd rfl z | exact absurd z (by decide)), fun _ => hR h pi (zc_own.rf h) hC⟩
