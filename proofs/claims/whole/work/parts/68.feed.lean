/-! feed -/
theorem b_i8 (z : Int32) {i : Nat} (hi : i < 8) : bt z.toInt8.toInt32 i = bt z i := by
  unfold bt
  rw [Int8.toBitVec_toInt32, Int32.toBitVec_toInt8, BitVec.getLsbD_signExtend, BitVec.getLsbD_signExtend]
  simp [hi, show i < 32 by omega]
/-- a byte of a word -/
def zs_by (v : Int32) (n : Nat) : Nat := (v.toUInt32 >>> ((nI n).toUInt32 &&& Int32.toUInt32 31)).toInt32.toBitVec.toNat % 2 ^ 8
theorem zs_by_lt (v : Int32) (n : Nat) : zs_by v n < 256 := Nat.mod_lt _ (by decide)
theorem zs_by_c (v : Int32) (n : Nat) : (v.toUInt32 >>> ((nI n).toUInt32 &&& Int32.toUInt32 31)).toInt32 &&& 255 = nI (zs_by v n) := pk_and _ 8 rfl
theorem zs_by_o (v : Int32) {n : Nat} (hn : n ≤ 24) : (v >>> (nI n &&& 31)).toInt8.toInt32 &&& 255 = nI (zs_by v n) := by
  rw [← zs_by_c]
  apply b_ext
  intro i hi
  rw [b_and, b_and, b_255]
  by_cases h8 : i < 8
  · rw [b_i8 _ h8, b_sshr n (by omega) v hi, if_pos (by omega), b_ushr n (by omega)]
  · simp [h8]
def zs_put (B : zs_B) (b : Nat) : zs_B := (B.1 + 1, fun k => if k = B.1 then b else B.2 k)
def zs_word (B : zs_B) (v : Int32) : zs_B := zs_put (zs_put (zs_put (zs_put B (zs_by v 24)) (zs_by v 16)) (zs_by v 8)) (zs_by v 0)
theorem zs_word_1 (B : zs_B) (v : Int32) : (zs_word B v).1 = B.1 + 4 := rfl
theorem zw_B_put {B : zs_B} {b : Nat} (hw : zw_B B) (hb : b < 256) (h : B.1 < 260) : zw_B (zs_put B b) := by
  refine ⟨by unfold zs_put; dsimp only; omega, fun k hk => ?_⟩
  have hk' : k < B.1 + 1 := hk
  unfold zs_put
  dsimp only
  split
  · exact hb
  · exact hw.2 k (by omega)
theorem zw_B_word {B : zs_B} {v : Int32} (hw : zw_B B) (h : B.1 + 4 ≤ 260) : zw_B (zs_word B v) := by
  have h1 := zw_B_put hw (zs_by_lt v 24) (by omega)
  have h2 := zw_B_put h1 (zs_by_lt v 16) (show B.1 + 1 < 260 by omega)
  have h3 := zw_B_put h2 (zs_by_lt v 8) (show B.1 + 1 + 1 < 260 by omega)
  exact zw_B_put h3 (zs_by_lt v 0) (show B.1 + 1 + 1 + 1 < 260 by omega)
theorem zc_B_put {h : zm_M} {B : zs_B} {b : Nat} (hB : zc_B h.1 B) : zc_B (zm_si (zm_si h 2 B.1 (nI b)) 1 1 (nI (B.1 + 1))).1 (zs_put B b) := by
  refine ⟨?_, fun k hk => ?_⟩
  · rw [zr_si1, if_pos ⟨rfl, rfl⟩]
    rfl
  · have hk' : k < B.1 + 1 := hk
    rw [zr_si1, if_neg (by omega), zr_si1]
    unfold zs_put
    dsimp only
    by_cases z : k = B.1
    · rw [if_pos ⟨rfl, z⟩, if_pos z]
    · rw [if_neg (fun q => z q.2), if_neg z]
      exact hB.2 k (by omega)
theorem zo_B_put {h : zm_M} {B : zs_B} {b : Nat} {y : Int32} (hB : zo_B h.1 B) (hy : y &&& 255 = nI b) : zo_B (zm_si (zm_si h 137 B.1 y) 133 8 (nI (B.1 + 1))).1 (zs_put B b) := by
  refine ⟨?_, fun k hk => ?_⟩
  · rw [zr_si1, if_pos ⟨rfl, rfl⟩]
    rfl
  · have hk' : k < B.1 + 1 := hk
    rw [zr_si1, if_neg (by omega), zr_si1]
    unfold zs_put
    dsimp only
    by_cases z : k = B.1
    · rw [if_pos ⟨rfl, z⟩, if_pos z]
      exact hy
    · rw [if_neg (fun q => z q.2), if_neg z]
      exact hB.2 k (by omega)
def zc_t (h h' : zm_M) : Prop := h'.2 = h.2 ∧ ∀ a, a ≠ 1 → a ≠ 2 → h'.1 a = h.1 a
theorem zc_t.tr {h h' h'' : zm_M} (a : zc_t h h') (b : zc_t h' h'') : zc_t h h'' := ⟨b.1.trans a.1, fun x h1 h2 => (b.2 x h1 h2).trans (a.2 x h1 h2)⟩
theorem zc_t_put (h : zm_M) (n : Nat) (x y : Int32) : zc_t h (zm_si (zm_si h 2 n x) 1 1 y) := ⟨rfl, fun a h1 h2 => by funext j; rw [zr_si1, if_neg (fun z => h1 z.1), zr_si1, if_neg (fun z => h2 z.1)]⟩
def zo_t (h h' : zm_M) : Prop := h'.2 = h.2 ∧ (∀ a, a ≠ 133 → a ≠ 137 → h'.1 a = h.1 a) ∧ ∀ k, k ≠ 8 → h'.1 133 k = h.1 133 k
theorem zo_t.tr {h h' h'' : zm_M} (a : zo_t h h') (b : zo_t h' h'') : zo_t h h'' := ⟨b.1.trans a.1, fun x h1 h2 => (b.2.1 x h1 h2).trans (a.2.1 x h1 h2), fun x h1 => (b.2.2 x h1).trans (a.2.2 x h1)⟩
theorem zo_t_put (h : zm_M) (n : Nat) (x y : Int32) : zo_t h (zm_si (zm_si h 137 n x) 133 8 y) := ⟨rfl, fun a h1 h2 => by funext j; rw [zr_si1, if_neg (fun z => h1 z.1), zr_si1, if_neg (fun z => h2 z.1)], fun k hk => by rw [zr_si1, if_neg (fun z => hk z.2), zr_si1, if_neg (by omega)]⟩
set_option maxHeartbeats 4000000 in
set_option maxRecDepth 100000 in
theorem k_Tape_append {d : Nat} {h : zm_M} {R : zm_R} {B : zs_B} {v : Int32} (hp : h.2 1 0 = some 2) (hB : zc_B h.1 B) (hn : B.1 + 4 ≤ 260) (hR : ∀ h' : zm_M, zc_t h h' → zc_B h'.1 (zs_word B v) → R none h') : zm_C (d + 1) TT m_Tape_append [.inr (some 1), .inl v] h R := by
  have step : ∀ (g : zm_M) (C : zs_B) (s : Nat), s ≤ 24 → g.2 1 0 = some 2 → zc_B g.1 C → C.1 < 260 → zm_W (zm_md m_Tape_append) (d + 1) TT R 3 [some (.inr (some 1)), some (.inl v), some (.inl (nI s + (-8)))] [] (zm_si (zm_si g 2 C.1 (nI (zs_by v s))) 1 1 (nI (C.1 + 1))) → zm_W (zm_md m_Tape_append) (d + 1) TT R 3 [some (.inr (some 1)), some (.inl v), some (.inl (nI s))] [] g := by
    intro g C s hs hp hB hn hk
    have b1 := hB.1
    have v1 : vp_in (nI C.1) 260 := vp_in_nI hn (by decide)
    have c1 := nI_clamp (show C.1 < 2 ^ 31 by omega)
    refine zm_go g_Tape_append [3] 30 (by decide +kernel) ok_Tape_append _ rfl ?_
    simp only [↓zq, ↓reduceIte, zr_si2, zr_sr1, zr_cp2, zr_tl, zr_tn, shq, List.contains_nil, List.contains_cons, Nat.reduceBEq, Bool.false_or, Bool.or_false, Bool.true_or, Bool.false_eq_true, if_false, if_true, true_and, and_true, List.set_cons_zero, List.set_cons_succ, List.length_cons, List.length_nil, Nat.reduceAdd, Nat.reduceLeDiff, Nat.le_refl, Nat.zero_le, true_or, or_true, zn_cl, ↓jj_Tape_append, hp, b1, v1, c1, zs_by_c]
    simp only [zr_si1, show ¬ (1 : Nat) = 2 by decide, false_and, if_false, b1, nI_1]
    exact ⟨fun z => absurd z (nI_pos (by omega)), fun _ => ⟨fun z => absurd z (nI_ge (b := 260) hn (by decide)), fun _ => hk⟩⟩
  refine st_Tape_append [3] 30 ?_
  simp only [↓zq, ↓reduceIte, zr_si2, zr_sr1, zr_cp2, zr_tl, zr_tn, shq, List.contains_nil, List.contains_cons, Nat.reduceBEq, Bool.false_or, Bool.or_false, Bool.true_or, Bool.false_eq_true, if_false, if_true, true_and, and_true, List.set_cons_zero, List.set_cons_succ, List.length_cons, List.length_nil, Nat.reduceAdd, Nat.reduceLeDiff, Nat.le_refl, Nat.zero_le, true_or, or_true, zn_cl, ↓jj_Tape_append]
  refine step h B 24 (by decide) hp hB (by omega) ?_
  rw [show nI 24 + (-8) = nI 16 from rfl]
  have h1 := zc_B_put (b := zs_by v 24) hB
  refine step _ _ 16 (by decide) hp h1 (show B.1 + 1 < 260 by omega) ?_
  rw [show nI 16 + (-8) = nI 8 from rfl]
  have h2 := zc_B_put (b := zs_by v 16) h1
  refine step _ _ 8 (by decide) hp h2 (show B.1 + 1 + 1 < 260 by omega) ?_
  rw [show nI 8 + (-8) = nI 0 from rfl]
  have h3 := zc_B_put (b := zs_by v 8) h2
  refine step _ _ 0 (by decide) hp h3 (show B.1 + 1 + 1 + 1 < 260 by omega) ?_
  have h4 := zc_B_put (b := zs_by v 0) h3
  refine zm_go g_Tape_append [3] 30 (by decide +kernel) ok_Tape_append _ rfl ?_
  simp only [↓zq, ↓reduceIte, zr_si2, zr_sr1, zr_cp2, zr_tl, zr_tn, shq, List.contains_nil, List.contains_cons, Nat.reduceBEq, Bool.false_or, Bool.or_false, Bool.true_or, Bool.false_eq_true, if_false, if_true, true_and, and_true, List.set_cons_zero, List.set_cons_succ, List.length_cons, List.length_nil, Nat.reduceAdd, Nat.reduceLeDiff, Nat.le_refl, Nat.zero_le, true_or, or_true, zn_cl, ↓jj_Tape_append]
  refine ⟨fun _ => hR _ ?_ h4, fun z => absurd (by decide) z⟩
  exact (((zc_t_put _ _ _ _).tr (zc_t_put _ _ _ _)).tr (zc_t_put _ _ _ _)).tr (zc_t_put _ _ _ _)
set_option maxHeartbeats 4000000 in
set_option maxRecDepth 100000 in
theorem k_Mo_types {d : Nat} {h : zm_M} {R : zm_R} {B : zs_B} {v : Int32} (hp : h.2 133 7 = some 137) (hB : zo_B h.1 B) (hn : B.1 + 4 ≤ 260) (hR : ∀ h' : zm_M, zo_t h h' → zo_B h'.1 (zs_word B v) → R none h') : zm_C (d + 1) TT m_Mo_types [.inr (some 133), .inl v] h R := by
  have step : ∀ (g : zm_M) (C : zs_B) (s : Nat), s ≤ 3 → g.2 133 7 = some 137 → zo_B g.1 C → C.1 < 260 → zm_W (zm_md m_Mo_types) (d + 1) TT R 2 [some (.inr (some 133)), some (.inl v), some (.inl (nI s + (-1)))] [] (zm_si (zm_si g 137 C.1 ((v >>> (nI (8 * s) &&& 31)).toInt8.toInt32)) 133 8 (nI (C.1 + 1))) → zm_W (zm_md m_Mo_types) (d + 1) TT R 2 [some (.inr (some 133)), some (.inl v), some (.inl (nI s))] [] g := by
    intro g C s hs hp hB hn hk
    have b1 := hB.1
    have v1 : vp_in (nI C.1) 260 := vp_in_nI hn (by decide)
    have c1 := nI_clamp (show C.1 < 2 ^ 31 by omega)
    have e8 : (8 : Int32) * nI s = nI (8 * s) := zn_8
    refine zm_go g_Mo_types [2] 30 (by decide +kernel) ok_Mo_types _ rfl ?_
    simp only [↓zq, ↓reduceIte, zr_si2, zr_sr1, zr_cp2, zr_tl, zr_tn, shq, List.contains_nil, List.contains_cons, Nat.reduceBEq, Bool.false_or, Bool.or_false, Bool.true_or, Bool.false_eq_true, if_false, if_true, true_and, and_true, List.set_cons_zero, List.set_cons_succ, List.length_cons, List.length_nil, Nat.reduceAdd, Nat.reduceLeDiff, Nat.le_refl, Nat.zero_le, true_or, or_true, zn_cl, ↓jj_Mo_types, hp, b1, v1, c1, e8, pk_vb]
    simp only [zr_si1, show ¬ (133 : Nat) = 137 by decide, false_and, if_false, b1, nI_1]
    exact ⟨fun z => absurd z (nI_pos (by omega)), fun _ => hk⟩
  refine st_Mo_types [2] 30 ?_
  simp only [↓zq, ↓reduceIte, zr_si2, zr_sr1, zr_cp2, zr_tl, zr_tn, shq, List.contains_nil, List.contains_cons, Nat.reduceBEq, Bool.false_or, Bool.or_false, Bool.true_or, Bool.false_eq_true, if_false, if_true, true_and, and_true, List.set_cons_zero, List.set_cons_succ, List.length_cons, List.length_nil, Nat.reduceAdd, Nat.reduceLeDiff, Nat.le_refl, Nat.zero_le, true_or, or_true, zn_cl, ↓jj_Mo_types]
  refine step h B 3 (by decide) hp hB (by omega) ?_
  rw [show nI 3 + (-1) = nI 2 from rfl]
  have h1 := zo_B_put (b := zs_by v 24) hB (zs_by_o v (n := 24) (by decide))
  refine step _ _ 2 (by decide) hp h1 (show B.1 + 1 < 260 by omega) ?_
  rw [show nI 2 + (-1) = nI 1 from rfl]
  have h2 := zo_B_put (b := zs_by v 16) h1 (zs_by_o v (n := 16) (by decide))
  refine step _ _ 1 (by decide) hp h2 (show B.1 + 1 + 1 < 260 by omega) ?_
  rw [show nI 1 + (-1) = nI 0 from rfl]
  have h3 := zo_B_put (b := zs_by v 8) h2 (zs_by_o v (n := 8) (by decide))
  refine step _ _ 0 (by decide) hp h3 (show B.1 + 1 + 1 + 1 < 260 by omega) ?_
  have h4 := zo_B_put (b := zs_by v 0) h3 (zs_by_o v (n := 0) (by decide))
  refine zm_go g_Mo_types [2] 30 (by decide +kernel) ok_Mo_types _ rfl ?_
  simp only [↓zq, ↓reduceIte, zr_si2, zr_sr1, zr_cp2, zr_tl, zr_tn, shq, List.contains_nil, List.contains_cons, Nat.reduceBEq, Bool.false_or, Bool.or_false, Bool.true_or, Bool.false_eq_true, if_false, if_true, true_and, and_true, List.set_cons_zero, List.set_cons_succ, List.length_cons, List.length_nil, Nat.reduceAdd, Nat.reduceLeDiff, Nat.le_refl, Nat.zero_le, true_or, or_true, zn_cl, ↓jj_Mo_types]
  refine ⟨fun _ => hR _ ?_ h4, fun z => absurd (by decide) z⟩
  exact (((zo_t_put _ _ _ _).tr (zo_t_put _ _ _ _)).tr (zo_t_put _ _ _ _)).tr (zo_t_put _ _ _ _)
theorem zCC_B {h h' : zm_M} {pi : Nat → Nat} {w : Nat} {F : zs_F} {sp : Nat → Nat} {U : zs_U} {Q : zs_Q} {B B' : zs_B} {L : zs_L} {x : Nat} {K : zs_K} (hC : zCC h pi w F sp U Q B L x K) (hf : zc_t h h') (hB : zc_B h'.1 B') (hw : zw_B B') : zCC h' pi w F sp U Q B' L x K := by
  obtain ⟨c1, c2, ⟨c3, c3w⟩, ⟨c4, c5, c5w⟩, ⟨c6, c6w⟩, c7, c7w⟩ := hC
  have e := hf.2
  have hw' := (zc_W_or c4).1
  refine ⟨zC_of (fun a _ => by rw [hf.1]) (fun a ha => e a (by omega) (by omega)) (by rw [e 0 (by omega) (by omega)]) c1, zc_N_of (e 93 (by omega) (by omega)) c2, ⟨hB, hw⟩, ⟨zc_W_of (by rw [hf.1]) (by rw [hf.1]) c4, zc_L_of (fun a h1 h2 => e a (by omega) (by omega)) (by rw [e w (by omega) (by omega)]) c5, c5w⟩, ⟨?_, c6w⟩, zc_K_of (fun a h1 h2 => e a (by omega) (by omega)) (fun k _ _ => by rw [e 0 (by omega) (by omega)]) c7w c7, c7w⟩
  rw [e 0 (by omega) (by omega)]
  exact c6
theorem zOO_B {h h' : zm_M} {c : Nat} {F : zs_F} {sp : Nat → Nat} {U : zs_U} {Q : zs_Q} {B B' : zs_B} {L : zs_L} {x : Nat} {K : zs_K} (hO : zOO h c F sp U Q B L x K) (hf : zo_t h h') (hB : zo_B h'.1 B') (hw : zw_B B') : zOO h' c F sp U Q B' L x K := by
  obtain ⟨c1, ⟨c3, c3w⟩, ⟨c5, c5w⟩, ⟨c6, c6w⟩, c7, c7w⟩ := hO
  have e := hf.2.1
  have e0 := hf.2.2
  refine ⟨zO_of (by rw [hf.1]) (fun a ha => e a (by omega) (by omega)) (fun k hk => e0 k (by omega)) c1, ⟨hB, hw⟩, ⟨zo_L_of (fun a h1 h2 => e a (by omega) (by omega)) (e0 17 (by omega)) c5, c5w⟩, ⟨?_, c6w⟩, zo_K_of (fun a ha => e a (by omega) (by omega)) (fun k hk => e0 k (by omega)) c7, c7w⟩
  rw [e0 0 (by omega)]
  exact c6
theorem zc_t.own {h h' : zm_M} (hf : zc_t h h') : zc_own h h' := fun a ha => ⟨hf.2 a (by omega) (by omega), by rw [hf.1]⟩
theorem zo_t.own {h h' : zm_M} (hf : zo_t h h') : zo_own h h' := ⟨hf.1, fun a ha => hf.2.1 a (by omega) (by omega)⟩
def D_feed (B : zs_B) (a b c d e : Int32) : Int32 × zs_B := if 260 < B.1 + 20 then (-1, B) else (nI (B.1 + 20), zs_word (zs_word (zs_word (zs_word (zs_word B a) b) c) d) e)
set_option maxHeartbeats 4000000 in
set_option maxRecDepth 100000 in
theorem k_KS_feed {d : Nat} {h : zm_M} {R : zm_R} {pi : Nat → Nat} {w : Nat} {F : zs_F} {sp : Nat → Nat} {U : zs_U} {Q : zs_Q} {B : zs_B} {L : zs_L} {x : Nat} {K : zs_K} {v1 v2 v3 v4 v5 : Int32} (hC : zCC h pi w F sp U Q B L x K) (hR : ∀ h' : zm_M, zc_own h h' → zCC h' pi w F sp U Q (D_feed B v1 v2 v3 v4 v5).2 L x K → R (some (.inl (D_feed B v1 v2 v3 v4 v5).1)) h') : zm_C (d + 2) TT m_KS_feed [.inr (some 0), .inl v1, .inl v2, .inl v3, .inl v4, .inl v5] h R := by
  have p : ∀ g : zm_M, g.2 = h.2 → g.2 0 0 = some 1 ∧ g.2 1 0 = some 2 := fun g e => by
    rw [e]
    have hp := hC.1.1
    refine ⟨?_, ?_⟩ <;> simp only [hp]
  obtain ⟨hB, hBw⟩ := hC.2.2.1
  have b1 := hB.1
  have b260 := hBw.1
  have e20 : nI B.1 + 20 = nI (B.1 + 20) := nI_add _ 20
  refine st_KS_feed [] 30 ?_
  simp only [↓zq, ↓reduceIte, zr_si2, zr_sr1, zr_cp2, zr_tl, zr_tn, shq, List.contains_nil, List.contains_cons, Nat.reduceBEq, Bool.false_or, Bool.or_false, Bool.true_or, Bool.false_eq_true, if_false, if_true, true_and, and_true, List.set_cons_zero, List.set_cons_succ, List.length_cons, List.length_nil, Nat.reduceAdd, Nat.reduceLeDiff, Nat.le_refl, Nat.zero_le, true_or, or_true, zn_cl, ↓jj_KS_feed, p h rfl, b1, e20]
  by_cases z : 260 < B.1 + 20
  · have eD : D_feed B v1 v2 v3 v4 v5 = (-1, B) := if_pos z
    rw [eD] at hR
    refine ⟨fun y => absurd y (nI_ge (a := 260) z (by omega)), fun _ => hR h (zc_own.rf h) hC⟩
  · have eD : D_feed B v1 v2 v3 v4 v5 = (nI (B.1 + 20), zs_word (zs_word (zs_word (zs_word (zs_word B v1) v2) v3) v4) v5) := if_neg z
    rw [eD] at hR
    refine ⟨fun _ => ?_, fun y => absurd (show nI (B.1 + 20) ≤ nI 260 from nI_le (by omega) (by decide)) y⟩
    have w1 := zw_B_word (v := v1) hBw (by omega)
    have w2 := zw_B_word (v := v2) w1 (show B.1 + 4 + 4 ≤ 260 by omega)
    have w3 := zw_B_word (v := v3) w2 (show B.1 + 4 + 4 + 4 ≤ 260 by omega)
    have w4 := zw_B_word (v := v4) w3 (show B.1 + 4 + 4 + 4 + 4 ≤ 260 by omega)
    have w5 := zw_B_word (v := v5) w4 (show B.1 + 4 + 4 + 4 + 4 + 4 ≤ 260 by omega)
    refine k_Tape_append (p h rfl).2 hB (by omega) (fun g1 t1 q1 => ?_)
    simp only [↓zq, ↓reduceIte, zr_si2, zr_sr1, zr_cp2, zr_tl, zr_tn, shq, List.contains_nil, List.contains_cons, Nat.reduceBEq, Bool.false_or, Bool.or_false, Bool.true_or, Bool.false_eq_true, if_false, if_true, true_and, and_true, List.set_cons_zero, List.set_cons_succ, List.length_cons, List.length_nil, Nat.reduceAdd, Nat.reduceLeDiff, Nat.le_refl, Nat.zero_le, true_or, or_true, zn_cl, ↓jj_KS_feed, p g1 t1.1]
    refine k_Tape_append (p g1 t1.1).2 q1 (show B.1 + 4 + 4 ≤ 260 by omega) (fun g2 t2 q2 => ?_)
    have t2 := t1.tr t2
    simp only [↓zq, ↓reduceIte, zr_si2, zr_sr1, zr_cp2, zr_tl, zr_tn, shq, List.contains_nil, List.contains_cons, Nat.reduceBEq, Bool.false_or, Bool.or_false, Bool.true_or, Bool.false_eq_true, if_false, if_true, true_and, and_true, List.set_cons_zero, List.set_cons_succ, List.length_cons, List.length_nil, Nat.reduceAdd, Nat.reduceLeDiff, Nat.le_refl, Nat.zero_le, true_or, or_true, zn_cl, ↓jj_KS_feed, p g2 t2.1]
    refine k_Tape_append (p g2 t2.1).2 q2 (show B.1 + 4 + 4 + 4 ≤ 260 by omega) (fun g3 t3 q3 => ?_)
    have t3 := t2.tr t3
    simp only [↓zq, ↓reduceIte, zr_si2, zr_sr1, zr_cp2, zr_tl, zr_tn, shq, List.contains_nil, List.contains_cons, Nat.reduceBEq, Bool.false_or, Bool.or_false, Bool.true_or, Bool.false_eq_true, if_false, if_true, true_and, and_true, List.set_cons_zero, List.set_cons_succ, List.length_cons, List.length_nil, Nat.reduceAdd, Nat.reduceLeDiff, Nat.le_refl, Nat.zero_le, true_or, or_true, zn_cl, ↓jj_KS_feed, p g3 t3.1]
    refine k_Tape_append (p g3 t3.1).2 q3 (show B.1 + 4 + 4 + 4 + 4 ≤ 260 by omega) (fun g4 t4 q4 => ?_)
    have t4 := t3.tr t4
    simp only [↓zq, ↓reduceIte, zr_si2, zr_sr1, zr_cp2, zr_tl, zr_tn, shq, List.contains_nil, List.contains_cons, Nat.reduceBEq, Bool.false_or, Bool.or_false, Bool.true_or, Bool.false_eq_true, if_false, if_true, true_and, and_true, List.set_cons_zero, List.set_cons_succ, List.length_cons, List.length_nil, Nat.reduceAdd, Nat.reduceLeDiff, Nat.le_refl, Nat.zero_le, true_or, or_true, zn_cl, ↓jj_KS_feed, p g4 t4.1]
    refine k_Tape_append (p g4 t4.1).2 q4 (show B.1 + 4 + 4 + 4 + 4 + 4 ≤ 260 by omega) (fun g5 t5 q5 => ?_)
    have t5 := t4.tr t5
    have s5 : g5.1 1 1 = nI (B.1 + 20) := q5.1
    simp only [↓zq, ↓reduceIte, zr_si2, zr_sr1, zr_cp2, zr_tl, zr_tn, shq, List.contains_nil, List.contains_cons, Nat.reduceBEq, Bool.false_or, Bool.or_false, Bool.true_or, Bool.false_eq_true, if_false, if_true, true_and, and_true, List.set_cons_zero, List.set_cons_succ, List.length_cons, List.length_nil, Nat.reduceAdd, Nat.reduceLeDiff, Nat.le_refl, Nat.zero_le, true_or, or_true, zn_cl, ↓jj_KS_feed, p g5 t5.1, s5]
    exact hR g5 t5.own (zCC_B hC t5 q5 w5)
set_option maxHeartbeats 4000000 in
set_option maxRecDepth 100000 in
theorem k_Mo_feed {d : Nat} {h : zm_M} {R : zm_R} {n0 : Nat} {F : zs_F} {sp : Nat → Nat} {U : zs_U} {Q : zs_Q} {B : zs_B} {L : zs_L} {x : Nat} {K : zs_K} {v1 v2 v3 v4 v5 : Int32} (hO : zOO h n0 F sp U Q B L x K) (hR : ∀ h' : zm_M, zo_own h h' → zOO h' n0 F sp U Q (D_feed B v1 v2 v3 v4 v5).2 L x K → R (some (.inl (D_feed B v1 v2 v3 v4 v5).1)) h') : zm_C (d + 2) TT m_Mo_feed [.inr (some 133), .inl v1, .inl v2, .inl v3, .inl v4, .inl v5] h R := by
  have p : ∀ g : zm_M, g.2 = h.2 → g.2 133 7 = some 137 := fun g e => by
    rw [e]
    have hp := hO.1.1
    simp only [hp]
  obtain ⟨hB, hBw⟩ := hO.2.1
  have b1 := hB.1
  have b260 := hBw.1
  have e20 : nI B.1 + 20 = nI (B.1 + 20) := nI_add _ 20
  refine st_Mo_feed [] 30 ?_
  simp only [↓zq, ↓reduceIte, zr_si2, zr_sr1, zr_cp2, zr_tl, zr_tn, shq, List.contains_nil, List.contains_cons, Nat.reduceBEq, Bool.false_or, Bool.or_false, Bool.true_or, Bool.false_eq_true, if_false, if_true, true_and, and_true, List.set_cons_zero, List.set_cons_succ, List.length_cons, List.length_nil, Nat.reduceAdd, Nat.reduceLeDiff, Nat.le_refl, Nat.zero_le, true_or, or_true, zn_cl, ↓jj_Mo_feed, b1, e20]
  by_cases z : 260 < B.1 + 20
  · have eD : D_feed B v1 v2 v3 v4 v5 = (-1, B) := if_pos z
    rw [eD] at hR
    refine ⟨fun y => absurd y (nI_ge (a := 260) z (by omega)), fun _ => hR h (zo_own.rf h) hO⟩
  · have eD : D_feed B v1 v2 v3 v4 v5 = (nI (B.1 + 20), zs_word (zs_word (zs_word (zs_word (zs_word B v1) v2) v3) v4) v5) := if_neg z
    rw [eD] at hR
    refine ⟨fun _ => ?_, fun y => absurd (show nI (B.1 + 20) ≤ nI 260 from nI_le (by omega) (by decide)) y⟩
    have w1 := zw_B_word (v := v1) hBw (by omega)
    have w2 := zw_B_word (v := v2) w1 (show B.1 + 4 + 4 ≤ 260 by omega)
    have w3 := zw_B_word (v := v3) w2 (show B.1 + 4 + 4 + 4 ≤ 260 by omega)
    have w4 := zw_B_word (v := v4) w3 (show B.1 + 4 + 4 + 4 + 4 ≤ 260 by omega)
    have w5 := zw_B_word (v := v5) w4 (show B.1 + 4 + 4 + 4 + 4 + 4 ≤ 260 by omega)
    refine k_Mo_types (p h rfl) hB (by omega) (fun g1 t1 q1 => ?_)
    simp only [↓zq, ↓reduceIte, zr_si2, zr_sr1, zr_cp2, zr_tl, zr_tn, shq, List.contains_nil, List.contains_cons, Nat.reduceBEq, Bool.false_or, Bool.or_false, Bool.true_or, Bool.false_eq_true, if_false, if_true, true_and, and_true, List.set_cons_zero, List.set_cons_succ, List.length_cons, List.length_nil, Nat.reduceAdd, Nat.reduceLeDiff, Nat.le_refl, Nat.zero_le, true_or, or_true, zn_cl, ↓jj_Mo_feed]
    refine k_Mo_types (p g1 t1.1) q1 (show B.1 + 4 + 4 ≤ 260 by omega) (fun g2 t2 q2 => ?_)
    have t2 := t1.tr t2
    simp only [↓zq, ↓reduceIte, zr_si2, zr_sr1, zr_cp2, zr_tl, zr_tn, shq, List.contains_nil, List.contains_cons, Nat.reduceBEq, Bool.false_or, Bool.or_false, Bool.true_or, Bool.false_eq_true, if_false, if_true, true_and, and_true, List.set_cons_zero, List.set_cons_succ, List.length_cons, List.length_nil, Nat.reduceAdd, Nat.reduceLeDiff, Nat.le_refl, Nat.zero_le, true_or, or_true, zn_cl, ↓jj_Mo_feed]
    refine k_Mo_types (p g2 t2.1) q2 (show B.1 + 4 + 4 + 4 ≤ 260 by omega) (fun g3 t3 q3 => ?_)
    have t3 := t2.tr t3
    simp only [↓zq, ↓reduceIte, zr_si2, zr_sr1, zr_cp2, zr_tl, zr_tn, shq, List.contains_nil, List.contains_cons, Nat.reduceBEq, Bool.false_or, Bool.or_false, Bool.true_or, Bool.false_eq_true, if_false, if_true, true_and, and_true, List.set_cons_zero, List.set_cons_succ, List.length_cons, List.length_nil, Nat.reduceAdd, Nat.reduceLeDiff, Nat.le_refl, Nat.zero_le, true_or, or_true, zn_cl, ↓jj_Mo_feed]
    refine k_Mo_types (p g3 t3.1) q3 (show B.1 + 4 + 4 + 4 + 4 ≤ 260 by omega) (fun g4 t4 q4 => ?_)
    have t4 := t3.tr t4
    simp only [↓zq, ↓reduceIte, zr_si2, zr_sr1, zr_cp2, zr_tl, zr_tn, shq, List.contains_nil, List.contains_cons, Nat.reduceBEq, Bool.false_or, Bool.or_false, Bool.true_or, Bool.false_eq_true, if_false, if_true, true_and, and_true, List.set_cons_zero, List.set_cons_succ, List.length_cons, List.length_nil, Nat.reduceAdd, Nat.reduceLeDiff, Nat.le_refl, Nat.zero_le, true_or, or_true, zn_cl, ↓jj_Mo_feed]
    refine k_Mo_types (p g4 t4.1) q4 (show B.1 + 4 + 4 + 4 + 4 + 4 ≤ 260 by omega) (fun g5 t5 q5 => ?_)
    have t5 := t4.tr t5
    have s5 : g5.1 133 8 = nI (B.1 + 20) := q5.1
    simp only [↓zq, ↓reduceIte, zr_si2, zr_sr1, zr_cp2, zr_tl, zr_tn, shq, List.contains_nil, List.contains_cons, Nat.reduceBEq, Bool.false_or, Bool.or_false, Bool.true_or, Bool.false_eq_true, if_false, if_true, true_and, and_true, List.set_cons_zero, List.set_cons_succ, List.length_cons, List.length_nil, Nat.reduceAdd, Nat.reduceLeDiff, Nat.le_refl, Nat.zero_le, true_or, or_true, zn_cl, ↓jj_Mo_feed, s5]
    exact hR g5 t5.own (zOO_B hO t5 q5 w5)
