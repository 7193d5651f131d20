/-! summary, question (class) -/
def f_255 : Nat → Nat := fun _ => 255
/-- a summary's text: where it ends, its row -/
def f_ym (T : Nat → Nat) (n : Nat) (e : zt_S) : zt_S := t_tk T n 58 (f_e3 T n e)
def f_ye (T : Nat → Nat) (n : Nat) (sp : Nat → Nat) (e : zt_S) : zt_S := t_en n (f_ss T n sp 80 0 f_255 (f_pe T n (f_ym T n e))).2
def f_yr (T : Nat → Nat) (n : Nat) (sp : Nat → Nat) (u : Nat) (e : zt_S) : Nat → Nat := fun k => if k < 3 then f_le T n e k else if k < 6 then (f_ss T n sp 80 0 f_255 (f_pe T n (f_ym T n e))).1 (k - 3) else if k = 6 then (f_pt T n 80 0 (f_ym T n e)).1 else u
/-- a question's -/
def f_qm (T : Nat → Nat) (n : Nat) (e : zt_S) : zt_S := t_tk T n 58 (t_st (if f_w (t_c T n e) = 7 then t_fl 1 e else e))
def f_qe (T : Nat → Nat) (n : Nat) (sp : Nat → Nat) (e : zt_S) : zt_S := t_en n (f_ss T n sp 80 0 f_255 (f_e3 T n (f_qm T n e))).2
def f_qr (T : Nat → Nat) (n : Nat) (sp : Nat → Nat) (e : zt_S) : Nat → Nat := fun k => if k < 3 then f_le T n (f_qm T n e) k else if k < 6 then (f_ss T n sp 80 0 f_255 (f_e3 T n (f_qm T n e))).1 (k - 3) else f_w (t_c T n e)
theorem f_le_le (T : Nat → Nat) (n : Nat) (e : zt_S) (k : Nat) : f_le T n e k ≤ 2 := by
  unfold f_le
  split
  · exact f_lv_le T n 2 _
  · split <;> exact f_lv_le T n 2 _
theorem f_ss_lt {T : Nat → Nat} {n : Nat} {sp : Nat → Nat} : ∀ (f told : Nat) (lets : Nat → Nat) (e : zt_S), (∀ k, lets k < 256) → ∀ k, (f_ss T n sp f told lets e).1 k < 256 := by
  intro f
  induction f with
  | zero => intro told lets e h; exact h
  | succ f ih =>
    intro told lets e h
    unfold f_ss
    split
    · refine ih _ _ _ (fun k => ?_)
      unfold f_sl
      split
      · exact zs_bits_lt _ 8
      · exact h k
    · exact h
theorem f_ss_d {T : Nat → Nat} {n : Nat} {sp : Nat → Nat} (f told : Nat) (lets : Nat → Nat) (x : Nat × Nat) : f_ss T n sp f told lets (.inl x) = (lets, .inl x) := by
  cases f with
  | zero => rfl
  | succ f =>
    unfold f_ss
    rw [if_neg (by rw [t_c_d]; decide)]
theorem f_pt_d {T : Nat → Nat} {n : Nat} (f ks : Nat) (x : Nat × Nat) : f_pt T n f ks (.inl x) = (ks, .inl x) := by
  cases f with
  | zero => rfl
  | succ f =>
    unfold f_pt
    rw [if_neg (by rw [t_c_d]; decide)]
theorem f_yr_w {T : Nat → Nat} {n : Nat} {sp : Nat → Nat} {u p : Nat} {e : zt_S} (he : f_ye T n sp e = .inr p) : zw_R (f_yr T n sp u e) ∧ 1 ≤ f_yr T n sp u e 6 ∧ f_yr T n sp u e 6 < 16 ∧ f_yr T n sp u e 7 = u := by
  have hl := f_ss_lt (T := T) (n := n) (sp := sp) 80 0 f_255 (f_pe T n (f_ym T n e)) (fun _ => show 255 < 256 by decide)
  have k6 : (f_pt T n 80 0 (f_ym T n e)).1 ≠ 0 := fun z => by
    unfold f_ye f_pe at he
    rw [if_pos z] at he
    cases hh : (f_pt T n 80 0 (f_ym T n e)).2 with
    | inl x => rw [hh, t_fl_d, f_ss_d] at he; cases he
    | inr q => rw [hh, show t_fl 1 (.inr q) = .inl (1, q) from rfl, f_ss_d] at he; cases he
  have k16 := f_pt_lt (T := T) (n := n) 80 0 (f_ym T n e) (by decide)
  refine ⟨⟨f_le_le T n e 0, f_le_le T n e 1, f_le_le T n e 2, hl 0, hl 1, hl 2⟩, Nat.pos_of_ne_zero k6, k16, rfl⟩
theorem f_qr_w {T : Nat → Nat} {n : Nat} {sp : Nat → Nat} {p : Nat} {e : zt_S} (he : f_qe T n sp e = .inr p) : zw_R (f_qr T n sp e) ∧ f_qr T n sp e 6 ≤ 6 := by
  have hl := f_ss_lt (T := T) (n := n) (sp := sp) 80 0 f_255 (f_e3 T n (f_qm T n e)) (fun _ => show 255 < 256 by decide)
  refine ⟨⟨f_le_le T n _ 0, f_le_le T n _ 1, f_le_le T n _ 2, hl 0, hl 1, hl 2⟩, ?_⟩
  show f_w (t_c T n e) ≤ 6
  have h7 : f_w (t_c T n e) ≠ 7 := fun z => by
    have dd : ∃ x, f_qm T n e = .inl x := by
      unfold f_qm
      rw [if_pos z]
      cases e with
      | inl x => exact ⟨x, t_tk_d T n (by decide) x⟩
      | inr q => exact ⟨(1, q), t_tk_d T n (by decide) _⟩
    obtain ⟨x, hx⟩ := dd
    unfold f_qe f_e3 f_e2 f_e1 at he
    rw [hx, f_lv_d T n (by decide), f_lv_d T n (by decide), f_lv_d T n (by decide), f_ss_d] at he
    cases he
  have := f_w_le (t_c T n e)
  omega
set_option maxHeartbeats 4000000 in
set_option maxRecDepth 100000 in
theorem k_Form_readSummary {d : Nat} {h : zm_M} {R : zm_R} {T : Nat → Nat} {n : Nat} {sp : Nat → Nat} {e : zt_S} (u : Nat) (hp : zp_ok h.2) (hs : zt_s h T n e) (hw : zw_S sp) (hsp : ∀ k, k < 24 → h.1 29 k = nI (sp k)) (hR : ∀ h' : zm_M, zr_f h h' → zt_s h' T n (f_ye T n sp e) → zc_R h'.1 16 (f_yr T n sp u e) → h'.1 16 2 = nI (f_yr T n sp u e 6) → R none h') : zm_C (d + 6) TT m_Form_readSummary [.inr (some 13), .inr (some 28)] h R := by
  obtain ⟨p0, p1, p2⟩ := zp_13 hp
  refine st_Form_readSummary [] 30 ?_
  simp only [↓zq, ↓reduceIte, zr_si2, zr_sr1, zr_cp2, zr_tl, zr_tn, shq, List.contains_nil, List.contains_cons, Nat.reduceBEq, Bool.false_or, Bool.or_false, Bool.true_or, Bool.false_eq_true, if_false, if_true, true_and, and_true, List.set_cons_zero, List.set_cons_succ, List.length_cons, List.length_nil, Nat.reduceAdd, Nat.reduceLeDiff, Nat.le_refl, Nat.zero_le, true_or, or_true, zn_cl, ↓jj_Form_readSummary, p2]
  refine k_Cut_clear (zk_cutF hp) (fun g1 e1 e2 e3 e4 e5 => ?_)
  have f1 : zr_f h g1 := ⟨e1, fun a h1 h2 => e2 a (by omega), fun k hk => by rw [e2 1 (by omega)]⟩
  have s1 : zt_s g1 T n e := zt_s_i hs (by rw [e1]) (e2 1 (by omega)) (e2 2 (by omega))
  simp only [↓zq, ↓reduceIte, zr_si2, zr_sr1, zr_cp2, zr_tl, zr_tn, shq, List.contains_nil, List.contains_cons, Nat.reduceBEq, Bool.false_or, Bool.or_false, Bool.true_or, Bool.false_eq_true, if_false, if_true, true_and, and_true, List.set_cons_zero, List.set_cons_succ, List.length_cons, List.length_nil, Nat.reduceAdd, Nat.reduceLeDiff, Nat.le_refl, Nat.zero_le, true_or, or_true, zn_cl, ↓jj_Form_readSummary]
  refine k_Form_readLevels (by rw [f1.1]; exact hp) s1 (fun g2 f2 s2 l2 t16 t18 t15 => ?_)
  have f2 := f1.tr f2
  have q0 : g2.2 13 0 = some 1 := by rw [f2.1]; exact p0
  simp only [↓zq, ↓reduceIte, zr_si2, zr_sr1, zr_cp2, zr_tl, zr_tn, shq, List.contains_nil, List.contains_cons, Nat.reduceBEq, Bool.false_or, Bool.or_false, Bool.true_or, Bool.false_eq_true, if_false, if_true, true_and, and_true, List.set_cons_zero, List.set_cons_succ, List.length_cons, List.length_nil, Nat.reduceAdd, Nat.reduceLeDiff, Nat.le_refl, Nat.zero_le, true_or, or_true, zn_cl, ↓jj_Form_readSummary, q0]
  refine k_Tape_take (c := 58) s2 (by decide) (fun g3 f3 s3 => ?_)
  have f3' := f2.tr f3.r
  simp only [↓zq, ↓reduceIte, zr_si2, zr_sr1, zr_cp2, zr_tl, zr_tn, shq, List.contains_nil, List.contains_cons, Nat.reduceBEq, Bool.false_or, Bool.or_false, Bool.true_or, Bool.false_eq_true, if_false, if_true, true_and, and_true, List.set_cons_zero, List.set_cons_succ, List.length_cons, List.length_nil, Nat.reduceAdd, Nat.reduceLeDiff, Nat.le_refl, Nat.zero_le, true_or, or_true, zn_cl, ↓jj_Form_readSummary]
  refine k_Form_readParts (by rw [f3'.1]; exact hp) s3 (by rw [f3.2.1 16 (by omega), t16]; exact e4) (fun g4 f4 s4 k4 t17 t18' => ?_)
  have f4 := f3'.tr f4
  simp only [↓zq, ↓reduceIte, zr_si2, zr_sr1, zr_cp2, zr_tl, zr_tn, shq, List.contains_nil, List.contains_cons, Nat.reduceBEq, Bool.false_or, Bool.or_false, Bool.true_or, Bool.false_eq_true, if_false, if_true, true_and, and_true, List.set_cons_zero, List.set_cons_succ, List.length_cons, List.length_nil, Nat.reduceAdd, Nat.reduceLeDiff, Nat.le_refl, Nat.zero_le, true_or, or_true, zn_cl, ↓jj_Form_readSummary]
  refine k_Form_readSpans (sp := sp) (lets := f_255) (by rw [f4.1]; exact hp) s4 hw (fun k hk => by rw [f4.2.1 29 (by omega) (by omega)]; exact hsp k hk) (fun k hk => by rw [t18', f3.2.1 18 (by omega), t18]; exact (e3 k hk).2) (fun g5 f5 s5 l5 u16 u17 => ?_)
  simp only [↓zq, ↓reduceIte, zr_si2, zr_sr1, zr_cp2, zr_tl, zr_tn, shq, List.contains_nil, List.contains_cons, Nat.reduceBEq, Bool.false_or, Bool.or_false, Bool.true_or, Bool.false_eq_true, if_false, if_true, true_and, and_true, List.set_cons_zero, List.set_cons_succ, List.length_cons, List.length_nil, Nat.reduceAdd, Nat.reduceLeDiff, Nat.le_refl, Nat.zero_le, true_or, or_true, zn_cl, ↓jj_Form_readSummary]
  have h17 : ∀ k, k < 3 → g5.1 17 k = nI (f_le T n e k) := fun k hk => by rw [u17, t17, f3.2.1 17 (by omega)]; exact l2 k hk
  refine hR g5 (f4.tr f5) s5 ⟨h17 0 (by decide), h17 1 (by decide), h17 2 (by decide), l5 0 (by decide), l5 1 (by decide), l5 2 (by decide)⟩ ?_
  rw [u16]
  exact k4
set_option maxHeartbeats 4000000 in
set_option maxRecDepth 100000 in
theorem k_Form_readQuestion {d : Nat} {h : zm_M} {R : zm_R} {T : Nat → Nat} {n : Nat} {sp : Nat → Nat} {e : zt_S} (hp : zp_ok h.2) (hs : zt_s h T n e) (hw : zw_S sp) (hsp : ∀ k, k < 24 → h.1 29 k = nI (sp k)) (hR : ∀ h' : zm_M, zr_f h h' → zt_s h' T n (f_qe T n sp e) → zc_R h'.1 16 (f_qr T n sp e) → h'.1 16 3 = zt_w (f_w (t_c T n e)) → R none h') : zm_C (d + 6) TT m_Form_readQuestion [.inr (some 13), .inr (some 28)] h R := by
  obtain ⟨p0, p1, p2⟩ := zp_13 hp
  refine st_Form_readQuestion [43] 30 ?_
  simp only [↓zq, ↓reduceIte, zr_si2, zr_sr1, zr_cp2, zr_tl, zr_tn, shq, List.contains_nil, List.contains_cons, Nat.reduceBEq, Bool.false_or, Bool.or_false, Bool.true_or, Bool.false_eq_true, if_false, if_true, true_and, and_true, List.set_cons_zero, List.set_cons_succ, List.length_cons, List.length_nil, Nat.reduceAdd, Nat.reduceLeDiff, Nat.le_refl, Nat.zero_le, true_or, or_true, zn_cl, ↓jj_Form_readQuestion, p2]
  refine k_Cut_clear (zk_cutF hp) (fun g1 e1 e2 e3 e4 e5 => ?_)
  have f1 : zr_f h g1 := ⟨e1, fun a h1 h2 => e2 a (by omega), fun k hk => by rw [e2 1 (by omega)]⟩
  have s1 : zt_s g1 T n e := zt_s_i hs (by rw [e1]) (e2 1 (by omega)) (e2 2 (by omega))
  have q0 : g1.2 13 0 = some 1 ∧ g1.2 13 2 = some 16 := by rw [f1.1]; exact ⟨p0, p2⟩
  simp only [↓zq, ↓reduceIte, zr_si2, zr_sr1, zr_cp2, zr_tl, zr_tn, shq, List.contains_nil, List.contains_cons, Nat.reduceBEq, Bool.false_or, Bool.or_false, Bool.true_or, Bool.false_eq_true, if_false, if_true, true_and, and_true, List.set_cons_zero, List.set_cons_succ, List.length_cons, List.length_nil, Nat.reduceAdd, Nat.reduceLeDiff, Nat.le_refl, Nat.zero_le, true_or, or_true, zn_cl, ↓jj_Form_readQuestion, q0]
  refine k_Tape_peek s1 ?_
  simp only [↓zq, ↓reduceIte, zr_si2, zr_sr1, zr_cp2, zr_tl, zr_tn, shq, List.contains_nil, List.contains_cons, Nat.reduceBEq, Bool.false_or, Bool.or_false, Bool.true_or, Bool.false_eq_true, if_false, if_true, true_and, and_true, List.set_cons_zero, List.set_cons_succ, List.length_cons, List.length_nil, Nat.reduceAdd, Nat.reduceLeDiff, Nat.le_refl, Nat.zero_le, true_or, or_true, zn_cl, ↓jj_Form_readQuestion]
  refine k_Form_whatOf s1.c_le ?_
  simp only [↓zq, ↓reduceIte, zr_si2, zr_sr1, zr_cp2, zr_tl, zr_tn, shq, List.contains_nil, List.contains_cons, Nat.reduceBEq, Bool.false_or, Bool.or_false, Bool.true_or, Bool.false_eq_true, if_false, if_true, true_and, and_true, List.set_cons_zero, List.set_cons_succ, List.length_cons, List.length_nil, Nat.reduceAdd, Nat.reduceLeDiff, Nat.le_refl, Nat.zero_le, true_or, or_true, zn_cl, ↓jj_Form_readQuestion, q0]
  simp only [zr_si1, and_self, if_true]
  obtain ⟨g2, hg2⟩ : ∃ g2 : zm_M, g2 = zm_si g1 16 3 (zt_w (f_w (t_c T n e))) := ⟨_, rfl⟩
  rw [← hg2]
  have f2 : zr_f h g2 := by subst hg2; exact f1.s 16 3 (by omega) _
  have s2 : zt_s g2 T n e := by subst hg2; exact zt_s_i s1 rfl (by funext j; rw [zr_si1, if_neg (by omega)]) (by funext j; rw [zr_si1, if_neg (by omega)])
  have w2 : g2.1 16 3 = zt_w (f_w (t_c T n e)) := by subst hg2; rw [zr_si1, if_pos ⟨rfl, rfl⟩]
  have l2 : ∀ k, k < 3 → g2.1 18 k = 255 := fun k hk => by subst hg2; rw [zr_si1, if_neg (by omega)]; exact (e3 k hk).2
  clear hg2
  have fin : ∀ g3 : zm_M, zt_f g2 g3 → zt_s g3 T n (if f_w (t_c T n e) = 7 then t_fl 1 e else e) → zm_W (zm_md m_Form_readQuestion) (d + 6) TT R 43 [some (.inr (some 13)), some (.inr (some 28))] [] g3 := by
    intro g3 f3 s3
    have f3' := f2.tr f3.r
    have q0 : g3.2 13 0 = some 1 := by rw [f3'.1]; exact p0
    refine zm_go g_Form_readQuestion [43] 30 (by decide +kernel) ok_Form_readQuestion _ rfl ?_
    simp only [↓zq, ↓reduceIte, zr_si2, zr_sr1, zr_cp2, zr_tl, zr_tn, shq, List.contains_nil, List.contains_cons, Nat.reduceBEq, Bool.false_or, Bool.or_false, Bool.true_or, Bool.false_eq_true, if_false, if_true, true_and, and_true, List.set_cons_zero, List.set_cons_succ, List.length_cons, List.length_nil, Nat.reduceAdd, Nat.reduceLeDiff, Nat.le_refl, Nat.zero_le, true_or, or_true, zn_cl, ↓jj_Form_readQuestion, q0]
    refine k_Tape_step s3 (fun p hp => ?_) (fun g4 f4 s4 => ?_)
    · by_cases z : f_w (t_c T n e) = 7
      · rw [if_pos z] at hp
        exact absurd hp (t_st_fl p)
      · rw [if_neg z] at hp
        exact t_c_lt (T := T) (f_w_c z) p hp
    · have f4' := f3.tr f4
      have q0 : g4.2 13 0 = some 1 := by rw [f4'.1, f2.1]; exact p0
      simp only [↓zq, ↓reduceIte, zr_si2, zr_sr1, zr_cp2, zr_tl, zr_tn, shq, List.contains_nil, List.contains_cons, Nat.reduceBEq, Bool.false_or, Bool.or_false, Bool.true_or, Bool.false_eq_true, if_false, if_true, true_and, and_true, List.set_cons_zero, List.set_cons_succ, List.length_cons, List.length_nil, Nat.reduceAdd, Nat.reduceLeDiff, Nat.le_refl, Nat.zero_le, true_or, or_true, zn_cl, ↓jj_Form_readQuestion, q0]
      refine k_Tape_take (c := 58) s4 (by decide) (fun g5 f5 s5 => ?_)
      have f5 := f4'.tr f5
      simp only [↓zq, ↓reduceIte, zr_si2, zr_sr1, zr_cp2, zr_tl, zr_tn, shq, List.contains_nil, List.contains_cons, Nat.reduceBEq, Bool.false_or, Bool.or_false, Bool.true_or, Bool.false_eq_true, if_false, if_true, true_and, and_true, List.set_cons_zero, List.set_cons_succ, List.length_cons, List.length_nil, Nat.reduceAdd, Nat.reduceLeDiff, Nat.le_refl, Nat.zero_le, true_or, or_true, zn_cl, ↓jj_Form_readQuestion]
      refine k_Form_readLevels (by rw [f5.1, f2.1]; exact hp) s5 (fun g6 f6 s6 l6 t16 t18 t15 => ?_)
      have f6' := (f2.tr f5.r).tr f6
      simp only [↓zq, ↓reduceIte, zr_si2, zr_sr1, zr_cp2, zr_tl, zr_tn, shq, List.contains_nil, List.contains_cons, Nat.reduceBEq, Bool.false_or, Bool.or_false, Bool.true_or, Bool.false_eq_true, if_false, if_true, true_and, and_true, List.set_cons_zero, List.set_cons_succ, List.length_cons, List.length_nil, Nat.reduceAdd, Nat.reduceLeDiff, Nat.le_refl, Nat.zero_le, true_or, or_true, zn_cl, ↓jj_Form_readQuestion]
      refine k_Form_readSpans (sp := sp) (lets := f_255) (by rw [f6'.1]; exact hp) s6 hw (fun k hk => by rw [f6'.2.1 29 (by omega) (by omega)]; exact hsp k hk) (fun k hk => by rw [t18, f5.2.1 18 (by omega)]; exact l2 k hk) (fun g7 f7 s7 l7 u16 u17 => ?_)
      simp only [↓zq, ↓reduceIte, zr_si2, zr_sr1, zr_cp2, zr_tl, zr_tn, shq, List.contains_nil, List.contains_cons, Nat.reduceBEq, Bool.false_or, Bool.or_false, Bool.true_or, Bool.false_eq_true, if_false, if_true, true_and, and_true, List.set_cons_zero, List.set_cons_succ, List.length_cons, List.length_nil, Nat.reduceAdd, Nat.reduceLeDiff, Nat.le_refl, Nat.zero_le, true_or, or_true, zn_cl, ↓jj_Form_readQuestion]
      have h17 : ∀ k, k < 3 → g7.1 17 k = nI (f_le T n (f_qm T n e) k) := fun k hk => by rw [u17]; exact l6 k hk
      refine hR g7 (f6'.tr f7) s7 ⟨h17 0 (by decide), h17 1 (by decide), h17 2 (by decide), l7 0 (by decide), l7 1 (by decide), l7 2 (by decide)⟩ ?_
      rw [u16, t16, f5.2.1 16 (by omega)]
      exact w2
  refine ⟨fun z => fin g2 (zt_f.rf g2) ?_, fun z => ?_⟩
  · rw [if_neg (fun q => z (by rw [q]; rfl))]
    exact s2
  · have q0 : g2.2 13 0 = some 1 := by rw [f2.1]; exact p0
    have h7 : f_w (t_c T n e) = 7 := by
      have wl := f_w_le (t_c T n e)
      by_cases q : f_w (t_c T n e) = 7
      · exact q
      · have : zt_w (f_w (t_c T n e)) = nI (f_w (t_c T n e)) := if_neg q
        rw [this] at z
        exact absurd (show nI (f_w (t_c T n e)) < 0 by rw [z]; decide) (nI_pos (by omega))
    refine k_Tape_fail (f := 1) s2 (by decide) (by decide) (fun g3 f3 s3 => ?_)
    simp only [↓zq, ↓reduceIte, zr_si2, zr_sr1, zr_cp2, zr_tl, zr_tn, shq, List.contains_nil, List.contains_cons, Nat.reduceBEq, Bool.false_or, Bool.or_false, Bool.true_or, Bool.false_eq_true, if_false, if_true, true_and, and_true, List.set_cons_zero, List.set_cons_succ, List.length_cons, List.length_nil, Nat.reduceAdd, Nat.reduceLeDiff, Nat.le_refl, Nat.zero_le, true_or, or_true, zn_cl, ↓jj_Form_readQuestion]
    refine fin g3 f3 ?_
    rw [if_pos h7]
    exact s3
