/-! spans, levels, parts (class) -/
def f_s2 (T : Nat → Nat) (n told : Nat) (e : zt_S) : zt_S := if told.testBit (f_sd T n e).1 = true then t_fa 6 (t_pl e) (f_sd T n e).2 else (f_sd T n e).2
def f_s3 (T : Nat → Nat) (n told : Nat) (e : zt_S) : Nat × zt_S := f_lv T n 1 (f_s2 T n told e)
def f_s4 (T : Nat → Nat) (n told : Nat) (e : zt_S) : Nat × zt_S := f_dg T n 7 (t_tk T n 61 (f_s3 T n told e).2)
def f_s5 (T : Nat → Nat) (n told : Nat) (e : zt_S) : zt_S := t_tk T n 45 (f_s4 T n told e).2
def f_s6 (T : Nat → Nat) (n told : Nat) (e : zt_S) : Nat × zt_S := f_dg T n 7 (f_s5 T n told e)
def f_s7 (T : Nat → Nat) (n told : Nat) (e : zt_S) : zt_S := if (f_s6 T n told e).1 < (f_s4 T n told e).1 then t_fa 3 (t_pl (f_s5 T n told e)) (f_s6 T n told e).2 else (f_s6 T n told e).2
def f_sb (sp : Nat → Nat) (side lev lo hi : Nat) : Nat := zs_bits (fun v => decide (lo ≤ zs_num sp side lev v ∧ zs_num sp side lev v ≤ hi)) 8
def f_sl (T : Nat → Nat) (n : Nat) (sp : Nat → Nat) (told : Nat) (lets : Nat → Nat) (e : zt_S) : Nat → Nat := fun s => if s = (f_sd T n e).1 then f_sb sp (f_sd T n e).1 (f_s3 T n told e).1 (f_s4 T n told e).1 (f_s6 T n told e).1 else lets s
theorem t_fl_d (f : Nat) (x : Nat × Nat) : t_fl f (.inl x) = .inl x := rfl
theorem t_fa_d (f q : Nat) (x : Nat × Nat) : t_fa f q (.inl x) = .inl x := rfl
theorem f_s2_d (T : Nat → Nat) (n told : Nat) (x : Nat × Nat) : f_s2 T n told (.inl x) = .inl x := by
  unfold f_s2
  rw [f_sd_d]
  dsimp only
  split <;> rfl
theorem f_s3_d (T : Nat → Nat) (n told : Nat) (x : Nat × Nat) : f_s3 T n told (.inl x) = (0, .inl x) := by
  unfold f_s3
  rw [f_s2_d, f_lv_d T n (by decide)]
theorem f_s4_d (T : Nat → Nat) (n told : Nat) (x : Nat × Nat) : f_s4 T n told (.inl x) = (0, .inl x) := by
  unfold f_s4
  rw [f_s3_d, t_tk_d T n (by decide), f_dg_d T n (by decide)]
theorem f_s5_d (T : Nat → Nat) (n told : Nat) (x : Nat × Nat) : f_s5 T n told (.inl x) = .inl x := by
  unfold f_s5
  rw [f_s4_d, t_tk_d T n (by decide)]
set_option maxHeartbeats 4000000 in
set_option maxRecDepth 100000 in
theorem k_Form_readSpan {d : Nat} {h : zm_M} {R : zm_R} {T : Nat → Nat} {n told : Nat} {sp lets : Nat → Nat} {e : zt_S} (hp : zp_ok h.2) (hs : zt_s h T n e) (ht : told < 8) (hw : zw_S sp) (hsp : ∀ k, k < 24 → h.1 29 k = nI (sp k)) (hlt : ∀ k, k < 3 → h.1 18 k = nI (lets k)) (hR : ∀ h' : zm_M, zr_f h h' → zt_s h' T n (f_s7 T n told e) → (∀ k, k < 3 → h'.1 18 k = nI (f_sl T n sp told lets e k)) → h'.1 16 = h.1 16 → h'.1 17 = h.1 17 → R (some (.inl (nI (2 ^ (f_sd T n e).1)))) h') : zm_C (d + 4) TT m_Form_readSpan [.inr (some 13), .inl (nI told), .inr (some 28)] h R := by
  obtain ⟨p0, p1, p2⟩ := zp_13 hp
  have s3 := f_sd_lt T n e
  have l1 := f_lv_le T n 1 (f_s2 T n told e)
  have d4 := f_dg_le T n 7 (t_tk T n 61 (f_s3 T n told e).2)
  have d6 := f_dg_le T n 7 (f_s5 T n told e)
  have eb : (1 : Int32) <<< (nI (f_sd T n e).1 &&& 31) = nI (2 ^ (f_sd T n e).1) := zn_s1 _ (by omega)
  have fin : ∀ (g : zm_M) (l3 l7 : Option zm_V), zt_f h g → zt_s g T n (f_s7 T n told e) → zm_W (zm_md m_Form_readSpan) (d + 4) TT R 100 [some (.inr (some 13)), some (.inl (nI told)), some (.inr (some 28)), l3, some (.inl (nI (f_sd T n e).1)), some (.inl (nI (f_s3 T n told e).1)), some (.inl (nI (f_s4 T n told e).1)), l7, some (.inl (nI (f_s6 T n told e).1))] [] g := by
    intro g l3 l7 hf hsg
    have q2 : g.2 13 2 = some 16 := by rw [hf.1]; exact p2
    refine zm_go g_Form_readSpan [33, 100] 30 (by decide +kernel) ok_Form_readSpan _ rfl ?_
    simp only [↓zq, ↓reduceIte, zr_si2, zr_sr1, zr_cp2, zr_tl, zr_tn, shq, List.contains_nil, List.contains_cons, Nat.reduceBEq, Bool.false_or, Bool.or_false, Bool.true_or, Bool.false_eq_true, if_false, if_true, true_and, and_true, List.set_cons_zero, List.set_cons_succ, List.length_cons, List.length_nil, Nat.reduceAdd, Nat.reduceLeDiff, Nat.le_refl, Nat.zero_le, true_or, or_true, zn_cl, ↓jj_Form_readSpan, q2]
    refine k_Shape_valuesWithin (a := 28) (sp := sp) (zk_shp28 (by rw [hf.1]; exact hp)) hw (fun v hv => by rw [hf.2.1 29 (by omega)]; exact hsp v hv) s3 (show (f_s3 T n told e).1 ≤ 2 from Nat.le_trans l1 (by decide)) (show (f_s4 T n told e).1 < 8 from Nat.lt_succ_of_le d4) (show (f_s6 T n told e).1 < 8 from Nat.lt_succ_of_le d6) ?_
    simp only [↓zq, ↓reduceIte, zr_si2, zr_sr1, zr_cp2, zr_tl, zr_tn, shq, List.contains_nil, List.contains_cons, Nat.reduceBEq, Bool.false_or, Bool.or_false, Bool.true_or, Bool.false_eq_true, if_false, if_true, true_and, and_true, List.set_cons_zero, List.set_cons_succ, List.length_cons, List.length_nil, Nat.reduceAdd, Nat.reduceLeDiff, Nat.le_refl, Nat.zero_le, true_or, or_true, zn_cl, ↓jj_Form_readSpan, q2]
    refine k_Cut_tellLets (zk_cutF (by rw [hf.1]; exact hp)) s3 ?_
    simp only [↓zq, ↓reduceIte, zr_si2, zr_sr1, zr_cp2, zr_tl, zr_tn, shq, List.contains_nil, List.contains_cons, Nat.reduceBEq, Bool.false_or, Bool.or_false, Bool.true_or, Bool.false_eq_true, if_false, if_true, true_and, and_true, List.set_cons_zero, List.set_cons_succ, List.length_cons, List.length_nil, Nat.reduceAdd, Nat.reduceLeDiff, Nat.le_refl, Nat.zero_le, true_or, or_true, zn_cl, ↓jj_Form_readSpan, eb]
    refine hR _ (hf.r.s 18 _ (by omega) _) (zt_s_i hsg rfl ?_ ?_) (fun k hk => ?_) ?_ ?_
    · funext j; rw [zr_si1, if_neg (by omega)]
    · funext j; rw [zr_si1, if_neg (by omega)]
    · rw [zr_si1]
      unfold f_sl
      by_cases z : k = (f_sd T n e).1
      · rw [if_pos ⟨rfl, z⟩, if_pos z]
        rfl
      · rw [if_neg (fun q => z q.2), if_neg z, hf.2.1 18 (by omega)]
        exact hlt k hk
    · funext j; rw [zr_si1, if_neg (by omega), hf.2.1 16 (by omega)]
    · funext j; rw [zr_si1, if_neg (by omega), hf.2.1 17 (by omega)]
  have mid : ∀ (g : zm_M) (l3 : Option zm_V), zt_f h g → zt_s g T n (f_s2 T n told e) → zm_W (zm_md m_Form_readSpan) (d + 4) TT R 33 [some (.inr (some 13)), some (.inl (nI told)), some (.inr (some 28)), l3, some (.inl (nI (f_sd T n e).1)), none, none, none, none] [] g := by
    intro g l3 hf hsg
    refine zm_go g_Form_readSpan [33, 100] 30 (by decide +kernel) ok_Form_readSpan _ rfl ?_
    simp only [↓zq, ↓reduceIte, zr_si2, zr_sr1, zr_cp2, zr_tl, zr_tn, shq, List.contains_nil, List.contains_cons, Nat.reduceBEq, Bool.false_or, Bool.or_false, Bool.true_or, Bool.false_eq_true, if_false, if_true, true_and, and_true, List.set_cons_zero, List.set_cons_succ, List.length_cons, List.length_nil, Nat.reduceAdd, Nat.reduceLeDiff, Nat.le_refl, Nat.zero_le, true_or, or_true, zn_cl, ↓jj_Form_readSpan]
    refine k_Form_readLevel (m := 1) (by rw [hf.1]; exact hp) (by decide) hsg (fun g1 f1 s1 => ?_)
    have f1 := hf.tr f1
    have q0 : g1.2 13 0 = some 1 := by rw [f1.1]; exact p0
    simp only [↓zq, ↓reduceIte, zr_si2, zr_sr1, zr_cp2, zr_tl, zr_tn, shq, List.contains_nil, List.contains_cons, Nat.reduceBEq, Bool.false_or, Bool.or_false, Bool.true_or, Bool.false_eq_true, if_false, if_true, true_and, and_true, List.set_cons_zero, List.set_cons_succ, List.length_cons, List.length_nil, Nat.reduceAdd, Nat.reduceLeDiff, Nat.le_refl, Nat.zero_le, true_or, or_true, zn_cl, ↓jj_Form_readSpan, q0]
    refine k_Tape_take (c := 61) s1 (by decide) (fun g2 f2 s2 => ?_)
    have f2 := f1.tr f2
    simp only [↓zq, ↓reduceIte, zr_si2, zr_sr1, zr_cp2, zr_tl, zr_tn, shq, List.contains_nil, List.contains_cons, Nat.reduceBEq, Bool.false_or, Bool.or_false, Bool.true_or, Bool.false_eq_true, if_false, if_true, true_and, and_true, List.set_cons_zero, List.set_cons_succ, List.length_cons, List.length_nil, Nat.reduceAdd, Nat.reduceLeDiff, Nat.le_refl, Nat.zero_le, true_or, or_true, zn_cl, ↓jj_Form_readSpan]
    refine k_Form_readDigit (m := 7) (by rw [f2.1]; exact hp) (by decide) s2 (fun g3 f3 s3 => ?_)
    have f3 := f2.tr f3
    have q0 : g3.2 13 0 = some 1 := by rw [f3.1]; exact p0
    simp only [↓zq, ↓reduceIte, zr_si2, zr_sr1, zr_cp2, zr_tl, zr_tn, shq, List.contains_nil, List.contains_cons, Nat.reduceBEq, Bool.false_or, Bool.or_false, Bool.true_or, Bool.false_eq_true, if_false, if_true, true_and, and_true, List.set_cons_zero, List.set_cons_succ, List.length_cons, List.length_nil, Nat.reduceAdd, Nat.reduceLeDiff, Nat.le_refl, Nat.zero_le, true_or, or_true, zn_cl, ↓jj_Form_readSpan, q0]
    refine k_Tape_take (c := 45) s3 (by decide) (fun g4 f4 s4 => ?_)
    have f4 := f3.tr f4
    have q0 : g4.2 13 0 = some 1 := by rw [f4.1]; exact p0
    simp only [↓zq, ↓reduceIte, zr_si2, zr_sr1, zr_cp2, zr_tl, zr_tn, shq, List.contains_nil, List.contains_cons, Nat.reduceBEq, Bool.false_or, Bool.or_false, Bool.true_or, Bool.false_eq_true, if_false, if_true, true_and, and_true, List.set_cons_zero, List.set_cons_succ, List.length_cons, List.length_nil, Nat.reduceAdd, Nat.reduceLeDiff, Nat.le_refl, Nat.zero_le, true_or, or_true, zn_cl, ↓jj_Form_readSpan, q0]
    refine k_Form_readDigit (m := 7) (by rw [f4.1]; exact hp) (by decide) s4 (fun g5 f5 s5 => ?_)
    have f5 := f4.tr f5
    have q0 : g5.2 13 0 = some 1 := by rw [f5.1]; exact p0
    have ele : (nI (f_s4 T n told e).1 ≤ nI (f_s6 T n told e).1) = ((f_s4 T n told e).1 ≤ (f_s6 T n told e).1) := zn_le (by have : (f_s4 T n told e).1 ≤ 7 := d4; omega) (by have : (f_s6 T n told e).1 ≤ 7 := d6; omega)
    simp only [↓zq, ↓reduceIte, zr_si2, zr_sr1, zr_cp2, zr_tl, zr_tn, shq, List.contains_nil, List.contains_cons, Nat.reduceBEq, Bool.false_or, Bool.or_false, Bool.true_or, Bool.false_eq_true, if_false, if_true, true_and, and_true, List.set_cons_zero, List.set_cons_succ, List.length_cons, List.length_nil, Nat.reduceAdd, Nat.reduceLeDiff, Nat.le_refl, Nat.zero_le, true_or, or_true, zn_cl, ↓jj_Form_readSpan, q0]
    refine ⟨fun z => ?_, fun z => ?_⟩
    · refine fin g5 _ _ f5 ?_
      unfold f_s7
      have z' : (f_s4 T n told e).1 ≤ (f_s6 T n told e).1 := by rw [← ele]; exact z
      rw [if_neg (by omega)]
      exact s5
    · have z' : ¬ (f_s4 T n told e).1 ≤ (f_s6 T n told e).1 := by rw [← ele]; exact z
      have al : ∀ p, (f_s6 T n told e).2 = .inr p → ∀ x, f_s5 T n told e ≠ .inl x := fun p hp x hx => by
        unfold f_s6 at hp
        rw [hx, f_dg_d T n (by decide)] at hp
        cases hp
      refine k_Tape_failAt (f := 3) (q := t_pl (f_s5 T n told e)) s5 (by decide) (by decide) (fun p hp => zt_s_pl s4 (al p hp)) (fun g6 f6 s6 => ?_)
      simp only [↓zq, ↓reduceIte, zr_si2, zr_sr1, zr_cp2, zr_tl, zr_tn, shq, List.contains_nil, List.contains_cons, Nat.reduceBEq, Bool.false_or, Bool.or_false, Bool.true_or, Bool.false_eq_true, if_false, if_true, true_and, and_true, List.set_cons_zero, List.set_cons_succ, List.length_cons, List.length_nil, Nat.reduceAdd, Nat.reduceLeDiff, Nat.le_refl, Nat.zero_le, true_or, or_true, zn_cl, ↓jj_Form_readSpan]
      refine fin g6 _ _ (f5.tr f6) ?_
      unfold f_s7
      rw [if_pos (by omega)]
      exact s6
  refine st_Form_readSpan [33, 100] 30 ?_
  simp only [↓zq, ↓reduceIte, zr_si2, zr_sr1, zr_cp2, zr_tl, zr_tn, shq, List.contains_nil, List.contains_cons, Nat.reduceBEq, Bool.false_or, Bool.or_false, Bool.true_or, Bool.false_eq_true, if_false, if_true, true_and, and_true, List.set_cons_zero, List.set_cons_succ, List.length_cons, List.length_nil, Nat.reduceAdd, Nat.reduceLeDiff, Nat.le_refl, Nat.zero_le, true_or, or_true, zn_cl, ↓jj_Form_readSpan, p0]
  refine k_Form_readSide hp hs (fun h1 f1 s1 => ?_)
  have q0 : h1.2 13 0 = some 1 := by rw [f1.1]; exact p0
  have ez : (nI told >>> (nI (f_sd T n e).1 &&& 31) &&& 1 = 0) = (told.testBit (f_sd T n e).1 = false) := zn_bitN (by omega) (by omega)
  simp only [↓zq, ↓reduceIte, zr_si2, zr_sr1, zr_cp2, zr_tl, zr_tn, shq, List.contains_nil, List.contains_cons, Nat.reduceBEq, Bool.false_or, Bool.or_false, Bool.true_or, Bool.false_eq_true, if_false, if_true, true_and, and_true, List.set_cons_zero, List.set_cons_succ, List.length_cons, List.length_nil, Nat.reduceAdd, Nat.reduceLeDiff, Nat.le_refl, Nat.zero_le, true_or, or_true, zn_cl, ↓jj_Form_readSpan, q0, ez]
  refine ⟨fun z => mid h1 _ f1 ?_, fun z => ?_⟩
  · unfold f_s2
    rw [if_neg (by rw [z]; decide)]
    exact s1
  · have al : ∀ p, (f_sd T n e).2 = .inr p → ∀ x, e ≠ .inl x := fun p hp x hx => by
      subst hx
      rw [f_sd_d] at hp
      cases hp
    refine k_Tape_failAt (f := 6) (q := t_pl e) s1 (by decide) (by decide) (fun p hp => zt_s_pl hs (al p hp)) (fun g hf hsg => ?_)
    simp only [↓zq, ↓reduceIte, zr_si2, zr_sr1, zr_cp2, zr_tl, zr_tn, shq, List.contains_nil, List.contains_cons, Nat.reduceBEq, Bool.false_or, Bool.or_false, Bool.true_or, Bool.false_eq_true, if_false, if_true, true_and, and_true, List.set_cons_zero, List.set_cons_succ, List.length_cons, List.length_nil, Nat.reduceAdd, Nat.reduceLeDiff, Nat.le_refl, Nat.zero_le, true_or, or_true, zn_cl, ↓jj_Form_readSpan]
    refine mid g _ (f1.tr hf) ?_
    unfold f_s2
    rw [if_pos (by simpa using z)]
    exact hsg
/-- spans, f of them at most -/
def f_ss (T : Nat → Nat) (n : Nat) (sp : Nat → Nat) : Nat → Nat → (Nat → Nat) → zt_S → (Nat → Nat) × zt_S
  | 0, _, lets, e => (lets, e)
  | f + 1, told, lets, e => if t_c T n e = 59 then f_ss T n sp f (told ||| 2 ^ (f_sd T n (t_st e)).1) (f_sl T n sp told lets (t_st e)) (f_s7 T n told (t_st e)) else (lets, e)
set_option maxHeartbeats 4000000 in
set_option maxRecDepth 100000 in
theorem k_Form_readSpans {d : Nat} {h : zm_M} {R : zm_R} {T : Nat → Nat} {n : Nat} {sp lets : Nat → Nat} {e : zt_S} (hp : zp_ok h.2) (hs : zt_s h T n e) (hw : zw_S sp) (hsp : ∀ k, k < 24 → h.1 29 k = nI (sp k)) (hlt : ∀ k, k < 3 → h.1 18 k = nI (lets k)) (hR : ∀ h' : zm_M, zr_f h h' → zt_s h' T n (t_en n (f_ss T n sp 80 0 lets e).2) → (∀ k, k < 3 → h'.1 18 k = nI ((f_ss T n sp 80 0 lets e).1 k)) → h'.1 16 = h.1 16 → h'.1 17 = h.1 17 → R none h') : zm_C (d + 5) TT m_Form_readSpans [.inr (some 13), .inr (some 28)] h R := by
  obtain ⟨p0, p1, p2⟩ := zp_13 hp
  have out : ∀ (g : zm_M) (l2 l3 : Option zm_V) (lets' : Nat → Nat) (e' : zt_S), zr_f h g → zt_s g T n e' → (∀ k, k < 3 → g.1 18 k = nI (lets' k)) → g.1 16 = h.1 16 → g.1 17 = h.1 17 → f_ss T n sp 80 0 lets e = (lets', e') → zm_W (zm_md m_Form_readSpans) (d + 5) TT R 44 [some (.inr (some 13)), some (.inr (some 28)), l2, l3] [] g := by
    intro g l2 l3 lets' e' hf hs' hl h16 h17 he
    have q0 : g.2 13 0 = some 1 := by rw [hf.1]; exact p0
    rw [he] at hR
    refine zm_go g_Form_readSpans [4, 44] 30 (by decide +kernel) ok_Form_readSpans _ rfl ?_
    simp only [↓zq, ↓reduceIte, zr_si2, zr_sr1, zr_cp2, zr_tl, zr_tn, shq, List.contains_nil, List.contains_cons, Nat.reduceBEq, Bool.false_or, Bool.or_false, Bool.true_or, Bool.false_eq_true, if_false, if_true, true_and, and_true, List.set_cons_zero, List.set_cons_succ, List.length_cons, List.length_nil, Nat.reduceAdd, Nat.reduceLeDiff, Nat.le_refl, Nat.zero_le, true_or, or_true, zn_cl, ↓jj_Form_readSpans, q0]
    refine k_Tape_takeEnd hs' (fun g2 f2 s2 => ?_)
    simp only [↓zq, ↓reduceIte, zr_si2, zr_sr1, zr_cp2, zr_tl, zr_tn, shq, List.contains_nil, List.contains_cons, Nat.reduceBEq, Bool.false_or, Bool.or_false, Bool.true_or, Bool.false_eq_true, if_false, if_true, true_and, and_true, List.set_cons_zero, List.set_cons_succ, List.length_cons, List.length_nil, Nat.reduceAdd, Nat.reduceLeDiff, Nat.le_refl, Nat.zero_le, true_or, or_true, zn_cl, ↓jj_Form_readSpans]
    exact hR g2 (hf.tr f2.r) s2 (fun k hk => by rw [f2.2.1 18 (by omega)]; exact hl k hk) ((f2.2.1 16 (by omega)).trans h16) ((f2.2.1 17 (by omega)).trans h17)
  have loop : ∀ (f i told : Nat) (g : zm_M) (lets' : Nat → Nat) (e' : zt_S), i + f = 80 → told < 8 → zr_f h g → zt_s g T n e' → (∀ k, k < 3 → g.1 18 k = nI (lets' k)) → g.1 16 = h.1 16 → g.1 17 = h.1 17 → f_ss T n sp 80 0 lets e = f_ss T n sp f told lets' e' → zm_W (zm_md m_Form_readSpans) (d + 5) TT R 4 [some (.inr (some 13)), some (.inr (some 28)), some (.inl (nI told)), some (.inl (nI i))] [] g := by
    intro f
    induction f with
    | zero =>
      intro i told g lets' e' hi ht hf hs' hl h16 h17 he
      have : i = 80 := by omega
      subst this
      refine zm_go g_Form_readSpans [4, 44] 30 (by decide +kernel) ok_Form_readSpans _ rfl ?_
      simp only [↓zq, ↓reduceIte, zr_si2, zr_sr1, zr_cp2, zr_tl, zr_tn, shq, List.contains_nil, List.contains_cons, Nat.reduceBEq, Bool.false_or, Bool.or_false, Bool.true_or, Bool.false_eq_true, if_false, if_true, true_and, and_true, List.set_cons_zero, List.set_cons_succ, List.length_cons, List.length_nil, Nat.reduceAdd, Nat.reduceLeDiff, Nat.le_refl, Nat.zero_le, true_or, or_true, zn_cl, ↓jj_Form_readSpans]
      exact ⟨fun _ => out g _ _ lets' e' hf hs' hl h16 h17 he, fun z => absurd (by decide) z⟩
    | succ f ih =>
      intro i told g lets' e' hi ht hf hs' hl h16 h17 he
      have q0 : g.2 13 0 = some 1 := by rw [hf.1]; exact p0
      refine zm_go g_Form_readSpans [4, 44] 30 (by decide +kernel) ok_Form_readSpans _ rfl ?_
      simp only [↓zq, ↓reduceIte, zr_si2, zr_sr1, zr_cp2, zr_tl, zr_tn, shq, List.contains_nil, List.contains_cons, Nat.reduceBEq, Bool.false_or, Bool.or_false, Bool.true_or, Bool.false_eq_true, if_false, if_true, true_and, and_true, List.set_cons_zero, List.set_cons_succ, List.length_cons, List.length_nil, Nat.reduceAdd, Nat.reduceLeDiff, Nat.le_refl, Nat.zero_le, true_or, or_true, zn_cl, ↓jj_Form_readSpans, q0]
      refine ⟨fun z => absurd z (nI_ge (b := 80) (by omega) (by decide)), fun _ => ?_⟩
      refine k_Tape_peek hs' ?_
      have e59' : (zt_v (t_c T n e') = 59) = (t_c T n e' = 59) := zt_v_eq (k := 59) hs'.c_le (by decide)
      simp only [↓zq, ↓reduceIte, zr_si2, zr_sr1, zr_cp2, zr_tl, zr_tn, shq, List.contains_nil, List.contains_cons, Nat.reduceBEq, Bool.false_or, Bool.or_false, Bool.true_or, Bool.false_eq_true, if_false, if_true, true_and, and_true, List.set_cons_zero, List.set_cons_succ, List.length_cons, List.length_nil, Nat.reduceAdd, Nat.reduceLeDiff, Nat.le_refl, Nat.zero_le, true_or, or_true, zn_cl, ↓jj_Form_readSpans, q0, e59']
      unfold f_ss at he
      refine ⟨fun z => ?_, fun z => ?_⟩
      · rw [if_neg z] at he
        exact out g _ _ _ _ hf hs' hl h16 h17 he
      · rw [if_pos z] at he
        refine k_Tape_step hs' (t_c_lt (T := T) (by omega)) (fun g2 f2 s2 => ?_)
        have f2' := hf.tr f2.r
        simp only [↓zq, ↓reduceIte, zr_si2, zr_sr1, zr_cp2, zr_tl, zr_tn, shq, List.contains_nil, List.contains_cons, Nat.reduceBEq, Bool.false_or, Bool.or_false, Bool.true_or, Bool.false_eq_true, if_false, if_true, true_and, and_true, List.set_cons_zero, List.set_cons_succ, List.length_cons, List.length_nil, Nat.reduceAdd, Nat.reduceLeDiff, Nat.le_refl, Nat.zero_le, true_or, or_true, zn_cl, ↓jj_Form_readSpans]
        refine k_Form_readSpan (by rw [f2'.1]; exact hp) s2 ht hw (fun k hk => by rw [f2'.2.1 29 (by omega) (by omega)]; exact hsp k hk) (fun k hk => by rw [f2.2.1 18 (by omega)]; exact hl k hk) (fun g3 f3 s3 l3 t16 t17 => ?_)
        simp only [↓zq, ↓reduceIte, zr_si2, zr_sr1, zr_cp2, zr_tl, zr_tn, shq, List.contains_nil, List.contains_cons, Nat.reduceBEq, Bool.false_or, Bool.or_false, Bool.true_or, Bool.false_eq_true, if_false, if_true, true_and, and_true, List.set_cons_zero, List.set_cons_succ, List.length_cons, List.length_nil, Nat.reduceAdd, Nat.reduceLeDiff, Nat.le_refl, Nat.zero_le, true_or, or_true, zn_cl, ↓jj_Form_readSpans, zn_or, nI_1]
        have s3l := f_sd_lt T n (t_st e')
        refine ih (i + 1) _ g3 _ _ (by omega) (Nat.or_lt_two_pow (n := 3) ht (Nat.pow_lt_pow_right (by decide) s3l)) (f2'.tr f3) s3 l3 (t16.trans ((f2.2.1 16 (by omega)).trans h16)) (t17.trans ((f2.2.1 17 (by omega)).trans h17)) he
  refine st_Form_readSpans [4, 44] 30 ?_
  simp only [↓zq, ↓reduceIte, zr_si2, zr_sr1, zr_cp2, zr_tl, zr_tn, shq, List.contains_nil, List.contains_cons, Nat.reduceBEq, Bool.false_or, Bool.or_false, Bool.true_or, Bool.false_eq_true, if_false, if_true, true_and, and_true, List.set_cons_zero, List.set_cons_succ, List.length_cons, List.length_nil, Nat.reduceAdd, Nat.reduceLeDiff, Nat.le_refl, Nat.zero_le, true_or, or_true, zn_cl, ↓jj_Form_readSpans]
  exact loop 80 0 0 h lets e (by omega) (by decide) (zr_f.rf h) hs hlt rfl rfl rfl
