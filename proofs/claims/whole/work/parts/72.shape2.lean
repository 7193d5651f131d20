theorem f_sd_d (T : Nat → Nat) (n : Nat) (x : Nat × Nat) : f_sd T n (.inl x) = (0, .inl x) := if_neg (by rw [t_c_d]; omega)
theorem f_dg_d (T : Nat → Nat) (n : Nat) {m : Nat} (hm : m ≤ 9) (x : Nat × Nat) : f_dg T n m (.inl x) = (0, .inl x) := if_neg (by rw [t_c_d]; omega)
theorem f_lv_d (T : Nat → Nat) (n : Nat) {m : Nat} (hm : m ≤ 9) (x : Nat × Nat) : f_lv T n m (.inl x) = (0, .inl x) := by
  unfold f_lv
  rw [if_neg (by rw [t_c_d]; omega)]
  exact f_dg_d T n hm x
theorem t_tk_d (T : Nat → Nat) (n : Nat) {c : Nat} (hc : c < 256) (x : Nat × Nat) : t_tk T n c (.inl x) = .inl x := if_neg (by rw [t_c_d]; omega)
theorem zs_and2 (a i : Nat) : (a &&& 2 ^ i = 0) ↔ a.testBit i = false := by
  constructor
  · intro h
    have := congrArg (fun z => z.testBit i) h
    simpa [Nat.testBit_and, Nat.testBit_two_pow_self] using this
  · intro h
    apply Nat.eq_of_testBit_eq
    intro j
    rw [Nat.testBit_and, Nat.testBit_two_pow, Nat.zero_testBit]
    by_cases z : i = j
    · subst z
      rw [h]
      rfl
    · simp [z]
/-- a line of a shape -/
def f_ln_ix (T : Nat → Nat) (n : Nat) (e : zt_S) : Nat := 8 * (f_sd T n e).1 + (f_dg T n 7 (f_sd T n e).2).1
def f_ln_e (T : Nat → Nat) (n told : Nat) (e : zt_S) : zt_S := if told.testBit (f_ln_ix T n e) = true then t_fa 6 (t_pl e) (f_dg T n 7 (f_sd T n e).2).2 else (f_dg T n 7 (f_sd T n e).2).2
def f_ln_c (T : Nat → Nat) (n told : Nat) (e : zt_S) : Nat × zt_S := f_dg T n 3 (t_tk T n 61 (f_ln_e T n told e))
def f_ln_s (T : Nat → Nat) (n told : Nat) (sp : Nat → Nat) (e : zt_S) : Nat → Nat := fun k => if k = f_ln_ix T n e then (f_ln_c T n told e).1 else sp k
theorem f_ln_lt (T : Nat → Nat) (n : Nat) (e : zt_S) : f_ln_ix T n e < 24 := by
  have h1 := f_sd_lt T n e
  have h2 := f_dg_le T n 7 (f_sd T n e).2
  unfold f_ln_ix
  omega
/-- readers of forms change the tape's place and fault, the reader's shape and cut -/
def zr_f (h h' : zm_M) : Prop := h'.2 = h.2 ∧ (∀ a, a ≠ 1 → (a < 15 ∨ 18 < a) → h'.1 a = h.1 a) ∧ ∀ k, k < 3 → h'.1 1 k = h.1 1 k
theorem zr_f.rf (h : zm_M) : zr_f h h := ⟨rfl, fun _ _ _ => rfl, fun _ _ => rfl⟩
theorem zr_f.tr {h h' h'' : zm_M} (a : zr_f h h') (b : zr_f h' h'') : zr_f h h'' := ⟨b.1.trans a.1, fun x h1 h2 => (b.2.1 x h1 h2).trans (a.2.1 x h1 h2), fun k hk => (b.2.2 k hk).trans (a.2.2 k hk)⟩
theorem zt_f.r {h h' : zm_M} (a : zt_f h h') : zr_f h h' := ⟨a.1, fun x h1 _ => a.2.1 x h1, a.2.2⟩
theorem zr_f.s {h h' : zm_M} (a : zr_f h h') (c k : Nat) (hc : 15 ≤ c ∧ c ≤ 18) (x : Int32) : zr_f h (zm_si h' c k x) := ⟨a.1, fun q h1 h2 => by funext j; rw [zr_si1, if_neg (by omega), a.2.1 q h1 h2], fun j hj => by rw [zr_si1, if_neg (by omega), a.2.2 j hj]⟩
theorem zt_s_i {h h' : zm_M} {T : Nat → Nat} {n : Nat} {e : zt_S} (hs : zt_s h T n e) (h2 : h'.2 1 0 = h.2 1 0) (h1 : h'.1 1 = h.1 1) (h3 : h'.1 2 = h.1 2) : zt_s h' T n e := by
  unfold zt_s at *
  rw [h2, h1, h3]
  exact hs
theorem zt_s_pl {h : zm_M} {T : Nat → Nat} {n : Nat} {e : zt_S} (hs : zt_s h T n e) (ha : ∀ x, e ≠ .inl x) : h.1 1 3 = nI (t_pl e) ∧ t_pl e ≤ n := by
  cases e with
  | inl x => exact absurd rfl (ha x)
  | inr p => exact ⟨hs.2.2.2.2.1, hs.2.2.2.2.2.1⟩
set_option maxHeartbeats 4000000 in
set_option maxRecDepth 100000 in
theorem k_Form_readLine {d : Nat} {h : zm_M} {R : zm_R} {T : Nat → Nat} {n told : Nat} {sp : Nat → Nat} {e : zt_S} (hp : zp_ok h.2) (hs : zt_s h T n e) (ht : told < 2 ^ 24) (hsp : ∀ k, k < 24 → h.1 15 k = nI (sp k)) (hR : ∀ h' : zm_M, zr_f h h' → zt_s h' T n (f_ln_c T n told e).2 → (∀ k, k < 24 → h'.1 15 k = nI (f_ln_s T n told sp e k)) → R (some (.inl (nI (2 ^ f_ln_ix T n e)))) h') : zm_C (d + 3) TT m_Form_readLine [.inr (some 13), .inl (nI told)] h R := by
  obtain ⟨p0, p1, p2⟩ := zp_13 hp
  have ixl := f_ln_lt T n e
  refine st_Form_readLine [49] 30 ?_
  simp only [↓zq, ↓reduceIte, zr_si2, zr_sr1, zr_cp2, zr_tl, zr_tn, shq, List.contains_nil, List.contains_cons, Nat.reduceBEq, Bool.false_or, Bool.or_false, Bool.true_or, Bool.false_eq_true, if_false, if_true, true_and, and_true, List.set_cons_zero, List.set_cons_succ, List.length_cons, List.length_nil, Nat.reduceAdd, Nat.reduceLeDiff, Nat.le_refl, Nat.zero_le, true_or, or_true, zn_cl, ↓jj_Form_readLine, p0]
  refine k_Form_readSide hp hs (fun h1 f1 s1 => ?_)
  simp only [↓zq, ↓reduceIte, zr_si2, zr_sr1, zr_cp2, zr_tl, zr_tn, shq, List.contains_nil, List.contains_cons, Nat.reduceBEq, Bool.false_or, Bool.or_false, Bool.true_or, Bool.false_eq_true, if_false, if_true, true_and, and_true, List.set_cons_zero, List.set_cons_succ, List.length_cons, List.length_nil, Nat.reduceAdd, Nat.reduceLeDiff, Nat.le_refl, Nat.zero_le, true_or, or_true, zn_cl, ↓jj_Form_readLine]
  refine k_Form_readDigit (m := 7) (by rw [f1.1]; exact hp) (by decide) s1 (fun h2 f2 s2 => ?_)
  have f2 := f1.tr f2
  obtain ⟨r0, r1, r2⟩ := zp_13 (P := h2.2) (by rw [f2.1]; exact hp)
  have eb : (1 : Int32) <<< (nI (f_sd T n e).1 * 8 + nI (f_dg T n 7 (f_sd T n e).2).1 &&& 31) = nI (2 ^ f_ln_ix T n e) := by
    have : nI (f_sd T n e).1 * 8 + nI (f_dg T n 7 (f_sd T n e).2).1 = nI (f_ln_ix T n e) := by
      rw [show (8 : Int32) = nI 8 from rfl, pk_mul, nI_add]
      unfold f_ln_ix
      congr 1
      omega
    rw [this]
    exact zn_s1 _ (by omega)
  have ez : (nI told &&& nI (2 ^ f_ln_ix T n e) = 0) = (told.testBit (f_ln_ix T n e) = false) := by
    rw [zn_and, zn_z (Nat.lt_of_le_of_lt Nat.and_le_left (by omega))]
    exact propext (zs_and2 _ _)
  simp only [↓zq, ↓reduceIte, zr_si2, zr_sr1, zr_cp2, zr_tl, zr_tn, shq, List.contains_nil, List.contains_cons, Nat.reduceBEq, Bool.false_or, Bool.or_false, Bool.true_or, Bool.false_eq_true, if_false, if_true, true_and, and_true, List.set_cons_zero, List.set_cons_succ, List.length_cons, List.length_nil, Nat.reduceAdd, Nat.reduceLeDiff, Nat.le_refl, Nat.zero_le, true_or, or_true, zn_cl, ↓jj_Form_readLine, r0, eb, ez]
  have fin : ∀ (g : zm_M) (l2 : Option zm_V), zt_f h g → zt_s g T n (f_ln_e T n told e) → zm_W (zm_md m_Form_readLine) (d + 3) TT R 49 [some (.inr (some 13)), some (.inl (nI told)), l2, some (.inl (nI (f_sd T n e).1)), some (.inl (nI (f_dg T n 7 (f_sd T n e).2).1)), some (.inl (nI (2 ^ f_ln_ix T n e)))] [] g := by
    intro g l2 hf hs3
    have q0 : g.2 13 0 = some 1 ∧ g.2 13 1 = some 14 := by rw [hf.1]; exact ⟨p0, p1⟩
    refine zm_go g_Form_readLine [49] 30 (by decide +kernel) ok_Form_readLine _ rfl ?_
    simp only [↓zq, ↓reduceIte, zr_si2, zr_sr1, zr_cp2, zr_tl, zr_tn, shq, List.contains_nil, List.contains_cons, Nat.reduceBEq, Bool.false_or, Bool.or_false, Bool.true_or, Bool.false_eq_true, if_false, if_true, true_and, and_true, List.set_cons_zero, List.set_cons_succ, List.length_cons, List.length_nil, Nat.reduceAdd, Nat.reduceLeDiff, Nat.le_refl, Nat.zero_le, true_or, or_true, zn_cl, ↓jj_Form_readLine, q0]
    refine k_Tape_take (c := 61) hs3 (by decide) (fun g2 f2 s2 => ?_)
    have f2 := hf.tr f2
    have q0 : g2.2 13 0 = some 1 ∧ g2.2 13 1 = some 14 := by rw [f2.1]; exact ⟨p0, p1⟩
    simp only [↓zq, ↓reduceIte, zr_si2, zr_sr1, zr_cp2, zr_tl, zr_tn, shq, List.contains_nil, List.contains_cons, Nat.reduceBEq, Bool.false_or, Bool.or_false, Bool.true_or, Bool.false_eq_true, if_false, if_true, true_and, and_true, List.set_cons_zero, List.set_cons_succ, List.length_cons, List.length_nil, Nat.reduceAdd, Nat.reduceLeDiff, Nat.le_refl, Nat.zero_le, true_or, or_true, zn_cl, ↓jj_Form_readLine, q0]
    refine k_Form_readDigit (m := 3) (by rw [f2.1]; exact hp) (by decide) s2 (fun g3 f3 s3 => ?_)
    have f3 := f2.tr f3
    have c3 := f_dg_le T n 3 (t_tk T n 61 (f_ln_e T n told e))
    have d7 := f_dg_le T n 7 (f_sd T n e).2
    simp only [↓zq, ↓reduceIte, zr_si2, zr_sr1, zr_cp2, zr_tl, zr_tn, shq, List.contains_nil, List.contains_cons, Nat.reduceBEq, Bool.false_or, Bool.or_false, Bool.true_or, Bool.false_eq_true, if_false, if_true, true_and, and_true, List.set_cons_zero, List.set_cons_succ, List.length_cons, List.length_nil, Nat.reduceAdd, Nat.reduceLeDiff, Nat.le_refl, Nat.zero_le, true_or, or_true, zn_cl, ↓jj_Form_readLine]
    refine k_Shape_tell (zk_shp14 (by rw [f3.1]; exact hp)) (f_sd_lt T n e) (by omega) (Nat.lt_succ_of_le c3) ?_
    simp only [↓zq, ↓reduceIte, zr_si2, zr_sr1, zr_cp2, zr_tl, zr_tn, shq, List.contains_nil, List.contains_cons, Nat.reduceBEq, Bool.false_or, Bool.or_false, Bool.true_or, Bool.false_eq_true, if_false, if_true, true_and, and_true, List.set_cons_zero, List.set_cons_succ, List.length_cons, List.length_nil, Nat.reduceAdd, Nat.reduceLeDiff, Nat.le_refl, Nat.zero_le, true_or, or_true, zn_cl, ↓jj_Form_readLine]
    refine hR _ (f3.r.s 15 _ (by omega) _) (zt_s_i s3 rfl ?_ ?_) (fun k hk => ?_)
    · funext j; rw [zr_si1, if_neg (by omega)]
    · funext j; rw [zr_si1, if_neg (by omega)]
    · rw [zr_si1]
      unfold f_ln_s
      by_cases z : k = f_ln_ix T n e
      · rw [if_pos ⟨rfl, z⟩, if_pos z]
        rfl
      · rw [if_neg (fun q => z q.2), if_neg z, f3.2.1 15 (by omega)]
        exact hsp k hk
  refine ⟨fun z => fin h2 _ f2 ?_, fun z => ?_⟩
  · unfold f_ln_e
    rw [if_neg (by rw [z]; decide)]
    exact s2
  · have al : ∀ p, (f_dg T n 7 (f_sd T n e).2).2 = .inr p → ∀ x, e ≠ .inl x := fun p hp x hx => by
      subst hx
      rw [f_sd_d, f_dg_d T n (by decide)] at hp
      cases hp
    refine k_Tape_failAt (f := 6) (q := t_pl e) s2 (by decide) (by decide) (fun p hp => zt_s_pl hs (al p hp)) (fun g hf hsg => ?_)
    simp only [↓zq, ↓reduceIte, zr_si2, zr_sr1, zr_cp2, zr_tl, zr_tn, shq, List.contains_nil, List.contains_cons, Nat.reduceBEq, Bool.false_or, Bool.or_false, Bool.true_or, Bool.false_eq_true, if_false, if_true, true_and, and_true, List.set_cons_zero, List.set_cons_succ, List.length_cons, List.length_nil, Nat.reduceAdd, Nat.reduceLeDiff, Nat.le_refl, Nat.zero_le, true_or, or_true, zn_cl, ↓jj_Form_readLine]
    refine fin g _ (f2.tr hf) ?_
    unfold f_ln_e
    rw [if_pos (by simpa using z)]
    exact hsg
/-- lines of a shape, f of them at most -/
def f_sh (T : Nat → Nat) (n : Nat) : Nat → Nat → Nat → (Nat → Nat) → zt_S → Nat × (Nat → Nat) × zt_S
  | 0, l, _, sp, e => (l, sp, e)
  | f + 1, l, told, sp, e => if t_c T n (f_ln_c T n told e).2 = 59 then f_sh T n f (l + 1) (told ||| 2 ^ f_ln_ix T n e) (f_ln_s T n told sp e) (t_st (f_ln_c T n told e).2) else (l + 1, f_ln_s T n told sp e, (f_ln_c T n told e).2)
theorem zs_or24 {a i : Nat} (ha : a < 2 ^ 24) (hi : i < 24) : a ||| 2 ^ i < 2 ^ 24 := Nat.or_lt_two_pow ha (Nat.pow_lt_pow_right (by decide) hi)
set_option maxHeartbeats 4000000 in
set_option maxRecDepth 100000 in
theorem k_Form_readShape {d : Nat} {h : zm_M} {R : zm_R} {T : Nat → Nat} {n : Nat} {sp : Nat → Nat} {e : zt_S} (hp : zp_ok h.2) (hs : zt_s h T n e) (hsp : ∀ k, k < 24 → h.1 29 k = nI (sp k)) (hR : ∀ h' : zm_M, zr_f h h' → zt_s h' T n (t_en n (f_sh T n 60 0 0 sp e).2.2) → (∀ k, k < 24 → h'.1 15 k = nI ((f_sh T n 60 0 0 sp e).2.1 k)) → R (some (.inl (nI (f_sh T n 60 0 0 sp e).1))) h') : zm_C (d + 4) TT m_Form_readShape [.inr (some 13), .inr (some 28)] h R := by
  obtain ⟨p0, p1, p2⟩ := zp_13 hp
  have out : ∀ (g : zm_M) (l : Nat) (l1 l2 l4 : Option zm_V) (sp' : Nat → Nat) (e' : zt_S), zr_f h g → zt_s g T n e' → (∀ k, k < 24 → g.1 15 k = nI (sp' k)) → f_sh T n 60 0 0 sp e = (l, sp', e') → zm_W (zm_md m_Form_readShape) (d + 4) TT R 61 [some (.inr (some 13)), l1, l2, some (.inl (nI l)), l4] [] g := by
    intro g l l1 l2 l4 sp' e' hf hs' hsp' he
    have q0 : g.2 13 0 = some 1 := by rw [hf.1]; exact p0
    rw [he] at hR
    refine zm_go g_Form_readShape [15, 61] 30 (by decide +kernel) ok_Form_readShape _ rfl ?_
    simp only [↓zq, ↓reduceIte, zr_si2, zr_sr1, zr_cp2, zr_tl, zr_tn, shq, List.contains_nil, List.contains_cons, Nat.reduceBEq, Bool.false_or, Bool.or_false, Bool.true_or, Bool.false_eq_true, if_false, if_true, true_and, and_true, List.set_cons_zero, List.set_cons_succ, List.length_cons, List.length_nil, Nat.reduceAdd, Nat.reduceLeDiff, Nat.le_refl, Nat.zero_le, true_or, or_true, zn_cl, ↓jj_Form_readShape, q0]
    refine k_Tape_takeEnd hs' (fun g2 f2 s2 => ?_)
    simp only [↓zq, ↓reduceIte, zr_si2, zr_sr1, zr_cp2, zr_tl, zr_tn, shq, List.contains_nil, List.contains_cons, Nat.reduceBEq, Bool.false_or, Bool.or_false, Bool.true_or, Bool.false_eq_true, if_false, if_true, true_and, and_true, List.set_cons_zero, List.set_cons_succ, List.length_cons, List.length_nil, Nat.reduceAdd, Nat.reduceLeDiff, Nat.le_refl, Nat.zero_le, true_or, or_true, zn_cl, ↓jj_Form_readShape]
    exact hR g2 (hf.tr f2.r) s2 (fun k hk => by rw [f2.2.1 15 (by omega)]; exact hsp' k hk)
  have loop : ∀ (f i l told : Nat) (g : zm_M) (sp' : Nat → Nat) (e' : zt_S), i + f = 60 → told < 2 ^ 24 → zr_f h g → zt_s g T n e' → (∀ k, k < 24 → g.1 15 k = nI (sp' k)) → f_sh T n 60 0 0 sp e = f_sh T n f l told sp' e' → zm_W (zm_md m_Form_readShape) (d + 4) TT R 15 [some (.inr (some 13)), some (.inr (some 28)), some (.inl (nI told)), some (.inl (nI l)), some (.inl (nI i))] [] g := by
    intro f
    induction f with
    | zero =>
      intro i l told g sp' e' hi ht hf hs' hsp' he
      have : i = 60 := by omega
      subst this
      refine zm_go g_Form_readShape [15, 61] 30 (by decide +kernel) ok_Form_readShape _ rfl ?_
      simp only [↓zq, ↓reduceIte, zr_si2, zr_sr1, zr_cp2, zr_tl, zr_tn, shq, List.contains_nil, List.contains_cons, Nat.reduceBEq, Bool.false_or, Bool.or_false, Bool.true_or, Bool.false_eq_true, if_false, if_true, true_and, and_true, List.set_cons_zero, List.set_cons_succ, List.length_cons, List.length_nil, Nat.reduceAdd, Nat.reduceLeDiff, Nat.le_refl, Nat.zero_le, true_or, or_true, zn_cl, ↓jj_Form_readShape]
      exact ⟨fun _ => out g l _ _ _ sp' e' hf hs' hsp' he, fun z => absurd (by decide) z⟩
    | succ f ih =>
      intro i l told g sp' e' hi ht hf hs' hsp' he
      refine zm_go g_Form_readShape [15, 61] 30 (by decide +kernel) ok_Form_readShape _ rfl ?_
      simp only [↓zq, ↓reduceIte, zr_si2, zr_sr1, zr_cp2, zr_tl, zr_tn, shq, List.contains_nil, List.contains_cons, Nat.reduceBEq, Bool.false_or, Bool.or_false, Bool.true_or, Bool.false_eq_true, if_false, if_true, true_and, and_true, List.set_cons_zero, List.set_cons_succ, List.length_cons, List.length_nil, Nat.reduceAdd, Nat.reduceLeDiff, Nat.le_refl, Nat.zero_le, true_or, or_true, zn_cl, ↓jj_Form_readShape]
      refine ⟨fun z => absurd z (nI_ge (b := 60) (by omega) (by decide)), fun _ => ?_⟩
      refine k_Form_readLine (by rw [hf.1]; exact hp) hs' ht hsp' (fun g2 f2 s2 sp2 => ?_)
      have f2 := hf.tr f2
      have q0 : g2.2 13 0 = some 1 := by rw [f2.1]; exact p0
      simp only [↓zq, ↓reduceIte, zr_si2, zr_sr1, zr_cp2, zr_tl, zr_tn, shq, List.contains_nil, List.contains_cons, Nat.reduceBEq, Bool.false_or, Bool.or_false, Bool.true_or, Bool.false_eq_true, if_false, if_true, true_and, and_true, List.set_cons_zero, List.set_cons_succ, List.length_cons, List.length_nil, Nat.reduceAdd, Nat.reduceLeDiff, Nat.le_refl, Nat.zero_le, true_or, or_true, zn_cl, ↓jj_Form_readShape, q0, zn_or]
      refine k_Tape_peek s2 ?_
      have e59 := zt_v_eq (k := 59) s2.c_le (by decide)
      have e59' : (zt_v (t_c T n (f_ln_c T n told e').2) = 59) = (t_c T n (f_ln_c T n told e').2 = 59) := e59
      simp only [↓zq, ↓reduceIte, zr_si2, zr_sr1, zr_cp2, zr_tl, zr_tn, shq, List.contains_nil, List.contains_cons, Nat.reduceBEq, Bool.false_or, Bool.or_false, Bool.true_or, Bool.false_eq_true, if_false, if_true, true_and, and_true, List.set_cons_zero, List.set_cons_succ, List.length_cons, List.length_nil, Nat.reduceAdd, Nat.reduceLeDiff, Nat.le_refl, Nat.zero_le, true_or, or_true, zn_cl, ↓jj_Form_readShape, q0, e59', nI_1]
      unfold f_sh at he
      refine ⟨fun z => ?_, fun z => ?_⟩
      · rw [if_pos z] at he
        refine k_Tape_step s2 (t_c_lt (T := T) (by omega)) (fun g3 f3 s3 => ?_)
        simp only [↓zq, ↓reduceIte, zr_si2, zr_sr1, zr_cp2, zr_tl, zr_tn, shq, List.contains_nil, List.contains_cons, Nat.reduceBEq, Bool.false_or, Bool.or_false, Bool.true_or, Bool.false_eq_true, if_false, if_true, true_and, and_true, List.set_cons_zero, List.set_cons_succ, List.length_cons, List.length_nil, Nat.reduceAdd, Nat.reduceLeDiff, Nat.le_refl, Nat.zero_le, true_or, or_true, zn_cl, ↓jj_Form_readShape, nI_1]
        exact ih (i + 1) (l + 1) _ g3 _ _ (by omega) (zs_or24 ht (f_ln_lt T n e')) (f2.tr f3.r) s3 (fun k hk => by rw [f3.2.1 15 (by omega)]; exact sp2 k hk) he
      · rw [if_neg z] at he
        exact out g2 (l + 1) _ _ _ _ _ f2 s2 sp2 he
  refine st_Form_readShape [15, 61] 30 ?_
  simp only [↓zq, ↓reduceIte, zr_si2, zr_sr1, zr_cp2, zr_tl, zr_tn, shq, List.contains_nil, List.contains_cons, Nat.reduceBEq, Bool.false_or, Bool.or_false, Bool.true_or, Bool.false_eq_true, if_false, if_true, true_and, and_true, List.set_cons_zero, List.set_cons_succ, List.length_cons, List.length_nil, Nat.reduceAdd, Nat.reduceLeDiff, Nat.le_refl, Nat.zero_le, true_or, or_true, zn_cl, ↓jj_Form_readShape, p1]
  refine k_Shape_copyFrom (zk_shp14 hp) (zk_shp28 hp) ?_
  simp only [↓zq, ↓reduceIte, zr_si2, zr_sr1, zr_cp2, zr_tl, zr_tn, shq, List.contains_nil, List.contains_cons, Nat.reduceBEq, Bool.false_or, Bool.or_false, Bool.true_or, Bool.false_eq_true, if_false, if_true, true_and, and_true, List.set_cons_zero, List.set_cons_succ, List.length_cons, List.length_nil, Nat.reduceAdd, Nat.reduceLeDiff, Nat.le_refl, Nat.zero_le, true_or, or_true, zn_cl, ↓jj_Form_readShape]
  refine loop 60 0 0 0 _ sp e (by omega) (by decide) ?_ (zt_s_i hs rfl ?_ ?_) (fun k hk => ?_) rfl
  · refine ⟨rfl, fun a h1 h2 => ?_, fun k hk => ?_⟩
    · funext j; rw [zr_cp1, if_neg (by omega)]
    · rw [zr_cp1, if_neg (by omega)]
  · funext j; rw [zr_cp1, if_neg (by omega)]
  · funext j; rw [zr_cp1, if_neg (by omega)]
  · rw [zr_cp1, if_pos (by omega), show 0 + (k - 0) = k by omega]
    exact hsp k hk
