/-! the tape as it is read: inl a fault and its place, inr the place -/
abbrev zt_S : Type := (Nat × Nat) ⊕ Nat
def t_c (T : Nat → Nat) (n : Nat) : zt_S → Nat
  | .inl _ => 256
  | .inr p => if p < n then T p else 256
def t_st : zt_S → zt_S
  | .inl e => .inl e
  | .inr p => .inr (p + 1)
def t_fl (f : Nat) : zt_S → zt_S
  | .inl e => .inl e
  | .inr p => .inl (f, p)
def t_fa (f q : Nat) : zt_S → zt_S
  | .inl e => .inl e
  | .inr _ => .inl (f, q)
def t_pl : zt_S → Nat
  | .inl _ => 0
  | .inr p => p
def t_tk (T : Nat → Nat) (n c : Nat) (e : zt_S) : zt_S := if t_c T n e = c then t_st e else t_fl 1 e
def t_en (n : Nat) : zt_S → zt_S
  | .inl e => .inl e
  | .inr p => if p < n then .inl (1, p) else .inr p
theorem t_c_r (T : Nat → Nat) (n p : Nat) : t_c T n (.inr p) = if p < n then T p else 256 := rfl
theorem t_c_d (T : Nat → Nat) (n : Nat) (e : Nat × Nat) : t_c T n (.inl e) = 256 := rfl
theorem t_en_r (n p : Nat) : t_en n (.inr p) = if p < n then .inl (1, p) else .inr p := rfl
/-- what peek answers -/
def zt_v (c : Nat) : Int32 := if c = 256 then -1 else nI c
def zt_s (h : zm_M) (T : Nat → Nat) (n : Nat) (e : zt_S) : Prop := h.2 1 0 = some 2 ∧ h.1 1 2 = nI n ∧ n ≤ 240 ∧ (∀ k, k < n → h.1 2 k = nI (T k) ∧ T k < 256) ∧ match e with
  | .inl e => h.1 1 4 = nI e.1 ∧ 1 ≤ e.1 ∧ e.1 ≤ 6 ∧ h.1 1 5 = nI e.2 ∧ e.2 ≤ n
  | .inr p => h.1 1 3 = nI p ∧ p ≤ n ∧ h.1 1 4 = 0
def zt_f (h h' : zm_M) : Prop := h'.2 = h.2 ∧ (∀ a, a ≠ 1 → h'.1 a = h.1 a) ∧ ∀ k, k < 3 → h'.1 1 k = h.1 1 k
theorem zt_f.rf (h : zm_M) : zt_f h h := ⟨rfl, fun _ _ => rfl, fun _ _ => rfl⟩
theorem zt_f.tr {h h' h'' : zm_M} (a : zt_f h h') (b : zt_f h' h'') : zt_f h h'' := ⟨b.1.trans a.1, fun x hx => (b.2.1 x hx).trans (a.2.1 x hx), fun k hk => (b.2.2 k hk).trans (a.2.2 k hk)⟩
theorem zt_f.s {h h' : zm_M} (a : zt_f h h') (k : Nat) (hk : 3 ≤ k) (x : Int32) : zt_f h (zm_si h' 1 k x) := ⟨a.1, fun c hc => by funext j; rw [zr_si1, if_neg (fun z => hc z.1), a.2.1 c hc], fun j hj => by rw [zr_si1, if_neg (by omega), a.2.2 j hj]⟩
theorem t_c_le {T : Nat → Nat} {n : Nat} {e : zt_S} (hT : ∀ k, k < n → T k < 256) : t_c T n e ≤ 256 := by
  cases e with
  | inl e => exact Nat.le_refl _
  | inr p =>
    rw [t_c_r]
    split
    · next h => exact Nat.le_of_lt (hT p h)
    · exact Nat.le_refl _
theorem zt_s.c_le {h : zm_M} {T : Nat → Nat} {n : Nat} {e : zt_S} (hs : zt_s h T n e) : t_c T n e ≤ 256 := t_c_le (fun k hk => (hs.2.2.2.1 k hk).2)
theorem t_c_lt {T : Nat → Nat} {n : Nat} {e : zt_S} (hc : t_c T n e ≠ 256) : ∀ p, e = .inr p → p < n := by
  intro p he
  subst he
  rw [t_c_r] at hc
  rcases Nat.lt_or_ge p n with q | q
  · exact q
  · rw [if_neg (by omega)] at hc
    exact absurd rfl hc
theorem zt_v_eq {c k : Nat} (hc : c ≤ 256) (hk : k < 256) : (zt_v c = nI k) = (c = k) := by
  apply propext
  unfold zt_v
  split
  · next h => exact ⟨fun z => absurd (show nI k < 0 by rw [← z]; decide) (nI_pos (by omega)), fun z => by omega⟩
  · exact nI_eq (by omega) (by omega)
theorem zt_v_sub {c k : Nat} (hc : c < 256) (hk : k ≤ c) : zt_v c - nI k = nI (c - k) := by
  unfold zt_v
  rw [if_neg (by omega)]
  exact pk_sub hk
theorem zt_v_neg {c k : Nat} (hc : c = 256 ∨ c < k) (hk : k < 256) : zt_v c - nI k < 0 := by
  unfold zt_v
  split
  · exact (by decide +kernel : ∀ k, k < 256 → (-1 : Int32) - nI k < 0) k hk
  · exact pk_sneg (by omega) (by omega)
set_option maxHeartbeats 4000000 in
set_option maxRecDepth 100000 in
theorem k_Tape_peek {d : Nat} {h : zm_M} {R : zm_R} {T : Nat → Nat} {n : Nat} {e : zt_S} (hs : zt_s h T n e) (hR : R (some (.inl (zt_v (t_c T n e)))) h) : zm_C (d + 1) TT m_Tape_peek [.inr (some 1)] h R := by
  obtain ⟨s1, s2, s3, s4, s5⟩ := hs
  refine st_Tape_peek [] 30 ?_
  match e, s5, hR with
  | .inl e, s5, hR =>
    obtain ⟨q1, q2, q3, q4, q5⟩ := s5
    have ne : ¬ nI e.1 = 0 := nI_ne0 (by omega) (by omega)
    simp only [↓zq, ↓reduceIte, zr_si2, zr_sr1, zr_cp2, zr_tl, zr_tn, shq, List.contains_nil, List.contains_cons, Nat.reduceBEq, Bool.false_or, Bool.or_false, Bool.true_or, Bool.false_eq_true, if_false, if_true, true_and, and_true, List.set_cons_zero, List.set_cons_succ, List.length_cons, List.length_nil, Nat.reduceAdd, Nat.reduceLeDiff, Nat.le_refl, Nat.zero_le, true_or, or_true, zn_cl, ↓jj_Tape_peek, s1, s2, q1]
    exact ⟨fun _ => hR, fun z => absurd z ne⟩
  | .inr p, s5, hR =>
    obtain ⟨q1, q2, q3⟩ := s5
    rw [t_c_r] at hR
    simp only [↓zq, ↓reduceIte, zr_si2, zr_sr1, zr_cp2, zr_tl, zr_tn, shq, List.contains_nil, List.contains_cons, Nat.reduceBEq, Bool.false_or, Bool.or_false, Bool.true_or, Bool.false_eq_true, if_false, if_true, true_and, and_true, List.set_cons_zero, List.set_cons_succ, List.length_cons, List.length_nil, Nat.reduceAdd, Nat.reduceLeDiff, Nat.le_refl, Nat.zero_le, true_or, or_true, zn_cl, ↓jj_Tape_peek, s1, s2, q1, q3]
    refine ⟨fun z => absurd trivial z, fun _ => ⟨fun z => ?_, fun z => ⟨fun z2 => absurd z2 (nI_ge (b := 260) (by omega) (by decide)), fun _ => ⟨vp_in_nI (by omega) (by decide), ?_⟩⟩⟩⟩
    · rw [if_neg (fun q => nI_ge q (by omega) z)] at hR
      exact hR
    · have hp : p < n := by
        rcases Nat.lt_or_ge p n with q | q
        · exact q
        · exact absurd (nI_le q (by omega)) z
      rw [if_pos hp] at hR
      rw [nI_clamp (by omega), (s4 p hp).1]
      unfold zt_v at hR
      rw [if_neg (by have := (s4 p hp).2; omega)] at hR
      exact hR
theorem zt_s_f {h h' : zm_M} {T : Nat → Nat} {n : Nat} {e e' : zt_S} (hs : zt_s h T n e) (hf : zt_f h h') (h5 : match e' with | .inl e => h'.1 1 4 = nI e.1 ∧ 1 ≤ e.1 ∧ e.1 ≤ 6 ∧ h'.1 1 5 = nI e.2 ∧ e.2 ≤ n | .inr p => h'.1 1 3 = nI p ∧ p ≤ n ∧ h'.1 1 4 = 0) : zt_s h' T n e' := by
  obtain ⟨s1, s2, s3, s4, s5⟩ := hs
  exact ⟨by rw [hf.1]; exact s1, by rw [hf.2.2 2 (by omega)]; exact s2, s3, by rw [hf.2.1 2 (by omega)]; exact s4, h5⟩
set_option maxHeartbeats 4000000 in
set_option maxRecDepth 100000 in
theorem k_Tape_step {d : Nat} {h : zm_M} {R : zm_R} {T : Nat → Nat} {n : Nat} {e : zt_S} (hs : zt_s h T n e) (hp : ∀ p, e = .inr p → p < n) (hR : ∀ h' : zm_M, zt_f h h' → zt_s h' T n (t_st e) → R none h') : zm_C (d + 1) TT m_Tape_step [.inr (some 1)] h R := by
  refine st_Tape_step [] 30 ?_
  simp only [↓zq, ↓reduceIte, zr_si2, zr_sr1, zr_cp2, zr_tl, zr_tn, shq, List.contains_nil, List.contains_cons, Nat.reduceBEq, Bool.false_or, Bool.or_false, Bool.true_or, Bool.false_eq_true, if_false, if_true, true_and, and_true, List.set_cons_zero, List.set_cons_succ, List.length_cons, List.length_nil, Nat.reduceAdd, Nat.reduceLeDiff, Nat.le_refl, Nat.zero_le, true_or, or_true, zn_cl, ↓jj_Tape_step]
  have hf := (zt_f.rf h).s 3 (by decide) (h.1 1 3 + 1)
  refine hR _ hf (zt_s_f hs hf ?_)
  obtain ⟨s1, s2, s3, s4, s5⟩ := hs
  match e, s5, hp with
  | .inl e, s5, hp =>
    simp only [t_st, zr_si1, Nat.reduceEqDiff, and_false, if_false]
    exact s5
  | .inr p, s5, hp =>
    simp only [t_st, zr_si1, Nat.reduceEqDiff, and_false, if_false, and_self, if_true, s5.1, nI_1, s5.2.2]
    exact ⟨trivial, hp p rfl, trivial⟩
set_option maxHeartbeats 4000000 in
set_option maxRecDepth 100000 in
theorem k_Tape_fail {d : Nat} {h : zm_M} {R : zm_R} {T : Nat → Nat} {n : Nat} {e : zt_S} {f : Nat} (hs : zt_s h T n e) (h1 : 1 ≤ f) (h6 : f ≤ 6) (hR : ∀ h' : zm_M, zt_f h h' → zt_s h' T n (t_fl f e) → R none h') : zm_C (d + 1) TT m_Tape_fail [.inr (some 1), .inl (nI f)] h R := by
  refine st_Tape_fail [] 30 ?_
  obtain ⟨s1, s2, s3, s4, s5⟩ := id hs
  match e, s5, hs, hR with
  | .inl e, s5, hs, hR =>
    have ne : ¬ nI e.1 = 0 := nI_ne0 (by omega) (by omega)
    simp only [↓zq, ↓reduceIte, zr_si2, zr_sr1, zr_cp2, zr_tl, zr_tn, shq, List.contains_nil, List.contains_cons, Nat.reduceBEq, Bool.false_or, Bool.or_false, Bool.true_or, Bool.false_eq_true, if_false, if_true, true_and, and_true, List.set_cons_zero, List.set_cons_succ, List.length_cons, List.length_nil, Nat.reduceAdd, Nat.reduceLeDiff, Nat.le_refl, Nat.zero_le, true_or, or_true, zn_cl, ↓jj_Tape_fail, s5.1]
    exact ⟨fun _ => hR h (zt_f.rf h) hs, fun z => absurd z ne⟩
  | .inr p, s5, hs, hR =>
    simp only [↓zq, ↓reduceIte, zr_si2, zr_sr1, zr_cp2, zr_tl, zr_tn, shq, List.contains_nil, List.contains_cons, Nat.reduceBEq, Bool.false_or, Bool.or_false, Bool.true_or, Bool.false_eq_true, if_false, if_true, true_and, and_true, List.set_cons_zero, List.set_cons_succ, List.length_cons, List.length_nil, Nat.reduceAdd, Nat.reduceLeDiff, Nat.le_refl, Nat.zero_le, true_or, or_true, zn_cl, ↓jj_Tape_fail, s5.2.2]
    refine ⟨fun z => absurd trivial z, fun _ => ?_⟩
    have hf := ((zt_f.rf h).s 4 (by decide) (nI f)).s 5 (by decide) ((zm_si h 1 4 (nI f)).1 1 3)
    refine hR _ hf (zt_s_f hs hf ?_)
    simp only [t_fl, zr_si1, Nat.reduceEqDiff, and_false, if_false, and_self, if_true, s5.1]
    exact ⟨trivial, h1, h6, trivial, s5.2.1⟩
set_option maxHeartbeats 4000000 in
set_option maxRecDepth 100000 in
theorem k_Tape_failAt {d : Nat} {h : zm_M} {R : zm_R} {T : Nat → Nat} {n : Nat} {e : zt_S} {f q : Nat} {y : Int32} (hs : zt_s h T n e) (h1 : 1 ≤ f) (h6 : f ≤ 6) (hy : ∀ p, e = .inr p → y = nI q ∧ q ≤ n) (hR : ∀ h' : zm_M, zt_f h h' → zt_s h' T n (t_fa f q e) → R none h') : zm_C (d + 1) TT m_Tape_failAt [.inr (some 1), .inl (nI f), .inl y] h R := by
  refine st_Tape_failAt [] 30 ?_
  obtain ⟨s1, s2, s3, s4, s5⟩ := id hs
  match e, s5, hs, hR, hy with
  | .inl e, s5, hs, hR, hy =>
    have ne : ¬ nI e.1 = 0 := nI_ne0 (by omega) (by omega)
    simp only [↓zq, ↓reduceIte, zr_si2, zr_sr1, zr_cp2, zr_tl, zr_tn, shq, List.contains_nil, List.contains_cons, Nat.reduceBEq, Bool.false_or, Bool.or_false, Bool.true_or, Bool.false_eq_true, if_false, if_true, true_and, and_true, List.set_cons_zero, List.set_cons_succ, List.length_cons, List.length_nil, Nat.reduceAdd, Nat.reduceLeDiff, Nat.le_refl, Nat.zero_le, true_or, or_true, zn_cl, ↓jj_Tape_failAt, s5.1]
    exact ⟨fun _ => hR h (zt_f.rf h) hs, fun z => absurd z ne⟩
  | .inr p, s5, hs, hR, hy =>
    simp only [↓zq, ↓reduceIte, zr_si2, zr_sr1, zr_cp2, zr_tl, zr_tn, shq, List.contains_nil, List.contains_cons, Nat.reduceBEq, Bool.false_or, Bool.or_false, Bool.true_or, Bool.false_eq_true, if_false, if_true, true_and, and_true, List.set_cons_zero, List.set_cons_succ, List.length_cons, List.length_nil, Nat.reduceAdd, Nat.reduceLeDiff, Nat.le_refl, Nat.zero_le, true_or, or_true, zn_cl, ↓jj_Tape_failAt, s5.2.2]
    refine ⟨fun z => absurd trivial z, fun _ => ?_⟩
    have hf := ((zt_f.rf h).s 4 (by decide) (nI f)).s 5 (by decide) y
    refine hR _ hf (zt_s_f hs hf ?_)
    simp only [t_fa, zr_si1, Nat.reduceEqDiff, and_false, if_false, and_self, if_true]
    exact ⟨trivial, h1, h6, (hy p rfl).1, (hy p rfl).2⟩
set_option maxHeartbeats 4000000 in
set_option maxRecDepth 100000 in
theorem k_Tape_take {d : Nat} {h : zm_M} {R : zm_R} {T : Nat → Nat} {n : Nat} {e : zt_S} {c : Nat} (hs : zt_s h T n e) (hc : c < 256) (hR : ∀ h' : zm_M, zt_f h h' → zt_s h' T n (t_tk T n c e) → R none h') : zm_C (d + 2) TT m_Tape_take [.inr (some 1), .inl (nI c)] h R := by
  refine st_Tape_take [] 30 ?_
  simp only [↓zq, ↓reduceIte, zr_si2, zr_sr1, zr_cp2, zr_tl, zr_tn, shq, List.contains_nil, List.contains_cons, Nat.reduceBEq, Bool.false_or, Bool.or_false, Bool.true_or, Bool.false_eq_true, if_false, if_true, true_and, and_true, List.set_cons_zero, List.set_cons_succ, List.length_cons, List.length_nil, Nat.reduceAdd, Nat.reduceLeDiff, Nat.le_refl, Nat.zero_le, true_or, or_true, zn_cl, ↓jj_Tape_take]
  refine k_Tape_peek hs ?_
  simp only [↓zq, ↓reduceIte, zr_si2, zr_sr1, zr_cp2, zr_tl, zr_tn, shq, List.contains_nil, List.contains_cons, Nat.reduceBEq, Bool.false_or, Bool.or_false, Bool.true_or, Bool.false_eq_true, if_false, if_true, true_and, and_true, List.set_cons_zero, List.set_cons_succ, List.length_cons, List.length_nil, Nat.reduceAdd, Nat.reduceLeDiff, Nat.le_refl, Nat.zero_le, true_or, or_true, zn_cl, ↓jj_Tape_take, zt_v_eq hs.c_le hc]
  refine ⟨fun z => ?_, fun z => ?_⟩
  · refine k_Tape_fail hs (by decide) (by decide) (fun h' hf hs' => ?_)
    simp only [↓zq, ↓reduceIte, zr_si2, zr_sr1, zr_cp2, zr_tl, zr_tn, shq, List.contains_nil, List.contains_cons, Nat.reduceBEq, Bool.false_or, Bool.or_false, Bool.true_or, Bool.false_eq_true, if_false, if_true, true_and, and_true, List.set_cons_zero, List.set_cons_succ, List.length_cons, List.length_nil, Nat.reduceAdd, Nat.reduceLeDiff, Nat.le_refl, Nat.zero_le, true_or, or_true, zn_cl, ↓jj_Tape_take]
    refine hR h' hf ?_
    unfold t_tk
    rw [if_neg z]
    exact hs'
  · have hf := (zt_f.rf h).s 3 (by decide) (h.1 1 3 + 1)
    refine hR _ hf ?_
    unfold t_tk
    rw [if_pos z]
    refine zt_s_f hs hf ?_
    have hp := t_c_lt (T := T) (n := n) (e := e) (by omega)
    obtain ⟨s1, s2, s3, s4, s5⟩ := hs
    match e, s5, hp, z with
    | .inl e, s5, hp, z => exact absurd z (by rw [t_c_d]; omega)
    | .inr p, s5, hp, z =>
      simp only [t_st, zr_si1, Nat.reduceEqDiff, and_false, if_false, and_self, if_true, s5.1, nI_1, s5.2.2]
      exact ⟨trivial, hp p rfl, trivial⟩
set_option maxHeartbeats 4000000 in
set_option maxRecDepth 100000 in
theorem k_Tape_takeEnd {d : Nat} {h : zm_M} {R : zm_R} {T : Nat → Nat} {n : Nat} {e : zt_S} (hs : zt_s h T n e) (hR : ∀ h' : zm_M, zt_f h h' → zt_s h' T n (t_en n e) → R none h') : zm_C (d + 2) TT m_Tape_takeEnd [.inr (some 1)] h R := by
  refine st_Tape_takeEnd [] 30 ?_
  obtain ⟨s1, s2, s3, s4, s5⟩ := id hs
  match e, s5, hs, hR with
  | .inl e, s5, hs, hR =>
    simp only [↓zq, ↓reduceIte, zr_si2, zr_sr1, zr_cp2, zr_tl, zr_tn, shq, List.contains_nil, List.contains_cons, Nat.reduceBEq, Bool.false_or, Bool.or_false, Bool.true_or, Bool.false_eq_true, if_false, if_true, true_and, and_true, List.set_cons_zero, List.set_cons_succ, List.length_cons, List.length_nil, Nat.reduceAdd, Nat.reduceLeDiff, Nat.le_refl, Nat.zero_le, true_or, or_true, zn_cl, ↓jj_Tape_takeEnd]
    refine ⟨fun _ => hR h (zt_f.rf h) hs, fun _ => ?_⟩
    refine k_Tape_fail hs (by decide) (by decide) (fun h' hf hs' => ?_)
    simp only [↓zq, ↓reduceIte, zr_si2, zr_sr1, zr_cp2, zr_tl, zr_tn, shq, List.contains_nil, List.contains_cons, Nat.reduceBEq, Bool.false_or, Bool.or_false, Bool.true_or, Bool.false_eq_true, if_false, if_true, true_and, and_true, List.set_cons_zero, List.set_cons_succ, List.length_cons, List.length_nil, Nat.reduceAdd, Nat.reduceLeDiff, Nat.le_refl, Nat.zero_le, true_or, or_true, zn_cl, ↓jj_Tape_takeEnd]
    exact hR h' hf hs'
  | .inr p, s5, hs, hR =>
    have sp := s5.2.1
    simp only [↓zq, ↓reduceIte, zr_si2, zr_sr1, zr_cp2, zr_tl, zr_tn, shq, List.contains_nil, List.contains_cons, Nat.reduceBEq, Bool.false_or, Bool.or_false, Bool.true_or, Bool.false_eq_true, if_false, if_true, true_and, and_true, List.set_cons_zero, List.set_cons_succ, List.length_cons, List.length_nil, Nat.reduceAdd, Nat.reduceLeDiff, Nat.le_refl, Nat.zero_le, true_or, or_true, zn_cl, ↓jj_Tape_takeEnd, s2, s5.1]
    refine ⟨fun z => hR h (zt_f.rf h) ?_, fun z => ?_⟩
    · rw [t_en_r, if_neg (fun q => nI_ge q (by omega) z)]
      exact hs
    · refine k_Tape_fail hs (by decide) (by decide) (fun h' hf hs' => ?_)
      simp only [↓zq, ↓reduceIte, zr_si2, zr_sr1, zr_cp2, zr_tl, zr_tn, shq, List.contains_nil, List.contains_cons, Nat.reduceBEq, Bool.false_or, Bool.or_false, Bool.true_or, Bool.false_eq_true, if_false, if_true, true_and, and_true, List.set_cons_zero, List.set_cons_succ, List.length_cons, List.length_nil, Nat.reduceAdd, Nat.reduceLeDiff, Nat.le_refl, Nat.zero_le, true_or, or_true, zn_cl, ↓jj_Tape_takeEnd]
      refine hR h' hf ?_
      rw [t_en_r, if_pos ?_]
      · exact hs'
      · rcases Nat.lt_or_ge p n with q | q
        · exact q
        · exact absurd (nI_le q (by omega)) z
