/-! the tape as the reference reads it -/
def zu_s (h : zm_M) (T : Nat → Nat) (n p : Nat) : Prop := h.2 133 7 = some 137 ∧ h.1 133 10 = nI n ∧ n ≤ 240 ∧ (∀ k, k < n → h.1 137 k &&& 255 = nI (T k) ∧ T k < 256) ∧ h.1 133 9 = nI p ∧ p ≤ n
/-- changed: place, fault, number -/
def zu_n (h h' : zm_M) : Prop := h'.2 = h.2 ∧ (∀ a, a ≠ 133 → h'.1 a = h.1 a) ∧ ∀ k, k ≠ 9 → k ≠ 11 → k ≠ 12 → h'.1 133 k = h.1 133 k
theorem zu_n.rf (h : zm_M) : zu_n h h := ⟨rfl, fun _ _ => rfl, fun _ _ _ _ => rfl⟩
theorem zu_n.tr {h h' h'' : zm_M} (a : zu_n h h') (b : zu_n h' h'') : zu_n h h'' := ⟨b.1.trans a.1, fun x h1 => (b.2.1 x h1).trans (a.2.1 x h1), fun k h1 h2 h3 => (b.2.2 k h1 h2 h3).trans (a.2.2 k h1 h2 h3)⟩
theorem zu_n.s {h h' : zm_M} (a : zu_n h h') (k : Nat) (hk : k = 9 ∨ k = 11 ∨ k = 12) (x : Int32) : zu_n h (zm_si h' 133 k x) := ⟨a.1, fun q h1 => by funext j; rw [zr_si1, if_neg (fun z => h1 z.1), a.2.1 q h1], fun j h1 h2 h3 => by rw [zr_si1, if_neg (by omega), a.2.2 j h1 h2 h3]⟩
theorem zu_s.c_le {h : zm_M} {T : Nat → Nat} {n p : Nat} (hs : zu_s h T n p) : t_c T n (.inr p) ≤ 256 := t_c_le (fun k hk => (hs.2.2.2.1 k hk).2)
theorem zu_s_n {h h' : zm_M} {T : Nat → Nat} {n p p' : Nat} (hs : zu_s h T n p) (hf : zu_n h h') (h9 : h'.1 133 9 = nI p') (hp : p' ≤ n) : zu_s h' T n p' := by
  obtain ⟨s1, s2, s3, s4, s5, s6⟩ := hs
  exact ⟨by rw [hf.1]; exact s1, by rw [hf.2.2 10 (by omega) (by omega) (by omega)]; exact s2, s3, by rw [hf.2.1 137 (by omega)]; exact s4, h9, hp⟩
set_option maxHeartbeats 4000000 in
set_option maxRecDepth 100000 in
theorem k_Mo_here {d : Nat} {h : zm_M} {R : zm_R} {T : Nat → Nat} {n p : Nat} (hs : zu_s h T n p) (hR : R (some (.inl (zt_v (t_c T n (.inr p))))) h) : zm_C (d + 1) TT m_Mo_here [.inr (some 133)] h R := by
  obtain ⟨s1, s2, s3, s4, s5, s6⟩ := hs
  rw [t_c_r] at hR
  have v1 : vp_in (nI p) 260 := vp_in_nI (by omega) (by decide)
  have c1 := nI_clamp (show p < 2 ^ 31 by omega)
  refine st_Mo_here [] 30 ?_
  simp only [↓zq, ↓reduceIte, zr_si2, zr_sr1, zr_cp2, zr_tl, zr_tn, shq, List.contains_nil, List.contains_cons, Nat.reduceBEq, Bool.false_or, Bool.or_false, Bool.true_or, Bool.false_eq_true, if_false, if_true, true_and, and_true, List.set_cons_zero, List.set_cons_succ, List.length_cons, List.length_nil, Nat.reduceAdd, Nat.reduceLeDiff, Nat.le_refl, Nat.zero_le, true_or, or_true, zn_cl, ↓jj_Mo_here, s1, s2, s5, v1, c1]
  refine ⟨fun z => ?_, fun z => ?_⟩
  · rw [if_neg (fun q => nI_ge q (by omega) z)] at hR
    exact hR
  · have hp : p < n := by
      rcases Nat.lt_or_ge p n with q | q
      · exact q
      · exact absurd (nI_le q (by omega)) z
    rw [if_pos hp] at hR
    unfold zt_v at hR
    rw [if_neg (by have := (s4 p hp).2; omega)] at hR
    rw [(s4 p hp).1]
    exact hR
set_option maxHeartbeats 4000000 in
set_option maxRecDepth 100000 in
theorem k_Mo_wrongAt {d : Nat} {h : zm_M} {R : zm_R} {f q : Nat} (hR : R (some (.inl 0)) (zm_si h 133 11 (t_an (f, q)))) : zm_C (d + 1) TT m_Mo_wrongAt [.inr (some 133), .inl (nI f), .inl (nI q)] h R := by
  refine st_Mo_wrongAt [] 30 ?_
  simp only [↓zq, ↓reduceIte, zr_si2, zr_sr1, zr_cp2, zr_tl, zr_tn, shq, List.contains_nil, List.contains_cons, Nat.reduceBEq, Bool.false_or, Bool.or_false, Bool.true_or, Bool.false_eq_true, if_false, if_true, true_and, and_true, List.set_cons_zero, List.set_cons_succ, List.length_cons, List.length_nil, Nat.reduceAdd, Nat.reduceLeDiff, Nat.le_refl, Nat.zero_le, true_or, or_true, zn_cl, ↓jj_Mo_wrongAt]
  exact hR
theorem zu_n_11 (h : zm_M) (x : Int32) : zu_n h (zm_si h 133 11 x) ∧ (zm_si h 133 11 x).1 133 11 = x := ⟨(zu_n.rf h).s 11 (by omega) x, by rw [zr_si1, if_pos ⟨rfl, rfl⟩]⟩
theorem t_c_r_lt {T : Nat → Nat} {n p : Nat} (h : t_c T n (.inr p) ≠ 256) : p < n := t_c_lt (T := T) h p rfl
set_option maxHeartbeats 4000000 in
set_option maxRecDepth 100000 in
theorem k_Mo_takes {d : Nat} {h : zm_M} {R : zm_R} {T : Nat → Nat} {n p c : Nat} (hs : zu_s h T n p) (hc : c < 256) (hb : ∀ x, t_tk T n c (.inr p) = .inl x → ∀ h' : zm_M, zu_n h h' → h'.1 133 11 = t_an x → R (some (.inl 0)) h') (hg : t_tk T n c (.inr p) = .inr (p + 1) → ∀ h' : zm_M, zu_n h h' → zu_s h' T n (p + 1) → R (some (.inl 1)) h') : zm_C (d + 2) TT m_Mo_takes [.inr (some 133), .inl (nI c)] h R := by
  have s5 := hs.2.2.2.2.1
  refine st_Mo_takes [] 30 ?_
  simp only [↓zq, ↓reduceIte, zr_si2, zr_sr1, zr_cp2, zr_tl, zr_tn, shq, List.contains_nil, List.contains_cons, Nat.reduceBEq, Bool.false_or, Bool.or_false, Bool.true_or, Bool.false_eq_true, if_false, if_true, true_and, and_true, List.set_cons_zero, List.set_cons_succ, List.length_cons, List.length_nil, Nat.reduceAdd, Nat.reduceLeDiff, Nat.le_refl, Nat.zero_le, true_or, or_true, zn_cl, ↓jj_Mo_takes]
  refine k_Mo_here hs ?_
  simp only [↓zq, ↓reduceIte, zr_si2, zr_sr1, zr_cp2, zr_tl, zr_tn, shq, List.contains_nil, List.contains_cons, Nat.reduceBEq, Bool.false_or, Bool.or_false, Bool.true_or, Bool.false_eq_true, if_false, if_true, true_and, and_true, List.set_cons_zero, List.set_cons_succ, List.length_cons, List.length_nil, Nat.reduceAdd, Nat.reduceLeDiff, Nat.le_refl, Nat.zero_le, true_or, or_true, zn_cl, ↓jj_Mo_takes, zt_v_eq hs.c_le hc, s5]
  refine ⟨fun z => ?_, fun z => ?_⟩
  · have e : t_tk T n c (.inr p) = .inr (p + 1) := by unfold t_tk; rw [if_pos z]; rfl
    rw [nI_1]
    have hf := (zu_n.rf h).s 9 (by omega) (nI (p + 1))
    exact hg e _ hf (zu_s_n hs hf (by rw [zr_si1, if_pos ⟨rfl, rfl⟩]) (t_c_r_lt (T := T) (by omega)))
  · have e : t_tk T n c (.inr p) = .inl (1, p) := by unfold t_tk; rw [if_neg z]; rfl
    refine k_Mo_wrongAt (f := 1) (q := p) ?_
    simp only [↓zq, ↓reduceIte, zr_si2, zr_sr1, zr_cp2, zr_tl, zr_tn, shq, List.contains_nil, List.contains_cons, Nat.reduceBEq, Bool.false_or, Bool.or_false, Bool.true_or, Bool.false_eq_true, if_false, if_true, true_and, and_true, List.set_cons_zero, List.set_cons_succ, List.length_cons, List.length_nil, Nat.reduceAdd, Nat.reduceLeDiff, Nat.le_refl, Nat.zero_le, true_or, or_true, zn_cl, ↓jj_Mo_takes]
    obtain ⟨f1, f2⟩ := zu_n_11 h (t_an (1, p))
    exact hb _ e _ f1 f2
set_option maxHeartbeats 4000000 in
set_option maxRecDepth 100000 in
theorem k_Mo_readsDigit {d : Nat} {h : zm_M} {R : zm_R} {T : Nat → Nat} {n p m : Nat} (hs : zu_s h T n p) (hm : m ≤ 9) (hb : ∀ x, (f_dg T n m (.inr p)).2 = .inl x → ∀ h' : zm_M, zu_n h h' → h'.1 133 11 = t_an x → R (some (.inl 0)) h') (hg : (f_dg T n m (.inr p)).2 = .inr (p + 1) → ∀ h' : zm_M, zu_n h h' → zu_s h' T n (p + 1) → h'.1 133 12 = nI (f_dg T n m (.inr p)).1 → R (some (.inl 1)) h') : zm_C (d + 2) TT m_Mo_readsDigit [.inr (some 133), .inl (nI m)] h R := by
  have s5 := hs.2.2.2.2.1
  have cl := hs.c_le
  have em : (48 : Int32) + nI m = nI (48 + m) := nI_add 48 m
  refine st_Mo_readsDigit [] 30 ?_
  simp only [↓zq, ↓reduceIte, zr_si2, zr_sr1, zr_cp2, zr_tl, zr_tn, shq, List.contains_nil, List.contains_cons, Nat.reduceBEq, Bool.false_or, Bool.or_false, Bool.true_or, Bool.false_eq_true, if_false, if_true, true_and, and_true, List.set_cons_zero, List.set_cons_succ, List.length_cons, List.length_nil, Nat.reduceAdd, Nat.reduceLeDiff, Nat.le_refl, Nat.zero_le, true_or, or_true, zn_cl, ↓jj_Mo_readsDigit]
  refine k_Mo_here hs ?_
  simp only [↓zq, ↓reduceIte, zr_si2, zr_sr1, zr_cp2, zr_tl, zr_tn, shq, List.contains_nil, List.contains_cons, Nat.reduceBEq, Bool.false_or, Bool.or_false, Bool.true_or, Bool.false_eq_true, if_false, if_true, true_and, and_true, List.set_cons_zero, List.set_cons_succ, List.length_cons, List.length_nil, Nat.reduceAdd, Nat.reduceLeDiff, Nat.le_refl, Nat.zero_le, true_or, or_true, zn_cl, ↓jj_Mo_readsDigit, em]
  have dec : 48 ≤ t_c T n (.inr p) ∧ t_c T n (.inr p) ≤ 48 + m ↔ (¬ zt_v (t_c T n (.inr p)) < 48 ∧ ¬ nI (48 + m) < zt_v (t_c T n (.inr p))) := by
    unfold zt_v
    split
    · next q =>
      constructor
      · intro z; omega
      · intro z; exact absurd (by decide) z.1
    · next q =>
      constructor
      · intro z; exact ⟨nI_nlt (b := 48) z.1 (by omega), nI_nlt z.2 (by omega)⟩
      · intro z
        refine ⟨?_, ?_⟩
        · rcases Nat.lt_or_ge (t_c T n (.inr p)) 48 with y | y
          · exact absurd (nI_lt (b := 48) y (by decide)) z.1
          · exact y
        · rcases Nat.lt_or_ge (48 + m) (t_c T n (.inr p)) with y | y
          · exact absurd (nI_lt y (by omega)) z.2
          · exact y
  refine k_Mo_in (fun z1 z2 => ?_) (fun z => ?_)
  · have hc := dec.mpr ⟨z1, z2⟩
    have e : f_dg T n m (.inr p) = (t_c T n (.inr p) - 48, .inr (p + 1)) := if_pos hc
    rw [e] at hg
    simp only [↓zq, ↓reduceIte, zr_si2, zr_sr1, zr_cp2, zr_tl, zr_tn, shq, List.contains_nil, List.contains_cons, Nat.reduceBEq, Bool.false_or, Bool.or_false, Bool.true_or, Bool.false_eq_true, if_false, if_true, true_and, and_true, List.set_cons_zero, List.set_cons_succ, List.length_cons, List.length_nil, Nat.reduceAdd, Nat.reduceLeDiff, Nat.le_refl, Nat.zero_le, true_or, or_true, zn_cl, ↓jj_Mo_readsDigit]
    refine ⟨fun _ => ?_, fun z => absurd z (by decide)⟩
    refine k_Mo_here hs ?_
    have e2 : zt_v (t_c T n (.inr p)) - 48 = nI (t_c T n (.inr p) - 48) := zt_v_sub (k := 48) (by omega) (by omega)
    simp only [↓zq, ↓reduceIte, zr_si2, zr_sr1, zr_cp2, zr_tl, zr_tn, shq, List.contains_nil, List.contains_cons, Nat.reduceBEq, Bool.false_or, Bool.or_false, Bool.true_or, Bool.false_eq_true, if_false, if_true, true_and, and_true, List.set_cons_zero, List.set_cons_succ, List.length_cons, List.length_nil, Nat.reduceAdd, Nat.reduceLeDiff, Nat.le_refl, Nat.zero_le, true_or, or_true, zn_cl, ↓jj_Mo_readsDigit, e2]
    simp only [zr_si1, Nat.reduceEqDiff, and_false, if_false, s5, nI_1]
    have hf := ((zu_n.rf h).s 12 (by omega) (nI (t_c T n (.inr p) - 48))).s 9 (by omega) (nI (p + 1))
    refine hg rfl _ hf (zu_s_n hs hf (by rw [zr_si1, if_pos ⟨rfl, rfl⟩]) (t_c_r_lt (T := T) (by omega))) ?_
    rw [zr_si1, if_neg (by omega), zr_si1, if_pos ⟨rfl, rfl⟩]
  · have e : f_dg T n m (.inr p) = (0, .inl (1, p)) := if_neg (fun q => by have := dec.mp q; rcases z with z | z; exact this.1 z; exact this.2 z)
    rw [e] at hb
    simp only [↓zq, ↓reduceIte, zr_si2, zr_sr1, zr_cp2, zr_tl, zr_tn, shq, List.contains_nil, List.contains_cons, Nat.reduceBEq, Bool.false_or, Bool.or_false, Bool.true_or, Bool.false_eq_true, if_false, if_true, true_and, and_true, List.set_cons_zero, List.set_cons_succ, List.length_cons, List.length_nil, Nat.reduceAdd, Nat.reduceLeDiff, Nat.le_refl, Nat.zero_le, true_or, or_true, zn_cl, ↓jj_Mo_readsDigit, s5]
    refine ⟨fun z => (by first | exact absurd trivial z | exact absurd rfl z | exact absurd z (by decide)), fun _ => ?_⟩
    refine k_Mo_wrongAt (f := 1) (q := p) ?_
    simp only [↓zq, ↓reduceIte, zr_si2, zr_sr1, zr_cp2, zr_tl, zr_tn, shq, List.contains_nil, List.contains_cons, Nat.reduceBEq, Bool.false_or, Bool.or_false, Bool.true_or, Bool.false_eq_true, if_false, if_true, true_and, and_true, List.set_cons_zero, List.set_cons_succ, List.length_cons, List.length_nil, Nat.reduceAdd, Nat.reduceLeDiff, Nat.le_refl, Nat.zero_le, true_or, or_true, zn_cl, ↓jj_Mo_readsDigit]
    obtain ⟨f1, f2⟩ := zu_n_11 h (t_an (1, p))
    exact hb _ rfl _ f1 f2
set_option maxHeartbeats 4000000 in
set_option maxRecDepth 100000 in
theorem k_Mo_readsLevel {d : Nat} {h : zm_M} {R : zm_R} {T : Nat → Nat} {n p m : Nat} (hs : zu_s h T n p) (hm : m ≤ 9) (hb : ∀ x, (f_lv T n m (.inr p)).2 = .inl x → ∀ h' : zm_M, zu_n h h' → h'.1 133 11 = t_an x → R (some (.inl 0)) h') (hg : (f_lv T n m (.inr p)).2 = .inr (p + 1) → ∀ h' : zm_M, zu_n h h' → zu_s h' T n (p + 1) → h'.1 133 12 = nI (f_lv T n m (.inr p)).1 → R (some (.inl 1)) h') : zm_C (d + 3) TT m_Mo_readsLevel [.inr (some 133), .inl (nI m)] h R := by
  have s5 := hs.2.2.2.2.1
  have cl := hs.c_le
  have em : (48 : Int32) + nI m + 1 = nI (48 + m + 1) := by rw [← nI_1, ← nI_add]; rfl
  refine st_Mo_readsLevel [] 30 ?_
  simp only [↓zq, ↓reduceIte, zr_si2, zr_sr1, zr_cp2, zr_tl, zr_tn, shq, List.contains_nil, List.contains_cons, Nat.reduceBEq, Bool.false_or, Bool.or_false, Bool.true_or, Bool.false_eq_true, if_false, if_true, true_and, and_true, List.set_cons_zero, List.set_cons_succ, List.length_cons, List.length_nil, Nat.reduceAdd, Nat.reduceLeDiff, Nat.le_refl, Nat.zero_le, true_or, or_true, zn_cl, ↓jj_Mo_readsLevel]
  refine k_Mo_here hs ?_
  simp only [↓zq, ↓reduceIte, zr_si2, zr_sr1, zr_cp2, zr_tl, zr_tn, shq, List.contains_nil, List.contains_cons, Nat.reduceBEq, Bool.false_or, Bool.or_false, Bool.true_or, Bool.false_eq_true, if_false, if_true, true_and, and_true, List.set_cons_zero, List.set_cons_succ, List.length_cons, List.length_nil, Nat.reduceAdd, Nat.reduceLeDiff, Nat.le_refl, Nat.zero_le, true_or, or_true, zn_cl, ↓jj_Mo_readsLevel, em]
  have dec : (48 + m < t_c T n (.inr p) ∧ t_c T n (.inr p) ≤ 57) ↔ (¬ zt_v (t_c T n (.inr p)) < nI (48 + m + 1) ∧ ¬ 57 < zt_v (t_c T n (.inr p))) := by
    unfold zt_v
    split
    · next q =>
      constructor
      · intro z; omega
      · intro z
        refine absurd ?_ z.1
        have := nI_toInt (show 48 + m + 1 < 2 ^ 31 by omega)
        rw [Int32.lt_iff_toInt_lt, this, show (-1 : Int32).toInt = -1 from rfl]
        omega
    · next q =>
      constructor
      · intro z; exact ⟨nI_nlt z.1 (by omega), nI_nlt (a := 57) z.2 (by omega)⟩
      · intro z
        refine ⟨?_, ?_⟩
        · rcases Nat.lt_or_ge (t_c T n (.inr p)) (48 + m + 1) with y | y
          · exact absurd (nI_lt y (by omega)) z.1
          · exact y
        · rcases Nat.lt_or_ge 57 (t_c T n (.inr p)) with y | y
          · exact absurd (nI_lt (a := 57) y (by omega)) z.2
          · exact y
  refine k_Mo_in (fun z1 z2 => ?_) (fun z => ?_)
  · have hc := dec.mpr ⟨z1, z2⟩
    have e : f_lv T n m (.inr p) = (0, .inl (3, p)) := by
      unfold f_lv
      rw [if_pos hc]
      exact f_dg_d T n hm _
    rw [e] at hb
    simp only [↓zq, ↓reduceIte, zr_si2, zr_sr1, zr_cp2, zr_tl, zr_tn, shq, List.contains_nil, List.contains_cons, Nat.reduceBEq, Bool.false_or, Bool.or_false, Bool.true_or, Bool.false_eq_true, if_false, if_true, true_and, and_true, List.set_cons_zero, List.set_cons_succ, List.length_cons, List.length_nil, Nat.reduceAdd, Nat.reduceLeDiff, Nat.le_refl, Nat.zero_le, true_or, or_true, zn_cl, ↓jj_Mo_readsLevel, s5]
    refine ⟨fun z => absurd z (by decide), fun _ => ?_⟩
    refine k_Mo_wrongAt (f := 3) (q := p) ?_
    simp only [↓zq, ↓reduceIte, zr_si2, zr_sr1, zr_cp2, zr_tl, zr_tn, shq, List.contains_nil, List.contains_cons, Nat.reduceBEq, Bool.false_or, Bool.or_false, Bool.true_or, Bool.false_eq_true, if_false, if_true, true_and, and_true, List.set_cons_zero, List.set_cons_succ, List.length_cons, List.length_nil, Nat.reduceAdd, Nat.reduceLeDiff, Nat.le_refl, Nat.zero_le, true_or, or_true, zn_cl, ↓jj_Mo_readsLevel]
    obtain ⟨f1, f2⟩ := zu_n_11 h (t_an (3, p))
    exact hb _ rfl _ f1 f2
  · have e : f_lv T n m (.inr p) = f_dg T n m (.inr p) := by
      unfold f_lv
      rw [if_neg (fun q => by have := dec.mp q; rcases z with z | z; exact this.1 z; exact this.2 z)]
    rw [e] at hb hg
    simp only [↓zq, ↓reduceIte, zr_si2, zr_sr1, zr_cp2, zr_tl, zr_tn, shq, List.contains_nil, List.contains_cons, Nat.reduceBEq, Bool.false_or, Bool.or_false, Bool.true_or, Bool.false_eq_true, if_false, if_true, true_and, and_true, List.set_cons_zero, List.set_cons_succ, List.length_cons, List.length_nil, Nat.reduceAdd, Nat.reduceLeDiff, Nat.le_refl, Nat.zero_le, true_or, or_true, zn_cl, ↓jj_Mo_readsLevel]
    refine ⟨fun _ => ?_, fun z => (by first | exact absurd trivial z | exact absurd rfl z | exact absurd z (by decide))⟩
    refine k_Mo_readsDigit hs hm (fun x hx h' hf h11 => ?_) (fun hx h' hf hs' h12 => ?_)
    · simp only [↓zq, ↓reduceIte, zr_si2, zr_sr1, zr_cp2, zr_tl, zr_tn, shq, List.contains_nil, List.contains_cons, Nat.reduceBEq, Bool.false_or, Bool.or_false, Bool.true_or, Bool.false_eq_true, if_false, if_true, true_and, and_true, List.set_cons_zero, List.set_cons_succ, List.length_cons, List.length_nil, Nat.reduceAdd, Nat.reduceLeDiff, Nat.le_refl, Nat.zero_le, true_or, or_true, zn_cl, ↓jj_Mo_readsLevel]
      exact hb x hx h' hf h11
    · simp only [↓zq, ↓reduceIte, zr_si2, zr_sr1, zr_cp2, zr_tl, zr_tn, shq, List.contains_nil, List.contains_cons, Nat.reduceBEq, Bool.false_or, Bool.or_false, Bool.true_or, Bool.false_eq_true, if_false, if_true, true_and, and_true, List.set_cons_zero, List.set_cons_succ, List.length_cons, List.length_nil, Nat.reduceAdd, Nat.reduceLeDiff, Nat.le_refl, Nat.zero_le, true_or, or_true, zn_cl, ↓jj_Mo_readsLevel]
      exact hg hx h' hf hs' h12
