/-! summaries and questions read (class) -/
def f_w (c : Nat) : Nat := if c = 115 then 0 else if c = 99 then 1 else if c = 110 then 2 else if c = 120 then 3 else if c = 118 then 4 else if c = 100 then 5 else if c = 109 then 6 else 7
def zt_w (w : Nat) : Int32 := if w = 7 then -1 else nI w
theorem f_w_256 : f_w 256 = 7 := rfl
theorem f_w_le (c : Nat) : f_w c ≤ 7 := by
  unfold f_w
  split
  · omega
  · split
    · omega
    · split
      · omega
      · split
        · omega
        · split
          · omega
          · split
            · omega
            · split <;> omega
theorem f_w_c {c : Nat} (h : f_w c ≠ 7) : c ≠ 256 := fun z => h (by rw [z]; rfl)
set_option maxHeartbeats 4000000 in
set_option maxRecDepth 100000 in
theorem k_Form_whatOf {d : Nat} {T : zm_T} {h : zm_M} {R : zm_R} {c : Nat} (hc : c ≤ 256) (hR : R (some (.inl (zt_w (f_w c)))) h) : zm_C (d + 1) T m_Form_whatOf [.inl (zt_v c)] h R := by
  have ev : ∀ k, k < 256 → (zt_v c = nI k ↔ c = k) := fun k hk => Eq.to_iff (zt_v_eq hc hk)
  refine st_Form_whatOf [] 30 ?_
  simp only [↓zq, ↓reduceIte, zr_si2, zr_sr1, zr_cp2, zr_tl, zr_tn, shq, List.contains_nil, List.contains_cons, Nat.reduceBEq, Bool.false_or, Bool.or_false, Bool.true_or, Bool.false_eq_true, if_false, if_true, true_and, and_true, List.set_cons_zero, List.set_cons_succ, List.length_cons, List.length_nil, Nat.reduceAdd, Nat.reduceLeDiff, Nat.le_refl, Nat.zero_le, true_or, or_true, zn_cl, ↓jj_Form_whatOf]
  refine ⟨fun z => by have := (ev 99 (by decide)).mp z; subst this; exact hR, fun z99 => ⟨fun z => by have := (ev 100 (by decide)).mp z; subst this; exact hR, fun z100 => ⟨fun z => by have := (ev 101 (by decide)).mp z; subst this; exact hR, fun z101 => ⟨fun z => by have := (ev 102 (by decide)).mp z; subst this; exact hR, fun z102 => ⟨fun z => by have := (ev 103 (by decide)).mp z; subst this; exact hR, fun z103 => ⟨fun z => by have := (ev 104 (by decide)).mp z; subst this; exact hR, fun z104 => ⟨fun z => by have := (ev 105 (by decide)).mp z; subst this; exact hR, fun z105 => ⟨fun z => by have := (ev 106 (by decide)).mp z; subst this; exact hR, fun z106 => ⟨fun z => by have := (ev 107 (by decide)).mp z; subst this; exact hR, fun z107 => ⟨fun z => by have := (ev 108 (by decide)).mp z; subst this; exact hR, fun z108 => ⟨fun z => by have := (ev 109 (by decide)).mp z; subst this; exact hR, fun z109 => ⟨fun z => by have := (ev 110 (by decide)).mp z; subst this; exact hR, fun z110 => ⟨fun z => by have := (ev 111 (by decide)).mp z; subst this; exact hR, fun z111 => ⟨fun z => by have := (ev 112 (by decide)).mp z; subst this; exact hR, fun z112 => ⟨fun z => by have := (ev 113 (by decide)).mp z; subst this; exact hR, fun z113 => ⟨fun z => by have := (ev 114 (by decide)).mp z; subst this; exact hR, fun z114 => ⟨fun z => by have := (ev 115 (by decide)).mp z; subst this; exact hR, fun z115 => ⟨fun z => by have := (ev 116 (by decide)).mp z; subst this; exact hR, fun z116 => ⟨fun z => by have := (ev 117 (by decide)).mp z; subst this; exact hR, fun z117 => ⟨fun z => by have := (ev 118 (by decide)).mp z; subst this; exact hR, fun z118 => ⟨fun z => by have := (ev 119 (by decide)).mp z; subst this; exact hR, fun z119 => ⟨fun z => by have := (ev 120 (by decide)).mp z; subst this; exact hR, fun z120 => ?_⟩⟩⟩⟩⟩⟩⟩⟩⟩⟩⟩⟩⟩⟩⟩⟩⟩⟩⟩⟩⟩⟩
  have e7 : f_w c = 7 := by
    unfold f_w
    rw [if_neg (fun q => z115 ((ev 115 (by decide)).mpr q)), if_neg (fun q => z99 ((ev 99 (by decide)).mpr q)), if_neg (fun q => z110 ((ev 110 (by decide)).mpr q)), if_neg (fun q => z120 ((ev 120 (by decide)).mpr q)), if_neg (fun q => z118 ((ev 118 (by decide)).mpr q)), if_neg (fun q => z100 ((ev 100 (by decide)).mpr q)), if_neg (fun q => z109 ((ev 109 (by decide)).mpr q))]
  rw [e7] at hR
  exact hR
def f_e1 (T : Nat → Nat) (n : Nat) (e : zt_S) : zt_S := (f_lv T n 2 e).2
def f_e2 (T : Nat → Nat) (n : Nat) (e : zt_S) : zt_S := (f_lv T n 2 (f_e1 T n e)).2
def f_e3 (T : Nat → Nat) (n : Nat) (e : zt_S) : zt_S := (f_lv T n 2 (f_e2 T n e)).2
def f_le (T : Nat → Nat) (n : Nat) (e : zt_S) : Nat → Nat := fun s => if s = 0 then (f_lv T n 2 e).1 else if s = 1 then (f_lv T n 2 (f_e1 T n e)).1 else (f_lv T n 2 (f_e2 T n e)).1
set_option maxHeartbeats 4000000 in
set_option maxRecDepth 100000 in
theorem k_Form_readLevels {d : Nat} {h : zm_M} {R : zm_R} {T : Nat → Nat} {n : Nat} {e : zt_S} (hp : zp_ok h.2) (hs : zt_s h T n e) (hR : ∀ h' : zm_M, zr_f h h' → zt_s h' T n (f_e3 T n e) → (∀ k, k < 3 → h'.1 17 k = nI (f_le T n e k)) → h'.1 16 = h.1 16 → h'.1 18 = h.1 18 → h'.1 15 = h.1 15 → R none h') : zm_C (d + 4) TT m_Form_readLevels [.inr (some 13)] h R := by
  obtain ⟨p0, p1, p2⟩ := zp_13 hp
  have step : ∀ (g : zm_M) (s : Nat) (e' : zt_S), s < 3 → g.2 = h.2 → zt_s g T n e' → (∀ g' : zm_M, zt_f g g' → zt_s g' T n (f_lv T n 2 e').2 → zm_W (zm_md m_Form_readLevels) (d + 4) TT R 2 [some (.inr (some 13)), some (.inl (nI (s + 1)))] [] (zm_si g' 17 s (nI (f_lv T n 2 e').1))) → zm_W (zm_md m_Form_readLevels) (d + 4) TT R 2 [some (.inr (some 13)), some (.inl (nI s))] [] g := by
    intro g s e' hs3 g2 hsg hk
    have q2 : g.2 13 2 = some 16 := by rw [g2]; exact p2
    refine zm_go g_Form_readLevels [2] 30 (by decide +kernel) ok_Form_readLevels _ rfl ?_
    simp only [↓zq, ↓reduceIte, zr_si2, zr_sr1, zr_cp2, zr_tl, zr_tn, shq, List.contains_nil, List.contains_cons, Nat.reduceBEq, Bool.false_or, Bool.or_false, Bool.true_or, Bool.false_eq_true, if_false, if_true, true_and, and_true, List.set_cons_zero, List.set_cons_succ, List.length_cons, List.length_nil, Nat.reduceAdd, Nat.reduceLeDiff, Nat.le_refl, Nat.zero_le, true_or, or_true, zn_cl, ↓jj_Form_readLevels, q2]
    refine ⟨fun z => absurd z (nI_ge (b := 3) hs3 (by decide)), fun _ => ?_⟩
    refine k_Form_readLevel (m := 2) (by rw [g2]; exact hp) (by decide) hsg (fun g1 f1 s1 => ?_)
    simp only [↓zq, ↓reduceIte, zr_si2, zr_sr1, zr_cp2, zr_tl, zr_tn, shq, List.contains_nil, List.contains_cons, Nat.reduceBEq, Bool.false_or, Bool.or_false, Bool.true_or, Bool.false_eq_true, if_false, if_true, true_and, and_true, List.set_cons_zero, List.set_cons_succ, List.length_cons, List.length_nil, Nat.reduceAdd, Nat.reduceLeDiff, Nat.le_refl, Nat.zero_le, true_or, or_true, zn_cl, ↓jj_Form_readLevels]
    refine k_Cut_tellLevel (zk_cutF (by rw [f1.1, g2]; exact hp)) hs3 ?_
    simp only [↓zq, ↓reduceIte, zr_si2, zr_sr1, zr_cp2, zr_tl, zr_tn, shq, List.contains_nil, List.contains_cons, Nat.reduceBEq, Bool.false_or, Bool.or_false, Bool.true_or, Bool.false_eq_true, if_false, if_true, true_and, and_true, List.set_cons_zero, List.set_cons_succ, List.length_cons, List.length_nil, Nat.reduceAdd, Nat.reduceLeDiff, Nat.le_refl, Nat.zero_le, true_or, or_true, zn_cl, ↓jj_Form_readLevels, nI_1]
    exact hk g1 f1 s1
  have sx : ∀ (g : zm_M) (k : Nat) (y : Int32) (e' : zt_S), zt_s g T n e' → zt_s (zm_si g 17 k y) T n e' := fun g k y e' hg => zt_s_i hg rfl (by funext j; rw [zr_si1, if_neg (by omega)]) (by funext j; rw [zr_si1, if_neg (by omega)])
  refine st_Form_readLevels [2] 30 ?_
  simp only [↓zq, ↓reduceIte, zr_si2, zr_sr1, zr_cp2, zr_tl, zr_tn, shq, List.contains_nil, List.contains_cons, Nat.reduceBEq, Bool.false_or, Bool.or_false, Bool.true_or, Bool.false_eq_true, if_false, if_true, true_and, and_true, List.set_cons_zero, List.set_cons_succ, List.length_cons, List.length_nil, Nat.reduceAdd, Nat.reduceLeDiff, Nat.le_refl, Nat.zero_le, true_or, or_true, zn_cl, ↓jj_Form_readLevels]
  refine step h 0 e (by decide) rfl hs (fun g1 f1 s1 => ?_)
  refine step _ 1 (f_e1 T n e) (by decide) f1.1 (sx _ _ _ _ s1) (fun g2 f2 s2 => ?_)
  refine step _ 2 (f_e2 T n e) (by decide) (f2.1.trans f1.1) (sx _ _ _ _ s2) (fun g3 f3 s3 => ?_)
  have k17 : ∀ (g g' : zm_M) (a : Nat), zt_f g g' → g'.1 17 = g.1 17 := fun g g' a hf => hf.2.1 17 (by omega)
  refine zm_go g_Form_readLevels [2] 30 (by decide +kernel) ok_Form_readLevels _ rfl ?_
  simp only [↓zq, ↓reduceIte, zr_si2, zr_sr1, zr_cp2, zr_tl, zr_tn, shq, List.contains_nil, List.contains_cons, Nat.reduceBEq, Bool.false_or, Bool.or_false, Bool.true_or, Bool.false_eq_true, if_false, if_true, true_and, and_true, List.set_cons_zero, List.set_cons_succ, List.length_cons, List.length_nil, Nat.reduceAdd, Nat.reduceLeDiff, Nat.le_refl, Nat.zero_le, true_or, or_true, zn_cl, ↓jj_Form_readLevels]
  refine ⟨fun _ => ?_, fun z => absurd (by decide) z⟩
  have fr := ((((f1.r.s 17 0 (by omega) (nI (f_lv T n 2 e).1)).tr f2.r).s 17 1 (by omega) (nI (f_lv T n 2 (f_e1 T n e)).1)).tr f3.r).s 17 2 (by omega) (nI (f_lv T n 2 (f_e2 T n e)).1)
  have oth : ∀ a, a ≠ 1 → a ≠ 17 → (zm_si g3 17 2 (nI (f_lv T n 2 (f_e2 T n e)).1)).1 a = h.1 a := fun a h1 h2 => by
    funext j
    rw [zr_si1, if_neg (fun z => h2 z.1), f3.2.1 a h1, zr_si1, if_neg (fun z => h2 z.1), f2.2.1 a h1, zr_si1, if_neg (fun z => h2 z.1), f1.2.1 a h1]
  refine hR _ fr (sx _ _ _ _ s3) (fun k hk => ?_) (oth 16 (by omega) (by omega)) (oth 18 (by omega) (by omega)) (oth 15 (by omega) (by omega))
  unfold f_le
  rw [zr_si1]
  rcases (show k = 0 ∨ k = 1 ∨ k = 2 by omega) with rfl | rfl | rfl
  · rw [if_neg (by omega), f3.2.1 17 (by omega), zr_si1, if_neg (by omega), f2.2.1 17 (by omega), zr_si1, if_pos ⟨rfl, rfl⟩]
    rfl
  · rw [if_neg (by omega), f3.2.1 17 (by omega), zr_si1, if_pos ⟨rfl, rfl⟩]
    rfl
  · rw [if_pos ⟨rfl, rfl⟩]
    rfl
/-- parts -/
def f_pt (T : Nat → Nat) (n : Nat) : Nat → Nat → zt_S → Nat × zt_S
  | 0, ks, e => (ks, e)
  | f + 1, ks, e => if f_w (t_c T n e) < 4 then f_pt T n f (ks ||| 2 ^ f_w (t_c T n e)) (t_st (if ks.testBit (f_w (t_c T n e)) = true then t_fl 6 e else e)) else (ks, e)
def f_pe (T : Nat → Nat) (n : Nat) (e : zt_S) : zt_S := if (f_pt T n 80 0 e).1 = 0 then t_fl 1 (f_pt T n 80 0 e).2 else (f_pt T n 80 0 e).2
theorem zs_and2' (a i : Nat) : (a &&& 2 ^ i = 2 ^ i) ↔ a.testBit i = true := by
  constructor
  · intro h
    have := congrArg (fun z => z.testBit i) h
    simpa [Nat.testBit_and, Nat.testBit_two_pow_self] using this
  · intro h
    apply Nat.eq_of_testBit_eq
    intro j
    rw [Nat.testBit_and, Nat.testBit_two_pow]
    by_cases z : i = j
    · subst z
      rw [h]
      rfl
    · simp [z]
theorem f_pt_lt {T : Nat → Nat} {n : Nat} : ∀ (f ks : Nat) (e : zt_S), ks < 16 → (f_pt T n f ks e).1 < 16 := by
  intro f
  induction f with
  | zero => intro ks e h; exact h
  | succ f ih =>
    intro ks e h
    unfold f_pt
    split
    · next z => exact ih _ _ (Nat.or_lt_two_pow (n := 4) h (Nat.pow_lt_pow_right (by decide) z))
    · exact h
theorem t_st_fl {f : Nat} {e : zt_S} : ∀ p, t_fl f e ≠ .inr p := by
  intro p
  cases e <;> (intro h; cases h)
set_option maxHeartbeats 4000000 in
set_option maxRecDepth 100000 in
theorem k_Form_readParts {d : Nat} {h : zm_M} {R : zm_R} {T : Nat → Nat} {n : Nat} {e : zt_S} (hp : zp_ok h.2) (hs : zt_s h T n e) (hk0 : h.1 16 2 = 0) (hR : ∀ h' : zm_M, zr_f h h' → zt_s h' T n (f_pe T n e) → h'.1 16 2 = nI (f_pt T n 80 0 e).1 → h'.1 17 = h.1 17 → h'.1 18 = h.1 18 → R none h') : zm_C (d + 3) TT m_Form_readParts [.inr (some 13)] h R := by
  obtain ⟨p0, p1, p2⟩ := zp_13 hp
  have out : ∀ (g : zm_M) (l1 l2 : Option zm_V) (ks : Nat) (e' : zt_S), zr_f h g → zt_s g T n e' → g.1 16 2 = nI ks → ks < 16 → g.1 17 = h.1 17 → g.1 18 = h.1 18 → f_pt T n 80 0 e = (ks, e') → zm_W (zm_md m_Form_readParts) (d + 3) TT R 81 [some (.inr (some 13)), l1, l2] [] g := by
    intro g l1 l2 ks e' hf hs' h16 hk h17 h18 he
    have q0 : g.2 13 0 = some 1 ∧ g.2 13 2 = some 16 := by rw [hf.1]; exact ⟨p0, p2⟩
    unfold f_pe at hR
    rw [he] at hR
    dsimp only at hR
    have ez := zn_z (show ks < 2 ^ 31 by omega)
    refine zm_go g_Form_readParts [2, 53, 81] 30 (by decide +kernel) ok_Form_readParts _ rfl ?_
    simp only [↓zq, ↓reduceIte, zr_si2, zr_sr1, zr_cp2, zr_tl, zr_tn, shq, List.contains_nil, List.contains_cons, Nat.reduceBEq, Bool.false_or, Bool.or_false, Bool.true_or, Bool.false_eq_true, if_false, if_true, true_and, and_true, List.set_cons_zero, List.set_cons_succ, List.length_cons, List.length_nil, Nat.reduceAdd, Nat.reduceLeDiff, Nat.le_refl, Nat.zero_le, true_or, or_true, zn_cl, ↓jj_Form_readParts, q0, h16, ez]
    refine ⟨fun z => ?_, fun z => ?_⟩
    · rw [if_neg z] at hR
      exact hR g hf hs' h16 h17 h18
    · rw [if_pos z] at hR
      refine k_Tape_fail (f := 1) hs' (by decide) (by decide) (fun g2 f2 s2 => ?_)
      simp only [↓zq, ↓reduceIte, zr_si2, zr_sr1, zr_cp2, zr_tl, zr_tn, shq, List.contains_nil, List.contains_cons, Nat.reduceBEq, Bool.false_or, Bool.or_false, Bool.true_or, Bool.false_eq_true, if_false, if_true, true_and, and_true, List.set_cons_zero, List.set_cons_succ, List.length_cons, List.length_nil, Nat.reduceAdd, Nat.reduceLeDiff, Nat.le_refl, Nat.zero_le, true_or, or_true, zn_cl, ↓jj_Form_readParts]
      exact hR g2 (hf.tr f2.r) s2 (by rw [f2.2.1 16 (by omega)]; exact h16) ((f2.2.1 17 (by omega)).trans h17) ((f2.2.1 18 (by omega)).trans h18)
  have loop : ∀ (f i ks : Nat) (g : zm_M) (l2 : Option zm_V) (e' : zt_S), i + f = 80 → ks < 16 → zr_f h g → zt_s g T n e' → g.1 16 2 = nI ks → g.1 17 = h.1 17 → g.1 18 = h.1 18 → f_pt T n 80 0 e = f_pt T n f ks e' → zm_W (zm_md m_Form_readParts) (d + 3) TT R 2 [some (.inr (some 13)), some (.inl (nI i)), l2] [] g := by
    intro f
    induction f with
    | zero =>
      intro i ks g l2 e' hi hk hf hs' h16 h17 h18 he
      have : i = 80 := by omega
      subst this
      refine zm_go g_Form_readParts [2, 53, 81] 30 (by decide +kernel) ok_Form_readParts _ rfl ?_
      simp only [↓zq, ↓reduceIte, zr_si2, zr_sr1, zr_cp2, zr_tl, zr_tn, shq, List.contains_nil, List.contains_cons, Nat.reduceBEq, Bool.false_or, Bool.or_false, Bool.true_or, Bool.false_eq_true, if_false, if_true, true_and, and_true, List.set_cons_zero, List.set_cons_succ, List.length_cons, List.length_nil, Nat.reduceAdd, Nat.reduceLeDiff, Nat.le_refl, Nat.zero_le, true_or, or_true, zn_cl, ↓jj_Form_readParts]
      exact ⟨fun _ => out g _ _ ks e' hf hs' h16 hk h17 h18 he, fun z => absurd (by decide) z⟩
    | succ f ih =>
      intro i ks g l2 e' hi hk hf hs' h16 h17 h18 he
      have q0 : g.2 13 0 = some 1 ∧ g.2 13 2 = some 16 := by rw [hf.1]; exact ⟨p0, p2⟩
      have wl := f_w_le (t_c T n e')
      refine zm_go g_Form_readParts [2, 53, 81] 30 (by decide +kernel) ok_Form_readParts _ rfl ?_
      simp only [↓zq, ↓reduceIte, zr_si2, zr_sr1, zr_cp2, zr_tl, zr_tn, shq, List.contains_nil, List.contains_cons, Nat.reduceBEq, Bool.false_or, Bool.or_false, Bool.true_or, Bool.false_eq_true, if_false, if_true, true_and, and_true, List.set_cons_zero, List.set_cons_succ, List.length_cons, List.length_nil, Nat.reduceAdd, Nat.reduceLeDiff, Nat.le_refl, Nat.zero_le, true_or, or_true, zn_cl, ↓jj_Form_readParts, q0]
      refine ⟨fun z => absurd z (nI_ge (b := 80) (by omega) (by decide)), fun _ => ?_⟩
      refine k_Tape_peek hs' ?_
      simp only [↓zq, ↓reduceIte, zr_si2, zr_sr1, zr_cp2, zr_tl, zr_tn, shq, List.contains_nil, List.contains_cons, Nat.reduceBEq, Bool.false_or, Bool.or_false, Bool.true_or, Bool.false_eq_true, if_false, if_true, true_and, and_true, List.set_cons_zero, List.set_cons_succ, List.length_cons, List.length_nil, Nat.reduceAdd, Nat.reduceLeDiff, Nat.le_refl, Nat.zero_le, true_or, or_true, zn_cl, ↓jj_Form_readParts, q0]
      refine k_Form_whatOf hs'.c_le ?_
      unfold f_pt at he
      by_cases hw4 : f_w (t_c T n e') < 4
      · rw [if_pos hw4] at he
        have ew : zt_w (f_w (t_c T n e')) = nI (f_w (t_c T n e')) := if_neg (by omega)
        have eb : (1 : Int32) <<< (nI (f_w (t_c T n e')) &&& 31) = nI (2 ^ f_w (t_c T n e')) := zn_s1 _ (by omega)
        have p16 : 2 ^ f_w (t_c T n e') < 16 := Nat.pow_lt_pow_right (n := 4) (by decide) hw4
        rw [ew]
        simp only [↓zq, ↓reduceIte, zr_si2, zr_sr1, zr_cp2, zr_tl, zr_tn, shq, List.contains_nil, List.contains_cons, Nat.reduceBEq, Bool.false_or, Bool.or_false, Bool.true_or, Bool.false_eq_true, if_false, if_true, true_and, and_true, List.set_cons_zero, List.set_cons_succ, List.length_cons, List.length_nil, Nat.reduceAdd, Nat.reduceLeDiff, Nat.le_refl, Nat.zero_le, true_or, or_true, zn_cl, ↓jj_Form_readParts, q0, eb]
        refine ⟨fun z => absurd z (nI_pos (by omega)), fun _ => ⟨fun _ => ?_, fun z => absurd (nI_lt (b := 4) hw4 (by decide)) z⟩⟩
        refine k_Cut_keepsAll (k := ks) (p := 2 ^ f_w (t_c T n e')) rfl h16 (by omega) (by omega) ?_
        have go : ∀ (g2 : zm_M), zt_f g g2 → zt_s g2 T n (if ks.testBit (f_w (t_c T n e')) = true then t_fl 6 e' else e') → zm_W (zm_md m_Form_readParts) (d + 3) TT R 53 [some (.inr (some 13)), some (.inl (nI i)), some (.inl (nI (f_w (t_c T n e'))))] [] g2 := by
          intro g2 f2 s2
          have f2' := hf.tr f2.r
          have q0 : g2.2 13 0 = some 1 ∧ g2.2 13 2 = some 16 := by rw [f2'.1]; exact ⟨p0, p2⟩
          have h16' : g2.1 16 2 = nI ks := by rw [f2.2.1 16 (by omega)]; exact h16
          refine zm_go g_Form_readParts [2, 53, 81] 30 (by decide +kernel) ok_Form_readParts _ rfl ?_
          simp only [↓zq, ↓reduceIte, zr_si2, zr_sr1, zr_cp2, zr_tl, zr_tn, shq, List.contains_nil, List.contains_cons, Nat.reduceBEq, Bool.false_or, Bool.or_false, Bool.true_or, Bool.false_eq_true, if_false, if_true, true_and, and_true, List.set_cons_zero, List.set_cons_succ, List.length_cons, List.length_nil, Nat.reduceAdd, Nat.reduceLeDiff, Nat.le_refl, Nat.zero_le, true_or, or_true, zn_cl, ↓jj_Form_readParts, q0, eb, h16', zn_or]
          have s2' : zt_s (zm_si g2 16 2 (nI (ks ||| 2 ^ f_w (t_c T n e')))) T n (if ks.testBit (f_w (t_c T n e')) = true then t_fl 6 e' else e') := zt_s_i s2 rfl (by funext j; rw [zr_si1, if_neg (by omega)]) (by funext j; rw [zr_si1, if_neg (by omega)])
          refine k_Tape_step s2' (fun p hp => ?_) (fun g3 f3 s3 => ?_)
          · split at hp
            · exact absurd hp (t_st_fl p)
            · exact t_c_lt (T := T) (f_w_c (by omega)) p hp
          · simp only [↓zq, ↓reduceIte, zr_si2, zr_sr1, zr_cp2, zr_tl, zr_tn, shq, List.contains_nil, List.contains_cons, Nat.reduceBEq, Bool.false_or, Bool.or_false, Bool.true_or, Bool.false_eq_true, if_false, if_true, true_and, and_true, List.set_cons_zero, List.set_cons_succ, List.length_cons, List.length_nil, Nat.reduceAdd, Nat.reduceLeDiff, Nat.le_refl, Nat.zero_le, true_or, or_true, zn_cl, ↓jj_Form_readParts, nI_1]
            refine ih (i + 1) _ g3 _ _ (by omega) (Nat.or_lt_two_pow (n := 4) hk p16) ((f2'.s 16 2 (by omega) _).tr f3.r) s3 ?_ ?_ ?_ he
            · rw [f3.2.1 16 (by omega), zr_si1, if_pos ⟨rfl, rfl⟩]
            · rw [f3.2.1 17 (by omega)]
              funext j
              rw [zr_si1, if_neg (by omega), f2.2.1 17 (by omega), h17]
            · rw [f3.2.1 18 (by omega)]
              funext j
              rw [zr_si1, if_neg (by omega), f2.2.1 18 (by omega), h18]
        by_cases tb : ks.testBit (f_w (t_c T n e')) = true
        · rw [if_pos ((zs_and2' _ _).mpr tb)]
          simp only [↓zq, ↓reduceIte, zr_si2, zr_sr1, zr_cp2, zr_tl, zr_tn, shq, List.contains_nil, List.contains_cons, Nat.reduceBEq, Bool.false_or, Bool.or_false, Bool.true_or, Bool.false_eq_true, if_false, if_true, true_and, and_true, List.set_cons_zero, List.set_cons_succ, List.length_cons, List.length_nil, Nat.reduceAdd, Nat.reduceLeDiff, Nat.le_refl, Nat.zero_le, true_or, or_true, zn_cl, ↓jj_Form_readParts, q0]
          refine ⟨fun z => absurd z (by decide), fun _ => ?_⟩
          refine k_Tape_fail (f := 6) hs' (by decide) (by decide) (fun g2 f2 s2 => ?_)
          simp only [↓zq, ↓reduceIte, zr_si2, zr_sr1, zr_cp2, zr_tl, zr_tn, shq, List.contains_nil, List.contains_cons, Nat.reduceBEq, Bool.false_or, Bool.or_false, Bool.true_or, Bool.false_eq_true, if_false, if_true, true_and, and_true, List.set_cons_zero, List.set_cons_succ, List.length_cons, List.length_nil, Nat.reduceAdd, Nat.reduceLeDiff, Nat.le_refl, Nat.zero_le, true_or, or_true, zn_cl, ↓jj_Form_readParts]
          rw [if_pos tb] at go
          exact go g2 f2 s2
        · rw [if_neg (fun z => tb ((zs_and2' _ _).mp z))]
          simp only [↓zq, ↓reduceIte, zr_si2, zr_sr1, zr_cp2, zr_tl, zr_tn, shq, List.contains_nil, List.contains_cons, Nat.reduceBEq, Bool.false_or, Bool.or_false, Bool.true_or, Bool.false_eq_true, if_false, if_true, true_and, and_true, List.set_cons_zero, List.set_cons_succ, List.length_cons, List.length_nil, Nat.reduceAdd, Nat.reduceLeDiff, Nat.le_refl, Nat.zero_le, true_or, or_true, zn_cl, ↓jj_Form_readParts, q0]
          refine ⟨fun _ => ?_, fun z => (by first | exact absurd trivial z | exact absurd rfl z | exact absurd z (by decide))⟩
          rw [if_neg tb] at go
          exact go g (zt_f.rf g) hs'
      · rw [if_neg hw4] at he
        simp only [↓zq, ↓reduceIte, zr_si2, zr_sr1, zr_cp2, zr_tl, zr_tn, shq, List.contains_nil, List.contains_cons, Nat.reduceBEq, Bool.false_or, Bool.or_false, Bool.true_or, Bool.false_eq_true, if_false, if_true, true_and, and_true, List.set_cons_zero, List.set_cons_succ, List.length_cons, List.length_nil, Nat.reduceAdd, Nat.reduceLeDiff, Nat.le_refl, Nat.zero_le, true_or, or_true, zn_cl, ↓jj_Form_readParts]
        have o := fun l2 => out g (some (.inl (nI i))) l2 ks e' hf hs' h16 hk h17 h18 he
        refine ⟨fun _ => o _, fun z => ⟨fun z2 => ?_, fun _ => o _⟩⟩
        exfalso
        by_cases h7 : f_w (t_c T n e') = 7
        · rw [h7] at z
          exact z (by decide)
        · have ew : zt_w (f_w (t_c T n e')) = nI (f_w (t_c T n e')) := if_neg h7
          rw [ew] at z2
          exact nI_nlt (b := 4) (by omega) (by omega) z2
  refine st_Form_readParts [2, 53, 81] 30 ?_
  simp only [↓zq, ↓reduceIte, zr_si2, zr_sr1, zr_cp2, zr_tl, zr_tn, shq, List.contains_nil, List.contains_cons, Nat.reduceBEq, Bool.false_or, Bool.or_false, Bool.true_or, Bool.false_eq_true, if_false, if_true, true_and, and_true, List.set_cons_zero, List.set_cons_succ, List.length_cons, List.length_nil, Nat.reduceAdd, Nat.reduceLeDiff, Nat.le_refl, Nat.zero_le, true_or, or_true, zn_cl, ↓jj_Form_readParts]
  exact loop 80 0 0 h none e (by omega) (by decide) (zr_f.rf h) hs hk0 rfl rfl rfl
