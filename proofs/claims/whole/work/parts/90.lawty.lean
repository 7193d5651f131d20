/-! what is read is typed -/
def zl_TY (cd : zl_cd) (a b : Nat) (s0 s1 : List Bool) (m : Nat) : Prop := a ≤ b ∧ ∃ ty : Nat → List Bool, ty a = s0 ∧ ty b = s1 ∧ (∀ k, a ≤ k → k ≤ b → (ty k).length ≤ m) ∧ ∀ k, a ≤ k → k < b → zl_st cd ty b k
theorem zl_st_c {cd cd' : zl_cd} {ty ty' : Nat → List Bool} {b b' k : Nat} (hc : cd' k = cd k) (h0 : ty' k = ty k) (h1 : ty' (k + 1) = ty (k + 1)) (ht : (cd k).2 ≤ b → k < (cd k).2 → ty' (cd k).2 = ty (cd k).2) (hb : b ≤ b') (h : zl_st cd ty b k) : zl_st cd' ty' b' k := by
  unfold zl_st at *
  rw [hc, h0, h1]
  rcases h with h | h | h | h | h | h
  · exact Or.inl h
  · exact Or.inr (Or.inl h)
  · exact Or.inr (Or.inr (Or.inl h))
  · obtain ⟨a1, a2, a3, r, a4, a5, a6⟩ := h
    exact Or.inr (Or.inr (Or.inr (Or.inl ⟨a1, a2, Nat.le_trans a3 hb, r, a4, a5, (ht a3 a2).trans a6⟩)))
  · exact Or.inr (Or.inr (Or.inr (Or.inr (Or.inl h))))
  · exact Or.inr (Or.inr (Or.inr (Or.inr (Or.inr h))))
theorem zl_TY_c {cd cd' : zl_cd} {a b m m' : Nat} {s0 s1 : List Bool} (hc : ∀ k, a ≤ k → k < b → cd' k = cd k) (hm : m ≤ m') (h : zl_TY cd a b s0 s1 m) : zl_TY cd' a b s0 s1 m' := by
  obtain ⟨h0, ty, h1, h2, h3, h4⟩ := h
  exact ⟨h0, ty, h1, h2, fun k a1 a2 => Nat.le_trans (h3 k a1 a2) hm, fun k a1 a2 => zl_st_c (hc k a1 a2) rfl rfl (fun _ _ => rfl) (Nat.le_refl _) (h4 k a1 a2)⟩
theorem zl_TY_cat {cd : zl_cd} {a b c m : Nat} {s0 s1 s2 : List Bool} (h : zl_TY cd a b s0 s1 m) (g : zl_TY cd b c s1 s2 m) : zl_TY cd a c s0 s2 m := by
  obtain ⟨h0, ty, h1, h2, h3, h4⟩ := h
  obtain ⟨g0, tz, g1, g2, g3, g4⟩ := g
  refine ⟨Nat.le_trans h0 g0, fun k => if k ≤ b then ty k else tz k, ?_, ?_, fun k a1 a2 => ?_, fun k a1 a2 => ?_⟩
  · (try dsimp only); rw [if_pos h0]; exact h1
  · dsimp only
    by_cases z : c ≤ b
    · have : c = b := by omega
      subst this
      rw [if_pos z, h2, ← g1, g2]
    · rw [if_neg z]; exact g2
  · dsimp only
    split
    · next z => exact h3 k a1 z
    · exact g3 k (by omega) a2
  · by_cases z : k < b
    · refine zl_st_c (ty := ty) (b := b) rfl ?_ ?_ (fun t1 t2 => ?_) g0 (h4 k a1 z)
      · (try dsimp only); rw [if_pos (by omega)]
      · (try dsimp only); rw [if_pos (by omega)]
      · (try dsimp only); rw [if_pos t1]
    · refine zl_st_c (ty := tz) (b := c) rfl ?_ ?_ (fun t1 t2 => ?_) (Nat.le_refl _) (g4 k (by omega) a2)
      · try dsimp only
        by_cases y : k ≤ b
        · have : k = b := by omega
          subst this
          rw [if_pos y, h2, g1]
        · rw [if_neg y]
      · (try dsimp only); rw [if_neg (by omega)]
      · (try dsimp only); rw [if_neg (by omega)]
theorem zl_TY_0 (cd : zl_cd) {a m : Nat} {s0 : List Bool} (hm : s0.length ≤ m) : zl_TY cd a a s0 s0 m := ⟨Nat.le_refl _, fun _ => s0, rfl, rfl, fun _ _ _ => hm, fun k h1 h2 => by omega⟩
theorem zl_TY_1 {cd : zl_cd} {a m : Nat} {s0 s1 : List Bool} (h0 : s0.length ≤ m) (h1 : s1.length ≤ m) (h : zl_st cd (fun k => if k ≤ a then s0 else s1) (a + 1) a) : zl_TY cd a (a + 1) s0 s1 m := by
  refine ⟨Nat.le_succ _, fun k => if k ≤ a then s0 else s1, ?_, ?_, fun k a1 a2 => ?_, fun k a1 a2 => ?_⟩
  · (try dsimp only); rw [if_pos (Nat.le_refl _)]
  · (try dsimp only); rw [if_neg (by omega)]
  · dsimp only; split <;> assumption
  · have : k = a := by omega
    subst this
    exact h
/-- a jump from i over what lies up to t -/
theorem zl_TY_j {cd : zl_cd} {a i t m : Nat} {r : List Bool} (h : zl_TY cd a i r (true :: r) m) (ho : (cd i).1 = 11 ∨ (cd i).1 = 12) (ht : (cd i).2 = t) (g : zl_TY cd (i + 1) t r (true :: r) m) : zl_TY cd a t r (true :: r) m := by
  obtain ⟨h0, ty, h1, h2, h3, h4⟩ := h
  obtain ⟨g0, tz, g1, g2, g3, g4⟩ := g
  refine ⟨by omega, fun k => if k ≤ i then ty k else tz k, ?_, ?_, fun k a1 a2 => ?_, fun k a1 a2 => ?_⟩
  · (try dsimp only); rw [if_pos h0]; exact h1
  · (try dsimp only); rw [if_neg (by omega)]; exact g2
  · dsimp only
    split
    · next z => exact h3 k a1 z
    · exact g3 k (by omega) a2
  · rcases Nat.lt_trichotomy k i with z | z | z
    · refine zl_st_c (ty := ty) (b := i) rfl ?_ ?_ (fun t1 t2 => ?_) (by omega) (h4 k a1 z)
      · (try dsimp only); rw [if_pos (by omega)]
      · (try dsimp only); rw [if_pos (by omega)]
      · (try dsimp only); rw [if_pos t1]
    · subst z
      refine Or.inr (Or.inr (Or.inr (Or.inl ⟨ho, by omega, by omega, r, ?_, ?_, ?_⟩)))
      · (try dsimp only); rw [if_pos (Nat.le_refl _)]; exact h2
      · (try dsimp only); rw [if_neg (by omega)]; exact g1
      · (try dsimp only); rw [ht, if_neg (by omega)]; exact g2
    · refine zl_st_c (ty := tz) (b := t) rfl ?_ ?_ (fun t1 t2 => ?_) (Nat.le_refl _) (g4 k (by omega) a2)
      · (try dsimp only); rw [if_neg (by omega)]
      · (try dsimp only); rw [if_neg (by omega)]
      · (try dsimp only); rw [if_neg (by omega)]
theorem zl_TY_ty {cd : zl_cd} {a b m : Nat} {s1 : List Bool} (hm : m ≤ 30) (h : zl_TY cd a b [] s1 m) : ∃ ty, zl_ty cd ty a b s1 := by
  obtain ⟨h0, ty, h1, h2, h3, h4⟩ := h
  exact ⟨ty, h0, h1, h2, fun k a1 a2 => Nat.le_trans (h3 k a1 a2) hm, h4⟩
/-- codes that grew: no more of them than bytes taken, those before stand -/
def zl_gr (n : Nat) (c : zl_c) (p : Nat) (c' : zl_c) (p' : Nat) : Prop := p < p' ∧ p' ≤ n ∧ c.1 ≤ c'.1 ∧ c'.1 + p ≤ c.1 + p' ∧ ∀ k, k < c.1 → c'.2 k = c.2 k
theorem lc_push_1 {op v : Nat} {c : zl_c} (h : c.1 < 240) : lc_push op v c = (c.1 + 1, fun k => if k = c.1 then (op, v) else c.2 k) := if_pos h
theorem lc_push_at {op v : Nat} {c : zl_c} (h : c.1 < 240) : (lc_push op v c).1 = c.1 + 1 ∧ (lc_push op v c).2 c.1 = (op, v) ∧ ∀ k, k < c.1 → (lc_push op v c).2 k = c.2 k := by
  rw [lc_push_1 h]
  refine ⟨rfl, ?_, fun k hk => ?_⟩
  · (try dsimp only); rw [if_pos rfl]
  · (try dsimp only); rw [if_neg (by omega)]
theorem p_num_p {T : Nat → Nat} {n : Nat} : ∀ (f v p p' : Nat), p ≤ n → (p_num T n f v (.inr p)).2 = .inr p' → p ≤ p' ∧ p' ≤ n := by
  intro f
  induction f with
  | zero => intro v p p' hp h; cases h; exact ⟨Nat.le_refl _, hp⟩
  | succ f ih =>
    intro v p p' hp h
    rw [p_num_s] at h
    split at h
    · next hd =>
      have pn : p < n := t_c_r_lt (T := T) (by omega)
      by_cases z : f = 0
      · subst z
        rw [if_pos rfl] at h
        cases h
      · rw [if_neg z] at h
        have := ih _ (p + 1) p' pn h
        omega
    · cases h; exact ⟨Nat.le_refl _, hp⟩
/-- a dead tape stays -/
theorem p_fac_d {T : Nat → Nat} {n dp : Nat} {sub : zl_s → zl_s} (x : Nat × Nat) (c : zl_c) : (p_fac T n sub dp (.inl x, c)).1 = .inl x := by
  unfold p_fac
  rw [if_neg (by rw [t_c_d]; decide), if_neg (by rw [t_c_d]; decide), if_neg (by rw [t_c_d]; omega)]
  rfl
theorem p_suml_d {T : Nat → Nat} {n : Nat} {fac : zl_s → zl_s} (hf : ∀ x c, (fac (.inl x, c)).1 = .inl x) (f : Nat) (ts fs : Option Nat) (x : Nat × Nat) (c : zl_c) : (p_suml T n fac f ts fs (.inl x, c)).1 = .inl x := by
  cases f with
  | zero => rfl
  | succ f =>
    rw [p_suml_s, hf, if_neg (by rw [t_c_d]; omega), if_neg (by rw [t_c_d]; omega)]
theorem p_sum_d {T : Nat → Nat} {n : Nat} (dp : Nat) (x : Nat × Nat) (c : zl_c) : (p_sum T n dp (.inl x, c)).1 = .inl x := by
  cases dp with
  | zero => exact p_suml_d (fun x c => p_fac_d x c) 240 none none x c
  | succ dp => exact p_suml_d (fun x c => p_fac_d x c) 240 none none x c
def l_cn (o : Option Nat) : Nat := match o with | none => 0 | some _ => 1
/-- a factor of depth dp reads well, where the sum below does -/
def p_okF (T : Nat → Nat) (n : Nat) (m : Nat) (fac : zl_s → zl_s) : Prop := ∀ (p : Nat) (c : zl_c) (p' : Nat) (r : List Bool), 1 ≤ p → p ≤ n → n ≤ 240 → c.1 ≤ p → (fac (.inr p, c)).1 = .inr p' → zl_gr n c p (fac (.inr p, c)).2 p' ∧ zl_TY (fac (.inr p, c)).2.2 c.1 (fac (.inr p, c)).2.1 r (false :: r) (r.length + m)
theorem p_okF_fac {T : Nat → Nat} {n m dp : Nat} {sub : zl_s → zl_s} (hm : 1 ≤ m) (hsub : 0 < dp → p_okF T n m sub) (hd : ∀ x c, (sub (.inl x, c)).1 = .inl x) : p_okF T n m (p_fac T n sub dp) := by
  intro p c p' r h1 hp hn hc he
  unfold p_fac at he ⊢
  dsimp only at he ⊢
  by_cases h91 : t_c T n (.inr p) = 91
  · rw [if_pos h91] at he ⊢
    have pn : p < n := t_c_r_lt (T := T) (by omega)
    by_cases hz : dp = 0
    · rw [if_pos hz] at he
      cases he
    · rw [if_neg hz] at he ⊢
      obtain ⟨q, hq, e1⟩ := t_tk_r he
      have eq1 : t_st (.inr p) = .inr (p + 1) := rfl
      rw [eq1] at hq ⊢
      obtain ⟨⟨a1, a2, a3, a4, a5⟩, ht⟩ := hsub (by omega) (p + 1) c q r (by omega) pn hn (by omega) hq
      dsimp only
      have qn : q < n := by
        unfold t_tk at he
        dsimp only at he
        rw [show t_st (.inr p) = .inr (p + 1) from rfl, hq] at he
        split at he
        · next z => exact t_c_r_lt (T := T) (by omega)
        · cases he
      exact ⟨⟨by omega, by omega, a3, by omega, a5⟩, ht⟩
  · rw [if_neg h91] at he ⊢
    by_cases hl : l_let (t_c T n (.inr p)) ≠ 7
    · rw [if_pos hl] at he ⊢
      dsimp only at he ⊢
      have pn : p < n := t_c_r_lt (T := T) (fun z => hl (by rw [z]; rfl))
      cases he
      have ll : l_let (t_c T n (.inr p)) ≤ 7 := by
        unfold l_let
        repeat' split
        all_goals omega
      obtain ⟨b1, b2, b3⟩ := lc_push_at (op := 1) (v := l_let (t_c T n (.inr p))) (c := c) (by omega)
      refine ⟨⟨by omega, pn, by omega, by omega, b3⟩, ?_⟩
      rw [b1]
      refine zl_TY_1 (by omega) (by simp; omega) (Or.inr (Or.inl ⟨by rw [b2], by rw [b2]; dsimp only; omega, ?_⟩))
      dsimp only
      rw [if_neg (by omega), if_pos (Nat.le_refl _)]
    · rw [if_neg hl] at he ⊢
      by_cases hg : 48 ≤ t_c T n (.inr p) ∧ t_c T n (.inr p) ≤ 57
      · rw [if_pos hg] at he ⊢
        dsimp only at he ⊢
        have pn : p < n := t_c_r_lt (T := T) (by omega)
        have e6 := p_num_s T n 5 0 (.inr p)
        rw [if_pos hg, if_neg (by decide)] at e6
        have he' := he
        rw [e6] at he'
        have pp := p_num_p 5 _ (p + 1) p' pn he'
        have vl := p_num_lt T n 6 0 0 (.inr p) (by decide) (by decide)
        obtain ⟨b1, b2, b3⟩ := lc_push_at (op := 0) (v := (p_num T n 6 0 (.inr p)).1) (c := c) (by omega)
        refine ⟨⟨by omega, pp.2, by omega, by omega, b3⟩, ?_⟩
        rw [b1]
        refine zl_TY_1 (by omega) (by simp; omega) (Or.inl ⟨by rw [b2], by rw [b2]; dsimp only; omega, ?_⟩)
        dsimp only
        rw [if_neg (by omega), if_pos (Nat.le_refl _)]
      · rw [if_neg hg] at he
        cases he
