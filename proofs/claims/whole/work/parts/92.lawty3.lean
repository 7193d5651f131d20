/-! tests and conditions are typed -/
def p_okT (T : Nat → Nat) (n : Nat) (m : Nat) (tst : zl_s → zl_s) : Prop := ∀ (p : Nat) (c : zl_c) (p' : Nat) (r : List Bool), 1 ≤ p → p ≤ n → n ≤ 240 → c.1 ≤ p → (tst (.inr p, c)).1 = .inr p' → zl_gr n c p (tst (.inr p, c)).2 p' ∧ zl_TY (tst (.inr p, c)).2.2 c.1 (tst (.inr p, c)).2.1 r (true :: r) (r.length + m)
theorem p_tb_ok {T : Nat → Nat} {n ms m dp : Nat} {sum tst cnd : zl_s → zl_s} (hm : ms + 1 ≤ m) (hsum : p_okF T n ms sum) (hds : ∀ x c, (sum (.inl x, c)).1 = .inl x) (htst : 0 < dp → p_okT T n m tst) (hcnd : 0 < dp → p_okT T n m cnd) : p_okT T n m (p_tb T n sum tst cnd dp) := by
  intro p c p' r h1 hp hn hc he
  unfold p_tb at he ⊢
  dsimp only at he ⊢
  by_cases hb : t_c T n (.inr p) = 33 ∨ t_c T n (.inr p) = 40
  · rw [if_pos hb] at he ⊢
    have pn : p < n := t_c_r_lt (T := T) (by omega)
    by_cases hz : dp = 0
    · rw [if_pos hz] at he
      cases he
    · rw [if_neg hz, show t_st (.inr p) = .inr (p + 1) from rfl] at he ⊢
      by_cases h33 : t_c T n (.inr p) = 33
      · rw [if_pos h33] at he ⊢
        dsimp only at he ⊢
        obtain ⟨⟨a1, a2, a3, a4, a5⟩, ht⟩ := htst (by omega) (p + 1) c p' r (by omega) pn hn (by omega) he
        generalize (tst (.inr (p + 1), c)).2 = c1 at *
        obtain ⟨b1, b2, b3⟩ := lc_push_at (op := 10) (v := 0) (c := c1) (by omega)
        refine ⟨⟨by omega, a2, by omega, by omega, fun k hk => by rw [b3 k (by omega), a5 k hk]⟩, ?_⟩
        rw [b1]
        refine zl_TY_cat (zl_TY_c (fun k k1 k2 => b3 k k2) (Nat.le_refl _) ht) ?_
        refine zl_TY_1 (by simp; omega) (by simp; omega) (Or.inr (Or.inr (Or.inl ⟨by rw [b2], by rw [b2], r, ?_, ?_⟩)))
        · dsimp only; rw [if_pos (Nat.le_refl _)]
        · dsimp only; rw [if_neg (by omega)]
      · rw [if_neg h33] at he ⊢
        dsimp only at he ⊢
        obtain ⟨q, hq, e1⟩ := t_tk_r he
        obtain ⟨⟨a1, a2, a3, a4, a5⟩, ht⟩ := hcnd (by omega) (p + 1) c q r (by omega) pn hn (by omega) hq
        have qn : q < n := by
          unfold t_tk at he
          rw [hq] at he
          split at he
          · next z => exact t_c_r_lt (T := T) (by omega)
          · cases he
        exact ⟨⟨by omega, by omega, a3, by omega, a5⟩, ht⟩
  · rw [if_neg hb] at he ⊢
    cases hq : (sum (.inr p, c)).1 with
    | inl x =>
      rw [hq, if_neg (by rw [t_c_d]; omega)] at he
      cases he
    | inr q =>
      rw [hq] at he
      obtain ⟨⟨a1, a2, a3, a4, a5⟩, ht⟩ := hsum p c q r h1 hp hn hc hq
      generalize (sum (.inr p, c)).2 = c1 at *
      by_cases hcmp : t_c T n (.inr q) = 60 ∨ t_c T n (.inr q) = 62 ∨ t_c T n (.inr q) = 61
      · rw [if_pos hcmp, show t_st (.inr q) = .inr (q + 1) from rfl] at he ⊢
        dsimp only at he ⊢
        have qn : q < n := t_c_r_lt (T := T) (by omega)
        obtain ⟨⟨d1, d2, d3, d4, d5⟩, dt⟩ := hsum (q + 1) c1 p' (false :: r) (by omega) qn hn (by omega) he
        generalize (sum (.inr (q + 1), c1)).2 = c2 at *
        obtain ⟨b1, b2, b3⟩ := lc_push_at (op := l_op (t_c T n (.inr q))) (v := 0) (c := c2) (by omega)
        have o79 : 7 ≤ l_op (t_c T n (.inr q)) ∧ l_op (t_c T n (.inr q)) ≤ 9 := by
          rcases hcmp with z | z | z <;> rw [z] <;> decide
        refine ⟨⟨by omega, d2, by omega, by omega, fun k hk => by rw [b3 k (by omega), d5 k (by omega), a5 k hk]⟩, ?_⟩
        rw [b1]
        have t1 : zl_TY (lc_push (l_op (t_c T n (.inr q))) 0 c2).2 c.1 c1.1 r (false :: r) (r.length + m) := zl_TY_c (fun k k1 k2 => by rw [b3 k (by omega), d5 k k2]) (by omega) ht
        have t2 : zl_TY (lc_push (l_op (t_c T n (.inr q))) 0 c2).2 c1.1 c2.1 (false :: r) (false :: false :: r) (r.length + m) := zl_TY_c (fun k k1 k2 => b3 k k2) (by simp; omega) dt
        refine zl_TY_cat t1 (zl_TY_cat t2 ?_)
        have ms1 : 1 ≤ ms := by
          obtain ⟨_, ty, y1, y2, y3, y4⟩ := ht
          have := y3 c1.1 a3 (Nat.le_refl _)
          rw [y2, List.length_cons] at this
          omega
        refine zl_TY_1 (by simp; omega) (by simp; omega) (Or.inr (Or.inr (Or.inr (Or.inr (Or.inr ⟨by rw [b2]; exact o79.1, by rw [b2]; exact o79.2, by rw [b2], r, ?_, ?_⟩)))))
        · dsimp only; rw [if_pos (Nat.le_refl _)]
        · dsimp only; rw [if_neg (by omega)]
      · rw [if_neg hcmp] at he
        cases he
/-- before a test: none stands open, or the jump at i -/
def p_tbI (op : Nat) (c : zl_c) (a : Nat) (r : List Bool) (m : Nat) (tb : Option Nat) : Prop := match tb with
  | none => c.1 = a
  | some i => c.1 = i + 1 ∧ c.2 i = (op, 0) ∧ zl_TY c.2 a i r (true :: r) m
theorem lc_lead_ok {op : Nat} {c c1 : zl_c} {a m : Nat} {r : List Bool} {tb : Option Nat} (hop : op = 11 ∨ op = 12) (hI : p_tbI op c a r m tb) (hg : c.1 ≤ c1.1) (h5 : ∀ k, k < c.1 → c1.2 k = c.2 k) (ht : zl_TY c1.2 c.1 c1.1 r (true :: r) m) : (lc_lead tb c1).1 = c1.1 ∧ a ≤ c.1 ∧ zl_TY (lc_lead tb c1).2 a c1.1 r (true :: r) m ∧ ∀ k, k < a → (lc_lead tb c1).2 k = c1.2 k := by
  match tb, hI with
  | none, hI =>
    have e : c.1 = a := hI
    exact ⟨rfl, by omega, by rw [← e]; exact ht, fun _ _ => rfl⟩
  | some i, hI =>
    obtain ⟨i1, i2, i3⟩ := hI
    have ai : a ≤ i := i3.1
    have el : lc_lead (some i) c1 = (c1.1, fun k => if k = i then ((c1.2 i).1, c1.1) else c1.2 k) := if_pos (by omega)
    rw [el]
    refine ⟨rfl, by omega, ?_, fun k hk => ?_⟩
    · refine zl_TY_j (i := i) (zl_TY_c (fun k k1 k2 => ?_) (Nat.le_refl _) i3) ?_ ?_ (zl_TY_c (fun k k1 k2 => ?_) (Nat.le_refl _) (by rw [← i1]; exact ht))
      · dsimp only; rw [if_neg (by omega), h5 k (by omega)]
      · dsimp only; rw [if_pos rfl, h5 i (by omega), i2]; exact hop
      · dsimp only; rw [if_pos rfl]
      · dsimp only; rw [if_neg (by omega)]
    · dsimp only; rw [if_neg (by omega)]
theorem p_andl_ok {T : Nat → Nat} {n m : Nat} {tst : zl_s → zl_s} (htst : p_okT T n m tst) (hn : n ≤ 240) : ∀ (f : Nat) (tb : Option Nat) (p : Nat) (c : zl_c) (p' a : Nat) (r : List Bool), 1 ≤ p → p ≤ n → n < p + f → c.1 ≤ p → p_tbI 11 c a r (r.length + m) tb → (p_andl T n tst f tb (.inr p, c)).1 = .inr p' → p < p' ∧ p' ≤ n ∧ c.1 ≤ (p_andl T n tst f tb (.inr p, c)).2.1 ∧ (p_andl T n tst f tb (.inr p, c)).2.1 + p ≤ c.1 + p' ∧ (∀ k, k < a → (p_andl T n tst f tb (.inr p, c)).2.2 k = c.2 k) ∧ zl_TY (p_andl T n tst f tb (.inr p, c)).2.2 a (p_andl T n tst f tb (.inr p, c)).2.1 r (true :: r) (r.length + m) := by
  intro f
  induction f with
  | zero => intro tb p c p' a r h1 hp hf; omega
  | succ f ih =>
    intro tb p c p' a r h1 hp hf hc hI he
    rw [p_andl_s] at he ⊢
    cases hq : (tst (.inr p, c)).1 with
    | inl x =>
      rw [hq, if_neg (by rw [t_c_d]; omega)] at he
      cases he
    | inr q =>
      rw [hq] at he
      obtain ⟨⟨g1, g2, g3, g4, g5⟩, gt⟩ := htst p c q r h1 hp hn hc hq
      generalize (tst (.inr p, c)).2 = c1 at *
      obtain ⟨l1, l2, l3, l4⟩ := lc_lead_ok (op := 11) (by decide) hI g3 g5 gt
      by_cases h38 : t_c T n (.inr q) = 38
      · rw [if_pos h38, show t_st (.inr q) = .inr (q + 1) from rfl] at he ⊢
        have qn : q < n := t_c_r_lt (T := T) (by omega)
        obtain ⟨b1, b2, b3⟩ := lc_push_at (op := 11) (v := 0) (c := lc_lead tb c1) (by omega)
        have := ih (some ((lc_push 11 0 (lc_lead tb c1)).1 - 1)) (q + 1) (lc_push 11 0 (lc_lead tb c1)) p' a r (by omega) qn (by omega) (by omega) ⟨by omega, by rw [b1, Nat.add_sub_cancel]; exact b2, by rw [b1, Nat.add_sub_cancel]; exact zl_TY_c (fun k k1 k2 => b3 k k2) (Nat.le_refl _) (by rw [l1]; exact l3)⟩ he
        obtain ⟨i1, i2, i3, i4, i5, i6⟩ := this
        exact ⟨by omega, i2, by omega, by omega, fun k hk => by rw [i5 k hk, b3 k (by omega), l4 k hk, g5 k (by omega)], i6⟩
      · rw [if_neg h38] at he ⊢
        cases he
        dsimp only
        rw [l1]
        exact ⟨g1, g2, by omega, by omega, fun k hk => by rw [l4 k hk, g5 k (by omega)], l3⟩
theorem p_orl_ok {T : Nat → Nat} {n m : Nat} {tst : zl_s → zl_s} (htst : p_okT T n m tst) (hn : n ≤ 240) : ∀ (f : Nat) (pb : Option Nat) (p : Nat) (c : zl_c) (p' a : Nat) (r : List Bool), 1 ≤ p → p ≤ n → n < p + f → c.1 ≤ p → p_tbI 12 c a r (r.length + m) pb → (p_orl T n tst f pb (.inr p, c)).1 = .inr p' → p < p' ∧ p' ≤ n ∧ c.1 ≤ (p_orl T n tst f pb (.inr p, c)).2.1 ∧ (p_orl T n tst f pb (.inr p, c)).2.1 + p ≤ c.1 + p' ∧ (∀ k, k < a → (p_orl T n tst f pb (.inr p, c)).2.2 k = c.2 k) ∧ zl_TY (p_orl T n tst f pb (.inr p, c)).2.2 a (p_orl T n tst f pb (.inr p, c)).2.1 r (true :: r) (r.length + m) := by
  intro f
  induction f with
  | zero => intro pb p c p' a r h1 hp hf; omega
  | succ f ih =>
    intro pb p c p' a r h1 hp hf hc hI he
    rw [p_orl_s] at he ⊢
    cases hq : (p_andl T n tst 240 none (.inr p, c)).1 with
    | inl x =>
      rw [hq, if_neg (by rw [t_c_d]; omega)] at he
      cases he
    | inr q =>
      rw [hq] at he
      obtain ⟨g1, g2, g3, g4, g5, gt⟩ := p_andl_ok htst hn 240 none p c q c.1 r h1 hp (by omega) hc rfl hq
      generalize (p_andl T n tst 240 none (.inr p, c)).2 = c1 at *
      obtain ⟨l1, l2, l3, l4⟩ := lc_lead_ok (op := 12) (by decide) hI g3 g5 gt
      by_cases h124 : t_c T n (.inr q) = 124
      · rw [if_pos h124, show t_st (.inr q) = .inr (q + 1) from rfl] at he ⊢
        have qn : q < n := t_c_r_lt (T := T) (by omega)
        obtain ⟨b1, b2, b3⟩ := lc_push_at (op := 12) (v := 0) (c := lc_lead pb c1) (by omega)
        have := ih (some ((lc_push 12 0 (lc_lead pb c1)).1 - 1)) (q + 1) (lc_push 12 0 (lc_lead pb c1)) p' a r (by omega) qn (by omega) (by omega) ⟨by omega, by rw [b1, Nat.add_sub_cancel]; exact b2, by rw [b1, Nat.add_sub_cancel]; exact zl_TY_c (fun k k1 k2 => b3 k k2) (Nat.le_refl _) (by rw [l1]; exact l3)⟩ he
        obtain ⟨i1, i2, i3, i4, i5, i6⟩ := this
        exact ⟨by omega, i2, by omega, by omega, fun k hk => by rw [i5 k hk, b3 k (by omega), l4 k hk, g5 k (by omega)], i6⟩
      · rw [if_neg h124] at he ⊢
        cases he
        dsimp only
        rw [l1]
        exact ⟨g1, g2, by omega, by omega, fun k hk => by rw [l4 k hk, g5 k (by omega)], l3⟩
theorem p_cnd_ok {T : Nat → Nat} {n m : Nat} {tst : zl_s → zl_s} (htst : p_okT T n m tst) (hn : n ≤ 240) : p_okT T n m (p_orl T n tst 240 none) := by
  intro p c p' r h1 hp _ hc he
  obtain ⟨i1, i2, i3, i4, i5, i6⟩ := p_orl_ok htst hn 240 none p c p' c.1 r h1 hp (by omega) hc rfl he
  exact ⟨⟨i1, i2, i3, i4, i5⟩, i6⟩
theorem p_tst_ok {T : Nat → Nat} {n : Nat} (hn : n ≤ 240) : ∀ dp, p_okT T n (2 * dp + 4) (p_tst T n dp) := by
  intro dp
  induction dp with
  | zero => exact p_tb_ok (ms := 3) (by decide) (p_sum_ok hn 0) (fun x c => p_sum_d 0 x c) (fun z => absurd z (Nat.lt_irrefl 0)) (fun z => absurd z (Nat.lt_irrefl 0))
  | succ dp ih =>
    have ih' : p_okT T n (2 * (dp + 1) + 4) (p_tst T n dp) := by
      intro p c p' r h1 hp hn hc he
      obtain ⟨a, b⟩ := ih p c p' r h1 hp hn hc he
      exact ⟨a, zl_TY_c (fun _ _ _ => rfl) (by omega) b⟩
    exact p_tb_ok (ms := 2 * (dp + 1) + 3) (by omega) (p_sum_ok hn (dp + 1)) (fun x c => p_sum_d (dp + 1) x c) (fun _ => ih') (fun _ => p_cnd_ok ih' hn)
