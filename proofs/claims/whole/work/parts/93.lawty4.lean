/-! rules are typed; law (class) -/
def r_ok (c : zl_c) (x : Nat × Nat × Nat × Nat) : Prop := (x.1 = 109 ∨ x.1 = 117 ∨ x.1 = 120) ∧ x.2.1 ≤ x.2.2.1 ∧ x.2.2.1 ≤ x.2.2.2 ∧ x.2.2.2 ≤ c.1 ∧ zl_TY c.2 x.2.2.1 x.2.2.2 [] [true] 20 ∧ (x.1 ≠ 120 → zl_TY c.2 x.2.1 x.2.2.1 [] [false] 20)
theorem r_ok_c {c c' : zl_c} {x : Nat × Nat × Nat × Nat} (h1 : c.1 ≤ c'.1) (h2 : ∀ k, k < c.1 → c'.2 k = c.2 k) (h : r_ok c x) : r_ok c' x := by
  obtain ⟨a1, a2, a3, a4, a5, a6⟩ := h
  exact ⟨a1, a2, a3, by omega, zl_TY_c (fun k k1 k2 => h2 k (by omega)) (Nat.le_refl _) a5, fun z => zl_TY_c (fun k k1 k2 => h2 k (by omega)) (Nat.le_refl _) (a6 z)⟩
theorem p_tst_d {T : Nat → Nat} {n : Nat} : ∀ (dp : Nat) (x : Nat × Nat) (c : zl_c), (p_tst T n dp (.inl x, c)).1 = .inl x := by
  have key : ∀ (sum tst cnd : zl_s → zl_s) (dp : Nat), (∀ x c, (sum (.inl x, c)).1 = .inl x) → ∀ (x : Nat × Nat) (c : zl_c), (p_tb T n sum tst cnd dp (.inl x, c)).1 = .inl x := by
    intro sum tst cnd dp hs x c
    unfold p_tb
    rw [if_neg (by rw [t_c_d]; omega), hs, if_neg (by rw [t_c_d]; omega)]
    rfl
  intro dp x c
  cases dp with
  | zero => exact key _ _ _ _ (fun x c => p_sum_d 0 x c) x c
  | succ dp => exact key _ _ _ _ (fun x c => p_sum_d (dp + 1) x c) x c
theorem p_orl_d {T : Nat → Nat} {n : Nat} {tst : zl_s → zl_s} (hd : ∀ x c, (tst (.inl x, c)).1 = .inl x) (f : Nat) (pb : Option Nat) (x : Nat × Nat) (c : zl_c) : (p_orl T n tst f pb (.inl x, c)).1 = .inl x := by
  have ha : (p_andl T n tst 240 none (.inl x, c)).1 = .inl x := by
    rw [p_andl_s T n tst 239, hd, if_neg (by rw [t_c_d]; omega)]
  cases f with
  | zero => rfl
  | succ f => rw [p_orl_s, ha, if_neg (by rw [t_c_d]; omega)]
theorem p_r3_d1 {T : Nat → Nat} {n m : Nat} {s : zl_s} {x : Nat × Nat} (h : (p_r1 T n m s).1 = .inl x) : p_r3 T n m s = .inl x := by
  unfold p_r3 p_r2
  rw [h, t_tk_d T n (by decide), p_orl_d (fun x c => p_tst_d 5 x c), t_tk_d T n (by decide)]
theorem p_r3_dh {T : Nat → Nat} {n m : Nat} {s : zl_s} {x : Nat × Nat} (h : p_hd T n m s.1 = .inl x) : p_r3 T n m s = .inl x := by
  apply p_r3_d1
  unfold p_r1
  rw [h]
  split
  · rfl
  · exact p_sum_d 6 x _
theorem p_hd_r {T : Nat → Nat} {n m p : Nat} : (p_hd T n m (.inr p) = .inr (p + 1) ∧ p < n ∧ m < 16 ∧ (t_c T n (.inr p) = 109 ∨ t_c T n (.inr p) = 117 ∨ t_c T n (.inr p) = 120)) ∨ (p_hd T n m (.inr p) = .inl (4, p) ∧ 16 ≤ m ∧ (t_c T n (.inr p) = 109 ∨ t_c T n (.inr p) = 117 ∨ t_c T n (.inr p) = 120)) ∨ (p_hd T n m (.inr p) = .inl (1, p) ∧ ¬ (t_c T n (.inr p) = 109 ∨ t_c T n (.inr p) = 117 ∨ t_c T n (.inr p) = 120)) := by
  unfold p_hd
  by_cases h : t_c T n (.inr p) = 109 ∨ t_c T n (.inr p) = 117 ∨ t_c T n (.inr p) = 120
  · rw [if_pos h]
    by_cases z : 16 ≤ m
    · rw [if_pos z]
      exact Or.inr (Or.inl ⟨rfl, z, h⟩)
    · rw [if_neg z]
      exact Or.inl ⟨rfl, t_c_r_lt (T := T) (by omega), by omega, h⟩
  · rw [if_neg h]
    exact Or.inr (Or.inr ⟨rfl, h⟩)
/-- a rule that is read to its end -/
theorem p_rule_ok {T : Nat → Nat} {n m p p' : Nat} {c : zl_c} (hn : n ≤ 240) (hp : p ≤ n) (hc : c.1 ≤ p) (he : p_r3 T n m (.inr p, c) = .inr p') : m < 16 ∧ p < p' ∧ p' ≤ n ∧ c.1 ≤ (p_r2 T n m (.inr p, c)).2.1 ∧ (p_r2 T n m (.inr p, c)).2.1 ≤ p' ∧ (∀ k, k < c.1 → (p_r2 T n m (.inr p, c)).2.2 k = c.2 k) ∧ r_ok (p_r2 T n m (.inr p, c)).2 (t_c T n (.inr p), c.1, (p_r1 T n m (.inr p, c)).2.1, (p_r2 T n m (.inr p, c)).2.1) := by
  rcases p_hd_r (T := T) (n := n) (m := m) (p := p) with ⟨h1, h2, h3, h4⟩ | ⟨h1, _⟩ | ⟨h1, _⟩
  · cases hq : (p_r1 T n m (.inr p, c)).1 with
    | inl x => rw [p_r3_d1 hq] at he; cases he
    | inr q =>
      have g1 : p < q ∧ q ≤ n ∧ c.1 ≤ (p_r1 T n m (.inr p, c)).2.1 ∧ (p_r1 T n m (.inr p, c)).2.1 ≤ q ∧ (∀ k, k < c.1 → (p_r1 T n m (.inr p, c)).2.2 k = c.2 k) ∧ (t_c T n (.inr p) ≠ 120 → zl_TY (p_r1 T n m (.inr p, c)).2.2 c.1 (p_r1 T n m (.inr p, c)).2.1 [] [false] 20) := by
        unfold p_r1 at hq ⊢
        dsimp only at hq ⊢
        rw [h1] at hq ⊢
        by_cases hx : t_c T n (.inr p) = 120
        · rw [if_pos hx] at hq ⊢
          cases hq
          exact ⟨by omega, h2, Nat.le_refl _, by dsimp only; omega, fun _ _ => rfl, fun z => absurd hx z⟩
        · rw [if_neg hx] at hq ⊢
          obtain ⟨⟨a1, a2, a3, a4, a5⟩, at1⟩ := p_sum_ok hn 6 (p + 1) c q [] (by omega) h2 hn (by omega) hq
          exact ⟨by omega, a2, a3, by omega, a5, fun _ => zl_TY_c (fun _ _ _ => rfl) (by decide) at1⟩
      obtain ⟨q1, hq1, e1⟩ := t_tk_r he
      have hq1' : (p_r2 T n m (.inr p, c)).1 = .inr q1 := hq1
      have q1n : q1 < n := by
        unfold p_r3 t_tk at he
        rw [hq1'] at he
        split at he
        · next z => exact t_c_r_lt (T := T) (by omega)
        · cases he
      obtain ⟨b1, b2, b3, b4, b5, b6⟩ := g1
      unfold p_r2 at hq1' ⊢
      rw [hq] at hq1' ⊢
      generalize (p_r1 T n m (.inr p, c)).2 = c1 at *
      have htk : t_tk T n 40 (.inr q) = .inr (q + 1) ∧ q < n := by
        unfold t_tk at hq1' ⊢
        split
        · next z => exact ⟨rfl, t_c_r_lt (T := T) (by omega)⟩
        · next z =>
          rw [if_neg z, show t_fl 1 (.inr q) = .inl (1, q) from rfl, p_orl_d (fun x c => p_tst_d 5 x c)] at hq1'
          cases hq1'
      rw [htk.1] at hq1' ⊢
      obtain ⟨⟨a1, a2, a3, a4, a5⟩, at1⟩ := p_cnd_ok (p_tst_ok hn 5) hn (q + 1) c1 q1 [] (by omega) htk.2 hn (by omega) hq1'
      refine ⟨h3, by omega, by omega, by omega, by omega, fun k hk => by rw [a5 k (by omega), b5 k hk], h4, by omega, by omega, Nat.le_refl _, zl_TY_c (fun _ _ _ => rfl) (by decide) at1, fun z => zl_TY_c (fun k k1 k2 => a5 k k2) (Nat.le_refl _) (b6 z)⟩
  · rw [p_r3_dh h1] at he; cases he
  · rw [p_r3_dh h1] at he; cases he
theorem p_rul_d {T : Nat → Nat} {n f : Nat} {r : zs_Rr} {x : Nat × Nat} {c : zl_c} : (p_rul T n f r (.inl x, c)).2.1 = .inl x := by
  have hh : p_hd T n r.1 (.inl x) = .inl x := by
    unfold p_hd
    rw [if_neg (by rw [t_c_d]; omega)]
    rfl
  cases f with
  | zero => rfl
  | succ f =>
    rw [p_rul_s, p_r3_dh (s := (.inl x, c)) hh, if_neg (by rw [t_c_d]; omega)]
theorem p_rul_ok {T : Nat → Nat} {n : Nat} (hn : n ≤ 240) : ∀ (f : Nat) (r : zs_Rr) (p : Nat) (c : zl_c) (p' : Nat), r.1 + f = 17 → r.1 ≤ 16 → c.1 ≤ p → p ≤ n → (∀ q, q < r.1 → r_ok c (r.2 q)) → (p_rul T n f r (.inr p, c)).2.1 = .inr p' → (p_rul T n f r (.inr p, c)).1.1 ≤ 16 ∧ (p_rul T n f r (.inr p, c)).2.2.1 ≤ n ∧ ∀ q, q < (p_rul T n f r (.inr p, c)).1.1 → r_ok (p_rul T n f r (.inr p, c)).2.2 ((p_rul T n f r (.inr p, c)).1.2 q) := by
  intro f
  induction f with
  | zero => intro r p c p' h1 h2; omega
  | succ f ih =>
    intro r p c p' h1 h2 hc hp hr he
    rw [p_rul_s] at he ⊢
    cases hq : p_r3 T n r.1 (.inr p, c) with
    | inl x =>
      rw [hq, if_neg (by rw [t_c_d]; omega)] at he
      cases he
    | inr q =>
      rw [hq] at he
      obtain ⟨a1, a2, a3, a4, a5, a6, a7⟩ := p_rule_ok hn hp hc hq
      have era : p_ra T n r (.inr p, c) = (r.1 + 1, fun q => if q = r.1 then (t_c T n (.inr p), c.1, (p_r1 T n r.1 (.inr p, c)).2.1, (p_r2 T n r.1 (.inr p, c)).2.1) else r.2 q) := if_pos a1
      have hr' : ∀ q, q < (p_ra T n r (.inr p, c)).1 → r_ok (p_r2 T n r.1 (.inr p, c)).2 ((p_ra T n r (.inr p, c)).2 q) := by
        rw [era]
        intro q hq
        have hq' : q < r.1 + 1 := hq
        dsimp only
        by_cases z : q = r.1
        · rw [if_pos z]; exact a7
        · rw [if_neg z]; exact r_ok_c a4 a6 (hr q (by omega))
      have e1 : (p_ra T n r (.inr p, c)).1 = r.1 + 1 := by rw [era]
      by_cases h59 : t_c T n (.inr q) = 59
      · rw [if_pos h59, show t_st (.inr q) = .inr (q + 1) from rfl] at he ⊢
        have qn : q < n := t_c_r_lt (T := T) (by omega)
        by_cases h16 : r.1 + 1 ≤ 16
        · exact ih _ (q + 1) _ p' (by omega) (by omega) (by omega) qn hr' he
        · omega
      · rw [if_neg h59] at he ⊢
        exact ⟨by dsimp only; omega, by dsimp only; omega, hr'⟩
/-- what law answers, and the state behind it -/
def D_law (B : zs_B) (L : zs_L) (v : Int32) : Int32 × zs_B × zs_L := match zs_tx B v 240 with
  | none => (-1, B, L)
  | some n => match t_en n (p_rul B.2 n 17 zl_0.1 zl_0.2).2.1 with
    | .inl x => (t_an x, (0, B.2), L)
    | .inr _ => (nI (p_rul B.2 n 17 zl_0.1 zl_0.2).1.1, (0, B.2), ((p_rul B.2 n 17 zl_0.1 zl_0.2).1.1, (p_rul B.2 n 17 zl_0.1 zl_0.2).1.2, (p_rul B.2 n 17 zl_0.1 zl_0.2).2.2.2))
theorem t_en_rr {n q : Nat} {e : zt_S} (h : t_en n e = .inr q) : e = .inr q := by
  cases e with
  | inl x => cases h
  | inr p =>
    rw [t_en_r] at h
    split at h
    · cases h
    · exact h
theorem D_law_ok {B : zs_B} {n p : Nat} (hn : n ≤ 240) (he : t_en n (p_rul B.2 n 17 zl_0.1 zl_0.2).2.1 = .inr p) : zw_L ((p_rul B.2 n 17 zl_0.1 zl_0.2).1.1, (p_rul B.2 n 17 zl_0.1 zl_0.2).1.2, (p_rul B.2 n 17 zl_0.1 zl_0.2).2.2.2) ∧ ∀ q, q < (p_rul B.2 n 17 zl_0.1 zl_0.2).1.1 → r_ok (p_rul B.2 n 17 zl_0.1 zl_0.2).2.2 ((p_rul B.2 n 17 zl_0.1 zl_0.2).1.2 q) := by
  obtain ⟨a1, a2, a3⟩ := p_rul_ok (T := B.2) hn 17 zl_0.1 0 zl_0.2.2 p rfl (by decide) (by decide) (Nat.zero_le _) (fun q hq => absurd hq (Nat.not_lt_zero _)) (t_en_rr he)
  refine ⟨⟨a1, fun q hq => ?_⟩, a3⟩
  obtain ⟨b1, b2, b3, b4, b5, b6⟩ := a3 q hq
  exact ⟨b1, b2, Nat.le_trans b4 (Nat.le_trans a2 hn), zl_TY_ty (by decide) b5, fun z => zl_TY_ty (by decide) (b6 z)⟩
