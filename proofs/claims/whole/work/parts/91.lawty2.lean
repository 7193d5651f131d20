theorem zl_rep (j : Nat) (r : List Bool) : false :: (List.replicate j false ++ r) = List.replicate (j + 1) false ++ r := by rw [List.replicate_succ]; rfl
theorem lc_wait_ok {c : zl_c} {o : Option Nat} {a j M : Nat} {r : List Bool} (ho : ∀ op, o = some op → 2 ≤ op ∧ op ≤ 6) (hc : c.1 + l_cn o ≤ 240) (ha : a ≤ c.1) (hM : (List.replicate (j + l_cn o + 1) false ++ r).length ≤ M) (h : zl_TY c.2 a c.1 r (List.replicate (j + l_cn o + 1) false ++ r) M) : zl_TY (lc_wait o c).2 a (lc_wait o c).1 r (List.replicate (j + 1) false ++ r) M ∧ (lc_wait o c).1 = c.1 + l_cn o ∧ ∀ k, k < c.1 → (lc_wait o c).2 k = c.2 k := by
  match o, ho, hc, hM, h with
  | none, ho, hc, hM, h => exact ⟨h, rfl, fun _ _ => rfl⟩
  | some op, ho, hc, hM, h =>
    have e1 : l_cn (some op) = 1 := rfl
    rw [e1] at hc hM h
    obtain ⟨o1, o2⟩ := ho op rfl
    obtain ⟨b1, b2, b3⟩ := lc_push_at (op := op) (v := 0) (c := c) (by omega)
    have ew : lc_wait (some op) c = lc_push op 0 c := rfl
    rw [ew, e1]
    refine ⟨?_, b1, b3⟩
    rw [b1]
    refine zl_TY_cat (zl_TY_c (fun k k1 k2 => b3 k k2) (Nat.le_refl _) h) ?_
    rw [List.length_append, List.length_replicate] at hM
    refine zl_TY_1 (by rw [List.length_append, List.length_replicate]; omega) (by rw [List.length_append, List.length_replicate]; omega) (Or.inr (Or.inr (Or.inr (Or.inr (Or.inl ⟨by rw [b2]; exact o1, by rw [b2]; exact o2, by rw [b2], List.replicate j false ++ r, ?_, ?_⟩)))))
    · dsimp only
      rw [if_pos (Nat.le_refl _), ← zl_rep, ← zl_rep]
    · dsimp only
      rw [if_neg (by omega), ← zl_rep]
theorem p_suml_ok {T : Nat → Nat} {n m : Nat} {fac : zl_s → zl_s} (hm1 : 1 ≤ m) (hfac : p_okF T n m fac) (hd : ∀ x c, (fac (.inl x, c)).1 = .inl x) (hn : n ≤ 240) : ∀ (f : Nat) (ts fs : Option Nat) (p : Nat) (c : zl_c) (p' a : Nat) (r : List Bool), 1 ≤ p → p ≤ n → n < p + f → c.1 + l_cn ts + l_cn fs ≤ p → a ≤ c.1 → (∀ op, ts = some op → 2 ≤ op ∧ op ≤ 6) → (∀ op, fs = some op → 2 ≤ op ∧ op ≤ 6) → zl_TY c.2 a c.1 r (List.replicate (l_cn ts + l_cn fs) false ++ r) (r.length + m + 2) → (p_suml T n fac f ts fs (.inr p, c)).1 = .inr p' → p < p' ∧ p' ≤ n ∧ c.1 ≤ (p_suml T n fac f ts fs (.inr p, c)).2.1 ∧ (p_suml T n fac f ts fs (.inr p, c)).2.1 + p ≤ c.1 + l_cn ts + l_cn fs + p' ∧ (∀ k, k < c.1 → (p_suml T n fac f ts fs (.inr p, c)).2.2 k = c.2 k) ∧ zl_TY (p_suml T n fac f ts fs (.inr p, c)).2.2 a (p_suml T n fac f ts fs (.inr p, c)).2.1 r (false :: r) (r.length + m + 2) := by
  intro f
  induction f with
  | zero => intro ts fs p c p' a r h1 hp hf; omega
  | succ f ih =>
    intro ts fs p c p' a r h1 hp hf hc ha hts hfs hty he
    have t1 : l_cn ts ≤ 1 := by cases ts <;> simp [l_cn]
    have t2 : l_cn fs ≤ 1 := by cases fs <;> simp [l_cn]
    rw [p_suml_s] at he ⊢
    cases hq : (fac (.inr p, c)).1 with
    | inl x =>
      rw [hq, if_neg (by rw [t_c_d]; omega), if_neg (by rw [t_c_d]; omega)] at he
      cases he
    | inr q =>
      obtain ⟨⟨g1, g2, g3, g4, g5⟩, gt⟩ := hfac p c q (List.replicate (l_cn ts + l_cn fs) false ++ r) h1 hp hn (by omega) hq
      rw [hq] at he
      generalize (fac (.inr p, c)).2 = c1 at *
      have hty1 : zl_TY c1.2 a c1.1 r (List.replicate (l_cn ts + l_cn fs + 1) false ++ r) (r.length + m + 2) := by
        refine zl_TY_cat (zl_TY_c (fun k k1 k2 => g5 k k2) (Nat.le_refl _) hty) ?_
        rw [← zl_rep]
        refine zl_TY_c (fun _ _ _ => rfl) ?_ gt
        rw [List.length_append, List.length_replicate]
        omega
      obtain ⟨w1, w2, w3⟩ := lc_wait_ok (o := fs) (j := l_cn ts) hfs (by omega) (by omega) (by rw [List.length_append, List.length_replicate]; omega) hty1
      by_cases hm : t_c T n (.inr q) = 42 ∨ t_c T n (.inr q) = 47 ∨ t_c T n (.inr q) = 37
      · rw [if_pos hm, show t_st (.inr q) = .inr (q + 1) from rfl] at he ⊢
        have qn : q < n := t_c_r_lt (T := T) (by omega)
        have o46 : 2 ≤ l_op (t_c T n (.inr q)) ∧ l_op (t_c T n (.inr q)) ≤ 6 := by
          rcases hm with z | z | z <;> rw [z] <;> decide
        have cn1 : l_cn (some (l_op (t_c T n (.inr q)))) = 1 := rfl
        have := ih ts (some (l_op (t_c T n (.inr q)))) (q + 1) (lc_wait fs c1) p' a r (by omega) qn (by omega) (by rw [w2, cn1]; omega) (by omega) hts (fun op h => by cases h; exact o46) (by rw [cn1]; exact w1) he
        rw [cn1, w2] at this
        obtain ⟨i1, i2, i3, i4, i5, i6⟩ := this
        exact ⟨by omega, i2, by omega, by omega, fun k hk => by rw [i5 k (by omega), w3 k (by omega), g5 k hk], i6⟩
      · rw [if_neg hm] at he ⊢
        obtain ⟨v1, v2, v3⟩ := lc_wait_ok (c := lc_wait fs c1) (M := r.length + m + 2) (a := a) (o := ts) (j := 0) (r := r) hts (by omega) (by omega) (by rw [List.length_append, List.length_replicate]; omega) (by rw [Nat.zero_add]; exact w1)
        by_cases hp2 : t_c T n (.inr q) = 43 ∨ t_c T n (.inr q) = 45
        · rw [if_pos hp2, show t_st (.inr q) = .inr (q + 1) from rfl] at he ⊢
          have qn : q < n := t_c_r_lt (T := T) (by omega)
          have o46 : 2 ≤ l_op (t_c T n (.inr q)) ∧ l_op (t_c T n (.inr q)) ≤ 6 := by
            rcases hp2 with z | z <;> rw [z] <;> decide
          have cn1 : l_cn (some (l_op (t_c T n (.inr q)))) = 1 := rfl
          have cn0 : l_cn none = 0 := rfl
          have := ih (some (l_op (t_c T n (.inr q)))) none (q + 1) (lc_wait ts (lc_wait fs c1)) p' a r (by omega) qn (by omega) (by rw [v2, w2, cn1, cn0]; omega) (by omega) (fun op h => by cases h; exact o46) (fun op h => by cases h) (by rw [cn1, cn0]; exact v1) he
          rw [cn1, cn0, v2, w2] at this
          obtain ⟨i1, i2, i3, i4, i5, i6⟩ := this
          exact ⟨by omega, i2, by omega, by omega, fun k hk => by rw [i5 k (by omega), v3 k (by omega), w3 k (by omega), g5 k hk], i6⟩
        · rw [if_neg hp2] at he ⊢
          cases he
          dsimp only
          exact ⟨g1, g2, by omega, by omega, fun k hk => by rw [v3 k (by omega), w3 k (by omega), g5 k hk], v1⟩
theorem p_sum_ok {T : Nat → Nat} {n : Nat} (hn : n ≤ 240) : ∀ dp, p_okF T n (2 * dp + 3) (p_sum T n dp) := by
  have base : ∀ (m : Nat) (fac : zl_s → zl_s), 1 ≤ m → p_okF T n m fac → (∀ x c, (fac (.inl x, c)).1 = .inl x) → p_okF T n (m + 2) (p_suml T n fac 240 none none) := by
    intro m fac hm1 hfac hd p c p' r h1 hp hn' hc he
    have := p_suml_ok hm1 hfac hd hn 240 none none p c p' c.1 r h1 hp (by omega) hc (Nat.le_refl _) (fun op h => by cases h) (fun op h => by cases h) (zl_TY_0 _ (by show r.length ≤ _; omega)) he
    obtain ⟨i1, i2, i3, i4, i5, i6⟩ := this
    exact ⟨⟨i1, i2, i3, i4, i5⟩, i6⟩
  intro dp
  induction dp with
  | zero => exact base 1 _ (by decide) (p_okF_fac (by decide) (fun z => absurd z (Nat.lt_irrefl 0)) (fun x c => rfl)) (fun x c => p_fac_d x c)
  | succ dp ih => exact base (2 * dp + 3) _ (by omega) (p_okF_fac (by omega) (fun _ => ih) (fun x c => p_sum_d dp x c)) (fun x c => p_fac_d x c)
