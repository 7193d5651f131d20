/-! the law: its codes run -/
abbrev zl_cd : Type := Nat → Nat × Nat
def zl_ap (op : Nat) (x y : Int32) : Int32 := if op = 2 then x + y else if op = 3 then x - y else if op = 4 then x * y else if op = 5 then x / y else if op = 6 then x - x / y * y else if op = 7 then (if x < y then 1 else 0) else if op = 8 then (if y < x then 1 else 0) else (if x = y then 1 else 0)
def zl_run (cd : zl_cd) (lt : Nat → Int32) (b : Nat) : Nat → Nat → List Int32 → Option Int32
  | 0, _, st => some (st.headD 0)
  | f + 1, k, st => if b ≤ k then some (st.headD 0) else
    if (cd k).1 = 0 then zl_run cd lt b f (k + 1) (nI (cd k).2 :: st) else
    if (cd k).1 = 1 then zl_run cd lt b f (k + 1) (lt (cd k).2 :: st) else
    if (cd k).1 = 10 then (match st with
      | x :: r => zl_run cd lt b f (k + 1) ((1 - x) :: r)
      | [] => none) else
    if (cd k).1 = 11 then (match st with
      | x :: r => if x = 0 then zl_run cd lt b f (cd k).2 (x :: r) else zl_run cd lt b f (k + 1) r
      | [] => none) else
    if (cd k).1 = 12 then (match st with
      | x :: r => if x = 1 then zl_run cd lt b f (cd k).2 (x :: r) else zl_run cd lt b f (k + 1) r
      | [] => none) else
    (match st with
      | y :: x :: r => if ((cd k).1 = 5 ∨ (cd k).1 = 6) ∧ y = 0 then none else zl_run cd lt b f (k + 1) (zl_ap (cd k).1 x y :: r)
      | _ => none)
/-- types: of an instruction -/
def zl_st (cd : zl_cd) (ty : Nat → List Bool) (b k : Nat) : Prop :=
  ((cd k).1 = 0 ∧ (cd k).2 < 1048576 ∧ ty (k + 1) = false :: ty k) ∨
  ((cd k).1 = 1 ∧ (cd k).2 < 7 ∧ ty (k + 1) = false :: ty k) ∨
  ((cd k).1 = 10 ∧ (cd k).2 = 0 ∧ ∃ r, ty k = true :: r ∧ ty (k + 1) = true :: r) ∨
  (((cd k).1 = 11 ∨ (cd k).1 = 12) ∧ k < (cd k).2 ∧ (cd k).2 ≤ b ∧ ∃ r, ty k = true :: r ∧ ty (k + 1) = r ∧ ty (cd k).2 = true :: r) ∨
  (2 ≤ (cd k).1 ∧ (cd k).1 ≤ 6 ∧ (cd k).2 = 0 ∧ ∃ r, ty k = false :: false :: r ∧ ty (k + 1) = false :: r) ∨
  (7 ≤ (cd k).1 ∧ (cd k).1 ≤ 9 ∧ (cd k).2 = 0 ∧ ∃ r, ty k = false :: false :: r ∧ ty (k + 1) = true :: r)
def zl_ty (cd : zl_cd) (ty : Nat → List Bool) (a b : Nat) (s1 : List Bool) : Prop := a ≤ b ∧ ty a = [] ∧ ty b = s1 ∧ (∀ k, a ≤ k → k ≤ b → (ty k).length ≤ 30) ∧ ∀ k, a ≤ k → k < b → zl_st cd ty b k
def zl_sk (g : Nat → Int32) : List Int32 → Prop
  | [] => True
  | x :: r => g r.length = x ∧ zl_sk g r
theorem zl_sk_c {g g' : Nat → Int32} : ∀ (st : List Int32), (∀ i, i < st.length → g' i = g i) → zl_sk g st → zl_sk g' st
  | [], _, _ => trivial
  | x :: r, h, hs => ⟨(h r.length (by simp)).trans hs.1, zl_sk_c r (fun i hi => h i (by simp; omega)) hs.2⟩
def zl_tv : List Bool → List Int32 → Prop
  | [], [] => True
  | t :: ts, x :: xs => (t = true → x = 0 ∨ x = 1) ∧ zl_tv ts xs
  | _, _ => False
theorem zl_tv_len : ∀ (ts : List Bool) (xs : List Int32), zl_tv ts xs → xs.length = ts.length
  | [], [], _ => rfl
  | t :: ts, x :: xs, h => by
    have := zl_tv_len ts xs h.2
    simp [this]
  | [], _ :: _, h => h.elim
  | _ :: _, [], h => h.elim
theorem zl_ap_b {op : Nat} {x y : Int32} (h1 : 7 ≤ op) (h2 : op ≤ 9) : zl_ap op x y = 0 ∨ zl_ap op x y = 1 := by
  unfold zl_ap
  rw [if_neg (by omega), if_neg (by omega), if_neg (by omega), if_neg (by omega), if_neg (by omega)]
  split
  · split
    · exact Or.inr rfl
    · exact Or.inl rfl
  · split
    · split
      · exact Or.inr rfl
      · exact Or.inl rfl
    · split
      · exact Or.inr rfl
      · exact Or.inl rfl
/-- a law of the class -/
def zk_law (P : Nat → Nat → Option Nat) (w : Nat) : Prop := (zm_sh TT w).1 = 7 ∧ zm_sh TT (w + 1) = (0, 240) ∧ zm_sh TT (w + 2) = (0, 240) ∧ zm_sh TT (w + 3) = (0, 16) ∧ zm_sh TT (w + 4) = (0, 16) ∧ zm_sh TT (w + 5) = (0, 16) ∧ zm_sh TT (w + 6) = (0, 16) ∧ zm_sh TT (w + 7) = (0, 32) ∧ zm_sh TT (w + 8) = (0, 7) ∧ P w 0 = some (w + 1) ∧ P w 1 = some (w + 2) ∧ P w 3 = some (w + 3) ∧ P w 4 = some (w + 4) ∧ P w 5 = some (w + 5) ∧ P w 6 = some (w + 6) ∧ P w 8 = some (w + 7) ∧ P w 11 = some (w + 8)
theorem zk_laws {P : Nat → Nat → Option Nat} (hp : zp_ok P) {w : Nat} (hw : w = 4 ∨ w = 19) : zk_law P w := by
  rcases hw with rfl | rfl <;> (refine ⟨rfl, rfl, rfl, rfl, rfl, rfl, rfl, rfl, rfl, ?_, ?_, ?_, ?_, ?_, ?_, ?_, ?_⟩ <;> simp only [hp])
set_option maxHeartbeats 4000000 in
set_option maxRecDepth 100000 in
theorem k_Law_push {d : Nat} {h : zm_M} {R : zm_R} {w n : Nat} {x : Int32} (hk : zk_law h.2 w) (hn : h.1 w 9 = nI n) (hn2 : n < 32) (hR : R none (zm_si (zm_si h (w + 7) n x) w 9 (nI (n + 1)))) : zm_C (d + 1) TT m_Law_push [.inr (some w), .inl x] h R := by
  obtain ⟨k0, k1, k2, k3, k4, k5, k6, k7, k8, q0, q1, q3, q4, q5, q6, q8, q11⟩ := hk
  have v1 : vp_in (nI n) 32 := vp_in_nI hn2 (by decide)
  have c1 := nI_clamp (show n < 2 ^ 31 by omega)
  refine st_Law_push [] 30 ?_
  simp only [↓zq, ↓reduceIte, zr_si2, zr_sr1, zr_cp2, zr_tl, zr_tn, shq, List.contains_nil, List.contains_cons, Nat.reduceBEq, Bool.false_or, Bool.or_false, Bool.true_or, Bool.false_eq_true, if_false, if_true, true_and, and_true, List.set_cons_zero, List.set_cons_succ, List.length_cons, List.length_nil, Nat.reduceAdd, Nat.reduceLeDiff, Nat.le_refl, Nat.zero_le, true_or, or_true, zn_cl, ↓jj_Law_push, k0, k7, q8, hn, v1, c1, nI_1]
  simp only [zr_si1, show ¬ w = w + 7 by omega, false_and, if_false, hn, nI_1]
  exact ⟨fun z => absurd z (nI_ge (b := 32) hn2 (by decide)), fun _ => hR⟩
set_option maxHeartbeats 4000000 in
set_option maxRecDepth 100000 in
theorem k_Law_pop {d : Nat} {h : zm_M} {R : zm_R} {w n : Nat} (hk : zk_law h.2 w) (hn : h.1 w 9 = nI (n + 1)) (hn2 : n < 32) (hR : R (some (.inl (h.1 (w + 7) n))) (zm_si h w 9 (nI n))) : zm_C (d + 1) TT m_Law_pop [.inr (some w)] h R := by
  obtain ⟨k0, k1, k2, k3, k4, k5, k6, k7, k8, q0, q1, q3, q4, q5, q6, q8, q11⟩ := hk
  have v1 : vp_in (nI n) 32 := vp_in_nI hn2 (by decide)
  have c1 := nI_clamp (show n < 2 ^ 31 by omega)
  have ep : nI (n + 1) - 1 = nI n := nI_pred n
  refine st_Law_pop [] 30 ?_
  simp only [↓zq, ↓reduceIte, zr_si2, zr_sr1, zr_cp2, zr_tl, zr_tn, shq, List.contains_nil, List.contains_cons, Nat.reduceBEq, Bool.false_or, Bool.or_false, Bool.true_or, Bool.false_eq_true, if_false, if_true, true_and, and_true, List.set_cons_zero, List.set_cons_succ, List.length_cons, List.length_nil, Nat.reduceAdd, Nat.reduceLeDiff, Nat.le_refl, Nat.zero_le, true_or, or_true, zn_cl, ↓jj_Law_pop, k0, k7, q8, hn, ep]
  simp only [zr_si1, and_self, if_true, v1, c1, true_and, show ¬ w + 7 = w by omega, false_and, if_false]
  refine ⟨fun _ => hR, fun z => absurd ?_ z⟩
  exact nI_lt (a := 0) (by omega) (by omega)
set_option maxHeartbeats 4000000 in
set_option maxRecDepth 100000 in
theorem k_Law_letterAt {d : Nat} {h : zm_M} {R : zm_R} {w v : Nat} (hk : zk_law h.2 w) (hv : v < 7) (hR : R (some (.inl (h.1 (w + 8) v))) h) : zm_C (d + 1) TT m_Law_letterAt [.inr (some w), .inl (nI v)] h R := by
  obtain ⟨k0, k1, k2, k3, k4, k5, k6, k7, k8, q0, q1, q3, q4, q5, q6, q8, q11⟩ := hk
  have v1 : vp_in (nI v) 7 := vp_in_nI hv (by decide)
  have c1 := nI_clamp (show v < 2 ^ 31 by omega)
  refine st_Law_letterAt [] 30 ?_
  simp only [↓zq, ↓reduceIte, zr_si2, zr_sr1, zr_cp2, zr_tl, zr_tn, shq, List.contains_nil, List.contains_cons, Nat.reduceBEq, Bool.false_or, Bool.or_false, Bool.true_or, Bool.false_eq_true, if_false, if_true, true_and, and_true, List.set_cons_zero, List.set_cons_succ, List.length_cons, List.length_nil, Nat.reduceAdd, Nat.reduceLeDiff, Nat.le_refl, Nat.zero_le, true_or, or_true, zn_cl, ↓jj_Law_letterAt, k0, k8, q11, v1, c1]
  exact ⟨fun z => absurd z (nI_pos (by omega)), fun _ => ⟨fun z => absurd z (nI_ge (b := 7) hv (by decide)), fun _ => hR⟩⟩
/-- the class's sign of a code -/
def zl_sn (op : Nat) : Nat := if op = 2 then 43 else if op = 3 then 45 else if op = 4 then 42 else if op = 5 then 47 else if op = 6 then 37 else if op = 7 then 60 else if op = 8 then 62 else if op = 9 then 61 else if op = 10 then 33 else if op = 11 then 38 else if op = 12 then 124 else op
set_option maxHeartbeats 4000000 in
set_option maxRecDepth 100000 in
theorem k_Law_afterTest {d : Nat} {h : zm_M} {R : zm_R} {w n : Nat} {op t : Nat} {x : Int32} (hk : zk_law h.2 w) (hn : h.1 w 9 = nI (n + 1)) (hn2 : n < 32) (hx : h.1 (w + 7) n = x) (hx01 : x = 0 ∨ x = 1) (hop : op = 11 ∨ op = 12) (h1 : (if op = 11 then x = 0 else x = 1) → R (some (.inl (nI t))) (zm_si (zm_si (zm_si h w 9 (nI n)) (w + 7) n x) w 9 (nI (n + 1)))) (h0 : ¬ (if op = 11 then x = 0 else x = 1) → R (some (.inl (-1))) (zm_si h w 9 (nI n))) : zm_C (d + 2) TT m_Law_afterTest [.inr (some w), .inl (nI (zl_sn op)), .inl (nI t)] h R := by
  have k0 := hk.1
  refine st_Law_afterTest [] 30 ?_
  simp only [↓zq, ↓reduceIte, zr_si2, zr_sr1, zr_cp2, zr_tl, zr_tn, shq, List.contains_nil, List.contains_cons, Nat.reduceBEq, Bool.false_or, Bool.or_false, Bool.true_or, Bool.false_eq_true, if_false, if_true, true_and, and_true, List.set_cons_zero, List.set_cons_succ, List.length_cons, List.length_nil, Nat.reduceAdd, Nat.reduceLeDiff, Nat.le_refl, Nat.zero_le, true_or, or_true, zn_cl, ↓jj_Law_afterTest, k0]
  refine k_Law_pop hk hn hn2 ?_
  rw [hx]
  have psh : ∀ K : zm_R, K none (zm_si (zm_si (zm_si h w 9 (nI n)) (w + 7) n x) w 9 (nI (n + 1))) → zm_C (d + 1) TT m_Law_push [.inr (some w), .inl x] (zm_si h w 9 (nI n)) K := fun K hK => k_Law_push (n := n) hk (by simp [zr_si1]) hn2 hK
  rcases hop with rfl | rfl <;> rcases hx01 with rfl | rfl
  · rw [show nI (zl_sn 11) = 38 from rfl]
    simp only [↓zq, ↓reduceIte, zr_si2, zr_sr1, zr_cp2, zr_tl, zr_tn, shq, List.contains_nil, List.contains_cons, Nat.reduceBEq, Bool.false_or, Bool.or_false, Bool.true_or, Bool.false_eq_true, if_false, if_true, true_and, and_true, List.set_cons_zero, List.set_cons_succ, List.length_cons, List.length_nil, Nat.reduceAdd, Nat.reduceLeDiff, Nat.le_refl, Nat.zero_le, true_or, or_true, zn_cl, ↓jj_Law_afterTest, k0]
    refine ⟨fun _ => ⟨fun _ => ⟨fun _ => ?_, fun z => (by first | exact absurd trivial z | exact absurd rfl z | exact absurd z (by decide))⟩, fun z => (by first | exact absurd trivial z | exact absurd rfl z | exact absurd z (by decide))⟩, fun z => (by first | exact absurd trivial z | exact absurd rfl z | exact absurd z (by decide))⟩
    refine psh _ ?_
    simp only [↓zq, ↓reduceIte, zr_si2, zr_sr1, zr_cp2, zr_tl, zr_tn, shq, List.contains_nil, List.contains_cons, Nat.reduceBEq, Bool.false_or, Bool.or_false, Bool.true_or, Bool.false_eq_true, if_false, if_true, true_and, and_true, List.set_cons_zero, List.set_cons_succ, List.length_cons, List.length_nil, Nat.reduceAdd, Nat.reduceLeDiff, Nat.le_refl, Nat.zero_le, true_or, or_true, zn_cl, ↓jj_Law_afterTest]
    exact h1 rfl
  · rw [show nI (zl_sn 11) = 38 from rfl]
    simp only [↓zq, ↓reduceIte, zr_si2, zr_sr1, zr_cp2, zr_tl, zr_tn, shq, List.contains_nil, List.contains_cons, Nat.reduceBEq, Bool.false_or, Bool.or_false, Bool.true_or, Bool.false_eq_true, if_false, if_true, true_and, and_true, List.set_cons_zero, List.set_cons_succ, List.length_cons, List.length_nil, Nat.reduceAdd, Nat.reduceLeDiff, Nat.le_refl, Nat.zero_le, true_or, or_true, zn_cl, ↓jj_Law_afterTest, k0]
    exact ⟨fun z => (by first | exact absurd trivial z | exact absurd rfl z | exact absurd z (by decide)), fun _ => ⟨fun _ => ⟨fun z => (by first | exact absurd trivial z | exact absurd rfl z | exact absurd z (by decide)), fun _ => h0 (by decide)⟩, fun z => (by first | exact absurd trivial z | exact absurd rfl z | exact absurd z (by decide))⟩⟩
  · rw [show nI (zl_sn 12) = 124 from rfl]
    simp only [↓zq, ↓reduceIte, zr_si2, zr_sr1, zr_cp2, zr_tl, zr_tn, shq, List.contains_nil, List.contains_cons, Nat.reduceBEq, Bool.false_or, Bool.or_false, Bool.true_or, Bool.false_eq_true, if_false, if_true, true_and, and_true, List.set_cons_zero, List.set_cons_succ, List.length_cons, List.length_nil, Nat.reduceAdd, Nat.reduceLeDiff, Nat.le_refl, Nat.zero_le, true_or, or_true, zn_cl, ↓jj_Law_afterTest, k0]
    exact ⟨fun _ => ⟨fun z => (by first | exact absurd trivial z | exact absurd rfl z | exact absurd z (by decide)), fun _ => ⟨fun z => (by first | exact absurd trivial z | exact absurd rfl z | exact absurd z (by decide)), fun _ => h0 (by decide)⟩⟩, fun z => (by first | exact absurd trivial z | exact absurd rfl z | exact absurd z (by decide))⟩
  · rw [show nI (zl_sn 12) = 124 from rfl]
    simp only [↓zq, ↓reduceIte, zr_si2, zr_sr1, zr_cp2, zr_tl, zr_tn, shq, List.contains_nil, List.contains_cons, Nat.reduceBEq, Bool.false_or, Bool.or_false, Bool.true_or, Bool.false_eq_true, if_false, if_true, true_and, and_true, List.set_cons_zero, List.set_cons_succ, List.length_cons, List.length_nil, Nat.reduceAdd, Nat.reduceLeDiff, Nat.le_refl, Nat.zero_le, true_or, or_true, zn_cl, ↓jj_Law_afterTest, k0]
    refine ⟨fun z => (by first | exact absurd trivial z | exact absurd rfl z | exact absurd z (by decide)), fun _ => ⟨fun z => (by first | exact absurd trivial z | exact absurd rfl z | exact absurd z (by decide)), fun _ => ⟨fun _ => ?_, fun z => (by first | exact absurd trivial z | exact absurd rfl z | exact absurd z (by decide))⟩⟩⟩
    refine psh _ ?_
    simp only [↓zq, ↓reduceIte, zr_si2, zr_sr1, zr_cp2, zr_tl, zr_tn, shq, List.contains_nil, List.contains_cons, Nat.reduceBEq, Bool.false_or, Bool.or_false, Bool.true_or, Bool.false_eq_true, if_false, if_true, true_and, and_true, List.set_cons_zero, List.set_cons_succ, List.length_cons, List.length_nil, Nat.reduceAdd, Nat.reduceLeDiff, Nat.le_refl, Nat.zero_le, true_or, or_true, zn_cl, ↓jj_Law_afterTest]
    exact h1 rfl
theorem zl_ap7 (x y : Int32) : zl_ap 7 x y = if x < y then 1 else 0 := rfl
theorem zl_ap8 (x y : Int32) : zl_ap 8 x y = if y < x then 1 else 0 := rfl
theorem zl_ap9 (x y : Int32) : zl_ap 9 x y = if x = y then 1 else 0 := rfl
set_option maxHeartbeats 4000000 in
set_option maxRecDepth 100000 in
theorem k_Law_reckon {d : Nat} {h : zm_M} {R : zm_R} {w op : Nat} {x y : Int32} (hk : (zm_sh TT w).1 = 7) (hr : h.1 w 10 = 0) (h2 : 2 ≤ op) (h9 : op ≤ 9) (h0 : (op = 5 ∨ op = 6) → y = 0 → R (some (.inl 0)) (zm_si h w 10 1)) (h1 : ¬ ((op = 5 ∨ op = 6) ∧ y = 0) → ∀ h' : zm_M, (h' = h ∨ h' = zm_si h w 10 0) → R (some (.inl (zl_ap op x y))) h') : zm_C (d + 1) TT m_Law_reckon [.inr (some w), .inl (nI (zl_sn op)), .inl x, .inl y] h R := by
  rcases (show op = 2 ∨ op = 3 ∨ op = 4 ∨ op = 5 ∨ op = 6 ∨ op = 7 ∨ op = 8 ∨ op = 9 by omega) with rfl | rfl | rfl | rfl | rfl | rfl | rfl | rfl
  · rw [show nI (zl_sn 2) = 43 from rfl]
    refine st_Law_reckon [] 30 ?_
    simp only [↓zq, ↓reduceIte, zr_si2, zr_sr1, zr_cp2, zr_tl, zr_tn, shq, List.contains_nil, List.contains_cons, Nat.reduceBEq, Bool.false_or, Bool.or_false, Bool.true_or, Bool.false_eq_true, if_false, if_true, true_and, and_true, List.set_cons_zero, List.set_cons_succ, List.length_cons, List.length_nil, Nat.reduceAdd, Nat.reduceLeDiff, Nat.le_refl, Nat.zero_le, true_or, or_true, zn_cl, ↓jj_Law_reckon, hk, hr]
    refine ⟨fun z => (by first | exact absurd trivial z | exact absurd rfl z | exact absurd z (by decide)), fun _ => ⟨fun z => (by first | exact absurd trivial z | exact absurd rfl z | exact absurd z (by decide)), fun _ => ⟨fun _ => ?_, fun z => (by first | exact absurd trivial z | exact absurd rfl z | exact absurd z (by decide))⟩⟩⟩
    exact h1 (fun q => by have := q.1; omega) h (Or.inl rfl)
  · rw [show nI (zl_sn 3) = 45 from rfl]
    refine st_Law_reckon [] 30 ?_
    simp only [↓zq, ↓reduceIte, zr_si2, zr_sr1, zr_cp2, zr_tl, zr_tn, shq, List.contains_nil, List.contains_cons, Nat.reduceBEq, Bool.false_or, Bool.or_false, Bool.true_or, Bool.false_eq_true, if_false, if_true, true_and, and_true, List.set_cons_zero, List.set_cons_succ, List.length_cons, List.length_nil, Nat.reduceAdd, Nat.reduceLeDiff, Nat.le_refl, Nat.zero_le, true_or, or_true, zn_cl, ↓jj_Law_reckon, hk, hr]
    refine ⟨fun z => (by first | exact absurd trivial z | exact absurd rfl z | exact absurd z (by decide)), fun _ => ⟨fun z => (by first | exact absurd trivial z | exact absurd rfl z | exact absurd z (by decide)), fun _ => ⟨fun z => (by first | exact absurd trivial z | exact absurd rfl z | exact absurd z (by decide)), fun _ => ⟨fun _ => ?_, fun z => (by first | exact absurd trivial z | exact absurd rfl z | exact absurd z (by decide))⟩⟩⟩⟩
    exact h1 (fun q => by have := q.1; omega) h (Or.inl rfl)
  · rw [show nI (zl_sn 4) = 42 from rfl]
    refine st_Law_reckon [] 30 ?_
    simp only [↓zq, ↓reduceIte, zr_si2, zr_sr1, zr_cp2, zr_tl, zr_tn, shq, List.contains_nil, List.contains_cons, Nat.reduceBEq, Bool.false_or, Bool.or_false, Bool.true_or, Bool.false_eq_true, if_false, if_true, true_and, and_true, List.set_cons_zero, List.set_cons_succ, List.length_cons, List.length_nil, Nat.reduceAdd, Nat.reduceLeDiff, Nat.le_refl, Nat.zero_le, true_or, or_true, zn_cl, ↓jj_Law_reckon, hk, hr]
    refine ⟨fun z => (by first | exact absurd trivial z | exact absurd rfl z | exact absurd z (by decide)), fun _ => ⟨fun _ => ?_, fun z => (by first | exact absurd trivial z | exact absurd rfl z | exact absurd z (by decide))⟩⟩
    exact h1 (fun q => by have := q.1; omega) h (Or.inl rfl)
  · rw [show nI (zl_sn 5) = 47 from rfl]
    refine st_Law_reckon [] 30 ?_
    simp only [↓zq, ↓reduceIte, zr_si2, zr_sr1, zr_cp2, zr_tl, zr_tn, shq, List.contains_nil, List.contains_cons, Nat.reduceBEq, Bool.false_or, Bool.or_false, Bool.true_or, Bool.false_eq_true, if_false, if_true, true_and, and_true, List.set_cons_zero, List.set_cons_succ, List.length_cons, List.length_nil, Nat.reduceAdd, Nat.reduceLeDiff, Nat.le_refl, Nat.zero_le, true_or, or_true, zn_cl, ↓jj_Law_reckon, hk, hr]
    refine ⟨fun z => (by first | exact absurd trivial z | exact absurd rfl z | exact absurd z (by decide)), fun _ => ⟨fun z => (by first | exact absurd trivial z | exact absurd rfl z | exact absurd z (by decide)), fun _ => ⟨fun z => (by first | exact absurd trivial z | exact absurd rfl z | exact absurd z (by decide)), fun _ => ⟨fun z => (by first | exact absurd trivial z | exact absurd rfl z | exact absurd z (by decide)), fun _ => ⟨fun _ => ?_, fun z => (by first | exact absurd trivial z | exact absurd rfl z | exact absurd z (by decide))⟩⟩⟩⟩⟩
    refine ⟨fun z => absurd trivial z, fun _ => ⟨fun z => ?_, fun z => ?_⟩⟩
    · exact ⟨fun _ => ⟨z, h1 (fun y => z y.2) _ (Or.inr rfl)⟩, fun y => absurd y z⟩
    · exact ⟨fun y => absurd z y, fun _ => h0 (by decide) z⟩
  · rw [show nI (zl_sn 6) = 37 from rfl]
    refine st_Law_reckon [] 30 ?_
    simp only [↓zq, ↓reduceIte, zr_si2, zr_sr1, zr_cp2, zr_tl, zr_tn, shq, List.contains_nil, List.contains_cons, Nat.reduceBEq, Bool.false_or, Bool.or_false, Bool.true_or, Bool.false_eq_true, if_false, if_true, true_and, and_true, List.set_cons_zero, List.set_cons_succ, List.length_cons, List.length_nil, Nat.reduceAdd, Nat.reduceLeDiff, Nat.le_refl, Nat.zero_le, true_or, or_true, zn_cl, ↓jj_Law_reckon, hk, hr]
    refine ⟨fun _ => ?_, fun z => (by first | exact absurd trivial z | exact absurd rfl z | exact absurd z (by decide))⟩
    refine ⟨fun z => absurd trivial z, fun _ => ⟨fun z => ?_, fun z => ?_⟩⟩
    · exact ⟨fun _ => ⟨z, h1 (fun y => z y.2) _ (Or.inr rfl)⟩, fun y => absurd y z⟩
    · exact ⟨fun y => absurd z y, fun _ => h0 (by decide) z⟩
  · rw [show nI (zl_sn 7) = 60 from rfl]
    refine st_Law_reckon [] 30 ?_
    simp only [↓zq, ↓reduceIte, zr_si2, zr_sr1, zr_cp2, zr_tl, zr_tn, shq, List.contains_nil, List.contains_cons, Nat.reduceBEq, Bool.false_or, Bool.or_false, Bool.true_or, Bool.false_eq_true, if_false, if_true, true_and, and_true, List.set_cons_zero, List.set_cons_succ, List.length_cons, List.length_nil, Nat.reduceAdd, Nat.reduceLeDiff, Nat.le_refl, Nat.zero_le, true_or, or_true, zn_cl, ↓jj_Law_reckon, hk, hr]
    refine ⟨fun z => (by first | exact absurd trivial z | exact absurd rfl z | exact absurd z (by decide)), fun _ => ⟨fun z => (by first | exact absurd trivial z | exact absurd rfl z | exact absurd z (by decide)), fun _ => ⟨fun z => (by first | exact absurd trivial z | exact absurd rfl z | exact absurd z (by decide)), fun _ => ⟨fun z => (by first | exact absurd trivial z | exact absurd rfl z | exact absurd z (by decide)), fun _ => ⟨fun z => (by first | exact absurd trivial z | exact absurd rfl z | exact absurd z (by decide)), fun _ => ⟨fun _ => ?_, fun z => (by first | exact absurd trivial z | exact absurd rfl z | exact absurd z (by decide))⟩⟩⟩⟩⟩⟩
    have := h1 (fun q => by have := q.1; omega) h (Or.inl rfl)
    refine ⟨fun z => ?_, fun z => ?_⟩
    · rw [zl_ap7, if_neg (fun q => by clear this h0 h1; (simp only [Int32.lt_iff_toInt_lt, Int32.le_iff_toInt_le, ← Int32.toInt_inj, zi_c] at *; omega))] at this
      exact this
    · rw [zl_ap7, if_pos (by clear this h0 h1; (simp only [Int32.lt_iff_toInt_lt, Int32.le_iff_toInt_le, ← Int32.toInt_inj, zi_c] at *; omega))] at this
      exact this
  · rw [show nI (zl_sn 8) = 62 from rfl]
    refine st_Law_reckon [] 30 ?_
    simp only [↓zq, ↓reduceIte, zr_si2, zr_sr1, zr_cp2, zr_tl, zr_tn, shq, List.contains_nil, List.contains_cons, Nat.reduceBEq, Bool.false_or, Bool.or_false, Bool.true_or, Bool.false_eq_true, if_false, if_true, true_and, and_true, List.set_cons_zero, List.set_cons_succ, List.length_cons, List.length_nil, Nat.reduceAdd, Nat.reduceLeDiff, Nat.le_refl, Nat.zero_le, true_or, or_true, zn_cl, ↓jj_Law_reckon, hk, hr]
    refine ⟨fun z => (by first | exact absurd trivial z | exact absurd rfl z | exact absurd z (by decide)), fun _ => ⟨fun z => (by first | exact absurd trivial z | exact absurd rfl z | exact absurd z (by decide)), fun _ => ⟨fun z => (by first | exact absurd trivial z | exact absurd rfl z | exact absurd z (by decide)), fun _ => ⟨fun z => (by first | exact absurd trivial z | exact absurd rfl z | exact absurd z (by decide)), fun _ => ⟨fun z => (by first | exact absurd trivial z | exact absurd rfl z | exact absurd z (by decide)), fun _ => ⟨fun z => (by first | exact absurd trivial z | exact absurd rfl z | exact absurd z (by decide)), fun _ => ⟨fun _ => ?_, fun z => (by first | exact absurd trivial z | exact absurd rfl z | exact absurd z (by decide))⟩⟩⟩⟩⟩⟩⟩
    have := h1 (fun q => by have := q.1; omega) h (Or.inl rfl)
    refine ⟨fun z => ?_, fun z => ?_⟩
    · rw [zl_ap8, if_neg (fun q => by clear this h0 h1; (simp only [Int32.lt_iff_toInt_lt, Int32.le_iff_toInt_le, ← Int32.toInt_inj, zi_c] at *; omega))] at this
      exact this
    · rw [zl_ap8, if_pos (by clear this h0 h1; (simp only [Int32.lt_iff_toInt_lt, Int32.le_iff_toInt_le, ← Int32.toInt_inj, zi_c] at *; omega))] at this
      exact this
  · rw [show nI (zl_sn 9) = 61 from rfl]
    refine st_Law_reckon [] 30 ?_
    simp only [↓zq, ↓reduceIte, zr_si2, zr_sr1, zr_cp2, zr_tl, zr_tn, shq, List.contains_nil, List.contains_cons, Nat.reduceBEq, Bool.false_or, Bool.or_false, Bool.true_or, Bool.false_eq_true, if_false, if_true, true_and, and_true, List.set_cons_zero, List.set_cons_succ, List.length_cons, List.length_nil, Nat.reduceAdd, Nat.reduceLeDiff, Nat.le_refl, Nat.zero_le, true_or, or_true, zn_cl, ↓jj_Law_reckon, hk, hr]
    refine ⟨fun z => (by first | exact absurd trivial z | exact absurd rfl z | exact absurd z (by decide)), fun _ => ⟨fun z => (by first | exact absurd trivial z | exact absurd rfl z | exact absurd z (by decide)), fun _ => ⟨fun z => (by first | exact absurd trivial z | exact absurd rfl z | exact absurd z (by decide)), fun _ => ⟨fun z => (by first | exact absurd trivial z | exact absurd rfl z | exact absurd z (by decide)), fun _ => ⟨fun z => (by first | exact absurd trivial z | exact absurd rfl z | exact absurd z (by decide)), fun _ => ⟨fun z => (by first | exact absurd trivial z | exact absurd rfl z | exact absurd z (by decide)), fun _ => ⟨fun z => (by first | exact absurd trivial z | exact absurd rfl z | exact absurd z (by decide)), fun _ => ?_⟩⟩⟩⟩⟩⟩⟩
    have := h1 (fun q => by have := q.1; omega) h (Or.inl rfl)
    refine ⟨fun z => ?_, fun z => ?_⟩
    · rw [zl_ap9, if_neg z] at this
      exact this
    · rw [zl_ap9, if_pos z] at this
      exact this
