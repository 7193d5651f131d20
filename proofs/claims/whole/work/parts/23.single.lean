/-! how many unlike, and the middle one -/
/-- facts let, of key k and measure m, whose place is below i: how many of the first n -/
def zs_ct (sp q : Nat → Nat) (F : zs_F) (i k m : Nat) : Nat → Nat
  | 0 => 0
  | n + 1 => zs_ct sp q F i k m n + if zs_rk2 F.2.2 F.1 n < i ∧ zs_let q (F.2.1 n) = true ∧ zs_key sp q (F.2.1 n) = k ∧ F.2.2 n = m then 1 else 0
/-- all of them -/
def zs_tm (sp q : Nat → Nat) (F : zs_F) (k m : Nat) : Nat → Nat
  | 0 => 0
  | n + 1 => zs_tm sp q F k m n + if zs_let q (F.2.1 n) = true ∧ zs_key sp q (F.2.1 n) = k ∧ F.2.2 n = m then 1 else 0
theorem zs_ct_0 (sp q : Nat → Nat) (F : zs_F) (k m : Nat) : ∀ n, zs_ct sp q F 0 k m n = 0
  | 0 => rfl
  | n + 1 => by rw [zs_ct, zs_ct_0 sp q F k m n, if_neg (fun z => Nat.not_lt_zero _ z.1)]
theorem zs_ct_all (sp q : Nat → Nat) {F : zs_F} (hM : ∀ f, f < F.1 → F.2.2 f < 100) (k m : Nat) : ∀ n, n ≤ F.1 → zs_ct sp q F F.1 k m n = zs_tm sp q F k m n
  | 0, _ => rfl
  | n + 1, h => by
    rw [zs_ct, zs_tm, zs_ct_all sp q hM k m n (by omega)]
    have := (zs_rk2_lt hM (show n < F.1 by omega)).2
    simp [this]
/-- one fact more -/
theorem zs_ct_s (sp q : Nat → Nat) {F : zs_F} (hM : ∀ f, f < F.1 → F.2.2 f < 100) {g : Nat} (hg : g < F.1) (k m : Nat) : ∀ n, n ≤ F.1 → zs_ct sp q F (zs_rk2 F.2.2 F.1 g + 1) k m n = zs_ct sp q F (zs_rk2 F.2.2 F.1 g) k m n + if g < n ∧ zs_let q (F.2.1 g) = true ∧ zs_key sp q (F.2.1 g) = k ∧ F.2.2 g = m then 1 else 0
  | 0, _ => by simp [zs_ct]
  | n + 1, h => by
    rw [zs_ct, zs_ct, zs_ct_s sp q hM hg k m n (by omega)]
    by_cases e : n = g
    · subst e
      simp only [Nat.lt_irrefl, false_and, if_false, Nat.add_zero, Nat.lt_succ_self, true_and]
    · have hne : ¬ zs_rk2 F.2.2 F.1 n = zs_rk2 F.2.2 F.1 g := fun z => e (zs_rk2_inj hM (by omega) hg z)
      have e1 : (zs_rk2 F.2.2 F.1 n < zs_rk2 F.2.2 F.1 g + 1) = (zs_rk2 F.2.2 F.1 n < zs_rk2 F.2.2 F.1 g) := propext (by omega)
      have e2 : (g < n + 1) = (g < n) := propext (by omega)
      simp only [e1, e2]
      omega
theorem zs_ct_pos {sp q : Nat → Nat} {F : zs_F} {i k m : Nat} : ∀ n, zs_ct sp q F i k m n ≠ 0 → ∃ f, f < n ∧ zs_rk2 F.2.2 F.1 f < i ∧ zs_let q (F.2.1 f) = true ∧ zs_key sp q (F.2.1 f) = k ∧ F.2.2 f = m
  | 0, h => absurd rfl h
  | n + 1, h => by
    rw [zs_ct] at h
    by_cases e : zs_rk2 F.2.2 F.1 n < i ∧ zs_let q (F.2.1 n) = true ∧ zs_key sp q (F.2.1 n) = k ∧ F.2.2 n = m
    · exact ⟨n, by omega, e⟩
    · rw [if_neg e, Nat.add_zero] at h
      obtain ⟨f, h1, h2⟩ := zs_ct_pos n h
      exact ⟨f, by omega, h2⟩
/-- added up below m -/
def zs_cum (t : Nat → Nat) : Nat → Nat
  | 0 => 0
  | m + 1 => zs_cum t m + t m
theorem zs_cum_mono (t : Nat → Nat) (m : Nat) : ∀ k, zs_cum t m ≤ zs_cum t (m + k)
  | 0 => Nat.le_refl _
  | k + 1 => by
    have := zs_cum_mono t m k
    show _ ≤ zs_cum t (m + k + 1)
    rw [zs_cum]
    omega
theorem zs_cum_congr {t u : Nat → Nat} : ∀ m, (∀ j, j < m → t j = u j) → zs_cum t m = zs_cum u m
  | 0, _ => rfl
  | m + 1, h => by rw [zs_cum, zs_cum, zs_cum_congr m (fun j hj => h j (by omega)), h m (by omega)]
theorem zs_cum_up {t u : Nat → Nat} {m0 : Nat} (h0 : u m0 = t m0 + 1) (ho : ∀ j, j ≠ m0 → u j = t j) : ∀ m, zs_cum u m = zs_cum t m + if m0 < m then 1 else 0
  | 0 => by simp [zs_cum]
  | m + 1 => by
    rw [zs_cum, zs_cum, zs_cum_up h0 ho m]
    by_cases e : m = m0
    · subst e
      rw [h0, if_neg (Nat.lt_irrefl _), if_pos (Nat.lt_succ_self _)]
      omega
    · rw [ho m e]
      by_cases e2 : m0 < m
      · rw [if_pos e2, if_pos (by omega)]; omega
      · rw [if_neg e2, if_neg (by omega)]; omega
/-- the least measure with which H are reached -/
def zs_md (t : Nat → Nat) (H : Nat) : Nat := zs_some (fun m => if zs_cum t (m + 1) < H then 1 else 0) 100
theorem zs_some_pre {f : Nat → Nat} {m : Nat} (h1 : ∀ j, j < m → f j ≠ 0) (h2 : ∀ j, m ≤ j → f j = 0) : ∀ n, zs_some f n = min n m
  | 0 => by simp [zs_some]
  | n + 1 => by
    rw [zs_some, zs_some_pre h1 h2 n]
    by_cases e : n < m
    · rw [if_neg (h1 n e)]; omega
    · rw [if_pos (h2 n (by omega))]; omega
theorem zs_md_eq {t : Nat → Nat} {H m : Nat} (hm : m < 100) (h1 : zs_cum t m < H) (h2 : H ≤ zs_cum t (m + 1)) : zs_md t H = m := by
  unfold zs_md
  rw [zs_some_pre (m := m)]
  · omega
  · intro j hj
    have := zs_cum_mono t (j + 1) (m - (j + 1))
    rw [show j + 1 + (m - (j + 1)) = m by omega] at this
    rw [if_pos (by omega)]
    decide
  · intro j hj
    have := zs_cum_mono t (m + 1) (j + 1 - (m + 1))
    rw [show m + 1 + (j + 1 - (m + 1)) = j + 1 by omega] at this
    rw [if_neg (by omega)]
/-- what is singled of a group: unlike ones (5), the middle (6) -/
def zs_sg (sp q : Nat → Nat) (F : zs_F) (k : Nat) : Nat := if q 6 = 5 then zs_some (fun m => zs_tm sp q F k m F.1) 100 else zs_md (fun m => zs_tm sp q F k m F.1) ((zs_cum (fun m => zs_tm sp q F k m F.1) 100 + 1) / 2)
/-- added up over measures: the count of the group -/
theorem zs_tm_cumM (sp q : Nat → Nat) {F : zs_F} (M : Nat) (hM : ∀ f, f < F.1 → F.2.2 f < M) (k : Nat) : ∀ n, n ≤ F.1 → zs_cum (fun m => zs_tm sp q F k m n) M = zs_cnt sp q F 0 n k
  | 0, _ => by
    have : ∀ M, zs_cum (fun m => zs_tm sp q F k m 0) M = 0 := by
      intro M
      induction M with
      | zero => rfl
      | succ M ih => rw [zs_cum, ih]; rfl
    rw [this]; rfl
  | n + 1, h => by
    have ih := zs_tm_cumM sp q M hM k n (by omega)
    rw [zs_cnt, Nat.zero_add, ← ih]
    by_cases e : zs_let q (F.2.1 n) = true ∧ zs_key sp q (F.2.1 n) = k
    · rw [if_pos e, zs_cum_up (t := fun m => zs_tm sp q F k m n) (u := fun m => zs_tm sp q F k m (n + 1)) (m0 := F.2.2 n) (by show zs_tm sp q F k (F.2.2 n) (n + 1) = _; rw [zs_tm, if_pos ⟨e.1, e.2, rfl⟩]) (fun j hj => by show zs_tm sp q F k j (n + 1) = _; rw [zs_tm, if_neg (fun z => hj z.2.2.symm), Nat.add_zero]), if_pos (hM n (by omega))]
    · rw [if_neg e, Nat.add_zero]
      exact zs_cum_congr M (fun j hj => by show zs_tm sp q F k j (n + 1) = _; rw [zs_tm, if_neg (fun z => e ⟨z.1, z.2.1⟩), Nat.add_zero])
theorem zs_tm_cum (sp q : Nat → Nat) {F : zs_F} (hM : ∀ f, f < F.1 → F.2.2 f < 100) (k : Nat) (n : Nat) (hn : n ≤ F.1) : zs_cum (fun m => zs_tm sp q F k m n) 100 = zs_cnt sp q F 0 n k := zs_tm_cumM sp q 100 hM k n hn
/-- the facts placed below i that are of key k -/
def zs_cp (sp q : Nat → Nat) (F : zs_F) (i k : Nat) : Nat := zs_cum (fun m => zs_ct sp q F i k m F.1) 100
