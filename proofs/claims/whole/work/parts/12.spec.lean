/-! numbers -/
theorem zn_lt {a b : Nat} (ha : a < 2 ^ 31) (hb : b < 2 ^ 31) : (nI a < nI b) = (a < b) := propext (nI_ltI ha hb)
theorem zn_le {a b : Nat} (ha : a < 2 ^ 31) (hb : b < 2 ^ 31) : (nI a ≤ nI b) = (a ≤ b) := propext (nI_leI ha hb)
theorem zn_eq {a b : Nat} (ha : a < 2 ^ 31) (hb : b < 2 ^ 31) : (nI a = nI b) = (a = b) := propext (nI_eq ha hb)
theorem zn_z {a : Nat} (ha : a < 2 ^ 31) : (nI a = 0) = (a = 0) := propext (nI_eq (b := 0) ha (by decide))
theorem zn_in {x : Int32} {n : Nat} {m : Int32} (h0 : ¬ x < 0) (h1 : ¬ m ≤ x) (hm : nI n = m := by rfl) (hn : n < 2 ^ 31 := by decide) : vp_in x n := by
  subst hm
  intro h
  rcases h with h | h
  · exact h0 h
  · obtain ⟨j, hj, rfl⟩ := nI_of h0
    rw [nI_clamp hj] at h
    exact h1 (nI_le h hj)
/-- an int that is between: a number -/
theorem zn_of {x : Int32} {n : Nat} {m : Int32} (h0 : ¬ x < 0) (h1 : ¬ m ≤ x) (hm : nI n = m := by rfl) (hn : n < 2 ^ 31 := by decide) : ∃ j : Nat, j < n ∧ x = nI j := by
  subst hm
  obtain ⟨j, hj, rfl⟩ := nI_of h0
  refine ⟨j, ?_, rfl⟩
  rcases Nat.lt_or_ge j n with q | q
  · exact q
  · exact absurd (nI_le q hj) h1
theorem zn_v {x : Int32} {n k : Nat} (hx : nI k = x := by rfl) (h : k < n := by decide) (hn : n < 2 ^ 31 := by decide) : vp_in x n := by
  subst hx
  exact vp_in_nI h hn
theorem zn_cl : Int32.toNatClampNeg 0 = 0 ∧ Int32.toNatClampNeg 1 = 1 ∧ Int32.toNatClampNeg 2 = 2 ∧ Int32.toNatClampNeg 3 = 3 ∧ Int32.toNatClampNeg 4 = 4 ∧ Int32.toNatClampNeg 5 = 5 ∧ Int32.toNatClampNeg 6 = 6 ∧ Int32.toNatClampNeg 7 = 7 ∧ Int32.toNatClampNeg 8 = 8 ∧ Int32.toNatClampNeg 24 = 24 := ⟨rfl, rfl, rfl, rfl, rfl, rfl, rfl, rfl, rfl, rfl⟩
/-! the state that both hold: facts, shape, summaries, question, tape, law, x, what is kept -/
abbrev zs_F : Type := Nat × (Nat → Nat → Nat) × (Nat → Nat)
abbrev zs_U : Type := Nat × (Nat → Nat → Nat)
abbrev zs_Q : Type := Bool × (Nat → Nat)
abbrev zs_B : Type := Nat × (Nat → Nat)
abbrev zs_L : Type := Nat × (Nat → Nat × Nat × Nat × Nat) × (Nat → Nat × Nat)
/-- kept at all, facts, x, no shape since, summaries -/
abbrev zs_K : Type := Bool × Nat × Nat × Bool × zs_U
abbrev zs : Type := zs_F × (Nat → Nat) × zs_U × zs_Q × zs_B × zs_L × Nat × zs_K
/-! numbers, groups -/
/-- the number of a value of a side at a level -/
def zs_num (sp : Nat → Nat) (side lev v : Nat) : Nat := if lev = 0 then v else if lev = 1 then sp (8 * side + v) else 0
/-- the triple of a fact by the levels of a row -/
def zs_key (sp : Nat → Nat) (row : Nat → Nat) (va : Nat → Nat) : Nat := 64 * zs_num sp 0 (row 0) (va 0) + 8 * zs_num sp 1 (row 1) (va 1) + zs_num sp 2 (row 2) (va 2)
/-- whether a row's spans let a fact -/
def zs_let (row : Nat → Nat) (va : Nat → Nat) : Bool := (row 3).testBit (va 0) && (row 4).testBit (va 1) && (row 5).testBit (va 2)
/-- how many of the facts from lo on, n of them, are let and go to key k -/
def zs_cnt (sp row : Nat → Nat) (F : zs_F) (lo : Nat) : Nat → Nat → Nat
  | 0, _ => 0
  | n + 1, k => zs_cnt sp row F lo n k + if zs_let row (F.2.1 (lo + n)) = true ∧ zs_key sp row (F.2.1 (lo + n)) = k then 1 else 0
/-- how many keys below m have some -/
def zs_some (f : Nat → Nat) : Nat → Nat
  | 0 => 0
  | m + 1 => zs_some f m + if f m = 0 then 0 else 1
/-- groups of a row, of the first u facts -/
def zs_grp (sp row : Nat → Nat) (F : zs_F) (u : Nat) : Nat := zs_some (zs_cnt sp row F 0 u) 512
/-! the state is well formed -/
def zw_F (F : zs_F) : Prop := F.1 ≤ 240 ∧ ∀ f, f < F.1 → F.2.1 f 0 < 8 ∧ F.2.1 f 1 < 8 ∧ F.2.1 f 2 < 8 ∧ F.2.2 f < 100
def zw_S (sp : Nat → Nat) : Prop := ∀ v, v < 24 → sp v < 4
def zw_R (row : Nat → Nat) : Prop := row 0 ≤ 2 ∧ row 1 ≤ 2 ∧ row 2 ≤ 2 ∧ row 3 < 256 ∧ row 4 < 256 ∧ row 5 < 256
def zw_U (nf : Nat) (U : zs_U) : Prop := U.1 ≤ 8 ∧ ∀ s, s < U.1 → zw_R (U.2 s) ∧ 1 ≤ U.2 s 6 ∧ U.2 s 6 < 16 ∧ U.2 s 7 ≤ nf
def zw_Q (Q : zs_Q) : Prop := Q.1 = true → zw_R Q.2 ∧ Q.2 6 ≤ 6
def zw_B (B : zs_B) : Prop := B.1 ≤ 260 ∧ ∀ k, k < B.1 → B.2 k < 256
def zw_K (nf : Nat) (K : zs_K) : Prop := K.1 = true → K.2.1 ≤ nf ∧ K.2.2.1 < 65536 ∧ (K.2.2.2.1 = true → zw_U K.2.1 K.2.2.2.2)
/-! how the class holds it -/
def zc_F (I : Nat → Nat → Int32) (F : zs_F) : Prop := I 30 2 = nI F.1 ∧ ∀ f, f < F.1 → I 31 f = nI (64 * F.2.1 f 0 + 8 * F.2.1 f 1 + F.2.1 f 2) ∧ I 32 f = nI (F.2.2 f)
def zc_S (I : Nat → Nat → Int32) (sp : Nat → Nat) : Prop := ∀ v, v < 24 → I 29 v = nI (sp v)
/-- a cut at address a with its rows behind it: levels, lets -/
def zc_R (I : Nat → Nat → Int32) (a : Nat) (row : Nat → Nat) : Prop := I (a + 1) 0 = nI (row 0) ∧ I (a + 1) 1 = nI (row 1) ∧ I (a + 1) 2 = nI (row 2) ∧ I (a + 2) 0 = nI (row 3) ∧ I (a + 2) 1 = nI (row 4) ∧ I (a + 2) 2 = nI (row 5)
/-- a summary at address a: cut at a + 1 -/
def zc_Y (I : Nat → Nat → Int32) (sp : Nat → Nat) (F : zs_F) (a : Nat) (row : Nat → Nat) : Prop := zc_R I (a + 1) row ∧ I (a + 1) 2 = nI (row 6) ∧ I a 1 = nI (row 7) ∧ I a 2 = nI (zs_grp sp row F (row 7))
/-- the shelf at address a (its size), whose summaries lie at ad s -/
def zc_U (I : Nat → Nat → Int32) (sp : Nat → Nat) (F : zs_F) (a : Nat) (ad : Nat → Nat) (U : zs_U) : Prop := I a 1 = nI U.1 ∧ ∀ s, s < U.1 → zc_Y I sp F (ad s) (U.2 s)
def zc_Q (I : Nat → Nat → Int32) (Q : zs_Q) : Prop := I 0 8 = (if Q.1 = true then 1 else 0) ∧ (Q.1 = true → zc_R I 70 Q.2 ∧ I 70 3 = nI (Q.2 6))
def zc_B (I : Nat → Nat → Int32) (B : zs_B) : Prop := I 1 1 = nI B.1 ∧ ∀ k, k < B.1 → I 2 k = nI (B.2 k)
/-- rows of the shelf: a rearrangement of the eight summaries made -/
def zc_P (P : Nat → Nat → Option Nat) (pi : Nat → Nat) : Prop := (∀ i, i < 8 → P 37 i = some (38 + 4 * pi i) ∧ pi i < 8) ∧ ∀ i j, i < 8 → j < 8 → pi i = pi j → i = j
def zc_K (I : Nat → Nat → Int32) (sp : Nat → Nat) (F : zs_F) (K : zs_K) : Prop := (K.1 = false → I 0 15 = -1) ∧ (K.1 = true → I 0 15 = nI K.2.1 ∧ I 0 16 = nI K.2.2.1 ∧ I 0 17 = (if K.2.2.2.1 = true then 0 else 1) ∧ (K.2.2.2.1 = true → zc_U I sp F 99 (fun s => 101 + 4 * s) K.2.2.2.2))
/-! how the reference holds it -/
def zo_F (I : Nat → Nat → Int32) (F : zs_F) : Prop := I 133 1 = nI F.1 ∧ ∀ f, f < F.1 → I 134 (4 * f) = nI (F.2.1 f 0) ∧ I 134 (4 * f + 1) = nI (F.2.1 f 1) ∧ I 134 (4 * f + 2) = nI (F.2.1 f 2) ∧ I 134 (4 * f + 3) = nI (F.2.2 f)
def zo_S (I : Nat → Nat → Int32) (sp : Nat → Nat) : Prop := ∀ v, v < 24 → I 136 v = nI (sp v)
/-- a row at a place of an array: levels, lets -/
def zo_R (f : Nat → Int32) (at0 : Nat) (row : Nat → Nat) : Prop := ∀ k, k < 6 → f (at0 + k) = nI (row k)
def zo_U (I : Nat → Nat → Int32) (U : zs_U) : Prop := I 133 2 = nI U.1 ∧ ∀ s, s < U.1 → ∀ k, k < 8 → I 135 (8 * s + k) = nI (U.2 s k)
def zo_Q (I : Nat → Nat → Int32) (Q : zs_Q) : Prop := I 133 36 = (if Q.1 = true then 1 else 0) ∧ (Q.1 = true → ∀ k, k < 7 → I 153 k = nI (Q.2 k))
def zo_B (I : Nat → Nat → Int32) (B : zs_B) : Prop := I 133 8 = nI B.1 ∧ ∀ k, k < B.1 → I 137 k &&& 255 = nI (B.2 k)
/-- c: how many calls there were -/
def zo_K (I : Nat → Nat → Int32) (c : Nat) (F : zs_F) (K : zs_K) : Prop := ∃ n m : Nat, m ≤ n ∧ n ≤ c ∧ I 133 3 = nI n ∧ (K.1 = false → I 133 53 = 0) ∧ (K.1 = true → I 133 53 = 1 ∧ I 133 57 = nI m ∧ I 133 54 = nI K.2.1 ∧ I 133 56 = nI K.2.2.1 ∧ (∀ k, k < 4 * K.2.1 → I 169 k = I 134 k) ∧ (K.2.2.2.1 = true ↔ m = n) ∧ (K.2.2.2.1 = true → I 133 55 = nI K.2.2.2.2.1 ∧ ∀ s, s < K.2.2.2.2.1 → ∀ k, k < 8 → I 170 (8 * s + k) = nI (K.2.2.2.2.2 s k)))
