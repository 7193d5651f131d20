/-! the first state -/
def yb_h0 : zm_M := (fun _ _ => 0, fun _ _ => none)
def yb_h1 : zm_M := yf_KS (yi_nw yb_h0 0)
def yb_M : zm_M := yf_Mo (yi_nw yb_h1 133)
/-- between calls: c calls there were -/
def yb_I (c : Nat) (h : zm_M) : Prop := ∃ (pi : Nat → Nat) (w : Nat) (F : zs_F) (sp : Nat → Nat) (U : zs_U) (Q : zs_Q) (B : zs_B) (L : zs_L) (x : Nat) (K : zs_K), zCC h pi w F sp U Q B L x K ∧ zOO h c F sp U Q B L x K
set_option maxRecDepth 100000 in
theorem yb_ok : zp_ok yb_M.2 := by
  repeat' (first | apply And.intro | decide +kernel)
set_option maxRecDepth 100000 in
theorem yb_mo : zp_mo yb_M.2 := by decide +kernel
set_option maxRecDepth 100000 in
theorem yb_pi : ∀ i, i < 8 → yb_M.2 37 i = some (38 + 4 * i) := by decide +kernel
set_option maxRecDepth 100000 in
theorem yb_s1 : ∀ v, v < 24 → yb_M.1 29 v = nI (v % 8 / 2) := by decide +kernel
set_option maxRecDepth 100000 in
theorem yb_s2 : ∀ v, v < 24 → yb_M.1 136 v = nI (v % 8 / 2) := by decide +kernel
set_option maxRecDepth 100000 in
theorem yb_nb : ∀ ot, ot < 27 → yb_M.1 93 ot = nI (zs_nb ot) := by decide +kernel
set_option maxRecDepth 100000 in
theorem yb_num : yb_M.1 30 2 = 0 ∧ yb_M.1 36 1 = 0 ∧ yb_M.1 0 8 = 0 ∧ yb_M.1 1 1 = 0 ∧ yb_M.1 19 7 = 0 ∧ yb_M.1 0 13 = 1 ∧ yb_M.1 0 15 = -1 := by decide +kernel
set_option maxRecDepth 100000 in
theorem yb_num2 : yb_M.1 133 1 = 0 ∧ yb_M.1 133 2 = 0 ∧ yb_M.1 133 36 = 0 ∧ yb_M.1 133 8 = 0 ∧ yb_M.1 133 17 = 0 ∧ yb_M.1 133 0 = 1 ∧ yb_M.1 133 3 = 0 ∧ yb_M.1 133 53 = 0 := by decide +kernel
set_option maxRecDepth 100000 in
theorem yb_w : yb_M.2 0 3 = some 19 ∧ yb_M.2 3 1 = some 4 := by decide +kernel
theorem yb_first : yb_I 0 yb_M := by
  obtain ⟨a1, a2, a3, a4, a5, a6, a7⟩ := yb_num
  obtain ⟨b1, b2, b3, b4, b5, b6, b7, b8⟩ := yb_num2
  have wS : zw_S (fun v => v % 8 / 2) := fun v _ => by dsimp only; omega
  have wF : zw_F (0, (fun _ _ => 0), fun _ => 0) := ⟨Nat.zero_le _, fun f hf => absurd hf (Nat.not_lt_zero f)⟩
  have wU : zw_U 0 (0, fun _ _ => 0) := ⟨Nat.zero_le _, fun f hf => absurd hf (Nat.not_lt_zero f)⟩
  have wQ : zw_Q (false, fun _ => 0) := fun z => absurd z (by decide)
  have wB : zw_B (0, fun _ => 0) := ⟨Nat.zero_le _, fun f hf => absurd hf (Nat.not_lt_zero f)⟩
  have wL : zw_L (0, (fun _ => (0, 0, 0, 0)), fun _ => (0, 0)) := ⟨Nat.zero_le _, fun f hf => absurd hf (Nat.not_lt_zero f)⟩
  have wK : zw_K 0 (false, 0, 0, false, 0, fun _ _ => 0) := fun z => absurd z (by decide)
  refine ⟨fun i => i, 19, (0, (fun _ _ => 0), fun _ => 0), fun v => v % 8 / 2, (0, fun _ _ => 0), (false, fun _ => 0), (0, fun _ => 0), (0, (fun _ => (0, 0, 0, 0)), fun _ => (0, 0)), 1, (false, 0, 0, false, 0, fun _ _ => 0), ?_, ?_⟩
  · refine ⟨⟨yb_ok, ⟨fun i hi => ⟨yb_pi i hi, hi⟩, fun i j _ _ z => z⟩, ⟨⟨a1, fun f hf => absurd hf (Nat.not_lt_zero f)⟩, wF⟩, ⟨yb_s1, wS⟩, ⟨⟨a2, fun f hf => absurd hf (Nat.not_lt_zero f)⟩, wU⟩, ⟨a3, fun z => absurd z (by decide)⟩, wQ⟩, yb_nb, ⟨⟨a4, fun f hf => absurd hf (Nat.not_lt_zero f)⟩, wB⟩, ⟨Or.inr ⟨rfl, yb_w.1, yb_w.2⟩, ⟨a5, fun f hf => absurd hf (Nat.not_lt_zero f)⟩, wL⟩, ⟨a6, by decide⟩, ⟨fun _ => a7, fun z => absurd z (by decide)⟩, wK⟩
  · refine ⟨⟨yb_mo, ⟨⟨b1, fun f hf => absurd hf (Nat.not_lt_zero f)⟩, wF⟩, ⟨yb_s2, wS⟩, ⟨⟨b2, fun f hf => absurd hf (Nat.not_lt_zero f)⟩, wU⟩, ⟨b3, fun z => absurd z (by decide)⟩, wQ⟩, ⟨⟨b4, fun f hf => absurd hf (Nat.not_lt_zero f)⟩, wB⟩, ⟨⟨b5, fun f hf => absurd hf (Nat.not_lt_zero f)⟩, wL⟩, ⟨b6, by decide⟩, ⟨0, 0, Nat.le_refl _, Nat.le_refl _, b7, fun _ => b8, fun z => absurd z (by decide)⟩, wK⟩
theorem zOO_mono {h : zm_M} {c c' : Nat} {F : zs_F} {sp : Nat → Nat} {U : zs_U} {Q : zs_Q} {B : zs_B} {L : zs_L} {x : Nat} {K : zs_K} (hO : zOO h c F sp U Q B L x K) (hc : c ≤ c') : zOO h c' F sp U Q B L x K := by
  obtain ⟨o1, o2, o3, o4, ⟨n, m, k1, k2, k3⟩, o6⟩ := hO
  exact ⟨o1, o2, o3, o4, ⟨n, m, k1, Nat.le_trans k2 hc, k3⟩, o6⟩
theorem yb_up {d k : Nat} {T : zm_T} {j : Nat} {as : List zm_V} {h : zm_M} {R : zm_R} (hc : zm_C (d + k) T j as h R) (hk : k ≤ 20) : zm_C (d + 20) T j as h R := hc.mono (by omega) (fun _ _ z => z)
/-- what both do, and that they answer alike -/
def yb_B (d c j1 j2 : Nat) (as : List zm_V) (h : zm_M) : Prop := zm_C (d + 20) TT j1 (.inr (some 0) :: as) h (fun r h1 => ∃ v, r = some (.inl v) ∧ zm_C (d + 20) TT j2 (.inr (some 133) :: as) h1 (fun r2 h2 => r2 = some (.inl v) ∧ yb_I (c + 1) h2))
