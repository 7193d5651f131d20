/-! bits of ints -/
def bt (x : Int32) (i : Nat) : Bool := x.toBitVec.getLsbD i
theorem b_ext {x y : Int32} (h : ∀ i, i < 32 → bt x i = bt y i) : x = y := Int32.toBitVec_inj.mp (BitVec.eq_of_getLsbD_eq (fun i hi => h i hi))
theorem b_or (x y : Int32) (i : Nat) : bt (x ||| y) i = (bt x i || bt y i) := by unfold bt; rw [Int32.toBitVec_or, BitVec.getLsbD_or]
theorem b_and (x y : Int32) (i : Nat) : bt (x &&& y) i = (bt x i && bt y i) := by unfold bt; rw [Int32.toBitVec_and, BitVec.getLsbD_and]
theorem b_xor (x y : Int32) (i : Nat) : bt (x ^^^ y) i = (bt x i ^^ bt y i) := by unfold bt; rw [Int32.toBitVec_xor, BitVec.getLsbD_xor]
theorem b_big {x : Int32} {i : Nat} (h : 32 ≤ i) : bt x i = false := BitVec.getLsbD_of_ge _ _ h
theorem b_255 (i : Nat) : bt 255 i = decide (i < 8) := by
  rcases Nat.lt_or_ge i 32 with h | h
  · exact (by decide +kernel : ∀ i, i < 32 → bt 255 i = decide (i < 8)) i h
  · rw [b_big h, decide_eq_false (by omega)]
theorem b_65535 (i : Nat) : bt 65535 i = decide (i < 16) := by
  rcases Nat.lt_or_ge i 32 with h | h
  · exact (by decide +kernel : ∀ i, i < 32 → bt 65535 i = decide (i < 16)) i h
  · rw [b_big h, decide_eq_false (by omega)]
theorem b_m1 : ∀ i, i < 32 → bt (-1) i = true := by decide +kernel
theorem b_0 (i : Nat) : bt 0 i = false := BitVec.getLsbD_zero
theorem s_l : ∀ n, n < 32 → ((nI n &&& 31).toBitVec.smod 32).toNat = n := by decide +kernel
theorem s_u : ∀ n, n < 32 → (((nI n).toUInt32 &&& Int32.toUInt32 31).toBitVec % 32).toNat = n := by decide +kernel
theorem b_shl (n : Nat) (hn : n < 32) (x : Int32) {i : Nat} (hi : i < 32) : bt (x <<< (nI n &&& 31)) i = (decide (n ≤ i) && bt x (i - n)) := by
  unfold bt
  rw [Int32.toBitVec_shiftLeft]
  show (x.toBitVec <<< ((nI n &&& 31).toBitVec.smod 32).toNat).getLsbD i = _
  rw [s_l n hn, BitVec.getLsbD_shiftLeft]
  rcases Nat.lt_or_ge i n with h | h
  · simp [h, Nat.not_le.mpr h]
  · simp [hi, h, Nat.not_lt.mpr h]
theorem b_ushr (n : Nat) (hn : n < 32) (x : Int32) (i : Nat) : bt ((x.toUInt32 >>> ((nI n).toUInt32 &&& Int32.toUInt32 31)).toInt32) i = bt x (n + i) := by
  show (x.toUInt32 >>> ((nI n).toUInt32 &&& Int32.toUInt32 31)).toBitVec.getLsbD i = x.toUInt32.toBitVec.getLsbD (n + i)
  rw [UInt32.toBitVec_shiftRight]
  show (x.toUInt32.toBitVec >>> (((nI n).toUInt32 &&& Int32.toUInt32 31).toBitVec % 32).toNat).getLsbD i = _
  rw [s_u n hn, BitVec.getLsbD_ushiftRight]
theorem b_sshr (n : Nat) (hn : n < 32) (x : Int32) {i : Nat} (hi : i < 32) : bt (x >>> (nI n &&& 31)) i = if n + i < 32 then bt x (n + i) else bt x 31 := by
  unfold bt
  rw [Int32.toBitVec_shiftRight]
  show (x.toBitVec.sshiftRight ((nI n &&& 31).toBitVec.smod 32).toNat).getLsbD i = _
  rw [s_l n hn, BitVec.getLsbD_sshiftRight, BitVec.msb_eq_getLsbD_last]
  simp [hi]
theorem bt_nI {x i : Nat} (hi : i < 32) : bt (nI x) i = x.testBit i := by
  unfold bt nI
  rw [Int32.toBitVec_ofNat', BitVec.getLsbD_ofNat]
  simp [hi]
theorem zn_shr {x v : Nat} (hx : x < 2 ^ 31) (hv : v < 32) : nI x >>> (nI v &&& 31) = nI (x / 2 ^ v) := by
  apply b_ext
  intro i hi
  rw [b_sshr v hv _ hi, bt_nI hi, Nat.testBit_div_two_pow]
  split
  · next q => rw [bt_nI q, Nat.add_comm]
  · next q =>
    rw [bt_nI (by decide), Nat.testBit_lt_two_pow hx, Nat.testBit_lt_two_pow (Nat.lt_of_lt_of_le hx (Nat.pow_le_pow_right (by decide) (by omega)))]
theorem zn_s1 : ∀ v, v < 31 → (1 : Int32) <<< (nI v &&& 31) = nI (2 ^ v) := by decide +kernel
theorem zn_and1 (x : Nat) : nI x &&& 1 = nI (x % 2) := by
  rw [show (1 : Int32) = nI 1 from rfl, zn_and, Nat.and_one_is_mod]
theorem zn_bitN {x v : Nat} (hx : x < 2 ^ 31) (hv : v < 32) : (nI x >>> (nI v &&& 31) &&& 1 = 0) = (x.testBit v = false) := by
  rw [zn_shr hx hv, zn_and1, zn_z (by omega), zn_tb]
  apply propext
  simp
theorem zn_bitM {x v : Nat} (hx : x < 2 ^ 31) (hv : v < 32) : (nI x >>> (nI v &&& 31) &&& 1 = 1) = (x.testBit v = true) := by
  rw [zn_shr hx hv, zn_and1, show (1 : Int32) = nI 1 from rfl, zn_eq (by omega) (by decide), zn_tb]
  apply propext
  simp
/-! groups of the lattice's nodes -/
def zs_lr (F : zs_F) (r : Nat) : Nat → Nat
  | 0 => 0
  | f + 1 => if 8 * F.2.1 f 0 + F.2.1 f 1 = r then zs_lr F r f ||| 2 ^ F.2.1 f 2 else zs_lr F r f
theorem zn_or256 {x y : Nat} (hx : x < 256) (hy : y < 256) : x ||| y < 256 := Nat.or_lt_two_pow (n := 8) hx hy
theorem zn_p256 {v : Nat} (h : v < 8) : 2 ^ v < 256 := show 2 ^ v < 2 ^ 8 from Nat.pow_lt_pow_right (by decide) h
theorem zs_lr_lt {F : zs_F} (hw : zw_F F) (r : Nat) : ∀ f, f ≤ F.1 → zs_lr F r f < 256
  | 0, _ => show (0 : Nat) < 256 by decide
  | f + 1, h => by
    have ih := zs_lr_lt hw r f (by omega)
    rw [zs_lr]
    split
    · exact zn_or256 ih (zn_p256 (zw_F_at hw (show f < F.1 by omega)).2.2.1)
    · exact ih
theorem zs_lr_tb (F : zs_F) (r c : Nat) : ∀ f, (zs_lr F r f).testBit c = true ↔ ∃ g, g < f ∧ 8 * F.2.1 g 0 + F.2.1 g 1 = r ∧ F.2.1 g 2 = c
  | 0 => by simp [zs_lr]
  | f + 1 => by
    have ih := zs_lr_tb F r c f
    rw [zs_lr]
    split
    · next e =>
      rw [Nat.testBit_or, Nat.testBit_two_pow, Bool.or_eq_true, ih, decide_eq_true_eq]
      constructor
      · rintro (⟨g, h1, h2⟩ | h)
        · exact ⟨g, by omega, h2⟩
        · exact ⟨f, by omega, e, h⟩
      · rintro ⟨g, h1, h2, h3⟩
        by_cases hg : g = f
        · subst hg; exact Or.inr h3
        · exact Or.inl ⟨g, by omega, h2, h3⟩
    · next e =>
      rw [ih]
      constructor
      · rintro ⟨g, h1, h2⟩; exact ⟨g, by omega, h2⟩
      · rintro ⟨g, h1, h2, h3⟩
        by_cases hg : g = f
        · subst hg; exact absurd h2 e
        · exact ⟨g, by omega, h2, h3⟩
def zs_nu (sp : Nat → Nat) (side lev x : Nat) : Nat → Nat
  | 0 => 0
  | v + 1 => if x.testBit v = true then zs_nu sp side lev x v ||| 2 ^ zs_num sp side lev v else zs_nu sp side lev x v
theorem zs_nu_lt {sp : Nat → Nat} (hs : zw_S sp) {side : Nat} (h1 : side < 3) (lev x : Nat) : ∀ v, v ≤ 8 → zs_nu sp side lev x v < 256
  | 0, _ => show (0 : Nat) < 256 by decide
  | v + 1, h => by
    have ih := zs_nu_lt hs h1 lev x v (by omega)
    rw [zs_nu]
    split
    · exact zn_or256 ih (zn_p256 (zs_num_lt hs h1 (by omega)))
    · exact ih
theorem zs_nu_tb (sp : Nat → Nat) (side lev x n : Nat) : ∀ v, (zs_nu sp side lev x v).testBit n = true ↔ ∃ u, u < v ∧ x.testBit u = true ∧ zs_num sp side lev u = n
  | 0 => by simp [zs_nu]
  | v + 1 => by
    have ih := zs_nu_tb sp side lev x n v
    rw [zs_nu]
    split
    · next e =>
      rw [Nat.testBit_or, Nat.testBit_two_pow, Bool.or_eq_true, ih, decide_eq_true_eq]
      constructor
      · rintro (⟨g, h1, h2⟩ | h)
        · exact ⟨g, by omega, h2⟩
        · exact ⟨v, by omega, e, h⟩
      · rintro ⟨g, h1, h2, h3⟩
        by_cases hg : g = v
        · subst hg; exact Or.inr h3
        · exact Or.inl ⟨g, by omega, h2, h3⟩
    · next e =>
      rw [ih]
      constructor
      · rintro ⟨g, h1, h2⟩; exact ⟨g, by omega, h2⟩
      · rintro ⟨g, h1, h2, h3⟩
        by_cases hg : g = v
        · subst hg; exact absurd h2 e
        · exact ⟨g, by omega, h2, h3⟩
def zs_lm (sp : Nat → Nat) (la lb : Nat) (rl : Nat → Nat) (m : Nat) : Nat → Nat
  | 0 => 0
  | r + 1 => if rl r ≠ 0 ∧ 8 * zs_num sp 0 la (r / 8) + zs_num sp 1 lb (r % 8) = m then zs_lm sp la lb rl m r ||| rl r else zs_lm sp la lb rl m r
theorem zs_lm_lt {sp : Nat → Nat} {la lb : Nat} {rl : Nat → Nat} (hr : ∀ r, rl r < 256) (m : Nat) : ∀ r, zs_lm sp la lb rl m r < 256
  | 0 => show (0 : Nat) < 256 by decide
  | r + 1 => by
    have ih := zs_lm_lt (sp := sp) (la := la) (lb := lb) hr m r
    rw [zs_lm]
    split
    · exact zn_or256 ih (hr r)
    · exact ih
theorem zs_lm_tb (sp : Nat → Nat) (la lb : Nat) (rl : Nat → Nat) (m n : Nat) : ∀ r, (zs_lm sp la lb rl m r).testBit n = true ↔ ∃ q, q < r ∧ (rl q).testBit n = true ∧ 8 * zs_num sp 0 la (q / 8) + zs_num sp 1 lb (q % 8) = m
  | 0 => by simp [zs_lm]
  | r + 1 => by
    have ih := zs_lm_tb sp la lb rl m n r
    rw [zs_lm]
    split
    · next e =>
      rw [Nat.testBit_or, Bool.or_eq_true, ih]
      constructor
      · rintro (⟨g, h1, h2⟩ | h)
        · exact ⟨g, by omega, h2⟩
        · exact ⟨r, by omega, h, e.2⟩
      · rintro ⟨g, h1, h2, h3⟩
        by_cases hg : g = r
        · subst hg; exact Or.inr h2
        · exact Or.inl ⟨g, by omega, h2, h3⟩
    · next e =>
      rw [ih]
      constructor
      · rintro ⟨g, h1, h2⟩; exact ⟨g, by omega, h2⟩
      · rintro ⟨g, h1, h2, h3⟩
        by_cases hg : g = r
        · subst hg
          refine absurd ⟨fun z => ?_, h3⟩ e
          rw [z] at h2
          simp at h2
        · exact ⟨g, by omega, h2, h3⟩
def zs_pop (x : Nat) : Nat := zs_some (fun i => if x.testBit i = true then 1 else 0) 8
theorem zs_some_app (f : Nat → Nat) (m : Nat) : ∀ n, zs_some f (m + n) = zs_some f m + zs_some (fun i => f (m + i)) n
  | 0 => rfl
  | n + 1 => by
    show zs_some f ((m + n) + 1) = _
    rw [zs_some, zs_some_app f m n, zs_some, Nat.add_assoc]
theorem zs_pops_eq {g f : Nat → Nat} : ∀ m, (∀ j, j < m → ∀ i, i < 8 → ((g j).testBit i = true ↔ f (8 * j + i) ≠ 0)) → zs_cum (fun j => zs_pop (g j)) m = zs_some f (8 * m)
  | 0, _ => rfl
  | m + 1, h => by
    rw [zs_cum, zs_pops_eq m (fun j hj => h j (by omega)), Nat.mul_succ, zs_some_app]
    congr 1
    refine zs_some_congr 8 (fun i hi => ?_)
    have := h m (by omega) i hi
    by_cases e : (g m).testBit i = true
    · simp [e, this.mp e]
    · have e2 : f (8 * m + i) = 0 := Classical.byContradiction (fun z => e (this.mpr z))
      simp [e, e2]
theorem zs_cnt_pos {sp row : Nat → Nat} {F : zs_F} {lo k : Nat} : ∀ n, zs_cnt sp row F lo n k ≠ 0 ↔ ∃ f, f < n ∧ zs_let row (F.2.1 (lo + f)) = true ∧ zs_key sp row (F.2.1 (lo + f)) = k
  | 0 => by simp [zs_cnt]
  | n + 1 => by
    have ih := zs_cnt_pos (sp := sp) (row := row) (F := F) (lo := lo) (k := k) n
    rw [zs_cnt]
    split
    · next e =>
      refine ⟨fun _ => ⟨n, by omega, e⟩, fun _ => by omega⟩
    · next e =>
      rw [Nat.add_zero, ih]
      constructor
      · rintro ⟨g, h1, h2⟩; exact ⟨g, by omega, h2⟩
      · rintro ⟨g, h1, h2⟩
        by_cases hg : g = n
        · subst hg; exact absurd h2 e
        · exact ⟨g, by omega, h2⟩
/-- a node as a row: its levels, all let -/
def zs_nr (nd : Nat) : Nat → Nat := fun k => if k < 3 then nd / 3 ^ (2 - k) % 3 else 255
theorem zw_R_nr {nd : Nat} (h : nd < 27) : zw_R (zs_nr nd) := by
  have e : ∀ nd, nd < 27 → (zs_nr nd 0 ≤ 2 ∧ zs_nr nd 1 ≤ 2 ∧ zs_nr nd 2 ≤ 2 ∧ zs_nr nd 3 < 256 ∧ zs_nr nd 4 < 256 ∧ zs_nr nd 5 < 256) := by decide +kernel
  exact e nd h
theorem zs_let_nr {nd : Nat} {va : Nat → Nat} (h0 : va 0 < 8) (h1 : va 1 < 8) (h2 : va 2 < 8) : zs_let (zs_nr nd) va = true := by
  have e : ∀ v, v < 8 → Nat.testBit 255 v = true := by decide
  unfold zs_let
  rw [show zs_nr nd 3 = 255 from rfl, show zs_nr nd 4 = 255 from rfl, show zs_nr nd 5 = 255 from rfl, e _ h0, e _ h1, e _ h2]
  rfl
/-- how many groups a node has -/
def zs_gn (sp : Nat → Nat) (F : zs_F) (nd : Nat) : Nat := zs_grp sp (zs_nr nd) F F.1
theorem zs_gn_eq {sp : Nat → Nat} {F : zs_F} (hs : zw_S sp) (hw : zw_F F) (nd : Nat) : zs_cum (fun m => zs_pop (zs_lm sp (zs_nr nd 0) (zs_nr nd 1) (fun r => zs_nu sp 2 (zs_nr nd 2) (zs_lr F r F.1) 8) m 64)) 64 = zs_gn sp F nd := by
  unfold zs_gn zs_grp
  refine zs_pops_eq (f := zs_cnt sp (zs_nr nd) F 0 F.1) 64 (fun m hm n hn => ?_)
  rw [zs_lm_tb, zs_cnt_pos]
  constructor
  · rintro ⟨q, hq, h1, h2⟩
    rw [zs_nu_tb] at h1
    obtain ⟨v, hv, h3, h4⟩ := h1
    rw [zs_lr_tb] at h3
    obtain ⟨f, hf, h5, h6⟩ := h3
    obtain ⟨a, b, c, -, -⟩ := zw_F_at hw hf
    refine ⟨f, hf, ?_, ?_⟩
    · rw [Nat.zero_add]
      exact zs_let_nr a b c
    · rw [Nat.zero_add]
      unfold zs_key
      have e1 : q / 8 = F.2.1 f 0 := by omega
      have e2 : q % 8 = F.2.1 f 1 := by omega
      rw [e1, e2] at h2
      rw [h6, h4]
      omega
  · rintro ⟨f, hf, h1, h2⟩
    rw [Nat.zero_add] at h1 h2
    obtain ⟨a, b, c, -, -⟩ := zw_F_at hw hf
    have n2 := zs_num_lt (lev := zs_nr nd 2) hs (show 2 < 3 by decide) c
    unfold zs_key at h2
    refine ⟨8 * F.2.1 f 0 + F.2.1 f 1, by omega, ?_, ?_⟩
    · rw [zs_nu_tb]
      refine ⟨F.2.1 f 2, c, ?_, by omega⟩
      rw [zs_lr_tb]
      exact ⟨f, hf, rfl, rfl⟩
    · rw [show (8 * F.2.1 f 0 + F.2.1 f 1) / 8 = F.2.1 f 0 by omega, show (8 * F.2.1 f 0 + F.2.1 f 1) % 8 = F.2.1 f 1 by omega]
      omega
theorem zs_gn_le (sp : Nat → Nat) (F : zs_F) (nd : Nat) : zs_gn sp F nd ≤ 512 := zs_grp_le _ _ _ _
theorem zs_pop_le (x : Nat) : zs_pop x ≤ 8 := zs_some_le _ 8
set_option maxHeartbeats 4000000 in
set_option maxRecDepth 100000 in
theorem k_bitCount {d : Nat} {h : zm_M} {R : zm_R} {x : Nat} (hx : x < 256) (hR : R (some (.inl (nI (zs_pop x)))) h) : zm_C (d + 1) TT m_JI_bitCount_0f7a4 [.inl (nI x)] h R := by
  have hR' : ∀ y, y = nI (zs_pop x) → R (some (.inl y)) h := fun y e => by rw [e]; exact hR
  refine st_JI_bitCount_0f7a4 [] 9 ?_
  simp only [↓zq, ↓reduceIte, zr_si2, zr_sr1, zr_cp2, zr_tl, zr_tn, shq, List.contains_nil, List.contains_cons, Nat.reduceBEq, Bool.false_or, Bool.or_false, Bool.true_or, Bool.false_eq_true, if_false, if_true, true_and, and_true, List.set_cons_zero, List.set_cons_succ, List.length_cons, List.length_nil, Nat.reduceAdd, Nat.reduceLeDiff, Nat.le_refl, Nat.zero_le, true_or, or_true, zn_cl, ↓jj_JI_bitCount_0f7a4]
  refine hR' _ ?_
  clear hR hR'
  revert x
  decide +kernel
/-! Shape.numbersOf, Lattice -/
set_option maxHeartbeats 4000000 in
set_option maxRecDepth 100000 in
theorem k_Shape_numbersOf {d : Nat} {h : zm_M} {R : zm_R} {a side lev x : Nat} {sp : Nat → Nat} (hk : zk_shp h.2 a) (hw : zw_S sp) (hsp : ∀ v, v < 24 → h.1 (a + 1) v = nI (sp v)) (h1 : side < 3) (h2 : lev ≤ 2) (hx : x < 256) (hR : R (some (.inl (nI (zs_nu sp side lev x 8)))) h) : zm_C (d + 3) TT m_Shape_numbersOf [.inr (some a), .inl (nI side), .inl (nI lev), .inl (nI x)] h R := by
  have k0 := hk.1
  have loop : ∀ (n i : Nat), i + n = 8 → zm_W (zm_md m_Shape_numbersOf) (d + 3) TT R 6 [some (.inr (some a)), some (.inl (nI side)), some (.inl (nI lev)), some (.inl (nI x)), some (.inl (nI (zs_nu sp side lev x i))), some (.inl (nI i))] [] h := by
    intro n
    induction n with
    | zero =>
      intro i hi
      have : i = 8 := by omega
      subst this
      refine zm_go g_Shape_numbersOf [6] 30 (by decide +kernel) ok_Shape_numbersOf _ rfl ?_
      simp only [↓zq, ↓reduceIte, zr_si2, zr_sr1, zr_cp2, zr_tl, zr_tn, shq, List.contains_nil, List.contains_cons, Nat.reduceBEq, Bool.false_or, Bool.or_false, Bool.true_or, Bool.false_eq_true, if_false, if_true, true_and, and_true, List.set_cons_zero, List.set_cons_succ, List.length_cons, List.length_nil, Nat.reduceAdd, Nat.reduceLeDiff, Nat.le_refl, Nat.zero_le, true_or, or_true, zn_cl, ↓jj_Shape_numbersOf]
      exact ⟨fun _ => hR, fun z => absurd (Int32.le_refl _) z⟩
    | succ n ih =>
      intro i hi
      have ih := ih (i + 1) (by omega)
      rw [zs_nu] at ih
      refine zm_go g_Shape_numbersOf [6] 30 (by decide +kernel) ok_Shape_numbersOf _ rfl ?_
      simp only [↓zq, ↓reduceIte, zr_si2, zr_sr1, zr_cp2, zr_tl, zr_tn, shq, List.contains_nil, List.contains_cons, Nat.reduceBEq, Bool.false_or, Bool.or_false, Bool.true_or, Bool.false_eq_true, if_false, if_true, true_and, and_true, List.set_cons_zero, List.set_cons_succ, List.length_cons, List.length_nil, Nat.reduceAdd, Nat.reduceLeDiff, Nat.le_refl, Nat.zero_le, true_or, or_true, zn_cl, ↓jj_Shape_numbersOf, k0, nI_1]
      rw [zn_bitN (by omega) (by omega)]
      refine ⟨fun z => absurd z (nI_ge (b := 8) (by omega) (by decide)), fun _ => ⟨fun z => ?_, fun z => ?_⟩⟩
      · rw [if_neg (by rw [z]; decide)] at ih
        exact ih
      · refine k_Shape_numberOf hk hsp h1 h2 (by omega) ?_
        have hn := zs_num_lt (lev := lev) hw h1 (show i < 8 by omega)
        simp only [↓zq, ↓reduceIte, zr_si2, zr_sr1, zr_cp2, zr_tl, zr_tn, shq, List.contains_nil, List.contains_cons, Nat.reduceBEq, Bool.false_or, Bool.or_false, Bool.true_or, Bool.false_eq_true, if_false, if_true, true_and, and_true, List.set_cons_zero, List.set_cons_succ, List.length_cons, List.length_nil, Nat.reduceAdd, Nat.reduceLeDiff, Nat.le_refl, Nat.zero_le, true_or, or_true, zn_cl, ↓jj_Shape_numbersOf, k0, nI_1]
        rw [zn_s1 _ (by omega), zn_or]
        rw [if_pos (by simpa using z)] at ih
        exact ih
  refine st_Shape_numbersOf [6] 9 ?_
  simp only [↓zq, ↓reduceIte, zr_si2, zr_sr1, zr_cp2, zr_tl, zr_tn, shq, List.contains_nil, List.contains_cons, Nat.reduceBEq, Bool.false_or, Bool.or_false, Bool.true_or, Bool.false_eq_true, if_false, if_true, true_and, and_true, List.set_cons_zero, List.set_cons_succ, List.length_cons, List.length_nil, Nat.reduceAdd, Nat.reduceLeDiff, Nat.le_refl, Nat.zero_le, true_or, or_true, zn_cl, ↓jj_Shape_numbersOf]
  exact loop 8 0 rfl
theorem zp_91 {P : Nat → Nat → Option Nat} (hp : zp_ok P) : P 91 0 = some 92 ∧ P 91 1 = some 93 ∧ P 91 2 = some 94 ∧ P 91 3 = some 95 ∧ P 91 5 = some 96 ∧ P 91 6 = some 97 ∧ P 91 7 = some 98 := by
  refine ⟨?_, ?_, ?_, ?_, ?_, ?_, ?_⟩ <;> simp only [hp]
theorem zn_s3 {r : Nat} (h : r < 1024) : nI r >>> ((3 : Int32) &&& 31) = nI (r / 8) := zn_shr (v := 3) (by omega) (by decide)
theorem zn_a7 (r : Nat) : nI r &&& 7 = nI (r % 8) := by
  rw [show (7 : Int32) = nI 7 from rfl, zn_and, show 7 = 2 ^ 3 - 1 from rfl, Nat.and_two_pow_sub_one_eq_mod]
theorem zn_ab : ∀ a, a < 8 → ∀ b, b < 8 → (nI a <<< ((3 : Int32) &&& 31) ||| nI b) &&& 63 = nI (8 * a + b) := by decide +kernel
set_option maxHeartbeats 4000000 in
set_option maxRecDepth 100000 in
theorem k_Latt_mergedGroups {d : Nat} {h : zm_M} {R : zm_R} {nd : Nat} {sp rl : Nat → Nat} (hp : zp_ok h.2) (hnd : nd < 27) (hS : zc_S h.1 sp) (hs : zw_S sp) (hr : ∀ r, r < 64 → h.1 97 r = nI (rl r)) (hl : ∀ r, rl r < 256) (hR : ∀ h' : zm_M, h'.2 = h.2 → (∀ c, c ≠ 98 → h'.1 c = h.1 c) → R (some (.inl (nI (zs_cum (fun m => zs_pop (zs_lm sp (zs_nr nd 0) (zs_nr nd 1) rl m 64)) 64)))) h') : zm_C (d + 3) TT m_Latt_mergedGroups [.inr (some 91), .inl (nI nd), .inr (some 28)] h R := by
  obtain ⟨p0, p1, p2, p3, p5, p6, p7⟩ := zp_91 hp
  have hnl := zw_R_nr hnd
  have cl : ∀ m, zs_cum (fun m => zs_pop (zs_lm sp (zs_nr nd 0) (zs_nr nd 1) rl m 64)) m ≤ 8 * m := by
    intro m
    induction m with
    | zero => exact Nat.le_refl 0
    | succ m ih =>
      have := zs_pop_le (zs_lm sp (zs_nr nd 0) (zs_nr nd 1) rl m 64)
      rw [zs_cum]
      omega
  have loop2 : ∀ (n i : Nat), i + n = 64 → ∀ g : zm_M, g.2 = h.2 → (∀ c, c ≠ 98 → g.1 c = h.1 c) → (∀ m, m < 64 → g.1 98 m = nI (zs_lm sp (zs_nr nd 0) (zs_nr nd 1) rl m 64)) → ∀ o, zm_W (zm_md m_Latt_mergedGroups) (d + 3) TT R 91 [some (.inr (some 91)), some (.inl (nI nd)), some (.inr (some 28)), some (.inl (nI (zs_cum (fun m => zs_pop (zs_lm sp (zs_nr nd 0) (zs_nr nd 1) rl m 64)) i))), some (.inl (nI i)), o] [] g := by
    intro n
    induction n with
    | zero =>
      intro i hi g e1 e2 e3 o
      have : i = 64 := by omega
      subst this
      have := hR g e1 e2
      generalize zs_cum (fun m => zs_pop (zs_lm sp (zs_nr nd 0) (zs_nr nd 1) rl m 64)) 64 = x at this
      refine zm_go g_Latt_mergedGroups [91] 30 (by decide +kernel) ok_Latt_mergedGroups _ rfl ?_
      simp only [↓zq, ↓reduceIte, zr_si2, zr_sr1, zr_cp2, zr_tl, zr_tn, shq, List.contains_nil, List.contains_cons, Nat.reduceBEq, Bool.false_or, Bool.or_false, Bool.true_or, Bool.false_eq_true, if_false, if_true, true_and, and_true, List.set_cons_zero, List.set_cons_succ, List.length_cons, List.length_nil, Nat.reduceAdd, Nat.reduceLeDiff, Nat.le_refl, Nat.zero_le, true_or, or_true, zn_cl, ↓jj_Latt_mergedGroups]
      exact ⟨fun _ => this, fun z => absurd (Int32.le_refl _) z⟩
    | succ n ih =>
      intro i hi g e1 e2 e3 o
      have ih := ih (i + 1) (by omega) g e1 e2 e3 o
      rw [zs_cum] at ih
      have q7 : g.2 91 7 = some 98 := by rw [e1]; exact p7
      have v1 : vp_in (nI i) 64 := vp_in_nI (by omega) (by decide)
      have c1 := nI_clamp (show i < 2 ^ 31 by omega)
      have b1 := e3 i (by omega)
      refine zm_go g_Latt_mergedGroups [91] 30 (by decide +kernel) ok_Latt_mergedGroups _ rfl ?_
      simp only [↓zq, ↓reduceIte, zr_si2, zr_sr1, zr_cp2, zr_tl, zr_tn, shq, List.contains_nil, List.contains_cons, Nat.reduceBEq, Bool.false_or, Bool.or_false, Bool.true_or, Bool.false_eq_true, if_false, if_true, true_and, and_true, List.set_cons_zero, List.set_cons_succ, List.length_cons, List.length_nil, Nat.reduceAdd, Nat.reduceLeDiff, Nat.le_refl, Nat.zero_le, true_or, or_true, zn_cl, ↓jj_Latt_mergedGroups, q7, v1, c1, b1, nI_1]
      refine ⟨fun z => absurd z (nI_ge (b := 64) (by omega) (by decide)), fun _ => ?_⟩
      refine k_bitCount (zs_lm_lt hl _ _) ?_
      simp only [↓zq, ↓reduceIte, zr_si2, zr_sr1, zr_cp2, zr_tl, zr_tn, shq, List.contains_nil, List.contains_cons, Nat.reduceBEq, Bool.false_or, Bool.or_false, Bool.true_or, Bool.false_eq_true, if_false, if_true, true_and, and_true, List.set_cons_zero, List.set_cons_succ, List.length_cons, List.length_nil, Nat.reduceAdd, Nat.reduceLeDiff, Nat.le_refl, Nat.zero_le, true_or, or_true, zn_cl, ↓jj_Latt_mergedGroups, nI_1, nI_add]
      exact ih
  have loop1 : ∀ (n i : Nat), i + n = 64 → ∀ g : zm_M, g.2 = h.2 → (∀ c, c ≠ 98 → g.1 c = h.1 c) → (∀ m, m < 64 → g.1 98 m = nI (zs_lm sp (zs_nr nd 0) (zs_nr nd 1) rl m i)) → ∀ o1 o2, zm_W (zm_md m_Latt_mergedGroups) (d + 3) TT R 10 [some (.inr (some 91)), some (.inl (nI nd)), some (.inr (some 28)), some (.inl (nI i)), o1, o2] [] g := by
    intro n
    induction n with
    | zero =>
      intro i hi g e1 e2 e3 o1 o2
      have : i = 64 := by omega
      subst this
      refine zm_go g_Latt_mergedGroups [10, 91] 30 (by decide +kernel) ok_Latt_mergedGroups _ rfl ?_
      simp only [↓zq, ↓reduceIte, zr_si2, zr_sr1, zr_cp2, zr_tl, zr_tn, shq, List.contains_nil, List.contains_cons, Nat.reduceBEq, Bool.false_or, Bool.or_false, Bool.true_or, Bool.false_eq_true, if_false, if_true, true_and, and_true, List.set_cons_zero, List.set_cons_succ, List.length_cons, List.length_nil, Nat.reduceAdd, Nat.reduceLeDiff, Nat.le_refl, Nat.zero_le, true_or, or_true, zn_cl, ↓jj_Latt_mergedGroups]
      exact ⟨fun _ => loop2 64 0 rfl g e1 e2 e3 o2, fun z => absurd (Int32.le_refl _) z⟩
    | succ n ih =>
      intro i hi g e1 e2 e3 o1 o2
      have ih := ih (i + 1) (by omega)
      have q7 : g.2 91 7 = some 98 := by rw [e1]; exact p7
      have q6 : g.2 91 6 = some 97 := by rw [e1]; exact p6
      have v1 : vp_in (nI i) 64 := vp_in_nI (by omega) (by decide)
      have c1 := nI_clamp (show i < 2 ^ 31 by omega)
      have b1 : g.1 97 i = nI (rl i) := by rw [e2 97 (by decide)]; exact hr i (by omega)
      have li := hl i
      have gS : ∀ v, v < 24 → g.1 29 v = nI (sp v) := fun v hv => by rw [e2 29 (by decide)]; exact hS v hv
      have gk : zk_shp g.2 28 := by rw [e1]; exact zk_shp28 hp
      refine zm_go g_Latt_mergedGroups [10, 91] 30 (by decide +kernel) ok_Latt_mergedGroups _ rfl ?_
      simp only [↓zq, ↓reduceIte, zr_si2, zr_sr1, zr_cp2, zr_tl, zr_tn, shq, List.contains_nil, List.contains_cons, Nat.reduceBEq, Bool.false_or, Bool.or_false, Bool.true_or, Bool.false_eq_true, if_false, if_true, true_and, and_true, List.set_cons_zero, List.set_cons_succ, List.length_cons, List.length_nil, Nat.reduceAdd, Nat.reduceLeDiff, Nat.le_refl, Nat.zero_le, true_or, or_true, zn_cl, ↓jj_Latt_mergedGroups, q6, q7, v1, c1, b1, nI_1]
      rw [zn_z (by omega)]
      refine ⟨fun z => absurd z (nI_ge (b := 64) (by omega) (by decide)), fun _ => ⟨fun z => ?_, fun z => ?_⟩⟩
      · refine ih g e1 e2 (fun m hm => ?_) _ _
        rw [zs_lm, if_neg (fun y => y.1 z)]
        exact e3 m hm
      · refine k_KS_levelIn (s := 0) hnd (by decide) ?_
        simp only [↓zq, ↓reduceIte, zr_si2, zr_sr1, zr_cp2, zr_tl, zr_tn, shq, List.contains_nil, List.contains_cons, Nat.reduceBEq, Bool.false_or, Bool.or_false, Bool.true_or, Bool.false_eq_true, if_false, if_true, true_and, and_true, List.set_cons_zero, List.set_cons_succ, List.length_cons, List.length_nil, Nat.reduceAdd, Nat.reduceLeDiff, Nat.le_refl, Nat.zero_le, true_or, or_true, zn_cl, ↓jj_Latt_mergedGroups, q6, q7, v1, c1, b1, nI_1]
        rw [zn_s3 (by omega)]
        refine k_Shape_numberOf (side := 0) (lev := zs_nr nd 0) gk gS (by decide) hnl.1 (show i / 8 < 8 by omega) ?_
        simp only [↓zq, ↓reduceIte, zr_si2, zr_sr1, zr_cp2, zr_tl, zr_tn, shq, List.contains_nil, List.contains_cons, Nat.reduceBEq, Bool.false_or, Bool.or_false, Bool.true_or, Bool.false_eq_true, if_false, if_true, true_and, and_true, List.set_cons_zero, List.set_cons_succ, List.length_cons, List.length_nil, Nat.reduceAdd, Nat.reduceLeDiff, Nat.le_refl, Nat.zero_le, true_or, or_true, zn_cl, ↓jj_Latt_mergedGroups, q6, q7, v1, c1, b1, nI_1]
        refine k_KS_levelIn (s := 1) hnd (by decide) ?_
        simp only [↓zq, ↓reduceIte, zr_si2, zr_sr1, zr_cp2, zr_tl, zr_tn, shq, List.contains_nil, List.contains_cons, Nat.reduceBEq, Bool.false_or, Bool.or_false, Bool.true_or, Bool.false_eq_true, if_false, if_true, true_and, and_true, List.set_cons_zero, List.set_cons_succ, List.length_cons, List.length_nil, Nat.reduceAdd, Nat.reduceLeDiff, Nat.le_refl, Nat.zero_le, true_or, or_true, zn_cl, ↓jj_Latt_mergedGroups, q6, q7, v1, c1, b1, nI_1]
        rw [zn_a7]
        refine k_Shape_numberOf (side := 1) (lev := zs_nr nd 1) gk gS (by decide) hnl.2.1 (show i % 8 < 8 by omega) ?_
        simp only [↓zq, ↓reduceIte, zr_si2, zr_sr1, zr_cp2, zr_tl, zr_tn, shq, List.contains_nil, List.contains_cons, Nat.reduceBEq, Bool.false_or, Bool.or_false, Bool.true_or, Bool.false_eq_true, if_false, if_true, true_and, and_true, List.set_cons_zero, List.set_cons_succ, List.length_cons, List.length_nil, Nat.reduceAdd, Nat.reduceLeDiff, Nat.le_refl, Nat.zero_le, true_or, or_true, zn_cl, ↓jj_Latt_mergedGroups, q6, q7, v1, c1, b1, nI_1]
        have n0 := zs_num_lt (lev := zs_nr nd 0) hs (show 0 < 3 by decide) (show i / 8 < 8 by omega)
        have n1 := zs_num_lt (lev := zs_nr nd 1) hs (show 1 < 3 by decide) (show i % 8 < 8 by omega)
        rw [zn_ab _ n0 _ n1]
        have v2 : vp_in (nI (8 * zs_num sp 0 (zs_nr nd 0) (i / 8) + zs_num sp 1 (zs_nr nd 1) (i % 8))) 64 := vp_in_nI (by omega) (by decide)
        refine ⟨v2, ?_⟩
        rw [nI_clamp (by omega), e3 _ (by omega), zn_or]
        refine ⟨v2, ?_⟩
        refine ih _ (by exact e1) (fun c hc => ?_) (fun m hm => ?_) _ _
        · funext j
          simp only [zr_si1]
          rw [if_neg (by omega), e2 c hc]
        · simp only [zr_si1]
          rw [zs_lm]
          by_cases e : m = 8 * zs_num sp 0 (zs_nr nd 0) (i / 8) + zs_num sp 1 (zs_nr nd 1) (i % 8)
          · rw [if_pos ⟨trivial, e⟩, if_pos ⟨z, e.symm⟩, e]
          · rw [if_neg (fun y => e y.2), if_neg (fun y => e y.2.symm), e3 m hm]
  refine st_Latt_mergedGroups [10] 9 ?_
  simp only [↓zq, ↓reduceIte, zr_si2, zr_sr1, zr_cp2, zr_tl, zr_tn, shq, List.contains_nil, List.contains_cons, Nat.reduceBEq, Bool.false_or, Bool.or_false, Bool.true_or, Bool.false_eq_true, if_false, if_true, true_and, and_true, List.set_cons_zero, List.set_cons_succ, List.length_cons, List.length_nil, Nat.reduceAdd, Nat.reduceLeDiff, Nat.le_refl, Nat.zero_le, true_or, or_true, zn_cl, ↓jj_Latt_mergedGroups, p7]
  refine k_fill (n := 64) (by decide) (by decide) ?_
  simp only [↓zq, ↓reduceIte, zr_si2, zr_sr1, zr_cp2, zr_tl, zr_tn, shq, List.contains_nil, List.contains_cons, Nat.reduceBEq, Bool.false_or, Bool.or_false, Bool.true_or, Bool.false_eq_true, if_false, if_true, true_and, and_true, List.set_cons_zero, List.set_cons_succ, List.length_cons, List.length_nil, Nat.reduceAdd, Nat.reduceLeDiff, Nat.le_refl, Nat.zero_le, true_or, or_true, zn_cl, ↓jj_Latt_mergedGroups]
  refine loop1 64 0 rfl (zm_fl h 98 64 0) rfl (fun c hc => ?_) (fun m hm => ?_) none none
  · funext j
    simp only [zm_fl]
    rw [if_neg (by omega)]
  · simp only [zm_fl]
    rw [if_pos ⟨trivial, hm⟩]
    rfl
