/-! a fact comes (class) -/
theorem zs_cnt_F {sp row : Nat → Nat} {F F' : zs_F} : ∀ (n k : Nat), (∀ f, f < n → F'.2.1 f = F.2.1 f) → zs_cnt sp row F' 0 n k = zs_cnt sp row F 0 n k
  | 0, _, _ => rfl
  | n + 1, k, h => by
    unfold zs_cnt
    rw [zs_cnt_F n k (fun f hf => h f (by omega)), h (0 + n) (by omega)]
theorem zs_grp_F {sp row : Nat → Nat} {F F' : zs_F} {u : Nat} (h : ∀ f, f < u → F'.2.1 f = F.2.1 f) : zs_grp sp row F' u = zs_grp sp row F u := by
  unfold zs_grp
  exact zs_some_congr 512 (fun k _ => by rw [zs_cnt_F u k h])
theorem zs_cnt_row {sp row row' : Nat → Nat} {F : zs_F} (hr : ∀ k, k < 6 → row' k = row k) : ∀ (n k : Nat), zs_cnt sp row' F 0 n k = zs_cnt sp row F 0 n k
  | 0, _ => rfl
  | n + 1, k => by
    unfold zs_cnt
    rw [zs_cnt_row hr n k]
    unfold zs_let zs_key
    rw [hr 0 (by omega), hr 1 (by omega), hr 2 (by omega), hr 3 (by omega), hr 4 (by omega), hr 5 (by omega)]
theorem zs_grp_row {sp row row' : Nat → Nat} {F : zs_F} {u : Nat} (hr : ∀ k, k < 6 → row' k = row k) : zs_grp sp row' F u = zs_grp sp row F u := by
  unfold zs_grp
  exact zs_some_congr 512 (fun k _ => by rw [zs_cnt_row hr u k])
/-- facts with one more -/
def zs_fadd (F : zs_F) (a b c m : Nat) : zs_F := (F.1 + 1, fun f s => if f = F.1 then (if s = 0 then a else if s = 1 then b else c) else F.2.1 f s, fun f => if f = F.1 then m else F.2.2 f)
/-- summaries, one of them up to n -/
def zs_uset (U : zs_U) (s n : Nat) : zs_U := (U.1, fun r k => if r = s ∧ k = 7 then n else U.2 r k)
def zs_unew (U : zs_U) (v : Int32) (n : Nat) : zs_U := match zs_ix v U.1 with
  | none => U
  | some s => zs_uset U s n
theorem zs_fadd_o {F : zs_F} {a b c m f : Nat} (h : f < F.1) : (zs_fadd F a b c m).2.1 f = F.2.1 f ∧ (zs_fadd F a b c m).2.2 f = F.2.2 f := by
  unfold zs_fadd
  dsimp only
  refine ⟨?_, ?_⟩
  · funext s
    rw [if_neg (by omega)]
  · rw [if_neg (by omega)]
theorem zw_F_add {F : zs_F} {a b c m : Nat} (hw : zw_F F) (hn : F.1 < 240) (ha : a < 8) (hb : b < 8) (hc : c < 8) (hm : m < 100) : zw_F (zs_fadd F a b c m) := by
  refine ⟨by unfold zs_fadd; dsimp only; omega, fun f hf => ?_⟩
  rcases Nat.lt_or_ge f F.1 with z | z
  · rw [(zs_fadd_o z).1, (zs_fadd_o z).2]
    exact hw.2 f z
  · have : f = F.1 := by unfold zs_fadd at hf; dsimp only at hf; omega
    subst this
    unfold zs_fadd
    simp
    exact ⟨ha, hb, hc, hm⟩
theorem zw_U_mono {n n' : Nat} {U : zs_U} (h : n ≤ n') (hw : zw_U n U) : zw_U n' U := ⟨hw.1, fun s hs => ⟨(hw.2 s hs).1, (hw.2 s hs).2.1, (hw.2 s hs).2.2.1, Nat.le_trans (hw.2 s hs).2.2.2 h⟩⟩
theorem zw_K_mono {n n' : Nat} {K : zs_K} (h : n ≤ n') (hw : zw_K n K) : zw_K n' K := fun z => ⟨Nat.le_trans (hw z).1 h, (hw z).2⟩
theorem zc_Y_F {I : Nat → Nat → Int32} {sp : Nat → Nat} {F F' : zs_F} {a : Nat} {row : Nat → Nat} (h : ∀ f, f < row 7 → F'.2.1 f = F.2.1 f) (hY : zc_Y I sp F a row) : zc_Y I sp F' a row := by
  obtain ⟨y1, y2, y3, y4⟩ := hY
  exact ⟨y1, y2, y3, by rw [zs_grp_F h]; exact y4⟩
theorem zc_K_F {I : Nat → Nat → Int32} {sp : Nat → Nat} {F F' : zs_F} {n : Nat} {K : zs_K} (hn : ∀ f, f < n → F'.2.1 f = F.2.1 f) (hw : zw_K n K) (hK : zc_K I sp F K) : zc_K I sp F' K := by
  refine ⟨hK.1, fun z => ?_⟩
  obtain ⟨k1, k2, k3, k4⟩ := hK.2 z
  refine ⟨k1, k2, k3, fun y => ⟨(k4 y).1, fun s hs => zc_Y_F (fun f hf => hn f ?_) ((k4 y).2 s hs)⟩⟩
  have w1 := hw z
  have w2 := (w1.2.2 y).2 s hs
  omega
/-- the class's facts with one more -/
theorem zC_add {h h' : zm_M} {pi : Nat → Nat} {F : zs_F} {sp : Nat → Nat} {U : zs_U} {Q : zs_Q} {a b c m : Nat} (hC : zC h pi F sp U Q) (hn : F.1 < 240) (ha : a < 8) (hb : b < 8) (hc : c < 8) (hm : m < 100) (eh : h' = zm_si (zm_si (zm_si h 31 F.1 (nI (64 * a + 8 * b + c))) 32 F.1 (nI m)) 30 2 (nI (F.1 + 1))) : zC h' pi (zs_fadd F a b c m) sp U Q := by
  have eI : ∀ q, (q < 30 ∨ 32 < q) → h'.1 q = h.1 q := fun q hq => by
    subst eh
    funext j
    rw [zr_si1, if_neg (by omega), zr_si1, if_neg (by omega), zr_si1, if_neg (by omega)]
  obtain ⟨c1, c2, ⟨c3, c4⟩, ⟨c5, c6⟩, ⟨c7, c8⟩, c9, c10⟩ := hC
  have e2 : h'.2 = h.2 := by subst eh; rfl
  refine ⟨by rw [e2]; exact c1, by rw [e2]; exact c2, ⟨⟨?_, fun f hf => ?_⟩, zw_F_add c4 hn ha hb hc hm⟩, ⟨?_, c6⟩, ⟨⟨?_, fun s hs => ?_⟩, zw_U_mono (by unfold zs_fadd; dsimp only; omega) c8⟩, ⟨?_, fun hq => ?_⟩, c10⟩
  · subst eh
    rw [zr_si1, if_pos ⟨rfl, rfl⟩]
    rfl
  · rcases Nat.lt_or_ge f F.1 with z | z
    · rw [(zs_fadd_o z).1, (zs_fadd_o z).2]
      subst eh
      simp only [zr_si1]
      rw [if_neg (by omega), if_neg (by omega), if_neg (by omega), if_neg (by omega), if_neg (by omega), if_neg (by omega)]
      exact c3.2 f z
    · have : f = F.1 := by unfold zs_fadd at hf; dsimp only at hf; omega
      subst this
      subst eh
      unfold zs_fadd
      simp [zr_si1]
  · unfold zc_S
    rw [eI 29 (by omega)]
    exact c5
  · rw [eI 36 (by omega)]
    exact c7.1
  · have := (c2.1 s (by have := c8.1; omega)).2
    have hY := c7.2 s hs
    have w7 := (c8.2 s hs).2.2.2
    refine zc_Y_F (F := F) (fun f hf => (zs_fadd_o (by omega)).1) ?_
    dsimp only at hY ⊢
    unfold zc_Y zc_R at hY ⊢
    rw [eI _ (by omega), eI _ (by omega), eI _ (by omega), eI _ (by omega)]
    exact hY
  · rw [eI 0 (by omega)]
    exact c9.1
  · obtain ⟨q1, q2⟩ := c9.2 hq
    refine ⟨zc_R_fr q1 (eI _ (by omega)) (eI _ (by omega)), ?_⟩
    rw [eI 70 (by omega)]
    exact q2
/-- a summary made anew -/
theorem zC_mk {h h' : zm_M} {pi : Nat → Nat} {F : zs_F} {sp : Nat → Nat} {U : zs_U} {Q : zs_Q} {s : Nat} (hC : zC h pi F sp U Q) (hs : s < U.1) (e2 : h'.2 = h.2) (eI : ∀ c, c ≠ 38 + 4 * pi s → (c < 73 ∨ 77 < c) → h'.1 c = h.1 c) (y1 : h'.1 (38 + 4 * pi s) 1 = nI F.1) (y2 : h'.1 (38 + 4 * pi s) 2 = nI (zs_grp sp (U.2 s) F F.1)) : zC h' pi F sp (zs_uset U s F.1) Q := by
  obtain ⟨c1, c2, ⟨c3, c4⟩, ⟨c5, c6⟩, ⟨c7, c8⟩, c9, c10⟩ := hC
  have h8 := c8.1
  have ps := (c2.1 s (by omega)).2
  refine ⟨by rw [e2]; exact c1, by rw [e2]; exact c2, ⟨?_, c4⟩, ⟨?_, c6⟩, ⟨⟨?_, fun r hr => ?_⟩, ⟨h8, fun r hr => ?_⟩⟩, ⟨?_, fun hq => ?_⟩, c10⟩
  · unfold zc_F
    rw [eI 30 (by omega) (by omega), eI 31 (by omega) (by omega), eI 32 (by omega) (by omega)]
    exact c3
  · unfold zc_S
    rw [eI 29 (by omega) (by omega)]
    exact c5
  · rw [eI 36 (by omega) (by omega)]
    exact c7.1
  · have hr' : r < U.1 := hr
    have pr := (c2.1 r (by omega)).2
    have hY := c7.2 r hr'
    by_cases z : r = s
    · subst z
      have e6 : ∀ k, k ≠ 7 → (zs_uset U r F.1).2 r k = U.2 r k := fun k hk => if_neg (fun q => hk q.2)
      have e7 : (zs_uset U r F.1).2 r 7 = F.1 := if_pos ⟨rfl, rfl⟩
      dsimp only at hY ⊢
      obtain ⟨z1, z2, z3, z4⟩ := hY
      unfold zc_Y zc_R at *
      rw [e6 0 (by omega), e6 1 (by omega), e6 2 (by omega), e6 3 (by omega), e6 4 (by omega), e6 5 (by omega), e6 6 (by omega), e7, zs_grp_row (row := U.2 r) (fun k hk => e6 k (by omega)), eI _ (by omega) (by omega), eI _ (by omega) (by omega), eI _ (by omega) (by omega)]
      exact ⟨z1, z2, y1, y2⟩
    · have ne : pi r ≠ pi s := fun q => z (c2.2 r s (by omega) (by omega) q)
      have er : (zs_uset U s F.1).2 r = U.2 r := by
        funext k
        exact if_neg (fun q => z q.1)
      rw [er]
      dsimp only at hY ⊢
      unfold zc_Y zc_R at hY ⊢
      rw [eI _ (by omega) (by omega), eI _ (by omega) (by omega), eI _ (by omega) (by omega), eI _ (by omega) (by omega)]
      exact hY
  · have hr' : r < U.1 := hr
    obtain ⟨r1, r2, r3, r4⟩ := c8.2 r hr'
    have e6 : ∀ k, k ≠ 7 → (zs_uset U s F.1).2 r k = U.2 r k := fun k hk => if_neg (fun q => hk q.2)
    unfold zw_R at *
    rw [e6 0 (by omega), e6 1 (by omega), e6 2 (by omega), e6 3 (by omega), e6 4 (by omega), e6 5 (by omega), e6 6 (by omega)]
    refine ⟨r1, r2, r3, ?_⟩
    unfold zs_uset
    dsimp only
    split <;> omega
  · rw [eI 0 (by omega) (by omega)]
    exact c9.1
  · obtain ⟨q1, q2⟩ := c9.2 hq
    refine ⟨zc_R_fr q1 (eI _ (by omega) (by omega)) (eI _ (by omega) (by omega)), ?_⟩
    rw [eI 70 (by omega) (by omega)]
    exact q2
