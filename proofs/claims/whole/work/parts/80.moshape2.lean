theorem f_dg_r {T : Nat → Nat} {n m q : Nat} {e : zt_S} (h : (f_dg T n m e).2 = .inr q) : ∃ r, e = .inr r ∧ q = r + 1 := by
  unfold f_dg at h
  split at h
  · cases e with
    | inl x => cases h
    | inr r => cases h; exact ⟨r, rfl, rfl⟩
  · exact absurd h (t_st_fl q)
theorem f_sd_r {T : Nat → Nat} {n q : Nat} {e : zt_S} (h : (f_sd T n e).2 = .inr q) : ∃ r, e = .inr r ∧ q = r + 1 := by
  unfold f_sd at h
  split at h
  · cases e with
    | inl x => cases h
    | inr r => cases h; exact ⟨r, rfl, rfl⟩
  · exact absurd h (t_st_fl q)
theorem t_tk_r {T : Nat → Nat} {n c q : Nat} {e : zt_S} (h : t_tk T n c e = .inr q) : ∃ r, e = .inr r ∧ q = r + 1 := by
  unfold t_tk at h
  split at h
  · cases e with
    | inl x => cases h
    | inr r => cases h; exact ⟨r, rfl, rfl⟩
  · exact absurd h (t_st_fl q)
theorem t_fa_r {f w q : Nat} {e : zt_S} : t_fa f w e ≠ .inr q := by
  cases e <;> (intro h; cases h)
theorem f_ln_p {T : Nat → Nat} {n told p q : Nat} (h : (f_ln_c T n told (.inr p)).2 = .inr q) : q = p + 4 := by
  obtain ⟨r1, h1, e1⟩ := f_dg_r h
  obtain ⟨r2, h2, e2⟩ := t_tk_r h1
  unfold f_ln_e at h2
  split at h2
  · exact absurd h2 t_fa_r
  · obtain ⟨r3, h3, e3⟩ := f_dg_r h2
    obtain ⟨r4, h4, e4⟩ := f_sd_r h3
    cases h4
    omega
set_option maxHeartbeats 4000000 in
set_option maxRecDepth 100000 in
theorem k_Mo_beginsText {d : Nat} {h : zm_M} {R : zm_R} {B : zs_B} {n : Nat} (hp : h.2 133 7 = some 137) (hB : zo_B h.1 B) (hBw : zw_B B) (hn : n ≤ B.1) (hn2 : n ≤ 240) (hR : ∀ h' : zm_M, h'.2 = h.2 → (∀ a, a ≠ 133 → h'.1 a = h.1 a) → (∀ k, k ≠ 9 → k ≠ 10 → k ≠ 14 → k ≠ 16 → h'.1 133 k = h.1 133 k) → h'.1 133 14 = 0 → h'.1 133 16 = 0 → zu_s h' B.2 n 0 → R none h') : zm_C (d + 1) TT m_Mo_beginsText [.inr (some 133), .inl (nI n)] h R := by
  refine st_Mo_beginsText [] 30 ?_
  simp only [↓zq, ↓reduceIte, zr_si2, zr_sr1, zr_cp2, zr_tl, zr_tn, shq, List.contains_nil, List.contains_cons, Nat.reduceBEq, Bool.false_or, Bool.or_false, Bool.true_or, Bool.false_eq_true, if_false, if_true, true_and, and_true, List.set_cons_zero, List.set_cons_succ, List.length_cons, List.length_nil, Nat.reduceAdd, Nat.reduceLeDiff, Nat.le_refl, Nat.zero_le, true_or, or_true, zn_cl, ↓jj_Mo_beginsText]
  refine hR _ rfl (fun a h1 => ?_) (fun k h1 h2 h3 h4 => ?_) ?_ ?_ ⟨hp, ?_, hn2, fun k hk => ⟨?_, hBw.2 k (by omega)⟩, ?_, Nat.zero_le _⟩
  · funext j
    simp only [zr_si1, h1, false_and, if_false]
  · simp only [zr_si1, h1, h2, h3, h4, and_false, if_false]
  · simp [zr_si1]
  · simp [zr_si1]
  · simp [zr_si1]
  · simp only [zr_si1, show ¬ (137 : Nat) = 133 by decide, false_and, if_false]
    exact hB.2 k (by omega)
  · simp only [zr_si1, Nat.reduceEqDiff, and_false, if_false, and_self, if_true]
    rfl
/-- what a text's reading leaves: the tape empty -/
theorem zOO_rd {h h' : zm_M} {c : Nat} {F : zs_F} {sp : Nat → Nat} {U : zs_U} {Q : zs_Q} {B : zs_B} {L : zs_L} {x : Nat} {K : zs_K} (hO : zOO h c F sp U Q B L x K) (h2 : h'.2 = h.2) (hI : ∀ a, (134 ≤ a ∧ a ≤ 137) ∨ (144 ≤ a ∧ a ≤ 148) ∨ a = 153 ∨ a = 169 ∨ a = 170 → h'.1 a = h.1 a) (h0 : ∀ k, (k ≤ 3 ∨ k = 17 ∨ k = 36 ∨ 53 ≤ k) → h'.1 133 k = h.1 133 k) (h8 : h'.1 133 8 = 0) : zOO h' c F sp U Q (0, B.2) L x K := by
  obtain ⟨c1, ⟨c3, c3w⟩, ⟨c5, c5w⟩, ⟨c6, c6w⟩, c7, c7w⟩ := hO
  refine ⟨zO_of (by rw [h2]) (fun a ha => hI a (by omega)) (fun k hk => h0 k (by omega)) c1, ⟨⟨h8, fun k hk => absurd hk (Nat.not_lt_zero _)⟩, zw_B_0 (B := B)⟩, ⟨zo_L_of (fun a h1 h2 => hI a (by omega)) (h0 17 (by omega)) c5, c5w⟩, ⟨?_, c6w⟩, zo_K_of (fun a ha => hI a (by omega)) (fun k hk => h0 k (by omega)) c7, c7w⟩
  rw [h0 0 (by omega)]
  exact c6
/-- n of v is a text's length: how the reference looks -/
theorem zs_tx_in {B : zs_B} {v : Int32} {m : Nat} (hm : m < 1000) (hb : B.1 ≤ 260) (z1 : ¬ v < 1) (z2 : ¬ nI m < v) (z3 : v ≤ nI B.1) : ∃ n, 1 ≤ n ∧ n ≤ m ∧ n ≤ B.1 ∧ v = nI n := by
  have z0 : ¬ v < 0 := fun q => z1 (by
    rw [Int32.lt_iff_toInt_lt] at q ⊢
    rw [show (0 : Int32).toInt = 0 from rfl] at q
    rw [show (1 : Int32).toInt = 1 from rfl]
    omega)
  obtain ⟨n, hn, rfl⟩ := nI_of z0
  refine ⟨n, ?_, ?_, ?_, rfl⟩
  · rcases Nat.eq_zero_or_pos n with q | q
    · subst q; exact absurd (by decide) z1
    · exact q
  · rcases Nat.lt_or_ge m n with q | q
    · exact absurd (nI_lt q hn) z2
    · exact q
  · rcases Nat.lt_or_ge B.1 n with q | q
    · exact absurd z3 (nI_ge q hn)
    · exact q
/-- since a public method of the reference began to read -/
def zv_f (h g : zm_M) : Prop := g.2 = h.2 ∧ (∀ a, a ≠ 133 → a ≠ 151 → a ≠ 152 → g.1 a = h.1 a) ∧ ∀ k, k ≠ 9 → k ≠ 10 → k ≠ 11 → k ≠ 12 → k ≠ 14 → k ≠ 16 → k ≠ 32 → k ≠ 33 → g.1 133 k = h.1 133 k
theorem zv_f.tr {h g g' : zm_M} (a : zv_f h g) (b : zu_f g g') : zv_f h g' := ⟨b.1.trans a.1, fun x h1 h2 h3 => (b.2.1 x h1 h2 h3).trans (a.2.1 x h1 h2 h3), fun k h1 h2 h3 h4 h5 h6 h7 h8 => (b.2.2 k h1 h3 h4 h7 h8).trans (a.2.2 k h1 h2 h3 h4 h5 h6 h7 h8)⟩
theorem zv_f.s1 {h g : zm_M} (a : zv_f h g) (c k : Nat) (hc : c = 151 ∨ c = 152) (x : Int32) : zv_f h (zm_si g c k x) := a.tr ((zu_f.rf g).s1 c k hc x)
theorem zv_f.s0 {h g : zm_M} (a : zv_f h g) (k : Nat) (hk : k = 9 ∨ k = 11 ∨ k = 12 ∨ k = 32 ∨ k = 33) (x : Int32) : zv_f h (zm_si g 133 k x) := a.tr ((zu_f.rf g).s0 k hk x)
theorem zOO_zv {h g : zm_M} {c : Nat} {F : zs_F} {sp : Nat → Nat} {U : zs_U} {Q : zs_Q} {B : zs_B} {L : zs_L} {x : Nat} {K : zs_K} (hO : zOO h c F sp U Q B L x K) (hf : zv_f h g) : zo_own h (zm_si g 133 8 0) ∧ zOO (zm_si g 133 8 0) c F sp U Q (0, B.2) L x K := by
  have eI : ∀ a, a ≠ 133 → a ≠ 151 → a ≠ 152 → (zm_si g 133 8 0).1 a = h.1 a := fun a h1 h2 h3 => by
    funext j
    rw [zr_si1, if_neg (fun z => h1 z.1), hf.2.1 a h1 h2 h3]
  refine ⟨⟨hf.1, fun a ha => eI a (by omega) (by omega) (by omega)⟩, zOO_rd hO hf.1 (fun a ha => eI a (by omega) (by omega) (by omega)) (fun k hk => ?_) (by rw [zr_si1, if_pos ⟨rfl, rfl⟩])⟩
  rw [zr_si1, if_neg (by omega), hf.2.2 k (by omega) (by omega) (by omega) (by omega) (by omega) (by omega) (by omega) (by omega)]
set_option maxHeartbeats 4000000 in
set_option maxRecDepth 100000 in
theorem k_Mo_shape {d : Nat} {h : zm_M} {R : zm_R} {n0 : Nat} {F : zs_F} {sp : Nat → Nat} {U : zs_U} {Q : zs_Q} {B : zs_B} {L : zs_L} {x : Nat} {K : zs_K} {v : Int32} (hO : zOO h n0 F sp U Q B L x K) (hR : ∀ h' : zm_M, zo_own h h' → zOO h' (n0 + 1) F (D_shape B sp U K v).2.2.1 (D_shape B sp U K v).2.2.2.1 Q (D_shape B sp U K v).2.1 L x (D_shape B sp U K v).2.2.2.2 → R (some (.inl (D_shape B sp U K v).1)) h') : zm_C (d + 4) TT m_Mo_shape [.inr (some 133), .inl v] h R := by
  have hp := hO.1.1
  have p7 : h.2 133 7 = some 137 := by simp only [hp]
  obtain ⟨hB, hBw⟩ := hO.2.1
  have b1 := hB.1
  have b260 := hBw.1
  have up : ∀ {h' : zm_M} {sp' : Nat → Nat} {U' : zs_U} {B' : zs_B} {K' : zs_K}, zOO h' n0 F sp' U' Q B' L x K' → zOO h' (n0 + 1) F sp' U' Q B' L x K' := fun {h'} {sp'} {U'} {B'} {K'} hz => by
    obtain ⟨c1, c3, c5, c6, ⟨n, m, k1, k2, k3⟩, c7w⟩ := hz
    exact ⟨c1, c3, c5, c6, ⟨n, m, k1, by omega, k3⟩, c7w⟩
  have bad : (∀ n, v = nI n → 1 ≤ n → n ≤ 60 → n ≤ B.1 → False) → R (some (.inl (-1))) h := fun no => by
    have eD : D_shape B sp U K v = (-1, B, sp, U, K) := by
      unfold D_shape
      rw [zs_tx_no (by decide) no]
    rw [eD] at hR
    exact hR h (zo_own.rf h) (up hO)
  refine st_Mo_shape [37, 66, 106, 122] 30 ?_
  simp only [↓zq, ↓reduceIte, zr_si2, zr_sr1, zr_cp2, zr_tl, zr_tn, shq, List.contains_nil, List.contains_cons, Nat.reduceBEq, Bool.false_or, Bool.or_false, Bool.true_or, Bool.false_eq_true, if_false, if_true, true_and, and_true, List.set_cons_zero, List.set_cons_succ, List.length_cons, List.length_nil, Nat.reduceAdd, Nat.reduceLeDiff, Nat.le_refl, Nat.zero_le, true_or, or_true, zn_cl, ↓jj_Mo_shape]
  refine k_Mo_in (fun z1 z2 => ?_) (fun z => ?_)
  · simp only [↓zq, ↓reduceIte, zr_si2, zr_sr1, zr_cp2, zr_tl, zr_tn, shq, List.contains_nil, List.contains_cons, Nat.reduceBEq, Bool.false_or, Bool.or_false, Bool.true_or, Bool.false_eq_true, if_false, if_true, true_and, and_true, List.set_cons_zero, List.set_cons_succ, List.length_cons, List.length_nil, Nat.reduceAdd, Nat.reduceLeDiff, Nat.le_refl, Nat.zero_le, true_or, or_true, zn_cl, ↓jj_Mo_shape, b1]
    refine ⟨fun z => absurd z (by decide), fun _ => ⟨fun z3 => ?_, fun z3 => bad (fun m em m1 m2 m3 => ?_)⟩⟩
    · obtain ⟨n, n0', n1, n2, rfl⟩ := zs_tx_in (m := 60) (by decide) b260 z1 z2 z3
      have eT := zs_tx_of n0' n1 n2 (show 60 < 1000 by decide)
      refine k_Mo_beginsText p7 hB hBw n2 (by omega) (fun g1 e1 e2 e3 e4 e5 s1 => ?_)
      simp only [↓zq, ↓reduceIte, zr_si2, zr_sr1, zr_cp2, zr_tl, zr_tn, shq, List.contains_nil, List.contains_cons, Nat.reduceBEq, Bool.false_or, Bool.or_false, Bool.true_or, Bool.false_eq_true, if_false, if_true, true_and, and_true, List.set_cons_zero, List.set_cons_succ, List.length_cons, List.length_nil, Nat.reduceAdd, Nat.reduceLeDiff, Nat.le_refl, Nat.zero_le, true_or, or_true, zn_cl, ↓jj_Mo_shape]
      have v1 : zv_f h g1 := ⟨e1, fun a h1 _ _ => e2 a h1, fun k h1 h2 _ _ h5 h6 _ _ => e3 k h1 h2 h5 h6⟩
      have bad66 : ∀ (g : zm_M) (y : Nat × Nat) (l3 : Option zm_V), zv_f h g → g.1 133 11 = t_an y → t_en n (f_sh B.2 n 60 0 0 sp (.inr 0)).2.2 = .inl y → zm_W (zm_md m_Mo_shape) (d + 4) TT R 66 [some (.inr (some 133)), some (.inl (nI n)), some (.inl 0), l3] [] g := by
        intro g y l3 hf h11 he
        have eD : D_shape B sp U K (nI n) = (t_an y, (0, B.2), sp, U, K) := by
          unfold D_shape
          rw [eT]
          dsimp only
          rw [he]
        rw [eD] at hR
        obtain ⟨o1, o2⟩ := zOO_zv hO hf
        have h11' : (zm_si g 133 8 0).1 133 11 = t_an y := by rw [zr_si1, if_neg (by omega)]; exact h11
        refine zm_go g_Mo_shape [37, 66, 122] 30 (by decide +kernel) ok_Mo_shape _ rfl ?_
        simp only [↓zq, ↓reduceIte, zr_si2, zr_sr1, zr_cp2, zr_tl, zr_tn, shq, List.contains_nil, List.contains_cons, Nat.reduceBEq, Bool.false_or, Bool.or_false, Bool.true_or, Bool.false_eq_true, if_false, if_true, true_and, and_true, List.set_cons_zero, List.set_cons_succ, List.length_cons, List.length_nil, Nat.reduceAdd, Nat.reduceLeDiff, Nat.le_refl, Nat.zero_le, true_or, or_true, zn_cl, ↓jj_Mo_shape, h11']
        exact ⟨fun _ => ⟨fun z => (by first | exact absurd trivial z | exact absurd rfl z | exact absurd z (by decide)), fun _ => hR _ o1 (up o2)⟩, fun z => (by first | exact absurd trivial z | exact absurd rfl z | exact absurd z (by decide))⟩
      have good106 : ∀ (g : zm_M) (l p : Nat) (sp' : Nat → Nat) (l3 : Option zm_V), zv_f h g → g.1 133 33 = nI l → (∀ k, k < 24 → g.1 151 k = nI (sp' k)) → f_sh B.2 n 60 0 0 sp (.inr 0) = (l, sp', .inr p) → t_en n (f_sh B.2 n 60 0 0 sp (.inr 0)).2.2 = .inr p → zm_W (zm_md m_Mo_shape) (d + 4) TT R 106 [some (.inr (some 133)), some (.inl (nI n)), some (.inl 1), l3] [] g := by
        intro g l p sp' l3 hf hl hsp he he2
        have eD : D_shape B sp U K (nI n) = (nI l, (0, B.2), sp', (0, fun _ _ => 0), zs_kf K) := by
          unfold D_shape
          rw [eT]
          dsimp only
          rw [he2]
          dsimp only
          rw [he]
        rw [eD] at hR
        dsimp only at hR
        obtain ⟨o1, o2⟩ := zOO_zv hO hf
        have wsp : zw_S sp' := by
          have := f_sh_w (T := B.2) (n := n) 60 0 0 sp (.inr 0) hO.1.2.2.1.2
          rw [he] at this
          exact this
        obtain ⟨g8, hg8⟩ : ∃ g8 : zm_M, g8 = zm_si g 133 8 0 := ⟨_, rfl⟩
        have l8 : g8.1 133 33 = nI l := by rw [hg8, zr_si1, if_neg (by omega)]; exact hl
        have c8 : ∀ k, k < 24 → g8.1 151 k = nI (sp' k) := fun k hk => by rw [hg8, zr_si1, if_neg (by omega)]; exact hsp k hk
        rw [← hg8] at o1 o2
        have loop : ∀ (j i : Nat) (q : zm_M), i + j = 24 → q.2 = g8.2 → (∀ a, a ≠ 136 → q.1 a = g8.1 a) → (∀ k, k < i → q.1 136 k = nI (sp' k)) → zm_W (zm_md m_Mo_shape) (d + 4) TT R 122 [some (.inr (some 133)), some (.inl (nI n)), some (.inl 1), some (.inl (nI i))] [] q := by
          intro j
          induction j with
          | zero =>
            intro i q hi q2 qI qc
            have : i = 24 := by omega
            subst this
            obtain ⟨c1, c3, c5, c6, ⟨nn, mm, k1, k2, k3, k4, k5⟩, c7w⟩ := o2
            have s3 : q.1 133 3 = nI nn := by rw [qI 133 (by omega)]; exact k3
            have l33 : q.1 133 33 = nI l := by rw [qI 133 (by omega)]; exact l8
            refine zm_go g_Mo_shape [37, 66, 122] 30 (by decide +kernel) ok_Mo_shape _ rfl ?_
            simp only [↓zq, ↓reduceIte, zr_si2, zr_sr1, zr_cp2, zr_tl, zr_tn, shq, List.contains_nil, List.contains_cons, Nat.reduceBEq, Bool.false_or, Bool.or_false, Bool.true_or, Bool.false_eq_true, if_false, if_true, true_and, and_true, List.set_cons_zero, List.set_cons_succ, List.length_cons, List.length_nil, Nat.reduceAdd, Nat.reduceLeDiff, Nat.le_refl, Nat.zero_le, true_or, or_true, zn_cl, ↓jj_Mo_shape]
            simp only [zr_si1, Nat.reduceEqDiff, and_false, if_false, s3, l33, nI_1]
            refine ⟨fun _ => ?_, fun z => absurd (by decide) z⟩
            obtain ⟨q9, hq9⟩ : ∃ q9 : zm_M, q9 = zm_si (zm_si q 133 2 0) 133 3 (nI (nn + 1)) := ⟨_, rfl⟩
            rw [← hq9]
            have m2 : q9.2 = g8.2 := by subst hq9; exact q2
            have mI : ∀ a, a ≠ 133 → a ≠ 136 → q9.1 a = g8.1 a := fun a h1 h2 => by
              subst hq9
              rw [← qI a h2]
              funext j
              rw [zr_si1, if_neg (fun z => h1 z.1), zr_si1, if_neg (fun z => h1 z.1)]
            have m0 : ∀ k, k ≠ 2 → k ≠ 3 → q9.1 133 k = g8.1 133 k := fun k h1 h2 => by
              subst hq9
              rw [zr_si1, if_neg (fun z => h2 z.2), zr_si1, if_neg (fun z => h1 z.2), qI 133 (by omega)]
            have m22 : q9.1 133 2 = 0 := by subst hq9; rw [zr_si1, if_neg (by omega), zr_si1, if_pos ⟨rfl, rfl⟩]
            have m33 : q9.1 133 3 = nI (nn + 1) := by subst hq9; rw [zr_si1, if_pos ⟨rfl, rfl⟩]
            have mc : ∀ k, k < 24 → q9.1 136 k = nI (sp' k) := fun k hk => by
              subst hq9
              rw [zr_si1, if_neg (by omega), zr_si1, if_neg (by omega)]
              exact qc k hk
            clear hq9
            refine hR q9 (o1.tr ⟨m2, fun a ha => mI a (by omega) (by omega)⟩) ⟨⟨by rw [m2]; exact c1.1, ⟨?_, c1.2.1.2⟩, ⟨mc, wsp⟩, ⟨⟨m22, fun s hs => absurd hs (Nat.not_lt_zero _)⟩, Nat.zero_le _, fun s hs => absurd hs (Nat.not_lt_zero _)⟩, ?_, c1.2.2.2.2.2⟩, ⟨zo_B_of (m0 8 (by omega) (by omega)) (mI 137 (by omega) (by omega)) c3.1, c3.2⟩, ⟨zo_L_of (fun a h1 h2 => mI a (by omega) (by omega)) (m0 17 (by omega) (by omega)) c5.1, c5.2⟩, ⟨by rw [m0 0 (by omega) (by omega)]; exact c6.1, c6.2⟩, ⟨nn + 1, mm, by omega, by omega, m33, fun z => ?_, fun z => ?_⟩, fun z => ⟨(c7w z).1, (c7w z).2.1, fun y => Bool.noConfusion y⟩⟩
            · unfold zo_F
              rw [m0 1 (by omega) (by omega), mI 134 (by omega) (by omega)]
              exact c1.2.1.1
            · unfold zo_Q
              rw [m0 36 (by omega) (by omega), mI 153 (by omega) (by omega)]
              exact c1.2.2.2.2.1
            · rw [m0 53 (by omega) (by omega)]
              exact k4 z
            · obtain ⟨a1, a2, a3, a4, a5, a6, a7⟩ := k5 z
              rw [m0 53 (by omega) (by omega), m0 57 (by omega) (by omega), m0 54 (by omega) (by omega), m0 56 (by omega) (by omega), mI 169 (by omega) (by omega), mI 134 (by omega) (by omega)]
              exact ⟨a1, a2, a3, a4, a5, ⟨fun y => Bool.noConfusion y, fun y => by omega⟩, fun y => Bool.noConfusion y⟩
          | succ j ih =>
            intro i q hi q2 qI qc
            have p31 : q.2 133 31 = some 151 := by rw [q2]; have := o2.1.1; simp only [this]
            have p6 : q.2 133 6 = some 136 := by rw [q2]; have := o2.1.1; simp only [this]
            have v1 : vp_in (nI i) 24 := vp_in_nI (by omega) (by decide)
            have c1 := nI_clamp (show i < 2 ^ 31 by omega)
            have cc : q.1 151 i = nI (sp' i) := by rw [qI 151 (by omega)]; exact c8 i (by omega)
            refine zm_go g_Mo_shape [37, 66, 122] 30 (by decide +kernel) ok_Mo_shape _ rfl ?_
            simp only [↓zq, ↓reduceIte, zr_si2, zr_sr1, zr_cp2, zr_tl, zr_tn, shq, List.contains_nil, List.contains_cons, Nat.reduceBEq, Bool.false_or, Bool.or_false, Bool.true_or, Bool.false_eq_true, if_false, if_true, true_and, and_true, List.set_cons_zero, List.set_cons_succ, List.length_cons, List.length_nil, Nat.reduceAdd, Nat.reduceLeDiff, Nat.le_refl, Nat.zero_le, true_or, or_true, zn_cl, ↓jj_Mo_shape, p31, p6, v1, c1, cc, nI_1]
            refine ⟨fun z => absurd z (nI_ge (b := 24) (by omega) (by decide)), fun _ => ?_⟩
            refine ih (i + 1) _ (by omega) q2 (fun a ha => ?_) (fun k hk => ?_)
            · funext t
              rw [zr_si1, if_neg (fun z => ha z.1), qI a ha]
            · rw [zr_si1]
              by_cases z : k = i
              · rw [if_pos ⟨rfl, z⟩, z]
              · rw [if_neg (fun t => z t.2)]
                exact qc k (by omega)
        refine zm_go g_Mo_shape [37, 66, 122] 30 (by decide +kernel) ok_Mo_shape _ rfl ?_
        simp only [↓zq, ↓reduceIte, zr_si2, zr_sr1, zr_cp2, zr_tl, zr_tn, shq, List.contains_nil, List.contains_cons, Nat.reduceBEq, Bool.false_or, Bool.or_false, Bool.true_or, Bool.false_eq_true, if_false, if_true, true_and, and_true, List.set_cons_zero, List.set_cons_succ, List.length_cons, List.length_nil, Nat.reduceAdd, Nat.reduceLeDiff, Nat.le_refl, Nat.zero_le, true_or, or_true, zn_cl, ↓jj_Mo_shape]
        refine ⟨fun _ => ?_, fun z => absurd z (by decide)⟩
        rw [← hg8]
        exact loop 24 0 g8 (by omega) rfl (fun _ _ => rfl) (fun k hk => absurd hk (Nat.not_lt_zero _))
      have good66 : ∀ (f l told p : Nat) (sp' : Nat → Nat) (g : zm_M) (l3 : Option zm_V), zv_f h g → zu_s g B.2 n p → g.1 133 32 = nI told → told < 2 ^ 24 → g.1 133 33 = nI l → (∀ k, k < 24 → g.1 151 k = nI (sp' k)) → 122 ≤ p + 2 * f → f_sh B.2 n 60 0 0 sp (.inr 0) = (if t_c B.2 n (.inr p) = 59 then f_sh B.2 n f l told sp' (.inr (p + 1)) else (l, sp', .inr p)) → zm_W (zm_md m_Mo_shape) (d + 4) TT R 66 [some (.inr (some 133)), some (.inl (nI n)), some (.inl 1), l3] [] g := by
        intro f
        induction f with
        | zero =>
          intro l told p sp' g l3 hf hs
          have := hs.2.2.2.2.2
          intro _ _ _ _ hh
          omega
        | succ f ih =>
          intro l told p sp' g l3 hf hs ht htl hl hsp hpf he
          obtain ⟨_, s2, _, _, s5, s6⟩ := id hs
          refine zm_go g_Mo_shape [37, 66, 106, 122] 30 (by decide +kernel) ok_Mo_shape _ rfl ?_
          simp only [↓zq, ↓reduceIte, zr_si2, zr_sr1, zr_cp2, zr_tl, zr_tn, shq, List.contains_nil, List.contains_cons, Nat.reduceBEq, Bool.false_or, Bool.or_false, Bool.true_or, Bool.false_eq_true, if_false, if_true, true_and, and_true, List.set_cons_zero, List.set_cons_succ, List.length_cons, List.length_nil, Nat.reduceAdd, Nat.reduceLeDiff, Nat.le_refl, Nat.zero_le, true_or, or_true, zn_cl, ↓jj_Mo_shape, s2, s5]
          refine ⟨fun z => absurd z (by decide), fun _ => ⟨fun z => ?_, fun z => ?_⟩⟩
          · have pn : ¬ p < n := fun q => nI_ge q (by omega) z
            rw [if_neg (by rw [t_c_r, if_neg pn]; decide)] at he
            refine good106 g l p sp' _ hf hl hsp he ?_
            rw [he, t_en_r, if_neg pn]
          · have pn : p < n := by
              rcases Nat.lt_or_ge p n with q | q
              · exact q
              · exact absurd (nI_le q (by omega)) z
            refine k_Mo_takes (c := 59) hs (by decide) (fun y hy g2 f2 h11 => ?_) (fun hy g2 f2 s2 => ?_)
            · simp only [↓zq, ↓reduceIte, zr_si2, zr_sr1, zr_cp2, zr_tl, zr_tn, shq, List.contains_nil, List.contains_cons, Nat.reduceBEq, Bool.false_or, Bool.or_false, Bool.true_or, Bool.false_eq_true, if_false, if_true, true_and, and_true, List.set_cons_zero, List.set_cons_succ, List.length_cons, List.length_nil, Nat.reduceAdd, Nat.reduceLeDiff, Nat.le_refl, Nat.zero_le, true_or, or_true, zn_cl, ↓jj_Mo_shape]
              refine ⟨fun _ => ?_, fun z => (by first | exact absurd trivial z | exact absurd rfl z | exact absurd z (by decide))⟩
              refine bad66 g2 y _ (hf.tr f2.f) h11 ?_
              unfold t_tk at hy
              split at hy
              · cases hy
              · next q =>
                rw [if_neg q] at he
                rw [he, t_en_r, if_pos pn]
                exact hy
            · simp only [↓zq, ↓reduceIte, zr_si2, zr_sr1, zr_cp2, zr_tl, zr_tn, shq, List.contains_nil, List.contains_cons, Nat.reduceBEq, Bool.false_or, Bool.or_false, Bool.true_or, Bool.false_eq_true, if_false, if_true, true_and, and_true, List.set_cons_zero, List.set_cons_succ, List.length_cons, List.length_nil, Nat.reduceAdd, Nat.reduceLeDiff, Nat.le_refl, Nat.zero_le, true_or, or_true, zn_cl, ↓jj_Mo_shape]
              refine ⟨fun z => absurd z (by decide), fun _ => ?_⟩
              have hc59 : t_c B.2 n (.inr p) = 59 := by
                unfold t_tk at hy
                split at hy
                · next q => exact q
                · cases hy
              rw [if_pos hc59] at he
              have hf2 := hf.tr f2.f
              refine k_Mo_readsCoarse (told := told) (l := l) (sp := sp') (by rw [hf2.1]; exact hp) s2 (by rw [f2.2.2 32 (by omega) (by omega) (by omega)]; exact ht) htl (by rw [f2.2.2 33 (by omega) (by omega) (by omega)]; exact hl) (fun k hk => by rw [f2.2.1 151 (by omega)]; exact hsp k hk) (fun y hy g3 f3 h11 => ?_) (fun p' hp' g3 f3 s3 t3 l3' c3 => ?_)
              · simp only [↓zq, ↓reduceIte, zr_si2, zr_sr1, zr_cp2, zr_tl, zr_tn, shq, List.contains_nil, List.contains_cons, Nat.reduceBEq, Bool.false_or, Bool.or_false, Bool.true_or, Bool.false_eq_true, if_false, if_true, true_and, and_true, List.set_cons_zero, List.set_cons_succ, List.length_cons, List.length_nil, Nat.reduceAdd, Nat.reduceLeDiff, Nat.le_refl, Nat.zero_le, true_or, or_true, zn_cl, ↓jj_Mo_shape]
                refine ⟨fun _ => ?_, fun z => (by first | exact absurd trivial z | exact absurd rfl z | exact absurd z (by decide))⟩
                refine bad66 g3 y _ (hf2.tr f3) h11 ?_
                rw [he, f_sh, if_neg (by rw [hy, t_c_d]; decide)]
                dsimp only
                rw [hy]
                rfl
              · simp only [↓zq, ↓reduceIte, zr_si2, zr_sr1, zr_cp2, zr_tl, zr_tn, shq, List.contains_nil, List.contains_cons, Nat.reduceBEq, Bool.false_or, Bool.or_false, Bool.true_or, Bool.false_eq_true, if_false, if_true, true_and, and_true, List.set_cons_zero, List.set_cons_succ, List.length_cons, List.length_nil, Nat.reduceAdd, Nat.reduceLeDiff, Nat.le_refl, Nat.zero_le, true_or, or_true, zn_cl, ↓jj_Mo_shape]
                refine ⟨fun z => absurd z (by decide), fun _ => ?_⟩
                have ep := f_ln_p hp'
                refine ih (l + 1) _ p' _ g3 _ (hf2.tr f3) s3 t3 (zs_or24 htl (f_ln_lt _ _ _)) l3' c3 (by omega) ?_
                rw [he, f_sh, hp']
                rfl
      have copy : ∀ (j i : Nat) (q : zm_M), i + j = 24 → zv_f h q → zu_s q B.2 n 0 → q.1 133 32 = 0 → q.1 133 33 = 0 → (∀ k, k < i → q.1 151 k = nI (sp k)) → zm_W (zm_md m_Mo_shape) (d + 4) TT R 37 [some (.inr (some 133)), some (.inl (nI n)), some (.inl (nI i)), none] [] q := by
        intro j
        induction j with
        | zero =>
          intro i q hi hf hs h32 h33 hc
          have : i = 24 := by omega
          subst this
          refine zm_go g_Mo_shape [37, 66, 106, 122] 30 (by decide +kernel) ok_Mo_shape _ rfl ?_
          simp only [↓zq, ↓reduceIte, zr_si2, zr_sr1, zr_cp2, zr_tl, zr_tn, shq, List.contains_nil, List.contains_cons, Nat.reduceBEq, Bool.false_or, Bool.or_false, Bool.true_or, Bool.false_eq_true, if_false, if_true, true_and, and_true, List.set_cons_zero, List.set_cons_succ, List.length_cons, List.length_nil, Nat.reduceAdd, Nat.reduceLeDiff, Nat.le_refl, Nat.zero_le, true_or, or_true, zn_cl, ↓jj_Mo_shape]
          refine ⟨fun _ => ?_, fun z => absurd (by decide) z⟩
          refine k_Mo_readsCoarse (told := 0) (l := 0) (sp := sp) (by rw [hf.1]; exact hp) hs h32 (by decide) h33 hc (fun y hy g3 f3 h11 => ?_) (fun p' hp' g3 f3 s3 t3 l3' c3 => ?_)
          · simp only [↓zq, ↓reduceIte, zr_si2, zr_sr1, zr_cp2, zr_tl, zr_tn, shq, List.contains_nil, List.contains_cons, Nat.reduceBEq, Bool.false_or, Bool.or_false, Bool.true_or, Bool.false_eq_true, if_false, if_true, true_and, and_true, List.set_cons_zero, List.set_cons_succ, List.length_cons, List.length_nil, Nat.reduceAdd, Nat.reduceLeDiff, Nat.le_refl, Nat.zero_le, true_or, or_true, zn_cl, ↓jj_Mo_shape]
            refine bad66 g3 y _ (hf.tr f3) h11 ?_
            rw [f_sh, if_neg (by rw [hy, t_c_d]; decide)]
            dsimp only
            rw [hy]
            rfl
          · simp only [↓zq, ↓reduceIte, zr_si2, zr_sr1, zr_cp2, zr_tl, zr_tn, shq, List.contains_nil, List.contains_cons, Nat.reduceBEq, Bool.false_or, Bool.or_false, Bool.true_or, Bool.false_eq_true, if_false, if_true, true_and, and_true, List.set_cons_zero, List.set_cons_succ, List.length_cons, List.length_nil, Nat.reduceAdd, Nat.reduceLeDiff, Nat.le_refl, Nat.zero_le, true_or, or_true, zn_cl, ↓jj_Mo_shape]
            have ep := f_ln_p hp'
            refine good66 59 1 _ p' _ g3 _ (hf.tr f3) s3 t3 (zs_or24 (by decide) (f_ln_lt _ _ _)) l3' c3 (by omega) ?_
            rw [f_sh, hp']
            rfl
        | succ j ih =>
          intro i q hi hf hs h32 h33 hc
          have p31 : q.2 133 31 = some 151 := by rw [hf.1]; simp only [hp]
          have p6 : q.2 133 6 = some 136 := by rw [hf.1]; simp only [hp]
          have v1 : vp_in (nI i) 24 := vp_in_nI (by omega) (by decide)
          have c1 := nI_clamp (show i < 2 ^ 31 by omega)
          have cc : q.1 136 i = nI (sp i) := by rw [hf.2.1 136 (by omega) (by omega) (by omega)]; exact hO.1.2.2.1.1 i (by omega)
          refine zm_go g_Mo_shape [37, 66, 106, 122] 30 (by decide +kernel) ok_Mo_shape _ rfl ?_
          simp only [↓zq, ↓reduceIte, zr_si2, zr_sr1, zr_cp2, zr_tl, zr_tn, shq, List.contains_nil, List.contains_cons, Nat.reduceBEq, Bool.false_or, Bool.or_false, Bool.true_or, Bool.false_eq_true, if_false, if_true, true_and, and_true, List.set_cons_zero, List.set_cons_succ, List.length_cons, List.length_nil, Nat.reduceAdd, Nat.reduceLeDiff, Nat.le_refl, Nat.zero_le, true_or, or_true, zn_cl, ↓jj_Mo_shape, p31, p6, v1, c1, cc, nI_1]
          refine ⟨fun z => absurd z (nI_ge (b := 24) (by omega) (by decide)), fun _ => ?_⟩
          refine ih (i + 1) _ (by omega) (hf.s1 151 _ (by omega) _) (zu_s_i hs rfl ?_ ?_ ?_) ?_ ?_ (fun k hk => ?_)
          · rw [zr_si1, if_neg (by omega)]
          · rw [zr_si1, if_neg (by omega)]
          · funext t; rw [zr_si1, if_neg (by omega)]
          · rw [zr_si1, if_neg (by omega)]; exact h32
          · rw [zr_si1, if_neg (by omega)]; exact h33
          · rw [zr_si1]
            by_cases z : k = i
            · rw [if_pos ⟨rfl, z⟩, z]
            · rw [if_neg (fun t => z t.2)]
              exact hc k (by omega)
      refine copy 24 0 _ (by omega) ((v1.s0 32 (by omega) 0).s0 33 (by omega) 0) (zu_s_i s1 rfl ?_ ?_ ?_) ?_ ?_ (fun k hk => absurd hk (Nat.not_lt_zero _))
      · rw [zr_si1, if_neg (by omega), zr_si1, if_neg (by omega)]
      · rw [zr_si1, if_neg (by omega), zr_si1, if_neg (by omega)]
      · funext t; rw [zr_si1, if_neg (by omega), zr_si1, if_neg (by omega)]
      · rw [zr_si1, if_neg (by omega), zr_si1, if_pos ⟨rfl, rfl⟩]
      · rw [zr_si1, if_pos ⟨rfl, rfl⟩]
    · subst em
      exact z3 (nI_le m3 (by omega))
  · simp only [↓zq, ↓reduceIte, zr_si2, zr_sr1, zr_cp2, zr_tl, zr_tn, shq, List.contains_nil, List.contains_cons, Nat.reduceBEq, Bool.false_or, Bool.or_false, Bool.true_or, Bool.false_eq_true, if_false, if_true, true_and, and_true, List.set_cons_zero, List.set_cons_succ, List.length_cons, List.length_nil, Nat.reduceAdd, Nat.reduceLeDiff, Nat.le_refl, Nat.zero_le, true_or, or_true, zn_cl, ↓jj_Mo_shape]
    refine ⟨fun _ => bad (fun m em m1 m2 m3 => ?_), fun z => (by first | exact absurd trivial z | exact absurd rfl z | exact absurd z (by decide))⟩
    subst em
    rcases z with z | z
    · exact nI_nlt (b := 1) m1 (by omega) z
    · exact nI_nlt (a := 60) m2 (by omega) z
