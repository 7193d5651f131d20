/-! check -/
def zs_mat (F : zs_F) (f : Nat) : Nat := if f < F.1 then F.2.2 f else 255
def zs_mis (F : zs_F) (B : zs_B) : Nat → Nat → Option Nat
  | 0, _ => none
  | n + 1, f => if B.2 f = zs_mat F f then zs_mis F B n (f + 1) else some f
def D_check (F : zs_F) (B : zs_B) (v : Int32) : Int32 × zs_B := match zs_ix v 241 with
  | none => (-2, B)
  | some n => if B.1 < n then (-2, B) else (match zs_mis F B n 0 with | none => -1 | some f => nI f, (0, B.2))
set_option maxHeartbeats 4000000 in
set_option maxRecDepth 100000 in
theorem k_Tape_has {d : Nat} {h : zm_M} {R : zm_R} {v : Int32} {lo hi b : Nat} (hlo : lo ≤ hi) (hhi : hi < 1000) (hb : b < 1000) (e1 : h.1 1 1 = nI b) (h1 : ∀ n, lo ≤ n → n ≤ hi → n ≤ b → v = nI n → R (some (.inl 1)) h) (h0 : (∀ n, v = nI n → lo ≤ n → n ≤ hi → n ≤ b → False) → R (some (.inl 0)) h) : zm_C (d + 1) TT m_Tape_has [.inr (some 1), .inl v, .inl (nI lo), .inl (nI hi)] h R := by
  refine st_Tape_has [] 30 ?_
  simp only [↓zq, ↓reduceIte, zr_si2, zr_sr1, zr_cp2, zr_tl, zr_tn, shq, List.contains_nil, List.contains_cons, Nat.reduceBEq, Bool.false_or, Bool.or_false, Bool.true_or, Bool.false_eq_true, if_false, if_true, true_and, and_true, List.set_cons_zero, List.set_cons_succ, List.length_cons, List.length_nil, Nat.reduceAdd, Nat.reduceLeDiff, Nat.le_refl, Nat.zero_le, true_or, or_true, zn_cl, ↓jj_Tape_has, e1]
  refine ⟨fun z => h0 (fun n e a _ _ => ?_), fun z => ⟨fun z2 => h0 (fun n e _ a _ => ?_), fun z2 => ⟨fun z3 => h0 (fun n e _ _ a => ?_), fun z3 => ?_⟩⟩⟩
  · subst e
    exact nI_nlt a (by omega) z
  · subst e
    exact nI_nlt a (by omega) z2
  · subst e
    exact nI_nlt a (by omega) z3
  · have z0 : ¬ v < 0 := fun q => z (by
      have := nI_toInt (show lo < 2 ^ 31 by omega)
      rw [Int32.lt_iff_toInt_lt] at q ⊢
      rw [show (0 : Int32).toInt = 0 from rfl] at q
      omega)
    obtain ⟨n, hn, rfl⟩ := nI_of z0
    refine h1 n ?_ ?_ ?_ rfl
    · rcases Nat.lt_or_ge n lo with q | q
      · exact absurd (nI_lt q (by omega)) z
      · exact q
    · rcases Nat.lt_or_ge hi n with q | q
      · exact absurd (nI_lt q hn) z2
      · exact q
    · rcases Nat.lt_or_ge b n with q | q
      · exact absurd (nI_lt q hn) z3
      · exact q
set_option maxHeartbeats 4000000 in
set_option maxRecDepth 100000 in
theorem k_Tape_byteAt {d : Nat} {h : zm_M} {R : zm_R} {B : zs_B} {i : Nat} (hp : h.2 1 0 = some 2) (hB : zc_B h.1 B) (hBw : zw_B B) (hi : i < B.1) (hR : R (some (.inl (nI (B.2 i)))) h) : zm_C (d + 1) TT m_Tape_byteAt [.inr (some 1), .inl (nI i)] h R := by
  have b260 := hBw.1
  have v1 : vp_in (nI i) 260 := vp_in_nI (by omega) (by decide)
  have c1 := nI_clamp (show i < 2 ^ 31 by omega)
  refine st_Tape_byteAt [] 30 ?_
  simp only [↓zq, ↓reduceIte, zr_si2, zr_sr1, zr_cp2, zr_tl, zr_tn, shq, List.contains_nil, List.contains_cons, Nat.reduceBEq, Bool.false_or, Bool.or_false, Bool.true_or, Bool.false_eq_true, if_false, if_true, true_and, and_true, List.set_cons_zero, List.set_cons_succ, List.length_cons, List.length_nil, Nat.reduceAdd, Nat.reduceLeDiff, Nat.le_refl, Nat.zero_le, true_or, or_true, zn_cl, ↓jj_Tape_byteAt, hp, hB.1, v1, c1]
  rw [hB.2 i hi]
  exact ⟨fun z => absurd z (nI_pos (by omega)), fun _ => ⟨fun z => absurd z (nI_ge hi (by omega)), fun _ => ⟨fun z => absurd z (nI_ge (b := 260) (by omega) (by decide)), fun _ => hR⟩⟩⟩
set_option maxHeartbeats 4000000 in
set_option maxRecDepth 100000 in
theorem k_Tape_clear {d : Nat} {h : zm_M} {R : zm_R} (hR : R none (zm_si h 1 1 0)) : zm_C (d + 1) TT m_Tape_clear [.inr (some 1)] h R := by
  refine st_Tape_clear [] 30 ?_
  simp only [↓zq, ↓reduceIte, zr_si2, zr_sr1, zr_cp2, zr_tl, zr_tn, shq, List.contains_nil, List.contains_cons, Nat.reduceBEq, Bool.false_or, Bool.or_false, Bool.true_or, Bool.false_eq_true, if_false, if_true, true_and, and_true, List.set_cons_zero, List.set_cons_succ, List.length_cons, List.length_nil, Nat.reduceAdd, Nat.reduceLeDiff, Nat.le_refl, Nat.zero_le, true_or, or_true, zn_cl, ↓jj_Tape_clear]
  exact hR
theorem zc_t_0 (h : zm_M) (k : Nat) (y : Int32) : zc_t h (zm_si h 1 k y) := ⟨rfl, fun a h1 _ => by funext j; rw [zr_si1, if_neg (fun z => h1 z.1)]⟩
theorem zc_B_0 {h : zm_M} {B : zs_B} : zc_B (zm_si h 1 1 0).1 (0, B.2) := ⟨by rw [zr_si1, if_pos ⟨rfl, rfl⟩]; rfl, fun k hk => absurd hk (Nat.not_lt_zero _)⟩
theorem zo_B_0 {h : zm_M} {B : zs_B} : zo_B (zm_si h 133 8 0).1 (0, B.2) := ⟨by rw [zr_si1, if_pos ⟨rfl, rfl⟩]; rfl, fun k hk => absurd hk (Nat.not_lt_zero _)⟩
theorem zw_B_0 {B : zs_B} : zw_B (0, B.2) := ⟨Nat.zero_le _, fun k hk => absurd hk (Nat.not_lt_zero _)⟩
theorem zs_mis_at {F : zs_F} {B : zs_B} : ∀ (n f s : Nat), zs_mis F B n f = some s → s < f + n := by
  intro n
  induction n with
  | zero => intro f s h; cases h
  | succ n ih =>
    intro f s h
    unfold zs_mis at h
    split at h
    · have := ih _ _ h; omega
    · cases h; omega
set_option maxHeartbeats 4000000 in
set_option maxRecDepth 100000 in
theorem k_KS_check {d : Nat} {h : zm_M} {R : zm_R} {pi : Nat → Nat} {w : Nat} {F : zs_F} {sp : Nat → Nat} {U : zs_U} {Q : zs_Q} {B : zs_B} {L : zs_L} {x : Nat} {K : zs_K} {v : Int32} (hC : zCC h pi w F sp U Q B L x K) (hR : ∀ h' : zm_M, zc_own h h' → zCC h' pi w F sp U Q (D_check F B v).2 L x K → R (some (.inl (D_check F B v).1)) h') : zm_C (d + 2) TT m_KS_check [.inr (some 0), .inl v] h R := by
  obtain ⟨p0, p1, p2, p4, p5, p6, p7, p9, p10, p11, p12, p14⟩ := zC_p hC.1
  have p10' : h.2 1 0 = some 2 := by have := hC.1.1; simp only [this]
  have fs := hC.1.2.2.1.1.1
  have f240 := hC.1.2.2.1.2.1
  obtain ⟨hB, hBw⟩ := hC.2.2.1
  have b1 := hB.1
  have b260 := hBw.1
  refine st_KS_check [22] 30 ?_
  simp only [↓zq, ↓reduceIte, zr_si2, zr_sr1, zr_cp2, zr_tl, zr_tn, shq, List.contains_nil, List.contains_cons, Nat.reduceBEq, Bool.false_or, Bool.or_false, Bool.true_or, Bool.false_eq_true, if_false, if_true, true_and, and_true, List.set_cons_zero, List.set_cons_succ, List.length_cons, List.length_nil, Nat.reduceAdd, Nat.reduceLeDiff, Nat.le_refl, Nat.zero_le, true_or, or_true, zn_cl, ↓jj_KS_check, p0]
  refine k_Tape_has (lo := 0) (hi := 240) (b := B.1) (by decide) (by decide) (by omega) b1 (fun n n0 n1 n2 en => ?_) (fun no => ?_)
  · subst en
    simp only [↓zq, ↓reduceIte, zr_si2, zr_sr1, zr_cp2, zr_tl, zr_tn, shq, List.contains_nil, List.contains_cons, Nat.reduceBEq, Bool.false_or, Bool.or_false, Bool.true_or, Bool.false_eq_true, if_false, if_true, true_and, and_true, List.set_cons_zero, List.set_cons_succ, List.length_cons, List.length_nil, Nat.reduceAdd, Nat.reduceLeDiff, Nat.le_refl, Nat.zero_le, true_or, or_true, zn_cl, ↓jj_KS_check]
    refine ⟨fun _ => ?_, fun z => absurd z (by decide)⟩
    have eD : D_check F B (nI n) = (match zs_mis F B n 0 with | none => -1 | some f => nI f, (0, B.2)) := by
      unfold D_check
      rw [zs_ix_of (by omega) (by decide)]
      dsimp only
      rw [if_neg (by omega)]
    rw [eD] at hR
    dsimp only at hR
    have hR' := hR _ (zc_t_0 h 1 0).own (zCC_B hC (zc_t_0 h 1 0) (zc_B_0 (B := B)) zw_B_0)
    have out : ∀ (f : Nat) (y : Int32) (l4 : Option zm_V), (nI n ≤ nI f ∨ ¬ y = -1) → (y = match zs_mis F B n 0 with | none => -1 | some f => nI f) → zm_W (zm_md m_KS_check) (d + 2) TT R 22 [some (.inr (some 0)), some (.inl (nI n)), some (.inl y), some (.inl (nI f)), l4] [] h := by
      intro f y l4 hy ey
      have cl : ∀ K : zm_R, K none (zm_si h 1 1 0) → zm_C (d + 1) TT m_Tape_clear [.inr (some 1)] h K := fun K hK => k_Tape_clear hK
      refine zm_go g_KS_check [22] 30 (by decide +kernel) ok_KS_check _ rfl ?_
      simp only [↓zq, ↓reduceIte, zr_si2, zr_sr1, zr_cp2, zr_tl, zr_tn, shq, List.contains_nil, List.contains_cons, Nat.reduceBEq, Bool.false_or, Bool.or_false, Bool.true_or, Bool.false_eq_true, if_false, if_true, true_and, and_true, List.set_cons_zero, List.set_cons_succ, List.length_cons, List.length_nil, Nat.reduceAdd, Nat.reduceLeDiff, Nat.le_refl, Nat.zero_le, true_or, or_true, zn_cl, ↓jj_KS_check, p0, p5, fs]
      refine ⟨fun _ => cl _ ?_, fun z => ⟨fun z2 => cl _ ?_, fun z2 => ?_⟩⟩
      · simp only [↓zq, ↓reduceIte, zr_si2, zr_sr1, zr_cp2, zr_tl, zr_tn, shq, List.contains_nil, List.contains_cons, Nat.reduceBEq, Bool.false_or, Bool.or_false, Bool.true_or, Bool.false_eq_true, if_false, if_true, true_and, and_true, List.set_cons_zero, List.set_cons_succ, List.length_cons, List.length_nil, Nat.reduceAdd, Nat.reduceLeDiff, Nat.le_refl, Nat.zero_le, true_or, or_true, zn_cl, ↓jj_KS_check]
        rw [ey]
        exact hR'
      · simp only [↓zq, ↓reduceIte, zr_si2, zr_sr1, zr_cp2, zr_tl, zr_tn, shq, List.contains_nil, List.contains_cons, Nat.reduceBEq, Bool.false_or, Bool.or_false, Bool.true_or, Bool.false_eq_true, if_false, if_true, true_and, and_true, List.set_cons_zero, List.set_cons_succ, List.length_cons, List.length_nil, Nat.reduceAdd, Nat.reduceLeDiff, Nat.le_refl, Nat.zero_le, true_or, or_true, zn_cl, ↓jj_KS_check]
        rw [ey]
        exact hR'
      · rcases hy with hy | hy
        · exact absurd hy z
        · exact absurd z2 hy
    have loop : ∀ (j f : Nat) (l4 : Option zm_V), f + j = n → zs_mis F B n 0 = zs_mis F B j f → zm_W (zm_md m_KS_check) (d + 2) TT R 22 [some (.inr (some 0)), some (.inl (nI n)), some (.inl (-1)), some (.inl (nI f)), l4] [] h := by
      intro j
      induction j with
      | zero =>
        intro f l4 hf he
        refine out f (-1) l4 (Or.inl (nI_le (by omega) (by omega))) ?_
        rw [he]
        rfl
      | succ j ih =>
        intro f l4 hf he
        have g1 := nI_ge (show f < n by omega) (by omega)
        have nx : ∀ l4, B.2 f = zs_mat F f → zm_W (zm_md m_KS_check) (d + 2) TT R 22 [some (.inr (some 0)), some (.inl (nI n)), some (.inl (-1)), some (.inl (nI (f + 1))), l4] [] h := fun l4 hy => by
          refine ih (f + 1) l4 (by omega) ?_
          rw [he]
          conv => lhs; unfold zs_mis
          rw [if_pos hy]
        have st : ∀ l4, ¬ B.2 f = zs_mat F f → zm_W (zm_md m_KS_check) (d + 2) TT R 22 [some (.inr (some 0)), some (.inl (nI n)), some (.inl (nI f)), some (.inl (nI (f + 1))), l4] [] h := fun l4 hy => by
          refine out (f + 1) (nI f) l4 (Or.inr (fun q => absurd (show nI f < 0 by rw [q]; decide) (nI_pos (by omega)))) ?_
          rw [he]
          conv => rhs; unfold zs_mis
          rw [if_neg hy]
        have bl : B.2 f < 256 := hBw.2 f (by omega)
        refine zm_go g_KS_check [22] 30 (by decide +kernel) ok_KS_check _ rfl ?_
        simp only [↓zq, ↓reduceIte, zr_si2, zr_sr1, zr_cp2, zr_tl, zr_tn, shq, List.contains_nil, List.contains_cons, Nat.reduceBEq, Bool.false_or, Bool.or_false, Bool.true_or, Bool.false_eq_true, if_false, if_true, true_and, and_true, List.set_cons_zero, List.set_cons_succ, List.length_cons, List.length_nil, Nat.reduceAdd, Nat.reduceLeDiff, Nat.le_refl, Nat.zero_le, true_or, or_true, zn_cl, ↓jj_KS_check, p0, p5, fs, g1, nI_1]
        simp only [not_false_eq_true, not_true_eq_false, false_imp_iff, true_imp_iff, forall_const, and_true, true_and, and_self, false_or, or_false, Int32.reduceLT, Int32.reduceLE, Int32.reduceSub, Int32.reduceAdd]
        refine ⟨fun z => ?_, fun z => ?_⟩
        · have zz : ¬ f < F.1 := fun q => nI_ge q (by omega) z
          have em : zs_mat F f = 255 := if_neg zz
          refine k_Tape_byteAt p10' hB hBw (by omega) ?_
          have ee : (nI (B.2 f) = 255) = (B.2 f = zs_mat F f) := by rw [em]; exact zn_eq (b := 255) (by omega) (by omega)
          simp only [↓zq, ↓reduceIte, zr_si2, zr_sr1, zr_cp2, zr_tl, zr_tn, shq, List.contains_nil, List.contains_cons, Nat.reduceBEq, Bool.false_or, Bool.or_false, Bool.true_or, Bool.false_eq_true, if_false, if_true, true_and, and_true, List.set_cons_zero, List.set_cons_succ, List.length_cons, List.length_nil, Nat.reduceAdd, Nat.reduceLeDiff, Nat.le_refl, Nat.zero_le, true_or, or_true, zn_cl, ↓jj_KS_check, ee, nI_1]
          exact ⟨fun q => nx _ q, fun q => st _ q⟩
        · have zz : f < F.1 := by
            rcases Nat.lt_or_ge f F.1 with q | q
            · exact q
            · exact absurd (nI_le q (by omega)) z
          have em : zs_mat F f = F.2.2 f := if_pos zz
          have ml : F.2.2 f < 100 := (hC.1.2.2.1.2.2 f zz).2.2.2
          refine k_Facts_measureAt hC.1.1 (by omega) ?_
          rw [(hC.1.2.2.1.1.2 f zz).2]
          simp only [↓zq, ↓reduceIte, zr_si2, zr_sr1, zr_cp2, zr_tl, zr_tn, shq, List.contains_nil, List.contains_cons, Nat.reduceBEq, Bool.false_or, Bool.or_false, Bool.true_or, Bool.false_eq_true, if_false, if_true, true_and, and_true, List.set_cons_zero, List.set_cons_succ, List.length_cons, List.length_nil, Nat.reduceAdd, Nat.reduceLeDiff, Nat.le_refl, Nat.zero_le, true_or, or_true, zn_cl, ↓jj_KS_check, p0]
          refine k_Tape_byteAt p10' hB hBw (by omega) ?_
          have ee : (nI (B.2 f) = nI (F.2.2 f)) = (B.2 f = zs_mat F f) := by rw [em]; exact zn_eq (by omega) (by omega)
          simp only [↓zq, ↓reduceIte, zr_si2, zr_sr1, zr_cp2, zr_tl, zr_tn, shq, List.contains_nil, List.contains_cons, Nat.reduceBEq, Bool.false_or, Bool.or_false, Bool.true_or, Bool.false_eq_true, if_false, if_true, true_and, and_true, List.set_cons_zero, List.set_cons_succ, List.length_cons, List.length_nil, Nat.reduceAdd, Nat.reduceLeDiff, Nat.le_refl, Nat.zero_le, true_or, or_true, zn_cl, ↓jj_KS_check, ee, nI_1]
          exact ⟨fun q => nx _ q, fun q => st _ q⟩
    exact loop n 0 none (by omega) rfl
  · simp only [↓zq, ↓reduceIte, zr_si2, zr_sr1, zr_cp2, zr_tl, zr_tn, shq, List.contains_nil, List.contains_cons, Nat.reduceBEq, Bool.false_or, Bool.or_false, Bool.true_or, Bool.false_eq_true, if_false, if_true, true_and, and_true, List.set_cons_zero, List.set_cons_succ, List.length_cons, List.length_nil, Nat.reduceAdd, Nat.reduceLeDiff, Nat.le_refl, Nat.zero_le, true_or, or_true, zn_cl, ↓jj_KS_check]
    refine ⟨fun z => (by first | exact absurd trivial z | exact absurd rfl z | exact absurd z (by decide)), fun _ => ?_⟩
    have eD : D_check F B v = (-2, B) := by
      unfold D_check
      rcases zs_cas v 241 (by decide) with ⟨n, hn, rfl⟩ | hno
      · rw [zs_ix_of hn (by decide)]
        dsimp only
        rw [if_pos]
        rcases Nat.lt_or_ge B.1 n with q | q
        · exact q
        · exact absurd (no n rfl (Nat.zero_le _) (by omega) q) id
      · rw [zs_ix_no hno]
    rw [eD] at hR
    exact hR h (zc_own.rf h) hC
set_option maxHeartbeats 4000000 in
set_option maxRecDepth 100000 in
theorem k_Mo_octet {d : Nat} {h : zm_M} {R : zm_R} {f : Nat} (hp : h.2 133 7 = some 137) (hf : f < 260) (hR : R (some (.inl (h.1 137 f &&& 255))) h) : zm_C (d + 1) TT m_Mo_octet [.inr (some 133), .inl (nI f)] h R := by
  have v1 : vp_in (nI f) 260 := vp_in_nI hf (by decide)
  have c1 := nI_clamp (show f < 2 ^ 31 by omega)
  refine st_Mo_octet [] 30 ?_
  simp only [↓zq, ↓reduceIte, zr_si2, zr_sr1, zr_cp2, zr_tl, zr_tn, shq, List.contains_nil, List.contains_cons, Nat.reduceBEq, Bool.false_or, Bool.or_false, Bool.true_or, Bool.false_eq_true, if_false, if_true, true_and, and_true, List.set_cons_zero, List.set_cons_succ, List.length_cons, List.length_nil, Nat.reduceAdd, Nat.reduceLeDiff, Nat.le_refl, Nat.zero_le, true_or, or_true, zn_cl, ↓jj_Mo_octet, hp, v1, c1]
  exact hR
theorem zo_t_0 (h : zm_M) (y : Int32) : zo_t h (zm_si h 133 8 y) := ⟨rfl, fun a h1 _ => by funext j; rw [zr_si1, if_neg (fun z => h1 z.1)], fun k hk => by rw [zr_si1, if_neg (fun z => hk z.2)]⟩
set_option maxHeartbeats 4000000 in
set_option maxRecDepth 100000 in
theorem k_Mo_check {d : Nat} {h : zm_M} {R : zm_R} {n0 : Nat} {F : zs_F} {sp : Nat → Nat} {U : zs_U} {Q : zs_Q} {B : zs_B} {L : zs_L} {x : Nat} {K : zs_K} {v : Int32} (hO : zOO h n0 F sp U Q B L x K) (hR : ∀ h' : zm_M, zo_own h h' → zOO h' n0 F sp U Q (D_check F B v).2 L x K → R (some (.inl (D_check F B v).1)) h') : zm_C (d + 2) TT m_Mo_check [.inr (some 133), .inl v] h R := by
  have hp := hO.1.1
  have p7 : h.2 133 7 = some 137 := by simp only [hp]
  have p4 : h.2 133 4 = some 134 := by simp only [hp]
  have fs := hO.1.2.1.1.1
  have f240 := hO.1.2.1.2.1
  obtain ⟨hB, hBw⟩ := hO.2.1
  have b1 := hB.1
  have b260 := hBw.1
  have bad : (∀ n, v = nI n → n ≤ 240 → n ≤ B.1 → False) → R (some (.inl (-2))) h := fun no => by
    have eD : D_check F B v = (-2, B) := by
      unfold D_check
      rcases zs_cas v 241 (by decide) with ⟨n, hn, rfl⟩ | hno
      · rw [zs_ix_of hn (by decide)]
        dsimp only
        rw [if_pos]
        rcases Nat.lt_or_ge B.1 n with q | q
        · exact q
        · exact absurd (no n rfl (by omega) q) id
      · rw [zs_ix_no hno]
    rw [eD] at hR
    exact hR h (zo_own.rf h) hO
  refine st_Mo_check [29] 30 ?_
  simp only [↓zq, ↓reduceIte, zr_si2, zr_sr1, zr_cp2, zr_tl, zr_tn, shq, List.contains_nil, List.contains_cons, Nat.reduceBEq, Bool.false_or, Bool.or_false, Bool.true_or, Bool.false_eq_true, if_false, if_true, true_and, and_true, List.set_cons_zero, List.set_cons_succ, List.length_cons, List.length_nil, Nat.reduceAdd, Nat.reduceLeDiff, Nat.le_refl, Nat.zero_le, true_or, or_true, zn_cl, ↓jj_Mo_check]
  refine k_Mo_in0 240 (by decide) (fun n hn en => ?_) (fun z => ?_)
  · subst en
    simp only [↓zq, ↓reduceIte, zr_si2, zr_sr1, zr_cp2, zr_tl, zr_tn, shq, List.contains_nil, List.contains_cons, Nat.reduceBEq, Bool.false_or, Bool.or_false, Bool.true_or, Bool.false_eq_true, if_false, if_true, true_and, and_true, List.set_cons_zero, List.set_cons_succ, List.length_cons, List.length_nil, Nat.reduceAdd, Nat.reduceLeDiff, Nat.le_refl, Nat.zero_le, true_or, or_true, zn_cl, ↓jj_Mo_check, b1]
    refine ⟨fun z => absurd z (by decide), fun _ => ⟨fun zb => ?_, fun zb => bad (fun m em _ h2 => ?_)⟩⟩
    · have nb : n ≤ B.1 := by
        rcases Nat.lt_or_ge B.1 n with q | q
        · exact absurd zb (nI_ge q (by omega))
        · exact q
      have eD : D_check F B (nI n) = (match zs_mis F B n 0 with | none => -1 | some f => nI f, (0, B.2)) := by
        unfold D_check
        rw [zs_ix_of (by omega) (by decide)]
        dsimp only
        rw [if_neg (by omega)]
      rw [eD] at hR
      dsimp only at hR
      have hR' := hR _ (zo_t_0 h 0).own (zOO_B hO (zo_t_0 h 0) (zo_B_0 (B := B)) zw_B_0)
      have loop : ∀ (j f : Nat), f + j = n → zs_mis F B n 0 = zs_mis F B j f → zm_W (zm_md m_Mo_check) (d + 2) TT R 29 [some (.inr (some 133)), some (.inl (nI n)), some (.inl (nI f))] [] (zm_si h 133 8 0) := by
        intro j
        induction j with
        | zero =>
          intro f hf he
          rw [he] at hR'
          have : f = n := by omega
          subst this
          refine zm_go g_Mo_check [29] 30 (by decide +kernel) ok_Mo_check _ rfl ?_
          simp only [↓zq, ↓reduceIte, zr_si2, zr_sr1, zr_cp2, zr_tl, zr_tn, shq, List.contains_nil, List.contains_cons, Nat.reduceBEq, Bool.false_or, Bool.or_false, Bool.true_or, Bool.false_eq_true, if_false, if_true, true_and, and_true, List.set_cons_zero, List.set_cons_succ, List.length_cons, List.length_nil, Nat.reduceAdd, Nat.reduceLeDiff, Nat.le_refl, Nat.zero_le, true_or, or_true, zn_cl, ↓jj_Mo_check]
          exact ⟨fun _ => hR', fun z => absurd (Int32.le_refl _) z⟩
        | succ j ih =>
          intro f hf he
          have g1 := nI_ge (show f < n by omega) (by omega)
          have fs' : (zm_si h 133 8 0).1 133 1 = nI F.1 := by rw [zr_si1, if_neg (by omega)]; exact fs
          have nx : B.2 f = zs_mat F f → zm_W (zm_md m_Mo_check) (d + 2) TT R 29 [some (.inr (some 133)), some (.inl (nI n)), some (.inl (nI (f + 1)))] [] (zm_si h 133 8 0) := fun hy => by
            refine ih (f + 1) (by omega) ?_
            rw [he]
            conv => lhs; unfold zs_mis
            rw [if_pos hy]
          have st : ¬ B.2 f = zs_mat F f → R (some (.inl (nI f))) (zm_si h 133 8 0) := fun hy => by
            rw [he] at hR'
            unfold zs_mis at hR'
            rw [if_neg hy] at hR'
            exact hR'
          have bl : B.2 f < 256 := hBw.2 f (by omega)
          refine zm_go g_Mo_check [29] 30 (by decide +kernel) ok_Mo_check _ rfl ?_
          simp only [↓zq, ↓reduceIte, zr_si2, zr_sr1, zr_cp2, zr_tl, zr_tn, shq, List.contains_nil, List.contains_cons, Nat.reduceBEq, Bool.false_or, Bool.or_false, Bool.true_or, Bool.false_eq_true, if_false, if_true, true_and, and_true, List.set_cons_zero, List.set_cons_succ, List.length_cons, List.length_nil, Nat.reduceAdd, Nat.reduceLeDiff, Nat.le_refl, Nat.zero_le, true_or, or_true, zn_cl, ↓jj_Mo_check, fs', g1]
          simp only [not_false_eq_true, not_true_eq_false, false_imp_iff, true_imp_iff, forall_const, and_true, true_and, and_self, false_or, or_false, Int32.reduceLT, Int32.reduceLE, Int32.reduceSub, Int32.reduceAdd]
          refine k_Mo_octet p7 (by omega) ?_
          rw [show (zm_si h 133 8 0).1 137 f = h.1 137 f by rw [zr_si1, if_neg (by omega)], hB.2 f (by omega)]
          simp only [↓zq, ↓reduceIte, zr_si2, zr_sr1, zr_cp2, zr_tl, zr_tn, shq, List.contains_nil, List.contains_cons, Nat.reduceBEq, Bool.false_or, Bool.or_false, Bool.true_or, Bool.false_eq_true, if_false, if_true, true_and, and_true, List.set_cons_zero, List.set_cons_succ, List.length_cons, List.length_nil, Nat.reduceAdd, Nat.reduceLeDiff, Nat.le_refl, Nat.zero_le, true_or, or_true, zn_cl, ↓jj_Mo_check, fs', nI_1]
          refine ⟨fun z => ?_, fun z => ?_⟩
          · have zz : ¬ f < F.1 := fun q => nI_ge q (by omega) z
            have em : zs_mat F f = 255 := if_neg zz
            have ee : (nI (B.2 f) = 255) = (B.2 f = zs_mat F f) := by rw [em]; exact zn_eq (b := 255) (by omega) (by omega)
            rw [ee]
            exact ⟨nx, st⟩
          · have zz : f < F.1 := by
              rcases Nat.lt_or_ge f F.1 with q | q
              · exact q
              · exact absurd (nI_le q (by omega)) z
            have em : zs_mat F f = F.2.2 f := if_pos zz
            have ml : F.2.2 f < 100 := (hO.1.2.1.2.2 f zz).2.2.2
            refine k_Mo_ofFact (k := 3) p4 (by omega) (by decide) ?_
            rw [show (zm_si h 133 8 0).1 134 (4 * f + 3) = h.1 134 (4 * f + 3) by rw [zr_si1, if_neg (by omega)], (hO.1.2.1.1.2 f zz).2.2.2]
            have ee : (nI (B.2 f) = nI (F.2.2 f)) = (B.2 f = zs_mat F f) := by rw [em]; exact zn_eq (by omega) (by omega)
            simp only [↓zq, ↓reduceIte, zr_si2, zr_sr1, zr_cp2, zr_tl, zr_tn, shq, List.contains_nil, List.contains_cons, Nat.reduceBEq, Bool.false_or, Bool.or_false, Bool.true_or, Bool.false_eq_true, if_false, if_true, true_and, and_true, List.set_cons_zero, List.set_cons_succ, List.length_cons, List.length_nil, Nat.reduceAdd, Nat.reduceLeDiff, Nat.le_refl, Nat.zero_le, true_or, or_true, zn_cl, ↓jj_Mo_check, ee, nI_1]
            exact ⟨nx, st⟩
      exact loop n 0 (by omega) rfl
    · have : m = n := by
        rcases Nat.lt_or_ge m (2 ^ 31) with q | q
        · exact ((nI_eq (by omega) q).mp em).symm
        · omega
      subst this
      exact zb (nI_le h2 (by omega))
  · simp only [↓zq, ↓reduceIte, zr_si2, zr_sr1, zr_cp2, zr_tl, zr_tn, shq, List.contains_nil, List.contains_cons, Nat.reduceBEq, Bool.false_or, Bool.or_false, Bool.true_or, Bool.false_eq_true, if_false, if_true, true_and, and_true, List.set_cons_zero, List.set_cons_succ, List.length_cons, List.length_nil, Nat.reduceAdd, Nat.reduceLeDiff, Nat.le_refl, Nat.zero_le, true_or, or_true, zn_cl, ↓jj_Mo_check]
    refine ⟨fun _ => bad (fun n en h1 _ => ?_), fun z => (by first | exact absurd trivial z | exact absurd rfl z | exact absurd z (by decide))⟩
    subst en
    rw [zs_ix_of (by omega) (by decide)] at z
    cases z
