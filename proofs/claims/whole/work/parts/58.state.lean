/-! the whole state, as the class and as the reference hold it -/
def zc_W (P : Nat → Nat → Option Nat) (w : Nat) : Prop := (w = 4 ∧ P 0 3 = some 4 ∧ P 3 1 = some 19) ∨ (w = 19 ∧ P 0 3 = some 19 ∧ P 3 1 = some 4)
def zCC (h : zm_M) (pi : Nat → Nat) (w : Nat) (F : zs_F) (sp : Nat → Nat) (U : zs_U) (Q : zs_Q) (B : zs_B) (L : zs_L) (x : Nat) (K : zs_K) : Prop := zC h pi F sp U Q ∧ zc_N h.1 ∧ (zc_B h.1 B ∧ zw_B B) ∧ (zc_W h.2 w ∧ zc_L h.1 w L ∧ zw_L L) ∧ (h.1 0 13 = nI x ∧ x < 65536) ∧ zc_K h.1 sp F K ∧ zw_K F.1 K
def zOO (h : zm_M) (c : Nat) (F : zs_F) (sp : Nat → Nat) (U : zs_U) (Q : zs_Q) (B : zs_B) (L : zs_L) (x : Nat) (K : zs_K) : Prop := zO h F sp U Q ∧ (zo_B h.1 B ∧ zw_B B) ∧ (zo_L h.1 L ∧ zw_L L) ∧ (h.1 133 0 = nI x ∧ x < 65536) ∧ zo_K h.1 c F K ∧ zw_K F.1 K
/-- the class leaves the reference's cells alone -/
def zc_own (h h' : zm_M) : Prop := ∀ a, 133 ≤ a → h'.1 a = h.1 a ∧ h'.2 a = h.2 a
/-- the reference leaves the class's cells alone -/
def zo_own (h h' : zm_M) : Prop := h'.2 = h.2 ∧ ∀ a, a < 133 → h'.1 a = h.1 a
theorem zc_own.rf (h : zm_M) : zc_own h h := fun _ _ => ⟨rfl, rfl⟩
theorem zc_own.tr {h h' h'' : zm_M} (a : zc_own h h') (b : zc_own h' h'') : zc_own h h'' := fun x hx => ⟨(b x hx).1.trans (a x hx).1, (b x hx).2.trans (a x hx).2⟩
theorem zo_own.rf (h : zm_M) : zo_own h h := ⟨rfl, fun _ _ => rfl⟩
theorem zo_own.tr {h h' h'' : zm_M} (a : zo_own h h') (b : zo_own h' h'') : zo_own h h'' := ⟨b.1.trans a.1, fun x hx => (b.2 x hx).trans (a.2 x hx)⟩
theorem zc_fr.own {h h' : zm_M} (a : zc_fr h h') : zc_own h h' := fun x hx => ⟨a.2 x (by unfold zc_sc; omega), by rw [a.1]⟩
theorem zo_fr.own {h h' : zm_M} (a : zo_fr h h') : zo_own h h' := ⟨a.1, fun x hx => a.2.1 x (by unfold zo_keep; omega)⟩
/-- of the class's state nothing depends on the reference's cells -/
theorem zC_of {h h' : zm_M} {pi : Nat → Nat} {F : zs_F} {sp : Nat → Nat} {U : zs_U} {Q : zs_Q} (hP : ∀ a, a < 133 → h'.2 a = h.2 a) (hI : ∀ a, (29 ≤ a ∧ a ≤ 32) ∨ (36 ≤ a ∧ a ≤ 72) → h'.1 a = h.1 a) (h8 : h'.1 0 8 = h.1 0 8) (hC : zC h pi F sp U Q) : zC h' pi F sp U Q := by
  obtain ⟨c1, c2, ⟨c3, c4⟩, ⟨c5, c6⟩, ⟨c7, c8⟩, c9, c10⟩ := hC
  refine ⟨?_, ?_, ⟨?_, c4⟩, ⟨?_, c6⟩, ⟨⟨?_, fun s hs => ?_⟩, c8⟩, ⟨?_, fun hq => ?_⟩, c10⟩
  · have e : ∀ a j, a < 133 → h'.2 a j = h.2 a j := fun a j ha => by rw [hP a ha]
    unfold zp_ok at c1 ⊢
    simp only [e _ _ (show 0 < 133 by decide), e 1 _ (by decide), e 3 _ (by decide), e 4 _ (by decide), e 13 _ (by decide), e 14 _ (by decide), e 16 _ (by decide), e 19 _ (by decide), e 28 _ (by decide), e 30 _ (by decide), e 36 _ (by decide), e 38 _ (by decide), e 39 _ (by decide), e 42 _ (by decide), e 43 _ (by decide), e 46 _ (by decide), e 47 _ (by decide), e 50 _ (by decide), e 51 _ (by decide), e 54 _ (by decide), e 55 _ (by decide), e 58 _ (by decide), e 59 _ (by decide), e 62 _ (by decide), e 63 _ (by decide), e 66 _ (by decide), e 67 _ (by decide), e 70 _ (by decide), e 73 _ (by decide), e 79 _ (by decide), e 85 _ (by decide), e 91 _ (by decide), e 99 _ (by decide), e 100 _ (by decide), e 101 _ (by decide), e 102 _ (by decide), e 105 _ (by decide), e 106 _ (by decide), e 109 _ (by decide), e 110 _ (by decide), e 113 _ (by decide), e 114 _ (by decide), e 117 _ (by decide), e 118 _ (by decide), e 121 _ (by decide), e 122 _ (by decide), e 125 _ (by decide), e 126 _ (by decide), e 129 _ (by decide), e 130 _ (by decide)]
    exact c1
  · unfold zc_P
    rw [hP 37 (by decide)]
    exact c2
  · unfold zc_F
    rw [hI 30 (by omega), hI 31 (by omega), hI 32 (by omega)]
    exact c3
  · unfold zc_S
    rw [hI 29 (by omega)]
    exact c5
  · rw [hI 36 (by omega)]
    exact c7.1
  · have := (c2.1 s (by have := c8.1; omega)).2
    have hY := c7.2 s hs
    dsimp only at hY ⊢
    unfold zc_Y zc_R at hY ⊢
    rw [hI _ (by omega), hI _ (by omega), hI _ (by omega), hI _ (by omega)]
    exact hY
  · rw [h8]
    exact c9.1
  · obtain ⟨q1, q2⟩ := c9.2 hq
    refine ⟨zc_R_fr q1 (hI _ (by omega)) (hI _ (by omega)), ?_⟩
    rw [hI 70 (by omega)]
    exact q2
theorem zc_K_of {I I' : Nat → Nat → Int32} {sp : Nat → Nat} {F : zs_F} {K : zs_K} (hI : ∀ a, 99 ≤ a → a < 133 → I' a = I a) (h0 : ∀ k, 15 ≤ k → k ≤ 17 → I' 0 k = I 0 k) (hw : zw_K F.1 K) (hK : zc_K I sp F K) : zc_K I' sp F K := by
  refine ⟨fun z => ?_, fun z => ?_⟩
  · rw [h0 15 (by omega) (by omega)]
    exact hK.1 z
  · obtain ⟨k1, k2, k3, k4⟩ := hK.2 z
    refine ⟨?_, ?_, ?_, fun y => ?_⟩
    · rw [h0 15 (by omega) (by omega)]
      exact k1
    · rw [h0 16 (by omega) (by omega)]
      exact k2
    · rw [h0 17 (by omega) (by omega)]
      exact k3
    · obtain ⟨u1, u2⟩ := k4 y
      have w8 := ((hw z).2.2 y).1
      refine ⟨?_, fun s hs => ?_⟩
      · rw [hI 99 (by omega) (by omega)]
        exact u1
      · have hY := u2 s hs
        dsimp only at hY ⊢
        unfold zc_Y zc_R at hY ⊢
        rw [hI _ (by omega) (by omega), hI _ (by omega) (by omega), hI _ (by omega) (by omega), hI _ (by omega) (by omega)]
        exact hY
theorem zc_L_of {I I' : Nat → Nat → Int32} {w : Nat} {L : zs_L} (hI : ∀ a, w < a → a ≤ w + 6 → I' a = I a) (h7 : I' w 7 = I w 7) (hL : zc_L I w L) : zc_L I' w L := by
  unfold zc_L
  rw [h7, hI (w + 1) (by omega) (by omega), hI (w + 2) (by omega) (by omega), hI (w + 3) (by omega) (by omega), hI (w + 4) (by omega) (by omega), hI (w + 5) (by omega) (by omega), hI (w + 6) (by omega) (by omega)]
  exact hL
theorem zc_N_of {I I' : Nat → Nat → Int32} (h : I' 93 = I 93) (hN : zc_N I) : zc_N I' := by
  unfold zc_N
  rw [h]
  exact hN
theorem zc_B_of {I I' : Nat → Nat → Int32} {B : zs_B} (h1 : I' 1 1 = I 1 1) (h2 : I' 2 = I 2) (hB : zc_B I B) : zc_B I' B := by
  unfold zc_B
  rw [h1, h2]
  exact hB
theorem zc_W_of {P P' : Nat → Nat → Option Nat} {w : Nat} (h0 : P' 0 = P 0) (h3 : P' 3 = P 3) (hW : zc_W P w) : zc_W P' w := by
  unfold zc_W
  rw [h0, h3]
  exact hW
theorem zc_W_or {P : Nat → Nat → Option Nat} {w : Nat} (hW : zc_W P w) : (w = 4 ∨ w = 19) ∧ P 0 3 = some w := by
  rcases hW with ⟨rfl, h1, h2⟩ | ⟨rfl, h1, h2⟩
  · exact ⟨Or.inl rfl, h1⟩
  · exact ⟨Or.inr rfl, h1⟩
/-- what scratch changes leaves the state as it was -/
theorem zCC_fr {h h' : zm_M} {pi : Nat → Nat} {w : Nat} {F : zs_F} {sp : Nat → Nat} {U : zs_U} {Q : zs_Q} {B : zs_B} {L : zs_L} {x : Nat} {K : zs_K} (hf : zc_fr h h') (hC : zCC h pi w F sp U Q B L x K) : zCC h' pi w F sp U Q B L x K := by
  obtain ⟨c1, c2, ⟨c3, c3w⟩, ⟨c4, c5, c5w⟩, ⟨c6, c6w⟩, c7, c7w⟩ := hC
  have e : ∀ a, ¬ zc_sc a → h'.1 a = h.1 a := hf.2
  have hw := (zc_W_or c4).1
  refine ⟨zC_fr hf c1, zc_N_of (e 93 (by unfold zc_sc; omega)) c2, ⟨zc_B_of (by rw [e 1 (by unfold zc_sc; omega)]) (e 2 (by unfold zc_sc; omega)) c3, c3w⟩, ⟨zc_W_of (by rw [hf.1]) (by rw [hf.1]) c4, zc_L_of (fun a h1 h2 => e a (by unfold zc_sc; omega)) (by rw [e w (by unfold zc_sc; omega)]) c5, c5w⟩, ⟨?_, c6w⟩, zc_K_of (fun a h1 h2 => e a (by unfold zc_sc; omega)) (fun k _ _ => by rw [e 0 (by unfold zc_sc; omega)]) c7w c7, c7w⟩
  rw [e 0 (by unfold zc_sc; omega)]
  exact c6
/-- the reference's doings leave the class's state as it was -/
theorem zCC_own {h h' : zm_M} {pi : Nat → Nat} {w : Nat} {F : zs_F} {sp : Nat → Nat} {U : zs_U} {Q : zs_Q} {B : zs_B} {L : zs_L} {x : Nat} {K : zs_K} (hf : zo_own h h') (hC : zCC h pi w F sp U Q B L x K) : zCC h' pi w F sp U Q B L x K := by
  obtain ⟨c1, c2, ⟨c3, c3w⟩, ⟨c4, c5, c5w⟩, ⟨c6, c6w⟩, c7, c7w⟩ := hC
  have e := hf.2
  have hw := (zc_W_or c4).1
  refine ⟨zC_of (fun a _ => by rw [hf.1]) (fun a ha => e a (by omega)) (by rw [e 0 (by omega)]) c1, zc_N_of (e 93 (by omega)) c2, ⟨zc_B_of (by rw [e 1 (by omega)]) (e 2 (by omega)) c3, c3w⟩, ⟨zc_W_of (by rw [hf.1]) (by rw [hf.1]) c4, zc_L_of (fun a h1 h2 => e a (by omega)) (by rw [e w (by omega)]) c5, c5w⟩, ⟨?_, c6w⟩, zc_K_of (fun a h1 h2 => e a (by omega)) (fun k _ _ => by rw [e 0 (by omega)]) c7w c7, c7w⟩
  rw [e 0 (by omega)]
  exact c6
theorem zO_of {h h' : zm_M} {F : zs_F} {sp : Nat → Nat} {U : zs_U} {Q : zs_Q} (hP : h'.2 133 = h.2 133) (hI : ∀ a, (134 ≤ a ∧ a ≤ 136) ∨ a = 153 → h'.1 a = h.1 a) (h0 : ∀ k, k = 1 ∨ k = 2 ∨ k = 36 → h'.1 133 k = h.1 133 k) (hO : zO h F sp U Q) : zO h' F sp U Q := by
  obtain ⟨o1, ⟨o2, o2w⟩, ⟨o3, o3w⟩, ⟨o4, o4w⟩, o5, o6⟩ := hO
  refine ⟨?_, ⟨?_, o2w⟩, ⟨?_, o3w⟩, ⟨?_, o4w⟩, ?_, o6⟩
  · unfold zp_mo
    rw [hP]
    exact o1
  · unfold zo_F
    rw [h0 1 (by omega), hI 134 (by omega)]
    exact o2
  · unfold zo_S
    rw [hI 136 (by omega)]
    exact o3
  · unfold zo_U
    rw [h0 2 (by omega), hI 135 (by omega)]
    exact o4
  · unfold zo_Q
    rw [h0 36 (by omega), hI 153 (by omega)]
    exact o5
theorem zo_L_of {I I' : Nat → Nat → Int32} {L : zs_L} (hI : ∀ a, 144 ≤ a → a ≤ 148 → I' a = I a) (h7 : I' 133 17 = I 133 17) (hL : zo_L I L) : zo_L I' L := by
  unfold zo_L
  rw [h7, hI 144 (by omega) (by omega), hI 145 (by omega) (by omega), hI 146 (by omega) (by omega), hI 147 (by omega) (by omega), hI 148 (by omega) (by omega)]
  exact hL
theorem zo_B_of {I I' : Nat → Nat → Int32} {B : zs_B} (h1 : I' 133 8 = I 133 8) (h2 : I' 137 = I 137) (hB : zo_B I B) : zo_B I' B := by
  unfold zo_B
  rw [h1, h2]
  exact hB
theorem zo_K_of {I I' : Nat → Nat → Int32} {c : Nat} {F : zs_F} {K : zs_K} (hI : ∀ a, a = 134 ∨ a = 169 ∨ a = 170 → I' a = I a) (h0 : ∀ k, k = 3 ∨ 53 ≤ k → I' 133 k = I 133 k) (hK : zo_K I c F K) : zo_K I' c F K := by
  unfold zo_K
  rw [h0 3 (by omega), h0 53 (by omega), h0 57 (by omega), h0 54 (by omega), h0 56 (by omega), h0 55 (by omega), hI 134 (by omega), hI 169 (by omega), hI 170 (by omega)]
  exact hK
theorem zOO_fr {h h' : zm_M} {c : Nat} {F : zs_F} {sp : Nat → Nat} {U : zs_U} {Q : zs_Q} {B : zs_B} {L : zs_L} {x : Nat} {K : zs_K} (hf : zo_fr h h') (hO : zOO h c F sp U Q B L x K) : zOO h' c F sp U Q B L x K := by
  obtain ⟨c1, ⟨c3, c3w⟩, ⟨c5, c5w⟩, ⟨c6, c6w⟩, c7, c7w⟩ := hO
  have e := hf.2.1
  have e0 := hf.2.2
  refine ⟨zO_fr hf c1, ⟨zo_B_of (e0 8 (by unfold zo_ks; omega)) (e 137 (by unfold zo_keep; omega)) c3, c3w⟩, ⟨zo_L_of (fun a h1 h2 => e a (by unfold zo_keep; omega)) (e0 17 (by unfold zo_ks; omega)) c5, c5w⟩, ⟨?_, c6w⟩, zo_K_of (fun a ha => e a (by unfold zo_keep; omega)) (fun k hk => e0 k (by unfold zo_ks; omega)) c7, c7w⟩
  rw [e0 0 (by unfold zo_ks; omega)]
  exact c6
theorem zOO_own {h h' : zm_M} {c : Nat} {F : zs_F} {sp : Nat → Nat} {U : zs_U} {Q : zs_Q} {B : zs_B} {L : zs_L} {x : Nat} {K : zs_K} (hf : zc_own h h') (hO : zOO h c F sp U Q B L x K) : zOO h' c F sp U Q B L x K := by
  obtain ⟨c1, ⟨c3, c3w⟩, ⟨c5, c5w⟩, ⟨c6, c6w⟩, c7, c7w⟩ := hO
  have e : ∀ a, 133 ≤ a → h'.1 a = h.1 a := fun a ha => (hf a ha).1
  refine ⟨zO_of (hf 133 (by omega)).2 (fun a ha => e a (by omega)) (fun k _ => by rw [e 133 (by omega)]) c1, ⟨zo_B_of (by rw [e 133 (by omega)]) (e 137 (by omega)) c3, c3w⟩, ⟨zo_L_of (fun a h1 h2 => e a (by omega)) (by rw [e 133 (by omega)]) c5, c5w⟩, ⟨?_, c6w⟩, zo_K_of (fun a ha => e a (by omega)) (fun k hk => by rw [e 133 (by omega)]) c7, c7w⟩
  rw [e 133 (by omega)]
  exact c6
