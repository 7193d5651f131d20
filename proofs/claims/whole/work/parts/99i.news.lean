/-! rows that make cells, rows that call -/
theorem yi_D {A : Nat → Prop} {G : zm_G} {b n : Nat} {h : zm_M} (hn : n ≤ 171) (hA : ∀ a, a < n → A (b + a)) : va_D A (yi_w G b n h) := by
  refine ⟨fun i j p q hi hj hpq => ?_, fun k q hk => ?_⟩
  · obtain ⟨l1, rfl⟩ := zm_w_of hi
    obtain ⟨l2, rfl⟩ := zm_w_of hj
    have h9 : b + i = b + j := hpq
    omega
  · obtain ⟨l1, rfl⟩ := zm_w_of hk
    rw [yi_len hn] at l1
    exact hA k l1
theorem yi_D_of {A : Nat → Prop} {G : zm_G} {b n : Nat} {h : zm_M} (hn : n ≤ 171) (hD : va_D A (yi_w G b n h)) : ∀ a, a < n → A (b + a) := fun a ha => hD.2 a _ (zm_w_at (by rw [yi_len hn]; exact ha))
theorem yi_nw1 (h : zm_M) (n : Nat) : (yi_nw h n).1 n = fun _ => 0 := by
  funext j
  simp [yi_nw]
theorem yi_nw2 (h : zm_M) (n : Nat) : (yi_nw h n).2 n = fun _ => none := by
  funext j
  simp [yi_nw]
theorem yi_ai : Cond.arrayClass .int ∈ lw_tbl ∧ Cond.arrayClass .byte ∈ lw_tbl := by
  constructor <;> decide +kernel
set_option maxHeartbeats 4000000 in
theorem yi_na {q : zm_D} {d n0 n1 : Nat} {R : zm_M → Prop} {pc : Nat} {ls : zm_L} {st : List zm_V} {n : Nat} {h : zm_M} {x : Int32} {N : Nat} (hd : decode q.2.1 pc = .ok (.newarray .int, 2)) (hx : nI N = x) (hN : N ≤ 1000) (hsh : zm_sh TT n = (0, N)) (hn1 : n < n1) (h71 : n1 ≤ 171) (kk : yi_W q d n0 n1 R (pc + 2) ls (.inr (some n) :: st) (n + 1) (yi_nw h n)) : yi_W q d n0 n1 R pc ls (.inl x :: st) n h := by
  intro p l e s m args below meth c D G b A H locs lr hX hO hnm hs hle hn hP hD hS hl
  obtain ⟨hx', hb, hml, hr, hlocks, hown, hts, hKK, hN', hA⟩ := id hX
  subst hx
  refine yi_sz hs hle hn hP hS (fun hz => ?_)
  have hsl : yi_S (n + 1) = yi_S n + N := by
    rw [yi_S_suc (by omega), hsh]
    rfl
  have hs1 := yi_S_le (show n + 1 ≤ n1 by omega) h71
  have hs0 := yi_S_le hle hn
  refine va_newaK (atype := .int) (N := N) hx' hb (hts _ (zm_in yi_ai.1 rfl)) rfl hd rfl (nI_pos (by omega)) (nI_clamp (by omega)) (by show N * 4 ≤ _; omega) (by simp only [yi_rm]; omega) (by simp only [yi_rm]; omega) hz (fun H1 cA e1 z1 o1 hAr hNm => ?_)
  have hc : cA = G.1 := Option.some.inj (hNm.symm.trans (hKK.2 0 _ rfl).2)
  obtain ⟨hP1, hD1, hS1⟩ := yi_more (D := D) (G := G) (b := b) (A := A) (H := H) (H1 := H1) (H0 := s.heap) (locs := locs) (h := h) (by omega) hz (by rw [z1, hz]) (by rw [hz]; exact o1) hA hP hD hS (by
    rw [hsh, zm_e_0 rfl, yi_nw1, ← hc]
    show H1[b + n]? = some (vp_cell cA (N, .inl fun _ => 0))
    rw [vp_cell_i]
    exact e1)
  have h9 := kk p l e s m args below meth c D G b A H1 locs lr hX hO hnm hs (by omega) (by omega) hP1 hD1 hS1 hl
  rw [show n + 1 - n0 = n - n0 + 1 by omega, show yi_S (n + 1) - yi_S n0 = yi_S n - yi_S n0 + N by omega] at h9
  exact h9
set_option maxHeartbeats 4000000 in
theorem yi_nb {q : zm_D} {d n0 n1 : Nat} {R : zm_M → Prop} {pc : Nat} {ls : zm_L} {st : List zm_V} {n : Nat} {h : zm_M} {x : Int32} {N : Nat} (hd : decode q.2.1 pc = .ok (.newarray .byte, 2)) (hx : nI N = x) (hN : N ≤ 1000) (hsh : zm_sh TT n = (1, N)) (hn1 : n < n1) (h71 : n1 ≤ 171) (kk : yi_W q d n0 n1 R (pc + 2) ls (.inr (some n) :: st) (n + 1) (yi_nw h n)) : yi_W q d n0 n1 R pc ls (.inl x :: st) n h := by
  intro p l e s m args below meth c D G b A H locs lr hX hO hnm hs hle hn hP hD hS hl
  obtain ⟨hx', hb, hml, hr, hlocks, hown, hts, hKK, hN', hA⟩ := id hX
  subst hx
  refine yi_sz hs hle hn hP hS (fun hz => ?_)
  have hsl : yi_S (n + 1) = yi_S n + N := by
    rw [yi_S_suc (by omega), hsh]
    rfl
  have hs1 := yi_S_le (show n + 1 ≤ n1 by omega) h71
  have hs0 := yi_S_le hle hn
  refine va_newaK (atype := .byte) (N := N) hx' hb (hts _ (zm_in yi_ai.2 rfl)) rfl hd rfl (nI_pos (by omega)) (nI_clamp (by omega)) (by show N * 1 ≤ _; omega) (by simp only [yi_rm]; omega) (by simp only [yi_rm]; omega) hz (fun H1 cA e1 z1 o1 hAr hNm => ?_)
  have hc : cA = G.2.1 := Option.some.inj (hNm.symm.trans (hKK.2 1 _ rfl).2)
  obtain ⟨hP1, hD1, hS1⟩ := yi_more (D := D) (G := G) (b := b) (A := A) (H := H) (H1 := H1) (H0 := s.heap) (locs := locs) (h := h) (by omega) hz (by rw [z1, hz]) (by rw [hz]; exact o1) hA hP hD hS (by
    rw [hsh, zm_e_1 rfl, yi_nw1, ← hc]
    show H1[b + n]? = some (vp_cell cA (N, .inl fun _ => 0))
    rw [vp_cell_i]
    exact e1)
  have h9 := kk p l e s m args below meth c D G b A H1 locs lr hX hO hnm hs (by omega) (by omega) hP1 hD1 hS1 hl
  rw [show n + 1 - n0 = n - n0 + 1 by omega, show yi_S (n + 1) - yi_S n0 = yi_S n - yi_S n0 + N by omega] at h9
  exact h9
set_option maxHeartbeats 4000000 in
theorem yi_nr {q : zm_D} {d n0 n1 : Nat} {R : zm_M → Prop} {pc : Nat} {ls : zm_L} {st : List zm_V} {n : Nat} {h : zm_M} {x : Int32} {N oc k : Nat} (hd : decode q.2.1 pc = .ok (.anewarray k, 3)) (hq : q.1.cls = zm_cn oc) (hL : Cond.classLink (zm_cn oc) k RX8 ∈ lw_tbl) (hx : nI N = x) (hN : N ≤ 1000) (hsh : zm_sh TT n = (2, N)) (hn1 : n < n1) (h71 : n1 ≤ 171) (kk : yi_W q d n0 n1 R (pc + 3) ls (.inr (some n) :: st) (n + 1) (yi_nw h n)) : yi_W q d n0 n1 R pc ls (.inl x :: st) n h := by
  intro p l e s m args below meth c D G b A H locs lr hX hO hnm hs hle hn hP hD hS hl
  obtain ⟨hx', hb, hml, hr, hlocks, hown, hts, hKK, hN', hA⟩ := id hX
  rw [hq] at hown
  subst hx
  refine yi_sz hs hle hn hP hS (fun hz => ?_)
  have hsl : yi_S (n + 1) = yi_S n + N := by
    rw [yi_S_suc (by omega), hsh]
    rfl
  have hs1 := yi_S_le (show n + 1 ≤ n1 by omega) h71
  have hs0 := yi_S_le hle hn
  have hcl := nI_clamp (show N < 2 ^ 31 by omega)
  refine W.anew (n := nI N) hx' hb hown (hts _ (zm_in hL rfl)) (va_AO.use hO) rfl hd rfl (nI_pos (by omega)) (by rw [hcl]; omega) (by simp only [yi_rm]; omega) (by rw [hcl]; simp only [yi_rm]; omega) (fun cA kA comp f1 f2 f3 f4 => ?_)
  rw [hcl, hz]
  generalize hH1 : H.push ({ cls := cA, slots := Array.replicate N .null, vm := .none } : Cell) = H1
  have z1 : H1.size = H.size + 1 := by rw [← hH1, Array.size_push]
  have e1 : H1[b + n]? = some (arrV cA N (fun _ => .null)) := by rw [← hH1, ← hz, Array.getElem?_push_size, ← arrV_new]
  have o1 : ∀ q : Nat, q < H.size → H1[q]? = H[q]? := fun q hq => by rw [← hH1, Array.getElem?_push, if_neg (Nat.ne_of_lt hq)]
  obtain ⟨kA2, comp2, g1, g2, g3, g4⟩ := (hKK.2 2 _ rfl).2
  have hc : cA = G.2.2 := Option.some.inj (f1.symm.trans g4)
  obtain ⟨hP1, hD1, hS1⟩ := yi_more (D := D) (G := G) (b := b) (A := A) (H := H) (H1 := H1) (H0 := s.heap) (locs := locs) (h := h) (by omega) hz z1 o1 hA hP hD hS (by
    rw [hsh, zm_e_2 rfl, yi_nw2, ← hc]
    show H1[b + n]? = some (vp_cell cA (N, .inr (.inr (.inr (.inr fun _ => none)))))
    rw [vp_cell_q]
    exact e1)
  have h9 := kk p l e s m args below meth c D G b A H1 locs lr hX hO hnm hs (by omega) (by omega) hP1 hD1 hS1 hl
  rw [show n + 1 - n0 = n - n0 + 1 by omega, show yi_S (n + 1) - yi_S n0 = yi_S n - yi_S n0 + N by omega] at h9
  exact h9
theorem yi_dv {c2 j : Nat} (hc : c2 < 13) (hj : j < zm_fn c2) (b n : Nat) (h : zm_M) : defaultValue (zm_ty c2 j) = vp_V ((List.range (zm_fn c2)).map (zm_fv (yi_ad b) c2 n (yi_nw h n))) j := by
  have hkt := ((zm_fields_at hc).2 j hj).2.1
  unfold vp_V
  rw [List.getD_eq_getElem?_getD, zm_fs_at hj]
  simp only [zm_fv, yi_nw1, yi_nw2, Option.getD_some]
  unfold zm_kt at hkt
  split at hkt
  · next e1 e2 => rw [e1, e2]; rfl
  · next e1 e2 => rw [e1, e2]; rfl
  · next e1 e2 => rw [e1, e2]; rfl
  · next e1 e2 => rw [e1, e2]; rfl
  · cases hkt
theorem yi_wt3 (c : Nat) : yi_wt (c + 3, 0) = zm_fn c := rfl
set_option maxHeartbeats 4000000 in
theorem yi_ne {q : zm_D} {d n0 n1 : Nat} {R : zm_M → Prop} {pc : Nat} {ls : zm_L} {st : List zm_V} {n : Nat} {h : zm_M} {oc k c2 : Nat} (hd : decode q.2.1 pc = .ok (.new k, 3)) (hq : q.1.cls = zm_cn oc) (hL : Cond.classLink (zm_cn oc) k (zm_cn c2) ∈ lw_tbl) (hI : Cond.instantiable (zm_cn c2) (zm_fn c2) ∈ lw_tbl) (hT : Cond.initialized (zm_cn c2) ∈ lw_tbl) (hc : c2 < 13) (hsh : zm_sh TT n = (c2 + 3, 0)) (hn1 : n < n1) (h71 : n1 ≤ 171) (kk : yi_W q d n0 n1 R (pc + 3) ls (.inr (some n) :: st) (n + 1) (yi_nw h n)) : yi_W q d n0 n1 R pc ls st n h := by
  intro p l e s m args below meth c D G b A H locs lr hX hO hnm hs hle hn hP hD hS hl
  obtain ⟨hx', hb, hml, hr, hlocks, hown, hts, hKK, hN', hA⟩ := id hX
  rw [hq] at hown
  refine yi_sz hs hle hn hP hS (fun hz => ?_)
  have hsl : yi_S (n + 1) = yi_S n + zm_fn c2 := by
    rw [yi_S_suc (by omega), hsh, yi_wt3]
  have hs1 := yi_S_le (show n + 1 ≤ n1 by omega) h71
  have hs0 := yi_S_le hle hn
  have hKn := hKK.1 c2 _ (zm_cl_at c2 hc)
  refine W.newcK hx' hb hown (hts _ (zm_in hL rfl)) (hts _ (zm_in hI rfl)) (hts _ (zm_in hT rfl)) rfl hd (by simp only [yi_rm]; omega) (by simp only [yi_rm]; omega) hKn.2.1 hz (fun H1 kC hkC e1 z1 o1 => ?_)
  obtain ⟨hP1, hD1, hS1⟩ := yi_more (D := D) (G := G) (b := b) (A := A) (H := H) (H1 := H1) (H0 := s.heap) (locs := locs) (h := h) (by omega) hz (by rw [z1, hz]) (by rw [hz]; exact o1) hA hP hD hS (by
    rw [hsh, zm_e_obj (c := c2) rfl]
    exact ⟨_, zm_cl_at c2 hc, (u_born (zm_ty c2) hts (zm_uin hc) hKn hkC e1 (fun k hk => ((zm_fields_at hc).2 k hk).1)).to (fun j hj => yi_dv hc hj b n h)⟩)
  have h9 := kk p l e s m args below meth c D G b A H1 locs lr hX hO hnm hs (by omega) (by omega) hP1 hD1 hS1 hl
  rw [show n + 1 - n0 = n - n0 + 1 by omega, show yi_S (n + 1) - yi_S n0 = yi_S n - yi_S n0 + zm_fn c2 by omega] at h9
  exact h9
theorem yi_blind {as : List Value} {D : va_G} {G : zm_G} {b n : Nat} {h : zm_M} : FrameBlind (va_Pc as (yi_Pr D G b n h)) := fun a U g mk q => by
  obtain ⟨q0, q1, qP, qK, qD, qN, qO⟩ := q
  exact ⟨q0, q1, qP, va_K.moved (u := U) (U := U.calling g mk a) (Vm.Alike.refl U.vm) qK, qD, zm_N.same (s := U) (U := U.calling g mk a) rfl qN, va_AO.moved (u := U) (U := U.calling g mk a) (Vm.Alike.refl U.vm) qO⟩
section YIC
variable {p : Program} {l : Launch} {e : Env} {s : State} {m : MethodId} {args : Array Value} {below : List Frame} {meth : Method} {c : Code} {H : Heap} {locs : List Loc} {Q : State → Prop}
/-- behind a constructor's call -/
theorem yi_call {R : Room} {pc cells slots mc ms : Nat} {lr : Array Slot} {st0 rest : List Value} {a : Array Value} {D : va_G} {G : zm_G} {b n n' : Nat} {h : zm_M} {R0 : zm_M → Prop} {A : Nat → Prop} {H0 : Heap}
    (hr : va_Run p l e R s m args below meth c H locs cells slots mc ms (F0 m pc lr st0) rest (yi_Q D G b n' R0 (va_A (yi_w G b n h) (b + n)) a) (va_A (yi_w G b n h) (b + n))) (hz : H.size = b + n) (hD : va_D A (yi_w G b n h)) (hS : va_S A H0 H locs) (hA : ∀ n : Nat, H0.size ≤ n → A n)
    (kk : ∀ (h' : zm_M) (H1 : Heap) (locs1 : List Loc), R0 h' → va_P D vwCl (yi_w G b n' h') H1 → va_S A H0 H1 locs1 → W p l e R s m args below meth c H1 locs1 (cells + mc) (slots + ms) Q (F0 m (pc + 3) lr rest)) : W p l e R s m args below meth c H locs cells slots Q (F0 m pc lr st0) := by
  have hF := zm_A_in hD hS hA
  rw [← hz] at hr
  intro T0 hT X
  obtain ⟨v, st₀, t, T', L, h0, X', hL, e1, e2, ⟨⟨h', hR, hv, hP1⟩, hz, hk⟩, st⟩ := hr T0 hT X
  rw [h0] at hz hk
  have hv : v = none := by cases hv; rfl
  subst hv
  obtain ⟨t2, a1, b1⟩ := kk h' T'.heap (locs ++ L) hR (by rw [e1]; exact hP1)
    ⟨Nat.le_trans hS.1 (by rw [e1]; exact hz), fun q h1 h2 => by rw [e1, hk q (Nat.lt_of_lt_of_le h1 hS.1) (fun z => h2 (hF q z))]; exact hS.2.1 q h1 h2, fun q hq => by
      rcases List.mem_append.mp hq with h | h
      · exact hS.2.2 q h
      · exact hF _ (hL q h)⟩ T' rfl X'
  exact ⟨t2, st t2 a1, b1⟩
/-- behind a call that makes nothing, with cells made before -/
theorem yi_cal0 {R : Room} {pc cells slots : Nat} {lr : Array Slot} {st0 rest : List Value} {a : Array Value} {D : va_G} {G : zm_G} {ad : Nat → Nat} {T : zm_T} {h : zm_M} {R0 : zm_R} {A : Nat → Prop} {H0 : Heap}
    (hr : va_Run p l e R s m args below meth c H locs cells slots 0 0 (F0 m pc lr st0) rest (zm_Q D G ad T R0 (va_A (zm_w G ad T h) H.size) a) (va_A (zm_w G ad T h) H.size)) (hD : va_D A (zm_w G ad T h)) (hS : va_S A H0 H locs) (hA : ∀ n : Nat, H0.size ≤ n → A n)
    (kk : ∀ (r : Option zm_V) (h' : zm_M) (H1 : Heap) (locs1 : List Loc), R0 r h' → va_P D vwCl (zm_w G ad T h') H1 → va_S A H0 H1 locs1 → W p l e R s m args below meth c H1 locs1 cells slots Q (F0 m (pc + 3) lr ((r.map (zm_v ad)).toList ++ rest))) : W p l e R s m args below meth c H locs cells slots Q (F0 m pc lr st0) := by
  have hF := zm_A_in hD hS hA
  intro T0 hT X
  obtain ⟨v, st₀, t, T', L, h0, X', hL, e1, e2, ⟨⟨r, h', hR, hv, hP1⟩, hz, hk⟩, st⟩ := hr T0 hT X
  rw [h0] at hz hk
  have hv : v = r.map (zm_v ad) := by cases hv; rfl
  subst hv
  obtain ⟨t2, a1, b1⟩ := kk r h' T'.heap (locs ++ L) hR (by rw [e1]; exact hP1)
    ⟨Nat.le_trans hS.1 (by rw [e1]; exact hz), fun q h1 h2 => by rw [e1, hk q (Nat.lt_of_lt_of_le h1 hS.1) (fun z => h2 (hF q z))]; exact hS.2.1 q h1 h2, fun q hq => by
      rcases List.mem_append.mp hq with h | h
      · exact hS.2.2 q h
      · exact hF _ (hL q h)⟩ T' rfl X'
  exact ⟨t2, st t2 a1, b1⟩
end YIC
/-- what is looked at before a constructor is called -/
def yi_okc (oc k j na : Nat) : Bool := (zm_ML.contains (oc, k, j, 0) || zm_ML.contains (oc, k, j, 1)) && decide (j < zm_MT.length) && decide ((zm_md j).1.name = "<init>") && decide ((zm_md j).2.2.2.1 = none) && !(zm_md j).2.2.2.2.2.2 && decide ((zm_md j).2.2.2.2.2.1 = na)
set_option maxHeartbeats 4000000 in
theorem yi_ca {q : zm_D} {d n0 n1 : Nat} {R : zm_M → Prop} {pc : Nat} {ls : zm_L} {st : List zm_V} {n : Nat} {h : zm_M} {oc k j n' qq : Nat} {r : List zm_V} (As : List zm_V) (hd : decode q.2.1 pc = .ok (.invokespecial k, 3)) (hq : q.1.cls = zm_cn oc) (hok : yi_okc oc k j As.length = true) (hst : st = As.reverse ++ .inr (some qq) :: r) (hr8 : r.length ≤ 8) (hnn : n ≤ n') (hn1 : n' ≤ n1) (h71 : n1 ≤ 171) (hc : yi_C d j n n' (.inr (some qq) :: As) h (fun h' => yi_W q (d + 1) n0 n1 R (pc + 3) ls r n' h')) : yi_W q (d + 1) n0 n1 R pc ls st n h := by
  subst hst
  intro p l e s m args below meth c D G b A H locs lr hX hO hnm hs hle hn hP hD hS hl
  obtain ⟨hx', hb, hml, hr, hlocks, hown, hts, hKK, hN', hA⟩ := id hX
  rw [hq] at hown
  refine yi_sz hs hle hn hP hS (fun hz => ?_)
  simp only [yi_okc, Bool.and_eq_true, decide_eq_true_eq, Bool.or_eq_true, Bool.not_eq_true'] at hok
  obtain ⟨⟨⟨⟨⟨hL, hj⟩, hni⟩, hret⟩, hst⟩, hnp⟩ := hok
  obtain ⟨hmd, hmp⟩ := zm_okD_at hj
  simp only [zm_okD, Bool.and_eq_true, decide_eq_true_eq] at hmd
  obtain ⟨⟨⟨⟨hne, hpar⟩, -⟩, hmax⟩, hmc⟩ := hmd
  obtain ⟨hwc, hwi, -, hwv⟩ := hmp
  obtain ⟨hwv1, -⟩ := hwv hst
  have hM := hc l D G b
  have hwd := zm_ws_good (q := zm_md j) hts hwc
  rw [hret] at hwc
  have hmem : Cond.code (zm_md j).1 (zm_md j).2.1 (zm_md j).2.2.1 none ∈ zm_ws (zm_md j) := by
    unfold zm_ws
    rw [hret]
    exact List.mem_cons_self
  have hpre : PreS s H (va_Pc ((.inr (some qq) :: As : List zm_V).map (zm_v (yi_ad b))) (yi_Pr D G b n h)) (.ref (yi_ad b qq) :: As.map (zm_v (yi_ad b))) := ⟨yi_blind, fun U hU hW => ⟨rfl, by rw [hU]; exact hz, by rw [hU]; exact hP, va_K.moved hW.alike hKK, hD.weaken (fun _ _ _ _ => trivial), hN'.warm hW, hO.moved hW.alike⟩⟩
  have hstk : (F0 m pc lr ((As.reverse ++ .inr (some qq) :: r).map (zm_v (yi_ad b)))).stack = (As.map (zm_v (yi_ad b))).reverse ++ .ref (yi_ad b qq) :: r.map (zm_v (yi_ad b)) := by
    show (As.reverse ++ .inr (some qq) :: r).map (zm_v (yi_ad b)) = _
    simp [zm_v, va_rf]
  have hs0 := yi_S_le hle hn
  have hs1 := yi_S_le hnn (by omega)
  have hs2 := yi_S_le hn1 h71
  have hfr : (yi_rm d n n').frames + 1 ≤ (yi_rm (d + 1) n0 n1).frames := by simp only [yi_rm]; omega
  have hlo : 8 + ((zm_md j).2.2.1 + 11) + (yi_rm d n n').locals ≤ (yi_rm (d + 1) n0 n1).locals := by simp only [yi_rm]; omega
  have hlen : (As.map (zm_v (yi_ad b))).length = (zm_md j).2.2.2.2.2.1 := by rw [List.length_map, hnp]
  have hroom : 2 * (F0 m pc lr ((As.reverse ++ .inr (some qq) :: r).map (zm_v (yi_ad b)))).monitorRoom + ((r.map (zm_v (yi_ad b))).map fun v => v.category).sum ≤ 8 := lv_room (by rw [zm_cat]; exact hr8)
  have hfit : n - n0 + (n' - n) ≤ (yi_rm (d + 1) n0 n1).cells ∧ yi_S n - yi_S n0 + (yi_S n' - yi_S n) ≤ (yi_rm (d + 1) n0 n1).slots := by simp only [yi_rm]; omega
  have hrun : va_Run p l e (yi_rm (d + 1) n0 n1) s m args below meth c H locs (n - n0) (yi_S n - yi_S n0) (n' - n) (yi_S n' - yi_S n) (F0 m pc lr ((As.reverse ++ .inr (some qq) :: r).map (zm_v (yi_ad b)))) (r.map (zm_v (yi_ad b))) (yi_Q D G b n' (fun h' => yi_W q (d + 1) n0 n1 R (pc + 3) ls r n' h') (va_A (yi_w G b n h) (b + n)) (Value.ref (yi_ad b qq) :: As.map (zm_v (yi_ad b))).toArray) (va_A (yi_w G b n h) (b + n)) := by
    rcases hL with hL | hL
    · exact va_runI ⟨hx', hb, hml, hown, hts⟩ hM ⟨⟨rfl, rfl, hfr, hlo, hwd, hmem, hts _ (zm_in hwc rfl), hts _ (zm_in hwi rfl), hne, zm_params hpar, hts _ (zm_in (zm_MLw hL) rfl)⟩, hni, hts _ (zm_in hwv1 rfl)⟩ hpre rfl hlen hl.1 hstk hroom hd hfit
    · have hw := hN'.2 _ (List.contains_iff_mem.mp hL) Nat.one_ne_zero
      exact va_runIN ⟨hx', hb, hml, hown, hts⟩ hM ⟨⟨⟨rfl, rfl, hfr, hlo, hwd, hmem⟩, hts _ (zm_in hwc rfl), hts _ (zm_in hwi rfl), hne, zm_params hpar, va_Nw.use rfl hw⟩, hni, hts _ (zm_in hwv1 rfl)⟩ hpre rfl hlen hl.1 hstk hroom hd hfit
  refine yi_call hrun hz hD hS hA (fun h' H1 locs1 hRw hP1 hS1 => ?_)
  have hAA : ∀ a, a < n' → A (b + a) := fun a ha => by
    rcases Nat.lt_or_ge a n with z | z
    · exact yi_D_of hn hD a z
    · exact hA _ (by rw [hs]; omega)
  have h9 := hRw p l e s m args below meth c D G b A H1 locs1 lr hX hO hnm hs (by omega) (by omega) hP1 (yi_D (by omega) hAA) hS1 hl
  rw [show n' - n0 = n - n0 + (n' - n) by omega, show yi_S n' - yi_S n0 = yi_S n - yi_S n0 + (yi_S n' - yi_S n) by omega] at h9
  exact h9
set_option maxHeartbeats 4000000 in
theorem yi_sc {q : zm_D} {d n0 n1 : Nat} {R : zm_M → Prop} {pc : Nat} {ls : zm_L} {st : List zm_V} {n : Nat} {h : zm_M} {oc k j : Nat} {r : List zm_V} (as : List zm_V) (hd : decode q.2.1 pc = .ok (.invokestatic k, 3)) (hq : q.1.cls = zm_cn oc) (hL : zm_ML.contains (oc, k, j, 0) = true) (hj : j < zm_MT.length) (hst2 : (zm_md j).2.2.2.2.2.2 = true) (hnp : (zm_md j).2.2.2.2.2.1 = as.length) (hst : st = as.reverse ++ r) (hr8 : r.length ≤ 8) (hn1 : n ≤ n1) (h71 : n1 ≤ 171) (hc : zm_C d (TT.take n) j as h (fun w h' => yi_W q (d + 1) n0 n1 R (pc + 3) ls (w.toList ++ r) n h')) : yi_W q (d + 1) n0 n1 R pc ls st n h := by
  subst hst
  intro p l e s m args below meth c D G b A H locs lr hX hO hnm hs hle hn hP hD hS hl
  obtain ⟨hx', hb, hml, hr, hlocks, hown, hts, hKK, hN', hA⟩ := id hX
  rw [hq] at hown
  obtain ⟨hmd, hmp⟩ := zm_okD_at hj
  simp only [zm_okD, Bool.and_eq_true, decide_eq_true_eq] at hmd
  obtain ⟨⟨⟨⟨hne, hpar⟩, -⟩, hmax⟩, hmc⟩ := hmd
  obtain ⟨hwc, hwi, hwv, -⟩ := hmp
  have hwv1 := hwv hst2
  obtain ⟨d0, R0, hd0, hR0, hM⟩ := hc
  have hM := hM l D G (yi_ad b) H.size
  have hpre : PreS s H (va_Pc (as.map (zm_v (yi_ad b))) (zm_Pr D G (yi_ad b) (TT.take n) h H.size)) (as.map (zm_v (yi_ad b))) := ⟨zm_blind, fun U hU hW => ⟨rfl, by rw [hU], by rw [hU]; exact hP, va_K.moved hW.alike hKK, hD.weaken (fun _ _ _ _ => trivial), hN'.warm hW⟩⟩
  have hstk : (F0 m pc lr ((as.reverse ++ r).map (zm_v (yi_ad b)))).stack = (as.map (zm_v (yi_ad b))).reverse ++ r.map (zm_v (yi_ad b)) := by
    show (as.reverse ++ r).map (zm_v (yi_ad b)) = _
    simp
  have hwd := zm_ws_good (q := zm_md j) hts hwc
  have hfr : (zm_rm d0).frames + 1 ≤ (yi_rm (d + 1) n0 n1).frames := by simp only [zm_rm, yi_rm]; omega
  have hlo : 8 + ((zm_md j).2.2.1 + 11) + (zm_rm d0).locals ≤ (yi_rm (d + 1) n0 n1).locals := by simp only [zm_rm, yi_rm]; omega
  have hlen : (as.map (zm_v (yi_ad b))).length = (zm_md j).2.2.2.2.2.1 := by rw [List.length_map, hnp]
  have hroom : 2 * (F0 m pc lr ((as.reverse ++ r).map (zm_v (yi_ad b)))).monitorRoom + ((r.map (zm_v (yi_ad b))).map fun v => v.category).sum ≤ 8 := lv_room (by rw [zm_cat]; exact hr8)
  have hs2 := yi_S_le hn1 h71
  have hroom2 : n - n0 + 0 ≤ (yi_rm (d + 1) n0 n1).cells ∧ yi_S n - yi_S n0 + 0 ≤ (yi_rm (d + 1) n0 n1).slots := by simp only [yi_rm]; omega
  have hrun : va_Run p l e (yi_rm (d + 1) n0 n1) s m args below meth c H locs (n - n0) (yi_S n - yi_S n0) 0 0 (F0 m pc lr ((as.reverse ++ r).map (zm_v (yi_ad b)))) (r.map (zm_v (yi_ad b))) (zm_Q D G (yi_ad b) (TT.take n) R0 (va_A (zm_w G (yi_ad b) (TT.take n) h) H.size) (as.map (zm_v (yi_ad b))).toArray) (va_A (zm_w G (yi_ad b) (TT.take n) h) H.size) := va_runS ⟨hx', hb, hml, hown, hts⟩ hM ⟨⟨rfl, rfl, hfr, hlo, hwd, List.mem_cons_self, hts _ (zm_in hwc rfl), hts _ (zm_in hwi rfl), hne, zm_params hpar, hts _ (zm_in (zm_MLw hL) rfl)⟩, hts _ (zm_in hwv1 rfl)⟩ hpre rfl hlen hl.1 hstk hroom hd hroom2
  refine yi_cal0 hrun hD hS hA (fun w h' H1 locs1 hRw hP1 hS1 => ?_)
  refine W.eq ?_ (hR0 _ _ hRw p l e s m args below meth c D G b A H1 locs1 lr hX hO hnm hs hle hn hP1 (zm_w_D hD) hS1 hl)
  cases w <;> simp
theorem yi_of {j d n0 n1 : Nat} {R : zm_M → Prop} {as : List zm_V} {h : zm_M} (hj : j < zm_MT.length) (hpl : plainName (zm_md j).1.cls = true) (hnm : (zm_md j).1.name = "<init>") (hlen : as.length ≤ (zm_md j).2.2.1) (hn0 : n0 ≤ 171)
    (hw : yi_W (zm_md j) d n0 n1 R 0 (zm_ls0 (zm_md j).2.2.1 as) [] n0 h) : yi_C d j n0 n1 as h R := by
  intro l D G b
  refine Met.ofW (cc := (zm_md j).2.1) (maxL := (zm_md j).2.2.1) (ret := (zm_md j).2.2.2.1) hpl rfl ?_
  intro p e s m args below meth c s₁ B hml hv
  obtain ⟨rfl, hsz, hP, hK, hD0, hN, hO⟩ := hv
  have hts := atoms_spec (ws := zm_ws (zm_md j)) B.pre
  have hin : meth.name = "<init>" := (name_of_methodNamed B.named B.method).1.trans hnm
  have hX : zm_X p s m (as.map (zm_v (yi_ad b))).toArray meth c (zm_md j) D G (va_A (yi_w G b n0 h) (b + n0)) := ⟨B.exec, B.bytes, hml, B.returns, B.notSynchronized, findClass_of_methodNamed B.named, fun w hw => hts w (List.mem_cons_of_mem _ hw), hK, hN, fun n hn => Or.inr (by rw [← hsz]; exact hn)⟩
  rw [lg_entry_eq]
  have hl := lv_entry (as.map (zm_v (yi_ad b))) (n := (zm_md j).2.2.1) (by rw [zm_sl_len]; exact hlen)
  have hlr : zm_lr (yi_ad b) (zm_md j).2.2.1 (zm_ls0 (zm_md j).2.2.1 as) (lg_sl (as.map (zm_v (yi_ad b))) ++ List.replicate ((zm_md j).2.2.1 - (lg_sl (as.map (zm_v (yi_ad b)))).length) Slot.unset).toArray := by
    refine ⟨hl.1, hl.2.1, fun i v hi => ?_⟩
    refine hl.2.2 (i, zm_v (yi_ad b) v) ?_
    have hi2 : as[i]? = some v := by
      unfold zm_ls0 at hi
      by_cases hii : i < as.length
      · rw [List.getElem?_append_left (by simpa using hii), List.getElem?_map] at hi
        obtain ⟨v', h1, h2⟩ := Option.map_eq_some_iff.mp hi
        cases h2
        exact h1
      · rw [List.getElem?_append_right (by simpa using hii)] at hi
        rw [List.getElem?_replicate] at hi
        split at hi <;> cases hi
    have := zm_args_at (yi_ad b) as 0 i v hi2
    rwa [Nat.zero_add] at this
  have h9 := hw p l e s m _ below meth c D G b _ s.heap [] _ hX hO hin hsz (Nat.le_refl _) hn0 hP hD0.self va_S.rf hlr
  rw [Nat.sub_self, Nat.sub_self] at h9
  exact h9
