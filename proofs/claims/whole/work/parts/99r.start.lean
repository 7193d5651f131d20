/-! from the law's entry -/
theorem yl_inst : ∀ k, k < 13 → Cond.instantiable (zm_cn k) (zm_fn k) ∈ lw_tbl := by
  intro k hk
  rcases (show k = 0 ∨ k = 1 ∨ k = 2 ∨ k = 3 ∨ k = 4 ∨ k = 5 ∨ k = 6 ∨ k = 7 ∨ k = 8 ∨ k = 9 ∨ k = 10 ∨ k = 11 ∨ k = 12 by omega) with rfl | rfl | rfl | rfl | rfl | rfl | rfl | rfl | rfl | rfl | rfl | rfl | rfl
  · exact zw_p1 131 rfl
  · exact zw_p1 171 rfl
  · exact zw_p1 115 rfl
  · exact zw_p2 22 rfl
  · exact zw_p1 62 rfl
  · exact zw_p1 56 rfl
  · exact zw_p1 121 rfl
  · exact zw_p1 198 rfl
  · exact zw_p1 205 rfl
  · exact zw_p1 236 rfl
  · exact zw_p1 27 rfl
  · exact zw_p1 19 rfl
  · exact zw_p5 114 rfl
theorem yl_ao : Cond.arrayOver (.object RX8) ∈ lw_tbl := by decide +kernel
theorem yl_ctx {p : Program} {s : State} {m : MethodId} {meth : Method} {c : Code} {b L : Nat} {xs : Nat → Int32} (C0 : lw_At p s m meth c b L xs) : ∃ (D : va_G) (G : zm_G), yl_X p s m meth c b L xs D G := by
  obtain ⟨hx, hb, hr, hml, hown, hts, hX, hbl, hlocks, hgv⟩ := id C0
  have hk : ∀ k : Nat, ∃ q : ClassId × (Nat → Nat), k < 13 → u_Kn s (zm_cn k) (zm_tx k) (zm_fn k) q.1 q.2 := fun k => by
    by_cases hk : k < 13
    · obtain ⟨cC, iS, h9⟩ := u_known hts (zm_fields_at hk).1 (hts _ (yl_inst k hk))
      exact ⟨(cC, iS), fun _ => h9⟩
    · exact ⟨(m.cls, fun _ => 0), fun z => absurd z hk⟩
  obtain ⟨f, hf⟩ := Classical.axiomOfChoice hk
  obtain ⟨c1, k1, p1, f1, g1, e1⟩ := Cond.arrayClass_spec (hts _ yi_ai.1)
  obtain ⟨c2, k2, p2, f2, g2, e2⟩ := Cond.arrayClass_spec (hts _ yi_ai.2)
  obtain ⟨p3, c3, k3, f3, i3, g3, e3, n3⟩ := Cond.arrayOver_spec (hts _ yl_ao)
  refine ⟨(fun k => (f k).1, fun k => (f k).2), (c1, c2, c3), C0, ⟨fun k q hq => ?_, fun k q hq => ?_⟩, ⟨fun q hq hn => ?_, fun q hq hn => ?_⟩, va_AO.of (hts _ yl_ao)⟩
  · have hk : k < 13 := (List.getElem?_eq_some_iff.mp hq).1
    rw [zm_cl_at k hk] at hq
    cases hq
    exact hf k hk
  · match k, hq with
    | 0, hq => cases hq; exact ⟨fun n z => ⟨fun k h => (by cases h), k1, g1, p1, e1⟩, f1⟩
    | 1, hq => cases hq; exact ⟨fun n z => ⟨fun k h => (by cases h), k2, g2, p2, e2⟩, f2⟩
    | 2, hq => cases hq; exact ⟨fun n z => ⟨fun k h => (by cases h), k3, g3, p3, e3⟩, k3, p3, g3, e3, f3, n3⟩
    | k + 3, hq => simp [zm_tys] at hq
  · have h1 := hts _ (zm_FLw (List.contains_iff_mem.mpr hq))
    unfold zm_fw at h1 ⊢
    rw [if_neg hn] at h1 ⊢
    exact va_Nw.of rfl h1
  · have h1 := hts _ (zm_MLw (List.contains_iff_mem.mpr hq))
    unfold zm_mw at h1 ⊢
    rw [if_neg hn] at h1 ⊢
    exact va_Nw.of rfl h1
theorem yl_d0 : decode code 0 = .ok (.new 7, 3) := by decide +kernel
theorem yl_d3 : decode code 3 = .ok (.dup, 1) := by decide +kernel
theorem yl_d4 : decode code 4 = .ok (.invokespecial 9, 3) := by decide +kernel
theorem yl_d7 : decode code 7 = .ok (.astore_n 1, 1) := by decide +kernel
theorem yl_d8 : decode code 8 = .ok (.new 10, 3) := by decide +kernel
theorem yl_d11 : decode code 11 = .ok (.dup, 1) := by decide +kernel
theorem yl_d12 : decode code 12 = .ok (.invokespecial 12, 3) := by decide +kernel
theorem yl_d15 : decode code 15 = .ok (.astore_n 2, 1) := by decide +kernel
theorem yl_d16 : decode code 16 = .ok (.iconst 0, 1) := by decide +kernel
theorem yl_d17 : decode code 17 = .ok (.istore_n 3, 1) := by decide +kernel
set_option maxHeartbeats 4000000 in
set_option maxRecDepth 100000 in
/-- THE LAW, from its entry -/
theorem whole_start {p : Program} {e : Env} {s : State} {m : MethodId} {below : List Frame} {meth : Method} {c : Code} (l : Launch) {b L : Nat} {xs : Nat → Int32} (hL : L ≤ 3072) (C0 : lw_At p s m meth c b L xs) : W p l e room_1 s m #[Value.ref b] below meth c s.heap [] 0 0 (lw_Z below #[Value.ref b] s) (entryFrame m ([Value.ref b] : List Value).toArray 4) := by
  obtain ⟨D, G, C⟩ := yl_ctx C0
  obtain ⟨hx, hb, hr, hml, hown, hts, hX, hbl, hlocks, hgv⟩ := id C0
  have hl := lv_entry ([.ref b]) (n := 4) (Nat.le_of_ble_eq_true rfl)
  rw [lg_entry_eq]
  generalize (lg_sl ([.ref b]) ++ List.replicate (4 - (lg_sl ([.ref b])).length) Slot.unset).toArray = ls at hl ⊢
  have hl : lv_has ls 4 [(0, .ref b)] := hl
  refine yl_new (pc := 0) (n := 0) (k := 7) (c2 := 11) (h := yb_h0) C va_S.rf (fun k q h => by simp [yi_w, zm_w] at h) rfl yl_d0 (zw_p1 18 rfl) (yl_inst 11 (by decide)) (zw_p1 1 rfl) (by decide) (by decide +kernel) (by decide) (by decide) (by decide +kernel) (fun H1 z1 hP1 hS1 => ?_)
  refine lv_dup hx hb yl_d3 rfl ?_
  refine yl_ini (pc := 4) (d := 0 + 4) (n := 1) (n' := 133) (k := 9) (j := 127) (qq := 0) (R := fun h' => h' = yb_h1) C hS1 hP1 z1 hl.1 yl_d4 (by decide +kernel) (by decide +kernel) (zw_p1 20 rfl) (by show 1 ≤ 8; decide) (by decide) (by decide) (by decide) (by decide +kernel) (yc_KS rfl) (fun h' H2 locs2 hh hP2 hS2 => ?_)
  subst hh
  refine lv_astore_n (lv' := [(1, .ref (yi_ad s.heap.size 0)), (0, .ref b)]) hx hb yl_d7 rfl hl (by decide) rfl (fun ls hl => ?_)
  refine yi_sz (n0 := 0) (n := 133) (b := s.heap.size) rfl (Nat.zero_le _) (by decide) hP2 hS2 (fun hz2 => ?_)
  refine yl_new (pc := 8) (n := 133) (k := 10) (c2 := 12) (h := yb_h1) C hS2 hP2 hz2 yl_d8 (zw_p5 113 rfl) (yl_inst 12 (by decide)) (zw_p1 13 rfl) (by decide) (by decide +kernel) (by decide) (by decide) (by decide +kernel) (fun H3 z3 hP3 hS3 => ?_)
  refine lv_dup hx hb yl_d11 rfl ?_
  refine yl_ini (pc := 12) (d := 0) (n := 134) (n' := 171) (k := 12) (j := 180) (qq := 133) (R := fun h' => h' = yb_M) C hS3 hP3 z3 hl.1 yl_d12 (by decide +kernel) (by decide +kernel) (zw_p5 115 rfl) (by show 1 ≤ 8; decide) (by decide) (by decide) (by decide) (by decide +kernel) (yc_Mo rfl) (fun h' H4 locs4 hh hP4 hS4 => ?_)
  subst hh
  refine lv_astore_n (lv' := [(2, .ref (yi_ad s.heap.size 133)), (1, .ref (yi_ad s.heap.size 0)), (0, .ref b)]) hx hb yl_d15 rfl hl (by decide) rfl (fun ls hl => ?_)
  refine lv_iconst (v := nI (6 * 0)) hx hb yl_d16 (by decide) ?_
  refine lv_istore_n (lv' := [(3, .int (nI (6 * 0))), (2, .ref (yi_ad s.heap.size 133)), (1, .ref (yi_ad s.heap.size 0)), (0, .ref b)]) hx hb yl_d17 rfl hl (by decide) rfl (fun ls hl => ?_)
  refine W.widen (k := 600000) (n := 7302250) (by decide) (by decide +kernel) ?_
  exact yl_loop C hL 513 0 (by decide) (by decide) yb_M H4 locs4 ls yb_first hP4 hS4 (lv_sub hl [3, 2, 1, 0] rfl)
