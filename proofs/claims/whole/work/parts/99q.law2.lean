/-! a call of both, the law's loop -/
theorem yl_31 (x : Int32) : ∃ t, t < 32 ∧ x &&& 31 = nI t := ⟨_, Nat.mod_lt _ (by decide), pk_and x 5 rfl⟩
theorem yl_len (xs : Nat → Int32) (i : Nat) : ∀ n, (yl_vs xs i n).length = n
  | 0 => rfl
  | n + 1 => by
    rw [yl_vs, List.length_append, yl_len xs i n]
    rfl
theorem yl_cmp {i L : Nat} (hi : i ≤ 4000) (hL : L ≤ 3072) : (nI L - 6 < nI i) = (L < i + 6) := by
  apply propext
  rcases Nat.lt_or_ge L 6 with z | z
  · have e : ∀ L, L < 6 → (nI L - 6).toInt = (L : Int) - 6 := by decide
    rw [Int32.lt_iff_toInt_lt, e L z, nI_toInt (by omega)]
    omega
  · have e : nI L - 6 = nI (L - 6) := by
      have h9 := nI_add (L - 6) 6
      rw [show L - 6 + 6 = L by omega] at h9
      rw [← h9]
      show nI (L - 6) + 6 - 6 = _
      simp
    rw [e]
    exact (nI_ltI (by omega) (by omega)).trans (by omega)
def yl_okC (P n k1 k2 : Nat) : Bool := decide (decode code P = .ok (.aload_n 1, 1)) && (List.range n).all (fun t => yl_okA (P + 1 + 5 * t) (t + 1)) && decide (decode code (P + 1 + 5 * n) = .ok (.invokevirtual k1, 3)) && decide (decode code (P + 1 + 5 * n + 3) = .ok (.aload_n 2, 1)) && (List.range n).all (fun t => yl_okA (P + 1 + 5 * n + 3 + 1 + 5 * t) (t + 1)) && decide (decode code (P + 1 + 5 * n + 3 + 1 + 5 * n) = .ok (.invokevirtual k2, 3)) && decide (decode code (P + 1 + 5 * n + 3 + 1 + 5 * n + 3) = .ok (.if_icmp .eq (1092 - ((P + 1 + 5 * n + 3 + 1 + 5 * n + 3 : Nat) : Int)), 3))
def yl_okM (n j cl : Nat) : Bool := decide (j < zm_MT.length) && decide ((zm_md j).2.2.2.2.2.1 = n) && !(zm_md j).2.2.2.2.2.2 && decide ((zm_md j).1.name ≠ "<init>") && decide ((zm_md j).2.2.2.2.1 = cl)
section YL
variable {p : Program} {l : Launch} {e : Env} {s : State} {m : MethodId} {below : List Frame} {meth : Method} {c : Code} {H : Heap} {locs : List Loc} {Q : State → Prop} {bs L : Nat} {xs : Nat → Int32} {D : va_G} {G : zm_G} {cells slots : Nat}
set_option maxHeartbeats 4000000 in
theorem yl_case {P n k1 k2 j1 j2 i cn : Nat} {lr : Array Slot} {h : zm_M} (C : yl_X p s m meth c bs L xs D G) (hL : L ≤ 3072) (hfit : cells ≤ 600000 ∧ slots ≤ 7302250) (hS : va_S (yl_A s) s.heap H locs) (hl : lv_has lr 4 [(0, .ref bs), (1, .ref (yi_ad s.heap.size 0)), (2, .ref (yi_ad s.heap.size 133)), (3, .int (nI i))]) (hP : va_P D vwCl (yi_w G s.heap.size 171 h) H) (hi : i + 6 ≤ L) (hn5 : n ≤ 5) (hok : yl_okC P n k1 k2 = true) (ho1 : yl_okM n j1 11 = true) (ho2 : yl_okM n j2 12 = true) (hk1 : Cond.methodLink R_law k1 (zm_md j1).1 ∈ lw_tbl) (hk2 : Cond.methodLink R_law k2 (zm_md j2).1 ∈ lw_tbl) (hB : yb_B 0 cn j1 j2 ((yl_vs xs i n).map .inl) h)
    (kk : ∀ (h2 : zm_M) (H1 : Heap) (locs1 : List Loc), yb_I (cn + 1) h2 → va_P D vwCl (yi_w G s.heap.size 171 h2) H1 → va_S (yl_A s) s.heap H1 locs1 → W p l e room_1 s m #[.ref bs] below meth c H1 locs1 cells slots Q (F0 m 1092 lr [])) : W p l e room_1 s m #[.ref bs] below meth c H locs cells slots Q (F0 m P lr []) := by
  have C0 := C
  obtain ⟨⟨hx, hb, hr, hml, hown, hts, hX, hbl, hlocks, hgv⟩, hKK, hN, hO⟩ := C
  simp only [yl_okC, Bool.and_eq_true, decide_eq_true_eq] at hok
  obtain ⟨⟨⟨⟨⟨⟨d0, a1⟩, d1⟩, d2⟩, a2⟩, d3⟩, d4⟩ := hok
  simp only [yl_okM, Bool.and_eq_true, decide_eq_true_eq, Bool.not_eq_true'] at ho1 ho2
  obtain ⟨⟨⟨⟨u1, u2⟩, u3⟩, u4⟩, u5⟩ := ho1
  obtain ⟨⟨⟨⟨w1, w2⟩, w3⟩, w4⟩, w5⟩ := ho2
  have en : n = ((yl_vs xs i n).map (Sum.inl : Int32 → zm_V)).length := by rw [List.length_map, yl_len]
  have ee : ((yl_vs xs i n).map (Sum.inl : Int32 → zm_V)).map (zm_v (yi_ad s.heap.size)) = (yl_vs xs i n).map Value.int := by
    rw [List.map_map]
    rfl
  refine lv_aload_n hx hb d0 rfl (lv_at hl 1 rfl) ?_
  refine yl_args (pc := P + 1) C0 hS hl hL n (yl_all a1) (by omega) ?_
  rw [← ee]
  refine yl_call (d := 0 + 20) (cl := 11) (qq := 0) C0 hS hl.1 hP d1 u1 ⟨u2.trans en, u3, u4, u5, by decide⟩ hk1 (by decide +kernel) (Nat.zero_le _) (by decide) hfit hB (fun r h1 H1 locs1 hr1 hP1 hS1 => ?_)
  obtain ⟨v, rfl, hC2⟩ := hr1
  refine W.eq (g2 := F0 m (P + 1 + 5 * n + 3) lr [.int v]) rfl ?_
  refine lv_aload_n hx hb d2 rfl (lv_at hl 2 rfl) ?_
  refine yl_args (pc := P + 1 + 5 * n + 3 + 1) C0 hS1 hl hL n (yl_all a2) (by omega) ?_
  rw [← ee]
  refine yl_call (d := 0 + 20) (cl := 12) (qq := 133) C0 hS1 hl.1 hP1 d3 w1 ⟨w2.trans en, w3, w4, w5, by decide⟩ hk2 (by decide +kernel) (by show 1 ≤ 8; decide) (by decide) hfit hC2 (fun r h2 H2 locs2 hr2 hP2 hS2 => ?_)
  obtain ⟨rfl, hI2⟩ := hr2
  refine W.eq (g2 := F0 m (P + 1 + 5 * n + 3 + 1 + 5 * n + 3) lr [.int v, .int v]) rfl ?_
  exact lv_icmp_eq (tgt := 1092) hx hb d4 (by omega) (fun _ => kk h2 H2 locs2 hI2 hP2 hS2) (fun z => absurd rfl z)
end YL
theorem yl_d18 : decode code 18 = .ok (.iload_n 3, 1) := by decide +kernel
theorem yl_d19 : decode code 19 = .ok (.aload_n 0, 1) := by decide +kernel
theorem yl_d20 : decode code 20 = .ok (.arraylength, 1) := by decide +kernel
theorem yl_d21 : decode code 21 = .ok (.bipush 6, 2) := by decide +kernel
theorem yl_d23 : decode code 23 = .ok (.isub, 1) := by decide +kernel
theorem yl_d24 : decode code 24 = .ok (.if_icmp .gt 1074, 3) := by decide +kernel
theorem yl_d27 : decode code 27 = .ok (.aload_n 0, 1) := by decide +kernel
theorem yl_d28 : decode code 28 = .ok (.iload_n 3, 1) := by decide +kernel
theorem yl_d29 : decode code 29 = .ok (.iaload, 1) := by decide +kernel
theorem yl_d30 : decode code 30 = .ok (.bipush 31, 2) := by decide +kernel
theorem yl_d32 : decode code 32 = .ok (.iand, 1) := by decide +kernel
theorem yl_d1092 : decode code 1092 = .ok (.iinc 3 6, 3) := by decide +kernel
theorem yl_d1095 : decode code 1095 = .ok (.goto (-1077), 3) := by decide +kernel
theorem yl_d1098 : decode code 1098 = .ok (.iconst 1, 1) := by decide +kernel
theorem yl_d1099 : decode code 1099 = .ok (.ireturn, 1) := by decide +kernel
theorem yl_d33 : decode code 33 = .ok (.tableswitch 1059 0 31 #[143, 196, 219, 282, 305, 328, 351, 374, 397, 420, 453, 486, 519, 562, 585, 608, 641, 664, 697, 730, 773, 796, 819, 852, 875, 908, 941, 964, 987, 1000, 1013, 1036], 143) := by decide +kernel
section YL2
variable {p : Program} {l : Launch} {e : Env} {s : State} {m : MethodId} {below : List Frame} {meth : Method} {c : Code} {bs L : Nat} {xs : Nat → Int32} {D : va_G} {G : zm_G}
set_option maxHeartbeats 4000000 in
set_option maxRecDepth 100000 in
theorem yl_sw {i cn t : Nat} {H : Heap} {locs : List Loc} {lr : Array Slot} {h : zm_M} {Q : State → Prop} (C : yl_X p s m meth c bs L xs D G) (hL : L ≤ 3072) (hS : va_S (yl_A s) s.heap H locs) (hl : lv_has lr 4 [(0, .ref bs), (1, .ref (yi_ad s.heap.size 0)), (2, .ref (yi_ad s.heap.size 133)), (3, .int (nI i))]) (hP : va_P D vwCl (yi_w G s.heap.size 171 h) H) (hi : i + 6 ≤ L) (hI : yb_I cn h) (hc : cn < 10000) (ht : t < 32)
    (kk : ∀ (h2 : zm_M) (H1 : Heap) (locs1 : List Loc), yb_I (cn + 1) h2 → va_P D vwCl (yi_w G s.heap.size 171 h2) H1 → va_S (yl_A s) s.heap H1 locs1 → W p l e room_1 s m #[.ref bs] below meth c H1 locs1 600000 7302250 Q (F0 m 1092 lr [])) : W p l e room_1 s m #[.ref bs] below meth c H locs 600000 7302250 Q (F0 m 33 lr [.int (nI t)]) := by
  have hx := C.1.1
  have hb := C.1.2.1
  rcases (show t = 0 ∨ t = 1 ∨ t = 2 ∨ t = 3 ∨ t = 4 ∨ t = 5 ∨ t = 6 ∨ t = 7 ∨ t = 8 ∨ t = 9 ∨ t = 10 ∨ t = 11 ∨ t = 12 ∨ t = 13 ∨ t = 14 ∨ t = 15 ∨ t = 16 ∨ t = 17 ∨ t = 18 ∨ t = 19 ∨ t = 20 ∨ t = 21 ∨ t = 22 ∨ t = 23 ∨ t = 24 ∨ t = 25 ∨ t = 26 ∨ t = 27 ∨ t = 28 ∨ t = 29 ∨ t = 30 ∨ t = 31 by omega) with rfl | rfl | rfl | rfl | rfl | rfl | rfl | rfl | rfl | rfl | rfl | rfl | rfl | rfl | rfl | rfl | rfl | rfl | rfl | rfl | rfl | rfl | rfl | rfl | rfl | rfl | rfl | rfl | rfl | rfl | rfl | rfl
  · exact lv_tableIn (off := 143) (tgt := 176) hx hb yl_d33 (by decide) (by decide) rfl (by decide) (yl_case (n := 4) (j1 := 128) (j2 := 222) C hL ⟨Nat.le_refl _, Nat.le_refl _⟩ hS hl hP hi (by decide) (k1 := 13) (k2 := 17) (by decide +kernel) (by decide +kernel) (by decide +kernel) (zw_p2 117 rfl) (zw_p6 181 rfl) (yb_fact hI hc) kk)
  · exact lv_tableIn (off := 196) (tgt := 229) hx hb yl_d33 (by decide) (by decide) rfl (by decide) (yl_case (n := 1) (j1 := 129) (j2 := 223) C hL ⟨Nat.le_refl _, Nat.le_refl _⟩ hS hl hP hi (by decide) (k1 := 18) (k2 := 22) (by decide +kernel) (by decide +kernel) (by decide +kernel) (zw_p3 18 rfl) (zw_p6 219 rfl) (yb_draws hI hc) kk)
  · exact lv_tableIn (off := 219) (tgt := 252) hx hb yl_d33 (by decide) (by decide) rfl (by decide) (yl_case (n := 5) (j1 := 132) (j2 := 192) C hL ⟨Nat.le_refl _, Nat.le_refl _⟩ hS hl hP hi (by decide) (k1 := 23) (k2 := 27) (by decide +kernel) (by decide +kernel) (by decide +kernel) (zw_p3 34 rfl) (zw_p6 86 rfl) (yb_feed hI hc) kk)
  · exact lv_tableIn (off := 282) (tgt := 315) hx hb yl_d33 (by decide) (by decide) rfl (by decide) (yl_case (n := 1) (j1 := 133) (j2 := 215) C hL ⟨Nat.le_refl _, Nat.le_refl _⟩ hS hl hP hi (by decide) (k1 := 28) (k2 := 31) (by decide +kernel) (by decide +kernel) (by decide +kernel) (zw_p3 42 rfl) (zw_p6 94 rfl) (yb_law hI hc) kk)
  · exact lv_tableIn (off := 305) (tgt := 338) hx hb yl_d33 (by decide) (by decide) rfl (by decide) (yl_case (n := 1) (j1 := 134) (j2 := 227) C hL ⟨Nat.le_refl _, Nat.le_refl _⟩ hS hl hP hi (by decide) (k1 := 32) (k2 := 35) (by decide +kernel) (by decide +kernel) (by decide +kernel) (zw_p3 142 rfl) (zw_p6 223 rfl) (yb_shape hI hc) kk)
  · exact lv_tableIn (off := 328) (tgt := 361) hx hb yl_d33 (by decide) (by decide) rfl (by decide) (yl_case (n := 1) (j1 := 135) (j2 := 235) C hL ⟨Nat.le_refl _, Nat.le_refl _⟩ hS hl hP hi (by decide) (k1 := 36) (k2 := 39) (by decide +kernel) (by decide +kernel) (by decide +kernel) (zw_p3 184 rfl) (zw_p6 238 rfl) (yb_summary hI hc) kk)
  · exact lv_tableIn (off := 351) (tgt := 384) hx hb yl_d33 (by decide) (by decide) rfl (by decide) (yl_case (n := 1) (j1 := 136) (j2 := 238) C hL ⟨Nat.le_refl _, Nat.le_refl _⟩ hS hl hP hi (by decide) (k1 := 40) (k2 := 43) (by decide +kernel) (by decide +kernel) (by decide +kernel) (zw_p4 7 rfl) (zw_p7 33 rfl) (yb_question hI hc) kk)
  · exact lv_tableIn (off := 374) (tgt := 407) hx hb yl_d33 (by decide) (by decide) rfl (by decide) (yl_case (n := 1) (j1 := 138) (j2 := 251) C hL ⟨Nat.le_refl _, Nat.le_refl _⟩ hS hl hP hi (by decide) (k1 := 44) (k2 := 47) (by decide +kernel) (by decide +kernel) (by decide +kernel) (zw_p4 97 rfl) (zw_p7 93 rfl) (yb_renew hI hc) kk)
  · exact lv_tableIn (off := 397) (tgt := 430) hx hb yl_d33 (by decide) (by decide) rfl (by decide) (yl_case (n := 1) (j1 := 139) (j2 := 252) C hL ⟨Nat.le_refl _, Nat.le_refl _⟩ hS hl hP hi (by decide) (k1 := 48) (k2 := 52) (by decide +kernel) (by decide +kernel) (by decide +kernel) (zw_p4 101 rfl) (zw_p7 105 rfl) (yb_drop hI hc) kk)
  · exact lv_tableIn (off := 420) (tgt := 453) hx hb yl_d33 (by decide) (by decide) rfl (by decide) (yl_case (n := 2) (j1 := 140) (j2 := 188) C hL ⟨Nat.le_refl _, Nat.le_refl _⟩ hS hl hP hi (by decide) (k1 := 53) (k2 := 57) (by decide +kernel) (by decide +kernel) (by decide +kernel) (zw_p4 109 rfl) (zw_p6 61 rfl) (yb_coarse hI hc) kk)
  · exact lv_tableIn (off := 453) (tgt := 486) hx hb yl_d33 (by decide) (by decide) rfl (by decide) (yl_case (n := 2) (j1 := 130) (j2 := 190) C hL ⟨Nat.le_refl _, Nat.le_refl _⟩ hS hl hP hi (by decide) (k1 := 58) (k2 := 61) (by decide +kernel) (by decide +kernel) (by decide +kernel) (zw_p3 22 rfl) (zw_p6 78 rfl) (yb_factIs hI hc) kk)
  · exact lv_tableIn (off := 486) (tgt := 519) hx hb yl_d33 (by decide) (by decide) rfl (by decide) (yl_case (n := 2) (j1 := 141) (j2 := 253) C hL ⟨Nat.le_refl _, Nat.le_refl _⟩ hS hl hP hi (by decide) (k1 := 62) (k2 := 65) (by decide +kernel) (by decide +kernel) (by decide +kernel) (zw_p4 115 rfl) (zw_p7 109 rfl) (yb_summaryIs hI hc) kk)
  · exact lv_tableIn (off := 519) (tgt := 552) hx hb yl_d33 (by decide) (by decide) rfl (by decide) (yl_case (n := 3) (j1 := 142) (j2 := 257) C hL ⟨Nat.le_refl _, Nat.le_refl _⟩ hS hl hP hi (by decide) (k1 := 66) (k2 := 70) (by decide +kernel) (by decide +kernel) (by decide +kernel) (zw_p4 127 rfl) (zw_p7 129 rfl) (yb_group hI hc) kk)
  · exact lv_tableIn (off := 562) (tgt := 595) hx hb yl_d33 (by decide) (by decide) rfl (by decide) (yl_case (n := 1) (j1 := 144) (j2 := 258) C hL ⟨Nat.le_refl _, Nat.le_refl _⟩ hS hl hP hi (by decide) (k1 := 71) (k2 := 74) (by decide +kernel) (by decide +kernel) (by decide +kernel) (zw_p4 152 rfl) (zw_p7 140 rfl) (yb_questionIs hI hc) kk)
  · exact lv_tableIn (off := 585) (tgt := 618) hx hb yl_d33 (by decide) (by decide) rfl (by decide) (yl_case (n := 1) (j1 := 145) (j2 := 264) C hL ⟨Nat.le_refl _, Nat.le_refl _⟩ hS hl hP hi (by decide) (k1 := 75) (k2 := 78) (by decide +kernel) (by decide +kernel) (by decide +kernel) (zw_p4 159 rfl) (zw_p7 144 rfl) (yb_covers hI hc) kk)
  · exact lv_tableIn (off := 608) (tgt := 641) hx hb yl_d33 (by decide) (by decide) rfl (by decide) (yl_case (n := 2) (j1 := 146) (j2 := 272) C hL ⟨Nat.le_refl _, Nat.le_refl _⟩ hS hl hP hi (by decide) (k1 := 79) (k2 := 82) (by decide +kernel) (by decide +kernel) (by decide +kernel) (zw_p4 171 rfl) (zw_p7 167 rfl) (yb_coverIs hI hc) kk)
  · exact lv_tableIn (off := 641) (tgt := 674) hx hb yl_d33 (by decide) (by decide) rfl (by decide) (yl_case (n := 1) (j1 := 147) (j2 := 282) C hL ⟨Nat.le_refl _, Nat.le_refl _⟩ hS hl hP hi (by decide) (k1 := 83) (k2 := 86) (by decide +kernel) (by decide +kernel) (by decide +kernel) (zw_p4 191 rfl) (zw_p7 203 rfl) (yb_way hI hc) kk)
  · exact lv_tableIn (off := 664) (tgt := 697) hx hb yl_d33 (by decide) (by decide) rfl (by decide) (yl_case (n := 2) (j1 := 148) (j2 := 285) C hL ⟨Nat.le_refl _, Nat.le_refl _⟩ hS hl hP hi (by decide) (k1 := 87) (k2 := 90) (by decide +kernel) (by decide +kernel) (by decide +kernel) (zw_p4 199 rfl) (zw_p7 211 rfl) (yb_answer hI hc) kk)
  · exact lv_tableIn (off := 697) (tgt := 730) hx hb yl_d33 (by decide) (by decide) rfl (by decide) (yl_case (n := 2) (j1 := 149) (j2 := 287) C hL ⟨Nat.le_refl _, Nat.le_refl _⟩ hS hl hP hi (by decide) (k1 := 91) (k2 := 94) (by decide +kernel) (by decide +kernel) (by decide +kernel) (zw_p4 210 rfl) (zw_p7 227 rfl) (yb_ranked hI hc) kk)
  · exact lv_tableIn (off := 730) (tgt := 763) hx hb yl_d33 (by decide) (by decide) rfl (by decide) (yl_case (n := 3) (j1 := 150) (j2 := 288) C hL ⟨Nat.le_refl _, Nat.le_refl _⟩ hS hl hP hi (by decide) (k1 := 95) (k2 := 98) (by decide +kernel) (by decide +kernel) (by decide +kernel) (zw_p4 227 rfl) (zw_p7 235 rfl) (yb_answerBy hI hc) kk)
  · exact lv_tableIn (off := 773) (tgt := 806) hx hb yl_d33 (by decide) (by decide) rfl (by decide) (yl_case (n := 1) (j1 := 151) (j2 := 290) C hL ⟨Nat.le_refl _, Nat.le_refl _⟩ hS hl hP hi (by decide) (k1 := 99) (k2 := 102) (by decide +kernel) (by decide +kernel) (by decide +kernel) (zw_p4 231 rfl) (zw_p7 239 rfl) (yb_unlike hI hc) kk)
  · exact lv_tableIn (off := 796) (tgt := 829) hx hb yl_d33 (by decide) (by decide) rfl (by decide) (yl_case (n := 1) (j1 := 152) (j2 := 294) C hL ⟨Nat.le_refl _, Nat.le_refl _⟩ hS hl hP hi (by decide) (k1 := 103) (k2 := 106) (by decide +kernel) (by decide +kernel) (by decide +kernel) (zw_p4 239 rfl) (zw_p8 7 rfl) (yb_node hI hc) kk)
  · exact lv_tableIn (off := 819) (tgt := 852) hx hb yl_d33 (by decide) (by decide) rfl (by decide) (yl_case (n := 2) (j1 := 153) (j2 := 296) C hL ⟨Nat.le_refl _, Nat.le_refl _⟩ hS hl hP hi (by decide) (k1 := 107) (k2 := 110) (by decide +kernel) (by decide +kernel) (by decide +kernel) (zw_p5 32 rfl) (zw_p8 21 rfl) (yb_below hI hc) kk)
  · exact lv_tableIn (off := 852) (tgt := 885) hx hb yl_d33 (by decide) (by decide) rfl (by decide) (yl_case (n := 1) (j1 := 154) (j2 := 299) C hL ⟨Nat.le_refl _, Nat.le_refl _⟩ hS hl hP hi (by decide) (k1 := 111) (k2 := 114) (by decide +kernel) (by decide +kernel) (by decide +kernel) (zw_p5 40 rfl) (zw_p8 28 rfl) (yb_price hI hc) kk)
  · exact lv_tableIn (off := 875) (tgt := 908) hx hb yl_d33 (by decide) (by decide) rfl (by decide) (yl_case (n := 2) (j1 := 155) (j2 := 300) C hL ⟨Nat.le_refl _, Nat.le_refl _⟩ hS hl hP hi (by decide) (k1 := 115) (k2 := 118) (by decide +kernel) (by decide +kernel) (by decide +kernel) (zw_p5 60 rfl) (zw_p8 41 rfl) (yb_greedy hI hc) kk)
  · exact lv_tableIn (off := 908) (tgt := 941) hx hb yl_d33 (by decide) (by decide) rfl (by decide) (yl_case (n := 2) (j1 := 156) (j2 := 301) C hL ⟨Nat.le_refl _, Nat.le_refl _⟩ hS hl hP hi (by decide) (k1 := 119) (k2 := 122) (by decide +kernel) (by decide +kernel) (by decide +kernel) (zw_p5 80 rfl) (zw_p8 45 rfl) (yb_best hI hc) kk)
  · exact lv_tableIn (off := 941) (tgt := 974) hx hb yl_d33 (by decide) (by decide) rfl (by decide) (yl_case (n := 1) (j1 := 143) (j2 := 273) C hL ⟨Nat.le_refl _, Nat.le_refl _⟩ hS hl hP hi (by decide) (k1 := 123) (k2 := 126) (by decide +kernel) (by decide +kernel) (by decide +kernel) (zw_p4 139 rfl) (zw_p7 199 rfl) (yb_madeOf hI hc) kk)
  · exact lv_tableIn (off := 964) (tgt := 997) hx hb yl_d33 (by decide) (by decide) rfl (by decide) (yl_case (n := 1) (j1 := 131) (j2 := 302) C hL ⟨Nat.le_refl _, Nat.le_refl _⟩ hS hl hP hi (by decide) (k1 := 127) (k2 := 130) (by decide +kernel) (by decide +kernel) (by decide +kernel) (zw_p3 29 rfl) (zw_p8 49 rfl) (yb_seed hI hc) kk)
  · exact lv_tableIn (off := 987) (tgt := 1020) hx hb yl_d33 (by decide) (by decide) rfl (by decide) (yl_case (n := 0) (j1 := 157) (j2 := 303) C hL ⟨Nat.le_refl _, Nat.le_refl _⟩ hS hl hP hi (by decide) (k1 := 131) (k2 := 135) (by decide +kernel) (by decide +kernel) (by decide +kernel) (zw_p5 88 rfl) (zw_p8 54 rfl) (yb_keep hI hc) kk)
  · exact lv_tableIn (off := 1000) (tgt := 1033) hx hb yl_d33 (by decide) (by decide) rfl (by decide) (yl_case (n := 0) (j1 := 158) (j2 := 304) C hL ⟨Nat.le_refl _, Nat.le_refl _⟩ hS hl hP hi (by decide) (k1 := 136) (k2 := 140) (by decide +kernel) (by decide +kernel) (by decide +kernel) (zw_p5 101 rfl) (zw_p8 58 rfl) (yb_undo hI hc) kk)
  · exact lv_tableIn (off := 1013) (tgt := 1046) hx hb yl_d33 (by decide) (by decide) rfl (by decide) (yl_case (n := 1) (j1 := 137) (j2 := 305) C hL ⟨Nat.le_refl _, Nat.le_refl _⟩ hS hl hP hi (by decide) (k1 := 141) (k2 := 144) (by decide +kernel) (by decide +kernel) (by decide +kernel) (zw_p4 89 rfl) (zw_p8 62 rfl) (yb_check hI hc) kk)
  · exact lv_tableIn (off := 1036) (tgt := 1069) hx hb yl_d33 (by decide) (by decide) rfl (by decide) (yl_case (n := 1) (j1 := 159) (j2 := 307) C hL ⟨Nat.le_refl _, Nat.le_refl _⟩ hS hl hP hi (by decide) (k1 := 145) (k2 := 148) (by decide +kernel) (by decide +kernel) (by decide +kernel) (zw_p5 105 rfl) (zw_p8 70 rfl) (yb_count hI hc) kk)
set_option maxHeartbeats 4000000 in
theorem yl_loop (C : yl_X p s m meth c bs L xs D G) (hL : L ≤ 3072) : ∀ (k cn : Nat), 3072 < 6 * cn + 6 * k → cn ≤ 600 → ∀ (h : zm_M) (H : Heap) (locs : List Loc) (lr : Array Slot), yb_I cn h → va_P D vwCl (yi_w G s.heap.size 171 h) H → va_S (yl_A s) s.heap H locs → lv_has lr 4 [(0, .ref bs), (1, .ref (yi_ad s.heap.size 0)), (2, .ref (yi_ad s.heap.size 133)), (3, .int (nI (6 * cn)))] → W p l e room_1 s m #[.ref bs] below meth c H locs 600000 7302250 (lw_Z below #[Value.ref bs] s) (F0 m 18 lr []) := by
  have C0 := C
  obtain ⟨⟨hx, hb, hr, hml, hown, hts, hX, hbl, hlocks, hgv⟩, hKK, hN, hO⟩ := C
  have hbA : ¬ yl_A s bs := Nat.not_le.mpr hbl
  intro k
  induction k with
  | zero =>
    intro cn hk hc h H locs lr hI hP hS hl
    refine lv_iload_n hx hb yl_d18 rfl (lv_at hl 3 rfl) ?_
    refine lv_aload_n hx hb yl_d19 rfl (lv_at hl 0 rfl) ?_
    refine va_slen hx hb hX hbl hbA hS yl_d20 ?_
    refine lv_bipush (v := 6) hx hb yl_d21 (by decide) ?_
    refine lv_isub hx hb yl_d23 ?_
    refine lv_icmp_gt (tgt := 1098) hx hb yl_d24 (by decide) (fun _ => ?_) (fun z => absurd ((yl_cmp (by omega) hL).mpr (by omega)) z)
    refine lv_iconst (v := 1) hx hb yl_d1098 (by decide) ?_
    refine va_forget (fun q hq => hS.2.2 q hq) ?_
    exact lw_ret hx hb hr hlocks yl_d1099
  | succ k ih =>
    intro cn hk hc h H locs lr hI hP hS hl
    refine lv_iload_n hx hb yl_d18 rfl (lv_at hl 3 rfl) ?_
    refine lv_aload_n hx hb yl_d19 rfl (lv_at hl 0 rfl) ?_
    refine va_slen hx hb hX hbl hbA hS yl_d20 ?_
    refine lv_bipush (v := 6) hx hb yl_d21 (by decide) ?_
    refine lv_isub hx hb yl_d23 ?_
    refine lv_icmp_gt (tgt := 1098) hx hb yl_d24 (by decide) (fun _ => ?_) (fun z => ?_)
    · refine lv_iconst (v := 1) hx hb yl_d1098 (by decide) ?_
      refine va_forget (fun q hq => hS.2.2 q hq) ?_
      exact lw_ret hx hb hr hlocks yl_d1099
    · have z : ¬ L < 6 * cn + 6 := fun q => z ((yl_cmp (by omega) hL).mpr q)
      refine lv_aload_n hx hb yl_d27 rfl (lv_at hl 0 rfl) ?_
      refine lv_iload_n hx hb yl_d28 rfl (lv_at hl 3 rfl) ?_
      refine va_sld (A := yl_A s) hx hb hX hbl hbA hS (vp_in_nI (show 6 * cn < L by omega) (by omega)) yl_d29 ?_
      refine lv_bipush (v := 31) hx hb yl_d30 (by decide) ?_
      refine lv_iand hx hb yl_d32 ?_
      obtain ⟨t, ht, et⟩ := yl_31 (xs (nI (6 * cn)).toNatClampNeg)
      rw [et]
      refine yl_sw C0 hL hS hl hP (by omega) hI (by omega) ht (fun h2 H1 locs1 hI2 hP1 hS1 => ?_)
      refine lv_iinc (k := 3) (v := nI (6 * (cn + 1))) (lv' := [(3, .int (nI (6 * (cn + 1)))), (0, .ref bs), (1, .ref (yi_ad s.heap.size 0)), (2, .ref (yi_ad s.heap.size 133))]) hx hb yl_d1092 hl rfl (nI_add (6 * cn) 6) (by decide) rfl (fun ls hl => ?_)
      refine lv_goto (tgt := 18) hx hb yl_d1095 (by decide) ?_
      exact ih (cn + 1) (by omega) (by omega) h2 H1 locs1 ls hI2 hP1 hS1 (lv_sub hl [1, 2, 3, 0] rfl)
end YL2
