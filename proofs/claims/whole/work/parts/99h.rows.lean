/-! rows of the making machine -/
theorem yi_oi : Cond.instanceMethod objectInit ∈ lw_tbl ∧ Cond.code objectInit ⟨#[0xb1]⟩ 1 none ∈ lw_tbl := by
  constructor <;> decide +kernel
theorem yi_al {q : zm_D} {d n0 n1 : Nat} {R : zm_M → Prop} {pc : Nat} {ls : zm_L} {st : List zm_V} {n : Nat} {h : zm_M} {i : Fin 4} {a : Nat} (hd : decode q.2.1 pc = .ok (.aload_n i, 1)) (ha : ls[i.val]? = some (some (.inr (some a)))) (k : yi_W q d n0 n1 R (pc + 1) ls (.inr (some a) :: st) (n) (h)) : yi_W q d n0 n1 R pc ls (st) n h := by
  intro p l e s m args below meth c D G b A H locs lr hX hO hnm hs hle hn hP hD hS hl
  obtain ⟨hx, hb, hml, hr, hlocks, hown, hts, hKK, hN, hA⟩ := id hX
  exact lv_aload_n hx hb hd rfl (hl.2.2 _ _ ha) (k p l e s m args below meth c D G b A _ _ _ hX hO hnm hs hle hn hP hD hS hl)
theorem yi_il {q : zm_D} {d n0 n1 : Nat} {R : zm_M → Prop} {pc : Nat} {ls : zm_L} {st : List zm_V} {n : Nat} {h : zm_M} {i : Fin 4} {x : Int32} (hd : decode q.2.1 pc = .ok (.iload_n i, 1)) (ha : ls[i.val]? = some (some (.inl x))) (k : yi_W q d n0 n1 R (pc + 1) ls (.inl x :: st) (n) (h)) : yi_W q d n0 n1 R pc ls (st) n h := by
  intro p l e s m args below meth c D G b A H locs lr hX hO hnm hs hle hn hP hD hS hl
  obtain ⟨hx, hb, hml, hr, hlocks, hown, hts, hKK, hN, hA⟩ := id hX
  exact lv_iload_n hx hb hd rfl (hl.2.2 _ _ ha) (k p l e s m args below meth c D G b A _ _ _ hX hO hnm hs hle hn hP hD hS hl)
theorem yi_is {q : zm_D} {d n0 n1 : Nat} {R : zm_M → Prop} {pc : Nat} {ls : zm_L} {st : List zm_V} {n : Nat} {h : zm_M} {i : Fin 4} {x : Int32} (hd : decode q.2.1 pc = .ok (.istore_n i, 1)) (ha : i.val < q.2.2.1) (k : yi_W q d n0 n1 R (pc + 1) (ls.set i.val (some (.inl x))) (st) (n) (h)) : yi_W q d n0 n1 R pc ls (.inl x :: st) n h := by
  intro p l e s m args below meth c D G b A H locs lr hX hO hnm hs hle hn hP hD hS hl
  obtain ⟨hx, hb, hml, hr, hlocks, hown, hts, hKK, hN, hA⟩ := id hX
  exact lv_istore_n hx hb hd rfl (zm_al_has hl) ha rfl (fun lr' hl' => k p l e s m args below meth c D G b A _ _ _ hX hO hnm hs hle hn hP hD hS (zm_al_set (v := .inl _) hl'))
theorem yi_ii {q : zm_D} {d n0 n1 : Nat} {R : zm_M → Prop} {pc : Nat} {ls : zm_L} {st : List zm_V} {n : Nat} {h : zm_M} {i : Nat} {z : Int} {x y : Int32} (hd : decode q.2.1 pc = .ok (.iinc i z, 3)) (ha : i < q.2.2.1) (hi : ls[i]? = some (some (.inl x))) (hy : x + Int32.ofInt z = y) (k : yi_W q d n0 n1 R (pc + 3) (ls.set i (some (.inl y))) (st) (n) (h)) : yi_W q d n0 n1 R pc ls (st) n h := by
  intro p l e s m args below meth c D G b A H locs lr hX hO hnm hs hle hn hP hD hS hl
  obtain ⟨hx, hb, hml, hr, hlocks, hown, hts, hKK, hN, hA⟩ := id hX
  obtain ⟨k2, hk2⟩ := List.getElem?_of_mem (zm_al_in (ad := yi_ad b) hi)
  exact lv_iinc (v := y) hx hb hd (zm_al_has hl) hk2 hy ha rfl (fun lr' hl' => k p l e s m args below meth c D G b A _ _ _ hX hO hnm hs hle hn hP hD hS (zm_al_set (v := .inl _) hl'))
theorem yi_ic {q : zm_D} {d n0 n1 : Nat} {R : zm_M → Prop} {pc : Nat} {ls : zm_L} {st : List zm_V} {n : Nat} {h : zm_M} {z : Int} {x : Int32} (hd : decode q.2.1 pc = .ok (.iconst z, 1)) (hv : Int32.ofInt z = x) (k : yi_W q d n0 n1 R (pc + 1) ls (.inl x :: st) (n) (h)) : yi_W q d n0 n1 R pc ls (st) n h := by
  intro p l e s m args below meth c D G b A H locs lr hX hO hnm hs hle hn hP hD hS hl
  obtain ⟨hx, hb, hml, hr, hlocks, hown, hts, hKK, hN, hA⟩ := id hX
  exact lv_iconst hx hb hd hv (k p l e s m args below meth c D G b A _ _ _ hX hO hnm hs hle hn hP hD hS hl)
theorem yi_bp {q : zm_D} {d n0 n1 : Nat} {R : zm_M → Prop} {pc : Nat} {ls : zm_L} {st : List zm_V} {n : Nat} {h : zm_M} {z : Int} {x : Int32} (hd : decode q.2.1 pc = .ok (.bipush z, 2)) (hv : (Int8.ofInt z).toInt32 = x) (k : yi_W q d n0 n1 R (pc + 2) ls (.inl x :: st) (n) (h)) : yi_W q d n0 n1 R pc ls (st) n h := by
  intro p l e s m args below meth c D G b A H locs lr hX hO hnm hs hle hn hP hD hS hl
  obtain ⟨hx, hb, hml, hr, hlocks, hown, hts, hKK, hN, hA⟩ := id hX
  exact lv_bipush hx hb hd hv (k p l e s m args below meth c D G b A _ _ _ hX hO hnm hs hle hn hP hD hS hl)
theorem yi_sp {q : zm_D} {d n0 n1 : Nat} {R : zm_M → Prop} {pc : Nat} {ls : zm_L} {st : List zm_V} {n : Nat} {h : zm_M} {z : Int} {x : Int32} (hd : decode q.2.1 pc = .ok (.sipush z, 3)) (hv : (Int16.ofInt z).toInt32 = x) (k : yi_W q d n0 n1 R (pc + 3) ls (.inl x :: st) (n) (h)) : yi_W q d n0 n1 R pc ls (st) n h := by
  intro p l e s m args below meth c D G b A H locs lr hX hO hnm hs hle hn hP hD hS hl
  obtain ⟨hx, hb, hml, hr, hlocks, hown, hts, hKK, hN, hA⟩ := id hX
  exact lv_sipush hx hb hd hv (k p l e s m args below meth c D G b A _ _ _ hX hO hnm hs hle hn hP hD hS hl)
theorem yi_dup {q : zm_D} {d n0 n1 : Nat} {R : zm_M → Prop} {pc : Nat} {ls : zm_L} {st : List zm_V} {n : Nat} {h : zm_M} {v : zm_V} (hd : decode q.2.1 pc = .ok (.dup, 1)) (k : yi_W q d n0 n1 R (pc + 1) ls (v :: v :: st) (n) (h)) : yi_W q d n0 n1 R pc ls (v :: st) n h := by
  intro p l e s m args below meth c D G b A H locs lr hX hO hnm hs hle hn hP hD hS hl
  obtain ⟨hx, hb, hml, hr, hlocks, hown, hts, hKK, hN, hA⟩ := id hX
  exact lv_dup hx hb hd (zm_cat1 _ _) (k p l e s m args below meth c D G b A _ _ _ hX hO hnm hs hle hn hP hD hS hl)
theorem yi_ior {q : zm_D} {d n0 n1 : Nat} {R : zm_M → Prop} {pc : Nat} {ls : zm_L} {st : List zm_V} {n : Nat} {h : zm_M} {x y : Int32} (hd : decode q.2.1 pc = .ok (.ior, 1)) (k : yi_W q d n0 n1 R (pc + 1) ls (.inl (x ||| y) :: st) (n) (h)) : yi_W q d n0 n1 R pc ls (.inl y :: .inl x :: st) n h := by
  intro p l e s m args below meth c D G b A H locs lr hX hO hnm hs hle hn hP hD hS hl
  obtain ⟨hx, hb, hml, hr, hlocks, hown, hts, hKK, hN, hA⟩ := id hX
  exact lv_ior hx hb hd (k p l e s m args below meth c D G b A _ _ _ hX hO hnm hs hle hn hP hD hS hl)
theorem yi_ishl {q : zm_D} {d n0 n1 : Nat} {R : zm_M → Prop} {pc : Nat} {ls : zm_L} {st : List zm_V} {n : Nat} {h : zm_M} {x y : Int32} (hd : decode q.2.1 pc = .ok (.ishl, 1)) (k : yi_W q d n0 n1 R (pc + 1) ls (.inl (x <<< (y &&& 31)) :: st) (n) (h)) : yi_W q d n0 n1 R pc ls (.inl y :: .inl x :: st) n h := by
  intro p l e s m args below meth c D G b A H locs lr hX hO hnm hs hle hn hP hD hS hl
  obtain ⟨hx, hb, hml, hr, hlocks, hown, hts, hKK, hN, hA⟩ := id hX
  exact lv_ishl hx hb hd (k p l e s m args below meth c D G b A _ _ _ hX hO hnm hs hle hn hP hD hS hl)
theorem yi_idiv {q : zm_D} {d n0 n1 : Nat} {R : zm_M → Prop} {pc : Nat} {ls : zm_L} {st : List zm_V} {n : Nat} {h : zm_M} {x y : Int32} (hd : decode q.2.1 pc = .ok (.idiv, 1)) (h0 : ¬ y = 0) (k : yi_W q d n0 n1 R (pc + 1) ls (.inl (x / y) :: st) (n) (h)) : yi_W q d n0 n1 R pc ls (.inl y :: .inl x :: st) n h := by
  intro p l e s m args below meth c D G b A H locs lr hX hO hnm hs hle hn hP hD hS hl
  obtain ⟨hx, hb, hml, hr, hlocks, hown, hts, hKK, hN, hA⟩ := id hX
  exact lv_idiv hx hb hd h0 (k p l e s m args below meth c D G b A _ _ _ hX hO hnm hs hle hn hP hD hS hl)
theorem yi_irem {q : zm_D} {d n0 n1 : Nat} {R : zm_M → Prop} {pc : Nat} {ls : zm_L} {st : List zm_V} {n : Nat} {h : zm_M} {x y : Int32} (hd : decode q.2.1 pc = .ok (.irem, 1)) (h0 : ¬ y = 0) (k : yi_W q d n0 n1 R (pc + 1) ls (.inl (x - x / y * y) :: st) (n) (h)) : yi_W q d n0 n1 R pc ls (.inl y :: .inl x :: st) n h := by
  intro p l e s m args below meth c D G b A H locs lr hX hO hnm hs hle hn hP hD hS hl
  obtain ⟨hx, hb, hml, hr, hlocks, hown, hts, hKK, hN, hA⟩ := id hX
  exact lv_irem hx hb hd h0 (k p l e s m args below meth c D G b A _ _ _ hX hO hnm hs hle hn hP hD hS hl)
theorem yi_go {q : zm_D} {d n0 n1 : Nat} {R : zm_M → Prop} {pc : Nat} {ls : zm_L} {st : List zm_V} {n : Nat} {h : zm_M} {o : Int} {t : Nat} (hd : decode q.2.1 pc = .ok (.goto o, 3)) (ht : (pc : Int) + o = (t : Int)) (k : yi_W q d n0 n1 R (t) ls (st) (n) (h)) : yi_W q d n0 n1 R pc ls (st) n h := by
  intro p l e s m args below meth c D G b A H locs lr hX hO hnm hs hle hn hP hD hS hl
  obtain ⟨hx, hb, hml, hr, hlocks, hown, hts, hKK, hN, hA⟩ := id hX
  exact lv_goto hx hb hd ht (k p l e s m args below meth c D G b A _ _ _ hX hO hnm hs hle hn hP hD hS hl)
theorem yi_ge {q : zm_D} {d n0 n1 : Nat} {R : zm_M → Prop} {pc : Nat} {ls : zm_L} {st : List zm_V} {n : Nat} {h : zm_M} {o : Int} {t : Nat} {x y : Int32} (hd : decode q.2.1 pc = .ok (.if_icmp .ge o, 3)) (ht : (pc : Int) + o = (t : Int)) (k1 : y ≤ x → yi_W q d n0 n1 R t ls st n h) (k2 : ¬ y ≤ x → yi_W q d n0 n1 R (pc + 3) ls st n h) : yi_W q d n0 n1 R pc ls (.inl y :: .inl x :: st) n h := by
  intro p l e s m args below meth c D G b A H locs lr hX hO hnm hs hle hn hP hD hS hl
  obtain ⟨hx, hb, hml, hr, hlocks, hown, hts, hKK, hN, hA⟩ := id hX
  exact lv_icmp_ge hx hb hd ht (fun z => (k1 z p l e s m args below meth c D G b A _ _ _ hX hO hnm hs hle hn hP hD hS hl)) (fun z => (k2 z p l e s m args below meth c D G b A _ _ _ hX hO hnm hs hle hn hP hD hS hl))
theorem yi_eq {q : zm_D} {d n0 n1 : Nat} {R : zm_M → Prop} {pc : Nat} {ls : zm_L} {st : List zm_V} {n : Nat} {h : zm_M} {o : Int} {t : Nat} {x : Int32} (hd : decode q.2.1 pc = .ok (.ifCond .eq o, 3)) (ht : (pc : Int) + o = (t : Int)) (k1 : x = 0 → yi_W q d n0 n1 R t ls st n h) (k2 : ¬ x = 0 → yi_W q d n0 n1 R (pc + 3) ls st n h) : yi_W q d n0 n1 R pc ls (.inl x :: st) n h := by
  intro p l e s m args below meth c D G b A H locs lr hX hO hnm hs hle hn hP hD hS hl
  obtain ⟨hx, hb, hml, hr, hlocks, hown, hts, hKK, hN, hA⟩ := id hX
  exact lv_if_eq hx hb hd ht (fun z => (k1 z p l e s m args below meth c D G b A _ _ _ hX hO hnm hs hle hn hP hD hS hl)) (fun z => (k2 z p l e s m args below meth c D G b A _ _ _ hX hO hnm hs hle hn hP hD hS hl))
theorem yi_gf {q : zm_D} {d n0 n1 : Nat} {R : zm_M → Prop} {pc : Nat} {ls : zm_L} {st : List zm_V} {n : Nat} {h : zm_M} {oc k fb qq : Nat} {y : Nat} (hd : decode q.2.1 pc = .ok (.getfield k, 3)) (hq : q.1.cls = zm_cn oc) (hL : zm_FL.contains (oc, k, oc, fb, 0) = true) (hc : oc < 13 ∧ fb < zm_fn oc ∧ zm_fk oc fb = 2) (hsh : (zm_sh TT qq).1 = oc + 3) (hqq : qq < n) (hy : h.2 qq fb = some y) (kk : yi_W q d n0 n1 R (pc + 3) ls (.inr (some y) :: st) (n) (h)) : yi_W q d n0 n1 R pc ls (.inr (some qq) :: st) n h := by
  intro p l e s m args below meth c D G b A H locs lr hX hO hnm hs hle hn hP hD hS hl
  obtain ⟨hx, hb, hml, hr, hlocks, hown, hts, hKK, hN, hA⟩ := id hX
  rw [hq] at hown
  have h1 : (zm_sh (TT.take n) qq).1 = oc + 3 := by rw [yi_sh hqq hn]; exact hsh
  have he := zm_w_at (G := G) (ad := yi_ad b) (T := TT.take n) (h := h) (zm_lt (by rw [h1]; omega))
  rw [zm_e_obj h1] at he
  have hv : ((List.range (zm_fn oc)).map (zm_fv (yi_ad b) oc qq h))[fb]? = some (zm_v (yi_ad b) (.inr (some y))) := by
    rw [zm_fs_at hc.2.1, zm_fv, if_pos hc.2.2, hy]
    rfl
  exact va_get hx hb hts (zm_uin hc.1) hown hKK hP qq he (zm_cl_at oc hc.1) fb hc.2.1 (hts _ (zm_in (zm_FLw hL) rfl)) (fun _ h9 => h9) hv hd (kk p l e s m args below meth c D G b A _ _ _ hX hO hnm hs hle hn hP hD hS hl)
set_option maxHeartbeats 4000000 in
theorem yi_put {q : zm_D} {d n0 n1 : Nat} {R : zm_M → Prop} {pc : Nat} {ls : zm_L} {st : List zm_V} {n : Nat} {h : zm_M} {oc k fb qq : Nat} {z : zm_V} {h' : zm_M} (hd : decode q.2.1 pc = .ok (.putfield k, 3)) (hq : q.1.cls = zm_cn oc) (hL : zm_FL.contains (oc, k, oc, fb, 0) = true) (hc : oc < 13 ∧ fb < zm_fn oc) (hsh : (zm_sh TT qq).1 = oc + 3) (hqq : qq < n) (hnr : ∀ ad, narrow (zm_ty oc fb) (zm_v ad z) = zm_v ad z) (hft : ∀ ad, fits (zm_ty oc fb) (zm_v ad z) = true) (hv1 : ∀ ad, zm_fv ad oc qq h' fb = zm_v ad z) (hv2 : ∀ ad j, j ≠ fb → zm_fv ad oc qq h' j = zm_fv ad oc qq h j) (ho : ∀ x, x ≠ qq → h'.1 x = h.1 x ∧ h'.2 x = h.2 x) (kk : yi_W q d n0 n1 R (pc + 3) ls (st) (n) (h')) : yi_W q d n0 n1 R pc ls (z :: .inr (some qq) :: st) n h := by
  intro p l e s m args below meth c D G b A H locs lr hX hO hnm hs hle hn hP hD hS hl
  obtain ⟨hx, hb, hml, hr, hlocks, hown, hts, hKK, hN, hA⟩ := id hX
  rw [hq] at hown
  have h1 : (zm_sh (TT.take n) qq).1 = oc + 3 := by rw [yi_sh hqq hn]; exact hsh
  have he := zm_w_at (G := G) (ad := yi_ad b) (T := TT.take n) (h := h) (zm_lt (by rw [h1]; omega))
  rw [zm_e_obj h1] at he
  obtain ⟨hc, hbN⟩ := hc
  obtain ⟨hty, hkt, hdc, -⟩ := (zm_fields_at hc).2 fb hbN
  have hset : (zm_w G (yi_ad b) (TT.take n) h).set qq (yi_ad b qq, .inr (oc, ((List.range (zm_fn oc)).map (zm_fv (yi_ad b) oc qq h)).set fb (zm_v (yi_ad b) z))) = zm_w G (yi_ad b) (TT.take n) h' := zm_w_upd ho (by rw [zm_e_obj h1, zm_fs_set (hv1 _) (hv2 _)])
  have kk2 : ∀ (H1 : Heap) (locs1 : List Loc), va_P D vwCl ((zm_w G (yi_ad b) (TT.take n) h).set qq (yi_ad b qq, .inr (oc, ((List.range (zm_fn oc)).map (zm_fv (yi_ad b) oc qq h)).set fb (zm_v (yi_ad b) z)))) H1 → va_D A ((zm_w G (yi_ad b) (TT.take n) h).set qq (yi_ad b qq, .inr (oc, ((List.range (zm_fn oc)).map (zm_fv (yi_ad b) oc qq h)).set fb (zm_v (yi_ad b) z)))) → va_S A s.heap H1 locs1 → W p l e (yi_rm d n0 n1) s m args below meth c H1 locs1 (n - n0) (yi_S n - yi_S n0) (MQ below (yi_Q D G b n1 R A) args s (n1 - n0) (yi_S n1 - yi_S n0) A) (F0 m (pc + 3) lr (st.map (zm_v (yi_ad b)))) := by
    rw [hset]
    exact fun H1 locs1 hP1 hD1 hS1 => kk p l e s m args below meth c D G b A _ _ _ hX hO hnm hs hle hn hP1 hD1 hS1 hl
  cases hff : (zm_tx oc fb).2.2.2 with
  | false => exact va_put hx hb hts (zm_uin hc) (zm_ty oc) (fun k hk => ((zm_fields_at hc).2 k hk).1) (fun x hx y hy hxy => ((zm_fields_at hc).2 x hx).2.2.2 y hy hxy) hown hKK hP hD hS qq he (zm_cl_at oc hc) fb hbN (hts _ (zm_in (zm_FLw hL) rfl)) (fun _ h9 => h9) hff hty (hnr _) (hft _) (by simpa using hbN) hd kk2
  | true => exact va_putF hx hb hts (zm_uin hc) (zm_ty oc) (fun k hk => ((zm_fields_at hc).2 k hk).1) (fun x hx y hy hxy => ((zm_fields_at hc).2 x hx).2.2.2 y hy hxy) hown hKK hP hD hS qq he (zm_cl_at oc hc) fb hbN (hts _ (zm_in (zm_FLw hL) rfl)) (fun _ h9 => h9) hff hnm hdc hty (hnr _) (hft _) (by simpa using hbN) hd kk2
theorem yi_pr {q : zm_D} {d n0 n1 : Nat} {R : zm_M → Prop} {pc : Nat} {ls : zm_L} {st : List zm_V} {n : Nat} {h : zm_M} {oc k fb qq y : Nat} (hd : decode q.2.1 pc = .ok (.putfield k, 3)) (hq : q.1.cls = zm_cn oc) (hL : zm_FL.contains (oc, k, oc, fb, 0) = true) (hc : oc < 13 ∧ fb < zm_fn oc ∧ zm_fk oc fb = 2) (hsh : (zm_sh TT qq).1 = oc + 3) (hqq : qq < n) (kk : yi_W q d n0 n1 R (pc + 3) ls (st) (n) (zm_sr h qq fb (some y))) : yi_W q d n0 n1 R pc ls (.inr (some y) :: .inr (some qq) :: st) n h := by
  obtain ⟨h1, h2, h3⟩ := hc
  have hkt := ((zm_fields_at h1).2 fb h2).2.1
  have hobj : (∃ n, zm_ty oc fb = .object n) ∨ ∃ t, zm_ty oc fb = .array t := by
    rw [h3] at hkt
    unfold zm_kt at hkt
    split at hkt
    · next e1 e2 => cases e1
    · next e1 e2 => cases e1
    · next e1 e2 => exact Or.inl ⟨_, e2⟩
    · next e1 e2 => exact Or.inr ⟨_, e2⟩
    · cases hkt
  refine yi_put hd hq hL ⟨h1, h2⟩ hsh hqq (fun ad => ?_) (fun ad => ?_) (fun ad => by simp [zm_fv, h3, zm_sr, zm_v]) (fun ad j hj => by simp [zm_fv, zm_sr, hj]) zm_sr_o kk
  · rcases hobj with ⟨n, e⟩ | ⟨n, e⟩ <;> rw [e] <;> rfl
  · rcases hobj with ⟨n, e⟩ | ⟨n, e⟩ <;> rw [e] <;> rfl
theorem yi_pi {q : zm_D} {d n0 n1 : Nat} {R : zm_M → Prop} {pc : Nat} {ls : zm_L} {st : List zm_V} {n : Nat} {h : zm_M} {oc k fb qq : Nat} {x : Int32} (hd : decode q.2.1 pc = .ok (.putfield k, 3)) (hq : q.1.cls = zm_cn oc) (hL : zm_FL.contains (oc, k, oc, fb, 0) = true) (hc : oc < 13 ∧ fb < zm_fn oc) (hf : zm_fk oc fb = 0 ∨ (zm_fk oc fb = 1 ∧ (x = 0 ∨ x = 1))) (hsh : (zm_sh TT qq).1 = oc + 3) (hqq : qq < n) (kk : yi_W q d n0 n1 R (pc + 3) ls (st) (n) (zm_si h qq fb x)) : yi_W q d n0 n1 R pc ls (.inl x :: .inr (some qq) :: st) n h := by
  obtain ⟨h1, h2⟩ := hc
  have hkt := ((zm_fields_at h1).2 fb h2).2.1
  have h3 : ¬ zm_fk oc fb = 2 := by omega
  have hty : zm_ty oc fb = .int ∨ (zm_ty oc fb = .boolean ∧ (x = 0 ∨ x = 1)) := by
    unfold zm_kt at hkt
    split at hkt
    · next e1 e2 => exact Or.inl e2
    · next e1 e2 => exact Or.inr ⟨e2, by rcases hf with z | z; exact absurd (z.symm.trans e1) (by decide); exact z.2⟩
    · next e1 e2 => exact absurd e1 h3
    · next e1 e2 => exact absurd e1 h3
    · cases hkt
  refine yi_put hd hq hL ⟨h1, h2⟩ hsh hqq (fun ad => ?_) (fun ad => ?_) (fun ad => by simp [zm_fv, h3, zm_si, zm_v]) (fun ad j hj => by simp [zm_fv, zm_si, hj]) zm_si_o kk
  · rcases hty with e | ⟨e, rfl | rfl⟩ <;> rw [e] <;> rfl
  · rcases hty with e | ⟨e, rfl | rfl⟩ <;> rw [e] <;> rfl
theorem yi_ia {q : zm_D} {d n0 n1 : Nat} {R : zm_M → Prop} {pc : Nat} {ls : zm_L} {st : List zm_V} {n : Nat} {h : zm_M} {x y : Int32} {qq N : Nat} (hd : decode q.2.1 pc = .ok (.iastore, 1)) (hsh : zm_sh TT qq = (0, N)) (hqq : qq < n) (hin : vp_in x N) (kk : yi_W q d n0 n1 R (pc + 1) ls (st) (n) (zm_si h qq x.toNatClampNeg y)) : yi_W q d n0 n1 R pc ls (.inl y :: .inl x :: .inr (some qq) :: st) n h := by
  intro p l e s m args below meth c D G b A H locs lr hX hO hnm hs hle hn hP hD hS hl
  obtain ⟨hx, hb, hml, hr, hlocks, hown, hts, hKK, hN, hA⟩ := id hX
  have h1 : zm_sh (TT.take n) qq = (0, N) := by rw [yi_sh hqq hn]; exact hsh
  have he := zm_w_at (G := G) (ad := yi_ad b) (T := TT.take n) (h := h) (zm_lt (a := qq) (by simp [h1]))
  rw [zm_e_0 (by rw [h1]), h1] at he
  refine va_iast hx hb hKK hP hD hS qq 0 he rfl hin hd ?_
  rw [zm_si_up, zm_w_upd (h' := zm_si h qq x.toNatClampNeg y) zm_si_o (by rw [zm_e_0 (by rw [h1]), h1])]
  exact fun H1 locs1 hP1 hD1 hS1 => kk p l e s m args below meth c D G b A _ _ _ hX hO hnm hs hle hn hP1 hD1 hS1 hl
theorem yi_aa {q : zm_D} {d n0 n1 : Nat} {R : zm_M → Prop} {pc : Nat} {ls : zm_L} {st : List zm_V} {n : Nat} {h : zm_M} {x : Int32} {qq y N : Nat} (hd : decode q.2.1 pc = .ok (.aastore, 1)) (hsh : zm_sh TT qq = (2, N)) (hqq : qq < n) (hsy : (zm_sh TT y).1 = 11) (hy : y < n) (hin : vp_in x N) (kk : yi_W q d n0 n1 R (pc + 1) ls (st) (n) (zm_sr h qq x.toNatClampNeg (some y))) : yi_W q d n0 n1 R pc ls (.inr (some y) :: .inl x :: .inr (some qq) :: st) n h := by
  intro p l e s m args below meth c D G b A H locs lr hX hO hnm hs hle hn hP hD hS hl
  obtain ⟨hx, hb, hml, hr, hlocks, hown, hts, hKK, hN, hA⟩ := id hX
  have h1 : zm_sh (TT.take n) qq = (2, N) := by rw [yi_sh hqq hn]; exact hsh
  have h2 : (zm_sh (TT.take n) y).1 = 8 + 3 := by rw [yi_sh hy hn]; exact hsy
  have he := zm_w_at (G := G) (ad := yi_ad b) (T := TT.take n) (h := h) (zm_lt (a := qq) (by simp [h1]))
  rw [zm_e_2 (by rw [h1]), h1] at he
  have hy := zm_w_at (G := G) (ad := yi_ad b) (T := TT.take n) (h := h) (zm_lt (by rw [h2]; decide))
  rw [zm_e_obj (c := 8) h2] at hy
  refine va_astq (r := (RX8, TX8, 3)) hx hb hKK hP hD hS qq 2 y 8 he rfl hy rfl hin hd ?_
  rw [zm_sr_up, zm_w_upd (h' := zm_sr h qq x.toNatClampNeg (some y)) zm_sr_o (by rw [zm_e_2 (by rw [h1]), h1])]
  exact fun H1 locs1 hP1 hD1 hS1 => kk p l e s m args below meth c D G b A _ _ _ hX hO hnm hs hle hn hP1 hD1 hS1 hl
theorem yi_ret {q : zm_D} {d n0 n1 : Nat} {R : zm_M → Prop} {pc : Nat} {ls : zm_L} {h : zm_M} (hd : decode q.2.1 pc = .ok (.return_, 1)) (hq : q.2.2.2.1 = none) (kk : R h) : yi_W q d n0 n1 R pc ls [] n1 h := by
  intro p l e s m args below meth c D G b A H locs lr hX hO hnm hs hle hn hP hD hS hl
  obtain ⟨hx, hb, hml, hr, hlocks, hown, hts, hKK, hN, hA⟩ := id hX
  exact W.vret hx hb (hr.trans hq) (fun t ht hW => ⟨⟨h, kk, rfl, by rw [ht]; exact hP⟩, hS.F ht⟩) hS.2.2 hd hlocks
theorem yi_ob {q : zm_D} {d n0 n1 : Nat} {R : zm_M → Prop} {pc : Nat} {ls : zm_L} {st : List zm_V} {n : Nat} {h : zm_M} {oc k qq : Nat} (hd : decode q.2.1 pc = .ok (.invokespecial k, 3)) (hq : q.1.cls = zm_cn oc) (hL : Cond.methodLink (zm_cn oc) k objectInit ∈ lw_tbl) (hst : st.length ≤ 8) (kk : yi_W q d n0 n1 R (pc + 3) ls (st) (n) (h)) : yi_W q d n0 n1 R pc ls (.inr (some qq) :: st) n h := by
  intro p l e s m args below meth c D G b A H locs lr hX hO hnm hs hle hn hP hD hS hl
  obtain ⟨hx, hb, hml, hr, hlocks, hown, hts, hKK, hN, hA⟩ := id hX
  rw [hq] at hown
  refine W.objInit hx hb hown (hts _ (zm_in hL rfl)) (hts _ (zm_in yi_oi.1 rfl)) (hts _ (zm_in yi_oi.2 rfl)) rfl (by rw [hml]; exact hl.1) rfl hd (by simp only [yi_rm]; omega) (by rw [zm_cat]; simp only [yi_rm]; omega) ?_
  exact W.eq (g2 := F0 m (pc + 3) lr (st.map (zm_v (yi_ad b)))) rfl (kk p l e s m args below meth c D G b A _ _ _ hX hO hnm hs hle hn hP hD hS hl)
