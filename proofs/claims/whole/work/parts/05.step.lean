/-! the frames of the small machine, instruction by instruction -/
theorem zm_dec {q : zm_D} {pc n k : Nat} {i : Instr} (h : decode q.2.1 pc = .ok (i, n)) (hn : zm_ln i = 0 ∨ zm_ln i = n) (hk : zm_ln i = k) (h0 : k ≠ 0) : decode q.2.1 pc = .ok (i, k) ∧ n = k := by
  rcases hn with hn | hn
  · exact absurd (hk.symm.trans hn) h0
  · have e : n = k := hn.symm.trans hk
    subst e
    exact ⟨h, rfl⟩
theorem zm_ref (ad : Nat → Nat) (r : Option Nat) : va_rf (r.map ad) = .null ∧ r = none ∨ ∃ a, r = some a ∧ va_rf (r.map ad) = .ref (ad a) := by
  cases r with
  | none => exact Or.inl ⟨rfl, rfl⟩
  | some a => exact Or.inr ⟨a, rfl, rfl⟩
theorem zm_si_o {h : zm_M} {a k : Nat} {x : Int32} : ∀ b, b ≠ a → (zm_si h a k x).1 b = h.1 b ∧ (zm_si h a k x).2 b = h.2 b := fun b hb => ⟨by funext j; simp [zm_si, hb], rfl⟩
theorem zm_sr_o {h : zm_M} {a k : Nat} {x : Option Nat} : ∀ b, b ≠ a → (zm_sr h a k x).1 b = h.1 b ∧ (zm_sr h a k x).2 b = h.2 b := fun b hb => ⟨rfl, by funext j; simp [zm_sr, hb]⟩
theorem zm_cp_o {h : zm_M} {a0 sp a dp n : Nat} : ∀ b, b ≠ a → (zm_cp h a0 sp a dp n).1 b = h.1 b ∧ (zm_cp h a0 sp a dp n).2 b = h.2 b := fun b hb => ⟨by funext j; simp [zm_cp, hb], rfl⟩
theorem zm_si_up {h : zm_M} {a k : Nat} {x : Int32} : upd (h.1 a) k x = (zm_si h a k x).1 a := by funext j; simp [zm_si, upd]
theorem zm_sr_up {h : zm_M} {ad : Nat → Nat} {a k y : Nat} : va_up (fun j => (h.2 a j).map ad) k (some (ad y)) = fun j => ((zm_sr h a k (some y)).2 a j).map ad := by
  funext j
  by_cases hj : j = k
  · simp [zm_sr, va_up, hj]
  · simp [zm_sr, va_up, hj]
theorem zm_cp_up {h : zm_M} {a0 sp a dp n : Nat} : va_cpy (h.1 a0) (h.1 a) sp dp n = (zm_cp h a0 sp a dp n).1 a := by funext j; simp [zm_cp, va_cpy]
set_option maxHeartbeats 4000000 in
set_option maxRecDepth 100000 in
theorem zm_one {q : zm_D} {d : Nat} {T : zm_T} {R : zm_R} {pc n : Nat} {i : Instr} {a b : Nat} {v : Int32} {cs : List (Int32 × Nat)} (hqd : zm_okD q = true) (hdec : decode q.2.1 pc = .ok (i, n)) (hn : zm_ln i = 0 ∨ zm_ln i = n) (hok : zm_okI q (pc, i, a, b, v, cs) = true)
    {J : Nat → zm_L → List zm_V → zm_M → Prop} (hJ : ∀ t ls st h, J t ls st h → zm_W q (d + 1) T R t ls st h) {K : zm_L → List zm_V → zm_M → Prop} (hK : ∀ ls st h, K ls st h → zm_W q (d + 1) T R (pc + n) ls st h) {ls : zm_L} {st : List zm_V} {h : zm_M} (hs : zm_st d T R J (pc, i, a, b, v, cs) K ls st h) : zm_W q (d + 1) T R pc ls st h := by
  intro p l e s m args below meth c D G ad A H locs lr hX hP hD hS hl
  obtain ⟨hx, hb, hml, hr, hlocks, hown, hts, hKK, hN, hA⟩ := id hX
  simp only [zm_okD, Bool.and_eq_true, decide_eq_true_eq] at hqd
  obtain ⟨⟨⟨⟨-, -⟩, -⟩, -⟩, hcls⟩ := hqd
  rw [hcls] at hown
  have go : ∀ {ls : zm_L} {st : List zm_V} {h : zm_M} {H : Heap} {locs : List Loc} {lr : Array Slot}, K ls st h → va_P D vwCl (zm_w G ad T h) H → va_D A (zm_w G ad T h) → va_S A s.heap H locs → zm_lr ad q.2.2.1 ls lr → W p l e (zm_rm (d + 1)) s m args below meth c H locs 0 0 (MQ below (zm_Q D G ad T R A) args s 0 0 A) (F0 m (pc + n) lr (st.map (zm_v ad))) := fun k hP hD hS hl => hK _ _ _ k p l e s m args below meth c D G ad A _ _ _ hX hP hD hS hl
  cases i
  case iconst k =>
    obtain ⟨hd, rfl⟩ := zm_dec (k := 1) hdec hn rfl (by decide)
    exact lv_iconst hx hb hd (of_decide_eq_true hok) (go hs hP hD hS hl)
  case bipush k =>
    obtain ⟨hd, rfl⟩ := zm_dec (k := 2) hdec hn rfl (by decide)
    exact lv_bipush hx hb hd (of_decide_eq_true hok) (go hs hP hD hS hl)
  case sipush k =>
    obtain ⟨hd, rfl⟩ := zm_dec (k := 3) hdec hn rfl (by decide)
    exact lv_sipush hx hb hd (of_decide_eq_true hok) (go hs hP hD hS hl)
  case ldc k =>
    obtain ⟨hd, rfl⟩ := zm_dec (k := 2) hdec hn rfl (by decide)
    exact lv_ldc hx hb hown (hts _ (zm_in (zm_CLw hok) rfl)) hd (go hs hP hD hS hl)
  case ldc_w k =>
    obtain ⟨hd, rfl⟩ := zm_dec (k := 3) hdec hn rfl (by decide)
    exact lv_ldcw hx hb hown (hts _ (zm_in (zm_CLw hok) rfl)) hd (go hs hP hD hS hl)
  case aconst_null =>
    obtain ⟨hd, rfl⟩ := zm_dec (k := 1) hdec hn rfl (by decide)
    exact lv_null hx hb hd (go hs hP hD hS hl)
  case iload k =>
    obtain ⟨hd, rfl⟩ := zm_dec (k := 2) hdec hn rfl (by decide)
    obtain rfl := of_decide_eq_true hok
    obtain ⟨x, h1, h2⟩ := zm_li_spec _ _ _ hs
    exact lv_iload hx hb hd (hl.2.2 _ _ h1) (go h2 hP hD hS hl)
  case iload_n k =>
    obtain ⟨hd, rfl⟩ := zm_dec (k := 1) hdec hn rfl (by decide)
    have ha := of_decide_eq_true hok
    obtain ⟨x, h1, h2⟩ := zm_li_spec _ _ _ hs
    exact lv_iload_n hx hb hd ha (hl.2.2 _ _ h1) (go h2 hP hD hS hl)
  case aload k =>
    obtain ⟨hd, rfl⟩ := zm_dec (k := 2) hdec hn rfl (by decide)
    obtain rfl := of_decide_eq_true hok
    obtain ⟨x, h1, h2⟩ := zm_la_spec _ _ _ hs
    have h3 := hl.2.2 _ _ h1
    cases x with
    | none => exact lv_aloadN hx hb hd h3 (go h2 hP hD hS hl)
    | some x => exact lv_aload hx hb hd h3 (go h2 hP hD hS hl)
  case aload_n k =>
    obtain ⟨hd, rfl⟩ := zm_dec (k := 1) hdec hn rfl (by decide)
    have ha := of_decide_eq_true hok
    obtain ⟨x, h1, h2⟩ := zm_la_spec _ _ _ hs
    have h3 := hl.2.2 _ _ h1
    cases x with
    | none => exact lv_aload_nN hx hb hd ha h3 (go h2 hP hD hS hl)
    | some x => exact lv_aload_n hx hb hd ha h3 (go h2 hP hD hS hl)
  case istore k =>
    obtain ⟨hd, rfl⟩ := zm_dec (k := 2) hdec hn rfl (by decide)
    simp only [zm_okI, Bool.and_eq_true, decide_eq_true_eq] at hok
    obtain ⟨rfl, ha⟩ := hok
    simp only [zm_st] at hs
    split at hs
    · exact lv_istore hx hb hd (zm_al_has hl) ha rfl (fun lr' hl' => go hs hP hD hS (zm_al_set (v := .inl _) hl'))
    · exact hs.elim
  case istore_n k =>
    obtain ⟨hd, rfl⟩ := zm_dec (k := 1) hdec hn rfl (by decide)
    simp only [zm_okI, Bool.and_eq_true, decide_eq_true_eq] at hok
    obtain ⟨ha1, ha⟩ := hok
    simp only [zm_st] at hs
    split at hs
    · exact lv_istore_n hx hb hd ha1 (zm_al_has hl) ha rfl (fun lr' hl' => go hs hP hD hS (zm_al_set (v := .inl _) hl'))
    · exact hs.elim
  case astore k =>
    obtain ⟨hd, rfl⟩ := zm_dec (k := 2) hdec hn rfl (by decide)
    simp only [zm_okI, Bool.and_eq_true, decide_eq_true_eq] at hok
    obtain ⟨rfl, ha⟩ := hok
    simp only [zm_st] at hs
    split at hs
    · next x r =>
      cases x with
      | none => exact lv_astoreN hx hb hd (zm_al_has hl) ha rfl (fun lr' hl' => go hs hP hD hS (zm_al_set (v := .inr none) hl'))
      | some x => exact lv_astore hx hb hd (zm_al_has hl) ha rfl (fun lr' hl' => go hs hP hD hS (zm_al_set (v := .inr (some x)) hl'))
    · exact hs.elim
  case astore_n k =>
    obtain ⟨hd, rfl⟩ := zm_dec (k := 1) hdec hn rfl (by decide)
    simp only [zm_okI, Bool.and_eq_true, decide_eq_true_eq] at hok
    obtain ⟨ha1, ha⟩ := hok
    simp only [zm_st] at hs
    split at hs
    · next x r =>
      cases x with
      | none => exact lv_astore_nN hx hb hd ha1 (zm_al_has hl) ha rfl (fun lr' hl' => go hs hP hD hS (zm_al_set (v := .inr none) hl'))
      | some x => exact lv_astore_n hx hb hd ha1 (zm_al_has hl) ha rfl (fun lr' hl' => go hs hP hD hS (zm_al_set (v := .inr (some x)) hl'))
    · exact hs.elim
  case iinc k z =>
    obtain ⟨hd, rfl⟩ := zm_dec (k := 3) hdec hn rfl (by decide)
    simp only [zm_okI, Bool.and_eq_true, decide_eq_true_eq] at hok
    obtain ⟨⟨rfl, hv⟩, ha⟩ := hok
    obtain ⟨x, h1, h2⟩ := zm_li_spec _ _ _ hs
    obtain ⟨k2, hk2⟩ := List.getElem?_of_mem (zm_al_in (ad := ad) h1)
    exact lv_iinc (v := x + v) hx hb hd (zm_al_has hl) hk2 (by rw [hv]) ha rfl (fun lr' hl' => go h2 hP hD hS (zm_al_set (v := .inl _) hl'))
  case iadd =>
    obtain ⟨hd, rfl⟩ := zm_dec (k := 1) hdec hn rfl (by decide)
    simp only [zm_st] at hs
    split at hs
    · exact lv_iadd hx hb hd (go hs hP hD hS hl)
    · exact hs.elim
  case isub =>
    obtain ⟨hd, rfl⟩ := zm_dec (k := 1) hdec hn rfl (by decide)
    simp only [zm_st] at hs
    split at hs
    · exact lv_isub hx hb hd (go hs hP hD hS hl)
    · exact hs.elim
  case imul =>
    obtain ⟨hd, rfl⟩ := zm_dec (k := 1) hdec hn rfl (by decide)
    simp only [zm_st] at hs
    split at hs
    · exact lv_imul hx hb hd (go hs hP hD hS hl)
    · exact hs.elim
  case iand =>
    obtain ⟨hd, rfl⟩ := zm_dec (k := 1) hdec hn rfl (by decide)
    simp only [zm_st] at hs
    split at hs
    · exact lv_iand hx hb hd (go hs hP hD hS hl)
    · exact hs.elim
  case ior =>
    obtain ⟨hd, rfl⟩ := zm_dec (k := 1) hdec hn rfl (by decide)
    simp only [zm_st] at hs
    split at hs
    · exact lv_ior hx hb hd (go hs hP hD hS hl)
    · exact hs.elim
  case ixor =>
    obtain ⟨hd, rfl⟩ := zm_dec (k := 1) hdec hn rfl (by decide)
    simp only [zm_st] at hs
    split at hs
    · exact lv_ixor hx hb hd (go hs hP hD hS hl)
    · exact hs.elim
  case idiv =>
    obtain ⟨hd, rfl⟩ := zm_dec (k := 1) hdec hn rfl (by decide)
    simp only [zm_st] at hs
    split at hs
    · exact lv_idiv hx hb hd hs.1 (go hs.2 hP hD hS hl)
    · exact hs.elim
  case irem =>
    obtain ⟨hd, rfl⟩ := zm_dec (k := 1) hdec hn rfl (by decide)
    simp only [zm_st] at hs
    split at hs
    · exact lv_irem hx hb hd hs.1 (go hs.2 hP hD hS hl)
    · exact hs.elim
  case ishl =>
    obtain ⟨hd, rfl⟩ := zm_dec (k := 1) hdec hn rfl (by decide)
    simp only [zm_st] at hs
    split at hs
    · exact lv_ishl hx hb hd (go hs hP hD hS hl)
    · exact hs.elim
  case ishr =>
    obtain ⟨hd, rfl⟩ := zm_dec (k := 1) hdec hn rfl (by decide)
    simp only [zm_st] at hs
    split at hs
    · exact lv_ishr hx hb hd (go hs hP hD hS hl)
    · exact hs.elim
  case iushr =>
    obtain ⟨hd, rfl⟩ := zm_dec (k := 1) hdec hn rfl (by decide)
    simp only [zm_st] at hs
    split at hs
    · exact lv_iushr hx hb hd rfl (go hs hP hD hS hl)
    · exact hs.elim
  case i2b =>
    obtain ⟨hd, rfl⟩ := zm_dec (k := 1) hdec hn rfl (by decide)
    simp only [zm_st] at hs
    split at hs
    · exact lv_i2b hx hb hd rfl (go hs hP hD hS hl)
    · exact hs.elim
  case dup =>
    obtain ⟨hd, rfl⟩ := zm_dec (k := 1) hdec hn rfl (by decide)
    simp only [zm_st] at hs
    split at hs
    · exact lv_dup hx hb hd (zm_cat1 ad _) (go hs hP hD hS hl)
    · exact hs.elim
  case pop =>
    obtain ⟨hd, rfl⟩ := zm_dec (k := 1) hdec hn rfl (by decide)
    simp only [zm_st] at hs
    split at hs
    · exact lv_pop hx hb hd (zm_cat1 ad _) (go hs hP hD hS hl)
    · exact hs.elim
  case dup2 =>
    obtain ⟨hd, rfl⟩ := zm_dec (k := 1) hdec hn rfl (by decide)
    simp only [zm_st] at hs
    split at hs
    · exact lv_dup2_11 hx hb hd (zm_cat1 ad _) (zm_cat1 ad _) (go hs hP hD hS hl)
    · exact hs.elim
  case goto off =>
    obtain ⟨hd, rfl⟩ := zm_dec (k := 3) hdec hn rfl (by decide)
    exact lv_goto hx hb hd (of_decide_eq_true hok) (hJ _ _ _ _ hs p l e s m args below meth c D G ad A _ _ _ hX hP hD hS hl)
  case ifCond k off =>
    obtain ⟨hd, rfl⟩ := zm_dec (k := 3) hdec hn rfl (by decide)
    simp only [zm_st] at hs
    split at hs
    · next x r =>
      have ht := of_decide_eq_true hok
      have j1 := fun (z : J a ls r h) => hJ _ _ _ _ z p l e s m args below meth c D G ad A _ _ _ hX hP hD hS hl
      cases k
      · exact lv_if_eq hx hb hd ht (fun z => j1 (hs.1 z)) (fun z => go (hs.2 z) hP hD hS hl)
      · exact lv_if_ne hx hb hd ht (fun z => j1 (hs.1 z)) (fun z => go (hs.2 z) hP hD hS hl)
      · exact lv_if_lt hx hb hd ht (fun z => j1 (hs.1 z)) (fun z => go (hs.2 z) hP hD hS hl)
      · exact lv_if_ge hx hb hd ht (fun z => j1 (hs.1 z)) (fun z => go (hs.2 z) hP hD hS hl)
      · exact lv_if_gt hx hb hd ht (fun z => j1 (hs.1 z)) (fun z => go (hs.2 z) hP hD hS hl)
      · exact lv_if_le hx hb hd ht (fun z => j1 (hs.1 z)) (fun z => go (hs.2 z) hP hD hS hl)
    · exact hs.elim
  case if_icmp k off =>
    obtain ⟨hd, rfl⟩ := zm_dec (k := 3) hdec hn rfl (by decide)
    simp only [zm_st] at hs
    split at hs
    · next y x r =>
      have ht := of_decide_eq_true hok
      have j1 := fun (z : J a ls r h) => hJ _ _ _ _ z p l e s m args below meth c D G ad A _ _ _ hX hP hD hS hl
      cases k
      · exact lv_icmp_eq hx hb hd ht (fun z => j1 (hs.1 z)) (fun z => go (hs.2 z) hP hD hS hl)
      · exact lv_icmp_ne hx hb hd ht (fun z => j1 (hs.1 z)) (fun z => go (hs.2 z) hP hD hS hl)
      · exact lv_icmp_lt hx hb hd ht (fun z => j1 (hs.1 z)) (fun z => go (hs.2 z) hP hD hS hl)
      · exact lv_icmp_ge hx hb hd ht (fun z => j1 (hs.1 z)) (fun z => go (hs.2 z) hP hD hS hl)
      · exact lv_icmp_gt hx hb hd ht (fun z => j1 (hs.1 z)) (fun z => go (hs.2 z) hP hD hS hl)
      · exact lv_icmp_le hx hb hd ht (fun z => j1 (hs.1 z)) (fun z => go (hs.2 z) hP hD hS hl)
    · exact hs.elim
  case ifnull off =>
    obtain ⟨hd, rfl⟩ := zm_dec (k := 3) hdec hn rfl (by decide)
    simp only [zm_st] at hs
    split at hs
    · next x r =>
      cases x with
      | none => exact lv_ifnullN hx hb hd (of_decide_eq_true hok) (hJ _ _ _ _ (hs.1 rfl) p l e s m args below meth c D G ad A _ _ _ hX hP hD hS hl)
      | some x => exact lv_ifnull hx hb hd (go (hs.2 (by simp)) hP hD hS hl)
    · exact hs.elim
  case ifnonnull off =>
    obtain ⟨hd, rfl⟩ := zm_dec (k := 3) hdec hn rfl (by decide)
    simp only [zm_st] at hs
    split at hs
    · next x r =>
      cases x with
      | none => exact lv_ifnonnullN hx hb hd (go (hs.2 rfl) hP hD hS hl)
      | some x => exact lv_ifnonnull hx hb hd (of_decide_eq_true hok) (hJ _ _ _ _ (hs.1 (by simp)) p l e s m args below meth c D G ad A _ _ _ hX hP hD hS hl)
    · exact hs.elim
  case tableswitch dflt lo hi offs =>
    simp only [zm_okI, Bool.and_eq_true, decide_eq_true_eq, List.all_eq_true, List.mem_range] at hok
    obtain ⟨⟨h1, h2⟩, h3⟩ := hok
    simp only [zm_st] at hs
    split at hs
    · next x r =>
      rcases zm_sw_spec _ _ _ _ hs with ⟨k, k1, k2, k3⟩ | ⟨k1, k2⟩
      · obtain ⟨h4, h5⟩ := h3 k k1
        obtain ⟨off, h6, h7⟩ := Option.map_eq_some_iff.mp h5
        rw [← k2] at h4
        exact lv_tableIn hx hb hdec (by omega) (by omega) (by rw [show (x.toInt - lo).toNat = k by omega]; exact h6) h7 (hJ _ _ _ _ k3 p l e s m args below meth c D G ad A _ _ _ hX hP hD hS hl)
      · refine lv_tableOut hx hb hdec ?_ h1 (hJ _ _ _ _ k2 p l e s m args below meth c D G ad A _ _ _ hX hP hD hS hl)
        rcases Int.lt_or_le x.toInt lo with z | z
        · exact Or.inl z
        · rcases Int.lt_or_le hi x.toInt with z2 | z2
          · exact Or.inr z2
          · exfalso
            have hk : (x.toInt - lo).toNat < cs.length := by omega
            refine k1 _ hk (Int32.toInt_inj.mp ?_)
            rw [(h3 _ hk).1]
            omega
    · exact hs.elim
  case lookupswitch dflt ps =>
    simp only [zm_okI, Bool.and_eq_true, decide_eq_true_eq] at hok
    obtain ⟨⟨h1, h2⟩, h3⟩ := hok
    simp only [zm_st] at hs
    split at hs
    · next x r =>
      obtain ⟨t, k1, k2⟩ := zm_lk_spec _ _ _ _ _ h1 _ _ h2 hs
      exact lv_lookup hx hb hdec h3 rfl k2 (hJ _ _ _ _ k1 p l e s m args below meth c D G ad A _ _ _ hX hP hD hS hl)
    · exact hs.elim
  case getfield k =>
    obtain ⟨hd, rfl⟩ := zm_dec (k := 3) hdec hn rfl (by decide)
    simp only [zm_okI, Bool.and_eq_true, decide_eq_true_eq, Bool.or_eq_true] at hok
    obtain ⟨⟨⟨hL, hc⟩, hbN⟩, hkd⟩ := hok
    have main : ∀ (qq : Nat) (r : List zm_V) (z : zm_V), (zm_sh T qq).1 = a + 3 → zm_v ad z = zm_fv ad a qq h b → K ls (z :: r) h → W p l e (zm_rm (d + 1)) s m args below meth c H locs 0 0 (MQ below (zm_Q D G ad T R A) args s 0 0 A) (F0 m pc lr ((.inr (some qq) :: r : List zm_V).map (zm_v ad))) := by
      intro qq r z h1 h2 h3
      have he := zm_w_at (G := G) (ad := ad) (T := T) (h := h) (zm_lt (by rw [h1]; omega))
      rw [zm_e_obj h1] at he
      have hv : ((List.range (zm_fn a)).map (zm_fv ad a qq h))[b]? = some (zm_v ad z) := by rw [zm_fs_at hbN, h2]
      rcases hL with hL | hL
      · have hw := zm_FLw hL
        exact va_get hx hb hts (zm_uin hc) hown hKK hP qq he (zm_cl_at a hc) b hbN (hts _ (zm_in hw rfl)) (fun _ h9 => h9) hv hd (go h3 hP hD hS hl)
      · have hw := hN.1 _ (List.contains_iff_mem.mp hL) Nat.one_ne_zero
        exact va_getN hx hb hts (zm_uin hc) hown hKK hP qq he (zm_cl_at a hc) b hbN (va_Nw.use rfl hw) (fun _ h9 => h9) hv hd (go h3 hP hD hS hl)
    simp only [zm_st] at hs
    split at hs
    · have hf : ¬ zm_fk a b = 2 := fun q => by rw [if_pos q] at hkd; simp at hkd
      split at hs
      · next qq r => exact main qq r (.inl _) hs.1 (by rw [zm_fv, if_neg hf]; rfl) hs.2
      · exact hs.elim
    · have hf : zm_fk a b = 2 := by
        rcases Nat.decEq (zm_fk a b) 2 with q | q
        · rw [if_neg q] at hkd; simp at hkd
        · exact q
      split at hs
      · next qq r => exact main qq r (.inr _) hs.1 (by rw [zm_fv, if_pos hf]; rfl) hs.2
      · exact hs.elim
  case putfield k =>
    obtain ⟨hd, rfl⟩ := zm_dec (k := 3) hdec hn rfl (by decide)
    simp only [zm_okI, Bool.and_eq_true, decide_eq_true_eq, Bool.or_eq_true, Bool.not_eq_true'] at hok
    obtain ⟨⟨⟨⟨hL, hc⟩, hbN⟩, hfin⟩, hkd⟩ := hok
    obtain ⟨hty, hkt, -, -⟩ := (zm_fields_at hc).2 b hbN
    have main : ∀ (qq : Nat) (r : List zm_V) (z : zm_V) (h' : zm_M), (zm_sh T qq).1 = a + 3 → narrow (zm_ty a b) (zm_v ad z) = zm_v ad z → fits (zm_ty a b) (zm_v ad z) = true → zm_fv ad a qq h' b = zm_v ad z → (∀ j, j ≠ b → zm_fv ad a qq h' j = zm_fv ad a qq h j) → (∀ x, x ≠ qq → h'.1 x = h.1 x ∧ h'.2 x = h.2 x) → K ls r h' → W p l e (zm_rm (d + 1)) s m args below meth c H locs 0 0 (MQ below (zm_Q D G ad T R A) args s 0 0 A) (F0 m pc lr ((z :: .inr (some qq) :: r : List zm_V).map (zm_v ad))) := by
      intro qq r z h' h1 hnr hft hv1 hv2 ho h3
      have he := zm_w_at (G := G) (ad := ad) (T := T) (h := h) (zm_lt (by rw [h1]; omega))
      rw [zm_e_obj h1] at he
      have hset : (zm_w G ad T h).set qq (ad qq, .inr (a, ((List.range (zm_fn a)).map (zm_fv ad a qq h)).set b (zm_v ad z))) = zm_w G ad T h' := zm_w_upd ho (by rw [zm_e_obj h1, zm_fs_set hv1 hv2])
      have kk : ∀ (H1 : Heap) (locs1 : List Loc), va_P D vwCl ((zm_w G ad T h).set qq (ad qq, .inr (a, ((List.range (zm_fn a)).map (zm_fv ad a qq h)).set b (zm_v ad z)))) H1 → va_D A ((zm_w G ad T h).set qq (ad qq, .inr (a, ((List.range (zm_fn a)).map (zm_fv ad a qq h)).set b (zm_v ad z)))) → va_S A s.heap H1 locs1 → W p l e (zm_rm (d + 1)) s m args below meth c H1 locs1 0 0 (MQ below (zm_Q D G ad T R A) args s 0 0 A) (F0 m (pc + 3) lr (r.map (zm_v ad))) := by
        rw [hset]
        exact fun H1 locs1 hP1 hD1 hS1 => go h3 hP1 hD1 hS1 hl
      rcases hL with hL | hL
      · have hw := zm_FLw hL
        exact va_put hx hb hts (zm_uin hc) (zm_ty a) (fun k hk => ((zm_fields_at hc).2 k hk).1) (fun x hx y hy hxy => ((zm_fields_at hc).2 x hx).2.2.2 y hy hxy) hown hKK hP hD hS qq he (zm_cl_at a hc) b hbN (hts _ (zm_in hw rfl)) (fun _ h9 => h9) hfin hty hnr hft (by simpa using hbN) hd kk
      · have hw := hN.1 _ (List.contains_iff_mem.mp hL) Nat.one_ne_zero
        exact va_putN hx hb hts (zm_uin hc) (zm_ty a) (fun k hk => ((zm_fields_at hc).2 k hk).1) (fun x hx y hy hxy => ((zm_fields_at hc).2 x hx).2.2.2 y hy hxy) hown hKK hP hD hS qq he (zm_cl_at a hc) b hbN (va_Nw.use rfl hw) (fun _ h9 => h9) hfin hty hnr hft (by simpa using hbN) hd kk
    simp only [zm_st] at hs
    split at hs
    · have h2 : ¬ zm_fk a b = 2 := fun q => by rw [if_pos q] at hkd; simp at hkd
      have h1 : ¬ zm_fk a b = 1 := fun q => by rw [if_neg h2, if_pos q] at hkd; simp at hkd
      have hint : zm_ty a b = .int := by
        unfold zm_kt at hkt
        split at hkt
        · next e1 e2 => exact e2
        · next e1 e2 => exact absurd e1 h1
        · next e1 e2 => exact absurd e1 h2
        · next e1 e2 => exact absurd e1 h2
        · cases hkt
      split at hs
      · next x qq r => exact main qq r (.inl x) (zm_si h qq b x) hs.1 (by rw [hint]; rfl) (by rw [hint]; rfl) (by simp [zm_fv, h2, zm_si, zm_v]) (fun j hj => by simp [zm_fv, zm_si, hj]) zm_si_o hs.2
      · exact hs.elim
    · have h2 : zm_fk a b = 2 := by
        rcases Nat.decEq (zm_fk a b) 2 with q | q
        · rw [if_neg q] at hkd
          split at hkd <;> simp at hkd
        · exact q
      have hobj : (∃ n, zm_ty a b = .object n) ∨ ∃ t, zm_ty a b = .array t := by
        unfold zm_kt at hkt
        split at hkt
        · next e1 e2 => rw [e1] at h2; cases h2
        · next e1 e2 => rw [e1] at h2; cases h2
        · next e1 e2 => exact Or.inl ⟨_, e2⟩
        · next e1 e2 => exact Or.inr ⟨_, e2⟩
        · cases hkt
      split at hs
      · next x qq r =>
        refine main qq r (.inr x) (zm_sr h qq b x) hs.1 ?_ ?_ (by simp [zm_fv, h2, zm_sr, zm_v]) (fun j hj => by simp [zm_fv, zm_sr, hj]) zm_sr_o hs.2
        · rcases hobj with ⟨n, e⟩ | ⟨n, e⟩ <;> rw [e] <;> cases x <;> rfl
        · rcases hobj with ⟨n, e⟩ | ⟨n, e⟩ <;> rw [e] <;> cases x <;> rfl
      · exact hs.elim
    · next hne1 hne2 =>
      have h1 : zm_fk a b = 1 := by
        rcases Nat.decEq (zm_fk a b) 1 with q | q
        · exfalso
          split at hkd
          · obtain ⟨y, rfl⟩ := List.length_eq_one_iff.mp (of_decide_eq_true hkd)
            exact hne2 _ rfl
          · first | rw [if_neg q] at hkd | skip
            exact hne1 (List.length_eq_zero_iff.mp (of_decide_eq_true hkd))
        · exact q
      have h2 : ¬ zm_fk a b = 2 := by rw [h1]; decide
      have hbl : zm_ty a b = .boolean := by
        unfold zm_kt at hkt
        split at hkt
        · next e1 e2 => rw [e1] at h1; cases h1
        · next e1 e2 => exact e2
        · next e1 e2 => exact absurd e1 h2
        · next e1 e2 => exact absurd e1 h2
        · cases hkt
      split at hs
      · next x qq r =>
        refine main qq r (.inl x) (zm_si h qq b x) hs.1 ?_ ?_ (by simp [zm_fv, h2, zm_si, zm_v]) (fun j hj => by simp [zm_fv, zm_si, hj]) zm_si_o hs.2.2
        · rw [hbl]; rcases hs.2.1 with rfl | rfl <;> rfl
        · rw [hbl]; rcases hs.2.1 with rfl | rfl <;> rfl
      · exact hs.elim
  case arraylength =>
    obtain ⟨hd, rfl⟩ := zm_dec (k := 1) hdec hn rfl (by decide)
    simp only [zm_st] at hs
    split at hs
    · next qq r =>
      have he := zm_w_at (G := G) (ad := ad) (T := T) (h := h) (zm_lt (by rw [hs.1]; omega))
      rw [zm_e_0 hs.1] at he
      exact va_alen hx hb hKK hP qq 0 he rfl rfl hd (go hs.2 hP hD hS hl)
    · exact hs.elim
  case iaload =>
    obtain ⟨hd, rfl⟩ := zm_dec (k := 1) hdec hn rfl (by decide)
    simp only [zm_st] at hs
    split at hs
    · next x qq r =>
      have he := zm_w_at (G := G) (ad := ad) (T := T) (h := h) (zm_lt (by rw [hs.1]; omega))
      rw [zm_e_0 hs.1] at he
      exact va_iald hx hb hKK hP qq 0 he rfl hs.2.1 hd (go hs.2.2 hP hD hS hl)
    · exact hs.elim
  case baload =>
    obtain ⟨hd, rfl⟩ := zm_dec (k := 1) hdec hn rfl (by decide)
    simp only [zm_st] at hs
    split at hs
    · next x qq r =>
      have he := zm_w_at (G := G) (ad := ad) (T := T) (h := h) (zm_lt (by rw [hs.1]; omega))
      rw [zm_e_1 hs.1] at he
      exact va_bald hx hb hKK hP qq 1 he rfl hs.2.1 hd (go hs.2.2 hP hD hS hl)
    · exact hs.elim
  case aaload =>
    obtain ⟨hd, rfl⟩ := zm_dec (k := 1) hdec hn rfl (by decide)
    simp only [zm_st] at hs
    split at hs
    · next x qq r =>
      have he := zm_w_at (G := G) (ad := ad) (T := T) (h := h) (zm_lt (by rw [hs.1]; omega))
      rw [zm_e_2 hs.1] at he
      exact va_aldq hx hb hKK hP qq 2 he rfl hs.2.1 hd (go hs.2.2 hP hD hS hl)
    · exact hs.elim
  case iastore =>
    obtain ⟨hd, rfl⟩ := zm_dec (k := 1) hdec hn rfl (by decide)
    simp only [zm_st] at hs
    split at hs
    · next y x qq r =>
      have he := zm_w_at (G := G) (ad := ad) (T := T) (h := h) (zm_lt (by rw [hs.1]; omega))
      rw [zm_e_0 hs.1] at he
      refine va_iast hx hb hKK hP hD hS qq 0 he rfl hs.2.1 hd ?_
      rw [zm_si_up, zm_w_upd (h' := zm_si h qq x.toNatClampNeg y) zm_si_o (by rw [zm_e_0 hs.1])]
      exact fun H1 locs1 hP1 hD1 hS1 => go hs.2.2 hP1 hD1 hS1 hl
    · exact hs.elim
  case bastore =>
    obtain ⟨hd, rfl⟩ := zm_dec (k := 1) hdec hn rfl (by decide)
    simp only [zm_st] at hs
    split at hs
    · next y x qq r =>
      have he := zm_w_at (G := G) (ad := ad) (T := T) (h := h) (zm_lt (by rw [hs.1]; omega))
      rw [zm_e_1 hs.1] at he
      refine va_bast hx hb hKK hP hD hS qq 1 he rfl hs.2.1 hd ?_
      rw [zm_si_up, zm_w_upd (h' := zm_si h qq x.toNatClampNeg (vp_nar .byte y)) zm_si_o (by rw [zm_e_1 hs.1])]
      exact fun H1 locs1 hP1 hD1 hS1 => go hs.2.2 hP1 hD1 hS1 hl
    · exact hs.elim
  case aastore =>
    obtain ⟨hd, rfl⟩ := zm_dec (k := 1) hdec hn rfl (by decide)
    simp only [zm_st] at hs
    split at hs
    · next y x qq r =>
      have he := zm_w_at (G := G) (ad := ad) (T := T) (h := h) (zm_lt (by rw [hs.1]; omega))
      rw [zm_e_2 hs.1] at he
      have hy := zm_w_at (G := G) (ad := ad) (T := T) (h := h) (zm_lt (by rw [hs.2.1]; omega))
      rw [zm_e_obj (c := 8) hs.2.1] at hy
      refine va_astq (r := (RX8, TX8, 3)) hx hb hKK hP hD hS qq 2 y 8 he rfl hy rfl hs.2.2.1 hd ?_
      rw [zm_sr_up, zm_w_upd (h' := zm_sr h qq x.toNatClampNeg (some y)) zm_sr_o (by rw [zm_e_2 hs.1])]
      exact fun H1 locs1 hP1 hD1 hS1 => go hs.2.2.2 hP1 hD1 hS1 hl
    · exact hs.elim
  case ireturn =>
    obtain ⟨hd, rfl⟩ := zm_dec (k := 1) hdec hn rfl (by decide)
    simp only [zm_st] at hs
    split at hs
    · have hr1 : q.2.2.2.1 = some .int := of_decide_eq_true hok
      split at hs
      · next x => exact W.iret hx hb (hr.trans hr1) (fun t ht hW => ⟨⟨some (.inl x), h, hs, rfl, by rw [ht]; exact hP⟩, hS.F ht⟩) hS.2.2 hd hlocks
      · exact hs.elim
    · next bb =>
      have hr1 : q.2.2.2.1 = some .boolean := by
        simp only [zm_okI] at hok
        rw [if_neg (Nat.succ_ne_zero _)] at hok
        exact of_decide_eq_true hok
      split at hs
      · next x => exact W.zret hx hb (hr.trans hr1) (by rcases hs.1 with rfl | rfl <;> rfl) (fun t ht hW => ⟨⟨some (.inl x), h, hs.2, rfl, by rw [ht]; exact hP⟩, hS.F ht⟩) hS.2.2 hd hlocks
      · exact hs.elim
  case areturn =>
    obtain ⟨hd, rfl⟩ := zm_dec (k := 1) hdec hn rfl (by decide)
    simp only [zm_okI] at hok
    split at hok
    · next nme hr1 =>
      simp only [zm_st] at hs
      split at hs
      · next x => exact W.aret hx hb (hr.trans hr1) (Or.inl ⟨_, rfl⟩) (by cases x <;> simp [zm_v, va_rf]) (fun t ht hW => ⟨⟨some (.inr x), h, hs, rfl, by rw [ht]; exact hP⟩, hS.F ht⟩) hS.2.2 hd hlocks
      · exact hs.elim
    · cases hok
  case return_ =>
    obtain ⟨hd, rfl⟩ := zm_dec (k := 1) hdec hn rfl (by decide)
    simp only [zm_st] at hs
    split at hs
    · exact W.vret hx hb (hr.trans (of_decide_eq_true hok)) (fun t ht hW => ⟨⟨none, h, hs, rfl, by rw [ht]; exact hP⟩, hS.F ht⟩) hS.2.2 hd hlocks
    · exact hs.elim
  case invokevirtual k =>
    obtain ⟨hd, rfl⟩ := zm_dec (k := 3) hdec hn rfl (by decide)
    simp only [zm_okI, Bool.and_eq_true, decide_eq_true_eq, Bool.or_eq_true, Bool.not_eq_true'] at hok
    obtain ⟨⟨⟨⟨⟨⟨hL, hj⟩, hnp⟩, hst⟩, hni⟩, hcs⟩, hcc⟩ := hok
    obtain ⟨hmd, hmp⟩ := zm_okD_at hj
    simp only [zm_okD, Bool.and_eq_true, decide_eq_true_eq] at hmd
    obtain ⟨⟨⟨⟨hne, hpar⟩, -⟩, hmax⟩, hmc⟩ := hmd
    obtain ⟨hwc, hwi, -, hwv⟩ := hmp
    obtain ⟨hwv1, hwv2⟩ := hwv hst
    have hwv2 := hwv2.resolve_left hni
    simp only [zm_st] at hs
    split at hs
    · next z cl cs' =>
      obtain ⟨rfl, -⟩ : cl = (zm_md a).2.2.2.2.1 ∧ cs'.map (fun z => z.2) = [] := by simpa using hcs
      obtain ⟨as, r, rfl, has, hr8, hrc, d0, R0, hd0, hR0, hM⟩ := zm_pk_spec _ _ _ _ hs
      rw [List.append_nil] at hrc hM
      unfold zm_rc at hrc
      split at hrc
      · next qq As =>
        have hM := hM l D G ad H.size
        have he := zm_w_at (G := G) (ad := ad) (T := T) (h := h) (zm_lt (by rw [hrc]; omega))
        rw [zm_e_obj hrc] at he
        have hrv := va_recv hKK hP (zm_cl_at _ hcc) he
        rw [← hmc] at hrv
        have hpre : PreV s H (zm_md a).1.cls (ad qq) (va_Pc ((.inr (some qq) :: As : List zm_V).map (zm_v ad)) (zm_Pr D G ad T h H.size)) (As.map (zm_v ad)) := ⟨zm_blind, hrv, fun U hU hW => ⟨rfl, by rw [hU], by rw [hU]; exact hP, va_K.moved hW.alike hKK, hD.weaken (fun _ _ _ _ => trivial), hN.warm hW⟩⟩
        have hstk : (F0 m pc lr (((.inr (some qq) :: As : List zm_V).reverse ++ r).map (zm_v ad))).stack = (As.map (zm_v ad)).reverse ++ .ref (ad qq) :: r.map (zm_v ad) := by
          show ((.inr (some qq) :: As : List zm_V).reverse ++ r).map (zm_v ad) = _
          simp [zm_v, va_rf]
        have hwd := zm_ws_good (q := zm_md a) hts hwc
        have hfr : (zm_rm d0).frames + 1 ≤ (zm_rm (d + 1)).frames := by simp only [zm_rm]; omega
        have hlo : 8 + ((zm_md a).2.2.1 + 11) + (zm_rm d0).locals ≤ (zm_rm (d + 1)).locals := by simp only [zm_rm]; omega
        have hlen : (As.map (zm_v ad)).length = b := by
          have : As.length + 1 = b + 1 := has
          simp; omega
        have hroom : 2 * (F0 m pc lr (((.inr (some qq) :: As : List zm_V).reverse ++ r).map (zm_v ad))).monitorRoom + ((r.map (zm_v ad)).map fun v => v.category).sum ≤ 8 := lv_room (by rw [zm_cat]; exact hr8)
        have hrun : va_Run p l e (zm_rm (d + 1)) s m args below meth c H locs 0 0 0 0 (F0 m pc lr (((.inr (some qq) :: As : List zm_V).reverse ++ r).map (zm_v ad))) (r.map (zm_v ad)) (zm_Q D G ad T R0 (va_A (zm_w G ad T h) H.size) (Value.ref (ad qq) :: As.map (zm_v ad)).toArray) (va_A (zm_w G ad T h) H.size) := by
          rcases hL with hL | hL
          · exact va_runV ⟨hx, hb, hml, hown, hts⟩ hM ⟨⟨rfl, rfl, hfr, hlo, hwd, List.mem_cons_self, hts _ (zm_in hwc rfl), hts _ (zm_in hwi rfl), hne, zm_params (by rw [hpar, hnp]), hts _ (zm_in (zm_MLw hL) rfl)⟩, hts _ (zm_in hwv1 rfl), hts _ (zm_in hwv2 rfl)⟩ hpre rfl hlen hl.1 hstk hroom hd ⟨Nat.zero_le _, Nat.zero_le _⟩
          · have hw := hN.2 _ (List.contains_iff_mem.mp hL) Nat.one_ne_zero
            exact va_runVN ⟨hx, hb, hml, hown, hts⟩ hM ⟨⟨⟨rfl, rfl, hfr, hlo, hwd, List.mem_cons_self⟩, hts _ (zm_in hwc rfl), hts _ (zm_in hwi rfl), hne, zm_params (by rw [hpar, hnp]), va_Nw.use rfl hw⟩, hts _ (zm_in hwv1 rfl), hts _ (zm_in hwv2 rfl)⟩ hpre rfl hlen hl.1 hstk hroom hd ⟨Nat.zero_le _, Nat.zero_le _⟩
        refine zm_call hrun hD hS hA (fun w h' H1 locs1 hRw hP1 hS1 => ?_)
        refine W.eq ?_ (go (hR0 _ _ hRw) hP1 (zm_w_D hD) hS1 hl)
        cases w <;> simp
      · exact hrc.elim
    · exact hs.elim
  case invokestatic k =>
    obtain ⟨hd, rfl⟩ := zm_dec (k := 3) hdec hn rfl (by decide)
    simp only [zm_st] at hs
    split at hs
    · simp only [zm_okI, Bool.and_eq_true, decide_eq_true_eq, Bool.or_eq_true] at hok
      obtain ⟨⟨⟨hL, hj⟩, hnp⟩, hst⟩ := hok
      obtain ⟨hmd, hmp⟩ := zm_okD_at hj
      simp only [zm_okD, Bool.and_eq_true, decide_eq_true_eq] at hmd
      obtain ⟨⟨⟨⟨hne, hpar⟩, -⟩, hmax⟩, hmc⟩ := hmd
      obtain ⟨hwc, hwi, hwv, -⟩ := hmp
      have hwv1 := hwv hst
      obtain ⟨as, r, rfl, has, hr8, d0, R0, hd0, hR0, hM⟩ := zm_pk_spec _ _ _ _ hs
      rw [List.append_nil] at hM
      have hM := hM l D G ad H.size
      have hpre : PreS s H (va_Pc (as.map (zm_v ad)) (zm_Pr D G ad T h H.size)) (as.map (zm_v ad)) := ⟨zm_blind, fun U hU hW => ⟨rfl, by rw [hU], by rw [hU]; exact hP, va_K.moved hW.alike hKK, hD.weaken (fun _ _ _ _ => trivial), hN.warm hW⟩⟩
      have hstk : (F0 m pc lr ((as.reverse ++ r).map (zm_v ad))).stack = (as.map (zm_v ad)).reverse ++ r.map (zm_v ad) := by
        show (as.reverse ++ r).map (zm_v ad) = _
        simp
      have hwd := zm_ws_good (q := zm_md a) hts hwc
      have hfr : (zm_rm d0).frames + 1 ≤ (zm_rm (d + 1)).frames := by simp only [zm_rm]; omega
      have hlo : 8 + ((zm_md a).2.2.1 + 11) + (zm_rm d0).locals ≤ (zm_rm (d + 1)).locals := by simp only [zm_rm]; omega
      have hlen : (as.map (zm_v ad)).length = b := by simpa using has
      have hroom : 2 * (F0 m pc lr ((as.reverse ++ r).map (zm_v ad))).monitorRoom + ((r.map (zm_v ad)).map fun v => v.category).sum ≤ 8 := lv_room (by rw [zm_cat]; exact hr8)
      have hrun : va_Run p l e (zm_rm (d + 1)) s m args below meth c H locs 0 0 0 0 (F0 m pc lr ((as.reverse ++ r).map (zm_v ad))) (r.map (zm_v ad)) (zm_Q D G ad T R0 (va_A (zm_w G ad T h) H.size) (as.map (zm_v ad)).toArray) (va_A (zm_w G ad T h) H.size) := by
        rcases hL with hL | hL
        · exact va_runS ⟨hx, hb, hml, hown, hts⟩ hM ⟨⟨rfl, rfl, hfr, hlo, hwd, List.mem_cons_self, hts _ (zm_in hwc rfl), hts _ (zm_in hwi rfl), hne, zm_params (by rw [hpar, hnp]), hts _ (zm_in (zm_MLw hL) rfl)⟩, hts _ (zm_in hwv1 rfl)⟩ hpre rfl hlen hl.1 hstk hroom hd ⟨Nat.zero_le _, Nat.zero_le _⟩
        · have hw := hN.2 _ (List.contains_iff_mem.mp hL) Nat.one_ne_zero
          exact va_runSN ⟨hx, hb, hml, hown, hts⟩ hM ⟨⟨⟨rfl, rfl, hfr, hlo, hwd, List.mem_cons_self⟩, hts _ (zm_in hwc rfl), hts _ (zm_in hwi rfl), hne, zm_params (by rw [hpar, hnp]), va_Nw.use rfl hw⟩, hts _ (zm_in hwv1 rfl), trivial⟩ hpre rfl hlen hl.1 hstk hroom hd ⟨Nat.zero_le _, Nat.zero_le _⟩
      refine zm_call hrun hD hS hA (fun w h' H1 locs1 hRw hP1 hS1 => ?_)
      refine W.eq ?_ (go (hR0 _ _ hRw) hP1 (zm_w_D hD) hS1 hl)
      cases w <;> simp
    · have ok := zm_MX_ok
      simp only [Bool.and_eq_true, decide_eq_true_eq, List.all_eq_true] at ok
      obtain ⟨⟨⟨o1, o2⟩, o3⟩, o4⟩ := ok
      have o1 := o1 _ (List.contains_iff_mem.mp hok)
      split at hs
      · next y x r => exact va_mmax hx hb (hml.trans hl.1.symm) hown (hts _ (zm_in o1 rfl)) (hts _ (zm_in o2 rfl)) (hts _ (zm_in o4 rfl)) (hts _ (zm_in o3 rfl)) (by simp only [zm_rm]; omega) (by rw [zm_cat]; simp only [zm_rm]; omega) (Nat.zero_le _) (Nat.zero_le _) hd (go hs.2 hP hD hS hl)
      · exact hs.elim
    · have ok := zm_MX_ok
      simp only [Bool.and_eq_true, decide_eq_true_eq, List.all_eq_true] at ok
      obtain ⟨-, o4⟩ := ok
      have ok := zm_MN_ok
      simp only [Bool.and_eq_true, decide_eq_true_eq, List.all_eq_true] at ok
      obtain ⟨⟨o1, o2⟩, o3⟩ := ok
      have o1 := o1 _ (List.contains_iff_mem.mp hok)
      split at hs
      · next y x r => exact va_mmin hx hb (hml.trans hl.1.symm) hown (hts _ (zm_in o1 rfl)) (hts _ (zm_in o2 rfl)) (hts _ (zm_in o4 rfl)) (hts _ (zm_in o3 rfl)) (by simp only [zm_rm]; omega) (by rw [zm_cat]; simp only [zm_rm]; omega) (Nat.zero_le _) (Nat.zero_le _) hd (go hs.2 hP hD hS hl)
      · exact hs.elim
    · next n1 n2 n3 =>
      have hok : zm_AC.contains (q.2.2.2.2.1, k) = true := by
        simp only [zm_okI] at hok
        exact hok
      have ok := zm_AC_ok
      simp only [Bool.and_eq_true, decide_eq_true_eq, List.all_eq_true] at ok
      obtain ⟨⟨⟨o1, o2⟩, o3⟩, o4⟩ := ok
      have o1 := o1 _ (List.contains_iff_mem.mp hok)
      split at hs
      · next nn y qq x pp r =>
        obtain ⟨h8, s1, s2, g1, g2, g3, g4, g5, hs⟩ := hs
        have he := zm_w_at (G := G) (ad := ad) (T := T) (h := h) (zm_lt (by rw [s1]; omega))
        rw [zm_e_0 s1] at he
        have hp := zm_w_at (G := G) (ad := ad) (T := T) (h := h) (zm_lt (by rw [s2]; omega))
        rw [zm_e_0 s2] at hp
        have hfr : 1 ≤ (zm_rm (d + 1)).frames := by simp only [zm_rm]; omega
        have hlo : ((r.map (zm_v ad)).map fun v => v.category).sum + (nativeFrameWords "java/lang/System" "arraycopy" 5 + 11) ≤ (zm_rm (d + 1)).locals := by
          have h20 : nativeFrameWords "java/lang/System" "arraycopy" 5 ≤ 20 := by decide
          rw [zm_cat]
          simp only [zm_rm]
          omega
        refine va_copyi hx hb (hml.trans hl.1.symm) hown (hts _ (zm_in o1 rfl)) (hts _ (zm_in o2 rfl)) (hts _ (zm_in o3 rfl)) (hts _ (zm_in o4 rfl)) hKK hP hD hS pp qq 0 0 hp he rfl rfl rfl g1 g2 g3 g4 g5 (fun _ _ => rfl) hfr hlo hd ?_
        rw [zm_cp_up, zm_w_upd (h' := zm_cp h pp x.toNatClampNeg qq y.toNatClampNeg nn.toNatClampNeg) zm_cp_o (by rw [zm_e_0 s1])]
        exact fun H1 locs1 hP1 hD1 hS1 => go hs hP1 hD1 hS1 hl
      · exact hs.elim
  all_goals exact hs.elim
