/-! an instruction of the small machine is one of the machine -/
theorem zm_li_spec : ∀ (ls : zm_L) (i : Nat) (K : Int32 → Prop), zm_li ls i K → ∃ x, ls[i]? = some (some (.inl x)) ∧ K x
  | [], i, K, h => by cases i <;> exact h.elim
  | some (.inl x) :: _, 0, K, h => ⟨x, rfl, h⟩
  | some (.inr x) :: _, 0, K, h => h.elim
  | none :: _, 0, K, h => h.elim
  | o :: r, n + 1, K, h => by
    have h : zm_li r n K := by
      cases o with
      | none => exact h
      | some o => cases o <;> exact h
    obtain ⟨x, h1, h2⟩ := zm_li_spec r n K h
    exact ⟨x, by simpa using h1, h2⟩
theorem zm_la_spec : ∀ (ls : zm_L) (i : Nat) (K : Option Nat → Prop), zm_la ls i K → ∃ x, ls[i]? = some (some (.inr x)) ∧ K x
  | [], i, K, h => by cases i <;> exact h.elim
  | some (.inr x) :: _, 0, K, h => ⟨x, rfl, h⟩
  | some (.inl x) :: _, 0, K, h => h.elim
  | none :: _, 0, K, h => h.elim
  | o :: r, n + 1, K, h => by
    have h : zm_la r n K := by
      cases o with
      | none => exact h
      | some o => cases o <;> exact h
    obtain ⟨x, h1, h2⟩ := zm_la_spec r n K h
    exact ⟨x, by simpa using h1, h2⟩
theorem zm_pk_spec : ∀ (n : Nat) (st acc : List zm_V) (K : List zm_V → List zm_V → Prop), zm_pk n st acc K → ∃ as rest, st = as.reverse ++ rest ∧ as.length = n ∧ K (as ++ acc) rest
  | 0, st, acc, K, h => ⟨[], st, rfl, rfl, h⟩
  | n + 1, [], acc, K, h => h.elim
  | n + 1, v :: st, acc, K, h => by
    obtain ⟨as, rest, h1, h2, h3⟩ := zm_pk_spec n st (v :: acc) K h
    refine ⟨as ++ [v], rest, by rw [h1]; simp, by simp [h2], by simpa using h3⟩
theorem zm_cat1 (ad : Nat → Nat) (v : zm_V) : (zm_v ad v).category = 1 := by
  cases v with
  | inl x => rfl
  | inr r => cases r <;> rfl
theorem zm_cat (ad : Nat → Nat) : ∀ (r : List zm_V), ((r.map (zm_v ad)).map (fun v => v.category)).sum = r.length
  | [] => rfl
  | v :: r => by
    simp only [List.map_cons, List.sum_cons, List.length_cons]
    rw [zm_cat ad r, zm_cat1]
    omega
def zm_al (ad : Nat → Nat) (ls : zm_L) : List (Nat × Value) := (List.range ls.length).filterMap (fun i => match ls[i]? with
  | some (some v) => some (i, zm_v ad v)
  | _ => none)
theorem zm_al_in {ad : Nat → Nat} {ls : zm_L} {i : Nat} {v : zm_V} (h : ls[i]? = some (some v)) : (i, zm_v ad v) ∈ zm_al ad ls := by
  unfold zm_al
  rw [List.mem_filterMap]
  refine ⟨i, List.mem_range.mpr (List.getElem?_eq_some_iff.mp h).1, ?_⟩
  rw [h]
theorem zm_al_has {ad : Nat → Nat} {n : Nat} {ls : zm_L} {lr : Array Slot} (h : zm_lr ad n ls lr) : lv_has lr n (zm_al ad ls) := by
  refine ⟨h.1, h.2.1, fun q hq => ?_⟩
  unfold zm_al at hq
  obtain ⟨i, -, hi⟩ := List.mem_filterMap.mp hq
  split at hi
  · next v hv => cases hi; exact h.2.2 i v hv
  · cases hi
theorem zm_al_set {ad : Nat → Nat} {n i : Nat} {ls : zm_L} {v : zm_V} {lr' : Array Slot} (h : lv_has lr' n ((i, zm_v ad v) :: (zm_al ad ls).filter (fun q => !(q.1 == i) && !(q.1 + 1 == i && q.2.category == 2)))) : zm_lr ad n (ls.set i (some v)) lr' := by
  refine ⟨h.1, h.2.1, fun j u hj => ?_⟩
  by_cases hji : i = j
  · subst hji
    have hl : i < ls.length := by
      have := (List.getElem?_eq_some_iff.mp hj).1
      simpa using this
    rw [List.getElem?_set_self hl] at hj
    cases hj
    exact h.2.2 _ List.mem_cons_self
  · rw [List.getElem?_set_ne hji] at hj
    refine h.2.2 (j, zm_v ad u) (List.mem_cons_of_mem _ (List.mem_filter.mpr ⟨zm_al_in hj, ?_⟩))
    have : ¬ j = i := fun q => hji q.symm
    simp [this, zm_cat1]
theorem zm_sw_spec (J : Nat → Prop) (x : Int32) (d : Nat) : ∀ (cs : List (Int32 × Nat)), zm_sw J x d cs → (∃ k, k < cs.length ∧ x = (cs.getD k (0, 0)).1 ∧ J (cs.getD k (0, 0)).2) ∨ ((∀ k, k < cs.length → ¬ x = (cs.getD k (0, 0)).1) ∧ J d)
  | [], h => Or.inr ⟨fun k hk => absurd hk (Nat.not_lt_zero k), h⟩
  | (c, t) :: r, h => by
    by_cases hx : x = c
    · exact Or.inl ⟨0, by simp, hx, h.1 hx⟩
    · rcases zm_sw_spec J x d r (h.2 hx) with ⟨k, h1, h2, h3⟩ | ⟨h1, h2⟩
      · exact Or.inl ⟨k + 1, by simpa using h1, by simpa using h2, by simpa using h3⟩
      · refine Or.inr ⟨fun k hk => ?_, h2⟩
        cases k with
        | zero => exact hx
        | succ k => simpa using h1 k (by simpa using hk)
theorem zm_lk_spec (J : Nat → Prop) (x : Int32) (d pc : Nat) (dflt : Int) (hd : (pc : Int) + dflt = (d : Int)) : ∀ (ps : List (Int × Int)) (cs : List (Int32 × Nat)), ps.map (fun z => (z.1, (pc : Int) + z.2)) = cs.map (fun z => (z.1.toInt, (z.2 : Int))) → zm_sw J x d cs → ∃ t, J t ∧ (pc : Int) + Op.lookupswitch.offset ps dflt x.toInt = (t : Int)
  | [], [], _, h => ⟨d, h, hd⟩
  | [], _ :: _, e, _ => by simp at e
  | _ :: _, [], e, _ => by simp at e
  | (a, o) :: ps, (c, t) :: cs, e, h => by
    simp only [List.map_cons, List.cons.injEq, Prod.mk.injEq] at e
    rw [Op.lookupswitch.offset_cons]
    by_cases hx : x = c
    · rw [if_pos (by rw [e.1.1, hx])]
      exact ⟨t, h.1 hx, e.1.2⟩
    · rw [if_neg (by rw [e.1.1]; exact fun q => hx (Int32.toInt_inj.mp q.symm))]
      exact zm_lk_spec J x d pc dflt hd ps cs e.2 (h.2 hx)
/-! words -/
theorem zm_in {w : Cond} (h : w ∈ lw_tbl) (hg : goodWord w = true) : w ∈ lw_tbl.filter goodWord := List.mem_filter.mpr ⟨h, hg⟩
theorem zm_FLw {q : Nat × Nat × Nat × Nat × Nat} (h : zm_FL.contains q = true) : zm_fw q ∈ lw_tbl := by
  have h1 := List.all_eq_true.mp zm_FL_ok q (List.contains_iff_mem.mp h)
  simp only [Bool.and_eq_true, decide_eq_true_eq] at h1
  exact h1.1.1
theorem zm_MLw {q : Nat × Nat × Nat × Nat} (h : zm_ML.contains q = true) : zm_mw q ∈ lw_tbl := zm_ML_ok q (List.contains_iff_mem.mp h)
theorem zm_CLw {q : Nat × Nat × Int32} (h : zm_CL.contains q = true) : zm_cw q ∈ lw_tbl := by
  have h1 := List.all_eq_true.mp zm_CL_ok q (List.contains_iff_mem.mp h)
  simpa only [decide_eq_true_eq] using h1
theorem zm_N.warm {s U : State} (hW : s.WarmedH U.vm) (h : zm_N s) : zm_N U := by
  refine ⟨fun q hq hn => ?_, fun q hq hn => ?_⟩
  · have h1 := h.1 q hq hn
    unfold zm_fw at h1 ⊢
    rw [if_neg hn] at h1 ⊢
    exact va_Nw.warmF hW h1
  · have h1 := h.2 q hq hn
    unfold zm_mw at h1 ⊢
    rw [if_neg hn] at h1 ⊢
    exact va_Nw.warmM hW h1
theorem zm_N.same {s U : State} (hv : s.vm = U.vm) (h : zm_N s) : zm_N U := by
  refine ⟨fun q hq hn => ?_, fun q hq hn => ?_⟩
  · have h1 := h.1 q hq hn
    unfold zm_fw at h1 ⊢
    rw [if_neg hn] at h1 ⊢
    exact va_Nw.same rfl hv h1
  · have h1 := h.2 q hq hn
    unfold zm_mw at h1 ⊢
    rw [if_neg hn] at h1 ⊢
    exact va_Nw.same rfl hv h1
theorem zm_fields_at {c : Nat} (hc : c < 13) : (∀ w ∈ u_ws (zm_cn c) (zm_tx c) (zm_fn c), w ∈ lw_tbl) ∧ ∀ k, k < zm_fn c → parseFieldDescriptor (zm_tx c k).2.2.1 = some (zm_ty c k) ∧ zm_kt (zm_fk c k) (zm_ty c k) = true ∧ (zm_tx c k).1 = zm_cn c ∧ ∀ b, b < zm_fn c → k ≠ b → (zm_tx c k).2.1 ≠ (zm_tx c b).2.1 := by
  have h1 := List.all_eq_true.mp zm_fields c (List.mem_range.mpr hc)
  simp only [Bool.and_eq_true, List.all_eq_true, decide_eq_true_eq, Bool.or_eq_true, List.mem_range] at h1
  refine ⟨h1.1, fun k hk => ?_⟩
  obtain ⟨⟨⟨a1, a2⟩, a3⟩, a4⟩ := h1.2 k hk
  exact ⟨a1, a2, a3, fun b hb hn => (a4 b hb).resolve_left hn⟩
theorem zm_uin {c : Nat} (hc : c < 13) : ∀ w ∈ u_ws (zm_cn c) (zm_tx c) (zm_fn c), w ∈ lw_tbl.filter goodWord := by
  intro w hw
  refine zm_in ((zm_fields_at hc).1 w hw) ?_
  unfold u_ws at hw
  obtain ⟨k, -, rfl⟩ := List.mem_map.mp hw
  unfold u_lay
  split <;> rfl
theorem zm_e_obj {G : zm_G} {ad : Nat → Nat} {sh : Nat × Nat} {a c : Nat} {h : zm_M} (hs : sh.1 = c + 3) : zm_e G ad sh a h = .inr (c, (List.range (zm_fn c)).map (zm_fv ad c a h)) := by
  unfold zm_e
  rw [hs]
theorem zm_e_0 {G : zm_G} {ad : Nat → Nat} {sh : Nat × Nat} {a : Nat} {h : zm_M} (hs : sh.1 = 0) : zm_e G ad sh a h = .inl (G.1, sh.2, .inl (h.1 a)) := by
  unfold zm_e
  rw [hs]
theorem zm_e_1 {G : zm_G} {ad : Nat → Nat} {sh : Nat × Nat} {a : Nat} {h : zm_M} (hs : sh.1 = 1) : zm_e G ad sh a h = .inl (G.2.1, sh.2, .inl (h.1 a)) := by
  unfold zm_e
  rw [hs]
theorem zm_e_2 {G : zm_G} {ad : Nat → Nat} {sh : Nat × Nat} {a : Nat} {h : zm_M} (hs : sh.1 = 2) : zm_e G ad sh a h = .inl (G.2.2, sh.2, .inr (.inr (.inr (.inr (fun j => (h.2 a j).map ad))))) := by
  unfold zm_e
  rw [hs]
theorem zm_fs_at {n k : Nat} {f : Nat → Value} (h : k < n) : ((List.range n).map f)[k]? = some (f k) := by
  rw [List.getElem?_map, List.getElem?_range h]
  rfl
theorem zm_fs_set {n k : Nat} {f g : Nat → Value} {v : Value} (hk : g k = v) (ho : ∀ j, j ≠ k → g j = f j) : ((List.range n).map f).set k v = (List.range n).map g := by
  apply List.ext_getElem?
  intro j
  by_cases hj : j < n
  · rw [zm_fs_at hj]
    by_cases hjk : k = j
    · subst hjk
      rw [List.getElem?_set_self (by simpa using hj), hk]
    · rw [List.getElem?_set_ne hjk, zm_fs_at hj, ho j (Ne.symm hjk)]
  · rw [List.getElem?_eq_none (by simpa using hj), List.getElem?_eq_none (by simpa using hj)]
theorem zm_A_in {A : Nat → Prop} {ws : va_W} {H0 H : Heap} {locs : List Loc} (hD : va_D A ws) (hS : va_S A H0 H locs) (hA : ∀ n : Nat, H0.size ≤ n → A n) : ∀ q, va_A ws H.size q → A q := by
  intro q h
  rcases h with ⟨k, e, h⟩ | h
  · exact hD.2 k _ h
  · exact hA q (Nat.le_trans hS.1 h)
section ZMS
variable {p : Program} {l : Launch} {e : Env} {s : State} {m : MethodId} {args : Array Value} {below : List Frame} {meth : Method} {c : Code} {H : Heap} {locs : List Loc} {Q : State → Prop}
/-- behind a call -/
theorem zm_call {R : Room} {pc : Nat} {lr : Array Slot} {st0 rest : List Value} {a : Array Value} {D : va_G} {G : zm_G} {ad : Nat → Nat} {T : zm_T} {h : zm_M} {R0 : zm_R} {A : Nat → Prop} {H0 : Heap}
    (hr : va_Run p l e R s m args below meth c H locs 0 0 0 0 (F0 m pc lr st0) rest (zm_Q D G ad T R0 (va_A (zm_w G ad T h) H.size) a) (va_A (zm_w G ad T h) H.size)) (hD : va_D A (zm_w G ad T h)) (hS : va_S A H0 H locs) (hA : ∀ n : Nat, H0.size ≤ n → A n)
    (kk : ∀ (r : Option zm_V) (h' : zm_M) (H1 : Heap) (locs1 : List Loc), R0 r h' → va_P D vwCl (zm_w G ad T h') H1 → va_S A H0 H1 locs1 → W p l e R s m args below meth c H1 locs1 0 0 Q (F0 m (pc + 3) lr ((r.map (zm_v ad)).toList ++ rest))) : W p l e R s m args below meth c H locs 0 0 Q (F0 m pc lr st0) := by
  have hF := zm_A_in hD hS hA
  intro T0 hT X
  obtain ⟨v, st₀, t, T', L, h0, X', hL, e1, e2, ⟨⟨r, h', hR, hv, hP1⟩, hz, hk⟩, st⟩ := hr T0 hT X
  rw [h0] at hz hk
  have hv : v = r.map (zm_v ad) := by cases hv; rfl
  subst hv
  obtain ⟨t2, a1, b1⟩ := kk r h' T'.heap (locs ++ L) hR (by rw [e1]; exact hP1)
    ⟨Nat.le_trans hS.1 (by rw [e1]; exact hz), fun q h1 h2 => by rw [e1, hk q (Nat.lt_of_lt_of_le h1 hS.1) (fun z => h2 (hF q z))]; exact hS.2.1 q h1 h2, fun q hq => by
      rcases List.mem_append.mp hq with h | h
      · exact hS.2.2 q h
      · exact hF _ (hL q h)⟩ T' rfl X'
  exact ⟨t2, st t2 a1, b1⟩
end ZMS
theorem zm_blind {as : List Value} {D : va_G} {G : zm_G} {ad : Nat → Nat} {T : zm_T} {h : zm_M} {sz : Nat} : FrameBlind (va_Pc as (zm_Pr D G ad T h sz)) := fun a U g mk q => by
  obtain ⟨q0, q1, qP, qK, qD, qN⟩ := q
  exact ⟨q0, q1, qP, va_K.moved (u := U) (U := U.calling g mk a) (Vm.Alike.refl U.vm) qK, qD, zm_N.same (s := U) (U := U.calling g mk a) rfl qN⟩
theorem zm_okD_at {j : Nat} (hj : j < zm_MT.length) : zm_okD (zm_md j) = true ∧ zm_okP (zm_md j) := by
  have hm : zm_md j ∈ zm_MT := by
    unfold zm_md
    rw [List.getD_eq_getElem?_getD, List.getElem?_eq_getElem hj]
    exact List.getElem_mem hj
  exact ⟨List.all_eq_true.mp zm_MT_ok _ hm, zm_MT_okP _ hm⟩
theorem zm_params {y : MethodName} {n : Nat} (h : (parseMethodDescriptor y.desc).map (fun d => d.parameters.length) = some n) : ∀ sig, parseMethodDescriptor y.desc = some sig → n = sig.parameters.length := by
  intro sig hs
  rw [hs] at h
  exact (Option.some.inj h).symm
theorem zm_ws_good {args : Array Value} {s : State} {q : zm_D} (hts : ∀ w ∈ lw_tbl.filter goodWord, w.before args s = true) (hc : Cond.code q.1 q.2.1 q.2.2.1 q.2.2.2.1 ∈ lw_tbl) : ∀ w ∈ zm_ws q, ∀ (a' : Array Value) (U : State), s.WarmedH U.vm → w.before a' U = true := by
  refine pay_in hts (fun w hw => ?_)
  have : w ∈ lw_tbl.filter goodWord := by
    rcases List.mem_cons.mp hw with h | h
    · subst h
      exact zm_in hc rfl
    · exact h
  exact ⟨this, good_of_word (List.mem_filter.mp this).2⟩
