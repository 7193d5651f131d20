/-! blocks, jumps that are followed, contracts -/
theorem zm_blk {q : zm_D} {d : Nat} {T : zm_T} {R : zm_R} {J : Nat → zm_L → List zm_V → zm_M → Prop} (hqd : zm_okD q = true) (hJ : ∀ t ls st h, J t ls st h → zm_W q (d + 1) T R t ls st h) (fall : Nat) :
    ∀ (ops : List zm_O) (pc : Nat) (ls : zm_L) (st : List zm_V) (h : zm_M), zm_okL q fall pc ops = true → zm_bl d T R J fall ops ls st h → zm_W q (d + 1) T R pc ls st h
  | [], pc, ls, st, h, hok, hs => by
    have hpc : pc = fall := of_decide_eq_true hok
    subst hpc
    exact hJ _ _ _ _ hs
  | o :: r, pc, ls, st, h, hok, hs => by
    unfold zm_okL at hok
    split at hok
    · next i n hdec =>
      simp only [Bool.and_eq_true, decide_eq_true_eq, Bool.or_eq_true] at hok
      obtain ⟨⟨⟨⟨h1, h2⟩, h3⟩, h4⟩, h5⟩ := hok
      obtain ⟨pc', i', a, b, v, cs⟩ := o
      dsimp only at h1 h2
      subst h1; subst h2
      exact zm_one hqd hdec h3 h4 hJ (K := zm_bl d T R J fall r) (fun ls st h hk => zm_blk hqd hJ fall r _ ls st h h5 hk) hs
    · cases hok
def zm_J (q : zm_D) (d : Nat) (T : zm_T) (R : zm_R) (g : List zm_B) (cut : List Nat) : Nat → Nat → zm_L → List zm_V → zm_M → Prop
  | 0, t, ls, st, h => zm_W q (d + 1) T R t ls st h
  | n + 1, t, ls, st, h => if cut.contains t = true then zm_W q (d + 1) T R t ls st h else match g.find? (fun b => b.1 == t) with
    | some b => zm_bl d T R (zm_J q d T R g cut n) b.2.2 b.2.1 ls st h
    | none => zm_W q (d + 1) T R t ls st h
theorem zm_J_W {q : zm_D} {d : Nat} {T : zm_T} {R : zm_R} {g : List zm_B} {cut : List Nat} (hqd : zm_okD q = true) (hg : zm_okG q g = true) : ∀ (n t : Nat) (ls : zm_L) (st : List zm_V) (h : zm_M), zm_J q d T R g cut n t ls st h → zm_W q (d + 1) T R t ls st h
  | 0, t, ls, st, h, hs => hs
  | n + 1, t, ls, st, h, hs => by
    unfold zm_J at hs
    split at hs
    · exact hs
    · split at hs
      · next b hb =>
        have h1 := List.find?_some hb
        have h2 := List.all_eq_true.mp hg b (List.mem_of_find?_eq_some hb)
        have h3 : b.1 = t := by simpa using h1
        subst h3
        exact zm_blk hqd (fun t ls st h hj => zm_J_W hqd hg n t ls st h hj) b.2.2 b.2.1 b.1 ls st h h2 hs
      · exact hs
/-- at pc (a block's beginning), the block, and blocks that it jumps to, n jumps deep, but those of cut -/
theorem zm_go {j : Nat} {d : Nat} {T : zm_T} {R : zm_R} (g : List zm_B) (cut : List Nat) (n : Nat) {pc : Nat} {ls : zm_L} {st : List zm_V} {h : zm_M} (hj : j < zm_MT.length) (hg : zm_okG (zm_md j) g = true) (b : zm_B) (hb : g.find? (fun b => b.1 == pc) = some b)
    (hs : zm_bl d T R (zm_J (zm_md j) d T R g cut n) b.2.2 b.2.1 ls st h) : zm_W (zm_md j) (d + 1) T R pc ls st h := by
  have h1 := List.find?_some hb
  have h2 := List.all_eq_true.mp hg b (List.mem_of_find?_eq_some hb)
  have h3 : b.1 = pc := by simpa using h1
  subst h3
  exact zm_blk (zm_okD_at hj).1 (fun t ls st h hj2 => zm_J_W (zm_okD_at hj).1 hg n t ls st h hj2) b.2.2 b.2.1 b.1 ls st h h2 hs
theorem zm_args_at (ad : Nat → Nat) : ∀ (as : List zm_V) (k i : Nat) (v : zm_V), as[i]? = some v → (k + i, zm_v ad v) ∈ lv_args k (as.map (zm_v ad))
  | [], k, i, v, h => by simp at h
  | a :: as, k, 0, v, h => by
    simp at h
    subst h
    exact List.mem_cons_self
  | a :: as, k, i + 1, v, h => by
    have h1 := zm_args_at ad as (k + 1) i v (by simpa using h)
    refine List.mem_cons_of_mem _ ?_
    rw [if_neg (by rw [zm_cat1]; decide)]
    rw [show k + (i + 1) = k + 1 + i by omega]
    exact h1
theorem zm_sl_len (ad : Nat → Nat) : ∀ (as : List zm_V), (lg_sl (as.map (zm_v ad))).length = as.length
  | [] => rfl
  | a :: as => by
    have h1 := zm_sl_len ad as
    unfold lg_sl at h1 ⊢
    simp only [List.map_cons, List.flatMap_cons, List.length_append, List.length_cons]
    rw [h1, if_neg (by rw [zm_cat1]; decide)]
    simp
    omega
def zm_ls0 (n : Nat) (as : List zm_V) : zm_L := as.map some ++ List.replicate (n - as.length) none
theorem zm_of {j d : Nat} {T : zm_T} {R : zm_R} {as : List zm_V} {h : zm_M} (hj : j < zm_MT.length) (hpl : plainName (zm_md j).1.cls = true) (hlen : as.length ≤ (zm_md j).2.2.1)
    (hw : zm_W (zm_md j) (d + 1) T R 0 (zm_ls0 (zm_md j).2.2.1 as) [] h) : zm_C (d + 1) T j as h R := by
  refine ⟨d + 1, R, Nat.le_refl _, fun _ _ h => h, fun l D G ad sz => ?_⟩
  refine Met.ofW (cc := (zm_md j).2.1) (maxL := (zm_md j).2.2.1) (ret := (zm_md j).2.2.2.1) hpl rfl ?_
  intro p e s m args below meth c s₁ B hml hv
  obtain ⟨rfl, hsz, hP, hK, hD0, hN⟩ := hv
  subst hsz
  have hts := atoms_spec (ws := zm_ws (zm_md j)) B.pre
  have hX : zm_X p s m (as.map (zm_v ad)).toArray meth c (zm_md j) D G (va_A (zm_w G ad T h) s.heap.size) := ⟨B.exec, B.bytes, hml, B.returns, B.notSynchronized, findClass_of_methodNamed B.named, fun w hw => hts w (List.mem_cons_of_mem _ hw), hK, hN, fun n hn => Or.inr hn⟩
  rw [lg_entry_eq]
  have hl := lv_entry (as.map (zm_v ad)) (n := (zm_md j).2.2.1) (by rw [zm_sl_len]; exact hlen)
  refine hw p l e s m _ below meth c D G ad _ _ _ _ hX hP (hD0.self) va_S.rf ⟨hl.1, hl.2.1, fun i v hi => ?_⟩
  refine hl.2.2 (i, zm_v ad v) ?_
  have hi2 : as[i]? = some v := by
    unfold zm_ls0 at hi
    by_cases hii : i < as.length
    · rw [List.getElem?_append_left (by simpa using hii), List.getElem?_map] at hi
      obtain ⟨v', h1, h2⟩ := Option.map_eq_some_iff.mp hi
      cases h2
      exact h1
    · rw [List.getElem?_append_right (by simpa using hii)] at hi
      rw [List.getElem?_replicate] at hi
      split at hi <;> cases hi
  have := zm_args_at ad as 0 i v hi2
  rwa [Nat.zero_add] at this
