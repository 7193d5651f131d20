/-! the making of cells: they come in the order of TT, cell n at b + n -/
def yi_wt (sh : Nat × Nat) : Nat := match sh.1 with
  | 0 => sh.2
  | 1 => sh.2
  | 2 => sh.2
  | c + 3 => zm_fn c
def yi_S (n : Nat) : Nat := ((TT.take n).map yi_wt).sum
def yi_nw (h : zm_M) (n : Nat) : zm_M := (fun b j => if b = n then 0 else h.1 b j, fun b j => if b = n then none else h.2 b j)
def yi_rm (d n0 n1 : Nat) : Room := { frames := d + 1, cells := n1 - n0, slots := yi_S n1 - yi_S n0, locals := 64 * (d + 1) }
def yi_ad (b : Nat) : Nat → Nat := fun a => b + a
abbrev yi_w (G : zm_G) (b n : Nat) (h : zm_M) : va_W := zm_w G (yi_ad b) (TT.take n) h
def yi_Q (D : va_G) (G : zm_G) (b n1 : Nat) (R : zm_M → Prop) (A : Nat → Prop) : Array Value → State → Outcome → State → Prop := fun _ st o t => (∃ h' : zm_M, R h' ∧ o = .returned none ∧ va_P D vwCl (yi_w G b n1 h') t.heap) ∧ va_F A st t
def yi_Pr (D : va_G) (G : zm_G) (b n : Nat) (h : zm_M) (U : State) : Prop := U.heap.size = b + n ∧ va_P D vwCl (yi_w G b n h) U.heap ∧ va_K D vwCl (zm_tys G) U ∧ va_D (fun _ => True) (yi_w G b n h) ∧ zm_N U ∧ va_AO RX8 U
/-- a constructor, number j: from n0 cells with memory h it comes to n1 cells, with R of the memory -/
def yi_C (d j n0 n1 : Nat) (as : List zm_V) (h : zm_M) (R : zm_M → Prop) : Prop := ∀ (l : Launch) (D : va_G) (G : zm_G) (b : Nat), Met l (zm_md j).1 (zm_ws (zm_md j)) (yi_rm d n0 n1) (va_Pc (as.map (zm_v (yi_ad b))) (yi_Pr D G b n0 h)) (yi_Q D G b n1 R (va_A (yi_w G b n0 h) (b + n0))) (n1 - n0) (yi_S n1 - yi_S n0) (va_A (yi_w G b n0 h) (b + n0))
def yi_W (q : zm_D) (d n0 n1 : Nat) (R : zm_M → Prop) (pc : Nat) (ls : zm_L) (st : List zm_V) (n : Nat) (h : zm_M) : Prop :=
  ∀ (p : Program) (l : Launch) (e : Env) (s : State) (m : MethodId) (args : Array Value) (below : List Frame) (meth : Method) (c : Code) (D : va_G) (G : zm_G) (b : Nat) (A : Nat → Prop) (H : Heap) (locs : List Loc) (lr : Array Slot),
    zm_X p s m args meth c q D G A → va_AO RX8 s → meth.name = "<init>" → s.heap.size = b + n0 → n0 ≤ n → n ≤ 171 → va_P D vwCl (yi_w G b n h) H → va_D A (yi_w G b n h) → va_S A s.heap H locs → zm_lr (yi_ad b) q.2.2.1 ls lr →
    W p l e (yi_rm d n0 n1) s m args below meth c H locs (n - n0) (yi_S n - yi_S n0) (MQ below (yi_Q D G b n1 R A) args s (n1 - n0) (yi_S n1 - yi_S n0) A) (F0 m pc lr (st.map (zm_v (yi_ad b))))
theorem yi_TT : TT.length = 171 := by decide +kernel
theorem yi_S_suc {n : Nat} (h : n < 171) : yi_S (n + 1) = yi_S n + yi_wt (zm_sh TT n) := by
  unfold yi_S zm_sh
  have hl : n < TT.length := by rw [yi_TT]; exact h
  rw [List.take_succ, List.getElem?_eq_getElem hl, List.getD_eq_getElem?_getD, List.getElem?_eq_getElem hl, List.map_append, List.sum_append]
  rfl
theorem yi_S_le {a c : Nat} (h : a ≤ c) (hc : c ≤ 171) : yi_S a ≤ yi_S c := by
  induction c with
  | zero => rw [Nat.le_zero.mp h]; exact Nat.le_refl _
  | succ c ih =>
    rcases Nat.lt_or_ge a (c + 1) with q | q
    · have := ih (by omega) (by omega)
      rw [yi_S_suc (by omega)]
      omega
    · rw [show a = c + 1 by omega]
      exact Nat.le_refl _
theorem yi_sh {n a : Nat} (h : a < n) (hn : n ≤ 171) : zm_sh (TT.take n) a = zm_sh TT a := by
  unfold zm_sh
  rw [List.getD_eq_getElem?_getD, List.getD_eq_getElem?_getD, List.getElem?_take_of_lt h]
theorem yi_len {n : Nat} (hn : n ≤ 171) : (TT.take n).length = n := by
  rw [List.length_take, yi_TT]
  omega
theorem yi_ext {G : zm_G} {b n : Nat} {h : zm_M} (hn : n < 171) : yi_w G b (n + 1) (yi_nw h n) = yi_w G b n h ++ [(b + n, zm_e G (yi_ad b) (zm_sh TT n) n (yi_nw h n))] := by
  unfold yi_w zm_w
  rw [yi_len (by omega), yi_len (by omega), List.range_succ, List.map_append]
  congr 1
  · refine List.map_congr_left fun a ha => ?_
    have ha := List.mem_range.mp ha
    rw [yi_sh (by omega) (by omega), yi_sh ha (by omega)]
    rw [zm_e_congr (h := h) (h' := yi_nw h n) (by funext j; simp [yi_nw]; omega) (by funext j; simp [yi_nw]; omega)]
  · simp only [List.map_cons, List.map_nil]
    rw [yi_sh (by omega) (by omega)]
    rfl
theorem yi_sz {p : Program} {l : Launch} {e : Env} {R : Room} {s : State} {m : MethodId} {args : Array Value} {below : List Frame} {meth : Method} {c : Code} {D : va_G} {G : zm_G} {b n0 n : Nat} {A : Nat → Prop} {H : Heap} {locs : List Loc} {h : zm_M} {z : Nat} {Q : State → Prop} {g : JFrame} (hs : s.heap.size = b + n0) (hle : n0 ≤ n) (hn : n ≤ 171) (hP : va_P D vwCl (yi_w G b n h) H) (hS : va_S A s.heap H locs) (k : H.size = b + n → W p l e R s m args below meth c H locs (n - n0) z Q g) : W p l e R s m args below meth c H locs (n - n0) z Q g := by
  intro T hT X
  refine k ?_ T hT X
  have h1 := X.heapSize
  rw [hT, hs] at h1
  have h2 := hS.1
  rw [hs] at h2
  rcases Nat.eq_or_lt_of_le hle with q | q
  · omega
  · have h3 := (hP (n - 1) _ (zm_w_at (by rw [yi_len hn]; omega))).lt
    have h3 : b + (n - 1) < H.size := h3
    omega
/-- a cell more -/
theorem yi_more {D : va_G} {G : zm_G} {b n : Nat} {A : Nat → Prop} {H H1 H0 : Heap} {locs : List Loc} {h : zm_M} (hn : n < 171) (hz : H.size = b + n) (z1 : H1.size = H.size + 1) (o1 : ∀ q, q < H.size → H1[q]? = H[q]?) (hA : ∀ q, H0.size ≤ q → A q) (hP : va_P D vwCl (yi_w G b n h) H) (hD : va_D A (yi_w G b n h)) (hS : va_S A H0 H locs) (he : va_at D vwCl (b + n, zm_e G (yi_ad b) (zm_sh TT n) n (yi_nw h n)) H1) :
    va_P D vwCl (yi_w G b (n + 1) (yi_nw h n)) H1 ∧ va_D A (yi_w G b (n + 1) (yi_nw h n)) ∧ va_S A H0 H1 locs := by
  rw [yi_ext hn]
  refine ⟨(hP.kept (fun k x hx => o1 x.1 ((hP k x hx).lt))).app (fun k x hx => ?_), hD.push hP hz.symm (hA _ (by rw [← hz]; exact hS.1)), ⟨Nat.le_trans hS.1 (by omega), fun x h1 h2 => (o1 x (Nat.lt_of_lt_of_le h1 hS.1)).trans (hS.2.1 x h1 h2), hS.2.2⟩⟩
  have hz : k < 1 := (List.getElem?_eq_some_iff.mp hx).1
  rw [show k = 0 by omega] at hx
  cases hx
  exact he
