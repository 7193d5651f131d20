/-! the small machine: ints and references (virtual addresses), memory of int slots and reference slots, shapes that stay -/
abbrev zm_V : Type := Int32 ⊕ Option Nat
abbrev zm_M : Type := (Nat → Nat → Int32) × (Nat → Nat → Option Nat)
abbrev zm_T : Type := List (Nat × Nat)
abbrev zm_L : Type := List (Option zm_V)
abbrev zm_G : Type := ClassId × ClassId × ClassId
/-- place, instruction, two numbers, a constant, cases -/
abbrev zm_O : Type := Nat × Instr × Nat × Nat × Int32 × List (Int32 × Nat)
/-- a block: where it begins, its instructions, where it goes on -/
abbrev zm_B : Type := Nat × List zm_O × Nat
abbrev zm_R : Type := Option zm_V → zm_M → Prop
def zm_v (ad : Nat → Nat) : zm_V → Value
  | .inl x => .int x
  | .inr r => va_rf (r.map ad)
def zm_fv (ad : Nat → Nat) (c a : Nat) (h : zm_M) (k : Nat) : Value := if zm_fk c k = 2 then va_rf ((h.2 a k).map ad) else .int (h.1 a k)
/-- a cell by its shape: 0 ints, 1 bytes, 2 references to summaries, 3 + c an object of class c -/
def zm_e (G : zm_G) (ad : Nat → Nat) (sh : Nat × Nat) (a : Nat) (h : zm_M) : va_E := match sh.1 with
  | 0 => .inl (G.1, sh.2, .inl (h.1 a))
  | 1 => .inl (G.2.1, sh.2, .inl (h.1 a))
  | 2 => .inl (G.2.2, sh.2, .inr (.inr (.inr (.inr (fun j => (h.2 a j).map ad)))))
  | c + 3 => .inr (c, (List.range (zm_fn c)).map (zm_fv ad c a h))
def zm_sh (T : zm_T) (a : Nat) : Nat × Nat := T.getD a (1000, 0)
def zm_w (G : zm_G) (ad : Nat → Nat) (T : zm_T) (h : zm_M) : va_W := (List.range T.length).map (fun a => (ad a, zm_e G ad (zm_sh T a) a h))
def zm_tys (G : zm_G) : List (ClassId × FieldType) := [(G.1, .int), (G.2.1, .byte), (G.2.2, .object RX8)]
def zm_si (h : zm_M) (a k : Nat) (x : Int32) : zm_M := (fun b j => if b = a ∧ j = k then x else h.1 b j, h.2)
def zm_sr (h : zm_M) (a k : Nat) (r : Option Nat) : zm_M := (h.1, fun b j => if b = a ∧ j = k then r else h.2 b j)
def zm_cp (h : zm_M) (a0 sp a dp n : Nat) : zm_M := (fun b j => if b = a ∧ dp ≤ j ∧ j < dp + n then h.1 a0 (sp + (j - dp)) else h.1 b j, h.2)
theorem zm_lt {T : zm_T} {a : Nat} (h : (zm_sh T a).1 < 1000) : a < T.length := by
  rcases Nat.lt_or_ge a T.length with q | q
  · exact q
  · unfold zm_sh at h
    rw [List.getD_eq_getElem?_getD, List.getElem?_eq_none q] at h
    exact absurd h (by decide)
theorem zm_w_at {G : zm_G} {ad : Nat → Nat} {T : zm_T} {h : zm_M} {a : Nat} (ha : a < T.length) : (zm_w G ad T h)[a]? = some (ad a, zm_e G ad (zm_sh T a) a h) := by
  unfold zm_w
  rw [List.getElem?_map, List.getElem?_range ha]
  rfl
theorem zm_w_of {G : zm_G} {ad : Nat → Nat} {T : zm_T} {h : zm_M} {a : Nat} {q : Nat × va_E} (hq : (zm_w G ad T h)[a]? = some q) : a < T.length ∧ q = (ad a, zm_e G ad (zm_sh T a) a h) := by
  have hl : a < T.length := by
    have := (List.getElem?_eq_some_iff.mp hq).1
    unfold zm_w at this
    simpa using this
  rw [zm_w_at hl] at hq
  exact ⟨hl, (Option.some.inj hq).symm⟩
theorem zm_e_congr {G : zm_G} {ad : Nat → Nat} {sh : Nat × Nat} {b : Nat} {h h' : zm_M} (h1 : h'.1 b = h.1 b) (h2 : h'.2 b = h.2 b) : zm_e G ad sh b h' = zm_e G ad sh b h := by
  have e : zm_fv ad = zm_fv ad := rfl
  unfold zm_e
  split
  · rw [h1]
  · rw [h1]
  · rw [h2]
  · have : ∀ c, zm_fv ad c b h' = zm_fv ad c b h := fun c => by
      funext k
      unfold zm_fv
      rw [h1, h2]
    rw [this]
theorem zm_w_upd {G : zm_G} {ad : Nat → Nat} {T : zm_T} {h h' : zm_M} {a : Nat} {e' : va_E} (ho : ∀ b, b ≠ a → h'.1 b = h.1 b ∧ h'.2 b = h.2 b) (he : e' = zm_e G ad (zm_sh T a) a h') : (zm_w G ad T h).set a (ad a, e') = zm_w G ad T h' := by
  subst he
  apply List.ext_getElem?
  intro b
  by_cases hb : b < T.length
  · rw [zm_w_at hb]
    by_cases hab : a = b
    · subst hab
      rw [List.getElem?_set_self (by unfold zm_w; simpa using hb)]
    · rw [List.getElem?_set_ne hab, zm_w_at hb, zm_e_congr (ho b (Ne.symm hab)).1 (ho b (Ne.symm hab)).2]
  · rw [List.getElem?_eq_none (by unfold zm_w; simp; omega), List.getElem?_eq_none (by unfold zm_w; simp; omega)]
theorem zm_w_D {A : Nat → Prop} {G : zm_G} {ad : Nat → Nat} {T : zm_T} {h h' : zm_M} (hD : va_D A (zm_w G ad T h)) : va_D A (zm_w G ad T h') := by
  refine ⟨fun i j p q hi hj hpq => ?_, fun k q hk => ?_⟩
  · obtain ⟨l1, rfl⟩ := zm_w_of hi
    obtain ⟨l2, rfl⟩ := zm_w_of hj
    exact hD.1 i j _ _ (zm_w_at l1) (zm_w_at l2) hpq
  · obtain ⟨l1, rfl⟩ := zm_w_of hk
    exact hD.2 k (ad k, zm_e G ad (zm_sh T k) k h) (zm_w_at l1)
/-! room, words, contracts -/
def zm_rm (d : Nat) : Room := { frames := d + 1, cells := 0, slots := 0, locals := 64 * (d + 1) }
def zm_ws (q : zm_D) : List Cond := Cond.code q.1 q.2.1 q.2.2.1 q.2.2.2.1 :: lw_tbl.filter goodWord
def zm_N (U : State) : Prop := (∀ q ∈ zm_FL, q.2.2.2.2 ≠ 0 → va_Nw (zm_fw q) U) ∧ ∀ q ∈ zm_ML, q.2.2.2 ≠ 0 → va_Nw (zm_mw q) U
def zm_Q (D : va_G) (G : zm_G) (ad : Nat → Nat) (T : zm_T) (R : zm_R) (A : Nat → Prop) : Array Value → State → Outcome → State → Prop := fun _ st o t => (∃ (r : Option zm_V) (h' : zm_M), R r h' ∧ o = .returned (r.map (zm_v ad)) ∧ va_P D vwCl (zm_w G ad T h') t.heap) ∧ va_F A st t
def zm_Pr (D : va_G) (G : zm_G) (ad : Nat → Nat) (T : zm_T) (h : zm_M) (sz : Nat) (U : State) : Prop := U.heap.size = sz ∧ va_P D vwCl (zm_w G ad T h) U.heap ∧ va_K D vwCl (zm_tys G) U ∧ va_D (fun _ => True) (zm_w G ad T h) ∧ zm_N U
/-- from memory h, method j with these arguments returns, and R holds of its answer and the memory behind it; d calls deep at most -/
def zm_C (d : Nat) (T : zm_T) (j : Nat) (as : List zm_V) (h : zm_M) (R : zm_R) : Prop := ∃ (d0 : Nat) (R0 : zm_R), d0 ≤ d ∧ (∀ r h', R0 r h' → R r h') ∧ ∀ (l : Launch) (D : va_G) (G : zm_G) (ad : Nat → Nat) (sz : Nat), Met l (zm_md j).1 (zm_ws (zm_md j)) (zm_rm d0) (va_Pc (as.map (zm_v ad)) (zm_Pr D G ad T h sz)) (zm_Q D G ad T R0 (va_A (zm_w G ad T h) sz)) 0 0 (va_A (zm_w G ad T h) sz)
theorem zm_C.mono {d d' : Nat} {T : zm_T} {j : Nat} {as : List zm_V} {h : zm_M} {R R' : zm_R} (hc : zm_C d T j as h R) (hd : d ≤ d') (hR : ∀ r h', R r h' → R' r h') : zm_C d' T j as h R' := by
  obtain ⟨d0, R0, h1, h2, h3⟩ := hc
  exact ⟨d0, R0, Nat.le_trans h1 hd, fun r h' q => hR r h' (h2 r h' q), h3⟩
def zm_X (p : Program) (s : State) (m : MethodId) (args : Array Value) (meth : Method) (c : Code) (q : zm_D) (D : va_G) (G : zm_G) (A : Nat → Prop) : Prop :=
  p.tables.exec = Jvm.exec ∧ c.code = q.2.1 ∧ c.maxLocals = q.2.2.1 ∧ meth.sig.returnType = q.2.2.2.1 ∧ meth.locks = false ∧ s.vm.findClass q.1.cls = some m.cls ∧ (∀ w ∈ lw_tbl.filter goodWord, w.before args s = true) ∧ va_K D vwCl (zm_tys G) s ∧ zm_N s ∧ ∀ n : Nat, s.heap.size ≤ n → A n
def zm_lr (ad : Nat → Nat) (n : Nat) (ls : zm_L) (lr : Array Slot) : Prop := lr.size = n ∧ lv_wf lr ∧ ∀ (i : Nat) (v : zm_V), ls[i]? = some (some v) → lr[i]? = some (.val (zm_v ad v))
/-- the machine in a frame of method q at pc comes to its return with R -/
def zm_W (q : zm_D) (d : Nat) (T : zm_T) (R : zm_R) (pc : Nat) (ls : zm_L) (st : List zm_V) (h : zm_M) : Prop :=
  ∀ (p : Program) (l : Launch) (e : Env) (s : State) (m : MethodId) (args : Array Value) (below : List Frame) (meth : Method) (c : Code) (D : va_G) (G : zm_G) (ad : Nat → Nat) (A : Nat → Prop) (H : Heap) (locs : List Loc) (lr : Array Slot),
    zm_X p s m args meth c q D G A → va_P D vwCl (zm_w G ad T h) H → va_D A (zm_w G ad T h) → va_S A s.heap H locs → zm_lr ad q.2.2.1 ls lr →
    W p l e (zm_rm d) s m args below meth c H locs 0 0 (MQ below (zm_Q D G ad T R A) args s 0 0 A) (F0 m pc lr (st.map (zm_v ad)))
/-! what an instruction asks -/
def zm_li : zm_L → Nat → (Int32 → Prop) → Prop
  | some (.inl x) :: _, 0, K => K x
  | _ :: r, n + 1, K => zm_li r n K
  | _, _, _ => False
def zm_la : zm_L → Nat → (Option Nat → Prop) → Prop
  | some (.inr x) :: _, 0, K => K x
  | _ :: r, n + 1, K => zm_la r n K
  | _, _, _ => False
def zm_pk : Nat → List zm_V → List zm_V → (List zm_V → List zm_V → Prop) → Prop
  | 0, st, acc, K => K acc st
  | n + 1, v :: st, acc, K => zm_pk n st (v :: acc) K
  | _ + 1, [], _, _ => False
def zm_rc (T : zm_T) (c : Nat) : List zm_V → Prop
  | .inr (some a) :: _ => (zm_sh T a).1 = c + 3
  | _ => False
def zm_sw (J : Nat → Prop) (x : Int32) (dflt : Nat) : List (Int32 × Nat) → Prop
  | [] => J dflt
  | (k, t) :: r => (x = k → J t) ∧ (¬ x = k → zm_sw J x dflt r)
def zm_br (c : ClassFile.Cond) (x y : Int32) (A B : Prop) : Prop := match c with
  | .eq => (x = y → A) ∧ (¬ x = y → B)
  | .ne => (¬ x = y → A) ∧ (x = y → B)
  | .lt => (x < y → A) ∧ (¬ x < y → B)
  | .ge => (y ≤ x → A) ∧ (¬ y ≤ x → B)
  | .gt => (y < x → A) ∧ (¬ y < x → B)
  | .le => (x ≤ y → A) ∧ (¬ x ≤ y → B)
/-- one instruction: J where it jumps, K where it goes on, R where it returns -/
def zm_st (d : Nat) (T : zm_T) (R : zm_R) (J : Nat → zm_L → List zm_V → zm_M → Prop) (o : zm_O) (K : zm_L → List zm_V → zm_M → Prop) (ls : zm_L) (st : List zm_V) (h : zm_M) : Prop :=
  match o with
  | (_, i, a, b, v, cs) => match i with
    | .iconst _ => K ls (.inl v :: st) h
    | .bipush _ => K ls (.inl v :: st) h
    | .sipush _ => K ls (.inl v :: st) h
    | .ldc _ => K ls (.inl v :: st) h
    | .ldc_w _ => K ls (.inl v :: st) h
    | .aconst_null => K ls (.inr none :: st) h
    | .iload _ => zm_li ls a (fun x => K ls (.inl x :: st) h)
    | .iload_n _ => zm_li ls a (fun x => K ls (.inl x :: st) h)
    | .aload _ => zm_la ls a (fun x => K ls (.inr x :: st) h)
    | .aload_n _ => zm_la ls a (fun x => K ls (.inr x :: st) h)
    | .istore _ => match st with | .inl x :: r => K (ls.set a (some (.inl x))) r h | _ => False
    | .istore_n _ => match st with | .inl x :: r => K (ls.set a (some (.inl x))) r h | _ => False
    | .astore _ => match st with | .inr x :: r => K (ls.set a (some (.inr x))) r h | _ => False
    | .astore_n _ => match st with | .inr x :: r => K (ls.set a (some (.inr x))) r h | _ => False
    | .iinc _ _ => zm_li ls a (fun x => K (ls.set a (some (.inl (x + v)))) st h)
    | .iadd => match st with | .inl y :: .inl x :: r => K ls (.inl (x + y) :: r) h | _ => False
    | .isub => match st with | .inl y :: .inl x :: r => K ls (.inl (x - y) :: r) h | _ => False
    | .imul => match st with | .inl y :: .inl x :: r => K ls (.inl (x * y) :: r) h | _ => False
    | .iand => match st with | .inl y :: .inl x :: r => K ls (.inl (x &&& y) :: r) h | _ => False
    | .ior => match st with | .inl y :: .inl x :: r => K ls (.inl (x ||| y) :: r) h | _ => False
    | .ixor => match st with | .inl y :: .inl x :: r => K ls (.inl (x ^^^ y) :: r) h | _ => False
    | .idiv => match st with | .inl y :: .inl x :: r => ¬ y = 0 ∧ K ls (.inl (x / y) :: r) h | _ => False
    | .irem => match st with | .inl y :: .inl x :: r => ¬ y = 0 ∧ K ls (.inl (x - x / y * y) :: r) h | _ => False
    | .ishl => match st with | .inl y :: .inl x :: r => K ls (.inl (x <<< (y &&& 31)) :: r) h | _ => False
    | .ishr => match st with | .inl y :: .inl x :: r => K ls (.inl (x >>> (y &&& 31)) :: r) h | _ => False
    | .iushr => match st with | .inl y :: .inl x :: r => K ls (.inl (x.toUInt32 >>> (y.toUInt32 &&& Int32.toUInt32 31)).toInt32 :: r) h | _ => False
    | .i2b => match st with | .inl x :: r => K ls (.inl x.toInt8.toInt32 :: r) h | _ => False
    | .dup => match st with | x :: r => K ls (x :: x :: r) h | _ => False
    | .pop => match st with | _ :: r => K ls r h | _ => False
    | .dup2 => match st with | x :: y :: r => K ls (x :: y :: x :: y :: r) h | _ => False
    | .goto _ => J a ls st h
    | .ifCond c _ => match st with | .inl x :: r => zm_br c x 0 (J a ls r h) (K ls r h) | _ => False
    | .if_icmp c _ => match st with | .inl y :: .inl x :: r => zm_br c x y (J a ls r h) (K ls r h) | _ => False
    | .ifnull _ => match st with | .inr x :: r => (x = none → J a ls r h) ∧ (¬ x = none → K ls r h) | _ => False
    | .ifnonnull _ => match st with | .inr x :: r => (¬ x = none → J a ls r h) ∧ (x = none → K ls r h) | _ => False
    | .tableswitch _ _ _ _ => match st with | .inl x :: r => zm_sw (fun t => J t ls r h) x a cs | _ => False
    | .lookupswitch _ _ => match st with | .inl x :: r => zm_sw (fun t => J t ls r h) x a cs | _ => False
    | .getfield _ => match cs with
      | [] => match st with | .inr (some q) :: r => (zm_sh T q).1 = a + 3 ∧ K ls (.inl (h.1 q b) :: r) h | _ => False
      | _ :: _ => match st with | .inr (some q) :: r => (zm_sh T q).1 = a + 3 ∧ K ls (.inr (h.2 q b) :: r) h | _ => False
    | .putfield _ => match cs with
      | [] => match st with | .inl x :: .inr (some q) :: r => (zm_sh T q).1 = a + 3 ∧ K ls r (zm_si h q b x) | _ => False
      | [_] => match st with | .inr x :: .inr (some q) :: r => (zm_sh T q).1 = a + 3 ∧ K ls r (zm_sr h q b x) | _ => False
      | _ => match st with | .inl x :: .inr (some q) :: r => (zm_sh T q).1 = a + 3 ∧ (x = 0 ∨ x = 1) ∧ K ls r (zm_si h q b x) | _ => False
    | .arraylength => match st with | .inr (some q) :: r => (zm_sh T q).1 = 0 ∧ K ls (.inl (Int32.ofNat (zm_sh T q).2) :: r) h | _ => False
    | .iaload => match st with | .inl x :: .inr (some q) :: r => (zm_sh T q).1 = 0 ∧ vp_in x (zm_sh T q).2 ∧ K ls (.inl (h.1 q x.toNatClampNeg) :: r) h | _ => False
    | .baload => match st with | .inl x :: .inr (some q) :: r => (zm_sh T q).1 = 1 ∧ vp_in x (zm_sh T q).2 ∧ K ls (.inl (h.1 q x.toNatClampNeg) :: r) h | _ => False
    | .aaload => match st with | .inl x :: .inr (some q) :: r => (zm_sh T q).1 = 2 ∧ vp_in x (zm_sh T q).2 ∧ K ls (.inr (h.2 q x.toNatClampNeg) :: r) h | _ => False
    | .iastore => match st with | .inl y :: .inl x :: .inr (some q) :: r => (zm_sh T q).1 = 0 ∧ vp_in x (zm_sh T q).2 ∧ K ls r (zm_si h q x.toNatClampNeg y) | _ => False
    | .bastore => match st with | .inl y :: .inl x :: .inr (some q) :: r => (zm_sh T q).1 = 1 ∧ vp_in x (zm_sh T q).2 ∧ K ls r (zm_si h q x.toNatClampNeg (vp_nar .byte y)) | _ => False
    | .aastore => match st with | .inr (some y) :: .inl x :: .inr (some q) :: r => (zm_sh T q).1 = 2 ∧ (zm_sh T y).1 = 11 ∧ vp_in x (zm_sh T q).2 ∧ K ls r (zm_sr h q x.toNatClampNeg (some y)) | _ => False
    | .invokevirtual _ => match cs with
      | (_, c) :: _ => zm_pk (b + 1) st [] (fun as r => r.length ≤ 8 ∧ zm_rc T c as ∧ zm_C d T a as h (fun w h' => K ls (w.toList ++ r) h'))
      | [] => False
    | .invokestatic _ => match cs with
      | [] => zm_pk b st [] (fun as r => r.length ≤ 8 ∧ zm_C d T a as h (fun w h' => K ls (w.toList ++ r) h'))
      | [_, _] => match st with | .inl y :: .inl x :: r => r.length ≤ 8 ∧ K ls (.inl (if x < y then y else x) :: r) h | _ => False
      | [_, _, _] => match st with | .inl y :: .inl x :: r => r.length ≤ 8 ∧ K ls (.inl (if y < x then y else x) :: r) h | _ => False
      | _ => match st with | .inl n :: .inl y :: .inr (some q) :: .inl x :: .inr (some p) :: r => r.length ≤ 8 ∧ (zm_sh T q).1 = 0 ∧ (zm_sh T p).1 = 0 ∧ ¬ x < 0 ∧ ¬ y < 0 ∧ ¬ n < 0 ∧ x.toNatClampNeg + n.toNatClampNeg ≤ (zm_sh T p).2 ∧ y.toNatClampNeg + n.toNatClampNeg ≤ (zm_sh T q).2 ∧ K ls r (zm_cp h p x.toNatClampNeg q y.toNatClampNeg n.toNatClampNeg) | _ => False
    | .ireturn => match b with
      | 0 => match st with | [.inl x] => R (some (.inl x)) h | _ => False
      | _ + 1 => match st with | [.inl x] => (x = 0 ∨ x = 1) ∧ R (some (.inl x)) h | _ => False
    | .areturn => match st with | [.inr x] => R (some (.inr x)) h | _ => False
    | .return_ => match st with | [] => R none h | _ => False
    | _ => False
def zm_bl (d : Nat) (T : zm_T) (R : zm_R) (J : Nat → zm_L → List zm_V → zm_M → Prop) (fall : Nat) : List zm_O → zm_L → List zm_V → zm_M → Prop
  | [], ls, st, h => J fall ls st h
  | o :: r, ls, st, h => zm_st d T R J o (zm_bl d T R J fall r) ls st h
/-- what is looked at before a block is trusted -/
def zm_okI (q : zm_D) (o : zm_O) : Bool :=
  match o with
  | (pc, i, a, b, v, cs) => match i with
    | .iconst n => decide (Int32.ofInt n = v)
    | .bipush n => decide ((Int8.ofInt n).toInt32 = v)
    | .sipush n => decide ((Int16.ofInt n).toInt32 = v)
    | .ldc k => zm_CL.contains (q.2.2.2.2.1, k, v)
    | .ldc_w k => zm_CL.contains (q.2.2.2.2.1, k, v)
    | .iload k => decide (k = a)
    | .iload_n k => decide (k.val = a)
    | .aload k => decide (k = a)
    | .aload_n k => decide (k.val = a)
    | .istore k => decide (k = a) && decide (a < q.2.2.1)
    | .istore_n k => decide (k.val = a) && decide (a < q.2.2.1)
    | .astore k => decide (k = a) && decide (a < q.2.2.1)
    | .astore_n k => decide (k.val = a) && decide (a < q.2.2.1)
    | .iinc k n => decide (k = a) && decide (Int32.ofInt n = v) && decide (a < q.2.2.1)
    | .goto off => decide ((pc : Int) + off = (a : Int))
    | .ifCond _ off => decide ((pc : Int) + off = (a : Int))
    | .if_icmp _ off => decide ((pc : Int) + off = (a : Int))
    | .ifnull off => decide ((pc : Int) + off = (a : Int))
    | .ifnonnull off => decide ((pc : Int) + off = (a : Int))
    | .tableswitch dflt lo hi offs => decide ((pc : Int) + dflt = (a : Int)) && decide (hi = lo + (cs.length : Int) - 1) && (List.range cs.length).all (fun k => decide (((cs.getD k (0, 0)).1).toInt = lo + (k : Int)) && decide ((offs[k]?).map (fun off => (pc : Int) + off) = some ((cs.getD k (0, 0)).2 : Int)))
    | .lookupswitch dflt ps => decide ((pc : Int) + dflt = (a : Int)) && decide (ps.toList.map (fun z => (z.1, (pc : Int) + z.2)) = cs.map (fun z => (z.1.toInt, (z.2 : Int)))) && (ps.toList.zip (ps.toList.drop 1)).all (fun (x, y) => x.1 < y.1)
    | .getfield k => (zm_FL.contains (q.2.2.2.2.1, k, a, b, 0) || zm_FL.contains (q.2.2.2.2.1, k, a, b, 1)) && decide (a < 13) && decide (b < zm_fn a) && (if zm_fk a b = 2 then decide (cs.length = 1) else decide (cs.length = 0))
    | .putfield k => (zm_FL.contains (q.2.2.2.2.1, k, a, b, 0) || zm_FL.contains (q.2.2.2.2.1, k, a, b, 1)) && decide (a < 13) && decide (b < zm_fn a) && !(zm_ff a b) && (if zm_fk a b = 2 then decide (cs.length = 1) else if zm_fk a b = 1 then decide (cs.length = 2) else decide (cs.length = 0))
    | .invokevirtual k => (zm_ML.contains (q.2.2.2.2.1, k, a, 0) || zm_ML.contains (q.2.2.2.2.1, k, a, 1)) && decide (a < zm_MT.length) && decide ((zm_md a).2.2.2.2.2.1 = b) && !(zm_md a).2.2.2.2.2.2 && decide ((zm_md a).1.name ≠ "<init>") && decide (cs.map (fun z => z.2) = [(zm_md a).2.2.2.2.1]) && decide ((zm_md a).2.2.2.2.1 < 13)
    | .invokestatic k => match cs with
      | [] => (zm_ML.contains (q.2.2.2.2.1, k, a, 0) || zm_ML.contains (q.2.2.2.2.1, k, a, 1)) && decide (a < zm_MT.length) && decide ((zm_md a).2.2.2.2.2.1 = b) && (zm_md a).2.2.2.2.2.2
      | [_, _] => zm_MX.contains (q.2.2.2.2.1, k)
      | [_, _, _] => zm_MN.contains (q.2.2.2.2.1, k)
      | _ => zm_AC.contains (q.2.2.2.2.1, k)
    | .ireturn => if b = 0 then decide (q.2.2.2.1 = some .int) else decide (q.2.2.2.1 = some .boolean)
    | .areturn => match q.2.2.2.1 with | some (.object _) => true | _ => false
    | .return_ => decide (q.2.2.2.1 = none)
    | _ => true
def zm_ln : Instr → Nat
  | .bipush _ => 2
  | .sipush _ => 3
  | .ldc _ => 2
  | .ldc_w _ => 3
  | .iload _ => 2
  | .aload _ => 2
  | .istore _ => 2
  | .astore _ => 2
  | .iinc _ _ => 3
  | .goto _ => 3
  | .ifCond _ _ => 3
  | .if_icmp _ _ => 3
  | .ifnull _ => 3
  | .ifnonnull _ => 3
  | .getfield _ => 3
  | .putfield _ => 3
  | .invokevirtual _ => 3
  | .invokestatic _ => 3
  | .tableswitch _ _ _ _ => 0
  | .lookupswitch _ _ => 0
  | _ => 1
def zm_okL (q : zm_D) (fall : Nat) : Nat → List zm_O → Bool
  | pc, [] => decide (pc = fall)
  | pc, o :: r => match decode q.2.1 pc with
    | .ok (i, n) => decide (o.1 = pc) && decide (o.2.1 = i) && (decide (zm_ln i = 0) || decide (zm_ln i = n)) && zm_okI q o && zm_okL q fall (pc + n) r
    | _ => false
def zm_okG (q : zm_D) (g : List zm_B) : Bool := g.all (fun b => zm_okL q b.2.2 b.1 b.2.1)
