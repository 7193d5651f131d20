/-! THE CLAIM OUT OF ONE WALK OF THE LAW'S BODY. Your part is whole_start (and what it stands on); all else here is the same for every law, but numbers. -/
def R_law : String := "KeptSummariesLaw"
def lw_P (b : Addr) (xs : List Int32) (args : Array Value) (s : State) : Prop := args = #[.ref b] ∧ s.IntsAt b xs ∧ xs.length ≤ 3072 ∧ (Jvm.Cond.and given_1 narrow_1).before args s = true
def lw_Q (_ : Array Value) (s : State) (o : Outcome) (t : State) : Prop := o = .returned (some (.int 1)) ∧ Framed s o t [] 600000 7302250
def lw_Z (below : List Frame) (a : Array Value) (s : State) : State → Prop := fun t => ∃ o, t.status = .running ∧ Ended t below o ∧ lw_Q a s o t
/-- the law's own end, with 1 on the stack, nothing written that was there before, its room as the claim has it -/
theorem lw_ret {p : Program} {l : Launch} {e : Env} {s : State} {m : MethodId} {below : List Frame} {meth : Method} {c : Code} {b : Nat} (hx : p.tables.exec = Jvm.exec) (hb : c.code = code) (hr : meth.sig.returnType = ret) (hlocks : meth.locks = false) {pc : Nat} {H : Heap} {ls : Array Slot} (hdg : decode code pc = .ok (.ireturn, 1)) : W p l e room_1 s m #[Value.ref b] below meth c H [] 600000 7302250 (lw_Z below #[Value.ref b] s) (F0 m pc ls [.int 1]) := by
  intro T hT X
  obtain ⟨fs, hret, hrun, hended, hW, hframe⟩ := X.leave (v := some (.int 1)) (hlocks := hlocks) (fun h => by rw [hr] at h; cases h)
  have hmeth' : T.vm.method? m = some meth := X.method'
  refine ⟨T.setFrames fs, ?_, .returned (some (.int 1)), hrun, hended, rfl, ⟨_, rfl⟩, hW, hframe⟩
  jvm_step X.here [X.here.top, hx, hb, hdg, hmeth', hr, ret, narrow_b1]
  (try refine ⟨rfl, ?_⟩); (try refine ⟨rfl, ?_⟩)
  first | (intro acts; rw [hret _ acts rfl rfl rfl]) | rw [hret _ _ rfl rfl rfl]
  exact Steps.refl _
/-- what holds at the law's entry: the machine, the code, the tables' words (any of lw_tbl by 'hts w (by decide +kernel)'), the script of L ints xs at the cell b, what the Statement gives of the start (any of its parts by flat_of_before) -/
def lw_At (p : Program) (s : State) (m : MethodId) (meth : Method) (c : Code) (b L : Nat) (xs : Nat → Int32) : Prop :=
  p.tables.exec = Jvm.exec ∧ c.code = code ∧ meth.sig.returnType = ret ∧ c.maxLocals = 4 ∧ s.vm.findClass R_law = some m.cls ∧ (∀ w ∈ lw_tbl, w.before #[Value.ref b] s = true) ∧ va_X b L xs s s.heap ∧ b < s.heap.size ∧ meth.locks = false ∧ (Jvm.Cond.and given_1 narrow_1).before #[Value.ref b] s = true
/-! the law: what it stands on -/
def yl_A (s : State) : Nat → Prop := fun q => s.heap.size ≤ q
def yl_X (p : Program) (s : State) (m : MethodId) (meth : Method) (c : Code) (bs L : Nat) (xs : Nat → Int32) (D : va_G) (G : zm_G) : Prop := lw_At p s m meth c bs L xs ∧ va_K D vwCl (zm_tys G) s ∧ zm_N s ∧ va_AO RX8 s
def yl_vs (xs : Nat → Int32) (i : Nat) : Nat → List Int32
  | 0 => []
  | n + 1 => yl_vs xs i n ++ [xs (i + (n + 1))]
/-- an int of the script comes onto the stack: five instructions -/
def yl_okA (pc k : Nat) : Bool := decide (decode code pc = .ok (.aload_n 0, 1)) && decide (decode code (pc + 1) = .ok (.iload_n 3, 1)) && decide (decode code (pc + 2) = .ok (.iconst (k : Int), 1)) && decide (decode code (pc + 3) = .ok (.iadd, 1)) && decide (decode code (pc + 4) = .ok (.iaload, 1)) && decide (Int32.ofInt (k : Int) = nI k)
theorem yl_all {n : Nat} {f : Nat → Bool} (h : (List.range n).all f = true) : ∀ t, t < n → f t = true := fun t ht => List.all_eq_true.mp h t (List.mem_range.mpr ht)
section YL
variable {p : Program} {l : Launch} {e : Env} {s : State} {m : MethodId} {below : List Frame} {meth : Method} {c : Code} {H : Heap} {locs : List Loc} {Q : State → Prop} {bs L : Nat} {xs : Nat → Int32} {D : va_G} {G : zm_G} {cells slots : Nat}
theorem yl_arg {pc i k q1 q2 : Nat} {lr : Array Slot} {st : List Value} (C : yl_X p s m meth c bs L xs D G) (hS : va_S (yl_A s) s.heap H locs) (hl : lv_has lr 4 [(0, .ref bs), (1, .ref q1), (2, .ref q2), (3, .int (nI i))]) (hd : yl_okA pc k = true) (hik : i + k < L) (hL : L ≤ 3072) (kk : W p l e room_1 s m #[.ref bs] below meth c H locs cells slots Q (F0 m (pc + 5) lr (.int (xs (i + k)) :: st))) : W p l e room_1 s m #[.ref bs] below meth c H locs cells slots Q (F0 m pc lr st) := by
  obtain ⟨⟨hx, hb, hr, hml, hown, hts, hX, hbl, hlocks, hgv⟩, hKK, hN, hO⟩ := C
  simp only [yl_okA, Bool.and_eq_true, decide_eq_true_eq] at hd
  obtain ⟨⟨⟨⟨⟨d0, d1⟩, d2⟩, d3⟩, d4⟩, d5⟩ := hd
  refine lv_aload_n hx hb d0 rfl (lv_at hl 0 rfl) ?_
  refine lv_iload_n hx hb d1 rfl (lv_at hl 3 rfl) ?_
  refine lv_iconst hx hb d2 d5 ?_
  refine lv_iadd hx hb d3 ?_
  rw [nI_add]
  refine va_sld (A := yl_A s) hx hb hX hbl (Nat.not_le.mpr hbl) hS (vp_in_nI hik (by omega)) d4 ?_
  rw [nI_clamp (by omega)]
  exact kk
theorem yl_args {pc i q1 q2 : Nat} {lr : Array Slot} {st : List Value} (C : yl_X p s m meth c bs L xs D G) (hS : va_S (yl_A s) s.heap H locs) (hl : lv_has lr 4 [(0, .ref bs), (1, .ref q1), (2, .ref q2), (3, .int (nI i))]) (hL : L ≤ 3072) : ∀ n : Nat, (∀ t, t < n → yl_okA (pc + 5 * t) (t + 1) = true) → i + n < L → W p l e room_1 s m #[.ref bs] below meth c H locs cells slots Q (F0 m (pc + 5 * n) lr (((yl_vs xs i n).map Value.int).reverse ++ st)) → W p l e room_1 s m #[.ref bs] below meth c H locs cells slots Q (F0 m pc lr st)
  | 0, _, _, kk => kk
  | n + 1, ho, hi, kk => by
    refine yl_args C hS hl hL n (fun t ht => ho t (by omega)) (by omega) ?_
    refine yl_arg (pc := pc + 5 * n) (i := i) (k := n + 1) C hS hl (ho n (by omega)) hi hL ?_
    refine W.eq ?_ kk
    simp [yl_vs, Nat.mul_add, Nat.add_assoc]
set_option maxHeartbeats 4000000 in
/-- a call of a method that makes no cell -/
theorem yl_call {pc d k j cl qq : Nat} {As : List zm_V} {rest : List Value} {lr : Array Slot} {h : zm_M} {R : zm_R} (C : yl_X p s m meth c bs L xs D G) (hS : va_S (yl_A s) s.heap H locs) (hlr : lr.size = 4) (hP : va_P D vwCl (yi_w G s.heap.size 171 h) H) (hd : decode code pc = .ok (.invokevirtual k, 3)) (hj : j < zm_MT.length) (hok : (zm_md j).2.2.2.2.2.1 = As.length ∧ (zm_md j).2.2.2.2.2.2 = false ∧ (zm_md j).1.name ≠ "<init>" ∧ (zm_md j).2.2.2.2.1 = cl ∧ cl < 13) (hlk : Cond.methodLink R_law k (zm_md j).1 ∈ lw_tbl) (hrc : (zm_sh TT qq).1 = cl + 3) (hr8 : (rest.map fun v => v.category).sum ≤ 8) (hd2 : d ≤ 1000) (hfit : cells ≤ 600000 ∧ slots ≤ 7302250) (hc : zm_C d TT j (.inr (some qq) :: As) h R)
    (kk : ∀ (r : Option zm_V) (h' : zm_M) (H1 : Heap) (locs1 : List Loc), R r h' → va_P D vwCl (yi_w G s.heap.size 171 h') H1 → va_S (yl_A s) s.heap H1 locs1 → W p l e room_1 s m #[.ref bs] below meth c H1 locs1 cells slots Q (F0 m (pc + 3) lr ((r.map (zm_v (yi_ad s.heap.size))).toList ++ rest))) : W p l e room_1 s m #[.ref bs] below meth c H locs cells slots Q (F0 m pc lr ((As.map (zm_v (yi_ad s.heap.size))).reverse ++ .ref (yi_ad s.heap.size qq) :: rest)) := by
  obtain ⟨⟨hx, hb, hr, hml, hown, hts, hX, hbl, hlocks, hgv⟩, hKK, hN, hO⟩ := C
  have hTT : TT.take 171 = TT := List.take_of_length_le (by rw [yi_TT]; exact Nat.le_refl _)
  have hD : va_D (yl_A s) (yi_w G s.heap.size 171 h) := yi_D (Nat.le_refl _) (fun a _ => Nat.le_add_right _ _)
  unfold yi_w at hP hD kk
  rw [hTT] at hP hD kk
  obtain ⟨hnp, hst, hni, hcl, hcc⟩ := hok
  obtain ⟨hmd, hmp⟩ := zm_okD_at hj
  simp only [zm_okD, Bool.and_eq_true, decide_eq_true_eq] at hmd
  obtain ⟨⟨⟨⟨hne, hpar⟩, -⟩, hmax⟩, hmc⟩ := hmd
  obtain ⟨hwc, hwi, -, hwv⟩ := hmp
  obtain ⟨hwv1, hwv2⟩ := hwv hst
  have hwv2 := hwv2.resolve_left hni
  obtain ⟨d0, R0, hd0, hR0, hM⟩ := hc
  have hM := hM l D G (yi_ad s.heap.size) H.size
  have he := zm_w_at (G := G) (ad := yi_ad s.heap.size) (T := TT) (h := h) (zm_lt (a := qq) (by rw [hrc]; omega))
  rw [zm_e_obj hrc] at he
  have hrv := va_recv hKK hP (zm_cl_at _ hcc) he
  rw [← hcl, ← hmc] at hrv
  have hpre : PreV s H (zm_md j).1.cls (yi_ad s.heap.size qq) (va_Pc ((.inr (some qq) :: As : List zm_V).map (zm_v (yi_ad s.heap.size))) (zm_Pr D G (yi_ad s.heap.size) TT h H.size)) (As.map (zm_v (yi_ad s.heap.size))) := ⟨zm_blind, hrv, fun U hU hW => ⟨rfl, by rw [hU], by rw [hU]; exact hP, va_K.moved hW.alike hKK, hD.weaken (fun _ _ _ _ => trivial), hN.warm hW⟩⟩
  have hwd := zm_ws_good (q := zm_md j) (args := #[Value.ref bs]) (s := s) (fun w hw => hts w (List.mem_filter.mp hw).1) hwc
  have hfr : (zm_rm d0).frames + 1 ≤ room_1.frames := by show d0 + 1 + 1 ≤ 2048; omega
  have hlo : 8 + ((zm_md j).2.2.1 + 11) + (zm_rm d0).locals ≤ room_1.locals := by show 8 + ((zm_md j).2.2.1 + 11) + 64 * (d0 + 1) ≤ 84000; omega
  have hlen : (As.map (zm_v (yi_ad s.heap.size))).length = (zm_md j).2.2.2.2.2.1 := by rw [List.length_map, hnp]
  have hrun := va_runV (l := l) (e := e) (below := below) (meth := meth) (locs := locs) (cells := cells) (slots := slots) (R := room_1) (rest := rest) (g := F0 m pc lr ((As.map (zm_v (yi_ad s.heap.size))).reverse ++ .ref (yi_ad s.heap.size qq) :: rest)) ⟨hx, hb, hml, hown, hts⟩ hM ⟨⟨rfl, rfl, hfr, hlo, hwd, List.mem_cons_self, hts _ hwc, hts _ hwi, hne, zm_params hpar, hts _ hlk⟩, hts _ hwv1, hts _ hwv2⟩ hpre rfl hlen hlr rfl (lv_room hr8) hd hfit
  refine yi_cal0 hrun hD hS (fun _ z => z) (fun w h' H1 locs1 hRw hP1 hS1 => ?_)
  exact kk w h' H1 locs1 (hR0 _ _ hRw) hP1 hS1
set_option maxHeartbeats 4000000 in
theorem yl_new {pc n k c2 : Nat} {st : List Value} {lr : Array Slot} {h : zm_M} (C : yl_X p s m meth c bs L xs D G) (hS : va_S (yl_A s) s.heap H locs) (hP : va_P D vwCl (yi_w G s.heap.size n h) H) (hz : H.size = s.heap.size + n) (hd : decode code pc = .ok (.new k, 3)) (hlk : Cond.classLink R_law k (zm_cn c2) ∈ lw_tbl) (hI : Cond.instantiable (zm_cn c2) (zm_fn c2) ∈ lw_tbl) (hT : Cond.initialized (zm_cn c2) ∈ lw_tbl) (hc : c2 < 13) (hsh : zm_sh TT n = (c2 + 3, 0)) (hn : n < 171) (hcells : cells + 1 ≤ 600000) (hslots : slots + zm_fn c2 ≤ 7302250)
    (kk : ∀ H1 : Heap, H1.size = s.heap.size + (n + 1) → va_P D vwCl (yi_w G s.heap.size (n + 1) (yi_nw h n)) H1 → va_S (yl_A s) s.heap H1 locs → W p l e room_1 s m #[.ref bs] below meth c H1 locs (cells + 1) (slots + zm_fn c2) Q (F0 m (pc + 3) lr (.ref (s.heap.size + n) :: st))) : W p l e room_1 s m #[.ref bs] below meth c H locs cells slots Q (F0 m pc lr st) := by
  obtain ⟨⟨hx, hb, hr, hml, hown, hts, hX, hbl, hlocks, hgv⟩, hKK, hN, hO⟩ := C
  have hD : va_D (yl_A s) (yi_w G s.heap.size n h) := yi_D (by omega) (fun a _ => Nat.le_add_right _ _)
  have hKn := hKK.1 c2 _ (zm_cl_at c2 hc)
  refine W.newcK hx hb hown (hts _ hlk) (hts _ hI) (hts _ hT) rfl hd hcells hslots hKn.2.1 hz (fun H1 kC hkC e1 z1 o1 => ?_)
  obtain ⟨hP1, hD1, hS1⟩ := yi_more (D := D) (G := G) (b := s.heap.size) (A := yl_A s) (H := H) (H1 := H1) (H0 := s.heap) (locs := locs) (h := h) hn hz (by rw [z1, hz]) (by rw [hz]; exact o1) (fun _ z => z) hP hD hS (by
    rw [hsh, zm_e_obj (c := c2) rfl]
    exact ⟨_, zm_cl_at c2 hc, (u_born (zm_ty c2) (ws := lw_tbl) hts (fun w hw => (List.mem_filter.mp (zm_uin hc w hw)).1) hKn hkC e1 (fun k hk => ((zm_fields_at hc).2 k hk).1)).to (fun j hj => yi_dv hc hj _ n h)⟩)
  exact kk H1 z1 hP1 hS1
set_option maxHeartbeats 4000000 in
theorem yl_ini {pc d n n' k j qq : Nat} {rest : List Value} {lr : Array Slot} {h : zm_M} {R : zm_M → Prop} (C : yl_X p s m meth c bs L xs D G) (hS : va_S (yl_A s) s.heap H locs) (hP : va_P D vwCl (yi_w G s.heap.size n h) H) (hz : H.size = s.heap.size + n) (hlr : lr.size = 4) (hd : decode code pc = .ok (.invokespecial k, 3)) (hj : j < zm_MT.length) (hok : (zm_md j).2.2.2.2.2.1 = 0 ∧ (zm_md j).2.2.2.2.2.2 = false ∧ (zm_md j).1.name = "<init>" ∧ (zm_md j).2.2.2.1 = none) (hlk : Cond.methodLink R_law k (zm_md j).1 ∈ lw_tbl) (hr8 : (rest.map fun v => v.category).sum ≤ 8) (hd2 : d ≤ 1000) (hn : n ≤ n') (hn' : n' ≤ 171) (hfit : cells + (n' - n) ≤ 600000 ∧ slots + (yi_S n' - yi_S n) ≤ 7302250) (hc : yi_C d j n n' [.inr (some qq)] h R)
    (kk : ∀ (h' : zm_M) (H1 : Heap) (locs1 : List Loc), R h' → va_P D vwCl (yi_w G s.heap.size n' h') H1 → va_S (yl_A s) s.heap H1 locs1 → W p l e room_1 s m #[.ref bs] below meth c H1 locs1 (cells + (n' - n)) (slots + (yi_S n' - yi_S n)) Q (F0 m (pc + 3) lr rest)) : W p l e room_1 s m #[.ref bs] below meth c H locs cells slots Q (F0 m pc lr (.ref (yi_ad s.heap.size qq) :: rest)) := by
  obtain ⟨⟨hx, hb, hr, hml, hown, hts, hX, hbl, hlocks, hgv⟩, hKK, hN, hO⟩ := C
  have hD : va_D (yl_A s) (yi_w G s.heap.size n h) := yi_D (by omega) (fun a _ => Nat.le_add_right _ _)
  obtain ⟨hnp, hst, hni, hret⟩ := hok
  obtain ⟨hmd, hmp⟩ := zm_okD_at hj
  simp only [zm_okD, Bool.and_eq_true, decide_eq_true_eq] at hmd
  obtain ⟨⟨⟨⟨hne, hpar⟩, -⟩, hmax⟩, hmc⟩ := hmd
  obtain ⟨hwc, hwi, -, hwv⟩ := hmp
  obtain ⟨hwv1, -⟩ := hwv hst
  have hM := hc l D G s.heap.size
  have hwd := zm_ws_good (q := zm_md j) (args := #[Value.ref bs]) (s := s) (fun w hw => hts w (List.mem_filter.mp hw).1) hwc
  rw [hret] at hwc
  have hmem : Cond.code (zm_md j).1 (zm_md j).2.1 (zm_md j).2.2.1 none ∈ zm_ws (zm_md j) := by
    unfold zm_ws
    rw [hret]
    exact List.mem_cons_self
  have hpre : PreS s H (va_Pc (([.inr (some qq)] : List zm_V).map (zm_v (yi_ad s.heap.size))) (yi_Pr D G s.heap.size n h)) (.ref (yi_ad s.heap.size qq) :: []) := ⟨yi_blind, fun U hU hW => ⟨rfl, by rw [hU]; exact hz, by rw [hU]; exact hP, va_K.moved hW.alike hKK, hD.weaken (fun _ _ _ _ => trivial), hN.warm hW, hO.moved hW.alike⟩⟩
  have hfr : (yi_rm d n n').frames + 1 ≤ room_1.frames := by show d + 1 + 1 ≤ 2048; omega
  have hlo : 8 + ((zm_md j).2.2.1 + 11) + (yi_rm d n n').locals ≤ room_1.locals := by show 8 + ((zm_md j).2.2.1 + 11) + 64 * (d + 1) ≤ 84000; omega
  have hrun := va_runI (l := l) (e := e) (below := below) (meth := meth) (locs := locs) (cells := cells) (slots := slots) (R := room_1) (As := []) (rest := rest) (g := F0 m pc lr (.ref (yi_ad s.heap.size qq) :: rest)) ⟨hx, hb, hml, hown, hts⟩ hM ⟨⟨rfl, rfl, hfr, hlo, hwd, hmem, hts _ hwc, hts _ hwi, hne, zm_params hpar, hts _ hlk⟩, hni, hts _ hwv1⟩ hpre rfl hnp.symm hlr rfl (lv_room hr8) hd hfit
  exact yi_call hrun hz hD hS (fun _ z => z) kk
end YL
