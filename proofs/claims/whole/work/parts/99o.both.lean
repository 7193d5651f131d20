/-! both, call by call -/
theorem yb_fact {d cn : Nat} {h : zm_M} {a b c m : Int32} (hI : yb_I cn h) (hc : cn < 10000) : yb_B d cn m_KS_fact m_Mo_fact [.inl a, .inl b, .inl c, .inl m] h := by
  obtain ⟨pi, w, F, sp, U, Q, B, L, x0, K, hC, hO⟩ := hI
  refine yb_up (k := 7) (k_KS_fact (d := d) hC (fun h1 o1 hC1 => ⟨_, rfl, ?_⟩)) (by decide)
  exact yb_up (k := 5) (k_Mo_fact (d := d) (zOO_own o1 hO) (fun h2 o2 hO2 => ⟨rfl, _, _, _, _, _, _, _, _, _, _, zCC_own o2 hC1, zOO_mono hO2 (by omega)⟩)) (by decide)
theorem yb_draws {d cn : Nat} {h : zm_M} {n : Int32} (hI : yb_I cn h) (hc : cn < 10000) : yb_B d cn m_KS_draws m_Mo_draws [.inl n] h := by
  obtain ⟨pi, w, F, sp, U, Q, B, L, x0, K, hC, hO⟩ := hI
  refine yb_up (k := 7) (k_KS_draws (d := d) hC (fun h1 o1 hC1 => ⟨_, rfl, ?_⟩)) (by decide)
  exact yb_up (k := 5) (k_Mo_draws (d := d) (zOO_own o1 hO) (fun h2 o2 hO2 => ⟨rfl, _, _, _, _, _, _, _, _, _, _, zCC_own o2 hC1, zOO_mono hO2 (by omega)⟩)) (by decide)
theorem yb_feed {d cn : Nat} {h : zm_M} {v1 v2 v3 v4 v5 : Int32} (hI : yb_I cn h) (hc : cn < 10000) : yb_B d cn m_KS_feed m_Mo_feed [.inl v1, .inl v2, .inl v3, .inl v4, .inl v5] h := by
  obtain ⟨pi, w, F, sp, U, Q, B, L, x0, K, hC, hO⟩ := hI
  refine yb_up (k := 2) (k_KS_feed (d := d) hC (fun h1 o1 hC1 => ⟨_, rfl, ?_⟩)) (by decide)
  exact yb_up (k := 2) (k_Mo_feed (d := d) (zOO_own o1 hO) (fun h2 o2 hO2 => ⟨rfl, _, _, _, _, _, _, _, _, _, _, zCC_own o2 hC1, zOO_mono hO2 (by omega)⟩)) (by decide)
theorem yb_law {d cn : Nat} {h : zm_M} {v : Int32} (hI : yb_I cn h) (hc : cn < 10000) : yb_B d cn m_KS_law m_Mo_law [.inl v] h := by
  obtain ⟨pi, w, F, sp, U, Q, B, L, x0, K, hC, hO⟩ := hI
  refine yb_up (k := 20) (k_KS_law (d := d) hC (fun h1 _ o1 hC1 => ⟨_, rfl, ?_⟩)) (by decide)
  exact yb_up (k := 9) (k_Mo_law (d := d) (zOO_own o1 hO) (fun h2 o2 hO2 => ⟨rfl, _, _, _, _, _, _, _, _, _, _, zCC_own o2 hC1, zOO_mono hO2 (by omega)⟩)) (by decide)
theorem yb_shape {d cn : Nat} {h : zm_M} {v : Int32} (hI : yb_I cn h) (hc : cn < 10000) : yb_B d cn m_KS_shape m_Mo_shape [.inl v] h := by
  obtain ⟨pi, w, F, sp, U, Q, B, L, x0, K, hC, hO⟩ := hI
  refine yb_up (k := 5) (k_KS_shape (d := d) hC (fun h1 o1 hC1 => ⟨_, rfl, ?_⟩)) (by decide)
  exact yb_up (k := 4) (k_Mo_shape (d := d) (zOO_own o1 hO) (fun h2 o2 hO2 => ⟨rfl, _, _, _, _, _, _, _, _, _, _, zCC_own o2 hC1, zOO_mono hO2 (by omega)⟩)) (by decide)
theorem yb_summary {d cn : Nat} {h : zm_M} {v : Int32} (hI : yb_I cn h) (hc : cn < 10000) : yb_B d cn m_KS_summary m_Mo_summary [.inl v] h := by
  obtain ⟨pi, w, F, sp, U, Q, B, L, x0, K, hC, hO⟩ := hI
  refine yb_up (k := 7) (k_KS_summary (d := d) hC (fun h1 o1 hC1 => ⟨_, rfl, ?_⟩)) (by decide)
  exact yb_up (k := 7) (k_Mo_summary (d := d) (zOO_own o1 hO) (fun h2 o2 hO2 => ⟨rfl, _, _, _, _, _, _, _, _, _, _, zCC_own o2 hC1, zOO_mono hO2 (by omega)⟩)) (by decide)
theorem yb_question {d cn : Nat} {h : zm_M} {v : Int32} (hI : yb_I cn h) (hc : cn < 10000) : yb_B d cn m_KS_question m_Mo_question [.inl v] h := by
  obtain ⟨pi, w, F, sp, U, Q, B, L, x0, K, hC, hO⟩ := hI
  refine yb_up (k := 7) (k_KS_question (d := d) hC (fun h1 o1 hC1 => ⟨_, rfl, ?_⟩)) (by decide)
  exact yb_up (k := 8) (k_Mo_question (d := d) (zOO_own o1 hO) (fun h2 o2 hO2 => ⟨rfl, _, _, _, _, _, _, _, _, _, _, zCC_own o2 hC1, zOO_mono hO2 (by omega)⟩)) (by decide)
theorem yb_renew {d cn : Nat} {h : zm_M} {v : Int32} (hI : yb_I cn h) (hc : cn < 10000) : yb_B d cn m_KS_renew m_Mo_renew [.inl v] h := by
  obtain ⟨pi, w, F, sp, U, Q, B, L, x0, K, hC, hO⟩ := hI
  refine yb_up (k := 6) (k_KS_renew (d := d) hC (fun h1 o1 hC1 => ⟨_, rfl, ?_⟩)) (by decide)
  exact yb_up (k := 3) (k_Mo_renew (d := d) (zOO_own o1 hO) (fun h2 o2 hO2 => ⟨rfl, _, _, _, _, _, _, _, _, _, _, zCC_own o2 hC1, zOO_mono hO2 (by omega)⟩)) (by decide)
theorem yb_drop {d cn : Nat} {h : zm_M} {v : Int32} (hI : yb_I cn h) (hc : cn < 10000) : yb_B d cn m_KS_drop m_Mo_drop [.inl v] h := by
  obtain ⟨pi, w, F, sp, U, Q, B, L, x0, K, hC, hO⟩ := hI
  refine yb_up (k := 3) (k_KS_drop (d := d) hC (fun h1 _ o1 hC1 => ⟨_, rfl, ?_⟩)) (by decide)
  exact yb_up (k := 3) (k_Mo_drop (d := d) (zOO_own o1 hO) (fun h2 o2 hO2 => ⟨rfl, _, _, _, _, _, _, _, _, _, _, zCC_own o2 hC1, zOO_mono hO2 (by omega)⟩)) (by decide)
theorem yb_coarse {d cn : Nat} {h : zm_M} {x y : Int32} (hI : yb_I cn h) (hc : cn < 10000) : yb_B d cn m_KS_coarse m_Mo_coarse [.inl x, .inl y] h := by
  obtain ⟨pi, w, F, sp, U, Q, B, L, x0, K, hC, hO⟩ := hI
  refine yb_up (k := 3) (k_KS_coarse (d := d) hC.1 ⟨_, rfl, ?_⟩) (by decide)
  exact yb_up (k := 3) (k_Mo_coarse (d := d) hO.1 ⟨rfl, _, _, _, _, _, _, _, _, _, _, hC, zOO_mono hO (by omega)⟩) (by decide)
theorem yb_factIs {d cn : Nat} {h : zm_M} {x y : Int32} (hI : yb_I cn h) (hc : cn < 10000) : yb_B d cn m_KS_factIs m_Mo_factIs [.inl x, .inl y] h := by
  obtain ⟨pi, w, F, sp, U, Q, B, L, x0, K, hC, hO⟩ := hI
  refine yb_up (k := 2) (k_KS_factIs (d := d) hC.1 ⟨_, rfl, ?_⟩) (by decide)
  exact yb_up (k := 2) (k_Mo_factIs (d := d) hO.1 ⟨rfl, _, _, _, _, _, _, _, _, _, _, hC, zOO_mono hO (by omega)⟩) (by decide)
theorem yb_summaryIs {d cn : Nat} {h : zm_M} {x y : Int32} (hI : yb_I cn h) (hc : cn < 10000) : yb_B d cn m_KS_summaryIs m_Mo_summaryIs [.inl x, .inl y] h := by
  obtain ⟨pi, w, F, sp, U, Q, B, L, x0, K, hC, hO⟩ := hI
  refine yb_up (k := 3) (k_KS_summaryIs (d := d) hC.1 ⟨_, rfl, ?_⟩) (by decide)
  exact yb_up (k := 7) (k_Mo_summaryIs (d := d) hO.1 (fun h2 f2 => ⟨rfl, _, _, _, _, _, _, _, _, _, _, zCC_own f2.own hC, zOO_mono (zOO_fr f2 hO) (by omega)⟩)) (by decide)
theorem yb_group {d cn : Nat} {h : zm_M} {x i y : Int32} (hI : yb_I cn h) (hc : cn < 10000) : yb_B d cn m_KS_group m_Mo_group [.inl x, .inl i, .inl y] h := by
  obtain ⟨pi, w, F, sp, U, Q, B, L, x0, K, hC, hO⟩ := hI
  refine yb_up (k := 6) (k_KS_group (d := d) hC.1 (fun h1 f1 => ⟨_, rfl, ?_⟩)) (by decide)
  exact yb_up (k := 6) (k_Mo_group (d := d) (zOO_own f1.own hO).1 (fun h2 f2 => ⟨rfl, _, _, _, _, _, _, _, _, _, _, zCC_own f2.own (zCC_fr f1 hC), zOO_mono (zOO_fr f2 (zOO_own f1.own hO)) (by omega)⟩)) (by decide)
theorem yb_questionIs {d cn : Nat} {h : zm_M} {y : Int32} (hI : yb_I cn h) (hc : cn < 10000) : yb_B d cn m_KS_questionIs m_Mo_questionIs [.inl y] h := by
  obtain ⟨pi, w, F, sp, U, Q, B, L, x0, K, hC, hO⟩ := hI
  refine yb_up (k := 3) (k_KS_questionIs (d := d) hC.1 ⟨_, rfl, ?_⟩) (by decide)
  exact yb_up (k := 2) (k_Mo_questionIs (d := d) hO.1 ⟨rfl, _, _, _, _, _, _, _, _, _, _, hC, zOO_mono hO (by omega)⟩) (by decide)
theorem yb_covers {d cn : Nat} {h : zm_M} {x : Int32} (hI : yb_I cn h) (hc : cn < 10000) : yb_B d cn m_KS_covers m_Mo_covers [.inl x] h := by
  obtain ⟨pi, w, F, sp, U, Q, B, L, x0, K, hC, hO⟩ := hI
  refine yb_up (k := 7) (k_KS_covers (d := d) hC.1 ⟨_, rfl, ?_⟩) (by decide)
  exact yb_up (k := 6) (k_Mo_covers (d := d) hO.1 ⟨rfl, _, _, _, _, _, _, _, _, _, _, hC, zOO_mono hO (by omega)⟩) (by decide)
theorem yb_coverIs {d cn : Nat} {h : zm_M} {x y : Int32} (hI : yb_I cn h) (hc : cn < 10000) : yb_B d cn m_KS_coverIs m_Mo_coverIs [.inl x, .inl y] h := by
  obtain ⟨pi, w, F, sp, U, Q, B, L, x0, K, hC, hO⟩ := hI
  refine yb_up (k := 7) (k_KS_coverIs (d := d) hC.1 (fun h1 f1 => ⟨_, rfl, ?_⟩)) (by decide)
  exact yb_up (k := 6) (k_Mo_coverIs (d := d) (zOO_own f1.own hO).1 (fun h2 f2 => ⟨rfl, _, _, _, _, _, _, _, _, _, _, zCC_own f2.own (zCC_fr f1 hC), zOO_mono (zOO_fr f2 (zOO_own f1.own hO)) (by omega)⟩)) (by decide)
theorem yb_way {d cn : Nat} {h : zm_M} {y : Int32} (hI : yb_I cn h) (hc : cn < 10000) : yb_B d cn m_KS_way m_Mo_way [.inl y] h := by
  obtain ⟨pi, w, F, sp, U, Q, B, L, x0, K, hC, hO⟩ := hI
  refine yb_up (k := 8) (k_KS_way (d := d) hC.1 ⟨_, rfl, ?_⟩) (by decide)
  exact yb_up (k := 8) (k_Mo_way (d := d) hO.1 (fun h2 f2 => ⟨rfl, _, _, _, _, _, _, _, _, _, _, zCC_own f2.own hC, zOO_mono (zOO_fr f2 hO) (by omega)⟩)) (by decide)
theorem yb_answer {d cn : Nat} {h : zm_M} {i y : Int32} (hI : yb_I cn h) (hc : cn < 10000) : yb_B d cn m_KS_answer m_Mo_answer [.inl i, .inl y] h := by
  obtain ⟨pi, w, F, sp, U, Q, B, L, x0, K, hC, hO⟩ := hI
  refine yb_up (k := 8) (k_KS_answer (d := d) hC.1 (fun h1 f1 => ⟨_, rfl, ?_⟩)) (by decide)
  exact yb_up (k := 9) (k_Mo_answer (d := d) (zOO_own f1.own hO).1 (fun h2 f2 => ⟨rfl, _, _, _, _, _, _, _, _, _, _, zCC_own f2.own (zCC_fr f1 hC), zOO_mono (zOO_fr f2 (zOO_own f1.own hO)) (by omega)⟩)) (by decide)
theorem yb_ranked {d cn : Nat} {h : zm_M} {i y : Int32} (hI : yb_I cn h) (hc : cn < 10000) : yb_B d cn m_KS_ranked m_Mo_ranked [.inl i, .inl y] h := by
  obtain ⟨pi, w, F, sp, U, Q, B, L, x0, K, hC, hO⟩ := hI
  refine yb_up (k := 8) (k_KS_ranked (d := d) hC.1 (fun h1 f1 => ⟨_, rfl, ?_⟩)) (by decide)
  exact yb_up (k := 9) (k_Mo_ranked (d := d) (zOO_own f1.own hO).1 (fun h2 f2 => ⟨rfl, _, _, _, _, _, _, _, _, _, _, zCC_own f2.own (zCC_fr f1 hC), zOO_mono (zOO_fr f2 (zOO_own f1.own hO)) (by omega)⟩)) (by decide)
theorem yb_answerBy {d cn : Nat} {h : zm_M} {x i y : Int32} (hI : yb_I cn h) (hc : cn < 10000) : yb_B d cn m_KS_answerBy m_Mo_answerBy [.inl x, .inl i, .inl y] h := by
  obtain ⟨pi, w, F, sp, U, Q, B, L, x0, K, hC, hO⟩ := hI
  refine yb_up (k := 8) (k_KS_answerBy (d := d) hC.1 (fun h1 f1 => ⟨_, rfl, ?_⟩)) (by decide)
  exact yb_up (k := 9) (k_Mo_answerBy (d := d) (zOO_own f1.own hO).1 (fun h2 f2 => ⟨rfl, _, _, _, _, _, _, _, _, _, _, zCC_own f2.own (zCC_fr f1 hC), zOO_mono (zOO_fr f2 (zOO_own f1.own hO)) (by omega)⟩)) (by decide)
theorem yb_unlike {d cn : Nat} {h : zm_M} {x : Int32} (hI : yb_I cn h) (hc : cn < 10000) : yb_B d cn m_KS_unlike m_Mo_unlike [.inl x] h := by
  obtain ⟨pi, w, F, sp, U, Q, B, L, x0, K, hC, hO⟩ := hI
  refine yb_up (k := 7) (k_KS_unlike (d := d) hC.1 (fun h1 f1 => ⟨_, rfl, ?_⟩)) (by decide)
  exact yb_up (k := 9) (k_Mo_unlike (d := d) (zOO_own f1.own hO).1 (fun h2 f2 => ⟨rfl, _, _, _, _, _, _, _, _, _, _, zCC_own f2.own (zCC_fr f1 hC), zOO_mono (zOO_fr f2 (zOO_own f1.own hO)) (by omega)⟩)) (by decide)
theorem yb_node {d cn : Nat} {h : zm_M} {x : Int32} (hI : yb_I cn h) (hc : cn < 10000) : yb_B d cn m_KS_node m_Mo_node [.inl x] h := by
  obtain ⟨pi, w, F, sp, U, Q, B, L, x0, K, hC, hO⟩ := hI
  refine yb_up (k := 5) (k_KS_node (d := d) hC.1 (fun h1 f1 => ⟨_, rfl, ?_⟩)) (by decide)
  exact yb_up (k := 5) (k_Mo_node (d := d) (zOO_own f1.own hO).1 (fun h2 f2 => ⟨rfl, _, _, _, _, _, _, _, _, _, _, zCC_own f2.own (zCC_fr f1 hC), zOO_mono (zOO_fr f2 (zOO_own f1.own hO)) (by omega)⟩)) (by decide)
theorem yb_below {d cn : Nat} {h : zm_M} {x y : Int32} (hI : yb_I cn h) (hc : cn < 10000) : yb_B d cn m_KS_below m_Mo_below [.inl x, .inl y] h := by
  obtain ⟨pi, w, F, sp, U, Q, B, L, x0, K, hC, hO⟩ := hI
  refine yb_up (k := 5) (k_KS_below (d := d) hC.1 hC.2.1 ⟨_, rfl, ?_⟩) (by decide)
  exact yb_up (k := 5) (k_Mo_below (d := d) ⟨rfl, _, _, _, _, _, _, _, _, _, _, hC, zOO_mono hO (by omega)⟩) (by decide)
theorem yb_price {d cn : Nat} {h : zm_M} {x : Int32} (hI : yb_I cn h) (hc : cn < 10000) : yb_B d cn m_KS_price m_Mo_price [.inl x] h := by
  obtain ⟨pi, w, F, sp, U, Q, B, L, x0, K, hC, hO⟩ := hI
  refine yb_up (k := 5) (k_KS_price (d := d) hC.1 hC.2.1 (fun h1 f1 => ⟨_, rfl, ?_⟩)) (by decide)
  exact yb_up (k := 6) (k_Mo_price (d := d) (zOO_own f1.own hO).1 (fun h2 f2 => ⟨rfl, _, _, _, _, _, _, _, _, _, _, zCC_own f2.own (zCC_fr f1 hC), zOO_mono (zOO_fr f2 (zOO_own f1.own hO)) (by omega)⟩)) (by decide)
theorem yb_greedy {d cn : Nat} {h : zm_M} {x y : Int32} (hI : yb_I cn h) (hc : cn < 10000) : yb_B d cn m_KS_greedy m_Mo_greedy [.inl x, .inl y] h := by
  obtain ⟨pi, w, F, sp, U, Q, B, L, x0, K, hC, hO⟩ := hI
  refine yb_up (k := 6) (k_KS_greedy (d := d) hC.1 hC.2.1 (fun h1 f1 => ⟨_, rfl, ?_⟩)) (by decide)
  exact yb_up (k := 6) (k_Mo_greedy (d := d) (zOO_own f1.own hO).1 (fun h2 f2 => ⟨rfl, _, _, _, _, _, _, _, _, _, _, zCC_own f2.own (zCC_fr f1 hC), zOO_mono (zOO_fr f2 (zOO_own f1.own hO)) (by omega)⟩)) (by decide)
theorem yb_best {d cn : Nat} {h : zm_M} {x y : Int32} (hI : yb_I cn h) (hc : cn < 10000) : yb_B d cn m_KS_best m_Mo_best [.inl x, .inl y] h := by
  obtain ⟨pi, w, F, sp, U, Q, B, L, x0, K, hC, hO⟩ := hI
  refine yb_up (k := 6) (k_KS_best (d := d) hC.1 hC.2.1 (fun h1 f1 => ⟨_, rfl, ?_⟩)) (by decide)
  exact yb_up (k := 6) (k_Mo_best (d := d) (zOO_own f1.own hO).1 (fun h2 f2 => ⟨rfl, _, _, _, _, _, _, _, _, _, _, zCC_own f2.own (zCC_fr f1 hC), zOO_mono (zOO_fr f2 (zOO_own f1.own hO)) (by omega)⟩)) (by decide)
theorem yb_madeOf {d cn : Nat} {h : zm_M} {x : Int32} (hI : yb_I cn h) (hc : cn < 10000) : yb_B d cn m_KS_madeOf m_Mo_madeOf [.inl x] h := by
  obtain ⟨pi, w, F, sp, U, Q, B, L, x0, K, hC, hO⟩ := hI
  refine yb_up (k := 6) (k_KS_madeOf (d := d) hC.1 ⟨_, rfl, ?_⟩) (by decide)
  exact yb_up (k := 5) (k_Mo_madeOf (d := d) hO.1 ⟨rfl, _, _, _, _, _, _, _, _, _, _, hC, zOO_mono hO (by omega)⟩) (by decide)
theorem yb_seed {d cn : Nat} {h : zm_M} {v : Int32} (hI : yb_I cn h) (hc : cn < 10000) : yb_B d cn m_KS_seed m_Mo_seed [.inl v] h := by
  obtain ⟨pi, w, F, sp, U, Q, B, L, x0, K, hC, hO⟩ := hI
  refine yb_up (k := 1) (k_KS_seed (d := d) hC (fun h1 o1 hC1 => ⟨_, rfl, ?_⟩)) (by decide)
  exact yb_up (k := 2) (k_Mo_seed (d := d) (zOO_own o1 hO) (fun h2 o2 hO2 => ⟨rfl, _, _, _, _, _, _, _, _, _, _, zCC_own o2 hC1, zOO_mono hO2 (by omega)⟩)) (by decide)
theorem yb_keep {d cn : Nat} {h : zm_M} (hI : yb_I cn h) (hc : cn < 10000) : yb_B d cn m_KS_keep m_Mo_keep [] h := by
  obtain ⟨pi, w, F, sp, U, Q, B, L, x0, K, hC, hO⟩ := hI
  refine yb_up (k := 4) (k_KS_keep (d := d) hC (fun h1 o1 hC1 => ⟨_, rfl, ?_⟩)) (by decide)
  exact yb_up (k := 1) (k_Mo_keep (d := d) (zOO_own o1 hO) (fun h2 o2 hO2 => ⟨rfl, _, _, _, _, _, _, _, _, _, _, zCC_own o2 hC1, zOO_mono hO2 (by omega)⟩)) (by decide)
theorem yb_undo {d cn : Nat} {h : zm_M} (hI : yb_I cn h) (hc : cn < 10000) : yb_B d cn m_KS_undo m_Mo_undo [] h := by
  obtain ⟨pi, w, F, sp, U, Q, B, L, x0, K, hC, hO⟩ := hI
  refine yb_up (k := 4) (k_KS_undo (d := d) hC (fun h1 o1 hC1 => ⟨_, rfl, ?_⟩)) (by decide)
  exact yb_up (k := 1) (k_Mo_undo (d := d) (zOO_own o1 hO) hc (fun h2 o2 hO2 => ⟨rfl, _, _, _, _, _, _, _, _, _, _, zCC_own o2 hC1, zOO_mono hO2 (by omega)⟩)) (by decide)
theorem yb_check {d cn : Nat} {h : zm_M} {v : Int32} (hI : yb_I cn h) (hc : cn < 10000) : yb_B d cn m_KS_check m_Mo_check [.inl v] h := by
  obtain ⟨pi, w, F, sp, U, Q, B, L, x0, K, hC, hO⟩ := hI
  refine yb_up (k := 2) (k_KS_check (d := d) hC (fun h1 o1 hC1 => ⟨_, rfl, ?_⟩)) (by decide)
  exact yb_up (k := 2) (k_Mo_check (d := d) (zOO_own o1 hO) (fun h2 o2 hO2 => ⟨rfl, _, _, _, _, _, _, _, _, _, _, zCC_own o2 hC1, zOO_mono hO2 (by omega)⟩)) (by decide)
theorem yb_count {d cn : Nat} {h : zm_M} {v : Int32} (hI : yb_I cn h) (hc : cn < 10000) : yb_B d cn m_KS_count m_Mo_count [.inl v] h := by
  obtain ⟨pi, w, F, sp, U, Q, B, L, x0, K, hC, hO⟩ := hI
  refine yb_up (k := 3) (k_KS_count (d := d) hC ⟨_, rfl, ?_⟩) (by decide)
  exact yb_up (k := 3) (k_Mo_count (d := d) hO ⟨rfl, _, _, _, _, _, _, _, _, _, _, hC, zOO_mono hO (by omega)⟩) (by decide)
