set_option maxRecDepth 100000 in
theorem k_KS_isSide {d : Nat} {T : zm_T} {h : zm_M} {R : zm_R} (x : Int32) (hR : R (some (.inl (if 0 ≤ x ∧ x < 3 then 1 else 0))) h) : zm_C (d + 1) T m_KS_isSide [.inl x] h R := by
  refine zm_of (by decide) (by decide) (by decide) ?_
  refine zm_go g_KS_isSide [] 9 (by decide) ok_KS_isSide _ rfl ?_
  simp only [zm_ls0, zq]
  sorry
