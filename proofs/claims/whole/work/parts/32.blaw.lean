/-! ===== law ===== -/
theorem law_rep {σ : XS} {x : Nat} {μ : MS} {n0 n1 n2 n4 n5 n6 : Nat} {t v : Int32} {i : Nat} (hv : rng 0 2 v) (h : Rep0 σ x μ n0 n1 n2 n4 n5 n6) : Rep0 (xI σ 240 i v) x (mI (mI μ 0 0 t) 66 i v) n0 n1 n2 n4 n5 n6 := by
  obtain ⟨h1, h2, h3, h4, h5, h6, h7, h8, h9, h10, h11, h12⟩ := h
  refine ⟨h1, h2, h3, h4, h5, h6, h7, h8, fun k hk => ?_, h10, h11, h12⟩
  show up2 σ.2.1 240 i v 240 k = up2 (mI μ 0 0 t).1 66 i v 66 k ∧ rng 0 2 (up2 (mI μ 0 0 t).1 66 i v 66 k)
  rw [up2_at, up2_at, if_pos rfl, if_pos rfl]
  by_cases hki : k = i
  · rw [if_pos hki, if_pos hki]; exact ⟨rfl, hv⟩
  · rw [if_neg hki, if_neg hki]; exact h9 k hk
theorem thr_rep {σ : XS} {x : Nat} {μ : MS} {n0 n1 n2 n4 n5 n6 : Nat} {t : Int32} (h : Rep0 σ x μ n0 n1 n2 n4 n5 n6) : Rep0 σ x (mI μ 0 0 t) n0 n1 n2 n4 n5 n6 := by
  obtain ⟨h1, h2, h3, h4, h5, h6, h7, h8, h9, h10, h11, h12⟩ := h
  exact ⟨h1, h2, h3, h4, h5, h6, h7, h8, h9, h10, h11, h12⟩
