/-! kept: give, doubt -/
theorem give_rep {σ : XS} {x : Nat} {μ : MS} {n0 n1 n2 n4 n5 n6 j : Nat} {t u : Int32} (hj : j < n6) (h : Rep0 σ x μ n0 n1 n2 n4 n5 n6) : Rep0 (xI σ 167 (xe σ 6 j) u) x (mI (mI μ 0 0 t) 51 j u) n0 n1 n2 n4 n5 n6 := by
  obtain ⟨h1, h2, h3, h4, h5, h6, h7, h8, h9, h10, h11, h12⟩ := h
  refine ⟨h1, h2, h3, h4, h5, h6, h7, ?_, h9, h10, h11, h12⟩
  obtain ⟨g1, g2, g3, g4, g5, g6⟩ := h8
  refine ⟨g1, g2, g3, g4, g5, fun i hi => ?_⟩
  obtain ⟨a1, a2, a3, a4, a5, a6, a7, a8⟩ := g6 i hi
  refine ⟨a1, a2, a3, a4, a5, a6, ?_, a8⟩
  show xi (xI σ 167 (xe σ 6 j) u) 167 (xe σ 6 i) = mi (mI (mI μ 0 0 t) 51 j u) 51 i
  rw [xi_at, mi_at]
  by_cases hij : i = j
  · rw [if_pos (by rw [hij]), if_pos hij]
  · rw [if_neg (fun e => hij (g5.2.2 i j hi hj e)), if_neg hij]
    exact a7
theorem doubt_rep {σ : XS} {x : Nat} {μ : MS} {n0 n1 n2 n4 n5 n6 j : Nat} {t u : Int32} (hz : zb u) (hj : j < n6) (h : Rep0 σ x μ n0 n1 n2 n4 n5 n6) : Rep0 (xI σ 175 (xe σ 6 j) u) x (mI (mI μ 0 0 t) 61 j u) n0 n1 n2 n4 n5 n6 := by
  obtain ⟨h1, h2, h3, h4, h5, h6, h7, h8, h9, h10, h11, h12⟩ := h
  refine ⟨h1, h2, h3, h4, h5, h6, h7, ?_, h9, h10, h11, h12⟩
  obtain ⟨g1, g2, g3, g4, g5, g6⟩ := h8
  refine ⟨g1, g2, fun i hi => ?_, g4, g5, fun i hi => ?_⟩
  · obtain ⟨f1, f2, f3, f4⟩ := g3 i hi
    refine ⟨f1, f2, f3, ?_⟩
    show mi (mI (mI μ 0 0 t) 61 j u) 61 i = 0
    rw [mi_at, if_neg (by omega)]
    exact f4
  · obtain ⟨a1, a2, a3, a4, a5, a6, a7, a8, a9, a10, a11, a12⟩ := g6 i hi
    refine ⟨a1, a2, a3, a4, a5, a6, a7, a8, a9, ?_, ?_, a12⟩
    · show xi (xI σ 175 (xe σ 6 j) u) 175 (xe σ 6 i) = mi (mI (mI μ 0 0 t) 61 j u) 61 i
      rw [xi_at, mi_at]
      by_cases hij : i = j
      · rw [if_pos (by rw [hij]), if_pos hij]
      · rw [if_neg (fun e => hij (g5.2.2 i j hi hj e)), if_neg hij]
        exact a10
    · show zb (mi (mI (mI μ 0 0 t) 61 j u) 61 i)
      rw [mi_at]
      by_cases hij : i = j
      · rw [if_pos hij]; exact hz
      · rw [if_neg hij]; exact a11
