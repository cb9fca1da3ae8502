/-! doubt -/
theorem nm_ne {a b : Int32} (ha : rng 0 9 a) (hb : rng 1 40 b) : ¬ a = -1 ∧ ¬ 100 * a + b = -1 := by
  obtain ⟨i, hi, rfl⟩ := (rng_iff (n := 10) (by decide) (by decide)).mp ha
  have hb0 : rng 0 40 b := by
    refine ⟨?_, hb.2⟩
    have h1 := hb.1
    rw [Int32.le_iff_toInt_le] at h1 ⊢
    have e1 : (1 : Int32).toInt = 1 := by decide
    have e0 : (0 : Int32).toInt = 0 := by decide
    omega
  obtain ⟨k, hk, rfl⟩ := (rng_iff (n := 41) (by decide) (by decide)).mp hb0
  have k1 : ∀ i, i < 10 → ¬ nI i = -1 := by decide
  have k2 : ∀ i, i < 10 → ∀ k, k < 41 → ¬ 100 * nI i + nI k = -1 := by decide +kernel
  exact ⟨k1 i hi, k2 i hi k hk⟩
theorem own_nm {σ : XS} {μ : MS} {n6 j : Nat} (h : RSto σ μ n6) (hj : j < n6) : (xi σ 173 (xe σ 6 j) = -1 ∧ mi μ 60 j = -1 ∧ f_X7_hasOwnName σ (xe σ 6 j) = 0) ∨ (¬ xi σ 173 (xe σ 6 j) = -1 ∧ ¬ mi μ 60 j = -1 ∧ f_X7_hasOwnName σ (xe σ 6 j) = 1) := by
  obtain ⟨a1, a2, a3, a4, a5, a6, a7, a8, a9, a10, a11, a12, a13, a14, a15, a16, a17⟩ := h.2.2.2.2.2 j hj
  rcases a17 with ⟨h1, h2⟩ | ⟨h1, h2, h3⟩
  · exact Or.inl ⟨h1, h2, by unfold f_X7_hasOwnName; rw [if_pos h1]⟩
  · obtain ⟨g1, g2⟩ := nm_ne h1 h2
    exact Or.inr ⟨g1, by rw [h3]; exact g2, by unfold f_X7_hasOwnName; rw [if_neg g1]⟩
