/-! doubt -/
theorem nm_ne {a b : Int32} (ha : rng 0 9 a) (hb : rng 1 40 b) : ¬ a = -1 ∧ ¬ 100 * a + b = -1 := by
  obtain ⟨i, hi, rfl⟩ := (rng_iff (n := 10) (by decide) (by decide)).mp ha
  have hb0 : rng 0 40 b := by
    refine ⟨?_, hb.2⟩
    have h1 := hb.1
    rw [Int32.le_iff_toInt_le] at h1 ⊢
    have e1 : (1 : Int32).toInt = 1 := by decide
    have e0 : (0 : Int32).toInt = 0 := by decide
    omega
  obtain ⟨k, hk, rfl⟩ := (rng_iff (n := 41) (by decide) (by decide)).mp hb0
  have k1 : ∀ i, i < 10 → ¬ nI i = -1 := by decide
  have k2 : ∀ i, i < 10 → ∀ k, k < 41 → ¬ 100 * nI i + nI k = -1 := by decide +kernel
  exact ⟨k1 i hi, k2 i hi k hk⟩
theorem own_nm {σ : XS} {μ : MS} {n6 j : Nat} (h : RSto σ μ n6) (hj : j < n6) : (xi σ 173 (xe σ 6 j) = -1 ∧ mi μ 60 j = -1 ∧ f_X7_hasOwnName σ (xe σ 6 j) = 0) ∨ (¬ xi σ 173 (xe σ 6 j) = -1 ∧ ¬ mi μ 60 j = -1 ∧ f_X7_hasOwnName σ (xe σ 6 j) = 1) := by
  obtain ⟨a1, a2, a3, a4, a5, a6, a7, a8, a9, a10, a11, a12, a13, a14, a15, a16, a17⟩ := h.2.2.2.2.2 j hj
  rcases a17 with ⟨h1, h2⟩ | ⟨h1, h2, h3⟩
  · exact Or.inl ⟨h1, h2, by unfold f_X7_hasOwnName; rw [if_pos h1]⟩
  · obtain ⟨g1, g2⟩ := nm_ne h1 h2
    exact Or.inr ⟨g1, by rw [h3]; exact g2, by unfold f_X7_hasOwnName; rw [if_neg g1]⟩
theorem bz_zb {p : Int32} (h : zb p) : bz p = p := by rcases h with rfl | rfl <;> decide
theorem doubt0 {σ : XS} {x : Nat} {μ : MS} {n0 n1 n2 n4 n5 n6 : Nat} (p0 p1 : Int32) (hz : zb p1) (h : Rep0 σ x μ n0 n1 n2 n4 n5 n6) : of_X10_doubt σ x p0 p1 ∧ (∀ nq k, FL_doubt σ x p0 p1 nq = .error k → k = 3 ∨ k = 2) ∧ of_X11_doubt μ p0 p1 ∧ ((∃ j, j < n6 ∧ (∀ nq, FL_doubt σ x p0 p1 nq = .ok (mi μ 61 j, xI σ 175 (xe σ 6 j) p1)) ∧ f_X11_doubt μ p0 p1 = (mi μ 61 j, mI (mI μ 0 0 0) 61 j p1)) ∨ ∃ k, (∀ nq, FL_doubt σ x p0 p1 nq = .error k) ∧ f_X11_doubt μ p0 p1 = (0, mI μ 0 0 (cd_doubt k)) ∧ cd_doubt k ≠ 0) := by
  obtain ⟨e1, e2, e3⟩ := st_ex (x := x) p0 h.2.2.2.2.2.2.2.1
  have d1 : cd_doubt 3 = 1 := by decide
  have d2 : cd_doubt 2 = 2 := by decide
  have hb := bz_zb hz
  have i1 : ¬ (1 : Int32) ≤ 0 := by decide
  have i2 : ¬ (2 : Int32) ≤ 0 := by decide
  rcases e3 with ⟨j, hj, rfl, hix, h40, hn, hF, hM, hK⟩ | ⟨-, hF, hM⟩
  · have hS := (h.2.2.2.2.2.2.2.1.2.2.2.2.2 j hj)
    have h175 := hS.2.2.2.2.2.2.2.2.2.1
    have hzb := hS.2.2.2.2.2.2.2.2.2.2.1
    rcases own_nm h.2.2.2.2.2.2.2.1 hj with ⟨a1, a2, a3⟩ | ⟨a1, a2, a3⟩
    · refine ⟨by simp [of_X10_doubt, e1, hF, exo_i, of_X7_hasOwnName, hK, a3, oif], fun nq k hk => (by simp [FL_doubt, f_X10_doubt, hF, exb_i, a3] at hk; exact Or.inr hk.symm), by simp [of_X11_doubt, of_X11_doubt_28, oif, hM, e2, h40, hix, a2, i2], Or.inr ⟨2, fun nq => by simp [FL_doubt, f_X10_doubt, hF, exb_i, a3], by simp [f_X11_doubt, f_X11_doubt_28, hM, hix, a2, d2, i2], by decide⟩⟩
    · refine ⟨by simp [of_X10_doubt, e1, hF, exo_i, of_X7_hasOwnName, hK, a3, oif, hz, h175, hzb], fun nq k hk => (by simp [FL_doubt, f_X10_doubt, hF, exb_i, a3] at hk), by simp [of_X11_doubt, of_X11_doubt_28, oif, hM, e2, h40, hix, a2, hzb], Or.inl ⟨j, hj, fun nq => by simp [FL_doubt, f_X10_doubt, hF, exb_i, a3, h175], by simp [f_X11_doubt, f_X11_doubt_28, hM, hix, a2, hb]⟩⟩
  · refine ⟨by simp [of_X10_doubt, e1, hF, exo_e], fun nq k hk => (by simp [FL_doubt, f_X10_doubt, hF, exb_e] at hk; exact Or.inl hk.symm), by simp [of_X11_doubt, of_X11_doubt_28, oif, hM, e2, i1], Or.inr ⟨3, fun nq => by simp [FL_doubt, f_X10_doubt, hF, exb_e], by simp [f_X11_doubt, f_X11_doubt_28, hM, d1, i1], by decide⟩⟩
