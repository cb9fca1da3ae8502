/-! lands -/
theorem land_eq (a b : Int32) : f_X10_landOf a b = f_X11_landOf a b ∧ ∃ i, i < 4 ∧ f_X11_landOf a b = nI i := by
  unfold f_X10_landOf f_X10_landOf_11 f_X10_landOf_22 f_X11_landOf
  by_cases h1 : (50 : Int32) ≤ a <;> by_cases h2 : (50 : Int32) ≤ b
  · rw [if_pos h1, if_pos h2, if_pos h1, if_pos h2]; exact ⟨by decide, 3, by decide, rfl⟩
  · rw [if_pos h1, if_neg h2, if_pos h1, if_neg h2]; exact ⟨by decide, 1, by decide, rfl⟩
  · rw [if_neg h1, if_pos h2, if_neg h1, if_pos h2]; exact ⟨by decide, 2, by decide, rfl⟩
  · rw [if_neg h1, if_neg h2, if_neg h1, if_neg h2]; exact ⟨by decide, 0, by decide, rfl⟩
theorem law_in {σ : XS} {x : Nat} {μ : MS} {i : Nat} (h : RLaw σ μ) (hi : i < 4) : f_X10_lawIn σ x (nI i) = mi μ 66 i ∧ of_X10_lawIn σ x (nI i) ∧ vp_in (nI i) 4 ∧ ix (nI i) = i := by
  have h0 : ¬ nI i < 0 := nI_pos (by omega)
  have h4 : ¬ (4 : Int32) ≤ nI i := by rw [show (4 : Int32) = nI 4 from rfl, nI_leI (by decide) (by omega)]; omega
  have hix : ix (nI i) = i := clamp_nI (by omega)
  have hv : vp_in (nI i) 4 := nI_in hi (by decide)
  refine ⟨?_, ⟨fun h => absurd h h0, fun _ => ⟨fun h => absurd h h4, fun _ => ⟨hv, trivial⟩⟩⟩, hv, hix⟩
  unfold f_X10_lawIn
  rw [if_neg h0, if_neg h4, hix]
  exact (h i hi).1
theorem give0 {σ : XS} {x : Nat} {μ : MS} {n0 n1 n2 n4 n5 n6 : Nat} (p0 p1 : Int32) (h : Rep0 σ x μ n0 n1 n2 n4 n5 n6) : of_X10_give σ x p0 p1 ∧ (∀ nq k, FL_give σ x p0 p1 nq = .error k → k = 3 ∨ k = 1 ∨ k = 2) ∧ of_X11_give μ p0 p1 ∧ ((∃ j, j < n6 ∧ (∀ nq, FL_give σ x p0 p1 nq = .ok (mi μ 51 j, xI σ 167 (xe σ 6 j) p1)) ∧ f_X11_give μ p0 p1 = (mi μ 51 j, mI (mI μ 0 0 0) 51 j p1)) ∨ ∃ k, (∀ nq, FL_give σ x p0 p1 nq = .error k) ∧ f_X11_give μ p0 p1 = (0, mI μ 0 0 (cd_give k)) ∧ cd_give k ≠ 0) := by
  obtain ⟨e1, e2, e3⟩ := st_ex (x := x) p0 h.2.2.2.2.2.2.2.1
  have hL := h.2.2.2.2.2.2.2.2.1
  have d1 : cd_give 3 = 1 := by decide
  have d2 : cd_give 1 = 2 := by decide
  have d3 : cd_give 2 = 3 := by decide
  have i1 : ¬ (1 : Int32) ≤ 0 := by decide
  have i2 : ¬ (2 : Int32) ≤ 0 := by decide
  have i3 : ¬ (3 : Int32) ≤ 0 := by decide
  rcases e3 with ⟨j, hj, rfl, hix, h40, hn, hF, hM, hK⟩ | ⟨-, hF, hM⟩
  · have hS := (h.2.2.2.2.2.2.2.1.2.2.2.2.2 j hj)
    have s161 := hS.2.1
    have s162 := hS.2.2.1
    have s167 := hS.2.2.2.2.2.2.1
    have s168 := hS.2.2.2.2.2.2.2.1
    obtain ⟨l1, i, hi, l2⟩ := land_eq (mi μ 47 j) (mi μ 48 j)
    obtain ⟨m1, m2, m3, m4⟩ := law_in (x := x) hL hi
    rw [l2] at l1
    rcases in_or p1 0 5 with ⟨a1, a2, a3⟩ | ⟨a1, a2, a3⟩
    · by_cases b1 : mi μ 52 j = 0
      · by_cases b2 : mi μ 51 j = p1
        · refine ⟨by simp [of_X10_give, of_X10_give_91, e1, hF, a3, exo_i, hK, s161, s162, s167, s168, l1, m1, m2, b1, b2, oif], fun nq k hk => (by simp [FL_give, f_X10_give, f_X10_give_91, hF, a3, exb_i, s161, s162, s167, s168, l1, m1, b1, b2] at hk; exact Or.inr (Or.inr hk.symm)), ?_, Or.inr ⟨2, fun nq => by simp [FL_give, f_X10_give, f_X10_give_91, hF, a3, exb_i, s161, s162, s167, s168, l1, m1, b1, b2], ?_, by decide⟩⟩
          · by_cases c3 : mi μ 66 i = 2 <;> by_cases c4 : p1 - p1 / 4 * 4 = nI i <;> simp_all [of_X11_give, of_X11_give_37, of_X11_give_63, of_X11_give_112, oif, e2, h40, m3, hM, hix, a2, l2, m4, i3]
          · by_cases c3 : mi μ 66 i = 2 <;> by_cases c4 : p1 - p1 / 4 * 4 = nI i <;> simp_all [f_X11_give, f_X11_give_37, f_X11_give_63, f_X11_give_112, d3, hM, hix, a2, l2, m4, i3]
        · by_cases b3 : mi μ 66 i = 2
          · by_cases b4 : p1 - p1 / 4 * 4 = nI i
            · refine ⟨by simp [of_X10_give, of_X10_give_91, e1, hF, a3, exo_i, hK, s161, s162, s167, s168, l1, m1, m2, b1, b2, b3, b4, oif], fun nq k hk => (by simp [FL_give, f_X10_give, f_X10_give_91, hF, a3, exb_i, s161, s162, s167, s168, l1, m1, b1, b2, b3, b4] at hk), ?_, Or.inl ⟨j, hj, fun nq => by simp [FL_give, f_X10_give, f_X10_give_91, hF, a3, exb_i, s161, s162, s167, s168, l1, m1, b1, b2, b3, b4], ?_⟩⟩
              · by_cases c3 : mi μ 66 i = 2 <;> by_cases c4 : p1 - p1 / 4 * 4 = nI i <;> simp_all [of_X11_give, of_X11_give_37, of_X11_give_63, of_X11_give_112, oif, e2, h40, m3, hM, hix, a2, l2, m4, i3]
              · by_cases c3 : mi μ 66 i = 2 <;> by_cases c4 : p1 - p1 / 4 * 4 = nI i <;> simp_all [f_X11_give, f_X11_give_37, f_X11_give_63, f_X11_give_112, d3, hM, hix, a2, l2, m4, i3]
            · refine ⟨by simp [of_X10_give, of_X10_give_91, e1, hF, a3, exo_i, hK, s161, s162, s167, s168, l1, m1, m2, b1, b2, b3, b4, oif], fun nq k hk => (by simp [FL_give, f_X10_give, f_X10_give_91, hF, a3, exb_i, s161, s162, s167, s168, l1, m1, b1, b2, b3, b4] at hk; exact Or.inr (Or.inr hk.symm)), ?_, Or.inr ⟨2, fun nq => by simp [FL_give, f_X10_give, f_X10_give_91, hF, a3, exb_i, s161, s162, s167, s168, l1, m1, b1, b2, b3, b4], ?_, by decide⟩⟩
              · by_cases c3 : mi μ 66 i = 2 <;> by_cases c4 : p1 - p1 / 4 * 4 = nI i <;> simp_all [of_X11_give, of_X11_give_37, of_X11_give_63, of_X11_give_112, oif, e2, h40, m3, hM, hix, a2, l2, m4, i3]
              · by_cases c3 : mi μ 66 i = 2 <;> by_cases c4 : p1 - p1 / 4 * 4 = nI i <;> simp_all [f_X11_give, f_X11_give_37, f_X11_give_63, f_X11_give_112, d3, hM, hix, a2, l2, m4, i3]
          · refine ⟨by simp [of_X10_give, of_X10_give_91, e1, hF, a3, exo_i, hK, s161, s162, s167, s168, l1, m1, m2, b1, b2, b3, oif], fun nq k hk => (by simp [FL_give, f_X10_give, f_X10_give_91, hF, a3, exb_i, s161, s162, s167, s168, l1, m1, b1, b2, b3] at hk), ?_, Or.inl ⟨j, hj, fun nq => by simp [FL_give, f_X10_give, f_X10_give_91, hF, a3, exb_i, s161, s162, s167, s168, l1, m1, b1, b2, b3], ?_⟩⟩
            · by_cases c3 : mi μ 66 i = 2 <;> by_cases c4 : p1 - p1 / 4 * 4 = nI i <;> simp_all [of_X11_give, of_X11_give_37, of_X11_give_63, of_X11_give_112, oif, e2, h40, m3, hM, hix, a2, l2, m4, i3]
            · by_cases c3 : mi μ 66 i = 2 <;> by_cases c4 : p1 - p1 / 4 * 4 = nI i <;> simp_all [f_X11_give, f_X11_give_37, f_X11_give_63, f_X11_give_112, d3, hM, hix, a2, l2, m4, i3]
      · refine ⟨by simp [of_X10_give, of_X10_give_91, e1, hF, a3, exo_i, hK, s161, s162, s167, s168, l1, m1, m2, b1, oif], fun nq k hk => (by simp [FL_give, f_X10_give, f_X10_give_91, hF, a3, exb_i, s161, s162, s167, s168, l1, m1, b1] at hk; exact Or.inr (Or.inr hk.symm)), ?_, Or.inr ⟨2, fun nq => by simp [FL_give, f_X10_give, f_X10_give_91, hF, a3, exb_i, s161, s162, s167, s168, l1, m1, b1], ?_, by decide⟩⟩
        · by_cases c3 : mi μ 66 i = 2 <;> by_cases c4 : p1 - p1 / 4 * 4 = nI i <;> simp_all [of_X11_give, of_X11_give_37, of_X11_give_63, of_X11_give_112, oif, e2, h40, m3, hM, hix, a2, l2, m4, i3]
        · by_cases c3 : mi μ 66 i = 2 <;> by_cases c4 : p1 - p1 / 4 * 4 = nI i <;> simp_all [f_X11_give, f_X11_give_37, f_X11_give_63, f_X11_give_112, d3, hM, hix, a2, l2, m4, i3]
    · refine ⟨by simp [of_X10_give, e1, hF, a3, exo_i, exo_e], fun nq k hk => (by simp [FL_give, f_X10_give, hF, a3, exb_i, exb_e] at hk; exact Or.inr (Or.inl hk.symm)), ?_, Or.inr ⟨1, fun nq => by simp [FL_give, f_X10_give, hF, a3, exb_i, exb_e], ?_, by decide⟩⟩
      · by_cases b3 : mi μ 66 i = 2 <;> by_cases b4 : p1 - p1 / 4 * 4 = nI i <;> simp [of_X11_give, of_X11_give_37, of_X11_give_63, of_X11_give_112, oif, hM, e2, h40, hix, a2, l2, m3, m4, b3, b4, i2]
      · by_cases b3 : mi μ 66 i = 2 <;> by_cases b4 : p1 - p1 / 4 * 4 = nI i <;> simp [f_X11_give, f_X11_give_37, f_X11_give_63, f_X11_give_112, hM, hix, a2, l2, m4, b3, b4, d2, i2]
  · have z4 : vp_in 0 4 := by show ¬ ((0 : Int32) < 0 ∨ 4 ≤ (0 : Int32).toNatClampNeg); decide
    refine ⟨by simp [of_X10_give, e1, hF, exo_e], fun nq k hk => (by simp [FL_give, f_X10_give, hF, exb_e] at hk; exact Or.inl hk.symm), ?_, Or.inr ⟨3, fun nq => by simp [FL_give, f_X10_give, hF, exb_e], ?_, by decide⟩⟩
    · by_cases b3 : mi μ 66 (ix 0) = 2 <;> by_cases b4 : p1 - p1 / 4 * 4 = 0 <;> simp [of_X11_give, of_X11_give_37, of_X11_give_63, of_X11_give_112, oif, hM, e2, z4, b3, b4, i1]
    · by_cases b3 : mi μ 66 (ix 0) = 2 <;> by_cases b4 : p1 - p1 / 4 * 4 = 0 <;> simp [f_X11_give, f_X11_give_37, f_X11_give_63, f_X11_give_112, hM, b3, b4, d1, i1]
