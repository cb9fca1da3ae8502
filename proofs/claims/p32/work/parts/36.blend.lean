/-! lend -/
theorem lend0 {σ : XS} {x : Nat} {μ : MS} {n0 n1 n2 n4 n5 n6 : Nat} (p0 p1 : Int32) (h : Rep0 σ x μ n0 n1 n2 n4 n5 n6) : of_X10_lend σ x p0 p1 ∧ (∀ nq k, FL_lend σ x p0 p1 nq = .error k → k = 3 ∨ k = 1 ∨ k = 2) ∧ of_X11_lend μ p0 p1 ∧ ((∃ j u, j < n6 ∧ (∀ nq, FL_lend σ x p0 p1 nq = .ok ((), xI (xI σ 168 (xe σ 6 j) u) 169 (xe σ 6 j) p1)) ∧ f_X11_lend μ p0 p1 = mI (mI (mI μ 0 0 0) 52 j u) 53 j p1) ∨ ∃ k, (∀ nq, FL_lend σ x p0 p1 nq = .error k) ∧ f_X11_lend μ p0 p1 = mI μ 0 0 (cd_lend k) ∧ cd_lend k ≠ 0) := by
  obtain ⟨e1, e2, e3⟩ := st_ex (x := x) p0 h.2.2.2.2.2.2.2.1
  have d1 : cd_lend 3 = 1 := by decide
  have d2 : cd_lend 1 = 2 := by decide
  have d3 : cd_lend 2 = 3 := by decide
  have m2 : f_X11_isIn (-1) (-1) 3 = 1 := by decide
  have m3 : f_X10_requireRange (-1) (-1) 3 = .ok () := rfl
  rcases e3 with ⟨j, hj, rfl, hix, h40, hn, hF, hM, hK⟩ | ⟨-, hF, hM⟩
  · have h168 := (h.2.2.2.2.2.2.2.1.2.2.2.2.2 j hj).2.2.2.2.2.2.2.1
    rcases in_or p1 (-1) 3 with ⟨a1, a2, a3⟩ | ⟨a1, a2, a3⟩
    · by_cases hk : mi μ 52 j = 0
      · by_cases hp : p1 = -1
        · refine ⟨by simp [of_X10_lend, of_X10_lend_24, of_X10_lend_36, e1, hF, a3, m3, exo_i, hK, h168, hk, hp, oif], fun nq k hk9 => (by simp [FL_lend, f_X10_lend, f_X10_lend_24, f_X10_lend_36, hF, a3, m3, exb_i, h168, hk, hp] at hk9; exact Or.inr (Or.inr hk9.symm)), by simp [of_X11_lend, of_X11_lend_41, of_X11_lend_75, oif, hM, e2, h40, hix, hk, hp, a2, m2], Or.inr ⟨2, fun nq => by simp [FL_lend, f_X10_lend, f_X10_lend_24, f_X10_lend_36, hF, a3, m3, exb_i, h168, hk, hp], by simp [f_X11_lend, f_X11_lend_41, f_X11_lend_75, hM, hix, hk, hp, a2, m2, d3], by decide⟩⟩
        · refine ⟨by simp [of_X10_lend, of_X10_lend_24, of_X10_lend_36, of_X10_lend_67, e1, hF, a3, m3, exo_i, hK, h168, hk, hp, oif], fun nq k hk9 => (by simp [FL_lend, f_X10_lend, f_X10_lend_24, f_X10_lend_36, f_X10_lend_67, hF, a3, m3, exb_i, h168, hk, hp] at hk9), by simp [of_X11_lend, of_X11_lend_41, of_X11_lend_75, of_X11_lend_100, oif, hM, e2, h40, hix, hk, hp, a2, m2], Or.inl ⟨j, 1, hj, fun nq => by simp [FL_lend, f_X10_lend, f_X10_lend_24, f_X10_lend_36, f_X10_lend_67, hF, a3, m3, exb_i, h168, hk, hp], by simp [f_X11_lend, f_X11_lend_41, f_X11_lend_75, f_X11_lend_100, hM, hix, hk, hp, a2, m2]⟩⟩
      · by_cases hp : p1 = -1
        · refine ⟨by simp [of_X10_lend, of_X10_lend_24, of_X10_lend_36, of_X10_lend_67, e1, hF, a3, m3, exo_i, hK, h168, hk, hp, oif], fun nq k hk9 => (by simp [FL_lend, f_X10_lend, f_X10_lend_24, f_X10_lend_36, f_X10_lend_67, hF, a3, m3, exb_i, h168, hk, hp] at hk9), by simp [of_X11_lend, of_X11_lend_41, of_X11_lend_75, of_X11_lend_100, oif, hM, e2, h40, hix, hk, hp, a2, m2], Or.inl ⟨j, 0, hj, fun nq => by simp [FL_lend, f_X10_lend, f_X10_lend_24, f_X10_lend_36, f_X10_lend_67, hF, a3, m3, exb_i, h168, hk, hp], by simp [f_X11_lend, f_X11_lend_41, f_X11_lend_75, f_X11_lend_100, hM, hix, hk, hp, a2, m2]⟩⟩
        · refine ⟨by simp [of_X10_lend, of_X10_lend_24, of_X10_lend_36, e1, hF, a3, m3, exo_i, hK, h168, hk, hp, oif], fun nq k hk9 => (by simp [FL_lend, f_X10_lend, f_X10_lend_24, f_X10_lend_36, hF, a3, m3, exb_i, h168, hk, hp] at hk9; exact Or.inr (Or.inr hk9.symm)), by simp [of_X11_lend, of_X11_lend_41, of_X11_lend_75, oif, hM, e2, h40, hix, hk, hp, a2, m2], Or.inr ⟨2, fun nq => by simp [FL_lend, f_X10_lend, f_X10_lend_24, f_X10_lend_36, hF, a3, m3, exb_i, h168, hk, hp], by simp [f_X11_lend, f_X11_lend_41, f_X11_lend_75, hM, hix, hk, hp, a2, m2, d3], by decide⟩⟩
    · refine ⟨by simp [of_X10_lend, e1, hF, a3, exo_i, exo_e], fun nq k hk => (by simp [FL_lend, f_X10_lend, hF, a3, exb_i, exb_e] at hk; exact Or.inr (Or.inl hk.symm)), ?_, Or.inr ⟨1, fun nq => by simp [FL_lend, f_X10_lend, hF, a3, exb_i, exb_e], ?_, by decide⟩⟩
      · have hp : ¬ p1 = -1 := (fun e => a1 (by rw [e]; exact ⟨by decide, by decide⟩))
        by_cases hk : mi μ 52 j = 0 <;> simp [of_X11_lend, of_X11_lend_41, of_X11_lend_75, oif, hM, e2, h40, hix, hk, hp, a2]
      · have hp : ¬ p1 = -1 := (fun e => a1 (by rw [e]; exact ⟨by decide, by decide⟩))
        by_cases hk : mi μ 52 j = 0 <;> simp [f_X11_lend, f_X11_lend_41, f_X11_lend_75, hM, hix, hk, hp, a2, d2]
  · refine ⟨by simp [of_X10_lend, e1, hF, exo_e], fun nq k hk => (by simp [FL_lend, f_X10_lend, hF, exb_e] at hk; exact Or.inl hk.symm), by simp [of_X11_lend, of_X11_lend_41, of_X11_lend_75, oif, hM, e2], Or.inr ⟨3, fun nq => by simp [FL_lend, f_X10_lend, hF, exb_e], by simp [f_X11_lend, f_X11_lend_41, f_X11_lend_75, hM, d1], by decide⟩⟩
