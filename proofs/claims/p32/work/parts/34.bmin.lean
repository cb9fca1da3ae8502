/-! minerals -/
theorem in_or (p lo hi : Int32) : (rng lo hi p ∧ f_X11_isIn p lo hi = 1 ∧ f_X10_requireRange p lo hi = .ok ()) ∨ (¬ rng lo hi p ∧ f_X11_isIn p lo hi = 0 ∧ f_X10_requireRange p lo hi = .error 1) := by
  by_cases h : rng lo hi p
  · exact Or.inl ⟨h, isIn_y h, req_y h⟩
  · exact Or.inr ⟨h, isIn_n h, req_n h⟩
theorem minerals0 {σ : XS} {x : Nat} {μ : MS} {n0 n1 n2 n4 n5 n6 : Nat} (p0 p1 p2 p3 : Int32) (h : Rep0 σ x μ n0 n1 n2 n4 n5 n6) : of_X10_minerals σ x p0 p1 p2 p3 ∧ (∀ nq k, FL_minerals σ x p0 p1 p2 p3 nq = .error k → k = 3 ∨ k = 1) ∧ of_X11_minerals μ p0 p1 p2 p3 ∧ ((∃ j, j < n6 ∧ rng 0 1000 p1 ∧ rng 0 9 p2 ∧ rng 0 9 p3 ∧ (∀ nq, FL_minerals σ x p0 p1 p2 p3 nq = .ok ((), xI (xI (xI σ 170 (xe σ 6 j) p1) 171 (xe σ 6 j) p2) 172 (xe σ 6 j) p3)) ∧ f_X11_minerals μ p0 p1 p2 p3 = mI (mI (mI (mI (mI μ 0 0 0) 56 j (bz 1)) 57 j p1) 58 j p2) 59 j p3) ∨ ∃ k, (∀ nq, FL_minerals σ x p0 p1 p2 p3 nq = .error k) ∧ f_X11_minerals μ p0 p1 p2 p3 = mI μ 0 0 (cd_minerals k) ∧ cd_minerals k ≠ 0) := by
  obtain ⟨e1, e2, e3⟩ := st_ex (x := x) p0 h.2.2.2.2.2.2.2.1
  have d1 : cd_minerals 3 = 1 := by decide
  have d2 : cd_minerals 1 = 2 := by decide
  rcases e3 with ⟨j, hj, rfl, hix, h40, hn, hF, hM, hK⟩ | ⟨-, hF, hM⟩
  · rcases in_or p1 0 1000 with ⟨a1, a2, a3⟩ | ⟨a1, a2, a3⟩
    · rcases in_or p2 0 9 with ⟨b1, b2, b3⟩ | ⟨b1, b2, b3⟩
      · rcases in_or p3 0 9 with ⟨c1, c2, c3⟩ | ⟨c1, c2, c3⟩
        · refine ⟨by simp [of_X10_minerals, e1, hF, a3, b3, c3, exo_i, hK], fun nq k hk => (by simp [FL_minerals, f_X10_minerals, hF, a3, b3, c3, exb_i] at hk), by simp [of_X11_minerals, of_X11_minerals_37, of_X11_minerals_62, oif, a2, b2, c2, hM, e2, h40], Or.inl ⟨j, hj, a1, b1, c1, fun nq => by simp [FL_minerals, f_X10_minerals, hF, a3, b3, c3, exb_i], by simp [f_X11_minerals, f_X11_minerals_37, f_X11_minerals_62, a2, b2, c2, hM, hix]⟩⟩
        · refine ⟨by simp [of_X10_minerals, e1, hF, a3, b3, c3, exo_i, exo_e], fun nq k hk => (by simp [FL_minerals, f_X10_minerals, hF, a3, b3, c3, exb_i, exb_e] at hk; exact Or.inr hk.symm), by simp [of_X11_minerals, of_X11_minerals_37, of_X11_minerals_62, oif, a2, b2, c2, hM, e2], Or.inr ⟨1, fun nq => by simp [FL_minerals, f_X10_minerals, hF, a3, b3, c3, exb_i, exb_e], by simp [f_X11_minerals, f_X11_minerals_37, f_X11_minerals_62, a2, b2, c2, hM, d2], by decide⟩⟩
      · refine ⟨by simp [of_X10_minerals, e1, hF, a3, b3, exo_i, exo_e], fun nq k hk => (by simp [FL_minerals, f_X10_minerals, hF, a3, b3, exb_i, exb_e] at hk; exact Or.inr hk.symm), by simp [of_X11_minerals, of_X11_minerals_37, of_X11_minerals_62, oif, a2, b2, hM, e2], Or.inr ⟨1, fun nq => by simp [FL_minerals, f_X10_minerals, hF, a3, b3, exb_i, exb_e], by simp [f_X11_minerals, f_X11_minerals_37, f_X11_minerals_62, a2, b2, hM, d2], by decide⟩⟩
    · refine ⟨by simp [of_X10_minerals, e1, hF, a3, exo_i, exo_e], fun nq k hk => (by simp [FL_minerals, f_X10_minerals, hF, a3, exb_i, exb_e] at hk; exact Or.inr hk.symm), by simp [of_X11_minerals, of_X11_minerals_37, of_X11_minerals_62, oif, a2, hM, e2], Or.inr ⟨1, fun nq => by simp [FL_minerals, f_X10_minerals, hF, a3, exb_i, exb_e], by simp [f_X11_minerals, f_X11_minerals_37, f_X11_minerals_62, a2, hM, d2], by decide⟩⟩
  · refine ⟨by simp [of_X10_minerals, e1, hF, exo_e], fun nq k hk => (by simp [FL_minerals, f_X10_minerals, hF, exb_e] at hk; exact Or.inl hk.symm), by simp [of_X11_minerals, of_X11_minerals_37, of_X11_minerals_62, oif, hM, e2], Or.inr ⟨3, fun nq => by simp [FL_minerals, f_X10_minerals, hF, exb_e], by simp [f_X11_minerals, f_X11_minerals_37, f_X11_minerals_62, hM, d1], by decide⟩⟩
theorem minerals_rep {σ : XS} {x : Nat} {μ : MS} {n0 n1 n2 n4 n5 n6 j : Nat} {t p1 p2 p3 : Int32} (hj : j < n6) (r1 : rng 0 1000 p1) (r2 : rng 0 9 p2) (r3 : rng 0 9 p3) (h : Rep0 σ x μ n0 n1 n2 n4 n5 n6) : Rep0 (xI (xI (xI σ 170 (xe σ 6 j) p1) 171 (xe σ 6 j) p2) 172 (xe σ 6 j) p3) x (mI (mI (mI (mI (mI μ 0 0 t) 56 j (bz 1)) 57 j p1) 58 j p2) 59 j p3) n0 n1 n2 n4 n5 n6 := by
  obtain ⟨h1, h2, h3, h4, h5, h6, h7, h8, h9, h10, h11, h12⟩ := h
  refine ⟨h1, h2, h3, h4, h5, h6, h7, ?_, h9, h10, h11, h12⟩
  obtain ⟨g1, g2, g3, g4, g5, g6⟩ := h8
  refine ⟨g1, g2, fun i hi => ?_, g4, g5, fun i hi => ?_⟩
  · obtain ⟨f1, f2, f3, f4⟩ := g3 i hi
    refine ⟨f1, f2, ?_, f4⟩
    show mi (mI (mI μ 0 0 t) 56 j (bz 1)) 56 i = 0
    rw [mi_at, if_neg (by omega)]
    exact f3
  · obtain ⟨a1, a2, a3, a4, a5, a6, a7, a8, a9, a10, a11, a12, a13, a14, a15, a16, a17⟩ := g6 i hi
    refine ⟨a1, a2, a3, a4, a5, a6, a7, a8, a9, a10, a11, a12, a13, a14, a15, ?_, a17⟩
    show mi (mI (mI μ 0 0 t) 56 j (bz 1)) 56 i = 0 ∧ xi (xI σ 170 (xe σ 6 j) p1) 170 (xe σ 6 i) = -1 ∨ mi (mI (mI μ 0 0 t) 56 j (bz 1)) 56 i = 1 ∧ xi (xI σ 170 (xe σ 6 j) p1) 170 (xe σ 6 i) = mi (mI (mI μ 0 0 t) 57 j p1) 57 i ∧ rng 0 1000 (mi (mI (mI μ 0 0 t) 57 j p1) 57 i) ∧ xi (xI σ 171 (xe σ 6 j) p2) 171 (xe σ 6 i) = mi (mI (mI μ 0 0 t) 58 j p2) 58 i ∧ rng 0 9 (mi (mI (mI μ 0 0 t) 58 j p2) 58 i) ∧ xi (xI σ 172 (xe σ 6 j) p3) 172 (xe σ 6 i) = mi (mI (mI μ 0 0 t) 59 j p3) 59 i ∧ rng 0 9 (mi (mI (mI μ 0 0 t) 59 j p3) 59 i)
    simp only [xi_at, mi_at]
    by_cases hij : i = j
    · subst hij
      simp only [if_true]
      exact Or.inr ⟨by decide, trivial, r1, trivial, r2, trivial, r3⟩
    · have hne : ¬ xe σ 6 i = xe σ 6 j := fun e => hij (g5.2.2 i j hi hj e)
      simp only [if_neg hij, if_neg hne]
      exact a16
