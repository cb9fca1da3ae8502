/-! ===== stones: which there are ===== -/
theorem st_ex {σ : XS} {x : Nat} {μ : MS} {n6 : Nat} (p : Int32) (h : RSto σ μ n6) : of_X10_existingStone σ x p ∧ of_X11_isStone μ p ∧ ((∃ j, j < n6 ∧ p = nI j ∧ ix p = j ∧ vp_in p 40 ∧ vp_in p n6 ∧ f_X10_existingStone σ x p = .ok (xe σ 6 j) ∧ f_X11_isStone μ p = 1 ∧ xk σ (xe σ 6 j) = 8) ∨ (¬ (¬ p < 0 ∧ p < nI n6) ∧ f_X10_existingStone σ x p = .error 3 ∧ f_X11_isStone μ p = 0)) := by
  obtain ⟨h40, -, -, hn, ⟨hl, hk, -⟩, -⟩ := h
  have hlt : n6 < 2 ^ 31 := by omega
  by_cases hp : ¬ p < 0 ∧ p < nI n6
  · obtain ⟨j, hj, rfl⟩ := in_nat hlt ((in_iff hlt).mpr hp)
    have hix : ix (nI j) = j := clamp_nI (by omega)
    have hi : f_X11_isIn (nI j) 0 (nI n6 - 1) = 1 := isIn_y (nat_in hlt hj)
    have hv : vp_in (nI j) n6 := nI_in hj hlt
    refine ⟨?_, ?_, Or.inl ⟨j, hj, rfl, hix, nI_in (by omega) (by decide), hv, ?_, ?_, hk j hj⟩⟩
    · refine ⟨fun h => absurd h hp.1, fun _ => ⟨fun _ => ⟨by rw [hl]; exact hv, by rw [hix]; exact hk j hj, trivial⟩, fun _ => trivial⟩⟩
    · exact ⟨by rw [hn, hi]; exact Or.inr rfl, trivial⟩
    · unfold f_X10_existingStone
      rw [if_neg hp.1, hl, if_pos hp.2, hix]
    · unfold f_X11_isStone
      rw [hn, hi]
  · have hi : f_X11_isIn p 0 (nI n6 - 1) = 0 := isIn_n (fun h => hp ((in_iff hlt).mp h))
    refine ⟨?_, ?_, Or.inr ⟨hp, ?_, ?_⟩⟩
    · refine ⟨fun _ => trivial, fun h1 => ⟨fun h2 => absurd ⟨h1, by rw [hl] at h2; exact h2⟩ hp, fun _ => trivial⟩⟩
    · exact ⟨by rw [hn, hi]; exact Or.inl rfl, trivial⟩
    · unfold f_X10_existingStone f_X10_existingStone_17
      by_cases h1 : p < 0
      · rw [if_pos h1]
      · rw [if_neg h1, hl, if_neg (fun h2 => hp ⟨h1, h2⟩)]
    · unfold f_X11_isStone
      rw [hn, hi]
/-! steal -/
theorem xi_at (σ : XS) (c q : Nat) (v : Int32) (z : Nat) : xi (xI σ c q v) c z = if z = q then v else xi σ c z := by
  show up2 σ.2.1 c q v c z = _
  rw [up2_at, if_pos rfl]; rfl
theorem mi_at (μ : MS) (k i : Nat) (v : Int32) (j : Nat) : mi (mI μ k i v) k j = if j = i then v else mi μ k j := by
  show up2 μ.1 k i v k j = _
  rw [up2_at, if_pos rfl]; rfl
theorem steal_rep {σ : XS} {x : Nat} {μ : MS} {n0 n1 n2 n4 n5 n6 j : Nat} {t u w : Int32} (hj : j < n6) (h : Rep0 σ x μ n0 n1 n2 n4 n5 n6) : Rep0 (xI (xI σ 168 (xe σ 6 j) u) 169 (xe σ 6 j) w) x (mI (mI (mI μ 0 0 t) 52 j u) 53 j w) n0 n1 n2 n4 n5 n6 := by
  obtain ⟨h1, h2, h3, h4, h5, h6, h7, h8, h9, h10, h11, h12⟩ := h
  refine ⟨h1, h2, h3, h4, h5, h6, h7, ?_, h9, h10, h11, h12⟩
  obtain ⟨g1, g2, g3, g4, g5, g6⟩ := h8
  refine ⟨g1, g2, fun i hi => ?_, g4, g5, fun i hi => ?_⟩
  · obtain ⟨f1, f2, f3, f4⟩ := g3 i hi
    refine ⟨?_, f2, f3, f4⟩
    show mi (mI (mI μ 0 0 t) 52 j u) 52 i = 0
    rw [mi_at, if_neg (by omega)]
    exact f1
  · obtain ⟨a1, a2, a3, a4, a5, a6, a7, a8, a9, a10⟩ := g6 i hi
    refine ⟨a1, a2, a3, a4, a5, a6, a7, ?_, ?_, a10⟩
    · show xi (xI σ 168 (xe σ 6 j) u) 168 (xe σ 6 i) = mi (mI (mI μ 0 0 t) 52 j u) 52 i
      rw [xi_at, mi_at]
      by_cases hij : i = j
      · rw [if_pos (by rw [hij]), if_pos hij]
      · rw [if_neg (fun e => hij (g5.2.2 i j hi hj e)), if_neg hij]
        exact a8
    · show xi (xI (xI σ 168 (xe σ 6 j) u) 169 (xe σ 6 j) w) 169 (xe σ 6 i) = mi (mI (mI (mI μ 0 0 t) 52 j u) 53 j w) 53 i
      rw [xi_at, mi_at]
      by_cases hij : i = j
      · rw [if_pos (by rw [hij]), if_pos hij]
      · rw [if_neg (fun e => hij (g5.2.2 i j hi hj e)), if_neg hij]
        exact a9
theorem steal0 {σ : XS} {x : Nat} {μ : MS} {n0 n1 n2 n4 n5 n6 : Nat} (p0 : Int32) (h : Rep0 σ x μ n0 n1 n2 n4 n5 n6) : of_X10_steal σ x p0 ∧ (∀ nq k, FL_steal σ x p0 nq = .error k → k = 3 ∨ k = 2) ∧ of_X11_steal μ p0 ∧ ((∃ j, j < n6 ∧ (∀ nq, FL_steal σ x p0 nq = .ok ((), xI (xI σ 168 (xe σ 6 j) 2) 169 (xe σ 6 j) (-1))) ∧ f_X11_steal μ p0 = mI (mI (mI μ 0 0 0) 52 j 2) 53 j (-1)) ∨ ∃ k, (∀ nq, FL_steal σ x p0 nq = .error k) ∧ f_X11_steal μ p0 = mI μ 0 0 (cd_steal k) ∧ cd_steal k ≠ 0) := by
  obtain ⟨e1, e2, e3⟩ := st_ex (x := x) p0 h.2.2.2.2.2.2.2.1
  have hS := h.2.2.2.2.2.2.2.1
  rcases e3 with ⟨j, hj, rfl, hix, h40, hn, hF, hM, hK⟩ | ⟨-, hF, hM⟩
  · have h8 := (hS.2.2.2.2.2 j hj).2.2.2.2.2.2.2.1
    by_cases hw : mi μ 52 j = 2
    · have hX : ∀ nq, FL_steal σ x (nI j) nq = .error 2 := by
        intro nq
        show f_X10_steal σ x (nI j) = _
        unfold f_X10_steal
        rw [hF, exb_i, if_pos (by rw [h8]; exact hw)]
      refine ⟨⟨e1, by rw [hF, exo_i]; exact ⟨hK, trivial⟩⟩, fun nq k hk => Or.inr (by rw [hX] at hk; cases hk; rfl), ⟨e2, fun hz => absurd (hM.symm.trans hz) i_1ne0, fun _ => ⟨h40, fun _ => ⟨fun hz => absurd hz (by decide), fun _ => trivial⟩, fun hz => absurd (by rw [hix]; exact hw) hz⟩⟩, Or.inr ⟨2, hX, ?_, by decide⟩⟩
      unfold f_X11_steal f_X11_steal_28
      rw [hM, if_neg i_1ne0, hix, if_pos hw, if_neg (by decide)]
      rfl
    · have hX : ∀ nq, FL_steal σ x (nI j) nq = .ok ((), xI (xI σ 168 (xe σ 6 j) 2) 169 (xe σ 6 j) (-1)) := by
        intro nq
        show f_X10_steal σ x (nI j) = _
        unfold f_X10_steal
        rw [hF, exb_i, if_neg (by rw [h8]; exact hw)]
      refine ⟨⟨e1, by rw [hF, exo_i]; exact ⟨hK, trivial⟩⟩, fun nq k hk => (by rw [hX] at hk; cases hk), ⟨e2, fun hz => absurd (hM.symm.trans hz) i_1ne0, fun _ => ⟨h40, fun hz => absurd (by rw [hix] at hz; exact hz) hw, fun _ => ⟨fun _ => ⟨h40, h40, trivial⟩, fun _ => trivial⟩⟩⟩, Or.inl ⟨j, hj, hX, ?_⟩⟩
      unfold f_X11_steal f_X11_steal_28
      rw [hM, if_neg i_1ne0, hix, if_neg hw, if_pos rfl]
  · have hX : ∀ nq, FL_steal σ x p0 nq = .error 3 := by
      intro nq
      show f_X10_steal σ x p0 = _
      unfold f_X10_steal
      rw [hF, exb_e]
    refine ⟨⟨e1, by rw [hF, exo_e]; trivial⟩, fun nq k hk => Or.inl (by rw [hX] at hk; cases hk; rfl), ⟨e2, fun _ => ⟨fun hz => absurd hz (by decide), fun _ => trivial⟩, fun hz => absurd hM hz⟩, Or.inr ⟨3, hX, ?_, by decide⟩⟩
    unfold f_X11_steal f_X11_steal_28
    rw [hM, if_pos rfl, if_neg (by decide)]
    rfl
