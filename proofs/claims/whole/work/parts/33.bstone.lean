/-! ===== stones: which there are ===== -/
theorem st_ex {σ : XS} {x : Nat} {μ : MS} {n6 : Nat} (p : Int32) (h : RSto σ μ n6) : of_X10_existingStone σ x p ∧ of_X11_isStone μ p ∧ ((∃ j, j < n6 ∧ p = nI j ∧ ix p = j ∧ vp_in p 40 ∧ vp_in p n6 ∧ f_X10_existingStone σ x p = .ok (xe σ 6 j) ∧ f_X11_isStone μ p = 1 ∧ xk σ (xe σ 6 j) = 8) ∨ (¬ (¬ p < 0 ∧ p < nI n6) ∧ f_X10_existingStone σ x p = .error 3 ∧ f_X11_isStone μ p = 0)) := by
  obtain ⟨h40, -, -, hn, ⟨hl, hk, -⟩, -⟩ := h
  have hlt : n6 < 2 ^ 31 := by omega
  by_cases hp : ¬ p < 0 ∧ p < nI n6
  · obtain ⟨j, hj, rfl⟩ := in_nat hlt ((in_iff hlt).mpr hp)
    have hix : ix (nI j) = j := clamp_nI (by omega)
    have hi : f_X11_isIn (nI j) 0 (nI n6 - 1) = 1 := isIn_y (nat_in hlt hj)
    have hv : vp_in (nI j) n6 := nI_in hj hlt
    refine ⟨?_, ?_, Or.inl ⟨j, hj, rfl, hix, nI_in (by omega) (by decide), hv, ?_, ?_, hk j hj⟩⟩
    · refine ⟨fun h => absurd h hp.1, fun _ => ⟨fun _ => ⟨by rw [hl]; exact hv, by rw [hix]; exact hk j hj, trivial⟩, fun _ => trivial⟩⟩
    · exact ⟨by rw [hn, hi]; exact Or.inr rfl, trivial⟩
    · unfold f_X10_existingStone
      rw [if_neg hp.1, hl, if_pos hp.2, hix]
    · unfold f_X11_isStone
      rw [hn, hi]
  · have hi : f_X11_isIn p 0 (nI n6 - 1) = 0 := isIn_n (fun h => hp ((in_iff hlt).mp h))
    refine ⟨?_, ?_, Or.inr ⟨hp, ?_, ?_⟩⟩
    · refine ⟨fun _ => trivial, fun h1 => ⟨fun h2 => absurd ⟨h1, by rw [hl] at h2; exact h2⟩ hp, fun _ => trivial⟩⟩
    · exact ⟨by rw [hn, hi]; exact Or.inl rfl, trivial⟩
    · unfold f_X10_existingStone f_X10_existingStone_17
      by_cases h1 : p < 0
      · rw [if_pos h1]
      · rw [if_neg h1, hl, if_neg (fun h2 => hp ⟨h1, h2⟩)]
    · unfold f_X11_isStone
      rw [hn, hi]
