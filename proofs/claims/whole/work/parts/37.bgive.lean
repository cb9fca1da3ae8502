/-! lands -/
theorem land_eq (a b : Int32) : f_X10_landOf a b = f_X11_landOf a b ∧ ∃ i, i < 4 ∧ f_X11_landOf a b = nI i := by
  unfold f_X10_landOf f_X10_landOf_11 f_X10_landOf_22 f_X11_landOf
  by_cases h1 : (50 : Int32) ≤ a <;> by_cases h2 : (50 : Int32) ≤ b
  · rw [if_pos h1, if_pos h2, if_pos h1, if_pos h2]; exact ⟨by decide, 3, by decide, rfl⟩
  · rw [if_pos h1, if_neg h2, if_pos h1, if_neg h2]; exact ⟨by decide, 1, by decide, rfl⟩
  · rw [if_neg h1, if_pos h2, if_neg h1, if_pos h2]; exact ⟨by decide, 2, by decide, rfl⟩
  · rw [if_neg h1, if_neg h2, if_neg h1, if_neg h2]; exact ⟨by decide, 0, by decide, rfl⟩
theorem law_in {σ : XS} {x : Nat} {μ : MS} {i : Nat} (h : RLaw σ μ) (hi : i < 4) : f_X10_lawIn σ x (nI i) = mi μ 66 i ∧ of_X10_lawIn σ x (nI i) ∧ vp_in (nI i) 4 ∧ ix (nI i) = i := by
  have h0 : ¬ nI i < 0 := nI_pos (by omega)
  have h4 : ¬ (4 : Int32) ≤ nI i := by rw [show (4 : Int32) = nI 4 from rfl, nI_leI (by decide) (by omega)]; omega
  have hix : ix (nI i) = i := clamp_nI (by omega)
  have hv : vp_in (nI i) 4 := nI_in hi (by decide)
  refine ⟨?_, ⟨fun h => absurd h h0, fun _ => ⟨fun h => absurd h h4, fun _ => ⟨hv, trivial⟩⟩⟩, hv, hix⟩
  unfold f_X10_lawIn
  rw [if_neg h0, if_neg h4, hix]
  exact (h i hi).1
