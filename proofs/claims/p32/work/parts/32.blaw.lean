/-! ===== law ===== -/
theorem law_rep {σ : XS} {x : Nat} {μ : MS} {n0 n1 n2 n4 n5 n6 : Nat} {t v : Int32} {i : Nat} (hv : rng 0 2 v) (h : Rep0 σ x μ n0 n1 n2 n4 n5 n6) : Rep0 (xI σ 240 i v) x (mI (mI μ 0 0 t) 66 i v) n0 n1 n2 n4 n5 n6 := by
  obtain ⟨h1, h2, h3, h4, h5, h6, h7, h8, h9, h10, h11, h12⟩ := h
  refine ⟨h1, h2, h3, h4, h5, h6, h7, h8, fun k hk => ?_, h10, h11, h12⟩
  show up2 σ.2.1 240 i v 240 k = up2 (mI μ 0 0 t).1 66 i v 66 k ∧ rng 0 2 (up2 (mI μ 0 0 t).1 66 i v 66 k)
  rw [up2_at, up2_at, if_pos rfl, if_pos rfl]
  by_cases hki : k = i
  · rw [if_pos hki, if_pos hki]; exact ⟨rfl, hv⟩
  · rw [if_neg hki, if_neg hki]; exact h9 k hk
theorem thr_rep {σ : XS} {x : Nat} {μ : MS} {n0 n1 n2 n4 n5 n6 : Nat} {t : Int32} (h : Rep0 σ x μ n0 n1 n2 n4 n5 n6) : Rep0 σ x (mI μ 0 0 t) n0 n1 n2 n4 n5 n6 := by
  obtain ⟨h1, h2, h3, h4, h5, h6, h7, h8, h9, h10, h11, h12⟩ := h
  exact ⟨h1, h2, h3, h4, h5, h6, h7, h8, h9, h10, h11, h12⟩
theorem rng_iff {p : Int32} {n : Nat} (hn : n < 2 ^ 31) {hi : Int32} (e : hi = nI n - 1) : rng 0 hi p ↔ ∃ j : Nat, j < n ∧ p = nI j := by
  subst e
  constructor
  · intro h; exact in_nat hn h
  · rintro ⟨j, hj, rfl⟩; exact nat_in hn hj
theorem hR_e {α : Type} {cd : Nat → Int32} {cv : α → (Nat → Int64) → Nat → Int64} {r : Except Nat (α × XS)} {f : Nat → Int64} {σ : XS} {k : Nat} (h : r = .error k) : hR cd cv r f σ = (cd k, f, σ) := by rw [h]; rfl
theorem hR_o {α : Type} {cd : Nat → Int32} {cv : α → (Nat → Int64) → Nat → Int64} {r : Except Nat (α × XS)} {f : Nat → Int64} {σ τ : XS} {v : α} (h : r = .ok (v, τ)) : hR cd cv r f σ = (0, cv v f, τ) := by rw [h]; rfl
theorem cvI_0 (v : Int32) (f : Nat → Int64) : cvI v f 0 = v.toInt64 := va_up_self _ _ _
theorem clamp_nI {j : Nat} (h : j < 2 ^ 31) : ix (nI j) = j := nI_clamp h
theorem law0 {σ : XS} {x : Nat} {μ : MS} {n0 n1 n2 n4 n5 n6 : Nat} (p0 p1 : Int32) (h : Rep0 σ x μ n0 n1 n2 n4 n5 n6) : of_X10_law σ x p0 p1 ∧ (∀ nq k, FL_law σ x p0 p1 nq = .error k → k = 1) ∧ of_X11_law μ p0 p1 ∧
    ∀ nq f, f_X11_thrown (f_X11_law μ p0 p1).2 = (hR cd_law cvI (FL_law σ x p0 p1 nq) f σ).1 ∧ ((hR cd_law cvI (FL_law σ x p0 p1 nq) f σ).1 = 0 → (hR cd_law cvI (FL_law σ x p0 p1 nq) f σ).2.1 0 = ((f_X11_law μ p0 p1).1).toInt64) ∧ ((hR cd_law cvI (FL_law σ x p0 p1 nq) f σ).2.2, (f_X11_law μ p0 p1).2) = (σ, mI μ 0 0 1) ∨ ∃ j, j < 4 ∧ rng 0 2 p1 ∧ f_X11_thrown (f_X11_law μ p0 p1).2 = (hR cd_law cvI (FL_law σ x p0 p1 nq) f σ).1 ∧ ((hR cd_law cvI (FL_law σ x p0 p1 nq) f σ).1 = 0 → (hR cd_law cvI (FL_law σ x p0 p1 nq) f σ).2.1 0 = ((f_X11_law μ p0 p1).1).toInt64) ∧ ((hR cd_law cvI (FL_law σ x p0 p1 nq) f σ).2.2, (f_X11_law μ p0 p1).2) = (xI σ 240 j p1, mI (mI μ 0 0 0) 66 j p1) := by
  by_cases h1 : rng 0 3 p0
  · obtain ⟨j, hj, rfl⟩ := (rng_iff (n := 4) (by decide) (by decide)).mp h1
    have hj0 : ¬ nI j < 0 := nI_pos (by omega)
    have hj4 : ¬ (4 : Int32) ≤ nI j := by
      rw [show (4 : Int32) = nI 4 from rfl, nI_leI (by decide) (by omega)]; omega
    have hin : vp_in (nI j) 4 := nI_in hj (by decide)
    have hix : ix (nI j) = j := clamp_nI (by omega)
    by_cases h2 : rng 0 2 p1
    · have hF : ∀ nq, FL_law σ x (nI j) p1 nq = .ok (xi σ 240 j, xI σ 240 j p1) := by
        intro nq
        show f_X10_law σ x (nI j) p1 = _
        unfold f_X10_law f_X10_lawIn
        rw [req_y h1, exb_i, req_y h2, exb_i, if_neg hj0, if_neg hj4, if_neg hj0, if_neg hj4, hix]
      have hM : f_X11_law μ (nI j) p1 = (mi μ 66 j, mI (mI μ 0 0 0) 66 j p1) := by
        unfold f_X11_law f_X11_law_24
        rw [isIn_y h1, if_neg i_1ne0, isIn_y h2, if_neg i_1ne0, if_pos (by decide), hix]
      refine ⟨?_, fun nq k hk => (by rw [hF] at hk; cases hk), ?_, fun nq f => Or.inr ⟨j, hj, h2, ?_⟩⟩
      · unfold of_X10_law of_X10_lawIn
        rw [req_y h1, exo_i, req_y h2, exo_i]
        exact ⟨⟨fun h => absurd h hj0, fun _ => ⟨fun h => absurd h hj4, fun _ => ⟨hin, trivial⟩⟩⟩, fun h => absurd h hj0, fun _ => ⟨fun h => absurd h hj4, fun _ => ⟨hin, trivial⟩⟩⟩
      · unfold of_X11_law of_X11_law_24
        rw [isIn_y h1, isIn_y h2]
        exact ⟨fun h => absurd h i_1ne0, fun _ => ⟨fun h => absurd h i_1ne0, fun _ => ⟨fun _ => ⟨hin, hin, trivial⟩, fun _ => trivial⟩⟩⟩
      · rw [hR_o (hF nq), hM]
        refine ⟨rfl, fun _ => ?_, rfl⟩
        show cvI (xi σ 240 j) f 0 = (mi μ 66 j).toInt64
        rw [cvI_0, ((h.2.2.2.2.2.2.2.2.1) j hj).1]
    · have hF : ∀ nq, FL_law σ x (nI j) p1 nq = .error 1 := by
        intro nq
        show f_X10_law σ x (nI j) p1 = _
        unfold f_X10_law
        rw [req_y h1, exb_i, req_n h2, exb_e]
      have hM : f_X11_law μ (nI j) p1 = (0, mI μ 0 0 1) := by
        unfold f_X11_law f_X11_law_24
        rw [isIn_y h1, if_neg i_1ne0, isIn_n h2, if_pos rfl, if_neg (by decide)]
      refine ⟨?_, fun nq k hk => by rw [hF] at hk; cases hk; rfl, ?_, fun nq f => Or.inl ?_⟩
      · unfold of_X10_law
        rw [req_y h1, exo_i, req_n h2, exo_e]; trivial
      · unfold of_X11_law of_X11_law_24
        rw [isIn_y h1, isIn_n h2]
        exact ⟨fun h => absurd h i_1ne0, fun _ => ⟨fun _ => ⟨fun h => absurd h (by decide), fun _ => trivial⟩, fun h => absurd rfl h⟩⟩
      · rw [hR_e (hF nq), hM]
        exact ⟨rfl, fun h => absurd (show (1 : Int32) = 0 from h) (by decide), rfl⟩
  · have hF : ∀ nq, FL_law σ x p0 p1 nq = .error 1 := by
      intro nq
      show f_X10_law σ x p0 p1 = _
      unfold f_X10_law
      rw [req_n h1, exb_e]
    have hM : f_X11_law μ p0 p1 = (0, mI μ 0 0 1) := by
      unfold f_X11_law f_X11_law_24
      rw [isIn_n h1, if_pos rfl, if_neg (by decide)]
    refine ⟨?_, fun nq k hk => by rw [hF] at hk; cases hk; rfl, ?_, fun nq f => Or.inl ?_⟩
    · unfold of_X10_law
      rw [req_n h1, exo_e]; trivial
    · unfold of_X11_law of_X11_law_24
      rw [isIn_n h1]
      exact ⟨fun _ => ⟨fun h => absurd h (by decide), fun _ => trivial⟩, fun h => absurd rfl h⟩
    · rw [hR_e (hF nq), hM]
      exact ⟨rfl, fun h => absurd (show (1 : Int32) = 0 from h) (by decide), rfl⟩
