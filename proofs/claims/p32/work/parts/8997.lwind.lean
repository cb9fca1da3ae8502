/-! ===== the law's winds and clocks ===== -/
def wnM (μ : MS) (nt : Nat) (v w : Int32) : MS := mI (mI μ 2 (2 * nt) v) 2 (2 * nt + 1) w
theorem wnM_at (μ : MS) (nt : Nat) (v w : Int32) (j : Nat) : mi (wnM μ nt v w) 2 j = if j = 2 * nt + 1 then w else if j = 2 * nt then v else mi μ 2 j := by
  unfold wnM
  rw [mi_at, mi_at]
theorem wnM_hi (μ : MS) {nt : Nat} (hn : nt < 2) (v w : Int32) {j : Nat} (h : 10 ≤ j) : mi (wnM μ nt v w) 2 j = mi μ 2 j := by
  rw [wnM_at, if_neg (by omega), if_neg (by omega)]
theorem lwk_wn {μ ρ : MS} {n5 nt : Nat} {v w : Int32} (hn : nt < 2) (h : LWk μ ρ n5) : LWk (wnM μ nt v w) ρ n5 := by
  refine ⟨h.1, by rw [wnM_hi μ hn v w (by omega)]; exact h.2.1, fun k hk => ?_⟩
  rw [wnM_hi μ hn v w (by omega), wnM_hi μ hn v w (by omega), wnM_hi μ hn v w (by omega), wnM_hi μ hn v w (by omega)]
  exact h.2.2 k hk
theorem st_w1 {μ ρ : MS} {σ τ : XS} {x n n4 n5 nt j : Nat} {v w : Int32} (h : STt μ σ x ρ n n4 n5) (hnt : nt < 2) (hj : j < n4) (ej : mi ρ 36 j = nI nt) (hg : GS τ x (mI (mI (mI ρ 0 0 0) 37 j v) 38 j w) 4 n n4 n5 0) : STt (wnM μ nt v w) τ x (mI (mI (mI ρ 0 0 0) 37 j v) 38 j w) n n4 n5 := by
  obtain ⟨hn, -, hlg, hlk, hlw⟩ := h
  have m36 : ∀ i, mi (mI (mI (mI ρ 0 0 0) 37 j v) 38 j w) 36 i = mi ρ 36 i := fun i => rfl
  have m37 : ∀ i, mi (mI (mI (mI ρ 0 0 0) 37 j v) 38 j w) 37 i = if i = j then v else mi ρ 37 i := fun i => by
    show mi (mI (mI ρ 0 0 0) 37 j v) 37 i = _
    rw [mi_at]; rfl
  have m38 : ∀ i, mi (mI (mI (mI ρ 0 0 0) 37 j v) 38 j w) 38 i = if i = j then w else mi ρ 38 i := fun i => by
    rw [mi_at]; rfl
  refine ⟨hn, hg, lgh_kp (μ := μ) rfl rfl hlg, lwk_wn hnt hlk, fun nt2 hnt2 => ?_⟩
  rw [wnM_at, wnM_at]
  unfold WNd
  by_cases c : nt2 = nt
  · refine Or.inl ⟨j, hj, by rw [m36, ej, c], ?_, ?_⟩
    · rw [m37, if_pos rfl, if_neg (by omega), if_pos (by omega)]
    · rw [m38, if_pos rfl, if_pos (by omega)]
  · rw [if_neg (by omega), if_neg (by omega), if_neg (by omega), if_neg (by omega)]
    rcases hlw nt2 hnt2 with ⟨i, i1, i2, i3, i4⟩ | ⟨i1, i2⟩
    · have ne : ¬ i = j := fun e => by
        rw [e, ej] at i2
        exact c ((nI_eq (by omega) (by omega)).mp i2).symm
      exact Or.inl ⟨i, i1, i2, by rw [m37, if_neg ne]; exact i3, by rw [m38, if_neg ne]; exact i4⟩
    · exact Or.inr ⟨i1, i2⟩
theorem st_w2 {μ ρ : MS} {σ τ : XS} {x n n4 n5 nt : Nat} {v w : Int32} (h : STt μ σ x ρ n n4 n5) (hnt : nt < 2) (hno : ∀ j, j < n4 → ¬ mi ρ 36 j = nI nt) (hg : GS τ x (wndM ρ n4 (nI nt) v w) 4 n (n4 + 1) n5 0) : STt (wnM μ nt v w) τ x (wndM ρ n4 (nI nt) v w) n (n4 + 1) n5 := by
  obtain ⟨hn, -, hlg, hlk, hlw⟩ := h
  have m36 : ∀ i, mi (wndM ρ n4 (nI nt) v w) 36 i = if i = n4 then nI nt else mi ρ 36 i := fun i => by
    show mi (mI (mI ρ 0 0 0) 36 n4 (nI nt)) 36 i = _
    rw [mi_at]; rfl
  have m37 : ∀ i, mi (wndM ρ n4 (nI nt) v w) 37 i = if i = n4 then v else mi ρ 37 i := fun i => by
    show mi (mI (mI (mI (mI ρ 0 0 0) 36 n4 (nI nt)) 35 0 (nI n4 + 1)) 37 n4 v) 37 i = _
    rw [mi_at]; rfl
  have m38 : ∀ i, mi (wndM ρ n4 (nI nt) v w) 38 i = if i = n4 then w else mi ρ 38 i := fun i => by
    show mi (mI (mI (mI (mI (mI ρ 0 0 0) 36 n4 (nI nt)) 35 0 (nI n4 + 1)) 37 n4 v) 38 n4 w) 38 i = _
    rw [mi_at]; rfl
  refine ⟨hn, hg, lgh_kp (μ := μ) rfl rfl hlg, lwk_wn hnt hlk, fun nt2 hnt2 => ?_⟩
  rw [wnM_at, wnM_at]
  unfold WNd
  by_cases c : nt2 = nt
  · refine Or.inl ⟨n4, by omega, by rw [m36, if_pos rfl, c], ?_, ?_⟩
    · rw [m37, if_pos rfl, if_neg (by omega), if_pos (by omega)]
    · rw [m38, if_pos rfl, if_pos (by omega)]
  · rw [if_neg (by omega), if_neg (by omega), if_neg (by omega), if_neg (by omega)]
    rcases hlw nt2 hnt2 with ⟨i, i1, i2, i3, i4⟩ | ⟨i1, i2⟩
    · have ne : ¬ i = n4 := by omega
      exact Or.inl ⟨i, by omega, by rw [m36, if_neg ne]; exact i2, by rw [m37, if_neg ne]; exact i3, by rw [m38, if_neg ne]; exact i4⟩
    · refine Or.inr ⟨fun i hi => ?_, i2⟩
      rw [m36]
      by_cases ci : i = n4
      · rw [if_pos ci]
        exact fun e => c ((nI_eq (by omega) (by omega)).mp e).symm
      · rw [if_neg ci]
        exact i1 i (by omega)
theorem st_clock {μ ρ : MS} {σ τ : XS} {x n n4 n5 c : Nat} {v : Int32} (h : STt μ σ x ρ n n4 n5) (hg : GS τ x (mI (mI ρ 0 0 0) 4 c v) 4 n n4 n5 0) : STt (mI μ 0 (3 * c + 2) v) τ x (mI (mI ρ 0 0 0) 4 c v) n n4 n5 := by
  obtain ⟨hn, -, hlg, hlk, hlw⟩ := h
  refine ⟨hn, hg, ⟨fun d hd => ?_, hlg.2⟩, hlk, hlw⟩
  obtain ⟨e1, e2, e3⟩ := hlg.1 d hd
  have m4 : mi (mI (mI ρ 0 0 0) 4 c v) 4 d = if d = c then v else mi ρ 4 d := by
    rw [mi_at]; rfl
  have m2 : mi (mI (mI ρ 0 0 0) 4 c v) 2 d = mi ρ 2 d := rfl
  have m3 : mi (mI (mI ρ 0 0 0) 4 c v) 3 d = mi ρ 3 d := rfl
  rw [mi_at, mi_at, mi_at, m2, m3, m4, if_neg (by omega), if_neg (by omega)]
  refine ⟨e1, e2, ?_⟩
  by_cases q : d = c
  · rw [if_pos q, if_pos (by omega)]
  · rw [if_neg q, if_neg (by omega)]
    exact e3
theorem low_20 (v : Int32) : rng (-20) 20 (f_L_low v 41 - 20) := by
  have q : 0 ≤ (f_L_low v 41).toInt ∧ (f_L_low v 41).toInt < ((41 : Nat) : Int) := low_b v (m := 41) (by omega) (by omega)
  have e20 : (20 : Int32).toInt = 20 := rfl
  refine rng_of (L := -20) (H := 20) rfl rfl ?_
  rw [i32_sub (m := 1000) (by rw [e20]; omega) (by omega), e20]
  omega
section LAWT
variable {x : Nat} {K : Int32 → Prop} {w5 w6 w7 : Int32} {μw : MS} {σw : XS} {KC KE : Int32 × Int32 × Int32 × MS × XS → Prop} {μ ρ : MS} {σ : XS} {n n4 n5 : Nat} {v6 v7 v8 v9 : Int32}
theorem wt_604 (h : STt μ σ x ρ n n4 n5) (h1 : 1 ≤ n) (h4 : n4 < 50) (hC : ∀ μ' τ ρ' m4 m5, m4 ≤ n4 + 1 → STt μ' τ x ρ' n m4 m5 → KC (nI n, v6, v7 + 1, μ', τ)) : w_L_law_l140_604 x K w5 w6 w7 μw σw KC KE (nI n) v6 v7 v8 v9 μ σ := by
  unfold w_L_law_l140_604
  refine oif_i (fun _ => ?_) (fun _ => wt_686 h h1 (fun μ' τ ρ' m5 hs => hC μ' τ ρ' n4 m5 (by omega) hs))
  obtain ⟨nt, hnt, ent'⟩ := low_r (v9 >>> ((2 : Int32) &&& 31)) (m := 2) (by omega) (by omega)
  have ent : f_L_low (v9 >>> ((2 : Int32) &&& 31)) 2 = nI nt := ent'
  obtain ⟨v, ev⟩ : ∃ z, z = f_L_low (v9 >>> ((4 : Int32) &&& 31)) 41 - 20 := ⟨_, rfl⟩
  obtain ⟨w, ew⟩ : ∃ z, z = f_L_low (v9 >>> ((10 : Int32) &&& 31)) 41 - 20 := ⟨_, rfl⟩
  have rv : rng (-20) 20 v := by rw [ev]; exact low_20 _
  have rw' : rng (-20) 20 w := by rw [ew]; exact low_20 _
  have x0 : (2 : Int32) * nI nt = nI (2 * nt) := by rw [show (2 : Int32) = nI 2 from rfl, nI_mul]
  have rn : rng 0 3649 (nI nt) := rng_of (L := 0) (H := 3649) rfl rfl (by rw [nI_toInt (by omega)]; omega)
  obtain ⟨o1, o2⟩ := v_wind h.2.1 h4 rn rv rw'
  rw [ent, ← ev, x0, ix_n (by omega)]
  refine ⟨in_n (by omega) (by omega), ?_⟩
  unfold w_L_law_l140_642
  rw [x0, nI_1, ix_n (by omega), ← ew]
  refine ⟨in_n (by omega) (by omega), ?_⟩
  show w_L_law_l140_664 x K w5 w6 w7 μw σw KC KE (nI n) v6 v7 v8 v9 (nI nt) (wnM μ nt v w) σ
  unfold w_L_law_l140_664
  rw [x0, nI_1, ix_n (by omega), ix_n (by omega)]
  have r0 : mi (wnM μ nt v w) 2 (2 * nt) = v := by rw [wnM_at, if_neg (by omega), if_pos rfl]
  have r1 : mi (wnM μ nt v w) 2 (2 * nt + 1) = w := by rw [wnM_at, if_pos rfl]
  rw [r0, r1]
  refine ⟨in_n (by omega) (by omega), in_n (by omega) (by omega), o1, fun N hN hN0 => ?_⟩
  obtain ⟨τ, e, hg⟩ := o2 N hN hN0
  refine ⟨(), τ, e, ?_⟩
  rcases hg with ⟨j, hj, ej, hg⟩ | ⟨hno, hg⟩
  · exact wt_686 (st_w1 h hnt hj ej hg) h1 (fun μ' τ ρ' m5 hs => hC μ' τ ρ' n4 m5 (by omega) hs)
  · exact wt_686 (st_w2 h hnt hno hg) h1 (fun μ' τ ρ' m5 hs => hC μ' τ ρ' (n4 + 1) m5 (by omega) hs)
theorem wt_573 {c : Nat} {v : Int32} (h : STt μ σ x ρ n n4 n5) (h1 : 1 ≤ n) (h4 : n4 < 50) (hc : c < 4) (hv : rng (-99) 99 v) (hC : ∀ μ' τ ρ' m4 m5, m4 ≤ n4 + 1 → STt μ' τ x ρ' n m4 m5 → KC (nI n, v6, v7 + 1, μ', τ)) : w_L_law_l140_573 x K w5 w6 w7 μw σw KC KE (nI n) v6 v7 v8 v9 (nI c) v μ σ := by
  obtain ⟨o1, o2⟩ := v_clock h.2.1 hc hv
  have i2 : ix (3 * nI c + 2) = 3 * c + 2 := (c_in (b := 2) hc (by omega)).2
  have y2 : vp_in (3 * nI c + 2) 16 := (c_in (b := 2) hc (by omega)).1
  unfold w_L_law_l140_573
  rw [i2]
  refine ⟨o1, fun N hN hN0 => ?_⟩
  obtain ⟨τ, e, hg⟩ := o2 N hN hN0
  exact ⟨_, τ, e, y2, oif_i (fun _ => ⟨y2, wt_604 (st_clock h hg) h1 h4 hC⟩) (fun z => absurd ((h.2.2.1.1 c hc).2.2).symm z)⟩
end LAWT
