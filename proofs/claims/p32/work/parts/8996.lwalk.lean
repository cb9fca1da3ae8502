/-! ===== the law's turns: what holds between its steps; its walks ===== -/
/-- the law's rows of cameras and sightings, against the reference's memory -/
def LGh (μ ρ : MS) (n : Nat) : Prop := (∀ c, c < 4 → mi μ 0 (3 * c) = mi ρ 2 c ∧ mi μ 0 (3 * c + 1) = mi ρ 3 c ∧ mi μ 0 (3 * c + 2) = mi ρ 4 c) ∧ ∀ k, k < n → (∃ c, c < 4 ∧ mi μ 1 (9 * k) = nI c ∧ mi ρ 14 k = nI c) ∧ (∃ nt, nt < 2 ∧ mi ρ 15 k = nI nt) ∧ mi μ 1 (9 * k + 1) = mi ρ 15 k ∧ mi μ 1 (9 * k + 2) = mi ρ 16 k ∧ mi μ 1 (9 * k + 3) = mi ρ 17 k ∧ mi μ 1 (9 * k + 4) = mi ρ 18 k ∧ mi μ 1 (9 * k + 5) = mi ρ 19 k ∧ mi μ 1 (9 * k + 6) = mi ρ 20 k ∧ mi μ 1 (9 * k + 7) = mi ρ 21 k ∧ mi μ 1 (9 * k + 8) = mi ρ 22 k
def STt (μ : MS) (σ : XS) (x : Nat) (ρ : MS) (n n4 n5 : Nat) : Prop := n ≤ 7 ∧ GS σ x ρ 4 n n4 n5 0 ∧ LGh μ ρ n ∧ LWk μ ρ n5 ∧ LWd μ ρ n4
theorem st_lz {μ ρ : MS} {σ : XS} {x n n4 n5 : Nat} (h : STt μ σ x ρ n n4 n5) : LZ μ n (sdt ρ n) := by
  obtain ⟨hn, hg, ⟨hc, hs⟩, -, -⟩ := h
  have hM := rep_mx hg.1
  refine ⟨hn, fun k hk => ?_⟩
  obtain ⟨a0, a1, a2, a3, a4, a5, a6, a7, a8, a9, a10⟩ := sdt_at hM hk
  obtain ⟨⟨c, c1, c2, c3⟩, -, b1, b2, b3, b4, b5, b6, b7, b8⟩ := hs k hk
  obtain ⟨d1, d2, d3⟩ := hc c c1
  have hix : ix (mi ρ 14 k) = c := by rw [c3]; exact clamp_nI (by omega)
  rw [hix] at a2 a9 a10
  exact ⟨c, c1, c2, a0.symm.trans c3, b1.trans a1, by rw [b2, d3]; exact a2, b3.trans a3, b4.trans a4, b5.trans a5, b6.trans a6, b7.trans a7, b8.trans a8, d1.trans a9, d2.trans a10⟩
theorem st_ln {μ ρ : MS} {σ : XS} {x n n4 n5 : Nat} (h : STt μ σ x ρ n n4 n5) : LN ρ n := by
  obtain ⟨hn, hg, ⟨hc, hs⟩, -, -⟩ := h
  have hM := rep_mx hg.1
  intro k hk
  obtain ⟨a0, a1, -⟩ := sdt_at hM hk
  obtain ⟨-, ⟨nt, c1, c2⟩, -⟩ := hs k hk
  exact ⟨nt, c1, a1.symm.trans c2⟩
theorem lgh_kp {μ μ' ρ : MS} {n : Nat} (g0 : μ'.1 0 = μ.1 0) (g1 : μ'.1 1 = μ.1 1) (h : LGh μ ρ n) : LGh μ' ρ n := by
  have m0 : ∀ i, mi μ' 0 i = mi μ 0 i := fun i => congrFun g0 i
  have m1 : ∀ i, mi μ' 1 i = mi μ 1 i := fun i => congrFun g1 i
  refine ⟨fun c hc => ?_, fun k hk => ?_⟩
  · rw [m0, m0, m0]
    exact h.1 c hc
  · rw [m1, m1, m1, m1, m1, m1, m1, m1, m1]
    exact h.2 k hk
theorem st_kp {μ μ' ρ : MS} {σ : XS} {x n n4 n5 : Nat} (g : KPr μ μ') (h : STt μ σ x ρ n n4 n5) : STt μ' σ x ρ n n4 n5 := ⟨h.1, h.2.1, lgh_kp g.1 g.2.1 h.2.2.1, kp_lwk g h.2.2.2.1, kp_lw g h.2.2.2.2⟩
/-! a walk -/
def wkM (μ : MS) (n5 : Nat) (p a b c : Int32) : MS := mI (mI (mI (mI (mI μ 2 (11 + 4 * n5) p) 2 (12 + 4 * n5) a) 2 (13 + 4 * n5) b) 2 (14 + 4 * n5) c) 2 10 (nI (n5 + 1))
theorem wkM_at (μ : MS) (n5 : Nat) (p a b c : Int32) (j : Nat) : mi (wkM μ n5 p a b c) 2 j = if j = 10 then nI (n5 + 1) else if j = 14 + 4 * n5 then c else if j = 13 + 4 * n5 then b else if j = 12 + 4 * n5 then a else if j = 11 + 4 * n5 then p else mi μ 2 j := by
  unfold wkM
  rw [mi_at, mi_at, mi_at, mi_at, mi_at]
theorem wkM_lo (μ : MS) (n5 : Nat) (p a b c : Int32) {j : Nat} (h : j < 10) : mi (wkM μ n5 p a b c) 2 j = mi μ 2 j := by
  rw [wkM_at, if_neg (by omega), if_neg (by omega), if_neg (by omega), if_neg (by omega), if_neg (by omega)]
theorem aw_at (ρ : MS) (n5 : Nat) (p a b c : Int32) (k : Nat) : mi (addW ρ n5 p a b c) 40 k = (if k = n5 then p else mi ρ 40 k) ∧ mi (addW ρ n5 p a b c) 41 k = (if k = n5 then a else mi ρ 41 k) ∧ mi (addW ρ n5 p a b c) 42 k = (if k = n5 then b else mi ρ 42 k) ∧ mi (addW ρ n5 p a b c) 43 k = (if k = n5 then c else mi ρ 43 k) := by
  refine ⟨?_, ?_, ?_, ?_⟩
  · show mi (mI ρ 40 n5 p) 40 k = _
    rw [mi_at]
  · show mi (mI (mI ρ 40 n5 p) 41 n5 a) 41 k = _
    rw [mi_at]; rfl
  · show mi (mI (mI (mI ρ 40 n5 p) 41 n5 a) 42 n5 b) 42 k = _
    rw [mi_at]; rfl
  · show mi (mI (mI (mI (mI ρ 40 n5 p) 41 n5 a) 42 n5 b) 43 n5 c) 43 k = _
    rw [mi_at]; rfl
theorem st_walk {μ ρ : MS} {σ τ : XS} {x n n4 n5 : Nat} {p a b c : Int32} (h : STt μ σ x ρ n n4 n5) (h6 : n5 < 6) (hg : GS τ x (addW ρ n5 p a b c) 4 n n4 (n5 + 1) 0) : STt (wkM μ n5 p a b c) τ x (addW ρ n5 p a b c) n n4 (n5 + 1) := by
  obtain ⟨hn, -, hlg, ⟨-, k2, k3⟩, hlw⟩ := h
  refine ⟨hn, hg, lgh_kp (μ := μ) rfl rfl hlg, ⟨by omega, by rw [wkM_at, if_pos rfl], fun k hk => ?_⟩, fun nt hnt => ?_⟩
  · obtain ⟨e0, e1, e2, e3⟩ := aw_at ρ n5 p a b c k
    rw [e0, e1, e2, e3, wkM_at, wkM_at, wkM_at, wkM_at]
    by_cases ck : k = n5
    · subst ck
      refine ⟨?_, ?_, ?_, ?_⟩
      · rw [if_neg (by omega), if_neg (by omega), if_neg (by omega), if_neg (by omega), if_pos rfl, if_pos rfl]
      · rw [if_neg (by omega), if_neg (by omega), if_neg (by omega), if_pos rfl, if_pos rfl]
      · rw [if_neg (by omega), if_neg (by omega), if_pos rfl, if_pos rfl]
      · rw [if_neg (by omega), if_pos rfl, if_pos rfl]
    · obtain ⟨o1, o2, o3, o4⟩ := k3 k (by omega)
      refine ⟨?_, ?_, ?_, ?_⟩
      · rw [if_neg (by omega), if_neg (by omega), if_neg (by omega), if_neg (by omega), if_neg (by omega), if_neg ck]
        exact o1
      · rw [if_neg (by omega), if_neg (by omega), if_neg (by omega), if_neg (by omega), if_neg (by omega), if_neg ck]
        exact o2
      · rw [if_neg (by omega), if_neg (by omega), if_neg (by omega), if_neg (by omega), if_neg (by omega), if_neg ck]
        exact o3
      · rw [if_neg (by omega), if_neg (by omega), if_neg (by omega), if_neg (by omega), if_neg (by omega), if_neg ck]
        exact o4
  · rw [wkM_lo _ _ _ _ _ _ (by omega), wkM_lo _ _ _ _ _ _ (by omega)]
    exact hlw nt hnt
section LAWT
variable {x : Nat} {K : Int32 → Prop} {w5 w6 w7 : Int32} {μw : MS} {σw : XS} {KC KE : Int32 × Int32 × Int32 × MS × XS → Prop} {μ ρ : MS} {σ : XS} {n n4 n5 : Nat} {v6 v7 v8 v9 : Int32}
theorem wt_928 (h : STt μ σ x ρ n n4 n5) (hC : ∀ τ, STt μ τ x ρ n n4 n5 → KC (nI n, v6, v7 + 1, μ, τ)) : w_L_law_l140_928 x K w5 w6 w7 μw σw KC KE (nI n) v6 v7 v9 μ σ := by
  unfold w_L_law_l140_928 w_L_law_l140_954
  refine oif_i (fun _ => ⟨fun v τ => v = 1 ∧ GS τ x ρ 4 n n4 n5 0, wright h.2.1 (st_lz h) h.2.2.2.1 h.2.2.2.2 (st_ln h) (fun τ hτ => ⟨rfl, hτ⟩), fun v τ hv => oif_i (fun z => ?_) (fun _ => hC τ ⟨h.1, hv.2, h.2.2⟩)⟩) (fun _ => hC σ h)
  rw [hv.1] at z
  exact absurd z (by decide)
theorem wt_815 {i : Nat} {a : Int32} {ty : Int64} (h : STt μ σ x ρ n n4 n5) (h6 : n5 < 6) (hf : isF (JJ (sdt ρ n) n) i) (hg : AL (sdt ρ n) n i (μ.2 4)) (ra : rng 0 99 a) (rb : rng 0 99 ty.toInt32) (hC : ∀ μ' τ ρ' m5, STt μ' τ x ρ' n n4 m5 → KC (nI n, v6, v7 + 1, μ', τ)) : w_L_law_l140_815 x K w5 w6 w7 μw σw KC KE (nI n) v6 v7 v8 v9 (nI i) a ty μ σ := by
  obtain ⟨hn, hgs, hlg, hlk, hlw⟩ := id h
  obtain ⟨-, -, -, hin⟩ := fb_k hgs hf
  obtain ⟨b, eb⟩ : ∃ b, b = ty.toInt32 := ⟨_, rfl⟩
  rw [← eb] at rb
  have e10 : mi μ 2 10 = nI n5 := hlk.2.1
  have e11 : (11 : Int32) + 4 * nI n5 = nI (11 + 4 * n5) := by
    rw [show (11 : Int32) = nI 11 from rfl, show (4 : Int32) = nI 4 from rfl, nI_mul, nI_add]
  have x1 : nI (11 + 4 * n5) + 1 = nI (12 + 4 * n5) := by rw [nI_1]; congr 1; omega
  have x2 : nI (11 + 4 * n5) + 2 = nI (13 + 4 * n5) := by rw [show (2 : Int32) = nI 2 from rfl, nI_add]; congr 1; omega
  have x3 : nI (11 + 4 * n5) + 3 = nI (14 + 4 * n5) := by rw [show (3 : Int32) = nI 3 from rfl, nI_add]; congr 1; omega
  obtain ⟨c, ec⟩ : ∃ c, c = 1 + f_L_low (v8 >>> ((20 : Int32) &&& 31)) 100 := ⟨_, rfl⟩
  have rc : rng 1 100 c := by
    have q : 0 ≤ (f_L_low (v8 >>> ((20 : Int32) &&& 31)) 100).toInt ∧ (f_L_low (v8 >>> ((20 : Int32) &&& 31)) 100).toInt < ((100 : Nat) : Int) := low_b _ (m := 100) (by omega) (by omega)
    have e1 : (1 : Int32).toInt = 1 := rfl
    refine rng_of (L := 1) (H := 100) rfl rfl ?_
    rw [ec, i32_add (m := 1000) (by rw [e1]; omega) (by omega), e1]
    omega
  obtain ⟨nt, hnt, ent⟩ := st_ln h i hin
  obtain ⟨o1, o2⟩ := v_walk hgs (by omega) hf (by rw [ent]; exact hlw nt hnt) ra rb rc
  unfold w_L_law_l140_815
  rw [ixl_10, e10, e11, ix_n (by omega), ← eb]
  refine ⟨in_n (by omega) (by omega), ?_⟩
  unfold w_L_law_l140_837
  rw [x1, ix_n (by omega)]
  refine ⟨in_n (by omega) (by omega), ?_⟩
  unfold w_L_law_l140_846
  rw [x2, ix_n (by omega)]
  refine ⟨in_n (by omega) (by omega), ?_⟩
  unfold w_L_law_l140_855
  rw [x3, ix_n (by omega), ← ec]
  refine ⟨in_n (by omega) (by omega), ?_⟩
  unfold w_L_law_l140_874
  rw [ixl_10]
  have r10 : mi (mI (mI (mI (mI μ 2 (11 + 4 * n5) (nI i)) 2 (12 + 4 * n5) a) 2 (13 + 4 * n5) b) 2 (14 + 4 * n5) c) 2 10 = nI n5 := by
    rw [mi_at, mi_at, mi_at, mi_at, if_neg (by omega), if_neg (by omega), if_neg (by omega), if_neg (by omega)]
    exact e10
  rw [r10, nI_1]
  show w_L_law_l140_883 x K w5 w6 w7 μw σw KC KE (nI n) v6 v7 v9 (nI i) a b (nI (11 + 4 * n5)) (wkM μ n5 (nI i) a b c) σ
  unfold w_L_law_l140_883
  rw [x3, ix_n (by omega)]
  have r14 : mi (wkM μ n5 (nI i) a b c) 2 (14 + 4 * n5) = c := by
    rw [wkM_at, if_neg (by omega), if_pos rfl]
  rw [r14]
  refine ⟨in_n (by omega) (by omega), o1, fun N hN' hN0 => ?_⟩
  obtain ⟨V, τ, e, hgτ, hv⟩ := o2 N hN' hN0
  have hst := st_walk h h6 hgτ
  have v1 : vp_in (9 * nI i + 1) 64 := (z_in (b := 1) (by omega) (by omega)).1
  obtain ⟨a1, -⟩ := z_rd (st_lz hst) hin
  have es : sdt (addW ρ n5 (nI i) a b c) n = sdt ρ n := rfl
  rw [es] at a1
  refine ⟨V, τ, e, v1, fun U => U.toInt = V.toInt, ?_, fun U hU => oif_i (fun _ => wt_928 hst (fun τ' hτ' => hC _ _ _ _ hτ')) (fun z => absurd ?_ z)⟩
  · rw [a1, ent]
    refine lchance (s := sdt ρ n) (f := i) (n := n) hst.2.2.2.1 hgτ.1.2.2.2.2.2.2.1 hgτ.1.2.2.2.2.2.1 hst.2.2.2.2 hnt hg ra rb (fun U hU => ?_)
    rw [hU, hv, wkM_lo _ _ _ _ _ _ (by omega), wkM_lo _ _ _ _ _ _ (by omega)]
  · rw [lg_cmp_eq, ← Int64.toInt_inj, hU]
theorem wt_774 {i : Nat} {tx : Int64} (h : STt μ σ x ρ n n4 n5) (h6 : n5 < 6) (hf : isF (JJ (sdt ρ n) n) i) (hg : AL (sdt ρ n) n i (μ.2 4)) (ra : rng 0 99 tx.toInt32) (hC : ∀ μ' τ ρ' m5, STt μ' τ x ρ' n n4 m5 → KC (nI n, v6, v7 + 1, μ', τ)) : w_L_law_l140_774 x K w5 w6 w7 μw σw KC KE (nI n) v6 v7 v8 v9 (nI i) tx μ σ := by
  have h4 : B6 (ml μ 4 4) (zTy (sdt ρ n) n i) 198009900 := hg.2.2.2.2.1
  unfold w_L_law_l140_774
  rw [ixl_4]
  exact oif_i (fun y1 => oif_i (fun y2 => wt_815 h h6 hf hg ra (cell_m h4 ((b6_ge h4 b6_0).mp y1) ((b6_cle h4 b6_9900).mp y2)) hC) (fun _ => wt_815 h h6 hf hg ra cell_99 hC)) (fun _ => wt_815 h h6 hf hg ra cell_0 hC)
theorem wt_686 (h : STt μ σ x ρ n n4 n5) (h1 : 1 ≤ n) (hC : ∀ μ' τ ρ' m5, STt μ' τ x ρ' n n4 m5 → KC (nI n, v6, v7 + 1, μ', τ)) : w_L_law_l140_686 x K w5 w6 w7 μw σw KC KE (nI n) v6 v7 v8 v9 μ σ := by
  have hn := h.1
  have hs := gs_sok h.2.1
  have e10 : mi μ 2 10 = nI n5 := h.2.2.2.1.2.1
  have h6' := h.2.2.2.1.1
  obtain ⟨j, hj, ej⟩ := low_r (v9 >>> ((3 : Int32) &&& 31)) (m := n) h1 (by omega)
  have hl := low_le (JJ (sdt ρ n) n) j
  unfold w_L_law_l140_686
  rw [ej]
  refine ⟨fun z => ?_, fun v => v = -1 ∨ ∃ i, i < n ∧ v = nI i ∧ isF (JJ (sdt ρ n) n) i, wgroup (st_lz h) hs hj (fun c => Or.inr ⟨_, by omega, rfl, jd_F (gr_JJ (sdt ρ n) n) c⟩) (fun _ => Or.inl rfl), fun v hv => ?_⟩
  · have : n = 0 := (nI_eq (b := 0) (by omega) (by omega)).mp z
    omega
  rcases hv with e | ⟨i, hi, e, hf⟩
  · rw [e]
    exact oif_i (fun _ => wt_928 h (fun τ hτ => hC μ τ ρ n5 hτ)) (fun z => absurd (show (-1 : Int32) < 0 by decide) z)
  · rw [e]
    refine oif_i (fun z => absurd z (nI_pos (by omega))) (fun _ => ?_)
    rw [ixl_10, e10]
    refine oif_i (fun _ => wt_928 h (fun τ hτ => hC μ τ ρ n5 hτ)) (fun y => ?_)
    have h6 : n5 < 6 := by
      rcases Nat.lt_or_ge n5 6 with z | z
      · exact z
      · exact absurd (nI_le (a := 6) z (by omega)) y
    have kz : KPr μ (mZJ μ 4) := ⟨rfl, rfl, rfl⟩
    refine ⟨fun g => AL (sdt ρ n) n i g, wall (kp_lz kz (st_lz h)) hs hf (fun g hg => hg), fun g hg => ?_⟩
    have kq : KPr μ (mQ (mZJ μ 4) 4 g) := ⟨rfl, rfl, rfl⟩
    have h' := st_kp kq h
    have hg' : AL (sdt ρ n) n i ((mQ (mZJ μ 4) 4 g).2 4) := hg
    have h3 : B6 (ml (mQ (mZJ μ 4) 4 g) 4 3) (zTx (sdt ρ n) n i) 198009900 := hg.2.2.2.1
    rw [ixl_3]
    exact oif_i (fun y1 => oif_i (fun y2 => wt_774 h' h6 hf hg' (cell_m h3 ((b6_ge h3 b6_0).mp y1) ((b6_cle h3 b6_9900).mp y2)) hC) (fun _ => wt_774 h' h6 hf hg' cell_99 hC)) (fun _ => wt_774 h' h6 hf hg' cell_0 hC)
end LAWT
