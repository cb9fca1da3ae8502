/-! ===== the law's sightings ===== -/
/-- a row in the making: its first b fields are f's -/
def RWm (μ μ' : MS) (n b : Nat) (f : Nat → Int32) : Prop := μ'.1 0 = μ.1 0 ∧ μ'.1 2 = μ.1 2 ∧ (∀ i, i < 9 * n → mi μ' 1 i = mi μ 1 i) ∧ ∀ j, j < b → mi μ' 1 (9 * n + j) = f j
def upf (f : Nat → Int32) (b : Nat) (v : Int32) : Nat → Int32 := fun j => if j = b then v else f j
theorem rw_g {μ μ' : MS} {n b b' j : Nat} {f : Nat → Int32} (h : RWm μ μ' n b f) (v : Int32) (hb : ∀ i, i < b' → i = j ∨ i < b) : RWm μ (mI μ' 1 (9 * n + j) v) n b' (upf f j v) := by
  refine ⟨h.1, h.2.1, fun i hi => ?_, fun i hi => ?_⟩
  · rw [mi_at, if_neg (by omega)]
    exact h.2.2.1 i hi
  · rw [mi_at]
    unfold upf
    by_cases c : i = j
    · rw [if_pos c, if_pos (by omega)]
    · rw [if_neg (by omega), if_neg c]
      rcases hb i hi with e | e
      · exact absurd e c
      · exact h.2.2.2 i e
theorem rw_s {μ μ' : MS} {n b : Nat} {f : Nat → Int32} (h : RWm μ μ' n b f) (v : Int32) : RWm μ (mI μ' 1 (9 * n + b) v) n (b + 1) (upf f b v) := rw_g h v (fun i hi => by omega)
theorem lwk_2 {μ μ' ρ : MS} {n5 : Nat} (g : μ'.1 2 = μ.1 2) (h : LWk μ ρ n5) : LWk μ' ρ n5 := by
  have m2 : ∀ i, mi μ' 2 i = mi μ 2 i := fun i => congrFun g i
  refine ⟨h.1, by rw [m2]; exact h.2.1, fun k hk => ?_⟩
  rw [m2, m2, m2, m2]
  exact h.2.2 k hk
theorem lw_2 {μ μ' ρ : MS} {n4 : Nat} (g : μ'.1 2 = μ.1 2) (h : LWd μ ρ n4) : LWd μ' ρ n4 := by
  have m2 : ∀ i, mi μ' 2 i = mi μ 2 i := fun i => congrFun g i
  intro nt hnt
  rw [m2, m2]
  exact h nt hnt
theorem st_see {μ μ' ρ : MS} {σ τ : XS} {x n n4 n5 c nt : Nat} {f : Nat → Int32} (h : STt μ σ x ρ n n4 n5) (hn : n < 7) (hr : RWm μ μ' n 9 f) (e0 : f 0 = nI c) (hc : c < 4) (e1 : f 1 = nI nt) (hnt : nt < 2) (hg : GS τ x (endM (begM ρ c (f 1) (f 2) (f 3) (f 4)) 0 n (f 5) (f 6) (f 7) (f 8)) 4 (n + 1) n4 n5 0) : STt μ' τ x (endM (begM ρ c (f 1) (f 2) (f 3) (f 4)) 0 n (f 5) (f 6) (f 7) (f 8)) (n + 1) n4 n5 := by
  obtain ⟨-, -, hlg, hlk, hlw⟩ := h
  obtain ⟨g0, g2, gl, gr⟩ := hr
  have m0 : ∀ i, mi μ' 0 i = mi μ 0 i := fun i => congrFun g0 i
  refine ⟨by omega, hg, ⟨fun d hd => ?_, fun k hk => ?_⟩, lwk_2 g2 hlk, lw_2 g2 hlw⟩
  · rw [m0, m0, m0]
    exact hlg.1 d hd
  · have m14 : mi (endM (begM ρ c (f 1) (f 2) (f 3) (f 4)) 0 n (f 5) (f 6) (f 7) (f 8)) 14 k = if k = n then nI c else mi ρ 14 k := by
      show mi (mI ρ 14 n (nI c)) 14 k = _
      rw [mi_at]
    have m15 : mi (endM (begM ρ c (f 1) (f 2) (f 3) (f 4)) 0 n (f 5) (f 6) (f 7) (f 8)) 15 k = if k = n then f 1 else mi ρ 15 k := by
      show mi (mI ρ 15 n (f 1)) 15 k = _
      rw [mi_at]
    have m16 : mi (endM (begM ρ c (f 1) (f 2) (f 3) (f 4)) 0 n (f 5) (f 6) (f 7) (f 8)) 16 k = if k = n then f 2 else mi ρ 16 k := by
      show mi (mI ρ 16 n (f 2)) 16 k = _
      rw [mi_at]
    have m17 : mi (endM (begM ρ c (f 1) (f 2) (f 3) (f 4)) 0 n (f 5) (f 6) (f 7) (f 8)) 17 k = if k = n then f 3 else mi ρ 17 k := by
      show mi (mI ρ 17 n (f 3)) 17 k = _
      rw [mi_at]
    have m18 : mi (endM (begM ρ c (f 1) (f 2) (f 3) (f 4)) 0 n (f 5) (f 6) (f 7) (f 8)) 18 k = if k = n then f 4 else mi ρ 18 k := by
      show mi (mI ρ 18 n (f 4)) 18 k = _
      rw [mi_at]
    have m19 : mi (endM (begM ρ c (f 1) (f 2) (f 3) (f 4)) 0 n (f 5) (f 6) (f 7) (f 8)) 19 k = if k = n then f 5 else mi ρ 19 k := by
      show mi (mI ρ 19 n (f 5)) 19 k = _
      rw [mi_at]
    have m20 : mi (endM (begM ρ c (f 1) (f 2) (f 3) (f 4)) 0 n (f 5) (f 6) (f 7) (f 8)) 20 k = if k = n then f 6 else mi ρ 20 k := by
      show mi (mI ρ 20 n (f 6)) 20 k = _
      rw [mi_at]
    have m21 : mi (endM (begM ρ c (f 1) (f 2) (f 3) (f 4)) 0 n (f 5) (f 6) (f 7) (f 8)) 21 k = if k = n then f 7 else mi ρ 21 k := by
      show mi (mI ρ 21 n (f 7)) 21 k = _
      rw [mi_at]
    have m22 : mi (endM (begM ρ c (f 1) (f 2) (f 3) (f 4)) 0 n (f 5) (f 6) (f 7) (f 8)) 22 k = if k = n then f 8 else mi ρ 22 k := by
      show mi (mI ρ 22 n (f 8)) 22 k = _
      rw [mi_at]
    rw [m14, m15, m16, m17, m18, m19, m20, m21, m22]
    by_cases ck : k = n
    · subst ck
      rw [if_pos rfl, if_pos rfl, if_pos rfl, if_pos rfl, if_pos rfl, if_pos rfl, if_pos rfl, if_pos rfl, if_pos rfl]
      exact ⟨⟨c, hc, (gr 0 (by omega)).trans e0, rfl⟩, ⟨nt, hnt, e1⟩, gr 1 (by omega), gr 2 (by omega), gr 3 (by omega), gr 4 (by omega), gr 5 (by omega), gr 6 (by omega), gr 7 (by omega), gr 8 (by omega)⟩
    · rw [if_neg ck, if_neg ck, if_neg ck, if_neg ck, if_neg ck, if_neg ck, if_neg ck, if_neg ck, if_neg ck]
      rw [gl (9 * k) (by omega), gl (9 * k + 1) (by omega), gl (9 * k + 2) (by omega), gl (9 * k + 3) (by omega), gl (9 * k + 4) (by omega), gl (9 * k + 5) (by omega), gl (9 * k + 6) (by omega), gl (9 * k + 7) (by omega), gl (9 * k + 8) (by omega)]
      exact hlg.2 k (by omega)
theorem dif_r {v a : Int32} (h : rng 20 79 v) (g : rng 0 99 a) : rng (-100) 100 (v - a) := by
  have h' := rng_i (L := 20) (H := 79) h rfl rfl
  have g' := rng_i (L := 0) (H := 99) g rfl rfl
  refine rng_of (L := -100) (H := 100) rfl rfl ?_
  rw [i32_sub (m := 1000) (by omega) (by omega)]
  omega
theorem add_r (v : Int32) {b m : Nat} {lo hi : Int32} {L H : Int} (h0 : 0 < m) (hm : m < 1000) (hb : b < 2000) (hl : lo.toInt = L) (hh : hi.toInt = H) (h1 : L ≤ b) (h2 : (b : Int) + m ≤ H + 1) : rng lo hi (nI b + f_L_low v (nI m)) := by
  obtain ⟨j, hj, e⟩ := low_r v h0 hm
  rw [e, nI_add]
  refine rng_of hl hh ?_
  rw [nI_toInt (by omega)]
  omega
section LAWT
variable {x : Nat} {K : Int32 → Prop} {w5 w6 w7 : Int32} {μw : MS} {σw : XS} {KC KE : Int32 × Int32 × Int32 × MS × XS → Prop} {μ μ' ρ : MS} {σ : XS} {n n4 n5 c nt : Nat} {v6 v7 v8 v9 v11 v12 v13 v14 : Int32} {f : Nat → Int32}
theorem wt_475 (h : STt μ σ x ρ n n4 n5) (hn : n < 7) (h4 : n4 < 50) (hC : ∀ μ' τ ρ' m4 m5, m4 ≤ n4 + 1 → STt μ' τ x ρ' (n + 1) m4 m5 → KC (nI (n + 1), v6, v7 + 1, μ', τ)) (hr : RWm μ μ' n 9 f) (e0 : f 0 = nI c) (hc : c < 4) (e1 : f 1 = nI nt) (hnt : nt < 2) (r2 : rng 0 86399 (f 2)) (r3 : rng 1 60 (f 3)) (r4 : rng 1 1000 (f 4)) (d1 : isDir (f 5) (f 6)) (d2 : isDir (f 7) (f 8)) : w_L_law_l140_475 x K w5 w6 w7 μw σw KC KE (nI n) v6 v7 v8 v9 (9 * nI n) μ' σ := by
  have i0 : ix (9 * nI n) = 9 * n := (z_in0 hn).2
  have y0 : vp_in (9 * nI n) 64 := (z_in0 hn).1
  have i1 : ix (9 * nI n + 1) = 9 * n + 1 := (z_in (b := 1) hn (by omega)).2
  have y1 : vp_in (9 * nI n + 1) 64 := (z_in (b := 1) hn (by omega)).1
  have i2 : ix (9 * nI n + 2) = 9 * n + 2 := (z_in (b := 2) hn (by omega)).2
  have y2 : vp_in (9 * nI n + 2) 64 := (z_in (b := 2) hn (by omega)).1
  have i3 : ix (9 * nI n + 3) = 9 * n + 3 := (z_in (b := 3) hn (by omega)).2
  have y3 : vp_in (9 * nI n + 3) 64 := (z_in (b := 3) hn (by omega)).1
  have i4 : ix (9 * nI n + 4) = 9 * n + 4 := (z_in (b := 4) hn (by omega)).2
  have y4 : vp_in (9 * nI n + 4) 64 := (z_in (b := 4) hn (by omega)).1
  have i5 : ix (9 * nI n + 5) = 9 * n + 5 := (z_in (b := 5) hn (by omega)).2
  have y5 : vp_in (9 * nI n + 5) 64 := (z_in (b := 5) hn (by omega)).1
  have i6 : ix (9 * nI n + 6) = 9 * n + 6 := (z_in (b := 6) hn (by omega)).2
  have y6 : vp_in (9 * nI n + 6) 64 := (z_in (b := 6) hn (by omega)).1
  have i7 : ix (9 * nI n + 7) = 9 * n + 7 := (z_in (b := 7) hn (by omega)).2
  have y7 : vp_in (9 * nI n + 7) 64 := (z_in (b := 7) hn (by omega)).1
  have i8 : ix (9 * nI n + 8) = 9 * n + 8 := (z_in (b := 8) hn (by omega)).2
  have y8 : vp_in (9 * nI n + 8) 64 := (z_in (b := 8) hn (by omega)).1
  have q0 : mi μ' 1 (9 * n) = nI c := (hr.2.2.2 0 (by omega)).trans e0
  have q1 : mi μ' 1 (9 * n + 1) = f 1 := hr.2.2.2 1 (by omega)
  have q2 : mi μ' 1 (9 * n + 2) = f 2 := hr.2.2.2 2 (by omega)
  have q3 : mi μ' 1 (9 * n + 3) = f 3 := hr.2.2.2 3 (by omega)
  have q4 : mi μ' 1 (9 * n + 4) = f 4 := hr.2.2.2 4 (by omega)
  have q5 : mi μ' 1 (9 * n + 5) = f 5 := hr.2.2.2 5 (by omega)
  have q6 : mi μ' 1 (9 * n + 6) = f 6 := hr.2.2.2 6 (by omega)
  have q7 : mi μ' 1 (9 * n + 7) = f 7 := hr.2.2.2 7 (by omega)
  have q8 : mi μ' 1 (9 * n + 8) = f 8 := hr.2.2.2 8 (by omega)
  have r1 : rng 0 3649 (f 1) := by
    rw [e1]
    exact rng_of (L := 0) (H := 3649) rfl rfl (by rw [nI_toInt (by omega)]; omega)
  obtain ⟨o1, o2⟩ := v_begin h.2.1 hc r1 r2 r3 r4
  unfold w_L_law_l140_475
  rw [i0, i1, i2, i3, i4, i5, i6, i7, i8, q0, q1, q2, q3, q4, q5, q6, q7, q8]
  refine ⟨y0, y1, y2, y3, y4, o1, fun N hN hN0 => ?_⟩
  obtain ⟨τ1, t1, g1⟩ := o2 N hN hN0
  have m8 : mi (begM ρ c (f 1) (f 2) (f 3) (f 4)) 8 0 = nI c := rfl
  obtain ⟨p1, p2⟩ := v_end g1 (by omega) m8 (by omega) d1 d2
  refine ⟨(), τ1, t1, y5, y6, y7, y8, p1, fun N hN hN0 => ?_⟩
  obtain ⟨τ2, t2, g2⟩ := p2 N hN hN0
  refine ⟨_, τ2, t2, oif_i (fun _ => ?_) (fun z => absurd rfl z)⟩
  rw [nI_1]
  exact wt_604 (st_see h hn hr e0 hc e1 hnt g2) (by omega) h4 hC
theorem wt_447 (h : STt μ σ x ρ n n4 n5) (hn : n < 7) (h4 : n4 < 50) (hC : ∀ μ' τ ρ' m4 m5, m4 ≤ n4 + 1 → STt μ' τ x ρ' (n + 1) m4 m5 → KC (nI (n + 1), v6, v7 + 1, μ', τ)) (hr : RWm μ μ' n 9 f) (e0 : f 0 = nI c) (hc : c < 4) (e1 : f 1 = nI nt) (hnt : nt < 2) (r2 : rng 0 86399 (f 2)) (r3 : rng 1 60 (f 3)) (r4 : rng 1 1000 (f 4)) (d1 : isDir (f 5) (f 6)) (r7 : rng (-100) 100 (f 7)) (r8 : rng (-100) 100 (f 8)) : w_L_law_l140_447 x K w5 w6 w7 μw σw KC KE (nI n) v6 v7 v8 v9 (9 * nI n) μ' σ := by
  have i7 : ix (9 * nI n + 7) = 9 * n + 7 := (z_in (b := 7) hn (by omega)).2
  have y7 : vp_in (9 * nI n + 7) 64 := (z_in (b := 7) hn (by omega)).1
  have i8 : ix (9 * nI n + 8) = 9 * n + 8 := (z_in (b := 8) hn (by omega)).2
  have y8 : vp_in (9 * nI n + 8) 64 := (z_in (b := 8) hn (by omega)).1
  have q7 : mi μ' 1 (9 * n + 7) = f 7 := hr.2.2.2 7 (by omega)
  have q8 : mi μ' 1 (9 * n + 8) = f 8 := hr.2.2.2 8 (by omega)
  unfold w_L_law_l140_447
  rw [i7, i8, q7, q8]
  refine ⟨y7, oif_i (fun a7 => ⟨y8, oif_i (fun a8 => ⟨y8, ?_⟩) (fun a8 => wt_475 h hn h4 hC hr e0 hc e1 hnt r2 r3 r4 d1 ⟨r7, r8, fun z => a8 z.2⟩)⟩) (fun a7 => wt_475 h hn h4 hC hr e0 hc e1 hnt r2 r3 r4 d1 ⟨r7, r8, fun z => a7 z.1⟩)⟩
  refine wt_475 (f := upf f 8 (-1)) h hn h4 hC (rw_g hr (-1) (fun i hi => by omega)) e0 hc e1 hnt r2 r3 r4 d1 ?_
  exact ⟨r7, (show rng (-100) 100 (-1 : Int32) from ⟨by decide, by decide⟩), fun z => absurd (show (-1 : Int32) = 0 from z.2) (by decide)⟩
theorem wt_421 (h : STt μ σ x ρ n n4 n5) (hn : n < 7) (h4 : n4 < 50) (hC : ∀ μ' τ ρ' m4 m5, m4 ≤ n4 + 1 → STt μ' τ x ρ' (n + 1) m4 m5 → KC (nI (n + 1), v6, v7 + 1, μ', τ)) (hr : RWm μ μ' n 9 f) (e0 : f 0 = nI c) (hc : c < 4) (e1 : f 1 = nI nt) (hnt : nt < 2) (r2 : rng 0 86399 (f 2)) (r3 : rng 1 60 (f 3)) (r4 : rng 1 1000 (f 4)) (r5 : rng (-100) 100 (f 5)) (r6 : rng (-100) 100 (f 6)) (r7 : rng (-100) 100 (f 7)) (r8 : rng (-100) 100 (f 8)) : w_L_law_l140_421 x K w5 w6 w7 μw σw KC KE (nI n) v6 v7 v8 v9 (9 * nI n) μ' σ := by
  have i5 : ix (9 * nI n + 5) = 9 * n + 5 := (z_in (b := 5) hn (by omega)).2
  have y5 : vp_in (9 * nI n + 5) 64 := (z_in (b := 5) hn (by omega)).1
  have i6 : ix (9 * nI n + 6) = 9 * n + 6 := (z_in (b := 6) hn (by omega)).2
  have y6 : vp_in (9 * nI n + 6) 64 := (z_in (b := 6) hn (by omega)).1
  have q5 : mi μ' 1 (9 * n + 5) = f 5 := hr.2.2.2 5 (by omega)
  have q6 : mi μ' 1 (9 * n + 6) = f 6 := hr.2.2.2 6 (by omega)
  unfold w_L_law_l140_421
  rw [i5, i6, q5, q6]
  refine ⟨y5, oif_i (fun a5 => ⟨y6, oif_i (fun a6 => ⟨y5, ?_⟩) (fun a6 => wt_447 h hn h4 hC hr e0 hc e1 hnt r2 r3 r4 ⟨r5, r6, fun z => a6 z.2⟩ r7 r8)⟩) (fun a5 => wt_447 h hn h4 hC hr e0 hc e1 hnt r2 r3 r4 ⟨r5, r6, fun z => a5 z.1⟩ r7 r8)⟩
  refine wt_447 (f := upf f 5 1) h hn h4 hC (rw_g hr 1 (fun i hi => by omega)) e0 hc e1 hnt r2 r3 r4 ?_ r7 r8
  exact ⟨(show rng (-100) 100 (1 : Int32) from ⟨by decide, by decide⟩), r6, fun z => absurd (show (1 : Int32) = 0 from z.1) (by decide)⟩
theorem wt_401 (h : STt μ σ x ρ n n4 n5) (hn : n < 7) (h4 : n4 < 50) (hC : ∀ μ' τ ρ' m4 m5, m4 ≤ n4 + 1 → STt μ' τ x ρ' (n + 1) m4 m5 → KC (nI (n + 1), v6, v7 + 1, μ', τ)) (hr : RWm μ μ' n 8 f) (e0 : f 0 = nI c) (hc : c < 4) (e1 : f 1 = nI nt) (hnt : nt < 2) (r2 : rng 0 86399 (f 2)) (r3 : rng 1 60 (f 3)) (r4 : rng 1 1000 (f 4)) (r5 : rng (-100) 100 (f 5)) (r6 : rng (-100) 100 (f 6)) (r7 : rng (-100) 100 (f 7)) (s14 : rng 20 79 v14) : w_L_law_l140_401 x K w5 w6 w7 μw σw KC KE (nI n) v6 v7 v8 v9 (9 * nI n) v14 μ' σ := by
  have i0 : ix (9 * nI n) = 9 * n := (z_in0 hn).2
  have y0 : vp_in (9 * nI n) 64 := (z_in0 hn).1
  have i8 : ix (9 * nI n + 8) = 9 * n + 8 := (z_in (b := 8) hn (by omega)).2
  have y8 : vp_in (9 * nI n + 8) 64 := (z_in (b := 8) hn (by omega)).1
  have q0 : mi μ' 1 (9 * n) = nI c := (hr.2.2.2 0 (by omega)).trans e0
  obtain ⟨-, -, -, k2, k3, -⟩ := h.2.1.1.2.1.2.2.2 c hc
  have g2 : mi μ' 0 (3 * c) = mi ρ 2 c := (congrFun hr.1 _).trans (h.2.2.1.1 c hc).1
  have g3 : mi μ' 0 (3 * c + 1) = mi ρ 3 c := (congrFun hr.1 _).trans (h.2.2.1.1 c hc).2.1
  have j0 : ix (3 * nI c) = 3 * c := (c_in0 hc).2
  have l0 : vp_in (3 * nI c) 16 := (c_in0 hc).1
  have j1 : ix (3 * nI c + 1) = 3 * c + 1 := (c_in (b := 1) hc (by omega)).2
  have l1 : vp_in (3 * nI c + 1) 16 := (c_in (b := 1) hc (by omega)).1
  unfold w_L_law_l140_401
  rw [i0, q0, j1, g3, i8]
  refine ⟨y0, l1, y8, ?_⟩
  exact wt_421 (f := upf f 8 (v14 - mi ρ 3 c)) h hn h4 hC (rw_s hr _) e0 hc e1 hnt r2 r3 r4 r5 r6 r7 (dif_r s14 k3) 
theorem wt_383 (h : STt μ σ x ρ n n4 n5) (hn : n < 7) (h4 : n4 < 50) (hC : ∀ μ' τ ρ' m4 m5, m4 ≤ n4 + 1 → STt μ' τ x ρ' (n + 1) m4 m5 → KC (nI (n + 1), v6, v7 + 1, μ', τ)) (hr : RWm μ μ' n 7 f) (e0 : f 0 = nI c) (hc : c < 4) (e1 : f 1 = nI nt) (hnt : nt < 2) (r2 : rng 0 86399 (f 2)) (r3 : rng 1 60 (f 3)) (r4 : rng 1 1000 (f 4)) (r5 : rng (-100) 100 (f 5)) (r6 : rng (-100) 100 (f 6)) (s13 : rng 20 79 v13) (s14 : rng 20 79 v14) : w_L_law_l140_383 x K w5 w6 w7 μw σw KC KE (nI n) v6 v7 v8 v9 (9 * nI n) v13 v14 μ' σ := by
  have i0 : ix (9 * nI n) = 9 * n := (z_in0 hn).2
  have y0 : vp_in (9 * nI n) 64 := (z_in0 hn).1
  have i7 : ix (9 * nI n + 7) = 9 * n + 7 := (z_in (b := 7) hn (by omega)).2
  have y7 : vp_in (9 * nI n + 7) 64 := (z_in (b := 7) hn (by omega)).1
  have q0 : mi μ' 1 (9 * n) = nI c := (hr.2.2.2 0 (by omega)).trans e0
  obtain ⟨-, -, -, k2, k3, -⟩ := h.2.1.1.2.1.2.2.2 c hc
  have g2 : mi μ' 0 (3 * c) = mi ρ 2 c := (congrFun hr.1 _).trans (h.2.2.1.1 c hc).1
  have g3 : mi μ' 0 (3 * c + 1) = mi ρ 3 c := (congrFun hr.1 _).trans (h.2.2.1.1 c hc).2.1
  have j0 : ix (3 * nI c) = 3 * c := (c_in0 hc).2
  have l0 : vp_in (3 * nI c) 16 := (c_in0 hc).1
  have j1 : ix (3 * nI c + 1) = 3 * c + 1 := (c_in (b := 1) hc (by omega)).2
  have l1 : vp_in (3 * nI c + 1) 16 := (c_in (b := 1) hc (by omega)).1
  unfold w_L_law_l140_383
  rw [i0, q0, j0, g2, i7]
  refine ⟨y0, l0, y7, ?_⟩
  exact wt_401 (f := upf f 7 (v13 - mi ρ 2 c)) h hn h4 hC (rw_s hr _) e0 hc e1 hnt r2 r3 r4 r5 r6 (dif_r s13 k2) s14
theorem wt_363 (h : STt μ σ x ρ n n4 n5) (hn : n < 7) (h4 : n4 < 50) (hC : ∀ μ' τ ρ' m4 m5, m4 ≤ n4 + 1 → STt μ' τ x ρ' (n + 1) m4 m5 → KC (nI (n + 1), v6, v7 + 1, μ', τ)) (hr : RWm μ μ' n 6 f) (e0 : f 0 = nI c) (hc : c < 4) (e1 : f 1 = nI nt) (hnt : nt < 2) (r2 : rng 0 86399 (f 2)) (r3 : rng 1 60 (f 3)) (r4 : rng 1 1000 (f 4)) (r5 : rng (-100) 100 (f 5)) (s12 : rng 20 79 v12) (s13 : rng 20 79 v13) (s14 : rng 20 79 v14) : w_L_law_l140_363 x K w5 w6 w7 μw σw KC KE (nI n) v6 v7 v8 v9 (9 * nI n) v12 v13 v14 μ' σ := by
  have i0 : ix (9 * nI n) = 9 * n := (z_in0 hn).2
  have y0 : vp_in (9 * nI n) 64 := (z_in0 hn).1
  have i6 : ix (9 * nI n + 6) = 9 * n + 6 := (z_in (b := 6) hn (by omega)).2
  have y6 : vp_in (9 * nI n + 6) 64 := (z_in (b := 6) hn (by omega)).1
  have q0 : mi μ' 1 (9 * n) = nI c := (hr.2.2.2 0 (by omega)).trans e0
  obtain ⟨-, -, -, k2, k3, -⟩ := h.2.1.1.2.1.2.2.2 c hc
  have g2 : mi μ' 0 (3 * c) = mi ρ 2 c := (congrFun hr.1 _).trans (h.2.2.1.1 c hc).1
  have g3 : mi μ' 0 (3 * c + 1) = mi ρ 3 c := (congrFun hr.1 _).trans (h.2.2.1.1 c hc).2.1
  have j0 : ix (3 * nI c) = 3 * c := (c_in0 hc).2
  have l0 : vp_in (3 * nI c) 16 := (c_in0 hc).1
  have j1 : ix (3 * nI c + 1) = 3 * c + 1 := (c_in (b := 1) hc (by omega)).2
  have l1 : vp_in (3 * nI c + 1) 16 := (c_in (b := 1) hc (by omega)).1
  unfold w_L_law_l140_363
  rw [i0, q0, j1, g3, i6]
  refine ⟨y0, l1, y6, ?_⟩
  exact wt_383 (f := upf f 6 (v12 - mi ρ 3 c)) h hn h4 hC (rw_s hr _) e0 hc e1 hnt r2 r3 r4 r5 (dif_r s12 k3) s13 s14
theorem wt_346 (h : STt μ σ x ρ n n4 n5) (hn : n < 7) (h4 : n4 < 50) (hC : ∀ μ' τ ρ' m4 m5, m4 ≤ n4 + 1 → STt μ' τ x ρ' (n + 1) m4 m5 → KC (nI (n + 1), v6, v7 + 1, μ', τ)) (hr : RWm μ μ' n 5 f) (e0 : f 0 = nI c) (hc : c < 4) (e1 : f 1 = nI nt) (hnt : nt < 2) (r2 : rng 0 86399 (f 2)) (r3 : rng 1 60 (f 3)) (r4 : rng 1 1000 (f 4))  (s11 : rng 20 79 v11) (s12 : rng 20 79 v12) (s13 : rng 20 79 v13) (s14 : rng 20 79 v14) : w_L_law_l140_346 x K w5 w6 w7 μw σw KC KE (nI n) v6 v7 v8 v9 (9 * nI n) v11 v12 v13 v14 μ' σ := by
  have i0 : ix (9 * nI n) = 9 * n := (z_in0 hn).2
  have y0 : vp_in (9 * nI n) 64 := (z_in0 hn).1
  have i5 : ix (9 * nI n + 5) = 9 * n + 5 := (z_in (b := 5) hn (by omega)).2
  have y5 : vp_in (9 * nI n + 5) 64 := (z_in (b := 5) hn (by omega)).1
  have q0 : mi μ' 1 (9 * n) = nI c := (hr.2.2.2 0 (by omega)).trans e0
  obtain ⟨-, -, -, k2, k3, -⟩ := h.2.1.1.2.1.2.2.2 c hc
  have g2 : mi μ' 0 (3 * c) = mi ρ 2 c := (congrFun hr.1 _).trans (h.2.2.1.1 c hc).1
  have g3 : mi μ' 0 (3 * c + 1) = mi ρ 3 c := (congrFun hr.1 _).trans (h.2.2.1.1 c hc).2.1
  have j0 : ix (3 * nI c) = 3 * c := (c_in0 hc).2
  have l0 : vp_in (3 * nI c) 16 := (c_in0 hc).1
  have j1 : ix (3 * nI c + 1) = 3 * c + 1 := (c_in (b := 1) hc (by omega)).2
  have l1 : vp_in (3 * nI c + 1) 16 := (c_in (b := 1) hc (by omega)).1
  unfold w_L_law_l140_346
  rw [i0, q0, j0, g2, i5]
  refine ⟨y0, l0, y5, ?_⟩
  exact wt_363 (f := upf f 5 (v11 - mi ρ 2 c)) h hn h4 hC (rw_s hr _) e0 hc e1 hnt r2 r3 r4  (dif_r s11 k2) s12 s13 s14
theorem wt_289 (h : STt μ σ x ρ n n4 n5) (hn : n < 7) (h4 : n4 < 50) (hC : ∀ μ' τ ρ' m4 m5, m4 ≤ n4 + 1 → STt μ' τ x ρ' (n + 1) m4 m5 → KC (nI (n + 1), v6, v7 + 1, μ', τ)) (hr : RWm μ μ' n 5 f) (e0 : f 0 = nI c) (hc : c < 4) (e1 : f 1 = nI nt) (hnt : nt < 2) (r2 : rng 0 86399 (f 2)) (r3 : rng 1 60 (f 3)) (r4 : rng 1 1000 (f 4)) : w_L_law_l140_289 x K w5 w6 w7 μw σw KC KE (nI n) v6 v7 v8 v9 (9 * nI n) μ' σ := by
  have s := fun v : Int32 => (show rng 20 79 (20 + f_L_low v 60) from add_r v (b := 20) (m := 60) (L := 20) (H := 79) (by omega) (by omega) (by omega) rfl rfl (by omega) (by omega))
  unfold w_L_law_l140_289 w_L_law_l140_316 w_L_law_l140_331
  exact wt_346 h hn h4 hC hr e0 hc e1 hnt r2 r3 r4 (s _) (s _) (s _) (s _)
theorem wt_269 (h : STt μ σ x ρ n n4 n5) (hn : n < 7) (h4 : n4 < 50) (hC : ∀ μ' τ ρ' m4 m5, m4 ≤ n4 + 1 → STt μ' τ x ρ' (n + 1) m4 m5 → KC (nI (n + 1), v6, v7 + 1, μ', τ)) (hr : RWm μ μ' n 4 f) (e0 : f 0 = nI c) (hc : c < 4) (e1 : f 1 = nI nt) (hnt : nt < 2) (r2 : rng 0 86399 (f 2)) (r3 : rng 1 60 (f 3)) : w_L_law_l140_269 x K w5 w6 w7 μw σw KC KE (nI n) v6 v7 v8 v9 (9 * nI n) μ' σ := by
  have i4 : ix (9 * nI n + 4) = 9 * n + 4 := (z_in (b := 4) hn (by omega)).2
  have y4 : vp_in (9 * nI n + 4) 64 := (z_in (b := 4) hn (by omega)).1
  have s := fun v : Int32 => (show rng 1 1000 (40 + f_L_low v 400) from add_r v (b := 40) (m := 400) (L := 1) (H := 1000) (by omega) (by omega) (by omega) rfl rfl (by omega) (by omega))
  unfold w_L_law_l140_269
  rw [i4]
  exact ⟨y4, wt_289 (f := upf f 4 (40 + f_L_low (v8 >>> ((17 : Int32) &&& 31)) 400)) h hn h4 hC (rw_s hr _) e0 hc e1 hnt r2 r3 (s _)⟩
theorem wt_234 (h : STt μ σ x ρ n n4 n5) (hn : n < 7) (h4 : n4 < 50) (hC : ∀ μ' τ ρ' m4 m5, m4 ≤ n4 + 1 → STt μ' τ x ρ' (n + 1) m4 m5 → KC (nI (n + 1), v6, v7 + 1, μ', τ)) (hr : RWm μ μ' n 3 f) (e0 : f 0 = nI c) (hc : c < 4) (e1 : f 1 = nI nt) (hnt : nt < 2) (r2 : rng 0 86399 (f 2)) : w_L_law_l140_234 x K w5 w6 w7 μw σw KC KE (nI n) v6 v7 v8 v9 (9 * nI n) μ' σ := by
  have i3 : ix (9 * nI n + 3) = 9 * n + 3 := (z_in (b := 3) hn (by omega)).2
  have y3 : vp_in (9 * nI n + 3) 64 := (z_in (b := 3) hn (by omega)).1
  have s60 := fun v : Int32 => (show rng 1 60 (1 + f_L_low v 60) from add_r v (b := 1) (m := 60) (L := 1) (H := 60) (by omega) (by omega) (by omega) rfl rfl (by omega) (by omega))
  have s30 := fun v : Int32 => (show rng 1 60 (1 + f_L_low v 30) from add_r v (b := 1) (m := 30) (L := 1) (H := 60) (by omega) (by omega) (by omega) rfl rfl (by omega) (by omega))
  unfold w_L_law_l140_234 w_L_law_l140_264
  rw [i3]
  exact oif_i (fun _ => ⟨by decide, y3, wt_269 (f := upf f 3 (1 + f_L_low (v8 >>> ((9 : Int32) &&& 31)) 60)) h hn h4 hC (rw_s hr _) e0 hc e1 hnt r2 (s60 _)⟩) (fun _ => ⟨by decide, y3, wt_269 (f := upf f 3 (1 + f_L_low (v8 >>> ((9 : Int32) &&& 31)) 30)) h hn h4 hC (rw_s hr _) e0 hc e1 hnt r2 (s30 _)⟩)
theorem wt_215 (h : STt μ σ x ρ n n4 n5) (hn : n < 7) (h4 : n4 < 50) (hC : ∀ μ' τ ρ' m4 m5, m4 ≤ n4 + 1 → STt μ' τ x ρ' (n + 1) m4 m5 → KC (nI (n + 1), v6, v7 + 1, μ', τ)) (hr : RWm μ μ' n 2 f) (e0 : f 0 = nI c) (hc : c < 4) (e1 : f 1 = nI nt) (hnt : nt < 2) : w_L_law_l140_215 x K w5 w6 w7 μw σw KC KE (nI n) v6 v7 v8 v9 (9 * nI n) μ' σ := by
  have i2 : ix (9 * nI n + 2) = 9 * n + 2 := (z_in (b := 2) hn (by omega)).2
  have y2 : vp_in (9 * nI n + 2) 64 := (z_in (b := 2) hn (by omega)).1
  have s := fun v : Int32 => (show rng 0 86399 (1000 + f_L_low v 12) from add_r v (b := 1000) (m := 12) (L := 0) (H := 86399) (by omega) (by omega) (by omega) rfl rfl (by omega) (by omega))
  unfold w_L_law_l140_215
  rw [i2]
  exact ⟨y2, wt_234 (f := upf f 2 (1000 + f_L_low (v8 >>> ((5 : Int32) &&& 31)) 12)) h hn h4 hC (rw_s hr _) e0 hc e1 hnt (s _)⟩
theorem wt_192 (h : STt μ σ x ρ n n4 n5) (hn : n < 7) (h4 : n4 < 50) (hC : ∀ μ' τ ρ' m4 m5, m4 ≤ n4 + 1 → STt μ' τ x ρ' (n + 1) m4 m5 → KC (nI (n + 1), v6, v7 + 1, μ', τ)) (hc : c < 4) : w_L_law_l140_192 x K w5 w6 w7 μw σw KC KE (nI n) v6 v7 v8 v9 (9 * nI n) (mI μ 1 (9 * n) (nI c)) σ := by
  have i1 : ix (9 * nI n + 1) = 9 * n + 1 := (z_in (b := 1) hn (by omega)).2
  have y1 : vp_in (9 * nI n + 1) 64 := (z_in (b := 1) hn (by omega)).1
  have h0 : RWm μ μ n 0 (fun _ => 0) := ⟨rfl, rfl, fun _ _ => rfl, fun j hj => absurd hj (Nat.not_lt_zero _)⟩
  have h1 : RWm μ (mI μ 1 (9 * n) (nI c)) n 1 (upf (fun _ => 0) 0 (nI c)) := rw_s h0 (nI c)
  unfold w_L_law_l140_192 w_L_law_l140_214
  rw [i1]
  exact oif_i (fun _ => ⟨y1, wt_215 (nt := 1) h hn h4 hC (rw_s h1 1) rfl hc rfl (by omega)⟩) (fun _ => ⟨y1, wt_215 (nt := 0) h hn h4 hC (rw_s h1 0) rfl hc rfl (by omega)⟩)
end LAWT
