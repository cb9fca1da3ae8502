/-! ===== the whole relation ===== -/
def Rep (σ : XS) (x : Nat) (μ : MS) : Prop := ∃ n0 n1 n2 n4 n5 n6, Rep0 σ x μ n0 n1 n2 n4 n5 n6 ∧ RG σ n2 (sdt μ n2)
theorem rng_i {lo hi v : Int32} {L H : Int} (h : rng lo hi v) (hl : lo.toInt = L) (hh : hi.toInt = H) : L ≤ v.toInt ∧ v.toInt ≤ H := by
  obtain ⟨h1, h2⟩ := h
  rw [Int32.le_iff_toInt_le] at h1 h2
  omega
theorem rep_mx {σ : XS} {x : Nat} {μ : MS} {n0 n1 n2 n4 n5 n6 : Nat} (h : Rep0 σ x μ n0 n1 n2 n4 n5 n6) : MX μ n2 (sdt μ n2) := by
  obtain ⟨h0, hc, -, -, hs, -⟩ := h
  obtain ⟨c1, -⟩ := hc
  obtain ⟨s1, s2, s3, s4⟩ := hs
  refine ⟨s1, s2, rfl, fun k hk => ?_⟩
  obtain ⟨⟨-, ⟨c, k1, k2, -⟩, -⟩, -⟩ := s4 k hk
  rw [k2]
  exact nI_in (by omega) (by decide)
theorem rep_sx {σ : XS} {x : Nat} {μ : MS} {n0 n1 n2 n4 n5 n6 : Nat} (h : Rep0 σ x μ n0 n1 n2 n4 n5 n6) : SX σ x n2 (sdt μ n2) ∧ Sok (sdt μ n2) n2 := by
  have hM := rep_mx h
  obtain ⟨h0, hc, -, -, hs, -, -, -, -, -, -, -, x5, x6, -⟩ := h
  obtain ⟨c1, c2, ⟨c3, c4, c5⟩, c6⟩ := hc
  obtain ⟨s1, s2, ⟨s3, s5, s6⟩, s4⟩ := hs
  have e0 : (0 : Int32).toInt = 0 := by decide
  have e1 : (1 : Int32).toInt = 1 := by decide
  have e60 : (60 : Int32).toInt = 60 := by decide
  have e99 : (99 : Int32).toInt = 99 := by decide
  have em99 : (-99 : Int32).toInt = -99 := by decide
  have e100 : (100 : Int32).toInt = 100 := by decide
  have em100 : (-100 : Int32).toInt = -100 := by decide
  have e1000 : (1000 : Int32).toInt = 1000 := by decide
  have e3649 : (3649 : Int32).toInt = 3649 := by decide
  have e86399 : (86399 : Int32).toInt = 86399 := by decide
  constructor
  · refine ⟨s1, s3, x5, x6, fun k hk => ?_, s6, fun k m hk hm => ?_⟩
    · obtain ⟨a0, a1, a2, a3, a4, a5, a6, a7, a8, a9, a10⟩ := sdt_at hM hk
      obtain ⟨⟨q1, ⟨c, k1, k2, k3⟩, q2, q3, q4, q5, q6, q7, q8, q9⟩, q10, q11, q12, q13, -, -⟩ := s4 k hk
      have hix : ix (mi μ 14 k) = c := by rw [k2]; exact clamp_nI (by omega)
      obtain ⟨d1, d2, d3, -⟩ := c6 c k1
      rw [hix] at a2 a9 a10
      refine ⟨q1, ?_, ?_, ?_, ?_, ?_, ?_, ?_, ?_, ?_, ?_, ?_⟩
      · rw [k3]; exact c4 c k1
      · rw [q2]; exact a1
      · rw [k3, q3, d3]; exact a2
      · rw [q4]; exact a3
      · rw [q5]; exact a4
      · rw [q10]; exact a5
      · rw [q11]; exact a6
      · rw [q12]; exact a7
      · rw [q13]; exact a8
      · rw [k3, d1]; exact a9
      · rw [k3, d2]; exact a10
    · obtain ⟨a0, -⟩ := sdt_at hM hk
      obtain ⟨b0, -⟩ := sdt_at hM hm
      obtain ⟨⟨-, ⟨c, k1, k2, k3⟩, -⟩, -⟩ := s4 k hk
      obtain ⟨⟨-, ⟨d, m1, m2, m3⟩, -⟩, -⟩ := s4 m hm
      rw [k3, m3, ← a0, ← b0, k2, m2, nI_eq (by omega) (by omega)]
      exact ⟨fun z => c5 c d k1 m1 z, fun z => by rw [z]⟩
  · intro k hk
    obtain ⟨a0, a1, a2, a3, a4, a5, a6, a7, a8, a9, a10⟩ := sdt_at hM hk
    obtain ⟨⟨q1, ⟨c, k1, k2, k3⟩, q2, q3, q4, q5, q6, q7, q8, q9⟩, q10, q11, q12, q13, r1, r2⟩ := s4 k hk
    have hix : ix (mi μ 14 k) = c := by rw [k2]; exact clamp_nI (by omega)
    obtain ⟨-, -, -, d1, d2, d3⟩ := c6 c k1
    rw [hix] at a2 a9 a10
    have w4 := rng_i d3 em99 e99
    have w16 := rng_i q7 e0 e86399
    unfold vv
    rw [← a1, ← a2, ← a3, ← a4, ← a5, ← a6, ← a7, ← a8, ← a9, ← a10]
    have t5 := rng_i r1.1 em100 e100
    have t6 := rng_i r1.2.1 em100 e100
    have t7 := rng_i r2.1 em100 e100
    have t8 := rng_i r2.2.1 em100 e100
    refine ⟨rng_i q6 e0 e3649, ?_, rng_i q8 e1 e60, rng_i q9 e1 e1000, by omega, by omega, by omega, by omega, rng_i d1 e0 e99, rng_i d2 e0 e99⟩
    rw [i32_sub (m := 100000) (by omega) (by omega)]
    omega
theorem rep0_xf {σ σ' : XS} {x : Nat} {μ : MS} {n0 n1 n2 n4 n5 n6 : Nat} (h : Rep0 σ x μ n0 n1 n2 n4 n5 n6) (g : XF σ σ') : Rep0 σ' x μ n0 n1 n2 n4 n5 n6 := by
  rw [xf_eq g]
  exact h
theorem rep0_fr {σ : XS} {x : Nat} {μ μ' : MS} {n0 n1 n2 n4 n5 n6 : Nat} (h : Rep0 σ x μ n0 n1 n2 n4 n5 n6) (g : Fr μ μ') : Rep0 σ x μ' n0 n1 n2 n4 n5 n6 := by
  rw [fr_eq g]
  exact h
theorem sdt_fr {μ μ' : MS} {n : Nat} (g : Fr μ μ') : sdt μ' n = sdt μ n := by
  rw [fr_eq g]
  rfl
theorem rep_fr {σ : XS} {x : Nat} {μ μ' : MS} (h : Rep σ x μ) (g : Fr μ μ') : Rep σ x μ' := by
  obtain ⟨n0, n1, n2, n4, n5, n6, h0, hG⟩ := h
  exact ⟨n0, n1, n2, n4, n5, n6, rep0_fr h0 g, by rw [sdt_fr g]; exact hG⟩
theorem fr_thr (μ : MS) (t : Int32) : Fr μ (mI μ 0 0 t) := fun a h0 _ _ _ _ => mI_ne h0
theorem fr_thr2 {μ μ' : MS} (h : Fr μ μ') (t : Int32) : Fr μ (mI μ' 0 0 t) := fr_tr h (fr_thr μ' t)
theorem thr_at (μ : MS) (t : Int32) : f_X11_thrown (mI μ 0 0 t) = t := by
  show mi (mI μ 0 0 t) 0 0 = t
  rw [mi_at, if_pos rfl]
/-- the start -/
theorem rep_0 (σ : XS) (x : Nat) (hx : 0 < x) (h : XI x 60 σ) : Rep σ x μ0 := by
  obtain ⟨h1, h2, h3, h4, h5, h6, h7, h8, h9, h10⟩ := h
  have l0 : ∀ j K, j ≠ 3 → Lst σ j K 0 := fun j K hj => ⟨h2 j hj, fun i hi => absurd hi (Nat.not_lt_zero _), fun i k hi => absurd hi (Nat.not_lt_zero _)⟩
  have nz : ∀ {P : Nat → Prop}, ∀ i, i < 0 → P i := fun i hi => absurd hi (Nat.not_lt_zero _)
  refine ⟨0, 0, 0, 0, 0, 0, ⟨hx, ⟨by omega, rfl, l0 0 1 (by decide), nz⟩, ⟨by omega, rfl, l0 1 2 (by decide), nz, fun i k hi => absurd hi (Nat.not_lt_zero _)⟩, Or.inl ⟨rfl, h7 223 x⟩, ⟨by omega, rfl, l0 2 7 (by decide), nz⟩, ⟨by omega, nz, rfl, l0 4 10 (by decide), nz, fun i k hi => absurd hi (Nat.not_lt_zero _)⟩, ⟨by omega, rfl, l0 5 9 (by decide), nz⟩, ⟨by omega, nz, fun i _ => ⟨rfl, rfl, rfl, rfl⟩, rfl, l0 6 8 (by decide), nz⟩, fun i _ => ⟨h5 240 i, (show rng 0 2 (0 : Int32) from ⟨by decide, by decide⟩)⟩, fun i _ => ⟨h5 241 i, rfl⟩, fun i _ => Or.inl ⟨rfl, h7 242 i⟩, ⟨h1, h3, h4⟩, h8, h9, h10⟩, ?_⟩
  have hG := gr_JJ (sdt μ0 0) 0
  refine ⟨fun k hk => absurd hk (Nat.not_lt_zero _), fun k hk => absurd hk (Nat.not_lt_zero _), fun f _ => ⟨fun z => ?_, fun _ => h5 101 _⟩⟩
  obtain ⟨⟨m, hm⟩, -⟩ := z
  exact absurd (hG.2 f m hm).1 (Nat.not_lt_zero _)
/-! ===== the bridges that stand: law, minerals, lend, steal, give, doubt ===== -/
theorem br_law : Br_law Rep := by
  intro σ x μ p0 p1 h
  obtain ⟨n0, n1, n2, n4, n5, n6, h0, hG⟩ := h
  obtain ⟨e1, e2, e3, e4⟩ := law0 p0 p1 h0
  refine ⟨e1, e2, e3, fun nq f _ _ => ?_⟩
  rcases e4 nq f with ⟨a1, a2, a3⟩ | ⟨j, hj, r1, a1, a2, a3⟩
  · have b1 := congrArg Prod.fst a3
    have b2 := congrArg Prod.snd a3
    dsimp only at b1 b2
    refine ⟨a1, a2, ?_⟩
    rw [b1, b2]
    exact ⟨n0, n1, n2, n4, n5, n6, thr_rep h0, hG⟩
  · have b1 := congrArg Prod.fst a3
    have b2 := congrArg Prod.snd a3
    dsimp only at b1 b2
    refine ⟨a1, a2, ?_⟩
    rw [b1, b2]
    exact ⟨n0, n1, n2, n4, n5, n6, law_rep r1 h0, hG⟩
theorem br_steal : Br_steal Rep := by
  intro σ x μ p0 h
  obtain ⟨n0, n1, n2, n4, n5, n6, h0, hG⟩ := h
  obtain ⟨e1, e2, e3, e4⟩ := steal0 p0 h0
  refine ⟨e1, e2, e3, fun nq f _ _ => ?_⟩
  rcases e4 with ⟨j, hj, hF, hM⟩ | ⟨k, hF, hM, -⟩
  · rw [hR_o (hF nq), hM]
    exact ⟨rfl, n0, n1, n2, n4, n5, n6, steal_rep hj h0, hG⟩
  · rw [hR_e (hF nq), hM]
    exact ⟨thr_at _ _, n0, n1, n2, n4, n5, n6, thr_rep h0, hG⟩
theorem br_lend : Br_lend Rep := by
  intro σ x μ p0 p1 h
  obtain ⟨n0, n1, n2, n4, n5, n6, h0, hG⟩ := h
  obtain ⟨e1, e2, e3, e4⟩ := lend0 p0 p1 h0
  refine ⟨e1, e2, e3, fun nq f _ _ => ?_⟩
  rcases e4 with ⟨j, u, hj, hF, hM⟩ | ⟨k, hF, hM, -⟩
  · rw [hR_o (hF nq), hM]
    exact ⟨rfl, n0, n1, n2, n4, n5, n6, steal_rep hj h0, hG⟩
  · rw [hR_e (hF nq), hM]
    exact ⟨thr_at _ _, n0, n1, n2, n4, n5, n6, thr_rep h0, hG⟩
theorem br_minerals : Br_minerals Rep := by
  intro σ x μ p0 p1 p2 p3 h
  obtain ⟨n0, n1, n2, n4, n5, n6, h0, hG⟩ := h
  obtain ⟨e1, e2, e3, e4⟩ := minerals0 p0 p1 p2 p3 h0
  refine ⟨e1, e2, e3, fun nq f _ _ => ?_⟩
  rcases e4 with ⟨j, hj, r1, r2, r3, hF, hM⟩ | ⟨k, hF, hM, -⟩
  · rw [hR_o (hF nq), hM]
    exact ⟨rfl, n0, n1, n2, n4, n5, n6, minerals_rep hj r1 r2 r3 h0, hG⟩
  · rw [hR_e (hF nq), hM]
    exact ⟨thr_at _ _, n0, n1, n2, n4, n5, n6, thr_rep h0, hG⟩
theorem cvZ_0 (v : Int32) (f : Nat → Int64) : cvZ v f 0 = if v = 0 then 0 else 1 := va_up_self _ _ _
theorem cvL_0 (v : Int64) (f : Nat → Int64) : cvL v f 0 = v := va_up_self _ _ _
theorem br_give : Br_give Rep := by
  intro σ x μ p0 p1 h
  obtain ⟨n0, n1, n2, n4, n5, n6, h0, hG⟩ := h
  obtain ⟨e1, e2, e3, e4⟩ := give0 p0 p1 h0
  refine ⟨e1, e2, e3, fun nq f _ _ => ?_⟩
  rcases e4 with ⟨j, hj, hF, hM⟩ | ⟨k, hF, hM, hk⟩
  · rw [hR_o (hF nq), hM]
    exact ⟨rfl, fun _ => cvI_0 _ f, n0, n1, n2, n4, n5, n6, give_rep hj h0, hG⟩
  · rw [hR_e (hF nq), hM]
    exact ⟨thr_at _ _, fun z => absurd z hk, n0, n1, n2, n4, n5, n6, thr_rep h0, hG⟩
theorem br_doubt : Br_doubt Rep := by
  intro σ x μ p0 p1 hz h
  obtain ⟨n0, n1, n2, n4, n5, n6, h0, hG⟩ := h
  obtain ⟨e1, e2, e3, e4⟩ := doubt0 p0 p1 hz h0
  refine ⟨e1, e2, e3, fun nq f _ _ => ?_⟩
  rcases e4 with ⟨j, hj, hF, hM⟩ | ⟨k, hF, hM, hk⟩
  · rw [hR_o (hF nq), hM]
    exact ⟨rfl, fun _ => cvZ_0 _ f, n0, n1, n2, n4, n5, n6, doubt_rep hz hj h0, hG⟩
  · rw [hR_e (hF nq), hM]
    exact ⟨thr_at _ _, fun z => absurd z hk, n0, n1, n2, n4, n5, n6, thr_rep h0, hG⟩
