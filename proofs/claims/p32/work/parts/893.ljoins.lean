/-! ===== the law joins what the document joins ===== -/
theorem z_in {k b : Nat} (hk : k < 7) (hb : b < 9) : vp_in (9 * nI k + nI b) 64 ∧ ix (9 * nI k + nI b) = 9 * k + b := by
  rw [show (9 : Int32) = nI 9 from rfl, nI_mul, nI_add]
  exact ⟨in_n (by omega) (by omega), ix_n (by omega)⟩
theorem z_in0 {k : Nat} (hk : k < 7) : vp_in (9 * nI k) 64 ∧ ix (9 * nI k) = 9 * k := by
  rw [show (9 : Int32) = nI 9 from rfl, nI_mul]
  exact ⟨in_n (by omega) (by omega), ix_n (by omega)⟩
theorem c_in {c b : Nat} (hc : c < 4) (hb : b < 3) : vp_in (3 * nI c + nI b) 16 ∧ ix (3 * nI c + nI b) = 3 * c + b := by
  rw [show (3 : Int32) = nI 3 from rfl, nI_mul, nI_add]
  exact ⟨in_n (by omega) (by omega), ix_n (by omega)⟩
theorem c_in0 {c : Nat} (hc : c < 4) : vp_in (3 * nI c) 16 ∧ ix (3 * nI c) = 3 * c := by
  rw [show (3 : Int32) = nI 3 from rfl, nI_mul]
  exact ⟨in_n (by omega) (by omega), ix_n (by omega)⟩
theorem z_rd {μ : MS} {n : Nat} {s : Nat → Nat → Int32} (h : LZ μ n s) {k : Nat} (hk : k < n) : mi μ 1 (ix (9 * nI k + 1)) = s k 1 ∧ mi μ 1 (ix (9 * nI k + 3)) = s k 3 ∧ mi μ 1 (ix (9 * nI k + 4)) = s k 4 ∧ mi μ 1 (ix (9 * nI k)) = s k 0 ∧ ∃ c, c < 4 ∧ s k 0 = nI c ∧ mi μ 1 (ix (9 * nI k + 2)) - mi μ 0 (ix (3 * nI c + 2)) = s k 2 := by
  obtain ⟨c, h1, h2, h3, h4, h5, h6, h7, -⟩ := h.2 k hk
  have hn := h.1
  have i0 := (z_in0 (k := k) (by omega)).2
  have i1 : ix (9 * nI k + 1) = 9 * k + 1 := (z_in (b := 1) (by omega) (by omega)).2
  have i2 : ix (9 * nI k + 2) = 9 * k + 2 := (z_in (b := 2) (by omega) (by omega)).2
  have i3 : ix (9 * nI k + 3) = 9 * k + 3 := (z_in (b := 3) (by omega) (by omega)).2
  have i4 : ix (9 * nI k + 4) = 9 * k + 4 := (z_in (b := 4) (by omega) (by omega)).2
  have j2 : ix (3 * nI c + 2) = 3 * c + 2 := (c_in (b := 2) h1 (by omega)).2
  rw [i0, i1, i2, i3, i4]
  exact ⟨h4, h6, h7, h2.trans h3.symm, c, h1, h3, by rw [j2]; exact h5⟩
theorem i32_by (a b c d : Int32) : ((a - b) - c) + d = (a - b) - (c - d) := by grind
theorem wjoins {μ : MS} {n : Nat} {s : Nat → Nat → Int32} (h : LZ μ n s) (hs : Sok s n) {i j : Nat} (hi : i < n) (hj : j < n) {K : Int32 → Prop} (h1 : jn s i j = true → K 1) (h0 : jn s i j = false → K 0) : w_L_joins μ (nI i) (nI j) K := by
  have hn := h.1
  obtain ⟨a1, a3, a4, a0, c, c1, c2, c3⟩ := z_rd h hi
  obtain ⟨b1, b3, b4, b0, d, d1, d2, d3⟩ := z_rd h hj
  have zi : ∀ b, b < 9 → vp_in (9 * nI i + nI b) 64 := fun b hb => (z_in (by omega) hb).1
  have zj : ∀ b, b < 9 → vp_in (9 * nI j + nI b) 64 := fun b hb => (z_in (by omega) hb).1
  have no : mjB s i j = false → K 0 := fun z => h0 (by unfold jn; rw [z]; rfl)
  have e30 : (30 : Int32).toInt = 30 := by decide
  have e50 : (50 : Int32).toInt = 50 := by decide
  unfold w_L_joins
  rw [a0, b0, a1, b1, a3, b3, a4, b4, c2, d2]
  refine oif_i (fun g => h0 ?_) (fun g => ⟨(z_in0 (by omega)).1, (z_in0 (by omega)).1, ?_⟩)
  · have e := (nI_eq (by omega) (by omega)).mp g
    subst e
    exact jn_ir s i
  refine oif_i (fun g0 => no (decide_eq_false fun z => z.2.1 (by rw [c2, d2]; exact g0))) (fun g0 => ⟨zi 1 (by omega), zj 1 (by omega), ?_⟩)
  refine oif_i (fun g1 => ⟨zi 3 (by omega), ?_⟩) (fun g1 => no (decide_eq_false fun z => g1 z.1))
  refine oif_i (fun g2 => no (decide_eq_false fun z => ?_)) (fun g2 => ⟨zj 3 (by omega), ?_⟩)
  · have := (le_ti (a := s i 3) e30).2.2.1.mp g2
    have := z.2.2.1.1
    unfold vv at this
    omega
  refine oif_i (fun g3 => no (decide_eq_false fun z => ?_)) (fun g3 => ⟨zi 4 (by omega), ?_⟩)
  · have := (le_ti (a := s j 3) e30).2.2.1.mp g3
    have := z.2.2.2.1.1
    unfold vv at this
    omega
  refine oif_i (fun g4 => no (decide_eq_false fun z => ?_)) (fun g4 => ⟨zj 4 (by omega), ?_⟩)
  · have := (le_ti (a := s i 4) e50).2.2.2.mp g4
    have := z.2.2.1.2
    unfold vv at this
    omega
  refine oif_i (fun g5 => ⟨zi 2 (by omega), (z_in0 (by omega)).1, (c_in (b := 2) c1 (by omega)).1, zj 2 (by omega), (z_in0 (by omega)).1, (c_in (b := 2) d1 (by omega)).1, ?_⟩) (fun g5 => no (decide_eq_false fun z => ?_))
  · rw [i32_by, c3, d3]
    have hi2 := (hs i hi).2.1
    have hj2 := (hs j hj).2.1
    have e2 : (s i 2 - s j 2).toInt = vv s i 2 - vv s j 2 := i32_sub (m := 100000) (by show (vv s i 2 - vv s j 2).natAbs ≤ 100000; omega) (by omega)
    have e6 : (6 : Int32).toInt = 6 := by decide
    have em6 : (-6 : Int32).toInt = -6 := by decide
    have ok : (vv s i 2 - vv s j 2).natAbs ≤ 5 → mjB s i j = true := fun z => by
      have t3 : ¬ 30 < (s i 3).toInt := fun y => g2 ((le_ti e30).2.2.1.mpr y)
      have t4 : ¬ 30 < (s j 3).toInt := fun y => g3 ((le_ti e30).2.2.1.mpr y)
      have t5 : ¬ (s i 4).toInt < 50 := fun y => g4 ((le_ti e50).2.2.2.mpr y)
      have t6 : 50 ≤ (s j 4).toInt := (le_ti e50).1.mp g5
      exact decide_eq_true ⟨g1, fun y => g0 (by rw [← c2, ← d2]; exact y), ⟨by unfold vv; omega, by unfold vv; omega⟩, ⟨by unfold vv; omega, by unfold vv; omega⟩, z⟩
    unfold w_L_joins_m138
    refine oif_i (fun g6 => no (decide_eq_false fun z => ?_)) (fun g6 => ?_)
    · have := (le_ti (a := s i 2 - s j 2) e6).1.mp g6
      have := z.2.2.2.2
      omega
    refine oif_i (fun g7 => no (decide_eq_false fun z => ?_)) (fun g7 => ?_)
    · have := (le_ti (a := s i 2 - s j 2) em6).2.1.mp g7
      have := z.2.2.2.2
      omega
    have hm : mjB s i j = true := by
      have q1 : ¬ 6 ≤ (s i 2 - s j 2).toInt := fun z => g6 ((le_ti e6).1.mpr z)
      have q2 : ¬ (s i 2 - s j 2).toInt ≤ -6 := fun z => g7 ((le_ti em6).2.1.mpr z)
      exact ok (by omega)
    refine ⟨fun v _ => (v = 1 ∧ sB s 5 i j = true) ∨ (v = 0 ∧ sB s 5 i j = false), wcross (μ := mZJ μ 5) (b := 5) (K := fun v _ => (v = 1 ∧ sB s 5 i j = true) ∨ (v = 0 ∧ sB s 5 i j = false)) (lz_eq h rfl rfl) hs hi hj (Or.inl rfl) (fun z _ _ _ => Or.inl ⟨rfl, z⟩) (fun z _ => Or.inr ⟨rfl, z⟩), fun v u hv => ?_⟩
    rcases hv with ⟨rfl, y5⟩ | ⟨rfl, y5⟩
    · refine oif_i (fun z => absurd z (by decide)) (fun _ => ?_)
      refine ⟨fun v _ => (v = 1 ∧ sB s 7 i j = true) ∨ (v = 0 ∧ sB s 7 i j = false), wcross (μ := mQ (mZJ μ 5) 5 u) (b := 7) (K := fun v _ => (v = 1 ∧ sB s 7 i j = true) ∨ (v = 0 ∧ sB s 7 i j = false)) (lz_eq h rfl rfl) hs hi hj (Or.inr rfl) (fun z _ _ _ => Or.inl ⟨rfl, z⟩) (fun z _ => Or.inr ⟨rfl, z⟩), fun v u hv => ?_⟩
      rcases hv with ⟨rfl, y7⟩ | ⟨rfl, y7⟩
      · exact oif_i (fun z => absurd z (by decide)) (fun _ => h1 (by unfold jn; rw [hm, y5, y7]; rfl))
      · exact oif_i (fun _ => h0 (by unfold jn; rw [y7, Bool.and_false])) (fun z => absurd rfl z)
    · exact oif_i (fun _ => h0 (by unfold jn; rw [y5, Bool.and_false, Bool.false_and])) (fun z => absurd rfl z)
  · have := z.2.2.2.1.2
    exact g5 ((le_ti e50).1.mpr this)
