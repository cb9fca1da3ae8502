/-! ===== the law's crossing and joining ===== -/
theorem lz_c {μ : MS} {n : Nat} {s : Nat → Nat → Int32} (h : LZ μ n s) {k b : Nat} (hk : k < n) (hb : b = 5 ∨ b = 7) : ∃ c, c < 4 ∧ mi μ 1 (9 * k) = nI c ∧ s k 0 = nI c ∧ mi μ 1 (9 * k + b) = s k b ∧ mi μ 1 (9 * k + b + 1) = s k (b + 1) ∧ mi μ 0 (3 * c) = s k 9 ∧ mi μ 0 (3 * c + 1) = s k 10 := by
  obtain ⟨c, h1, h2, h3, h4, h5, h6, h7, h8, h9, h10, h11, h12, h13⟩ := h.2 k hk
  rcases hb with rfl | rfl
  · exact ⟨c, h1, h2, h3, h8, h9, h12, h13⟩
  · exact ⟨c, h1, h2, h3, h10, h11, h12, h13⟩
theorem ix_n {m : Nat} (h : m < 1000) : ix (nI m) = m := clamp_nI (by omega)
theorem in_n {m N : Nat} (h : m < N) (hN : N < 1000) : vp_in (nI m) N := nI_in h (by omega)
theorem b6_v {s : Nat → Nat → Int32} {k j m : Nat} (h : (vv s k j).natAbs ≤ m) : B6 (s k j).toInt64 (vv s k j) m := b6_32 h
theorem q5_01 (μ : MS) (A B : Int64) : ((mL (mL μ 5 (ix 0) A) 5 (ix 1) B).2 5) 0 = A ∧ ((mL (mL μ 5 (ix 0) A) 5 (ix 1) B).2 5) 1 = B := by
  have h1 := ml_at (mL μ 5 (ix 0) A) 5 (ix 1) B 0
  have h2 := ml_at (mL μ 5 (ix 0) A) 5 (ix 1) B 1
  have h3 := ml_at μ 5 (ix 0) A 0
  rw [if_neg (by decide)] at h1
  rw [if_pos (by decide)] at h2
  rw [if_pos (by decide)] at h3
  exact ⟨h1.trans h3, h2⟩
theorem cr_213 {μ : MS} {p2 p3 p4 : Int32} {K : Int32 → (Nat → Int64) → Prop} {c : Nat} {v8 v10 T M : Int64} {cx cy X Y t g : Int} (hc : c < 4) (hx : (mi μ 0 (3 * c)).toInt = cx) (hy : (mi μ 0 (3 * c + 1)).toInt = cy) (h9 : 0 ≤ cx ∧ cx ≤ 99) (h10 : 0 ≤ cy ∧ cy ≤ 99) (h8 : B6 v8 X 100) (hv10 : B6 v10 Y 100) (hT : B6 T t 20000) (ht : 0 < t) (hM : B6 M g 19800) (hK : ∀ u : Nat → Int64, (u 0).toInt = cP cx X t g → (u 1).toInt = cP cy Y t g → K 1 u) : vp_in (nI (3 * c)) 16 ∧ (¬ T = 0 ∧ (w_L_cross_m213 p2 p3 p4 K (nI (3 * c)) v10 T M (mL μ 5 (ix 0) (f_L_down (100 * ((((mi μ 0 (ix (nI (3 * c)))).toInt64) * T) + (M * v8))) T)))) := by
  have e1 : nI (3 * c) + 1 = nI (3 * c + 1) := nI_1 _
  have n0 := b6_n0 hT ht
  refine ⟨in_n (by omega) (by omega), n0, ?_⟩
  unfold w_L_cross_m213
  rw [e1, ix_n (by omega), ix_n (by omega)]
  refine ⟨in_n (by omega) (by omega), n0, ?_⟩
  have bx : B6 (mi μ 0 (3 * c)).toInt64 cx 99 := b6_i32 hx (by omega)
  have by' : B6 (mi μ 0 (3 * c + 1)).toInt64 cy 99 := b6_i32 hy (by omega)
  have q1 := b6_ld (b6_cP bx h8 hT (by omega) hM) hT ht (by omega)
  have q2 := b6_ld (b6_cP by' hv10 hT (by omega) hM) hT ht (by omega)
  refine hK _ ?_ ?_
  · rw [(q5_01 μ _ _).1]
    exact q1.1
  · rw [(q5_01 μ _ _).2]
    exact q2.1
theorem wcross {μ : MS} {n : Nat} {s : Nat → Nat → Int32} (h : LZ μ n s) (hs : Sok s n) {i j b : Nat} (hi : i < n) (hj : j < n) (hb : b = 5 ∨ b = 7) {K : Int32 → (Nat → Int64) → Prop} (h1 : sB s b i j = true → ∀ u : Nat → Int64, (u 0).toInt = sX s b i j → (u 1).toInt = sY s b i j → K 1 u) (h0 : sB s b i j = false → ∀ u, K 0 u) : w_L_cross μ (nI i) (nI j) (nI b) K := by
  have hn := h.1
  obtain ⟨c, c1, c2, c3, c4, c5, c6, c7⟩ := lz_c h hi hb
  obtain ⟨d, d1, d2, d3, d4, d5, d6, d7⟩ := lz_c h hj hb
  have hS : cS (vv s i 9) (vv s i 10) (vv s i b) (vv s i (b + 1)) (vv s j 9) (vv s j 10) (vv s j b) (vv s j (b + 1)) := by
    rcases hb with rfl | rfl
    · exact sS5 hs hi hj
    · exact sS7 hs hi hj
  obtain ⟨a1, a2, a3, a4, a5, a6, a7, a8⟩ := hS
  have e9 : (9 : Int32) = nI 9 := rfl
  have e3 : (3 : Int32) = nI 3 := rfl
  unfold w_L_cross w_L_cross_m46
  rw [e9, e3, nI_mul, nI_mul, nI_add, nI_add, nI_1, nI_1, ix_n (by omega), ix_n (by omega), ix_n (by omega), ix_n (by omega), ix_n (by omega), ix_n (by omega), c2, d2, nI_mul, nI_mul, c4, c5, d4, d5]
  refine ⟨in_n (by omega) (by omega), in_n (by omega) (by omega), in_n (by omega) (by omega), in_n (by omega) (by omega), in_n (by omega) (by omega), in_n (by omega) (by omega), ?_⟩
  have p1 := b6_v (s := s) (k := i) (j := b) (m := 100) a3
  have p2 := b6_v (s := s) (k := i) (j := b + 1) (m := 100) a4
  have p3 := b6_v (s := s) (k := j) (j := b) (m := 100) a7
  have p4 := b6_v (s := s) (k := j) (j := b + 1) (m := 100) a8
  have pT := b6_cT p1 p2 p3 p4 (by omega)
  unfold w_L_cross_m72
  refine oif_i (fun g => ?_) (fun g => ?_)
  · have hT := (b6_ceq pT b6_0).mp g
    refine h0 ?_ _
    unfold sB cB
    simp [hT]
  have hT : cT (vv s i b) (vv s i (b + 1)) (vv s j b) (vv s j (b + 1)) ≠ 0 := fun z => g ((b6_ceq pT b6_0).mpr z)
  unfold w_L_cross_m106 w_L_cross_m122 w_L_cross_m148
  rw [nI_1, nI_1, ix_n (by omega), ix_n (by omega), ix_n (by omega), ix_n (by omega), c6, c7, d6, d7]
  refine ⟨in_n (by omega) (by omega), in_n (by omega) (by omega), in_n (by omega) (by omega), in_n (by omega) (by omega), ?_⟩
  have e1 : (s j 9 - s i 9).toInt = vv s j 9 - vv s i 9 := i32_sub (m := 99) (by show (vv s j 9 - vv s i 9).natAbs ≤ 99; omega) (by omega)
  have e2 : (s j 10 - s i 10).toInt = vv s j 10 - vv s i 10 := i32_sub (m := 99) (by show (vv s j 10 - vv s i 10).natAbs ≤ 99; omega) (by omega)
  have q1 : B6 (s j 9 - s i 9).toInt64 (vv s j 9 - vv s i 9) 99 := b6_i32 e1 (by omega)
  have q2 : B6 (s j 10 - s i 10).toInt64 (vv s j 10 - vv s i 10) 99 := b6_i32 e2 (by omega)
  have pt := b6_cT q1 q2 p3 p4 (by omega)
  have pr := b6_cT q1 q2 p1 p2 (by omega)
  have hcx : (mi μ 0 (3 * c)).toInt = vv s i 9 := by rw [c6]; rfl
  have hcy : (mi μ 0 (3 * c + 1)).toInt = vv s i 10 := by rw [c7]; rfl
  unfold sB cB sX sY cX cY at *
  generalize cT (vv s i b) (vv s i (b + 1)) (vv s j b) (vv s j (b + 1)) = T at *
  generalize cT (vv s j 9 - vv s i 9) (vv s j 10 - vv s i 10) (vv s j b) (vv s j (b + 1)) = u at *
  generalize cT (vv s j 9 - vv s i 9) (vv s j 10 - vv s i 10) (vv s i b) (vv s i (b + 1)) = v at *
  have fin : ∀ (T6 u6 v6 : Int64), B6 T6 (cG T * T) 20000 → B6 u6 (cG T * u) 19800 → B6 v6 (cG T * v) 19800 → 0 < cG T * T → w_L_cross_m170 (nI i) (nI j) (nI b) K (nI (3 * c)) (s i b).toInt64 (s i (b + 1)).toInt64 T6 u6 v6 μ := by
    intro T6 u6 v6 hT6 hu6 hv6 hp
    unfold w_L_cross_m170
    refine oif_i (fun g => ?_) (fun g => ?_)
    · refine h0 (decide_eq_false ?_) _
      have := (b6_cle hu6 b6_0).mp g
      omega
    have gu : 0 < cG T * u := by
      rcases Int.lt_or_le 0 (cG T * u) with z | z
      · exact z
      · exact absurd ((b6_cle hu6 b6_0).mpr z) g
    refine oif_i (fun g2 => ?_) (fun g2 => ?_)
    · have gv := (b6_gt hv6 b6_0).mp g2
      exact cr_213 c1 hcx hcy a1 a2 p1 p2 hT6 hp hu6 (h1 (decide_eq_true ⟨hT, gu, gv⟩))
    · refine h0 (decide_eq_false ?_) _
      intro z
      exact g2 ((b6_gt hv6 b6_0).mpr z.2.2)
  refine oif_i (fun g => ?_) (fun g => ?_)
  · have h5 := (b6_ge pT b6_0).mp g
    have eG : cG T = 1 := if_pos (by omega)
    rw [eG] at fin
    refine fin _ _ _ ?_ ?_ ?_ (by omega)
    · rw [Int.one_mul]; exact b6_le pT (by omega)
    · rw [Int.one_mul]; exact b6_le pt (by omega)
    · rw [Int.one_mul]; exact b6_le pr (by omega)
  · have h5 : ¬ 0 ≤ T := fun z => g ((b6_ge pT b6_0).mpr z)
    have eG : cG T = -1 := if_neg (by omega)
    rw [eG] at fin
    refine fin _ _ _ ?_ ?_ ?_ (by omega)
    · rw [Int.neg_mul, Int.one_mul]; exact b6_le (b6_neg pT (by omega)) (by omega)
    · rw [Int.neg_mul, Int.one_mul]; exact b6_le (b6_neg pt (by omega)) (by omega)
    · rw [Int.neg_mul, Int.one_mul]; exact b6_le (b6_neg pr (by omega)) (by omega)
