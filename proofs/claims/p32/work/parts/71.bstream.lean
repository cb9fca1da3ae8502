/-! ===== stream ===== -/
def ST (df mx cr dt : Int) : Int32 := if mx < 10 * df then 0 else if dt ≤ 0 then 0 else if dt < 10 * (cr.natAbs : Int) then 0 else 1
theorem str_203 {μ0 μ : MS} {p1 p2 t : Int32} {v13 v15 v17 v19 : Int64} {df mx cr dt : Int} (h13 : B6 v13 mx 600000000000) (h15 : B6 v15 df 600000000000) (h17 : B6 v17 cr 320000000000000000) (h19 : B6 v19 dt 320000000000000000) (ht : t = 0 → dt = 0) : f_X11_stream_203 μ0 p1 p2 v13 v15 v17 v19 t μ = (ST df mx cr dt, μ) := by
  have a := b6_mul b6_10 h15 (by omega)
  unfold f_X11_stream_203 ST
  by_cases c1 : mx < 10 * df
  · rw [if_pos ((b6_gt a h13).mpr c1), if_pos c1]
  · rw [if_neg (fun z => c1 ((b6_gt a h13).mp z)), if_neg c1]
    by_cases c2 : t = 0
    · rw [if_pos c2, if_pos (by have := ht c2; omega)]
    · rw [if_neg c2]
      by_cases c3 : dt ≤ 0
      · rw [if_pos ((b6_cle h19 b6_0).mpr c3), if_pos c3]
      · rw [if_neg (fun z => c3 ((b6_cle h19 b6_0).mp z)), if_neg c3]
        have e247 : ∀ (w : Int64) (W : Int), B6 w W 320000000000000000 → f_X11_stream_247 μ0 p1 p2 v19 w 10 μ = (if dt < 10 * W then (0 : Int32) else 1, μ) := by
          intro w W hw
          have b := b6_mul b6_10 hw (by omega)
          unfold f_X11_stream_247
          by_cases c5 : dt < 10 * W
          · rw [if_pos ((b6_gt b h19).mpr c5), if_pos c5]
          · rw [if_neg (fun z => c5 ((b6_gt b h19).mp z)), if_neg c5]
        by_cases c4 : 0 ≤ cr
        · rw [if_pos ((b6_ge h17 b6_0).mpr c4), e247 _ _ h17]
          have : (cr.natAbs : Int) = cr := by omega
          rw [this]
        · rw [if_neg (fun z => c4 ((b6_ge h17 b6_0).mp z)), e247 _ _ (b6_neg h17 (by omega))]
          have : (cr.natAbs : Int) = -cr := by omega
          rw [this]
theorem str_145 {μ0 μ : MS} {p1 p2 : Int32} {v3 v5 v9 v11 v13 v15 : Int64} {ax ay bx b' df mx : Int} (h3 : B6 v3 ax 400000000) (h5 : B6 v5 ay 400000000) (h9 : B6 v9 bx 400000000) (h11 : B6 v11 b' 400000000) (h13 : B6 v13 mx 600000000000) (h15 : B6 v15 df 600000000000) : f_X11_stream_145 μ0 p1 p2 v3 v5 v9 v11 v13 v15 μ = (ST df mx (ax * b' - ay * bx) (ax * bx + ay * b'), μ) := by
  have h17 : B6 (v3 * v11 - v5 * v9) (ax * b' - ay * bx) 320000000000000000 := b6_sub (b6_mul h3 h11 (by omega)) (b6_mul h5 h9 (by omega)) (by omega)
  have h19 : B6 (v3 * v9 + v5 * v11) (ax * bx + ay * b') 320000000000000000 := b6_add (b6_mul h3 h9 (by omega)) (b6_mul h5 h11 (by omega)) (by omega)
  have j10 : (1 : Int32) = 0 → ax * bx + ay * b' = 0 := fun z => absurd z i_1ne0
  have e184 : f_X11_stream_184 μ0 p1 p2 v9 v11 v13 v15 (v3 * v11 - v5 * v9) (v3 * v9 + v5 * v11) μ = (ST df mx (ax * b' - ay * bx) (ax * bx + ay * b'), μ) := by
    unfold f_X11_stream_184
    by_cases c1 : bx = 0
    · rw [if_pos ((b6_ceq h9 b6_0).mpr c1)]
      by_cases c2 : b' = 0
      · rw [if_pos ((b6_ceq h11 b6_0).mpr c2)]
        exact str_203 h13 h15 h17 h19 (fun _ => by rw [c1, c2, Int.mul_zero, Int.mul_zero]; rfl)
      · rw [if_neg (fun z => c2 ((b6_ceq h11 b6_0).mp z))]
        exact str_203 h13 h15 h17 h19 j10
    · rw [if_neg (fun z => c1 ((b6_ceq h9 b6_0).mp z))]
      exact str_203 h13 h15 h17 h19 j10
  unfold f_X11_stream_145
  by_cases c1 : ax = 0
  · rw [if_pos ((b6_ceq h3 b6_0).mpr c1)]
    by_cases c2 : ay = 0
    · rw [if_pos ((b6_ceq h5 b6_0).mpr c2)]
      exact str_203 h13 h15 h17 h19 (fun _ => by rw [c1, c2, Int.zero_mul, Int.zero_mul]; rfl)
    · rw [if_neg (fun z => c2 ((b6_ceq h5 b6_0).mp z))]
      exact e184
  · rw [if_neg (fun z => c1 ((b6_ceq h3 b6_0).mp z))]
    exact e184
theorem str_75 {μ0 μ : MS} {p1 p2 : Int32} {v3 v5 v7 : Int64} {ax ay bx b' s1 s2 : Int} (h3 : B6 v3 ax 400000000) (h5 : B6 v5 ay 400000000) (h7 : B6 v7 s1 600000000000) (h9 : B6 (ml μ 29 0 - ml μ 27 0) bx 400000000) (h11 : B6 (ml μ 30 0 - ml μ 28 0) b' 400000000) (h31 : B6 (ml μ 31 0) s2 600000000000) (n1 : 0 ≤ s1) (n2 : 0 ≤ s2) : f_X11_stream_75 μ0 p1 p2 v3 v5 v7 μ = (ST ((s1 - s2).natAbs : Int) (max s1 s2) (ax * b' - ay * bx) (ax * bx + ay * b'), μ) := by
  have q1 := h7.2
  have q2 := h31.2
  unfold f_X11_stream_75
  by_cases c : s1 ≤ s2
  · rw [if_pos ((b6_cle h7 h31).mpr c)]
    unfold f_X11_stream_116
    rw [if_pos ((b6_cle h7 h31).mpr c)]
    have e := b6_sub h31 h7 (by omega)
    exact str_145 h3 h5 h9 h11 (b6_A h31 (by omega)) ⟨by rw [e.1]; omega, by omega⟩
  · rw [if_neg (fun z => c ((b6_cle h7 h31).mp z))]
    unfold f_X11_stream_116
    rw [if_neg (fun z => c ((b6_cle h7 h31).mp z))]
    have e := b6_sub h7 h31 (by omega)
    exact str_145 h3 h5 h9 h11 (b6_A h7 (by omega)) ⟨by rw [e.1]; omega, by omega⟩
theorem str_c {σ : XS} {q r : Nat} {ax ay bx b' s1 s2 : Int} (h3 : B6 (f_X4_flightX σ q) ax 400000000) (h5 : B6 (f_X4_flightY σ q) ay 400000000) (h9 : B6 (f_X4_flightX σ r) bx 400000000) (h11 : B6 (f_X4_flightY σ r) b' 400000000) (h7 : B6 (xj σ 110 q) s1 600000000000) (h31 : B6 (xj σ 110 r) s2 600000000000) (n1 : 0 ≤ s1) (n2 : 0 ≤ s2) : (if f_X4_isAsFastAs σ q r = 0 then (0 : Int32) else if f_X4_fliesLike σ q r = 0 then 0 else 1) = ST ((s1 - s2).natAbs : Int) (max s1 s2) (ax * b' - ay * bx) (ax * bx + ay * b') := by
  have q1 := h7.2
  have q2 := h31.2
  have h17 : B6 (f_X4_flightX σ q * f_X4_flightY σ r - f_X4_flightY σ q * f_X4_flightX σ r) (ax * b' - ay * bx) 320000000000000000 := b6_sub (b6_mul h3 h11 (by omega)) (b6_mul h5 h9 (by omega)) (by omega)
  have h19 : B6 (f_X4_flightX σ q * f_X4_flightX σ r + f_X4_flightY σ q * f_X4_flightY σ r) (ax * bx + ay * b') 320000000000000000 := b6_add (b6_mul h3 h9 (by omega)) (b6_mul h5 h11 (by omega)) (by omega)
  have d := b6_abs (b6_sub h7 h31 (by omega)) (by omega)
  have d' : B6 (f_J9_abs_067f4 (xj σ 110 q - xj σ 110 r)) ((s1 - s2).natAbs : Int) 600000000000 := ⟨d.1, by omega⟩
  have a := b6_mul b6_10 d' (by omega)
  have m := b6_max h7 h31
  have w := b6_mul b6_10 (b6_abs h17 (by omega)) (by omega)
  unfold f_X4_isAsFastAs f_X4_fliesLike f_X4_fliesLike_41 ST
  by_cases c1 : max s1 s2 < 10 * ((s1 - s2).natAbs : Int)
  · rw [if_pos ((b6_gt a m).mpr c1), if_pos rfl, if_pos c1]
  · rw [if_neg (fun z => c1 ((b6_gt a m).mp z)), if_neg i_1ne0, if_neg c1]
    by_cases c2 : ax * bx + ay * b' ≤ 0
    · rw [if_pos ((b6_cle h19 b6_0).mpr c2), if_pos rfl, if_pos c2]
    · rw [if_neg (fun z => c2 ((b6_cle h19 b6_0).mp z)), if_neg c2]
      by_cases c3 : ax * bx + ay * b' < 10 * ((ax * b' - ay * bx).natAbs : Int)
      · rw [if_pos ((b6_gt w h19).mpr c3), if_pos rfl, if_pos c3]
      · rw [if_neg (fun z => c3 ((b6_gt w h19).mp z)), if_neg i_1ne0, if_neg c3]
theorem st_b (a b c d : Int) : ST a b c d = 0 ∨ ST a b c d = 1 := by
  unfold ST
  split
  · exact Or.inl rfl
  · split
    · exact Or.inl rfl
    · split
      · exact Or.inl rfl
      · exact Or.inr rfl
theorem br_stream : Br_stream Rep := by
  intro σ x μ p0 p1 hh
  obtain ⟨n0, n1, n2, n4, n5, n6, h, hG⟩ := id hh
  have h60 := h.2.2.2.2.1.1
  have h3 := h.2.2.2.2.2.2.2.2.2.2.2.1
  have hs := (rep_sx h).2
  have d1 : cd_stream 3 = 1 := by decide
  have i1 : ¬ (1 : Int32) ≤ 0 := by decide
  obtain ⟨oS, hms, hfr, ht⟩ := spr_ms h
  obtain ⟨e1, e3⟩ := fb_ex (x := x) p0 h3 hG hs h60
  obtain ⟨g1, g3⟩ := fb_ex (x := x) p1 h3 hG hs h60
  obtain ⟨o1, o3⟩ := isf_i hms p0
  obtain ⟨u1, u3⟩ := isf_i hms p1
  obtain ⟨μs, eμ⟩ : ∃ z, f_X11_spreads μ = z := ⟨_, rfl⟩
  have hM0 : f_X11_stream μ p0 p1 = f_X11_stream_4 μ p0 p1 μs := by unfold f_X11_stream; rw [eμ]
  have hO0 : of_X11_stream_4 μ p0 p1 μs → of_X11_stream μ p0 p1 := fun z => ⟨oS, by rw [eμ]; exact z⟩
  rw [eμ] at hms hfr ht o1 o3 u1 u3
  have t26 : f_X11_stream_26 μ p0 p1 1 μs = (0, mI μs 0 0 1) ∧ of_X11_stream_26 μ p0 p1 1 μs := ⟨if_neg i1, fun z => absurd z i1, fun _ => trivial⟩
  have bad : f_X10_stream σ x p0 p1 = .error 3 → of_X10_stream σ x p0 p1 → f_X11_stream_4 μ p0 p1 μs = f_X11_stream_26 μ p0 p1 1 μs → (of_X11_stream_26 μ p0 p1 1 μs → of_X11_stream_4 μ p0 p1 μs) → (of_X10_stream σ x p0 p1) ∧ (∀ nq k, FL_stream σ x p0 p1 nq = .error k → k = 3) ∧ (of_X11_stream μ p0 p1) ∧ (∀ nq f, xk σ nq = 0 → nq ≠ 0 → f_X11_thrown (f_X11_stream μ p0 p1).2 = (hR cd_stream cvZ (FL_stream σ x p0 p1 nq) f σ).1 ∧ ((hR cd_stream cvZ (FL_stream σ x p0 p1 nq) f σ).1 = 0 → (hR cd_stream cvZ (FL_stream σ x p0 p1 nq) f σ).2.1 0 = (if (f_X11_stream μ p0 p1).1 = 0 then 0 else 1)) ∧ Rep (hR cd_stream cvZ (FL_stream σ x p0 p1 nq) f σ).2.2 x (f_X11_stream μ p0 p1).2) := by
    intro b1 b2 b3 b4
    have hFe : ∀ nq, FL_stream σ x p0 p1 nq = .error 3 := fun nq => by
      show exm σ (f_X10_stream σ x p0 p1) = _
      rw [b1]; rfl
    have hMe : f_X11_stream μ p0 p1 = (0, mI μs 0 0 1) := by
      rw [hM0, b3]; exact t26.1
    exact ⟨b2, is_er hFe rfl, hO0 (b4 t26.2), fun nq g _ _ => cl_eZ hFe hMe hfr d1 (by decide) hh nq g⟩
  rcases e3 with ⟨f, hf, hisf, rfl, hF, hK⟩ | ⟨hF, hno⟩
  · rcases o3 with ⟨-, -, -, -, hI⟩ | ⟨-, hno⟩
    · have hm1 : ¬ f_X11_isFireball μs (nI f) = 0 := by rw [hI]; exact i_1ne0
      rcases g3 with ⟨g, hg, hisg, rfl, hF2, hK2⟩ | ⟨hF2, hno⟩
      · rcases u3 with ⟨-, -, -, -, hI2⟩ | ⟨-, hno⟩
        · have hm2 : ¬ f_X11_isFireball μs (nI g) = 0 := by rw [hI2]; exact i_1ne0
          have hms' : MS1 (mI μs 0 0 0) n2 (sdt μ n2) := ms_mf_thr hms
          obtain ⟨oM, hmf, hz⟩ := measures_i hms' hs hisf
          obtain ⟨μ1, eμ1⟩ : ∃ z, f_X11_measures (mI μs 0 0 0) (nI f) = z := ⟨_, rfl⟩
          rw [eμ1] at hmf hz
          obtain ⟨oM2, hmf2, hz2⟩ := measures_i (ms_mf hms' hmf) hs hisg
          obtain ⟨μ2, eμ2⟩ : ∃ z, f_X11_measures μ1 (nI g) = z := ⟨_, rfl⟩
          rw [eμ2] at hmf2 hz2
          have R1 := (hG.2.2 f (by omega)).1 hisf
          have R2 := (hG.2.2 g (by omega)).1 hisg
          obtain ⟨r1, r2, r3, r4, r5, r6, r7, r8, r9, r10⟩ := R1
          obtain ⟨s1, s2, s3, s4, s5, s6, s7, s8, s9, s10⟩ := R2
          obtain ⟨z1, z2, z3, z4, z5, z6, z7, z8, z9⟩ := hz
          obtain ⟨y1, y2, y3, y4, y5, y6, y7, y8, y9⟩ := hz2
          have A1 := str_c (b6_le (b6_sub r5 r3 (by omega)) (by omega)) (b6_le (b6_sub r6 r4 (by omega)) (by omega)) (b6_le (b6_sub s5 s3 (by omega)) (by omega)) (b6_le (b6_sub s6 s4 (by omega)) (by omega)) r8 s8 r7 s7
          have A2 := str_75 (μ0 := μ) (p1 := nI f) (p2 := nI g) (b6_le (b6_sub z5 z3 (by omega)) (by omega)) (b6_le (b6_sub z6 z4 (by omega)) (by omega)) z8 (b6_le (b6_sub y5 y3 (by omega)) (by omega)) (b6_le (b6_sub y6 y4 (by omega)) (by omega)) y8 r7 s7
          obtain ⟨V, eV⟩ : ∃ z, ST ((zSp (sdt μ n2) n2 f - zSp (sdt μ n2) n2 g).natAbs : Int) (max (zSp (sdt μ n2) n2 f) (zSp (sdt μ n2) n2 g)) ((zTx (sdt μ n2) n2 f - zFx (sdt μ n2) n2 f) * (zTy (sdt μ n2) n2 g - zFy (sdt μ n2) n2 g) - (zTy (sdt μ n2) n2 f - zFy (sdt μ n2) n2 f) * (zTx (sdt μ n2) n2 g - zFx (sdt μ n2) n2 g)) ((zTx (sdt μ n2) n2 f - zFx (sdt μ n2) n2 f) * (zTx (sdt μ n2) n2 g - zFx (sdt μ n2) n2 g) + (zTy (sdt μ n2) n2 f - zFy (sdt μ n2) n2 f) * (zTy (sdt μ n2) n2 g - zFy (sdt μ n2) n2 g)) = z := ⟨_, rfl⟩
          rw [eV] at A1 A2
          have hFo : ∀ nq, FL_stream σ x (nI f) (nI g) nq = .ok (V, σ) := by
            intro nq
            show exm σ (f_X10_stream σ x (nI f) (nI g)) = _
            unfold f_X10_stream
            rw [hF, exb_i, hF2, exb_i, ← A1]
            split
            · rfl
            · split
              · rfl
              · rfl
          have hMo : f_X11_stream μ (nI f) (nI g) = (V, μ2) := by
            rw [hM0]
            unfold f_X11_stream_4
            rw [if_neg hm1, if_neg hm2]
            unfold f_X11_stream_26
            rw [if_pos (by decide), eμ1]
            unfold f_X11_stream_43
            rw [eμ2]
            exact A2
          have ht' : mi μ2 0 0 = 0 := by
            show μ2.1 0 0 = 0
            rw [hmf2 0 (by decide) (by decide), hmf 0 (by decide) (by decide)]
            rfl
          refine ⟨?_, no_er hFo, hO0 ⟨o1, fun z => absurd z hm1, fun _ => ⟨u1, fun z => absurd z hm2, fun _ => ⟨fun _ => ⟨oM, ?_⟩, fun _ => trivial⟩⟩⟩, fun nq k _ _ => cl_oZ (hFo nq) hMo ht' (rep_fr hh (fr_tr (fr_thr2 hfr 0) (fr_tr (fr_mf hmf) (fr_mf hmf2)))) k⟩
          · unfold of_X10_stream
            rw [hF, exo_i, hF2, exo_i]
            exact ⟨e1, g1, ⟨hK, hK2, trivial⟩, hK, fun _ => trivial, fun _ => ⟨⟨⟨hK, trivial⟩, hK, ⟨hK2, trivial⟩, hK2, ⟨hK, trivial⟩, ⟨hK2, trivial⟩, ⟨hK, trivial⟩, ⟨hK2, trivial⟩, ⟨hK, trivial⟩, ⟨hK2, trivial⟩, trivial⟩, trivial⟩⟩
          · rw [eμ1]
            exact ⟨oM2, trivial⟩
        · exact absurd hisg (hno g rfl (by omega))
      · rcases u3 with ⟨g, hg, hisg, rfl, hI2⟩ | ⟨hI2, -⟩
        · exact absurd hisg (hno g rfl (by omega))
        · refine bad ?_ ?_ ?_ (fun z => ⟨o1, fun y => absurd y hm1, fun _ => ⟨u1, fun _ => z, fun y => absurd hI2 y⟩⟩)
          · unfold f_X10_stream
            rw [hF, exb_i, hF2, exb_e]
          · unfold of_X10_stream
            rw [hF, exo_i, hF2, exo_e]
            exact ⟨e1, g1, trivial⟩
          · unfold f_X11_stream_4
            rw [if_neg hm1, if_pos hI2]
    · exact absurd hisf (hno f rfl (by omega))
  · rcases o3 with ⟨f, hf, hisf, rfl, hI⟩ | ⟨hI, -⟩
    · exact absurd hisf (hno f rfl (by omega))
    · refine bad ?_ ?_ ?_ (fun z => ⟨o1, fun _ => z, fun y => absurd hI y⟩)
      · unfold f_X10_stream
        rw [hF, exb_e]
      · unfold of_X10_stream
        rw [hF, exo_e]
        exact ⟨e1, trivial⟩
      · unfold f_X11_stream_4
        rw [if_pos hI]
