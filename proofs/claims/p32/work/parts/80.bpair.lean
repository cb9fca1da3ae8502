/-! ===== pair ===== -/
theorem near_i {d : Int32} (h : d.toInt.natAbs ≤ 1000) : (10 < f_J9_abs_0f7a4 d) ↔ ¬ rng (-10) 10 d := by
  have e10 : (10 : Int32).toInt = 10 := rfl
  have em : (-10 : Int32).toInt = -10 := rfl
  have e0 : (0 : Int32).toInt = 0 := rfl
  have r : rng (-10) 10 d ↔ (-10 ≤ d.toInt ∧ d.toInt ≤ 10) := by
    unfold rng
    rw [Int32.le_iff_toInt_le, Int32.le_iff_toInt_le, em, e10]
  have en : (-d).toInt = -d.toInt := by
    have : -d = 0 - d := by rw [Int32.zero_sub]
    rw [this, i32_sub (m := 10000) (by rw [e0]; omega) (by omega), e0]
    omega
  rw [r]
  unfold f_J9_abs_0f7a4
  by_cases k : 0 ≤ d
  · have k2 := k
    rw [Int32.le_iff_toInt_le, e0] at k2
    rw [if_pos k, Int32.lt_iff_toInt_lt, e10]
    omega
  · have k2 := k
    rw [Int32.le_iff_toInt_le, e0] at k2
    rw [if_neg k, Int32.lt_iff_toInt_lt, e10, en]
    omega
theorem br_pair : Br_pair Rep := by
  intro σ x μ p0 p1 p2 hh
  obtain ⟨n0, n1, n2, n4, n5, n6, h, hG⟩ := id hh
  have hst := h.2.2.2.2.2.2.2.1
  have h40 := hst.1
  have d1 : cd_pair 3 = 1 := by decide
  have d2 : cd_pair 1 = 2 := by decide
  have i1 : ¬ (1 : Int32) ≤ 0 := by decide
  have i2 : ¬ (2 : Int32) ≤ 0 := by decide
  obtain ⟨e1, e2, e3⟩ := st_ex (x := x) p0 hst
  obtain ⟨g1, g2, g3⟩ := st_ex (x := x) p1 hst
  have t53 : ∀ t, ¬ t ≤ (0 : Int32) → f_X11_pair_53 μ p0 p1 p2 t = (0, mI μ 0 0 t) ∧ of_X11_pair_53 μ p0 p1 p2 t := fun t ht => ⟨if_neg ht, fun z => absurd z ht, fun _ => trivial⟩
  have bad : ∀ (k : Nat) (t : Int32), cd_pair k = t → t ≠ 0 → (k = 3 ∨ k = 1) → f_X10_pair σ x p0 p1 p2 = .error k → of_X10_pair σ x p0 p1 p2 → f_X11_pair μ p0 p1 p2 = (0, mI μ 0 0 t) → of_X11_pair μ p0 p1 p2 → (of_X10_pair σ x p0 p1 p2) ∧ (∀ nq k, FL_pair σ x p0 p1 p2 nq = .error k → k = 3 ∨ k = 1) ∧ (of_X11_pair μ p0 p1 p2) ∧ (∀ nq f, xk σ nq = 0 → nq ≠ 0 → f_X11_thrown (f_X11_pair μ p0 p1 p2).2 = (hR cd_pair cvZ (FL_pair σ x p0 p1 p2 nq) f σ).1 ∧ ((hR cd_pair cvZ (FL_pair σ x p0 p1 p2 nq) f σ).1 = 0 → (hR cd_pair cvZ (FL_pair σ x p0 p1 p2 nq) f σ).2.1 0 = (if (f_X11_pair μ p0 p1 p2).1 = 0 then 0 else 1)) ∧ Rep (hR cd_pair cvZ (FL_pair σ x p0 p1 p2 nq) f σ).2.2 x (f_X11_pair μ p0 p1 p2).2) := by
    intro k t ht h0 hk b1 b2 b3 b4
    have hFe : ∀ nq, FL_pair σ x p0 p1 p2 nq = .error k := fun nq => b1
    exact ⟨b2, is_er hFe hk, b4, fun nq f _ _ => cl_eZ hFe b3 (fr_refl μ) ht h0 hh nq f⟩
  have p21 : f_X11_pair_21 μ p0 p1 p2 0 = (0, mI μ 0 0 1) ∧ of_X11_pair_21 μ p0 p1 p2 0 := ⟨by
    unfold f_X11_pair_21
    rw [if_pos rfl]
    exact (t53 1 i1).1, fun _ => (t53 1 i1).2, fun z => absurd rfl z⟩
  rcases e3 with ⟨i, hi, rfl, hixi, vi, -, hF, hM, hK⟩ | ⟨-, hF, hM⟩
  · have hm1 : ¬ f_X11_isStone μ (nI i) = 0 := by rw [hM]; exact i_1ne0
    rcases g3 with ⟨j, hj, rfl, hixj, vj, -, hF2, hM2, hK2⟩ | ⟨-, hF2, hM2⟩
    · have hm2 : ¬ f_X11_isStone μ (nI j) = 0 := by rw [hM2]; exact i_1ne0
      have M1 : f_X11_pair μ (nI i) (nI j) p2 = f_X11_pair_21 μ (nI i) (nI j) p2 1 := by
        unfold f_X11_pair
        rw [if_neg hm1, if_neg hm2]
      have O1 : of_X11_pair_21 μ (nI i) (nI j) p2 1 → of_X11_pair μ (nI i) (nI j) p2 := fun z => ⟨e2, fun y => absurd y hm1, fun _ => ⟨g2, fun y => absurd y hm2, fun _ => z⟩⟩
      have bad2 : f_X10_pair σ x (nI i) (nI j) p2 = .error 1 → of_X10_pair σ x (nI i) (nI j) p2 → f_X11_pair_21 μ (nI i) (nI j) p2 1 = f_X11_pair_53 μ (nI i) (nI j) p2 2 → (of_X11_pair_53 μ (nI i) (nI j) p2 2 → of_X11_pair_21 μ (nI i) (nI j) p2 1) → _ := fun b1 b2 b3 b4 => bad 1 2 d2 (by decide) (Or.inr rfl) b1 b2 (M1.trans (b3.trans (t53 2 i2).1)) (O1 (b4 (t53 2 i2).2))
      by_cases hij : nI i = nI j
      · rcases in_or p2 0 9 with ⟨a1, a2, a3⟩ | ⟨a1, a2, a3⟩
        · refine bad2 ?_ ?_ ?_ (fun z => ⟨fun y => absurd y i_1ne0, fun _ => ⟨fun _ => z, fun y => absurd hij y⟩⟩)
          · unfold f_X10_pair
            rw [hF, exb_i, hF2, exb_i, a3, exb_i, if_pos hij]
          · unfold of_X10_pair
            rw [hF, exo_i, hF2, exo_i, a3, exo_i]
            exact ⟨e1, g1, fun _ => trivial, fun y => absurd hij y⟩
          · unfold f_X11_pair_21
            rw [if_neg i_1ne0, if_pos hij]
        · refine bad2 ?_ ?_ ?_ (fun z => ⟨fun y => absurd y i_1ne0, fun _ => ⟨fun _ => z, fun y => absurd hij y⟩⟩)
          · unfold f_X10_pair
            rw [hF, exb_i, hF2, exb_i, a3, exb_e]
          · unfold of_X10_pair
            rw [hF, exo_i, hF2, exo_i, a3, exo_e]
            exact ⟨e1, g1, trivial⟩
          · unfold f_X11_pair_21
            rw [if_neg i_1ne0, if_pos hij]
      · rcases in_or p2 0 9 with ⟨a1, a2, a3⟩ | ⟨a1, a2, a3⟩
        · obtain ⟨y, hy, rfl⟩ := (rng_iff (n := 10) (by decide) (by decide)).mp a1
          have hm3 : ¬ f_X11_isIn (nI y) 0 9 = 0 := by rw [a2]; exact i_1ne0
          have h' := thr_rep (t := 0) h
          have hst' := h'.2.2.2.2.2.2.2.1
          have hru' := h'.2.2.2.2.2.2.2.2.2.2.1
          obtain ⟨q1, q2, q3⟩ := classIn_i (x := x) hst' hru' hi hy
          obtain ⟨s1, s2, s3⟩ := classIn_i (x := x) hst' hru' hj hy
          obtain ⟨μ0, em⟩ : ∃ z, mI μ 0 0 0 = z := ⟨_, rfl⟩
          have ht0 : mi μ0 0 0 = 0 := by rw [← em]; rfl
          have hfr0 : Fr μ μ0 := by rw [← em]; exact fr_thr μ 0
          have M53 : f_X11_pair μ (nI i) (nI j) (nI y) = if f_X11_classIn μ0 (nI i) (nI y) = 0 then f_X11_pair_124 μ (nI i) (nI j) (nI y) (mi μ 47 i - mi μ 47 j) (mi μ 48 i - mi μ 48 j) 0 μ0 else if f_X11_classIn μ0 (nI i) (nI y) = f_X11_classIn μ0 (nI j) (nI y) then f_X11_pair_124 μ (nI i) (nI j) (nI y) (mi μ 47 i - mi μ 47 j) (mi μ 48 i - mi μ 48 j) 1 μ0 else f_X11_pair_124 μ (nI i) (nI j) (nI y) (mi μ 47 i - mi μ 47 j) (mi μ 48 i - mi μ 48 j) 0 μ0 := by
            rw [M1]
            unfold f_X11_pair_21
            rw [if_neg i_1ne0, if_neg hij, if_neg hm3]
            unfold f_X11_pair_53
            rw [if_pos (by decide), hixi, hixj, em]
          have O53 : (oif (f_X11_classIn μ0 (nI i) (nI y) = 0) (of_X11_pair_124 μ (nI i) (nI j) (nI y) (mi μ 47 i - mi μ 47 j) (mi μ 48 i - mi μ 48 j) 0 μ0) (oif (f_X11_classIn μ0 (nI i) (nI y) = f_X11_classIn μ0 (nI j) (nI y)) (of_X11_pair_124 μ (nI i) (nI j) (nI y) (mi μ 47 i - mi μ 47 j) (mi μ 48 i - mi μ 48 j) 1 μ0) (of_X11_pair_124 μ (nI i) (nI j) (nI y) (mi μ 47 i - mi μ 47 j) (mi μ 48 i - mi μ 48 j) 0 μ0))) → of_X11_pair μ (nI i) (nI j) (nI y) := by
            intro z
            refine O1 ⟨fun w => absurd w i_1ne0, fun _ => ⟨fun w => absurd w hij, fun _ => ⟨fun w => absurd w hm3, fun _ => ⟨fun _ => ?_, fun _ => trivial⟩⟩⟩⟩
            rw [hixi, hixj]
            rw [em] at q2 s2 ⊢
            exact ⟨vi, vj, vi, vj, q2, z.1, fun w => ⟨q2, s2, z.2 w⟩⟩
          have z124 : f_X11_pair_124 μ (nI i) (nI j) (nI y) (mi μ 47 i - mi μ 47 j) (mi μ 48 i - mi μ 48 j) 0 μ0 = (0, μ0) ∧ of_X11_pair_124 μ (nI i) (nI j) (nI y) (mi μ 47 i - mi μ 47 j) (mi μ 48 i - mi μ 48 j) 0 μ0 := ⟨if_pos rfl, fun _ => trivial, fun w => absurd rfl w⟩
          rw [em] at q3 s3 h'
          have F0 : f_X10_pair σ x (nI i) (nI j) (nI y) = if f_X11_classIn μ0 (nI i) (nI y) = 0 then .ok (0, σ) else if f_X11_classIn μ0 (nI i) (nI y) = f_X11_classIn μ0 (nI j) (nI y) then (if f_X7_isNear σ (xe σ 6 i) (xe σ 6 j) = 0 then .ok (0, σ) else f_X10_pair_81 σ x (nI i) (nI j) (nI y) (xe σ 6 j) ((f_X10_fallOf σ x (xe σ 6 i)).1) ((f_X10_fallOf σ x (xe σ 6 i)).2)) else .ok (0, σ) := by
            unfold f_X10_pair
            rw [hF, exb_i, hF2, exb_i, a3, exb_i, if_neg hij, q3, s3]
          have P0 : (oif (f_X11_classIn μ0 (nI i) (nI y) = 0) True (oif (f_X11_classIn μ0 (nI i) (nI y) = f_X11_classIn μ0 (nI j) (nI y)) (oif (f_X7_isNear σ (xe σ 6 i) (xe σ 6 j) = 0) True (of_X10_fallOf σ x (xe σ 6 i) ∧ of_X10_pair_81 σ x (nI i) (nI j) (nI y) (xe σ 6 j) ((f_X10_fallOf σ x (xe σ 6 i)).1) ((f_X10_fallOf σ x (xe σ 6 i)).2))) True)) → of_X10_pair σ x (nI i) (nI j) (nI y) := by
            intro z
            unfold of_X10_pair
            rw [hF, exo_i, hF2, exo_i, a3, exo_i, q3, s3]
            exact ⟨e1, g1, fun w => absurd w hij, fun _ => ⟨q1, fun _ => trivial, fun w => ⟨s1, fun u => ⟨⟨hK, hK2, trivial⟩, hK, (z.2 w).1 u⟩, fun _ => trivial⟩⟩⟩
          have ans0 : f_X10_pair σ x (nI i) (nI j) (nI y) = .ok (0, σ) → of_X10_pair σ x (nI i) (nI j) (nI y) → f_X11_pair μ (nI i) (nI j) (nI y) = (0, μ0) → of_X11_pair μ (nI i) (nI j) (nI y) → _ := fun b1 b2 b3 b4 => (⟨b2, no_er (r := FL_pair σ x (nI i) (nI j) (nI y)) (v := fun _ => (0, σ)) (fun _ => b1), b4, fun nq f _ _ => cl_oZ (show FL_pair σ x (nI i) (nI j) (nI y) nq = .ok (0, σ) from b1) b3 ht0 (rep_fr hh hfr0) f⟩ : (of_X10_pair σ x (nI i) (nI j) (nI y)) ∧ (∀ nq k, FL_pair σ x (nI i) (nI j) (nI y) nq = .error k → k = 3 ∨ k = 1) ∧ (of_X11_pair μ (nI i) (nI j) (nI y)) ∧ (∀ nq f, xk σ nq = 0 → nq ≠ 0 → f_X11_thrown (f_X11_pair μ (nI i) (nI j) (nI y)).2 = (hR cd_pair cvZ (FL_pair σ x (nI i) (nI j) (nI y) nq) f σ).1 ∧ ((hR cd_pair cvZ (FL_pair σ x (nI i) (nI j) (nI y) nq) f σ).1 = 0 → (hR cd_pair cvZ (FL_pair σ x (nI i) (nI j) (nI y) nq) f σ).2.1 0 = (if (f_X11_pair μ (nI i) (nI j) (nI y)).1 = 0 then 0 else 1)) ∧ Rep (hR cd_pair cvZ (FL_pair σ x (nI i) (nI j) (nI y) nq) f σ).2.2 x (f_X11_pair μ (nI i) (nI j) (nI y)).2))
          by_cases c1 : f_X11_classIn μ0 (nI i) (nI y) = 0
          · exact ans0 (by rw [F0, if_pos c1]) (P0 ⟨fun _ => trivial, fun w => absurd c1 w⟩) (by rw [M53, if_pos c1]; exact z124.1) (O53 ⟨fun _ => z124.2, fun w => absurd c1 w⟩)
          · by_cases c2 : f_X11_classIn μ0 (nI i) (nI y) = f_X11_classIn μ0 (nI j) (nI y)
            · obtain ⟨b1, b2, b3, b4, b5, b6, b7, b8, b9, b10, b11, b12, b13, -⟩ := hst.2.2.2.2.2 i hi
              obtain ⟨k1, k2, k3, k4, k5, k6, k7, k8, k9, k10, k11, k12, k13, -⟩ := hst.2.2.2.2.2 j hj
              have u1 := rng_i (L := 0) (H := 99) b12 rfl rfl
              have u2 := rng_i (L := 0) (H := 99) b13 rfl rfl
              have w1 := rng_i (L := 0) (H := 99) k12 rfl rfl
              have w2 := rng_i (L := 0) (H := 99) k13 rfl rfl
              have n1 := near_i (d := mi μ 47 i - mi μ 47 j) (by rw [i32_sub (m := 1000) (by omega) (by omega)]; omega)
              have n2' := near_i (d := mi μ 48 i - mi μ 48 j) (by rw [i32_sub (m := 1000) (by omega) (by omega)]; omega)
              have hN : f_X7_isNear σ (xe σ 6 i) (xe σ 6 j) = if 10 < f_J9_abs_0f7a4 (mi μ 47 i - mi μ 47 j) then 0 else if 10 < f_J9_abs_0f7a4 (mi μ 48 i - mi μ 48 j) then 0 else 1 := by
                unfold f_X7_isNear
                rw [b2, k2, b3, k3]
              rcases in_or (mi μ 47 i - mi μ 47 j) (-10) 10 with ⟨x1, x2, -⟩ | ⟨x1, x2, -⟩
              · rcases in_or (mi μ 48 i - mi μ 48 j) (-10) 10 with ⟨y1, y2, -⟩ | ⟨y1, y2, -⟩
                · have hN1 : f_X7_isNear σ (xe σ 6 i) (xe σ 6 j) = 1 := by rw [hN, if_neg (fun z => n1.mp z x1), if_neg (fun z => n2'.mp z y1)]
                  have es : sdt μ0 n2 = sdt μ n2 := sdt_fr hfr0
                  obtain ⟨r1, r2, τ, μ1, V, r3, r4, r5, r6, r7⟩ := fo_i h' (by rw [es]; exact hG) hi
                  have es2 : sdt μ1 n2 = sdt μ n2 := (sdt_fr r6).trans es
                  have exe : ∀ a k, xe τ a k = xe σ a k := fun a k => congrArg (fun z => z.2.2 a k) r5.2.2.2
                  obtain ⟨l1, l2, τ2, μ2, U, l3, l4, l5, l6, l7⟩ := fo_i (j := j) (sc_rep0 r5 (rep0_fr h' r6)) (by rw [es2]; exact sc_rg r5 hG) hj
                  rw [exe] at l1 l3
                  obtain ⟨A, eA⟩ : ∃ A : Int32, (if V = U then 1 else if V = -1 then 1 else if U = -1 then 1 else 0) = A := ⟨_, rfl⟩
                  have hFo : ∀ nq, FL_pair σ x (nI i) (nI j) (nI y) nq = .ok (A, τ2) := by
                    intro nq
                    show f_X10_pair σ x (nI i) (nI j) (nI y) = _
                    rw [F0, if_neg c1, if_pos c2, hN1, if_neg i_1ne0, r3]
                    unfold f_X10_pair_81 f_X10_pair_89
                    rw [l3, ← eA]
                    split
                    · rfl
                    · split
                      · rfl
                      · split
                        · rfl
                        · rfl
                  have hMo : f_X11_pair μ (nI i) (nI j) (nI y) = (A, μ2) := by
                    rw [M53, if_neg c1, if_pos c2]
                    unfold f_X11_pair_124
                    rw [if_neg i_1ne0, x2, if_neg i_1ne0, y2, if_neg i_1ne0, r4]
                    unfold f_X11_pair_162 f_X11_pair_169
                    rw [l4, ← eA]
                    split
                    · rfl
                    · split
                      · rfl
                      · split
                        · rfl
                        · rfl
                  refine ⟨P0 ⟨fun w => absurd w c1, fun _ => ⟨fun _ => ⟨fun w => absurd (hN1.symm.trans w) i_1ne0, fun _ => ⟨r1, ?_⟩⟩, fun w => absurd c2 w⟩⟩, no_er hFo, O53 ⟨fun w => absurd w c1, fun _ => ⟨fun _ => ⟨fun w => absurd w i_1ne0, fun _ => ⟨fun w => absurd (x2.symm.trans w) i_1ne0, fun _ => ⟨fun w => absurd (y2.symm.trans w) i_1ne0, fun _ => ⟨r2, ?_⟩⟩⟩⟩, fun w => absurd c2 w⟩⟩, fun nq f _ _ => cl_oZ (hFo nq) hMo (l7.trans (r7.trans ht0)) (sc_rep l5 (sc_rep r5 (rep_fr hh (fr_tr hfr0 (fr_tr r6 l6))))) f⟩
                  · rw [r3]; exact ⟨l1, trivial⟩
                  · rw [r4]; exact ⟨l2, trivial⟩
                · have hN0 : f_X7_isNear σ (xe σ 6 i) (xe σ 6 j) = 0 := by rw [hN, if_neg (fun z => n1.mp z x1), if_pos (n2'.mpr y1)]
                  refine ans0 (by rw [F0, if_neg c1, if_pos c2, if_pos hN0]) (P0 ⟨fun w => absurd w c1, fun _ => ⟨fun _ => ⟨fun _ => trivial, fun w => absurd hN0 w⟩, fun w => absurd c2 w⟩⟩) ?_ (O53 ⟨fun w => absurd w c1, fun _ => ⟨fun _ => ⟨fun w => absurd w i_1ne0, fun _ => ⟨fun w => absurd (x2.symm.trans w) i_1ne0, fun _ => ⟨fun _ => trivial, fun w => absurd y2 w⟩⟩⟩, fun w => absurd c2 w⟩⟩)
                  rw [M53, if_neg c1, if_pos c2]
                  unfold f_X11_pair_124
                  rw [if_neg i_1ne0, x2, if_neg i_1ne0, y2, if_pos rfl]
              · have hN0 : f_X7_isNear σ (xe σ 6 i) (xe σ 6 j) = 0 := by rw [hN, if_pos (n1.mpr x1)]
                refine ans0 (by rw [F0, if_neg c1, if_pos c2, if_pos hN0]) (P0 ⟨fun w => absurd w c1, fun _ => ⟨fun _ => ⟨fun _ => trivial, fun w => absurd hN0 w⟩, fun w => absurd c2 w⟩⟩) ?_ (O53 ⟨fun w => absurd w c1, fun _ => ⟨fun _ => ⟨fun w => absurd w i_1ne0, fun _ => ⟨fun _ => trivial, fun w => absurd x2 w⟩⟩, fun w => absurd c2 w⟩⟩)
                rw [M53, if_neg c1, if_pos c2]
                unfold f_X11_pair_124
                rw [if_neg i_1ne0, x2, if_pos rfl]
            · exact ans0 (by rw [F0, if_neg c1, if_neg c2]) (P0 ⟨fun w => absurd w c1, fun _ => ⟨fun w => absurd w c2, fun _ => trivial⟩⟩) (by rw [M53, if_neg c1, if_neg c2]; exact z124.1) (O53 ⟨fun w => absurd w c1, fun _ => ⟨fun w => absurd w c2, fun _ => z124.2⟩⟩)
        · refine bad2 ?_ ?_ ?_ (fun z => ⟨fun y => absurd y i_1ne0, fun _ => ⟨fun y => absurd y hij, fun _ => ⟨fun _ => z, fun y => absurd a2 y⟩⟩⟩)
          · unfold f_X10_pair
            rw [hF, exb_i, hF2, exb_i, a3, exb_e]
          · unfold of_X10_pair
            rw [hF, exo_i, hF2, exo_i, a3, exo_e]
            exact ⟨e1, g1, trivial⟩
          · unfold f_X11_pair_21
            rw [if_neg i_1ne0, if_neg hij, if_pos a2]
    · refine bad 3 1 d1 (by decide) (Or.inl rfl) ?_ ?_ ?_ ⟨e2, fun y => absurd y hm1, fun _ => ⟨g2, fun _ => p21.2, fun y => absurd hM2 y⟩⟩
      · unfold f_X10_pair
        rw [hF, exb_i, hF2, exb_e]
      · unfold of_X10_pair
        rw [hF, exo_i, hF2, exo_e]
        exact ⟨e1, g1, trivial⟩
      · unfold f_X11_pair
        rw [if_neg hm1, if_pos hM2]
        exact p21.1
  · refine bad 3 1 d1 (by decide) (Or.inl rfl) ?_ ?_ ?_ ⟨e2, fun _ => p21.2, fun y => absurd hM y⟩
    · unfold f_X10_pair
      rw [hF, exb_e]
    · unfold of_X10_pair
      rw [hF, exo_e]
      exact ⟨e1, trivial⟩
    · unfold f_X11_pair
      rw [if_pos hM]
      exact p21.1
