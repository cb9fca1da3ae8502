/-! ===== settling ===== -/
theorem settle_i {σ : XS} {q : Nat} {P A5 C5 A7 C7 M Ln Bl Br : Int} (hk : xk σ q = 5) (hP : (xi σ 102 q).toInt = P) (hP1 : 1 ≤ P ∧ P ≤ 3600) (h6 : B6 (xj σ 106 q) A5 712835640000) (h7 : B6 (xj σ 107 q) C5 712835640000) (h8 : B6 (xj σ 108 q) A7 712835640000) (h9 : B6 (xj σ 109 q) C7 712835640000) (hM : (xi σ 101 q).toInt = M) (hM1 : 1 ≤ M ∧ M ≤ 60) (hL : B6 (xj σ 103 q) Ln 3600) (hL1 : 1 ≤ Ln) (hBl : B6 (xj σ 104 q) Bl 3600000) (hBl0 : 0 ≤ Bl) (hBr : B6 (xj σ 105 q) Br 1000) (hBr0 : 0 ≤ Br) (m6 : (A5 / P).natAbs ≤ 198009900) (m7 : (C5 / P).natAbs ≤ 198009900) (m8 : (A7 / P).natAbs ≤ 198009900) (m9 : (C7 / P).natAbs ≤ 198009900) (hz0 : 0 ≤ (A7 / P - A5 / P) * (A7 / P - A5 / P) + (C7 / P - C5 / P) * (C7 / P - C5 / P)) (hz1 : (A7 / P - A5 / P) * (A7 / P - A5 / P) + (C7 / P - C5 / P) * (C7 / P - C5 / P) ≤ 313663364715360000) : of_X4_settle σ q ∧ GF q σ (f_X4_settle σ q).2 ∧ (xi (f_X4_settle σ q).2 100 q = xi σ 100 q ∧ xi (f_X4_settle σ q).2 101 q = xi σ 101 q ∧ ∀ z, xi (f_X4_settle σ q).2 150 z = xi σ 150 z) ∧ B6 (xj (f_X4_settle σ q).2 106 q) (A5 / P) 198009900 ∧ B6 (xj (f_X4_settle σ q).2 107 q) (C5 / P) 198009900 ∧ B6 (xj (f_X4_settle σ q).2 108 q) (A7 / P) 198009900 ∧ B6 (xj (f_X4_settle σ q).2 109 q) (C7 / P) 198009900 ∧ 0 ≤ (10 * isq ((A7 / P - A5 / P) * (A7 / P - A5 / P) + (C7 / P - C5 / P) * (C7 / P - C5 / P))) * M / Ln ∧ B6 (xj (f_X4_settle σ q).2 110 q) ((10 * isq ((A7 / P - A5 / P) * (A7 / P - A5 / P) + (C7 / P - C5 / P) * (C7 / P - C5 / P))) * M / Ln) 600000000000 ∧ B6 (xj (f_X4_settle σ q).2 111 q) (Bl / M) 3600000 ∧ B6 (xj (f_X4_settle σ q).2 112 q) ((1000 * Br) / ((10 * isq ((A7 / P - A5 / P) * (A7 / P - A5 / P) + (C7 / P - C5 / P) * (C7 / P - C5 / P))) * M / Ln + 1)) 1000000 := by
  have bP : B6 ((xi σ 102 q).toInt64) P 3600 := b6_i32 hP (by omega)
  have bM : B6 ((xi σ 101 q).toInt64) M 60 := b6_i32 hM (by omega)
  have w6 := b6_dv h6 bP (by omega) (by omega)
  have w7 := b6_dv h7 bP (by omega) (by omega)
  have w8 := b6_dv h8 bP (by omega) (by omega)
  have w9 := b6_dv h9 bP (by omega) (by omega)
  have e0 : (f_X4_settle σ q) = f_X4_settle_48 σ q (xJ (xJ (xJ σ 106 q (f_X10_divided (xj σ 106 q) ((xi σ 102 q).toInt64))) 107 q (f_X10_divided (xj σ 107 q) ((xi σ 102 q).toInt64))) 108 q (f_X10_divided (xj σ 108 q) ((xi σ 102 q).toInt64))) := rfl
  have o0 : of_X4_settle_48 σ q (xJ (xJ (xJ σ 106 q (f_X10_divided (xj σ 106 q) ((xi σ 102 q).toInt64))) 107 q (f_X10_divided (xj σ 107 q) ((xi σ 102 q).toInt64))) 108 q (f_X10_divided (xj σ 108 q) ((xi σ 102 q).toInt64))) → of_X4_settle σ q := fun z => ⟨hk, of_dv bP (by omega), of_dv bP (by omega), of_dv bP (by omega), z⟩
  obtain ⟨v6, x6⟩ : ∃ v, f_X10_divided (xj σ 106 q) ((xi σ 102 q).toInt64) = v := ⟨_, rfl⟩
  obtain ⟨v7, x7⟩ : ∃ v, f_X10_divided (xj σ 107 q) ((xi σ 102 q).toInt64) = v := ⟨_, rfl⟩
  obtain ⟨v8, x8⟩ : ∃ v, f_X10_divided (xj σ 108 q) ((xi σ 102 q).toInt64) = v := ⟨_, rfl⟩
  obtain ⟨v9, x9⟩ : ∃ v, f_X10_divided (xj σ 109 q) ((xi σ 102 q).toInt64) = v := ⟨_, rfl⟩
  rw [x6] at w6
  rw [x7] at w7
  rw [x8] at w8
  rw [x9] at w9
  rw [x6, x7, x8] at e0 o0
  have d6 : B6 v6 (A5 / P) 198009900 := ⟨w6.1, m6⟩
  have d7 : B6 v7 (C5 / P) 198009900 := ⟨w7.1, m7⟩
  have d8 : B6 v8 (A7 / P) 198009900 := ⟨w8.1, m8⟩
  have d9 : B6 v9 (C7 / P) 198009900 := ⟨w9.1, m9⟩
  have eA : xJ (xJ (xJ (xJ σ 106 q v6) 107 q v7) 108 q v8) 109 q (f_X10_divided (xj (xJ (xJ (xJ σ 106 q v6) 107 q v7) 108 q v8) 109 q) ((xi (xJ (xJ (xJ σ 106 q v6) 107 q v7) 108 q v8) 102 q).toInt64)) = xJ (xJ (xJ (xJ σ 106 q v6) 107 q v7) 108 q v8) 109 q v9 := by
    show xJ (xJ (xJ (xJ σ 106 q v6) 107 q v7) 108 q v8) 109 q (f_X10_divided (xj σ 109 q) ((xi σ 102 q).toInt64)) = _
    rw [x9]
  have q6 : xj (xJ (xJ (xJ (xJ σ 106 q v6) 107 q v7) 108 q v8) 109 q v9) 106 q = v6 := by
    rw [xJ_z (Or.inl (by decide)), xJ_z (Or.inl (by decide)), xJ_z (Or.inl (by decide)), xj_at, if_pos rfl]
  have q7 : xj (xJ (xJ (xJ (xJ σ 106 q v6) 107 q v7) 108 q v8) 109 q v9) 107 q = v7 := by
    rw [xJ_z (Or.inl (by decide)), xJ_z (Or.inl (by decide)), xj_at, if_pos rfl]
  have q8 : xj (xJ (xJ (xJ (xJ σ 106 q v6) 107 q v7) 108 q v8) 109 q v9) 108 q = v8 := by
    rw [xJ_z (Or.inl (by decide)), xj_at, if_pos rfl]
  have q9 : xj (xJ (xJ (xJ (xJ σ 106 q v6) 107 q v7) 108 q v8) 109 q v9) 109 q = v9 := by
    rw [xj_at, if_pos rfl]
  have fX : f_X4_flightX (xJ (xJ (xJ (xJ σ 106 q v6) 107 q v7) 108 q v8) 109 q v9) q = v8 - v6 := by
    unfold f_X4_flightX; rw [q8, q6]
  have fY : f_X4_flightY (xJ (xJ (xJ (xJ σ 106 q v6) 107 q v7) 108 q v8) 109 q v9) q = v9 - v7 := by
    unfold f_X4_flightY; rw [q9, q7]
  have bx := b6_sub d8 d6 (by omega)
  have by' := b6_sub d9 d7 (by omega)
  have bsq := b6_add (b6_mul bx bx (by omega)) (b6_mul by' by' (by omega)) (by omega)
  obtain ⟨or1, r, r1, r2, r3, r4⟩ := xroot_i bsq hz0 (by omega)
  have hr : isq ((A7 / P - A5 / P) * (A7 / P - A5 / P) + (C7 / P - C5 / P) * (C7 / P - C5 / P)) = r := isq_eq r2 r3 r4
  rw [hr]
  have hr9 : r ≤ 1000000000 := isq_b r2 r3 r4 (by omega) (by omega)
  have rb : B6 (f_X10_rootOf ((v8 - v6) * (v8 - v6) + (v9 - v7) * (v9 - v7))) r 1000000000 := ⟨r1.1, by omega⟩
  have b10 := b6_mul (b6_mul b6_10 rb (by omega)) bM (by omega)
  have nn : 0 ≤ (10 * r) * M := Int.mul_nonneg (by omega) (by omega)
  have nn2 : 0 ≤ (10 * r) * M / Ln := Int.ediv_nonneg nn (by omega)
  have w10 := b6_dv b10 hL (by omega) (by omega)
  have w11 := b6_dv hBl bM (by omega) (by omega)
  have e1 : f_X4_settle_48 σ q (xJ (xJ (xJ σ 106 q v6) 107 q v7) 108 q v8) = f_X4_settle_87 σ q (f_X10_rootOf ((v8 - v6) * (v8 - v6) + (v9 - v7) * (v9 - v7))) (xJ (xJ (xJ (xJ σ 106 q v6) 107 q v7) 108 q v8) 109 q v9) := by
    unfold f_X4_settle_48
    rw [eA, fX, fY]
  have o1 : of_X4_settle_87 σ q (f_X10_rootOf ((v8 - v6) * (v8 - v6) + (v9 - v7) * (v9 - v7))) (xJ (xJ (xJ (xJ σ 106 q v6) 107 q v7) 108 q v8) 109 q v9) → of_X4_settle_48 σ q (xJ (xJ (xJ σ 106 q v6) 107 q v7) 108 q v8) := by
    intro z
    unfold of_X4_settle_48
    rw [eA, fX, fY]
    exact ⟨hk, of_dv (b := (xi (xJ (xJ (xJ σ 106 q v6) 107 q v7) 108 q v8) 102 q).toInt64) bP (by omega), ⟨hk, trivial⟩, ⟨hk, trivial⟩, ⟨hk, trivial⟩, ⟨hk, trivial⟩, or1, z⟩
  obtain ⟨rt, xrt⟩ : ∃ v, f_X10_rootOf ((v8 - v6) * (v8 - v6) + (v9 - v7) * (v9 - v7)) = v := ⟨_, rfl⟩
  rw [xrt] at e1 o1 w10 b10
  obtain ⟨v10, x10⟩ : ∃ v, f_X10_divided ((10 * rt) * ((xi σ 101 q).toInt64)) (xj σ 103 q) = v := ⟨_, rfl⟩
  obtain ⟨v11, x11⟩ : ∃ v, f_X10_divided (xj σ 104 q) ((xi σ 101 q).toInt64) = v := ⟨_, rfl⟩
  rw [x10] at w10
  rw [x11] at w11
  have w10b : B6 v10 ((10 * r) * M / Ln) 600000000000 := w10
  have bs1 := b6_add w10b b6_1 (by omega)
  have bB := b6_mul b6_1000 hBr (by omega)
  have w12 := b6_dv bB bs1 (by omega) (by omega)
  have e2 : f_X4_settle_87 σ q rt (xJ (xJ (xJ (xJ σ 106 q v6) 107 q v7) 108 q v8) 109 q v9) = f_X4_settle_125 σ q (xJ (xJ (xJ (xJ (xJ (xJ σ 106 q v6) 107 q v7) 108 q v8) 109 q v9) 110 q v10) 111 q v11) := by
    show f_X4_settle_125 σ q (xJ (xJ (xJ (xJ (xJ (xJ σ 106 q v6) 107 q v7) 108 q v8) 109 q v9) 110 q (f_X10_divided ((10 * rt) * ((xi σ 101 q).toInt64)) (xj σ 103 q))) 111 q (f_X10_divided (xj σ 104 q) ((xi σ 101 q).toInt64))) = _
    rw [x10, x11]
  have q10 : xj (xJ (xJ (xJ (xJ (xJ (xJ σ 106 q v6) 107 q v7) 108 q v8) 109 q v9) 110 q v10) 111 q v11) 110 q = v10 := by
    rw [xJ_z (Or.inl (by decide)), xj_at, if_pos rfl]
  obtain ⟨v12, x12⟩ : ∃ v, f_X10_divided (1000 * (xj σ 105 q)) (v10 + 1) = v := ⟨_, rfl⟩
  rw [x12] at w12
  have e3 : (f_X4_settle_125 σ q (xJ (xJ (xJ (xJ (xJ (xJ σ 106 q v6) 107 q v7) 108 q v8) 109 q v9) 110 q v10) 111 q v11)).2 = xJ (xJ (xJ (xJ (xJ (xJ (xJ σ 106 q v6) 107 q v7) 108 q v8) 109 q v9) 110 q v10) 111 q v11) 112 q v12 := by
    show xJ (xJ (xJ (xJ (xJ (xJ (xJ σ 106 q v6) 107 q v7) 108 q v8) 109 q v9) 110 q v10) 111 q v11) 112 q (f_X10_divided (1000 * (xj σ 105 q)) ((xj (xJ (xJ (xJ (xJ (xJ (xJ σ 106 q v6) 107 q v7) 108 q v8) 109 q v9) 110 q v10) 111 q v11) 110 q) + 1)) = _
    rw [q10, x12]
  have o2 : of_X4_settle σ q := by
    refine o0 (o1 ⟨hk, ?_, ?_, ?_⟩)
    · exact of_dv (b := xj σ 103 q) hL (by omega)
    · exact of_dv (b := (xi σ 101 q).toInt64) bM (by omega)
    · show of_X4_settle_125 σ q (xJ (xJ (xJ (xJ (xJ (xJ σ 106 q v6) 107 q v7) 108 q v8) 109 q v9) 110 q (f_X10_divided ((10 * rt) * ((xi σ 101 q).toInt64)) (xj σ 103 q))) 111 q (f_X10_divided (xj σ 104 q) ((xi σ 101 q).toInt64)))
      rw [x10, x11]
      refine ⟨hk, ?_, trivial⟩
      rw [q10]
      exact of_dv bs1 (by omega)
  have e4 : (f_X4_settle σ q).2 = xJ (xJ (xJ (xJ (xJ (xJ (xJ σ 106 q v6) 107 q v7) 108 q v8) 109 q v9) 110 q v10) 111 q v11) 112 q v12 := by rw [e0, e1, e2, e3]
  rw [e4]
  refine ⟨o2, gf_tr (gf_J (by omega)) (gf_tr (gf_J (by omega)) (gf_tr (gf_J (by omega)) (gf_tr (gf_J (by omega)) (gf_tr (gf_J (by omega)) (gf_tr (gf_J (by omega)) (gf_J (by omega))))))), ⟨rfl, rfl, fun _ => rfl⟩, ?_, ?_, ?_, ?_, nn2, ?_, ?_, ?_⟩
  · rw [xJ_z (Or.inl (by decide)), xJ_z (Or.inl (by decide)), xJ_z (Or.inl (by decide)), q6]; exact d6
  · rw [xJ_z (Or.inl (by decide)), xJ_z (Or.inl (by decide)), xJ_z (Or.inl (by decide)), q7]; exact d7
  · rw [xJ_z (Or.inl (by decide)), xJ_z (Or.inl (by decide)), xJ_z (Or.inl (by decide)), q8]; exact d8
  · rw [xJ_z (Or.inl (by decide)), xJ_z (Or.inl (by decide)), xJ_z (Or.inl (by decide)), q9]; exact d9
  · rw [xJ_z (Or.inl (by decide)), q10]; exact w10b
  · rw [xJ_z (Or.inl (by decide)), xj_at, if_pos rfl]; exact w11
  · rw [xj_at, if_pos rfl]; exact w12
/-- row q tells of fireball f -/
def RR (s : Nat → Nat → Int32) (n f q : Nat) (σ : XS) : Prop := xi σ 100 q = s f 1 ∧ (xi σ 101 q).toInt = qMan s n f n ∧ B6 (xj σ 106 q) (zFx s n f) 198009900 ∧ B6 (xj σ 107 q) (zFy s n f) 198009900 ∧ B6 (xj σ 108 q) (zTx s n f) 198009900 ∧ B6 (xj σ 109 q) (zTy s n f) 198009900 ∧ 0 ≤ zSp s n f ∧ B6 (xj σ 110 q) (zSp s n f) 600000000000 ∧ B6 (xj σ 111 q) (zBl s n f) 3600000 ∧ B6 (xj σ 112 q) (zMs s n f) 1000000
theorem gatherInto_i {σ : XS} {x n : Nat} {s : Nat → Nat → Int32} (h : SX σ x n s) (hs : Sok s n) (hM : MK σ n (JJ s n)) {f q : Nat} (hf : isF (JJ s n) f) (hq : xk σ q = 5) (h0 : RQ s n f q 0 σ) : of_X10_gatherInto σ x q (nI f) ∧ GF q σ (f_X10_gatherInto σ x q (nI f)).2 ∧ RR s n f q (f_X10_gatherInto σ x q (nI f)).2 ∧ ∀ k, k < n → xi (f_X10_gatherInto σ x q (nI f)).2 150 (xe σ 2 k) = if low (JJ s n) k = f then nI f else xi σ 150 (xe σ 2 k) := by
  have hn := h.1
  obtain ⟨hfn, p1, p2, p3⟩ := z_pos hs hn hf
  obtain ⟨o1, hw⟩ := groupOf_i h hM hfn
  obtain ⟨i1, σ', i2, i3, i4, i5⟩ := gi9 h hs hM hfn hf.2 hq (f_X10_groupOf σ x (nI f)) hw h0
  obtain ⟨r0, r1, r2, r3, r4, r5, r6, r7, r8, r9⟩ := i4
  have bM := qMan_b (s := s) (n := n) (f := f) (i := n) hn
  have bL := qLen_b (s := s) (n := n) (f := f) (i := n) hs hn (Nat.le_refl _)
  have bB := qByl_b (s := s) (n := n) (f := f) (i := n) hs hn (Nat.le_refl _)
  have bR := qBri_b (s := s) (n := n) (f := f) (i := n) hs (Nat.le_refl _)
  have bP := qPr_b (s := s) (n := n) (f := f) (i := n) hn (Nat.le_refl _)
  have b5 := qX_b (s := s) (n := n) (b := 5) (f := f) (i := n) hs hn (Nat.le_refl _) (Or.inl rfl)
  have b7 := qX_b (s := s) (n := n) (b := 7) (f := f) (i := n) hs hn (Nat.le_refl _) (Or.inr rfl)
  have zb := z_b hs hn hf
  have q5 : xk σ' q = 5 := by show σ'.1 q = 5; rw [i3.1]; exact hq
  obtain ⟨s1, s2, ⟨s3, s4, s5⟩, t6, t7, t8, t9, t0, t10, t11, t12⟩ := settle_i (σ := σ') (q := q) q5 r2 ⟨p3, bP.2⟩ ⟨r6, b5.1⟩ ⟨r7, b5.2⟩ ⟨r8, b7.1⟩ ⟨r9, b7.2⟩ r1 ⟨p1, bM.2⟩ ⟨r3, by omega⟩ p2 ⟨r4, by omega⟩ bB.1 ⟨r5, by omega⟩ bR.1 zb.1 zb.2.1 zb.2.2.1 zb.2.2.2.1 zb.2.2.2.2.1 zb.2.2.2.2.2
  have e : (f_X10_gatherInto σ x q (nI f)).2 = (f_X4_settle σ' q).2 := by
    show (f_X4_settle (itr (s_X10_gatherInto_9 x q (nI f) (f_X10_groupOf σ x (nI f))) FU (0, σ)).2 q).2 = _
    rw [i2]
  rw [e]
  refine ⟨⟨o1, i1, ?_⟩, gf_tr i3 s2, ⟨?_, ?_, t6, t7, t8, t9, t0, t10, t11, t12⟩, fun k hk => ?_⟩
  · show of_X10_gatherInto_75 σ x q (nI f) (itr (s_X10_gatherInto_9 x q (nI f) (f_X10_groupOf σ x (nI f))) FU (0, σ)).2
    rw [i2]
    exact ⟨s1, q5, trivial⟩
  · rw [s3]; exact r0 ⟨f, hfn, hf.2⟩
  · rw [s4]; exact r1
  · rw [s5]; exact i5 k hk
