/-! ===== the law's small numbers ===== -/
theorem ms32_neg (a : Int32) : a.toBitVec.msb = true ↔ a.toInt < 0 := by
  rw [← BitVec.slt_zero_iff_msb_cond, BitVec.slt_iff_toInt_lt]
  simp
theorem and_nn (v : Int32) : 0 ≤ (v &&& 2147483647).toInt := by
  have h : ¬ (v &&& 2147483647).toBitVec.msb = true := by
    rw [Int32.toBitVec_and, BitVec.msb_and, show (2147483647 : Int32).toBitVec.msb = false by decide, Bool.and_false]
    exact Bool.false_ne_true
  rcases Int.lt_or_le (v &&& 2147483647).toInt 0 with g | g
  · exact absurd ((ms32_neg (v &&& 2147483647)).mpr g) h
  · exact g
theorem low_r (v : Int32) {m : Nat} (h0 : 0 < m) (hm : m < 1000) : ∃ j, j < m ∧ f_L_low v (nI m) = nI j := by
  obtain ⟨w, hw⟩ : ∃ w, w = v &&& 2147483647 := ⟨_, rfl⟩
  have hnn := and_nn v
  rw [← hw] at hnn
  have hlt := w.toInt_lt
  have em : (nI m).toInt = (m : Int) := nI_toInt (by omega)
  obtain ⟨A, eA⟩ : ∃ A, w.toInt = A := ⟨_, rfl⟩
  rw [eA] at hnn hlt
  have d0 : 0 ≤ A / (m : Int) := Int.ediv_nonneg hnn (by omega)
  have d1 := Int.mul_ediv_add_emod A (m : Int)
  have d2 := Int.emod_nonneg A (show (m : Int) ≠ 0 by omega)
  have d3 := Int.emod_lt_of_pos A (show (0 : Int) < m by omega)
  have d4 : A / (m : Int) ≤ A := Int.ediv_le_self _ hnn
  have hq : (w / nI m).toInt = A / (m : Int) := by
    rw [Int32.toInt_div, eA, em, Int.tdiv_eq_ediv_of_nonneg hnn]
    exact Int.bmod_eq_of_le (by omega) (by omega)
  have hp : (w / nI m * nI m).toInt = A / (m : Int) * (m : Int) := by
    rw [i32_mul (m := 2147483647) (by rw [hq, em, Int.mul_comm]; omega) (by omega), hq, em]
  have hs : (w - w / nI m * nI m).toInt = A % (m : Int) := by
    rw [i32_sub (m := 2147483647) (by rw [hp, eA, Int.mul_comm]; omega) (by omega), hp, eA, Int.mul_comm]
    omega
  have e : f_L_low v (nI m) = w - w / nI m * nI m := by
    unfold f_L_low
    rw [← hw]
  rw [e]
  have h0' : ¬ (w - w / nI m * nI m) < 0 := by
    rw [Int32.lt_iff_toInt_lt, hs]
    have : (0 : Int32).toInt = 0 := rfl
    omega
  obtain ⟨j, hj, ej⟩ := nI_of h0'
  refine ⟨j, ?_, ej⟩
  rw [ej, nI_toInt hj] at hs
  omega
/-- a small number and what is added to it, as a range -/
theorem low_b (v : Int32) {m : Nat} (h0 : 0 < m) (hm : m < 1000) : 0 ≤ (f_L_low v (nI m)).toInt ∧ (f_L_low v (nI m)).toInt < (m : Int) := by
  obtain ⟨j, hj, e⟩ := low_r v h0 hm
  rw [e, nI_toInt (by omega)]
  omega
theorem rng_of {lo hi v : Int32} {L H : Int} (hl : lo.toInt = L) (hh : hi.toInt = H) (h : L ≤ v.toInt ∧ v.toInt ≤ H) : rng lo hi v := by
  refine ⟨?_, ?_⟩
  · rw [Int32.le_iff_toInt_le]
    omega
  · rw [Int32.le_iff_toInt_le]
    omega
/-- the cell of a place: for each of the three ways -/
theorem cell_m {z : Int64} {A : Int} {m : Nat} (h : B6 z A m) (h0 : 0 ≤ A) (h1 : A ≤ 9900) : rng 0 99 (z / 100).toInt32 := by
  have hb : B6 z A 9900 := ⟨h.1, by omega⟩
  have q := b6_div hb b6_100 (by omega) h0 (by omega)
  have d0 : 0 ≤ A / 100 := Int.ediv_nonneg h0 (by omega)
  have e : (z / 100).toInt32.toInt = A / 100 := by
    rw [Int64.toInt_toInt32, q.1]
    exact Int.bmod_eq_of_le (by omega) (by omega)
  exact rng_of (L := 0) (H := 99) rfl rfl (by rw [e]; omega)
theorem cell_0 : rng 0 99 (0 : Int64).toInt32 := by
  constructor <;> decide
theorem cell_99 : rng 0 99 (99 : Int64).toInt32 := by
  constructor <;> decide
