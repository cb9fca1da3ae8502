/-! ===== Int64 as numbers: a is A, at most n without its sign ===== -/
def B6 (a : Int64) (A : Int) (n : Nat) : Prop := a.toInt = A ∧ A.natAbs ≤ n
theorem b6_bm {z : Int} (h : z.natAbs < 9223372036854775808) : z.bmod 18446744073709551616 = z := Int.bmod_eq_of_le (by omega) (by omega)
theorem b6_le {a : Int64} {A : Int} {m n : Nat} (h : B6 a A m) (hn : m ≤ n) : B6 a A n := ⟨h.1, Nat.le_trans h.2 hn⟩
theorem b6_eq {a b : Int64} {A : Int} {m n : Nat} (h : B6 a A m) (k : B6 b A n) : a = b := Int64.toInt_inj.mp (h.1.trans k.1.symm)
theorem b6_A {a : Int64} {A B : Int} {m : Nat} (h : B6 a A m) (k : A = B) : B6 a B m := k ▸ h
theorem b6_add {a b : Int64} {A C : Int} {m n : Nat} (ha : B6 a A m) (hb : B6 b C n) (h : m + n < 9223372036854775808) : B6 (a + b) (A + C) (m + n) := by
  have h1 := ha.2
  have h2 := hb.2
  have h3 := Int.natAbs_add_le A C
  refine ⟨?_, by omega⟩
  rw [Int64.toInt_add, ha.1, hb.1]
  exact b6_bm (by omega)
theorem b6_sub {a b : Int64} {A C : Int} {m n : Nat} (ha : B6 a A m) (hb : B6 b C n) (h : m + n < 9223372036854775808) : B6 (a - b) (A - C) (m + n) := by
  have h1 := ha.2
  have h2 := hb.2
  have h3 := Int.natAbs_sub_le A C
  refine ⟨?_, by omega⟩
  rw [Int64.toInt_sub, ha.1, hb.1]
  exact b6_bm (by omega)
theorem b6_mul {a b : Int64} {A C : Int} {m n : Nat} (ha : B6 a A m) (hb : B6 b C n) (h : m * n < 9223372036854775808) : B6 (a * b) (A * C) (m * n) := by
  have h3 : (A * C).natAbs ≤ m * n := by rw [Int.natAbs_mul]; exact Nat.mul_le_mul ha.2 hb.2
  refine ⟨?_, h3⟩
  rw [Int64.toInt_mul, ha.1, hb.1]
  exact b6_bm (by omega)
theorem b6_neg {a : Int64} {A : Int} {m : Nat} (ha : B6 a A m) (h : m < 9223372036854775808) : B6 (-a) (-A) m := by
  have h1 := ha.2
  refine ⟨?_, by omega⟩
  rw [Int64.toInt_neg, ha.1]
  exact b6_bm (by omega)
theorem b6_32 {x : Int32} {n : Nat} (h : x.toInt.natAbs ≤ n) : B6 x.toInt64 x.toInt n := ⟨Int32.toInt_toInt64 x, h⟩
theorem b6_w (x : Int32) : B6 x.toInt64 x.toInt 2147483648 := b6_32 (by have := x.toInt_lt; have := x.le_toInt; omega)
theorem b6_i32 {x : Int32} {n : Nat} {A : Int} (e : x.toInt = A) (h : A.natAbs ≤ n) : B6 x.toInt64 A n := ⟨by rw [Int32.toInt_toInt64, e], h⟩
theorem b6_refl {a : Int64} {n : Nat} (h : a.toInt.natAbs ≤ n) : B6 a a.toInt n := ⟨rfl, h⟩
theorem b6_ge {a b : Int64} {A C : Int} {m n : Nat} (ha : B6 a A m) (hb : B6 b C n) : (0 ≤ lg_cmp a b) ↔ C ≤ A := by rw [lg_cmp_ge, Int64.le_iff_toInt_le, ha.1, hb.1]
theorem b6_cle {a b : Int64} {A C : Int} {m n : Nat} (ha : B6 a A m) (hb : B6 b C n) : (lg_cmp a b ≤ 0) ↔ A ≤ C := by rw [lg_cmp_le, Int64.le_iff_toInt_le, ha.1, hb.1]
theorem b6_gt {a b : Int64} {A C : Int} {m n : Nat} (ha : B6 a A m) (hb : B6 b C n) : (0 < lg_cmp a b) ↔ C < A := by rw [lg_cmp_gt, Int64.lt_iff_toInt_lt, ha.1, hb.1]
theorem b6_lt {a b : Int64} {A C : Int} {m n : Nat} (ha : B6 a A m) (hb : B6 b C n) : (lg_cmp a b < 0) ↔ A < C := by rw [lg_cmp_lt, Int64.lt_iff_toInt_lt, ha.1, hb.1]
theorem b6_ceq {a b : Int64} {A C : Int} {m n : Nat} (ha : B6 a A m) (hb : B6 b C n) : (lg_cmp a b = 0) ↔ A = C := by rw [lg_cmp_eq, ← Int64.toInt_inj, ha.1, hb.1]
theorem b6_0 : B6 0 0 0 := ⟨by decide, by decide⟩
theorem b6_1 : B6 1 1 1 := ⟨by decide, by decide⟩
theorem b6_8 : B6 8 8 8 := ⟨by decide, by decide⟩
theorem b6_10 : B6 10 10 10 := ⟨by decide, by decide⟩
theorem b6_99 : B6 99 99 99 := ⟨by decide, by decide⟩
theorem b6_100 : B6 100 100 100 := ⟨by decide, by decide⟩
theorem b6_1000 : B6 1000 1000 1000 := ⟨by decide, by decide⟩
theorem b6_M : B6 1000000 1000000 1000000 := ⟨by decide, by decide⟩
/-! divisions -/
theorem ms_neg (a : Int64) : a.toBitVec.msb = true ↔ a.toInt < 0 := by
  rw [← BitVec.slt_zero_iff_msb_cond, BitVec.slt_iff_toInt_lt]
  simp
theorem xs_ge (a b : Int64) (hb : 0 ≤ b.toInt) : (0 ≤ lg_cmp (a ^^^ b) 0) ↔ 0 ≤ a.toInt := by
  rw [lg_cmp_ge, Int64.le_iff_toInt_le]
  have e : (0 : Int64).toInt = 0 := by decide
  rw [e]
  have h1 := ms_neg (a ^^^ b)
  have h2 := ms_neg a
  have h3 := ms_neg b
  have h4 : (a ^^^ b).toBitVec.msb = (a.toBitVec.msb ^^ b.toBitVec.msb) := by rw [Int64.toBitVec_xor, BitVec.msb_xor]
  have h5 : b.toBitVec.msb = false := by
    cases hm : b.toBitVec.msb with
    | false => rfl
    | true => have := h3.mp hm; omega
  rw [h5, Bool.xor_false] at h4
  rw [h4] at h1
  constructor
  · intro h
    rcases Int.lt_or_le a.toInt 0 with g | g
    · have := h1.mp (h2.mpr g); omega
    · exact g
  · intro h
    rcases Int.lt_or_le (a ^^^ b).toInt 0 with g | g
    · have := h2.mp (h1.mpr g); omega
    · exact g
theorem b6_tdiv {a b : Int64} {A T : Int} {m k : Nat} (ha : B6 a A m) (hb : B6 b T k) (hT : 0 < T) (h : m < 9223372036854775808) : (a / b).toInt = A.tdiv T := by
  have h1 : (A.tdiv T).natAbs ≤ m := Nat.le_trans (by rw [Int.natAbs_tdiv]; exact Nat.div_le_self _ _) ha.2
  rw [Int64.toInt_div, ha.1, hb.1]
  exact b6_bm (by omega)
theorem b6_div {a b : Int64} {A T : Int} {m k : Nat} (ha : B6 a A m) (hb : B6 b T k) (hT : 0 < T) (hA : 0 ≤ A) (h : m < 9223372036854775808) : B6 (a / b) (A / T) m := by
  refine ⟨?_, Nat.le_trans (Int.natAbs_ediv_le_natAbs A T) ha.2⟩
  rw [b6_tdiv ha hb hT h, Int.tdiv_eq_ediv_of_nonneg hA]
theorem b6_fd {a b : Int64} {A T : Int} {m k : Nat} (ha : B6 a A m) (hb : B6 b T k) (hT : 0 < T) (h : m + k + 1 < 9223372036854775808) : B6 (f_J9_floorDiv_f86c9 a b) (A / T) m := by
  have hm := ha.2
  have hk := hb.2
  refine ⟨?_, Nat.le_trans (Int.natAbs_ediv_le_natAbs A T) ha.2⟩
  have hq := b6_tdiv ha hb hT (by omega)
  unfold f_J9_floorDiv_f86c9
  have hx := xs_ge a b (by rw [hb.1]; omega)
  rw [ha.1] at hx
  by_cases h0 : 0 ≤ A
  · rw [if_pos (hx.mpr h0), hq, Int.tdiv_eq_ediv_of_nonneg h0]
  · rw [if_neg (fun g => h0 (hx.mp g))]
    have e1 := Int.mul_ediv_add_emod A T
    have e2 := Int.emod_nonneg A (by omega : T ≠ 0)
    have e3 := Int.emod_lt_of_pos A hT
    have e4 : A.tdiv T = A / T + if A % T = 0 then 0 else 1 := by
      rw [Int.tdiv_eq_ediv, Int.sign_eq_one_of_pos hT]
      by_cases g : A % T = 0
      · rw [if_pos g, if_pos (Or.inr (Int.dvd_of_emod_eq_zero g))]
      · rw [if_neg g, if_neg (fun z => z.elim (fun z => h0 z) (fun z => g (Int.emod_eq_zero_of_dvd z)))]
    have hD : (A / T).natAbs ≤ m := Nat.le_trans (Int.natAbs_ediv_le_natAbs A T) ha.2
    have hp : ((a / b) * b).toInt = A.tdiv T * T := by
      rw [Int64.toInt_mul, hq, hb.1]
      refine b6_bm ?_
      rw [e4]
      by_cases g : A % T = 0
      · rw [if_pos g, Int.add_zero, Int.mul_comm]; omega
      · rw [if_neg g, Int.add_mul, Int.mul_comm]; omega
    by_cases g : A % T = 0
    · have e5 : lg_cmp ((a / b) * b) a = 0 := by
        rw [lg_cmp_eq, ← Int64.toInt_inj, hp, ha.1, e4, if_pos g, Int.add_zero, Int.mul_comm]; omega
      rw [if_pos e5, hq, e4, if_pos g, Int.add_zero]
    · have e5 : ¬ lg_cmp ((a / b) * b) a = 0 := by
        rw [lg_cmp_eq, ← Int64.toInt_inj, hp, ha.1, e4, if_neg g, Int.add_mul, Int.mul_comm]; omega
      rw [if_neg e5, Int64.toInt_sub, hq, e4, if_neg g]
      have e6 : (1 : Int64).toInt = 1 := by decide
      rw [e6, Int.add_sub_cancel]
      exact b6_bm (by omega)
theorem b6_dn {a b : Int64} {A T : Int} {m k : Nat} (ha : B6 a A m) (hb : B6 b T k) (hT : 0 < T) (h : m + k + 1 < 9223372036854775808) : B6 (f_X11_down a b) (A / T) m := by
  have hm := ha.2
  have hk := hb.2
  have hD : (A / T).natAbs ≤ m := Nat.le_trans (Int.natAbs_ediv_le_natAbs A T) ha.2
  unfold f_X11_down
  by_cases h0 : A < 0
  · rw [if_pos ((b6_lt ha b6_0).mpr h0)]
    have hs : B6 (b - 1 - a) (T - 1 - A) (k + 1 + m) := b6_sub (b6_sub hb b6_1 (by omega)) ha (by omega)
    have hd := b6_div hs hb hT (by omega) (by omega)
    have e1 := Int.mul_ediv_add_emod A T
    have e2 := Int.emod_nonneg A (by omega : T ≠ 0)
    have e3 := Int.emod_lt_of_pos A hT
    have e4 : (T - 1 - A) / T = -(A / T) := by
      have : T - 1 - A = (T - 1 - A % T) + T * (-(A / T)) := by rw [Int.mul_neg]; omega
      rw [this, Int.add_mul_ediv_left _ _ (by omega : T ≠ 0), Int.ediv_eq_zero_of_lt (by omega) (by omega)]
      omega
    have hn := b6_neg (b6_A hd e4) (by omega)
    exact ⟨by rw [hn.1]; omega, hD⟩
  · rw [if_neg (fun g => h0 ((b6_lt ha b6_0).mp g))]
    exact b6_div ha hb hT (by omega) (by omega)
theorem b6_n0 {b : Int64} {T : Int} {k : Nat} (hb : B6 b T k) (hT : 0 < T) : ¬ b = 0 := fun e => by
  rw [e] at hb
  have h1 := hb.1
  have h2 : (0 : Int64).toInt = 0 := by decide
  omega
theorem of_fd {a b : Int64} {T : Int} {k : Nat} (hb : B6 b T k) (hT : 0 < T) : of_J9_floorDiv_f86c9 a b := ⟨b6_n0 hb hT, trivial⟩
theorem of_dn {a b : Int64} {T : Int} {k : Nat} (hb : B6 b T k) (hT : 0 < T) : of_X11_down a b := ⟨fun _ => ⟨b6_n0 hb hT, trivial⟩, fun _ => ⟨b6_n0 hb hT, trivial⟩⟩
theorem b6_dv {a b : Int64} {A T : Int} {m k : Nat} (ha : B6 a A m) (hb : B6 b T k) (hT : 0 < T) (h : m + k + 1 < 9223372036854775808) : B6 (f_X10_divided a b) (A / T) m := by
  unfold f_X10_divided
  rw [if_neg (fun g => by have := (b6_ceq hb b6_0).mp g; omega)]
  exact b6_fd ha hb hT h
theorem of_dv {a b : Int64} {T : Int} {k : Nat} (hb : B6 b T k) (hT : 0 < T) : of_X10_divided a b := ⟨fun _ => trivial, fun _ => ⟨of_fd hb hT, trivial⟩⟩
/-! greatest, least, without a sign -/
theorem b6_abs {a : Int64} {A : Int} {m : Nat} (ha : B6 a A m) (h : m < 9223372036854775808) : B6 (f_J9_abs_067f4 a) (A.natAbs : Int) m := by
  have h1 := ha.2
  unfold f_J9_abs_067f4
  by_cases h0 : 0 ≤ A
  · rw [if_pos ((b6_ge ha b6_0).mpr h0)]; exact ⟨by rw [ha.1]; omega, by omega⟩
  · rw [if_neg (fun g => h0 ((b6_ge ha b6_0).mp g))]
    have := b6_neg ha h
    exact ⟨by rw [this.1]; omega, by omega⟩
theorem b6_max {a b : Int64} {A C : Int} {m : Nat} (ha : B6 a A m) (hb : B6 b C m) : B6 (f_J9_max_f86c9 a b) (max A C) m := by
  unfold f_J9_max_f86c9
  by_cases h0 : A < C
  · rw [if_pos ((b6_lt ha hb).mpr h0)]; exact ⟨by rw [hb.1]; omega, by have := hb.2; omega⟩
  · rw [if_neg (fun g => h0 ((b6_lt ha hb).mp g))]; exact ⟨by rw [ha.1]; omega, by have := ha.2; omega⟩
theorem b6_min {a b : Int64} {A C : Int} {m : Nat} (ha : B6 a A m) (hb : B6 b C m) : B6 (f_J9_min_f86c9 a b) (min A C) m := by
  unfold f_J9_min_f86c9
  by_cases h0 : C < A
  · rw [if_pos ((b6_gt ha hb).mpr h0)]; exact ⟨by rw [hb.1]; omega, by have := hb.2; omega⟩
  · rw [if_neg (fun g => h0 ((b6_gt ha hb).mp g))]; exact ⟨by rw [ha.1]; omega, by have := ha.2; omega⟩
