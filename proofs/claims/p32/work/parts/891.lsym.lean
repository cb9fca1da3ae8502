/-! ===== the law's rays: the same from either side; its data ===== -/
theorem cT_sw (a b c d : Int) : cT c d a b = -cT a b c d := by
  unfold cT
  rw [Int.mul_comm c b, Int.mul_comm d a]
  omega
theorem cT_neg (a b c d e f : Int) : cT (a - c) (b - d) e f = -cT (c - a) (d - b) e f := by
  unfold cT
  rw [Int.sub_mul, Int.sub_mul, Int.sub_mul, Int.sub_mul]
  omega
theorem cG_neg {T : Int} (h : T ≠ 0) : cG (-T) = -cG T := by
  unfold cG
  by_cases h1 : 0 < T
  · rw [if_pos h1, if_neg (by omega)]
  · rw [if_neg h1, if_pos (by omega)]
    rfl
theorem cB_sw (x1 y1 dx dy x2 y2 ex ey : Int) : cB x1 y1 dx dy x2 y2 ex ey = cB x2 y2 ex ey x1 y1 dx dy := by
  unfold cB
  rw [cT_sw dx dy ex ey, cT_neg x1 y1 x2 y2 dx dy, cT_neg x1 y1 x2 y2 ex ey]
  generalize cT dx dy ex ey = T
  generalize cT (x2 - x1) (y2 - y1) ex ey = u
  generalize cT (x2 - x1) (y2 - y1) dx dy = v
  by_cases h : T = 0
  · simp [h]
  · rw [cG_neg h, Int.neg_mul_neg, Int.neg_mul_neg]
    refine decide_eq_decide.mpr ⟨fun z => ⟨by omega, z.2.2, z.2.1⟩, fun z => ⟨h, z.2.2, z.2.1⟩⟩
theorem cp_id (g x1 y1 dx dy x2 y2 ex ey : Int) : x1 * (g * (dx * ey - dy * ex)) + (g * ((x2 - x1) * ey - (y2 - y1) * ex)) * dx = x2 * (g * (dx * ey - dy * ex)) + (g * ((x2 - x1) * dy - (y2 - y1) * dx)) * ex := by grind
theorem cp_id2 (g x1 y1 dx dy x2 y2 ex ey : Int) : y1 * (g * (dx * ey - dy * ex)) + (g * ((x2 - x1) * ey - (y2 - y1) * ex)) * dy = y2 * (g * (dx * ey - dy * ex)) + (g * ((x2 - x1) * dy - (y2 - y1) * dx)) * ey := by grind
theorem cX_sw {x1 y1 dx dy x2 y2 ex ey : Int} (h : cT dx dy ex ey ≠ 0) : cX x1 y1 dx dy x2 y2 ex ey = cX x2 y2 ex ey x1 y1 dx dy ∧ cY x1 y1 dx dy x2 y2 ex ey = cY x2 y2 ex ey x1 y1 dx dy := by
  unfold cX cY
  rw [cT_sw dx dy ex ey, cT_neg x1 y1 x2 y2 dx dy, cG_neg h, Int.neg_mul_neg, Int.neg_mul_neg]
  unfold cP
  have h1 := cp_id (cG (cT dx dy ex ey)) x1 y1 dx dy x2 y2 ex ey
  have h2 := cp_id2 (cG (cT dx dy ex ey)) x1 y1 dx dy x2 y2 ex ey
  have e1 : cT (x2 - x1) (y2 - y1) ex ey = (x2 - x1) * ey - (y2 - y1) * ex := rfl
  have e2 : cT (x2 - x1) (y2 - y1) dx dy = (x2 - x1) * dy - (y2 - y1) * dx := rfl
  have e3 : cT dx dy ex ey = dx * ey - dy * ex := rfl
  rw [← e1, ← e2, ← e3] at h1 h2
  rw [h1, h2]
  exact ⟨rfl, rfl⟩
theorem sB_sw (s : Nat → Nat → Int32) (b k m : Nat) : sB s b k m = sB s b m k := cB_sw _ _ _ _ _ _ _ _
theorem sX_sw {s : Nat → Nat → Int32} {b k m : Nat} (h : sB s b k m = true) : sX s b k m = sX s b m k ∧ sY s b k m = sY s b m k := by
  unfold sB cB at h
  exact cX_sw (of_decide_eq_true h).1
theorem jn_sw (s : Nat → Nat → Int32) (k m : Nat) : jn s k m = jn s m k := by
  unfold jn
  rw [sB_sw s 5 k m, sB_sw s 7 k m]
  have e : mjB s k m = mjB s m k := by
    unfold mjB
    refine decide_eq_decide.mpr ⟨fun z => ⟨z.1.symm, fun g => z.2.1 g.symm, z.2.2.2.1, z.2.2.1, ?_⟩, fun z => ⟨z.1.symm, fun g => z.2.1 g.symm, z.2.2.2.1, z.2.2.1, ?_⟩⟩
    · have := z.2.2.2.2; omega
    · have := z.2.2.2.2; omega
  rw [e]
theorem jn_ir (s : Nat → Nat → Int32) (k : Nat) : jn s k k = false := by
  unfold jn mjB
  simp
theorem JJ_jn {s : Nat → Nat → Int32} {n i j : Nat} (hi : i < n) (hj : j < n) : JJ s n i j = jn s i j := by
  rcases Nat.lt_trichotomy i j with h | h | h
  · rw [(gr_JJ s n).1 i j, JJ_gt h hj, jn_sw]
  · subst h
    rw [JJ_ir, jn_ir]
  · rw [JJ_gt h hi]
/-- the law's own division, rounded down -/
theorem b6_ld {a b : Int64} {A T : Int} {m k : Nat} (ha : B6 a A m) (hb : B6 b T k) (hT : 0 < T) (h : m + k + 1 < 9223372036854775808) : B6 (f_L_down a b) (A / T) m := by
  have hm := ha.2
  have hk := hb.2
  have hD : (A / T).natAbs ≤ m := Nat.le_trans (Int.natAbs_ediv_le_natAbs A T) ha.2
  refine ⟨?_, hD⟩
  have hq := b6_tdiv ha hb hT (by omega)
  have e1 := Int.mul_ediv_add_emod A T
  have e2 := Int.emod_nonneg A (by omega : T ≠ 0)
  have e3 := Int.emod_lt_of_pos A hT
  by_cases h0 : 0 ≤ A
  · have hq0 : (a / b).toInt = A / T := by rw [hq, Int.tdiv_eq_ediv_of_nonneg h0]
    have hp : ((a / b) * b).toInt = A / T * T := by
      rw [Int64.toInt_mul, hq0, hb.1]
      refine b6_bm ?_
      rw [Int.mul_comm]
      omega
    have hr : (a - (a / b) * b).toInt = A % T := by
      rw [Int64.toInt_sub, hp, ha.1]
      have : A - A / T * T = A % T := by rw [Int.mul_comm]; omega
      rw [this]
      exact b6_bm (by omega)
    unfold f_L_down
    rw [if_pos (by rw [lg_cmp_ge, Int64.le_iff_toInt_le, hr]; exact e2)]
    exact hq0
  · have e4 : A.tdiv T = A / T + if A % T = 0 then 0 else 1 := by
      rw [Int.tdiv_eq_ediv, Int.sign_eq_one_of_pos hT]
      by_cases g : A % T = 0
      · rw [if_pos g, if_pos (Or.inr (Int.dvd_of_emod_eq_zero g))]
      · rw [if_neg g, if_neg (fun z => z.elim (fun z => h0 z) (fun z => g (Int.emod_eq_zero_of_dvd z)))]
    have hp : ((a / b) * b).toInt = A.tdiv T * T := by
      rw [Int64.toInt_mul, hq, hb.1]
      refine b6_bm ?_
      rw [e4]
      by_cases g : A % T = 0
      · rw [if_pos g, Int.add_zero, Int.mul_comm]; omega
      · rw [if_neg g, Int.add_mul, Int.mul_comm]; omega
    have hr : (a - (a / b) * b).toInt = A - A.tdiv T * T := by
      rw [Int64.toInt_sub, hp, ha.1]
      refine b6_bm ?_
      rw [e4]
      by_cases g : A % T = 0
      · rw [if_pos g, Int.add_zero, Int.mul_comm]; omega
      · rw [if_neg g, Int.add_mul, Int.mul_comm]; omega
    have z0 : (0 : Int64).toInt = 0 := by decide
    unfold f_L_down
    by_cases g : A % T = 0
    · rw [if_pos (by rw [lg_cmp_ge, Int64.le_iff_toInt_le, hr, e4, if_pos g, Int.add_zero, Int.mul_comm, z0]; omega), hq, e4, if_pos g, Int.add_zero]
    · rw [if_neg (by rw [lg_cmp_ge, Int64.le_iff_toInt_le, hr, e4, if_neg g, Int.add_mul, Int.mul_comm, z0]; omega), Int64.toInt_sub, hq, e4, if_neg g]
      have e6 : (1 : Int64).toInt = 1 := by decide
      rw [e6, Int.add_sub_cancel]
      exact b6_bm (by omega)
theorem nI_mul (a b : Nat) : nI a * nI b = nI (a * b) := (Int32.ofNat_mul a b).symm
/-- what the law's rows say of the sightings -/
def LZ (μ : MS) (n : Nat) (s : Nat → Nat → Int32) : Prop := n ≤ 7 ∧ ∀ k, k < n → ∃ c, c < 4 ∧ mi μ 1 (9 * k) = nI c ∧ s k 0 = nI c ∧ mi μ 1 (9 * k + 1) = s k 1 ∧ mi μ 1 (9 * k + 2) - mi μ 0 (3 * c + 2) = s k 2 ∧ mi μ 1 (9 * k + 3) = s k 3 ∧ mi μ 1 (9 * k + 4) = s k 4 ∧ mi μ 1 (9 * k + 5) = s k 5 ∧ mi μ 1 (9 * k + 6) = s k 6 ∧ mi μ 1 (9 * k + 7) = s k 7 ∧ mi μ 1 (9 * k + 8) = s k 8 ∧ mi μ 0 (3 * c) = s k 9 ∧ mi μ 0 (3 * c + 1) = s k 10
theorem lz_eq {μ μ' : MS} {n : Nat} {s : Nat → Nat → Int32} (h : LZ μ n s) (e0 : μ'.1 0 = μ.1 0) (e1 : μ'.1 1 = μ.1 1) : LZ μ' n s := by
  have m0 : ∀ i, mi μ' 0 i = mi μ 0 i := fun i => congrFun e0 i
  have m1 : ∀ i, mi μ' 1 i = mi μ 1 i := fun i => congrFun e1 i
  refine ⟨h.1, fun k hk => ?_⟩
  obtain ⟨c, hc⟩ := h.2 k hk
  refine ⟨c, ?_⟩
  rw [m1, m1, m1, m1, m1, m1, m1, m1, m1, m0, m0, m0]
  exact hc
theorem oif_i {c A B : Prop} (h1 : c → A) (h2 : ¬ c → B) : oif c A B := ⟨h1, h2⟩
