/-! ===== all that the law reckons of a fireball ===== -/
def AL (s : Nat → Nat → Int32) (n f : Nat) (g : Nat → Int64) : Prop := (g 0).toInt = qMan s n f n ∧ B6 (g 1) (zFx s n f) 198009900 ∧ B6 (g 2) (zFy s n f) 198009900 ∧ B6 (g 3) (zTx s n f) 198009900 ∧ B6 (g 4) (zTy s n f) 198009900 ∧ B6 (g 5) (zSp s n f) 600000000000 ∧ B6 (g 6) (zBl s n f) 3600000 ∧ (g 7).toInt = zMs s n f
def QA (μ : MS) (m x5 y5 x7 y7 bl : Int) : Prop := (ml μ 4 0).toInt = m ∧ (ml μ 4 1).toInt = x5 ∧ (ml μ 4 2).toInt = y5 ∧ (ml μ 4 3).toInt = x7 ∧ (ml μ 4 4).toInt = y7 ∧ (ml μ 4 6).toInt = bl
theorem ixl_0 : ix 0 = 0 := by decide
theorem ixl_1 : ix 1 = 1 := by decide
theorem ixl_2 : ix 2 = 2 := by decide
theorem ixl_3 : ix 3 = 3 := by decide
theorem ixl_4 : ix 4 = 4 := by decide
theorem ixl_5 : ix 5 = 5 := by decide
theorem ixl_6 : ix 6 = 6 := by decide
theorem ixl_7 : ix 7 = 7 := by decide
theorem mq_5 (μ : MS) (u : Nat → Int64) (j : Nat) : ml (mQ μ 5 u) 5 j = u j := rfl
theorem mq_4 (μ : MS) (u : Nat → Int64) (j : Nat) : ml (mQ μ 5 u) 4 j = ml μ 4 j := rfl
theorem ml_54 (μ : MS) (k : Nat) (v : Int64) (j : Nat) : ml (mL μ 4 k v) 5 j = ml μ 5 j := ml_ne (by decide)
theorem all_mem (μ : MS) (u5 u7 : Nat → Int64) {μ1 μ2 μ3 μ4 : MS} (e1 : μ1 = mL (mQ μ 5 u5) 4 (ix 1) ((ml μ 4 (ix 1)) + (ml (mQ μ 5 u5) 5 (ix 0)))) (e2 : μ2 = mL μ1 4 (ix 2) ((ml μ1 4 (ix 2)) + (ml μ1 5 (ix 1)))) (e3 : μ3 = mL (mQ μ2 5 u7) 4 (ix 3) ((ml μ2 4 (ix 3)) + (ml (mQ μ2 5 u7) 5 (ix 0)))) (e4 : μ4 = mL μ3 4 (ix 4) ((ml μ3 4 (ix 4)) + (ml μ3 5 (ix 1)))) : μ4.1 = μ.1 ∧ ml μ4 4 0 = ml μ 4 0 ∧ ml μ4 4 1 = ml μ 4 1 + u5 0 ∧ ml μ4 4 2 = ml μ 4 2 + u5 1 ∧ ml μ4 4 3 = ml μ 4 3 + u7 0 ∧ ml μ4 4 4 = ml μ 4 4 + u7 1 ∧ ml μ4 4 6 = ml μ 4 6 := by
  subst e1 e2 e3 e4
  refine ⟨rfl, ?_, ?_, ?_, ?_, ?_, ?_⟩ <;> simp [ml_at, ml_54, mq_5, mq_4, ixl_0, ixl_1, ixl_2, ixl_3, ixl_4]
theorem pl_i {a b : Int64} {A C : Int} {m n : Nat} (ha : a.toInt = A) (hA : A.natAbs ≤ m) (hb : b.toInt = C) (hC : C.natAbs ≤ n) (h : m + n < 9223372036854775808) : (a + b).toInt = A + C := (b6_add ⟨ha, hA⟩ ⟨hb, hC⟩ h).1
theorem lW_b7 {s : Nat → Nat → Int32} {n i j : Nat} {g : Nat → Nat → Int} (hj : j ≤ 7) (h : ∀ m, JJ s n i m = true → (g i m).natAbs ≤ 198009900) : (lW s n g i j).natAbs ≤ 1386069300 := Nat.le_trans (lW_b h j) (Nat.le_trans (Nat.mul_le_mul_right _ hj) (Nat.le_of_ble_eq_true rfl))
theorem lW_b1 {s : Nat → Nat → Int32} {n i j : Nat} (hj : j ≤ 7) : (lW s n (fun _ _ => 1) i j).natAbs ≤ 7 := Nat.le_trans (lW_b (B := 1) (g := fun _ _ => 1) (fun _ _ => by decide) j) (by omega)
theorem nab {a b : Int} {m n : Nat} (ha : a.natAbs ≤ m) (hb : b.natAbs ≤ n) : (a + b).natAbs ≤ m + n := Nat.le_trans (Int.natAbs_add_le a b) (Nat.add_le_add ha hb)
/-- the pairs of one sighting with those behind it -/
theorem wa_151 {μ : MS} {n : Nat} {s : Nat → Nat → Int32} (h : LZ μ n s) (hs : Sok s n) {i : Nat} (hi : i < n) {p3 : Int32} {K : (Nat → Int64) → Prop} {w6 w8 w10 : Int64} {w12 : Int32} {μw : MS} {KC KE : Int64 × Int64 × Int64 × Int32 × MS → Prop} {v6 v8 v10 : Int64} {μ' : MS} (e1 : μ'.1 = μ.1) {p0 m x5 y5 x7 y7 bl : Int} (hp : v6.toInt = p0) (bp : p0.natAbs ≤ 1000) (hq : QA μ' m x5 y5 x7 y7 bl) (bx : x5.natAbs ≤ 1000000000000 ∧ y5.natAbs ≤ 1000000000000 ∧ x7.natAbs ≤ 1000000000000 ∧ y7.natAbs ≤ 1000000000000) (hC : ∀ (v6' : Int64) (μ'' : MS), μ''.1 = μ.1 → v6'.toInt = p0 + lW s n (fun _ _ => 1) i n → QA μ'' m (x5 + lW s n (fun i j => sX s 5 i j) i n) (y5 + lW s n (fun i j => sY s 5 i j) i n) (x7 + lW s n (fun i j => sX s 7 i j) i n) (y7 + lW s n (fun i j => sY s 7 i j) i n) bl → KC (v6', v8, v10, nI i + 1, μ'')) : w_L_all_l39_151 (nI n) p3 K w6 w8 w10 w12 μw KC KE v6 v8 v10 (nI i) (nI i + 1) μ' := by
  have hn := h.1
  have hG := gr_JJ s n
  have hJb : ∀ b, b = 5 ∨ b = 7 → ∀ j, JJ s n i j = true → (sX s b i j).natAbs ≤ 198009900 ∧ (sY s b i j).natAbs ≤ 198009900 := fun b hb j hj => by
    have hh := hG.2 i j hj
    rw [JJ_jn hh.1 hh.2] at hj
    refine sX_ab hs hh.1 hh.2 hb ?_
    rcases hb with rfl | rfl
    · exact (jn_B hj).1
    · exact (jn_B hj).2
  refine ⟨fun M v => ∃ j, i + 1 ≤ j ∧ j ≤ n ∧ n + 1 ≤ M + j ∧ v.2.1 = nI j ∧ v.2.2.1 = μ.1 ∧ v.1.toInt = p0 + lW s n (fun _ _ => 1) i j ∧ QA v.2.2 m (x5 + lW s n (fun i j => sX s 5 i j) i j) (y5 + lW s n (fun i j => sY s 5 i j) i j) (x7 + lW s n (fun i j => sX s 7 i j) i j) (y7 + lW s n (fun i j => sY s 7 i j) i j) bl, ⟨i + 1, Nat.le_refl _, hi, by omega, (nI_succ i).symm, e1, ?_, ?_⟩, fun v hv => ?_, fun M v hv => ?_⟩
  · rw [lW_0, Int.add_zero]; exact hp
  · rw [lW_0, lW_0, lW_0, lW_0, Int.add_zero, Int.add_zero, Int.add_zero, Int.add_zero]; exact hq
  · obtain ⟨j, g1, g2, g3, -⟩ := hv
    omega
  · obtain ⟨v6, w13, μ'⟩ := v
    obtain ⟨j, g1, g2, g3, g4, g5, g6, g7⟩ := hv
    dsimp only at g4 g5 g6 g7 ⊢
    subst g4
    unfold b_L_all_151
    refine oif_i (fun y => ?_) (fun y => ?_)
    · have e : j = n := by
        have := (nI_leI (by omega) (by omega)).mp y
        omega
      rw [e] at g6 g7
      unfold w_L_all_l39_255
      exact hC v6 μ' g5 g6 g7
    · have hj : j < n := by
        rcases Nat.lt_or_ge j n with z | z
        · exact z
        · exact absurd (nI_le z (by omega)) y
      have hz : LZ μ' n s := lz_eq h (by rw [g5]) (by rw [g5])
      refine ⟨fun v => (v = 1 ∧ jn s i j = true) ∨ (v = 0 ∧ jn s i j = false), wjoins hz hs hi hj (fun z => Or.inl ⟨rfl, z⟩) (fun z => Or.inr ⟨rfl, z⟩), fun v hv => ?_⟩
      rcases hv with ⟨rfl, c⟩ | ⟨rfl, c⟩
      · refine oif_i (fun z => absurd z (by decide)) (fun _ => ?_)
        have hJ : JJ s n i j = true := by rw [JJ_jn hi hj]; exact c
        have c5 := (jn_B c).1
        have c7 := (jn_B c).2
        refine ⟨fun v u => v = 1 ∧ (u 0).toInt = sX s 5 i j ∧ (u 1).toInt = sY s 5 i j, wcross (μ := μ') (b := 5) hz hs hi hj (Or.inl rfl) (fun _ u y1 y2 => ⟨rfl, y1, y2⟩) (fun z => by rw [c5] at z; exact absurd z (by decide)), fun v u5 hv => ?_⟩
        obtain ⟨-, u50, u51⟩ := hv
        obtain ⟨μ1, q1⟩ : ∃ z, z = mL (mQ μ' 5 u5) 4 (ix 1) ((ml μ' 4 (ix 1)) + (ml (mQ μ' 5 u5) 5 (ix 0))) := ⟨_, rfl⟩
        rw [← q1]
        unfold w_L_all_l151_202
        obtain ⟨μ2, q2⟩ : ∃ z, z = mL μ1 4 (ix 2) ((ml μ1 4 (ix 2)) + (ml μ1 5 (ix 1))) := ⟨_, rfl⟩
        rw [← q2]
        unfold w_L_all_l151_213
        have hz2 : LZ μ2 n s := lz_eq hz (by rw [q2, q1]; rfl) (by rw [q2, q1]; rfl)
        refine ⟨fun v u => v = 1 ∧ (u 0).toInt = sX s 7 i j ∧ (u 1).toInt = sY s 7 i j, wcross (μ := μ2) (b := 7) hz2 hs hi hj (Or.inr rfl) (fun _ u y1 y2 => ⟨rfl, y1, y2⟩) (fun z => by rw [c7] at z; exact absurd z (by decide)), fun v u7 hv => ?_⟩
        obtain ⟨-, u70, u71⟩ := hv
        obtain ⟨μ3, q3⟩ : ∃ z, z = mL (mQ μ2 5 u7) 4 (ix 3) ((ml μ2 4 (ix 3)) + (ml (mQ μ2 5 u7) 5 (ix 0))) := ⟨_, rfl⟩
        rw [← q3]
        unfold w_L_all_l151_238 w_L_all_l151_249
        obtain ⟨μ4, q4⟩ : ∃ z, z = mL μ3 4 (ix 4) ((ml μ3 4 (ix 4)) + (ml μ3 5 (ix 1))) := ⟨_, rfl⟩
        rw [← q4]
        obtain ⟨r1, r2, r3, r4, r5, r6, r7⟩ := all_mem μ' u5 u7 q1 q2 q3 q4
        obtain ⟨a0, a1, a2, a3, a4, a6⟩ := g7
        have hif : i < j ∧ JJ s n i j = true := ⟨by omega, hJ⟩
        have b5 := hJb 5 (Or.inl rfl) j hJ
        have b7 := hJb 7 (Or.inr rfl) j hJ
        have l1' := lW_b1 (s := s) (n := n) (i := i) (j := j) (by omega)
        have l5x' := lW_b7 (g := fun i j => sX s 5 i j) (j := j) (by omega) (fun k hk => (hJb 5 (Or.inl rfl) k hk).1)
        have l5y' := lW_b7 (g := fun i j => sY s 5 i j) (j := j) (by omega) (fun k hk => (hJb 5 (Or.inl rfl) k hk).2)
        have l7x' := lW_b7 (g := fun i j => sX s 7 i j) (j := j) (by omega) (fun k hk => (hJb 7 (Or.inr rfl) k hk).1)
        have l7y' := lW_b7 (g := fun i j => sY s 7 i j) (j := j) (by omega) (fun k hk => (hJb 7 (Or.inr rfl) k hk).2)
        refine ⟨j + 1, by omega, by omega, by omega, (nI_succ j).symm, r1.trans g5, ?_, ?_, ?_, ?_, ?_, ?_, ?_⟩
        · show (v6 + 1).toInt = _
          rw [lW_s, if_pos hif, ← Int.add_assoc]
          exact pl_i g6 (nab bp l1') (by decide) (n := 1) (C := 1) (by decide) (Nat.le_of_ble_eq_true rfl)
        · show (ml μ4 4 0).toInt = _
          rw [r2]; exact a0
        · show (ml μ4 4 1).toInt = _
          rw [r3, lW_s, if_pos hif, ← Int.add_assoc]
          exact pl_i a1 (nab bx.1 l5x') u50 b5.1 (Nat.le_of_ble_eq_true rfl)
        · show (ml μ4 4 2).toInt = _
          rw [r4, lW_s, if_pos hif, ← Int.add_assoc]
          exact pl_i a2 (nab bx.2.1 l5y') u51 b5.2 (Nat.le_of_ble_eq_true rfl)
        · show (ml μ4 4 3).toInt = _
          rw [r5, lW_s, if_pos hif, ← Int.add_assoc]
          exact pl_i a3 (nab bx.2.2.1 l7x') u70 b7.1 (Nat.le_of_ble_eq_true rfl)
        · show (ml μ4 4 4).toInt = _
          rw [r6, lW_s, if_pos hif, ← Int.add_assoc]
          exact pl_i a4 (nab bx.2.2.2 l7y') u71 b7.2 (Nat.le_of_ble_eq_true rfl)
        · show (ml μ4 4 6).toInt = _
          rw [r7]; exact a6
      · refine oif_i (fun _ => ?_) (fun z => absurd rfl z)
        unfold w_L_all_l151_249
        have hJ : ¬ (i < j ∧ JJ s n i j = true) := fun z => by
          rw [JJ_jn hi hj, c] at z
          exact absurd z.2 Bool.false_ne_true
        refine ⟨j + 1, by omega, by omega, by omega, (nI_succ j).symm, g5, ?_, ?_⟩
        · rw [lW_s, if_neg hJ, Int.add_zero]; exact g6
        · rw [lW_s, lW_s, lW_s, lW_s, if_neg hJ, if_neg hJ, if_neg hJ, if_neg hJ, Int.add_zero, Int.add_zero, Int.add_zero, Int.add_zero]
          exact g7
