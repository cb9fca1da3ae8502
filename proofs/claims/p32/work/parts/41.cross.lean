/-! ===== rays that cross ===== -/
def cT (dx dy ex ey : Int) : Int := dx * ey - dy * ex
def cG (T : Int) : Int := if 0 < T then 1 else -1
def cB (x1 y1 dx dy x2 y2 ex ey : Int) : Bool := decide (cT dx dy ex ey ≠ 0 ∧ 0 < cG (cT dx dy ex ey) * cT (x2 - x1) (y2 - y1) ex ey ∧ 0 < cG (cT dx dy ex ey) * cT (x2 - x1) (y2 - y1) dx dy)
def cP (x1 dx T M : Int) : Int := (100 * (x1 * T + M * dx)) / T
/-- where they cross: x with the direction's x, y with its y -/
def cX (x1 y1 dx dy x2 y2 ex ey : Int) : Int := cP x1 dx (cG (cT dx dy ex ey) * cT dx dy ex ey) (cG (cT dx dy ex ey) * cT (x2 - x1) (y2 - y1) ex ey)
def cY (x1 y1 dx dy x2 y2 ex ey : Int) : Int := cP y1 dy (cG (cT dx dy ex ey) * cT dx dy ex ey) (cG (cT dx dy ex ey) * cT (x2 - x1) (y2 - y1) ex ey)
/-- the numbers are small -/
def cS (x1 y1 dx dy x2 y2 ex ey : Int) : Prop := (0 ≤ x1 ∧ x1 ≤ 99) ∧ (0 ≤ y1 ∧ y1 ≤ 99) ∧ dx.natAbs ≤ 100 ∧ dy.natAbs ≤ 100 ∧ (0 ≤ x2 ∧ x2 ≤ 99) ∧ (0 ≤ y2 ∧ y2 ≤ 99) ∧ ex.natAbs ≤ 100 ∧ ey.natAbs ≤ 100
theorem i32_sub {a b : Int32} {m : Nat} (h : (a.toInt - b.toInt).natAbs ≤ m) (hm : m < 2147483648) : (a - b).toInt = a.toInt - b.toInt := by
  rw [Int32.toInt_sub]
  exact Int.bmod_eq_of_le (m := 4294967296) (by omega) (by omega)
theorem i32_add {a b : Int32} {m : Nat} (h : (a.toInt + b.toInt).natAbs ≤ m) (hm : m < 2147483648) : (a + b).toInt = a.toInt + b.toInt := by
  rw [Int32.toInt_add]
  exact Int.bmod_eq_of_le (m := 4294967296) (by omega) (by omega)
theorem i32_mul {a b : Int32} {m : Nat} (h : (a.toInt * b.toInt).natAbs ≤ m) (hm : m < 2147483648) : (a * b).toInt = a.toInt * b.toInt := by
  rw [Int32.toInt_mul]
  exact Int.bmod_eq_of_le (m := 4294967296) (by omega) (by omega)
theorem b6_of {z : Int} {n : Nat} (h : z.natAbs ≤ n) (hn : n < 9223372036854775808) : B6 (Int64.ofInt z) z n := ⟨Int64.toInt_ofInt_of_le (by omega) (by omega), h⟩
theorem cT_ab {a b c d : Int} {m n : Nat} (ha : a.natAbs ≤ m) (hb : b.natAbs ≤ m) (hc : c.natAbs ≤ n) (hd : d.natAbs ≤ n) : (cT a b c d).natAbs ≤ m * n + m * n := by
  unfold cT
  have h1 : (a * d).natAbs ≤ m * n := by rw [Int.natAbs_mul]; exact Nat.mul_le_mul ha hd
  have h2 : (b * c).natAbs ≤ m * n := by rw [Int.natAbs_mul]; exact Nat.mul_le_mul hb hc
  omega
theorem b6_cT {a b c d : Int64} {A B C D : Int} {m n : Nat} (ha : B6 a A m) (hb : B6 b B m) (hc : B6 c C n) (hd : B6 d D n) (h : m * n + m * n < 9223372036854775808) : B6 (a * d - b * c) (cT A B C D) (m * n + m * n) := b6_sub (b6_mul ha hd (by omega)) (b6_mul hb hc (by omega)) h
theorem cG_mul (T : Int) : cG T * T = (T.natAbs : Int) := by
  unfold cG
  split <;> omega
theorem cP_ab {x1 dx T M : Int} (hx : 0 ≤ x1 ∧ x1 ≤ 99) (hd : dx.natAbs ≤ 100) (hT : 0 < T) (hM : M.natAbs ≤ 19800) : (cP x1 dx T M).natAbs ≤ 198009900 := by
  unfold cP
  have h1 : (M * dx).natAbs ≤ 19800 * 100 := by rw [Int.natAbs_mul]; exact Nat.mul_le_mul hM hd
  have h2 : 100 * (x1 * T + M * dx) = 100 * (M * dx) + T * (100 * x1) := by
    rw [Int.mul_add, Int.mul_comm x1 T, Int.add_comm, ← Int.mul_assoc, ← Int.mul_assoc, Int.mul_comm 100 T, Int.mul_assoc T]
  rw [h2, Int.add_mul_ediv_left _ _ (by omega : T ≠ 0)]
  have h3 := Int.natAbs_ediv_le_natAbs (100 * (M * dx)) T
  omega
theorem cX_ab {x1 y1 dx dy x2 y2 ex ey : Int} (h : cS x1 y1 dx dy x2 y2 ex ey) (hT : cT dx dy ex ey ≠ 0) : (cX x1 y1 dx dy x2 y2 ex ey).natAbs ≤ 198009900 ∧ (cY x1 y1 dx dy x2 y2 ex ey).natAbs ≤ 198009900 := by
  obtain ⟨a1, a2, a3, a4, a5, a6, a7, a8⟩ := h
  have hM : (cT (x2 - x1) (y2 - y1) ex ey).natAbs ≤ 19800 := cT_ab (m := 99) (n := 100) (by omega) (by omega) a7 a8
  have hG : (cG (cT dx dy ex ey) * cT (x2 - x1) (y2 - y1) ex ey).natAbs ≤ 19800 := by unfold cG; split <;> omega
  have h0 : 0 < cG (cT dx dy ex ey) * cT dx dy ex ey := by rw [cG_mul]; omega
  exact ⟨cP_ab a1 a3 h0 hG, cP_ab a2 a4 h0 hG⟩
theorem b6_cP {x d T M : Int64} {X D t g : Int} {k : Nat} (hx : B6 x X 99) (hd : B6 d D 100) (hT : B6 T t k) (hk : k ≤ 20000) (hM : B6 M g 19800) : B6 (100 * ((x * T) + (M * d))) (100 * (X * t + g * D)) 396000000 := b6_mul b6_100 (b6_add (m := 1980000) (n := 1980000) (b6_le (b6_mul hx hT (by omega)) (by omega)) (b6_mul hM hd (by omega)) (by omega)) (by omega)
/-- the class's crossing -/
theorem isOf_i {σ : XS} {q0 p1 p4 : Nat} {p2 p3 p5 p6 : Int32} {x1 y1 dx dy x2 y2 ex ey : Int} (h1 : (xi σ 20 p1).toInt = x1) (h2 : (xi σ 21 p1).toInt = y1) (h3 : p2.toInt = dx) (h4 : p3.toInt = dy) (h5 : (xi σ 20 p4).toInt = x2) (h6 : (xi σ 21 p4).toInt = y2) (h7 : p5.toInt = ex) (h8 : p6.toInt = ey) (hS : cS x1 y1 dx dy x2 y2 ex ey) : f_X2_isOf σ q0 p1 p2 p3 p4 p5 p6 = (if cB x1 y1 dx dy x2 y2 ex ey = true then (1, xJ (xJ σ 60 q0 (Int64.ofInt (cX x1 y1 dx dy x2 y2 ex ey))) 61 q0 (Int64.ofInt (cY x1 y1 dx dy x2 y2 ex ey))) else (0, σ)) ∧ (xk σ p1 = 1 → xk σ p4 = 1 → xk σ q0 = 3 → of_X2_isOf σ q0 p1 p2 p3 p4 p5 p6) := by
  have hS0 := hS
  obtain ⟨a1, a2, a3, a4, a5, a6, a7, a8⟩ := hS
  have b2 := b6_i32 h3 a3
  have b3 := b6_i32 h4 a4
  have b5 := b6_i32 h7 a7
  have b6 := b6_i32 h8 a8
  have bx : B6 ((xi σ 20 p1).toInt64) x1 99 := b6_i32 h1 (by omega)
  have by' : B6 ((xi σ 21 p1).toInt64) y1 99 := b6_i32 h2 (by omega)
  have bax : B6 (((xi σ 20 p4) - (xi σ 20 p1)).toInt64) (x2 - x1) 99 := b6_i32 (by rw [i32_sub (m := 99) (by omega) (by omega), h5, h1]) (by omega)
  have bay : B6 (((xi σ 21 p4) - (xi σ 21 p1)).toInt64) (y2 - y1) 99 := b6_i32 (by rw [i32_sub (m := 99) (by omega) (by omega), h6, h2]) (by omega)
  have bT := b6_cT b2 b3 b5 b6 (by decide)
  have bM := b6_cT bax bay b5 b6 (by decide)
  have bI := b6_cT bax bay b2 b3 (by decide)
  -- the part behind the turn
  have part : ∀ (T M I : Int64) (t g i : Int), B6 T t 20000 → B6 M g 19800 → B6 I i 19800 → 0 ≤ t → (t ≠ 0 → (cP x1 dx t g).natAbs ≤ 198009900 ∧ (cP y1 dy t g).natAbs ≤ 198009900) → f_X2_isOf_91 σ q0 p1 p2 p3 p4 p5 p6 T M I = (if t ≠ 0 ∧ 0 < g ∧ 0 < i then (1, xJ (xJ σ 60 q0 (Int64.ofInt (cP x1 dx t g))) 61 q0 (Int64.ofInt (cP y1 dy t g))) else (0, σ)) ∧ (xk σ p1 = 1 → xk σ q0 = 3 → of_X2_isOf_91 σ q0 p1 p2 p3 p4 p5 p6 T M I) := by
    intro T M I t g i hT hM hI h0 hab
    constructor
    · unfold f_X2_isOf_91
      by_cases c1 : t = 0
      · rw [if_pos ((b6_ceq hT b6_0).mpr c1), if_neg (fun z => z.1 c1)]
      · rw [if_neg (fun z => c1 ((b6_ceq hT b6_0).mp z))]
        by_cases c2 : g ≤ 0
        · rw [if_pos ((b6_cle hM b6_0).mpr c2), if_neg (fun z => by have := z.2.1; omega)]
        · rw [if_neg (fun z => c2 ((b6_cle hM b6_0).mp z))]
          by_cases c3 : 0 < i
          · rw [if_pos ((b6_gt hI b6_0).mpr c3), if_pos ⟨c1, by omega, c3⟩]
            have e1 := b6_fd (b6_cP bx b2 hT (Nat.le_refl _) hM) hT (by omega) (by omega)
            have e2 := b6_fd (b6_cP by' b3 hT (Nat.le_refl _) hM) hT (by omega) (by omega)
            have f1 := b6_of (hab c1).1 (by omega)
            have f2 := b6_of (hab c1).2 (by omega)
            rw [b6_eq e1 f1, b6_eq e2 f2]
          · rw [if_neg (fun z => c3 ((b6_gt hI b6_0).mp z)), if_neg (fun z => c3 z.2.2)]
    · intro k1 k0
      unfold of_X2_isOf_91
      refine ⟨fun _ => trivial, fun c1 => ⟨fun _ => trivial, fun _ => ⟨fun _ => ?_, fun _ => trivial⟩⟩⟩
      have ht : t ≠ 0 := fun z => c1 ((b6_ceq hT b6_0).mpr z)
      exact ⟨k1, of_fd hT (by omega), k0, of_fd hT (by omega), trivial⟩
  have cM : (cT (x2 - x1) (y2 - y1) ex ey).natAbs ≤ 19800 := bM.2
  by_cases c0 : 0 ≤ cT dx dy ex ey
  · by_cases c1 : cT dx dy ex ey = 0
    · obtain ⟨g1, g2⟩ := part _ _ _ _ _ _ bT bM bI c0 (fun z => absurd c1 z)
      constructor
      · unfold f_X2_isOf f_X2_isOf_41
        rw [if_pos ((b6_ge bT b6_0).mpr c0), g1, if_neg (fun z => z.1 c1), if_neg]
        unfold cB
        rw [decide_eq_true_iff]
        exact fun z => z.1 c1
      · intro k1 k4 k0
        exact ⟨k4, k1, fun _ => g2 k1 k0, fun z => absurd ((b6_ge bT b6_0).mpr c0) z⟩
    · have cg : cG (cT dx dy ex ey) = 1 := by unfold cG; rw [if_pos (by omega)]
      have hab := cX_ab hS0 c1
      unfold cX cY at hab
      rw [cg, Int.one_mul, Int.one_mul] at hab
      obtain ⟨g1, g2⟩ := part _ _ _ _ _ _ bT bM bI c0 (fun _ => hab)
      constructor
      · unfold f_X2_isOf f_X2_isOf_41
        rw [if_pos ((b6_ge bT b6_0).mpr c0), g1]
        unfold cB cX cY
        rw [cg, Int.one_mul, Int.one_mul, Int.one_mul]
        simp only [decide_eq_true_iff]
      · intro k1 k4 k0
        exact ⟨k4, k1, fun _ => g2 k1 k0, fun z => absurd ((b6_ge bT b6_0).mpr c0) z⟩
  · have cg : cG (cT dx dy ex ey) = -1 := by unfold cG; rw [if_neg (by omega)]
    have hab := cX_ab hS0 (by omega)
    unfold cX cY at hab
    rw [cg, Int.neg_mul, Int.one_mul, Int.neg_mul, Int.one_mul] at hab
    obtain ⟨g1, g2⟩ := part _ _ _ _ _ _ (b6_neg bT (by omega)) (b6_neg bM (by omega)) (b6_neg bI (by omega)) (by omega) (fun _ => hab)
    have cn0 : ¬ (0 ≤ lg_cmp ((p2.toInt64 * p6.toInt64) - (p3.toInt64 * p5.toInt64)) 0) := fun z => c0 ((b6_ge bT b6_0).mp z)
    constructor
    · unfold f_X2_isOf f_X2_isOf_41
      rw [if_neg cn0, g1]
      unfold cB cX cY
      rw [cg, Int.neg_mul, Int.one_mul, Int.neg_mul, Int.one_mul, Int.neg_mul, Int.one_mul]
      simp only [decide_eq_true_iff, ne_eq, Int.neg_eq_zero]
    · intro k1 k4 k0
      exact ⟨k4, k1, fun z => absurd z cn0, fun _ => g2 k1 k0⟩
/-- the reference's crossing -/
theorem cross_i {μ : MS} {p1 p2 p3 p4 p5 p6 : Int32} {x1 y1 dx dy x2 y2 ex ey : Int} (v1 : vp_in p1 10) (v4 : vp_in p4 10) (h1 : (mi μ 2 (ix p1)).toInt = x1) (h2 : (mi μ 3 (ix p1)).toInt = y1) (h3 : p2.toInt = dx) (h4 : p3.toInt = dy) (h5 : (mi μ 2 (ix p4)).toInt = x2) (h6 : (mi μ 3 (ix p4)).toInt = y2) (h7 : p5.toInt = ex) (h8 : p6.toInt = ey) (hS : cS x1 y1 dx dy x2 y2 ex ey) : f_X11_cross μ p1 p2 p3 p4 p5 p6 = (if cB x1 y1 dx dy x2 y2 ex ey = true then (1, mL (mL μ 25 0 (Int64.ofInt (cX x1 y1 dx dy x2 y2 ex ey))) 26 0 (Int64.ofInt (cY x1 y1 dx dy x2 y2 ex ey))) else (0, μ)) ∧ of_X11_cross μ p1 p2 p3 p4 p5 p6 := by
  have hS0 := hS
  obtain ⟨a1, a2, a3, a4, a5, a6, a7, a8⟩ := hS
  have b2 := b6_i32 h3 a3
  have b3 := b6_i32 h4 a4
  have b5 := b6_i32 h7 a7
  have b6 := b6_i32 h8 a8
  have bx : B6 ((mi μ 2 (ix p1)).toInt64) x1 99 := b6_i32 h1 (by omega)
  have by' : B6 ((mi μ 3 (ix p1)).toInt64) y1 99 := b6_i32 h2 (by omega)
  have bax : B6 (((mi μ 2 (ix p4)) - (mi μ 2 (ix p1))).toInt64) (x2 - x1) 99 := b6_i32 (by rw [i32_sub (m := 99) (by omega) (by omega), h5, h1]) (by omega)
  have bay : B6 (((mi μ 3 (ix p4)) - (mi μ 3 (ix p1))).toInt64) (y2 - y1) 99 := b6_i32 (by rw [i32_sub (m := 99) (by omega) (by omega), h6, h2]) (by omega)
  have bT := b6_cT b2 b3 b5 b6 (by decide)
  have bM := b6_cT bax bay b5 b6 (by decide)
  have bI := b6_cT bax bay b2 b3 (by decide)
  have part : ∀ (V S M I : Int64) (t g i : Int), B6 (V * S) t 20000 → B6 M g 19800 → B6 I i 19800 → 0 < t → ((cP x1 dx t g).natAbs ≤ 198009900 ∧ (cP y1 dy t g).natAbs ≤ 198009900) → f_X11_cross_110 μ p1 p2 p3 p4 p5 p6 V S M I = (if 0 < g ∧ 0 < i then (1, mL (mL μ 25 0 (Int64.ofInt (cP x1 dx t g))) 26 0 (Int64.ofInt (cP y1 dy t g))) else (0, μ)) ∧ of_X11_cross_110 μ p1 p2 p3 p4 p5 p6 V S M I := by
    intro V S M I t g i hT hM hI h0 hab
    constructor
    · unfold f_X11_cross_110
      by_cases c2 : g ≤ 0
      · rw [if_pos ((b6_cle hM b6_0).mpr c2), if_neg (fun z => by have := z.1; omega)]
      · rw [if_neg (fun z => c2 ((b6_cle hM b6_0).mp z))]
        by_cases c3 : 0 < i
        · rw [if_pos ((b6_gt hI b6_0).mpr c3), if_pos ⟨by omega, c3⟩]
          unfold f_X11_cross_162
          have e1 := b6_dn (b6_cP bx b2 hT (Nat.le_refl _) hM) hT h0 (by omega)
          have e2 := b6_dn (b6_cP by' b3 hT (Nat.le_refl _) hM) hT h0 (by omega)
          have f1 := b6_of hab.1 (by omega)
          have f2 := b6_of hab.2 (by omega)
          rw [b6_eq e1 f1]
          show (1, mL (mL μ 25 0 (Int64.ofInt (cP x1 dx t g))) 26 0 (f_X11_down (100 * ((((mi μ 3 (ix p1)).toInt64) * (V * S)) + (M * p3.toInt64))) (V * S))) = _
          rw [b6_eq e2 f2]
        · rw [if_neg (fun z => c3 ((b6_gt hI b6_0).mp z)), if_neg (fun z => c3 z.2)]
    · exact ⟨fun _ => trivial, fun _ => ⟨fun _ => ⟨v1, of_dn hT h0, v1, of_dn hT h0, trivial⟩, fun _ => trivial⟩⟩
  have bn1 : B6 (-1) (-1) 1 := ⟨by decide, by decide⟩
  by_cases c1 : cT dx dy ex ey = 0
  · constructor
    · unfold f_X11_cross
      rw [if_pos ((b6_ceq bT b6_0).mpr c1), if_neg]
      unfold cB
      rw [decide_eq_true_iff]
      exact fun z => z.1 c1
    · exact ⟨fun _ => trivial, fun z => absurd ((b6_ceq bT b6_0).mpr c1) z⟩
  · have hz : ¬ (lg_cmp ((p2.toInt64 * p6.toInt64) - (p3.toInt64 * p5.toInt64)) 0) = 0 := fun z => c1 ((b6_ceq bT b6_0).mp z)
    by_cases c0 : cT dx dy ex ey ≤ 0
    · have cg : cG (cT dx dy ex ey) = -1 := by unfold cG; rw [if_neg (by omega)]
      have hab := cX_ab hS0 c1
      unfold cX cY at hab
      rw [cg] at hab
      have hT : B6 (((p2.toInt64 * p6.toInt64) - (p3.toInt64 * p5.toInt64)) * (-1)) ((-1) * cT dx dy ex ey) 20000 := b6_A (b6_le (b6_mul bT bn1 (by omega)) (by omega)) (Int.mul_comm _ _)
      obtain ⟨g1, g2⟩ := part _ _ _ _ _ _ _ hT (b6_le (b6_mul bn1 bM (by omega)) (by omega)) (b6_le (b6_mul bn1 bI (by omega)) (by omega)) (by omega) hab
      have hz2 := (b6_cle bT b6_0).mpr c0
      constructor
      · unfold f_X11_cross f_X11_cross_70
        rw [if_neg hz, if_pos hz2, g1]
        unfold cB cX cY
        rw [cg]
        simp only [decide_eq_true_iff]
        by_cases c3 : 0 < -1 * cT (x2 - x1) (y2 - y1) ex ey ∧ 0 < -1 * cT (x2 - x1) (y2 - y1) dx dy
        · rw [if_pos c3, if_pos ⟨c1, c3⟩]
        · rw [if_neg c3, if_neg (fun z => c3 z.2)]
      · exact ⟨fun z => absurd z hz, fun _ => ⟨v4, v1, v4, v1, fun _ => g2, fun z => absurd hz2 z⟩⟩
    · have cg : cG (cT dx dy ex ey) = 1 := by unfold cG; rw [if_pos (by omega)]
      have hab := cX_ab hS0 c1
      unfold cX cY at hab
      rw [cg] at hab
      have hT : B6 (((p2.toInt64 * p6.toInt64) - (p3.toInt64 * p5.toInt64)) * 1) (1 * cT dx dy ex ey) 20000 := b6_A (b6_le (b6_mul bT b6_1 (by omega)) (by omega)) (Int.mul_comm _ _)
      obtain ⟨g1, g2⟩ := part _ _ _ _ _ _ _ hT (b6_le (b6_mul b6_1 bM (by omega)) (by omega)) (b6_le (b6_mul b6_1 bI (by omega)) (by omega)) (by omega) hab
      have hz2 : ¬ (lg_cmp ((p2.toInt64 * p6.toInt64) - (p3.toInt64 * p5.toInt64)) 0) ≤ 0 := fun z => c0 ((b6_cle bT b6_0).mp z)
      constructor
      · unfold f_X11_cross f_X11_cross_70
        rw [if_neg hz, if_neg hz2, g1]
        unfold cB cX cY
        rw [cg]
        simp only [decide_eq_true_iff]
        by_cases c3 : 0 < 1 * cT (x2 - x1) (y2 - y1) ex ey ∧ 0 < 1 * cT (x2 - x1) (y2 - y1) dx dy
        · rw [if_pos c3, if_pos ⟨c1, c3⟩]
        · rw [if_neg c3, if_neg (fun z => c3 z.2)]
      · exact ⟨fun z => absurd z hz, fun _ => ⟨v4, v1, v4, v1, fun z => absurd z hz2, fun _ => g2⟩⟩
