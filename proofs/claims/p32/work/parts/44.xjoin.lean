/-! ===== bits of a long ===== -/
def tb (w : Int64) (m : Nat) : Bool := w.toBitVec.getLsbD m
theorem sh_tp : ∀ m, m < 64 → ((1 : Int64) <<< ((nI m).toInt64 &&& 63)).toBitVec = BitVec.twoPow 64 m := by decide +kernel
theorem sh_sm : ∀ m, m < 64 → (((nI m).toInt64 &&& 63).toBitVec.smod 64).toNat = m := by decide +kernel
theorem tb_sh {m i : Nat} (hm : m < 64) : tb ((1 : Int64) <<< ((nI m).toInt64 &&& 63)) i = decide (m = i) := by
  unfold tb
  rw [sh_tp m hm, BitVec.getLsbD_twoPow, decide_eq_true hm, Bool.true_and]
theorem tb_or (a b : Int64) (i : Nat) : tb (a ||| b) i = (tb a i || tb b i) := by
  unfold tb
  rw [Int64.toBitVec_or, BitVec.getLsbD_or]
theorem tb_0 (i : Nat) : tb 0 i = false := by
  unfold tb
  show (0#64).getLsbD i = false
  simp
theorem tb_ext {a b : Int64} (h : ∀ i, i < 64 → tb a i = tb b i) : a = b := by
  apply Int64.toBitVec_inj.mp
  apply BitVec.eq_of_getLsbD_eq
  intro i hi
  exact h i hi
theorem holds_i (w : Int64) {m : Nat} (hm : m < 64) : f_X10_holds w (nI m) = if tb w m = true then 1 else 0 := by
  have e : (w >>> ((nI m).toInt64 &&& 63) &&& 1) = 0 ↔ tb w m = false := by
    unfold tb
    rw [← Int64.toBitVec_inj, Int64.toBitVec_and, Int64.toBitVec_shiftRight]
    show (w.toBitVec.sshiftRight' (((nI m).toInt64 &&& 63).toBitVec.smod 64) &&& 1#64) = 0#64 ↔ _
    rw [BitVec.and_one_eq_setWidth_ofBool_getLsbD, BitVec.getLsbD_sshiftRight', sh_sm m hm]
    simp only [Nat.add_zero, hm, if_true]
    cases w.toBitVec.getLsbD m <;> decide
  unfold f_X10_holds
  by_cases h : tb w m = true
  · rw [if_pos h, if_neg]
    rw [lg_cmp_eq, e, h]
    exact fun z => Bool.false_ne_true z.symm
  · rw [if_neg h, if_pos]
    rw [lg_cmp_eq, e]
    cases g : tb w m with
    | false => rfl
    | true => exact absurd g h
/-! ===== the class joins two ===== -/
def PX (σ σ' : XS) : Prop := σ'.1 = σ.1 ∧ σ'.2.1 = σ.2.1 ∧ (∀ c, c ≠ 60 → c ≠ 61 → σ'.2.2.1 c = σ.2.2.1 c) ∧ σ'.2.2.2 = σ.2.2.2
def XF (σ σ' : XS) : Prop := σ'.1 = σ.1 ∧ (∀ c, c ≠ 82 → c ≠ 83 → c ≠ 100 → c ≠ 101 → c ≠ 102 → c ≠ 150 → c ≠ 151 → σ'.2.1 c = σ.2.1 c) ∧ σ'.2.2.2 = σ.2.2.2
theorem px_refl (σ : XS) : PX σ σ := ⟨rfl, rfl, fun _ _ _ => rfl, rfl⟩
theorem px_tr {a b c : XS} (h : PX a b) (g : PX b c) : PX a c := ⟨g.1.trans h.1, g.2.1.trans h.2.1, fun k h1 h2 => (g.2.2.1 k h1 h2).trans (h.2.2.1 k h1 h2), g.2.2.2.trans h.2.2.2⟩
theorem xf_refl (σ : XS) : XF σ σ := ⟨rfl, fun _ _ _ _ _ _ _ _ => rfl, rfl⟩
theorem xf_tr {a b c : XS} (h : XF a b) (g : XF b c) : XF a c := ⟨g.1.trans h.1, fun k h1 h2 h3 h4 h5 h6 h7 => (g.2.1 k h1 h2 h3 h4 h5 h6 h7).trans (h.2.1 k h1 h2 h3 h4 h5 h6 h7), g.2.2.trans h.2.2⟩
theorem xf_px {a b : XS} (h : PX a b) : XF a b := ⟨h.1, fun c _ _ _ _ _ _ _ => by rw [h.2.1], h.2.2.2⟩
theorem xf_eq {σ σ' : XS} (h : XF σ σ') : σ' = (σ.1, fun a => if a = 82 ∨ a = 83 ∨ a = 100 ∨ a = 101 ∨ a = 102 ∨ a = 150 ∨ a = 151 then σ'.2.1 a else σ.2.1 a, σ'.2.2.1, σ.2.2.2) := by
  refine Prod.ext h.1 (Prod.ext ?_ (Prod.ext rfl h.2.2))
  funext a
  show σ'.2.1 a = if _ then _ else _
  split
  · rfl
  · exact h.2.1 a (fun e => by simp_all) (fun e => by simp_all) (fun e => by simp_all) (fun e => by simp_all) (fun e => by simp_all) (fun e => by simp_all) (fun e => by simp_all)
def SX (σ : XS) (x n : Nat) (s : Nat → Nat → Int32) : Prop := n ≤ 60 ∧ xn σ 2 = n ∧ xk σ (x + 5) = 3 ∧ xk σ (x + 6) = 3 ∧ (∀ k, k < n → xk σ (xe σ 2 k) = 7 ∧ xk σ (xr σ 140 (xe σ 2 k)) = 1 ∧ xi σ 141 (xe σ 2 k) = s k 1 ∧ xi σ 142 (xe σ 2 k) - xi σ 22 (xr σ 140 (xe σ 2 k)) = s k 2 ∧ xi σ 143 (xe σ 2 k) = s k 3 ∧ xi σ 144 (xe σ 2 k) = s k 4 ∧ xi σ 145 (xe σ 2 k) = s k 5 ∧ xi σ 146 (xe σ 2 k) = s k 6 ∧ xi σ 147 (xe σ 2 k) = s k 7 ∧ xi σ 148 (xe σ 2 k) = s k 8 ∧ xi σ 20 (xr σ 140 (xe σ 2 k)) = s k 9 ∧ xi σ 21 (xr σ 140 (xe σ 2 k)) = s k 10) ∧ (∀ k m, k < n → m < n → xe σ 2 k = xe σ 2 m → k = m) ∧ ∀ k m, k < n → m < n → (xr σ 140 (xe σ 2 k) = xr σ 140 (xe σ 2 m) ↔ s k 0 = s m 0)
theorem sx_f {σ σ' : XS} {x n : Nat} {s : Nat → Nat → Int32} (h : SX σ x n s) (g : XF σ σ') : SX σ' x n s := by
  rw [xf_eq g]
  exact h
theorem xcounts_i {σ : XS} {x n : Nat} {s : Nat → Nat → Int32} (h : SX σ x n s) {k : Nat} (hk : k < n) : f_X6_counts σ (xe σ 2 k) = (if vv s k 3 ≤ 30 ∧ 50 ≤ vv s k 4 then 1 else 0) := by
  obtain ⟨-, -, -, -, hs, -, -⟩ := h
  obtain ⟨-, -, -, -, a3, a4, -⟩ := hs k hk
  unfold f_X6_counts vv
  rw [a3, a4]
  have h1 := (le_ti (a := s k 3) (c := 30) (z := 30) (by decide)).2.2.1
  have h2 := (le_ti (a := s k 4) (c := 50) (z := 50) (by decide)).2.2.2
  by_cases c1 : 30 < s k 3
  · rw [if_pos c1, if_neg (fun z => by have := h1.mp c1; omega)]
  · rw [if_neg c1]
    by_cases c2 : s k 4 < 50
    · rw [if_pos c2, if_neg (fun z => by have := h2.mp c2; omega)]
    · rw [if_neg c2, if_pos]
      refine ⟨?_, ?_⟩
      · rcases Int.lt_or_le 30 (s k 3).toInt with g | g
        · exact absurd (h1.mpr g) c1
        · exact g
      · rcases Int.lt_or_le (s k 4).toInt 50 with g | g
        · exact absurd (h2.mpr g) c2
        · exact g
theorem abs32 {d : Int32} {z c : Int32} {n : Nat} (hz : z.toInt = n) (hd : d.toInt.natAbs < 2147483648) : (z < f_J9_abs_0f7a4 d) ↔ n < d.toInt.natAbs := by
  unfold f_J9_abs_0f7a4
  have e0 : (0 : Int32).toInt = 0 := by decide
  by_cases h : 0 ≤ d
  · rw [if_pos h, Int32.lt_iff_toInt_lt, hz]
    rw [Int32.le_iff_toInt_le, e0] at h
    omega
  · rw [if_neg h, Int32.lt_iff_toInt_lt, hz, Int32.toInt_neg]
    rw [Int32.le_iff_toInt_le, e0] at h
    rw [show (-d.toInt).bmod (2 ^ 32) = -d.toInt from Int.bmod_eq_of_le (m := 4294967296) (by omega) (by omega)]
    omega
theorem mayJoin_i {σ : XS} {x n : Nat} {s : Nat → Nat → Int32} (h : SX σ x n s) (hs : Sok s n) {k m : Nat} (hk : k < n) (hm : m < n) : f_X6_mayJoin σ (xe σ 2 k) (xe σ 2 m) = (if mjB s k m = true then 1 else 0) ∧ of_X6_mayJoin σ (xe σ 2 k) (xe σ 2 m) := by
  have hS := h.2.2.2.2.1
  have hC := h.2.2.2.2.2.2
  obtain ⟨k7, k1, ka, kb, -⟩ := hS k hk
  obtain ⟨m7, m1, ma, mb, -⟩ := hS m hm
  have hc := hC k m hk hm
  have ck := xcounts_i h hk
  have cm := xcounts_i h hm
  obtain ⟨-, rk, -⟩ := hs k hk
  obtain ⟨-, rm, -⟩ := hs m hm
  have hd : (s k 2 - s m 2).toInt = vv s k 2 - vv s m 2 := i32_sub (m := 86597) (by unfold vv at rk rm; omega) (by omega)
  have ha := abs32 (d := s k 2 - s m 2) (z := 5) (c := 0) (n := 5) (by decide) (by rw [hd]; omega)
  rw [hd] at ha
  have r1 : f_X6_rightSecond σ (xe σ 2 k) = s k 2 := kb
  have r2 : f_X6_rightSecond σ (xe σ 2 m) = s m 2 := mb
  constructor
  · unfold f_X6_mayJoin
    rw [ka, ma, ck, cm, r1, r2]
    unfold mjB
    simp only [decide_eq_true_iff]
    by_cases c1 : s k 1 = s m 1
    · rw [if_pos c1]
      by_cases c2 : xr σ 140 (xe σ 2 k) = xr σ 140 (xe σ 2 m)
      · rw [if_pos c2, if_neg (fun z => z.2.1 (hc.mp c2))]
      · rw [if_neg c2]
        by_cases c3 : vv s k 3 ≤ 30 ∧ 50 ≤ vv s k 4
        · rw [if_pos c3, if_neg i_1ne0]
          by_cases c4 : vv s m 3 ≤ 30 ∧ 50 ≤ vv s m 4
          · rw [if_pos c4, if_neg i_1ne0]
            by_cases c5 : 5 < f_J9_abs_0f7a4 (s k 2 - s m 2)
            · rw [if_pos c5, if_neg (fun z => by have := ha.mp c5; have := z.2.2.2.2; omega)]
            · rw [if_neg c5, if_pos ⟨c1, fun z => c2 (hc.mpr z), c3, c4, by
                have : ¬ (5 < (vv s k 2 - vv s m 2).natAbs) := fun z => c5 (ha.mpr z)
                omega⟩]
          · rw [if_neg c4, if_pos rfl, if_neg (fun z => c4 z.2.2.2.1)]
        · rw [if_neg c3, if_pos rfl, if_neg (fun z => c3 z.2.2.1)]
    · rw [if_neg c1, if_neg (fun z => c1 z.1)]
  · exact ⟨k7, m7, fun _ => ⟨k1, m1, fun _ => trivial, fun _ => ⟨⟨k7, trivial⟩, fun _ => trivial, fun _ => ⟨⟨m7, trivial⟩, fun _ => trivial, fun _ => ⟨⟨k7, k1, trivial⟩, ⟨m7, m1, trivial⟩, trivial⟩⟩⟩⟩, fun _ => trivial⟩
theorem xbegins_i {σ : XS} {x n : Nat} {s : Nat → Nat → Int32} (h : SX σ x n s) (hs : Sok s n) {k m : Nat} (hk : k < n) (hm : m < n) {q0 : Nat} (hq : xk σ q0 = 3) : f_X2_isOfBegins σ q0 (xe σ 2 k) (xe σ 2 m) = (if sB s 5 k m = true then (1, xJ (xJ σ 60 q0 (Int64.ofInt (sX s 5 k m))) 61 q0 (Int64.ofInt (sY s 5 k m))) else (0, σ)) ∧ of_X2_isOfBegins σ q0 (xe σ 2 k) (xe σ 2 m) := by
  obtain ⟨-, -, -, -, hS, -, hC⟩ := h
  obtain ⟨k7, k1, a1, a2, a3, a4, a5, a6, a7, a8, a9, a10⟩ := hS k hk
  obtain ⟨m7, m1, b1, b2, b3, b4, b5, b6, b7, b8, b9, b10⟩ := hS m hm
  obtain ⟨g1, g2⟩ := isOf_i (σ := σ) (q0 := q0) (p1 := xr σ 140 (xe σ 2 k)) (p2 := xi σ 145 (xe σ 2 k)) (p3 := xi σ 146 (xe σ 2 k)) (p4 := xr σ 140 (xe σ 2 m)) (p5 := xi σ 145 (xe σ 2 m)) (p6 := xi σ 146 (xe σ 2 m)) (congrArg Int32.toInt a9) (congrArg Int32.toInt a10) (congrArg Int32.toInt a5) (congrArg Int32.toInt a6) (congrArg Int32.toInt b9) (congrArg Int32.toInt b10) (congrArg Int32.toInt b5) (congrArg Int32.toInt b6) (sS5 hs hk hm)
  refine ⟨g1, k7, k1, m7, m1, g2 k1 m1 hq, hq, ?_, trivial⟩
  rw [g1, bcr_1]
  split
  · exact Or.inr rfl
  · exact Or.inl rfl
theorem xends_i {σ : XS} {x n : Nat} {s : Nat → Nat → Int32} (h : SX σ x n s) (hs : Sok s n) {k m : Nat} (hk : k < n) (hm : m < n) {q0 : Nat} (hq : xk σ q0 = 3) : f_X2_isOfEnds σ q0 (xe σ 2 k) (xe σ 2 m) = (if sB s 7 k m = true then (1, xJ (xJ σ 60 q0 (Int64.ofInt (sX s 7 k m))) 61 q0 (Int64.ofInt (sY s 7 k m))) else (0, σ)) ∧ of_X2_isOfEnds σ q0 (xe σ 2 k) (xe σ 2 m) := by
  obtain ⟨-, -, -, -, hS, -, hC⟩ := h
  obtain ⟨k7, k1, a1, a2, a3, a4, a5, a6, a7, a8, a9, a10⟩ := hS k hk
  obtain ⟨m7, m1, b1, b2, b3, b4, b5, b6, b7, b8, b9, b10⟩ := hS m hm
  obtain ⟨g1, g2⟩ := isOf_i (σ := σ) (q0 := q0) (p1 := xr σ 140 (xe σ 2 k)) (p2 := xi σ 147 (xe σ 2 k)) (p3 := xi σ 148 (xe σ 2 k)) (p4 := xr σ 140 (xe σ 2 m)) (p5 := xi σ 147 (xe σ 2 m)) (p6 := xi σ 148 (xe σ 2 m)) (congrArg Int32.toInt a9) (congrArg Int32.toInt a10) (congrArg Int32.toInt a7) (congrArg Int32.toInt a8) (congrArg Int32.toInt b9) (congrArg Int32.toInt b10) (congrArg Int32.toInt b7) (congrArg Int32.toInt b8) (sS7 hs hk hm)
  refine ⟨g1, k7, k1, m7, m1, g2 k1 m1 hq, hq, ?_, trivial⟩
  rw [g1, bcr_1]
  split
  · exact Or.inr rfl
  · exact Or.inl rfl
theorem xcr_px {σ : XS} {b : Bool} {q : Nat} {a c : Int64} : PX σ (if b = true then ((1 : Int32), xJ (xJ σ 60 q a) 61 q c) else (0, σ)).2 := by
  cases b with
  | false => exact px_refl σ
  | true =>
    refine ⟨rfl, rfl, fun k h1 h2 => ?_, rfl⟩
    show up2 (up2 σ.2.2.1 60 q a) 61 q c k = σ.2.2.1 k
    funext j
    rw [up2_at, if_neg h2, up2_at, if_neg h1]
theorem px_ite {c d : Prop} [Decidable c] [Decidable d] {μ a b : XS} (ha : PX μ a) (hb : PX μ b) : PX μ (if c then ((0 : Int32), a) else if d then ((0 : Int32), b) else ((1 : Int32), b)).2 := by
  by_cases hc : c
  · rw [if_pos hc]; exact ha
  · rw [if_neg hc]
    by_cases hd : d
    · rw [if_pos hd]; exact hb
    · rw [if_neg hd]; exact hb
theorem doJoin_i {σ : XS} {x n : Nat} {s : Nat → Nat → Int32} (h : SX σ x n s) (hs : Sok s n) {k m : Nat} (hk : k < n) (hm : m < n) : (f_X10_doJoin σ x (xe σ 2 k) (xe σ 2 m)).1 = (if jn s k m = true then 1 else 0) ∧ PX σ (f_X10_doJoin σ x (xe σ 2 k) (xe σ 2 m)).2 ∧ of_X10_doJoin σ x (xe σ 2 k) (xe σ 2 m) := by
  obtain ⟨m1, m2⟩ := mayJoin_i h hs hk hm
  obtain ⟨g1, g2⟩ := xbegins_i h hs hk hm (q0 := x + 5) h.2.2.1
  have k7 := (h.2.2.2.2.1 k hk).1
  have hpx : PX σ (f_X2_isOfBegins σ (x + 5) (xe σ 2 k) (xe σ 2 m)).2 := by rw [g1]; exact xcr_px
  have hS2 := sx_f h (xf_px hpx)
  have exe : ∀ i, xe (f_X2_isOfBegins σ (x + 5) (xe σ 2 k) (xe σ 2 m)).2 2 i = xe σ 2 i := fun i => by
    show (f_X2_isOfBegins σ (x + 5) (xe σ 2 k) (xe σ 2 m)).2.2.2.2.2.2 2 i = σ.2.2.2.2.2 2 i
    rw [hpx.2.2.2]
  obtain ⟨g3, g4⟩ := xends_i hS2 hs hk hm (q0 := x + 6) hS2.2.2.2.1
  rw [exe, exe] at g3 g4
  have hpx2 : PX σ (f_X2_isOfEnds (f_X2_isOfBegins σ (x + 5) (xe σ 2 k) (xe σ 2 m)).2 (x + 6) (xe σ 2 k) (xe σ 2 m)).2 := px_tr hpx (by rw [g3]; exact xcr_px)
  have j2 : (f_X2_isOfBegins σ (x + 5) (xe σ 2 k) (xe σ 2 m)).1 = if sB s 5 k m = true then 1 else 0 := by rw [g1]; exact bcr_1
  have j3 : (f_X2_isOfEnds (f_X2_isOfBegins σ (x + 5) (xe σ 2 k) (xe σ 2 m)).2 (x + 6) (xe σ 2 k) (xe σ 2 m)).1 = if sB s 7 k m = true then 1 else 0 := by rw [g3]; exact bcr_1
  have jdef : jn s k m = (mjB s k m && sB s 5 k m && sB s 7 k m) := rfl
  have k5 : xk σ (x + 5) = 3 := h.2.2.1
  have k6 : xk (f_X2_isOfBegins σ (x + 5) (xe σ 2 k) (xe σ 2 m)).2 (x + 6) = 3 := hS2.2.2.2.1
  unfold f_X10_doJoin of_X10_doJoin
  rw [m1]
  by_cases c1 : mjB s k m = true
  · rw [if_pos c1, if_neg i_1ne0]
    refine ⟨?_, ?_, ⟨m2, k7, fun _ => trivial, fun _ => ⟨g2, k5, fun _ => trivial, fun _ => ⟨g4, k6, trivial⟩⟩⟩⟩
    · unfold f_X10_doJoin_17 f_X10_doJoin_29
      rw [j2, j3, jdef, c1]
      by_cases c2 : sB s 5 k m = true
      · rw [if_pos c2, if_neg i_1ne0]
        by_cases c3 : sB s 7 k m = true
        · rw [if_pos c3, if_neg i_1ne0, c2, c3]; rfl
        · rw [if_neg c3, if_pos rfl, if_neg (fun z => c3 (by rw [Bool.and_eq_true] at z; exact z.2))]
      · rw [if_neg c2, if_pos rfl, if_neg (fun z => c2 (by rw [Bool.and_eq_true, Bool.and_eq_true] at z; exact z.1.2))]
    · unfold f_X10_doJoin_17 f_X10_doJoin_29
      exact px_ite hpx hpx2
  · rw [if_neg c1, if_pos rfl]
    refine ⟨?_, px_refl σ, ⟨m2, k7, fun _ => trivial, fun z => absurd rfl z⟩⟩
    rw [if_neg (fun z => c1 (by rw [jdef, Bool.and_eq_true, Bool.and_eq_true] at z; exact z.1.1))]
/-! ===== the class's joins of all ===== -/
/-- what joinSightings may change -/
def JF (σ σ' : XS) : Prop := σ'.1 = σ.1 ∧ (∀ c, c ≠ 150 → σ'.2.1 c = σ.2.1 c) ∧ (∀ c, c ≠ 60 → c ≠ 61 → c ≠ 149 → σ'.2.2.1 c = σ.2.2.1 c) ∧ σ'.2.2.2 = σ.2.2.2
theorem jf_refl (σ : XS) : JF σ σ := ⟨rfl, fun _ _ => rfl, fun _ _ _ _ => rfl, rfl⟩
theorem jf_tr {a b c : XS} (h : JF a b) (g : JF b c) : JF a c := ⟨g.1.trans h.1, fun k h1 => (g.2.1 k h1).trans (h.2.1 k h1), fun k h1 h2 h3 => (g.2.2.1 k h1 h2 h3).trans (h.2.2.1 k h1 h2 h3), g.2.2.2.trans h.2.2.2⟩
theorem jf_px {a b : XS} (h : PX a b) : JF a b := ⟨h.1, fun c _ => by rw [h.2.1], fun c h1 h2 _ => h.2.2.1 c h1 h2, h.2.2.2⟩
theorem xf_jf {a b : XS} (h : JF a b) : XF a b := ⟨h.1, fun c _ _ _ _ _ h6 _ => h.2.1 c h6, h.2.2.2⟩
theorem jf_xe {a b : XS} (h : JF a b) (j i : Nat) : xe b j i = xe a j i := by
  show b.2.2.2.2.2 j i = a.2.2.2.2.2 j i
  rw [h.2.2.2]
theorem xJ_ne {σ : XS} {c q a : Nat} {v : Int64} (h : a ≠ c) : (xJ σ c q v).2.2.1 a = σ.2.2.1 a := by
  funext j
  show up2 σ.2.2.1 c q v a j = _
  rw [up2_at, if_neg h]
theorem xI_ne {σ : XS} {c q a : Nat} {v : Int32} (h : a ≠ c) : (xI σ c q v).2.1 a = σ.2.1 a := by
  funext j
  show up2 σ.2.1 c q v a j = _
  rw [up2_at, if_neg h]
theorem xj_at (σ : XS) (c q : Nat) (v : Int64) (z : Nat) : xj (xJ σ c q v) c z = if z = q then v else xj σ c z := by
  show up2 σ.2.2.1 c q v c z = _
  rw [up2_at, if_pos rfl]; rfl
theorem jf_J149 {σ : XS} {q : Nat} {v : Int64} : JF σ (xJ σ 149 q v) := ⟨rfl, fun _ _ => rfl, fun c _ _ h => xJ_ne h, rfl⟩
theorem jf_I150 {σ : XS} {q : Nat} {v : Int32} : JF σ (xI σ 150 q v) := ⟨rfl, fun c h => xI_ne h, fun _ _ _ _ => rfl, rfl⟩
theorem px_149 {a b : XS} (h : PX a b) (q : Nat) : xj b 149 q = xj a 149 q ∧ xi b 150 q = xi a 150 q := by
  constructor
  · show b.2.2.1 149 q = a.2.2.1 149 q
    rw [h.2.2.1 149 (by decide) (by decide)]
  · show b.2.1 150 q = a.2.1 150 q
    rw [h.2.1]
/-- rows below i are joined with those below i; row i with those below j -/
def QJ (σ0 : XS) (n : Nat) (J : Nat → Nat → Bool) (i j : Nat) (σ : XS) : Prop := JF σ0 σ ∧ (∀ k, k < i → (xi σ 150 (xe σ0 2 k) = -1 ∧ ∀ m, m < 64 → tb (xj σ 149 (xe σ0 2 k)) m = (J k m && (decide (m < i) || decide (m = i ∧ k < j)))))
theorem js41 {σ0 : XS} {x n : Nat} {s : Nat → Nat → Int32} (h : SX σ0 x n s) (hs : Sok s n) {i : Nat} (hi : i < n) (σ : XS) (hQ : QJ σ0 n (JJ s n) i 0 σ ∧ xi σ 150 (xe σ0 2 i) = -1 ∧ ∀ m, m < 64 → tb (xj σ 149 (xe σ0 2 i)) m = (JJ s n i m && decide (m < 0))) : ito (s_X10_joinSightings_41 x (nI i) (xe σ0 2 i)) (os_X10_joinSightings_41 x (nI i) (xe σ0 2 i)) FU (0, σ) ∧ ∃ σ', itr (s_X10_joinSightings_41 x (nI i) (xe σ0 2 i)) FU (0, σ) = (nI i, σ') ∧ QJ σ0 n (JJ s n) i i σ' ∧ xi σ' 150 (xe σ0 2 i) = -1 ∧ ∀ m, m < 64 → tb (xj σ' 149 (xe σ0 2 i)) m = (JJ s n i m && decide (m < i)) := by
  have hn := h.1
  refine itr_for (f := s_X10_joinSightings_41 x (nI i) (xe σ0 2 i)) (o := os_X10_joinSightings_41 x (nI i) (xe σ0 2 i)) (fun j (b : XS) => (nI j, b)) (fun j b => QJ σ0 n (JJ s n) i j b ∧ xi b 150 (xe σ0 2 i) = -1 ∧ ∀ m, m < 64 → tb (xj b 149 (xe σ0 2 i)) m = (JJ s n i m && decide (m < j))) (n := i) ?_ ?_ FU 0 σ (by omega) (by unfold FU; omega) hQ
  · intro j b hj hP
    obtain ⟨⟨q1, q2⟩, q3, q4⟩ := hP
    have hjn : j < n := by omega
    have hS := sx_f h (xf_jf q1)
    have c1 : ¬ nI i ≤ nI j := by rw [nI_leI (by omega) (by omega)]; omega
    have e2 : ix (nI j) = j := clamp_nI (by omega)
    have ex : ∀ k, xe b 2 k = xe σ0 2 k := jf_xe q1 2
    obtain ⟨d1, d2, d3⟩ := doJoin_i hS hs hi hjn
    rw [ex, ex] at d1 d2 d3
    have i7 : xk b (xe σ0 2 i) = 7 := by have := (hS.2.2.2.2.1 i hi).1; rw [ex] at this; exact this
    have j7 : xk b (xe σ0 2 j) = 7 := by have := (hS.2.2.2.2.1 j hjn).1; rw [ex] at this; exact this
    have inj := h.2.2.2.2.2.1
    have vj : vp_in (nI j) (xn b 2) := by rw [hS.2.1]; exact nI_in hjn (by omega)
    have hJ := JJ_gt (s := s) (n := n) hj hi
    show ob_X10_joinSightings_41 x (nI i) (xe σ0 2 i) (nI j) b ∧ ∃ b', b_X10_joinSightings_41 x (nI i) (xe σ0 2 i) (nI j) b = (true, (nI (j + 1), b')) ∧ _
    unfold ob_X10_joinSightings_41 b_X10_joinSightings_41 f_X10_joinSightings_l41_68 f_X10_joinSightings_l41_96 of_X10_joinSightings_l41_68
    rw [e2, ex, if_neg c1, d1]
    have x1 : xk (f_X10_doJoin b x (xe σ0 2 i) (xe σ0 2 j)).2 (xe σ0 2 i) = 7 := by unfold xk; rw [d2.1]; exact i7
    have x2 : xk (f_X10_doJoin b x (xe σ0 2 i) (xe σ0 2 j)).2 (xe σ0 2 j) = 7 := by unfold xk; rw [d2.1]; exact j7
    refine ⟨⟨fun z => absurd z c1, fun _ => ⟨vj, j7, d3, fun _ => trivial, fun _ => ⟨x1, x2, trivial⟩⟩⟩, ?_⟩
    by_cases cj : jn s i j = true
    · rw [if_pos cj, if_neg i_1ne0, nI_succ]
      have J1 : JJ s n i j = true := hJ.trans cj
      have hij : ¬ xe σ0 2 j = xe σ0 2 i := fun z => by have := inj j i hjn hi z; omega
      have p1 := px_149 d2
      refine ⟨_, rfl, ⟨jf_tr q1 (jf_tr (jf_px d2) (jf_tr jf_J149 jf_J149)), ?_⟩, ?_, ?_⟩
      · intro k hk
        obtain ⟨y1, y2⟩ := q2 k hk
        refine ⟨?_, fun m hm => ?_⟩
        · exact (p1 _).2.trans y1
        · rw [xj_at]
          by_cases c : k = j
          · subst c
            rw [if_pos rfl, xj_at, if_neg hij, (p1 _).1, tb_or, tb_sh (by omega), y2 m hm]
            by_cases c2 : m = i
            · subst c2
              have : JJ s n k m = true := by rw [(gr_JJ s n).1]; exact J1
              rw [this]; simp
            · have c3 : ¬ i = m := fun z => c2 z.symm
              simp [c2, c3]
          · have hkj : ¬ xe σ0 2 k = xe σ0 2 j := fun z => c (inj k j (by omega) hjn z)
            have hki : ¬ xe σ0 2 k = xe σ0 2 i := fun z => by have := inj k i (by omega) hi z; omega
            rw [if_neg hkj, xj_at, if_neg hki, (p1 _).1, y2 m hm]
            have : decide (m = i ∧ k < j) = decide (m = i ∧ k < j + 1) := by
              by_cases c4 : m = i ∧ k < j
              · rw [decide_eq_true c4, decide_eq_true ⟨c4.1, by omega⟩]
              · rw [decide_eq_false c4, decide_eq_false (fun z => c4 ⟨z.1, by omega⟩)]
            rw [this]
      · exact (p1 _).2.trans q3
      · intro m hm
        rw [xj_at, if_neg (fun z => hij z.symm), xj_at, if_pos rfl, tb_or, (p1 _).1, tb_sh (by omega), q4 m hm]
        by_cases c2 : j = m
        · subst c2; rw [J1]; simp
        · have : decide (m < j) = decide (m < j + 1) := by
            by_cases c4 : m < j
            · rw [decide_eq_true c4, decide_eq_true (by omega)]
            · rw [decide_eq_false c4, decide_eq_false (by omega)]
          rw [this]; simp [c2]
    · rw [if_neg cj, if_pos rfl, nI_succ]
      have J1 : JJ s n i j = false := by rw [hJ]; cases z : jn s i j with
        | false => rfl
        | true => exact absurd z cj
      have p1 := px_149 d2
      refine ⟨_, rfl, ⟨jf_tr q1 (jf_px d2), ?_⟩, ?_, ?_⟩
      · intro k hk
        obtain ⟨y1, y2⟩ := q2 k hk
        refine ⟨(p1 _).2.trans y1, fun m hm => ?_⟩
        rw [(p1 _).1, y2 m hm]
        by_cases c4 : m = i ∧ k = j
        · obtain ⟨c5, c6⟩ := c4
          subst c5; subst c6
          have : JJ s n k m = false := by rw [(gr_JJ s n).1]; exact J1
          rw [this]; rfl
        · have : decide (m = i ∧ k < j) = decide (m = i ∧ k < j + 1) := by
            by_cases c5 : m = i ∧ k < j
            · rw [decide_eq_true c5, decide_eq_true ⟨c5.1, by omega⟩]
            · rw [decide_eq_false c5, decide_eq_false (fun z => by
                obtain ⟨z1, z2⟩ := z
                by_cases c6 : k = j
                · exact c4 ⟨z1, c6⟩
                · exact c5 ⟨z1, by omega⟩)]
          rw [this]
      · exact (p1 _).2.trans q3
      · intro m hm
        rw [(p1 _).1, q4 m hm]
        by_cases c2 : m = j
        · subst c2; rw [J1]; rfl
        · have : decide (m < j) = decide (m < j + 1) := by
            by_cases c4 : m < j
            · rw [decide_eq_true c4, decide_eq_true (by omega)]
            · rw [decide_eq_false c4, decide_eq_false (by omega)]
          rw [this]
  · intro b hP
    have c1 : nI i ≤ nI i := Int32.le_refl _
    refine ⟨⟨fun _ => trivial, fun z => absurd c1 z⟩, ?_⟩
    show b_X10_joinSightings_41 x (nI i) (xe σ0 2 i) (nI i) b = _
    unfold b_X10_joinSightings_41
    rw [if_pos c1]
/-- the masks of all, and no fireballs yet -/
def MK (σ : XS) (n : Nat) (J : Nat → Nat → Bool) : Prop := ∀ k, k < n → ∀ m, m < 64 → tb (xj σ 149 (xe σ 2 k)) m = J k m
theorem joinS_i {σ : XS} {x n : Nat} {s : Nat → Nat → Int32} (h : SX σ x n s) (hs : Sok s n) : of_X10_joinSightings σ x ∧ JF σ (f_X10_joinSightings σ x).2 ∧ MK (f_X10_joinSightings σ x).2 n (JJ s n) ∧ ∀ k, k < n → xi (f_X10_joinSightings σ x).2 150 (xe σ 2 k) = -1 := by
  have hn := h.1
  have hl := itr_for (f := s_X10_joinSightings_2 x) (o := os_X10_joinSightings_2 x) (fun i (b : XS) => (nI i, b)) (fun i b => QJ σ n (JJ s n) i 0 b) (n := n) ?_ ?_ FU 0 σ (by omega) (by unfold FU; omega) ⟨jf_refl σ, fun k hk => absurd hk (Nat.not_lt_zero _)⟩
  · obtain ⟨l1, σ', l2, l3, l4⟩ := hl
    have l2 : itr (s_X10_joinSightings_2 x) FU (0, σ) = (nI n, σ') := l2
    have e : (f_X10_joinSightings σ x).2 = σ' := by
      show (itr (s_X10_joinSightings_2 x) FU (0, σ)).2 = σ'
      rw [l2]
    refine ⟨⟨l1, trivial⟩, ?_⟩
    rw [e]
    refine ⟨l3, fun k hk m hm => ?_, fun k hk => (l4 k hk).1⟩
    rw [jf_xe l3, (l4 k hk).2 m hm]
    by_cases c : m < n
    · rw [decide_eq_true c]; simp
    · have : JJ s n k m = false := by
        cases z : JJ s n k m with
        | false => rfl
        | true => exact absurd ((gr_JJ s n).2 k m z).2 c
      rw [this]; rfl
  · intro i b hi hP
    obtain ⟨q1, q2⟩ := hP
    have hS := sx_f h (xf_jf q1)
    have c1 : ¬ nI n ≤ nI i := by rw [nI_leI (by omega) (by omega)]; omega
    have e2 : ix (nI i) = i := clamp_nI (by omega)
    have ex : ∀ k, xe b 2 k = xe σ 2 k := jf_xe q1 2
    have i7 : xk b (xe σ 2 i) = 7 := by have := (hS.2.2.2.2.1 i hi).1; rw [ex] at this; exact this
    have inj := h.2.2.2.2.2.1
    have vi : vp_in (nI i) (xn b 2) := by rw [hS.2.1]; exact nI_in hi (by omega)
    obtain ⟨j1, b', j2, j3, j4, j5⟩ := js41 h hs hi (xI (xJ b 149 (xe σ 2 i) 0) 150 (xe σ 2 i) (-1)) ⟨⟨jf_tr q1 (jf_tr jf_J149 jf_I150), fun k hk => by
      obtain ⟨y1, y2⟩ := q2 k hk
      have hki : ¬ xe σ 2 k = xe σ 2 i := fun z => by have := inj k i (by omega) hi z; omega
      refine ⟨?_, fun m hm => ?_⟩
      · rw [xi_at, if_neg hki]; exact y1
      · show tb (xj (xJ b 149 (xe σ 2 i) 0) 149 (xe σ 2 k)) m = _
        rw [xj_at, if_neg hki]; exact y2 m hm⟩, by rw [xi_at, if_pos rfl], fun m hm => by
      show tb (xj (xJ b 149 (xe σ 2 i) 0) 149 (xe σ 2 i)) m = _
      rw [xj_at, if_pos rfl, tb_0]; simp⟩
    show ob_X10_joinSightings_2 x (nI i) b ∧ ∃ b', b_X10_joinSightings_2 x (nI i) b = (true, (nI (i + 1), b')) ∧ _
    unfold ob_X10_joinSightings_2 b_X10_joinSightings_2 f_X10_joinSightings_l2_41 f_X10_joinSightings_l2_102 of_X10_joinSightings_l2_41
    rw [e2, ex, hS.2.1, if_neg c1, j2, nI_succ]
    rw [hS.2.1] at vi
    refine ⟨⟨fun z => absurd z c1, fun _ => ⟨vi, i7, j1, trivial⟩⟩, b', rfl, j3.1, fun k hk => ?_⟩
    by_cases c : k = i
    · subst c
      refine ⟨j4, fun m hm => ?_⟩
      rw [j5 m hm]
      have : ¬ (m = k + 1 ∧ k < 0) := fun z => absurd z.2 (Nat.not_lt_zero _)
      rw [decide_eq_false this, Bool.or_false]
      by_cases c2 : m = k
      · subst c2; rw [JJ_ir]; rfl
      · have : decide (m < k) = decide (m < k + 1) := by
          by_cases c4 : m < k
          · rw [decide_eq_true c4, decide_eq_true (by omega)]
          · rw [decide_eq_false c4, decide_eq_false (by omega)]
        rw [this]
    · obtain ⟨y1, y2⟩ := j3.2 k (by omega)
      refine ⟨y1, fun m hm => ?_⟩
      rw [y2 m hm]
      have h0 : ¬ (m = i + 1 ∧ k < 0) := fun z => absurd z.2 (Nat.not_lt_zero _)
      rw [decide_eq_false h0, Bool.or_false]
      by_cases c2 : m = i
      · subst c2
        rw [decide_eq_true (⟨rfl, by omega⟩ : m = m ∧ k < m), decide_eq_true (by omega : m < m + 1)]; simp
      · have h1 : ¬ (m = i ∧ k < i) := fun z => c2 z.1
        rw [decide_eq_false h1, Bool.or_false]
        have : decide (m < i) = decide (m < i + 1) := by
          by_cases c4 : m < i
          · rw [decide_eq_true c4, decide_eq_true (by omega)]
          · rw [decide_eq_false c4, decide_eq_false (by omega)]
        rw [this]
  · intro b hP
    have hS := sx_f h (xf_jf hP.1)
    have c1 : nI n ≤ nI n := Int32.le_refl _
    show ob_X10_joinSightings_2 x (nI n) b ∧ b_X10_joinSightings_2 x (nI n) b = _
    unfold ob_X10_joinSightings_2 b_X10_joinSightings_2
    rw [hS.2.1, if_pos c1]
    exact ⟨⟨fun _ => trivial, fun z => absurd c1 z⟩, rfl⟩
