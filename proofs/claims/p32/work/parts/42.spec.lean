/-! ===== what the sightings say: 0 camera, 1 night, 2 right second, 3 length, 4 light, 5 .. 8 directions, 9 and 10 the camera's place ===== -/
def sdt (μ : MS) (n k j : Nat) : Int32 := if k < n then (match j with
  | 0 => mi μ 14 k
  | 1 => mi μ 15 k
  | 2 => mi μ 16 k - mi μ 4 (ix (mi μ 14 k))
  | 3 => mi μ 17 k
  | 4 => mi μ 18 k
  | 5 => mi μ 19 k
  | 6 => mi μ 20 k
  | 7 => mi μ 21 k
  | 8 => mi μ 22 k
  | 9 => mi μ 2 (ix (mi μ 14 k))
  | _ => mi μ 3 (ix (mi μ 14 k))) else 0
def vv (s : Nat → Nat → Int32) (k j : Nat) : Int := (s k j).toInt
def Sok (s : Nat → Nat → Int32) (n : Nat) : Prop := ∀ k, k < n → (0 ≤ vv s k 1 ∧ vv s k 1 ≤ 3649) ∧ (-99 ≤ vv s k 2 ∧ vv s k 2 ≤ 86498) ∧ (1 ≤ vv s k 3 ∧ vv s k 3 ≤ 60) ∧ (1 ≤ vv s k 4 ∧ vv s k 4 ≤ 1000) ∧ (vv s k 5).natAbs ≤ 100 ∧ (vv s k 6).natAbs ≤ 100 ∧ (vv s k 7).natAbs ≤ 100 ∧ (vv s k 8).natAbs ≤ 100 ∧ (0 ≤ vv s k 9 ∧ vv s k 9 ≤ 99) ∧ (0 ≤ vv s k 10 ∧ vv s k 10 ≤ 99)
def sB (s : Nat → Nat → Int32) (b k m : Nat) : Bool := cB (vv s k 9) (vv s k 10) (vv s k b) (vv s k (b + 1)) (vv s m 9) (vv s m 10) (vv s m b) (vv s m (b + 1))
def sX (s : Nat → Nat → Int32) (b k m : Nat) : Int := cX (vv s k 9) (vv s k 10) (vv s k b) (vv s k (b + 1)) (vv s m 9) (vv s m 10) (vv s m b) (vv s m (b + 1))
def sY (s : Nat → Nat → Int32) (b k m : Nat) : Int := cY (vv s k 9) (vv s k 10) (vv s k b) (vv s k (b + 1)) (vv s m 9) (vv s m 10) (vv s m b) (vv s m (b + 1))
theorem sS5 {s : Nat → Nat → Int32} {n k m : Nat} (h : Sok s n) (hk : k < n) (hm : m < n) : cS (vv s k 9) (vv s k 10) (vv s k 5) (vv s k 6) (vv s m 9) (vv s m 10) (vv s m 5) (vv s m 6) := by
  obtain ⟨-, -, -, -, a5, a6, -, -, a9, a10⟩ := h k hk
  obtain ⟨-, -, -, -, b5, b6, -, -, b9, b10⟩ := h m hm
  exact ⟨a9, a10, a5, a6, b9, b10, b5, b6⟩
theorem sS7 {s : Nat → Nat → Int32} {n k m : Nat} (h : Sok s n) (hk : k < n) (hm : m < n) : cS (vv s k 9) (vv s k 10) (vv s k 7) (vv s k 8) (vv s m 9) (vv s m 10) (vv s m 7) (vv s m 8) := by
  obtain ⟨-, -, -, -, -, -, a5, a6, a9, a10⟩ := h k hk
  obtain ⟨-, -, -, -, -, -, b5, b6, b9, b10⟩ := h m hm
  exact ⟨a9, a10, a5, a6, b9, b10, b5, b6⟩
theorem sX_ab {s : Nat → Nat → Int32} {n k m b : Nat} (h : Sok s n) (hk : k < n) (hm : m < n) (hb : b = 5 ∨ b = 7) (hB : sB s b k m = true) : (sX s b k m).natAbs ≤ 198009900 ∧ (sY s b k m).natAbs ≤ 198009900 := by
  rcases hb with rfl | rfl
  · exact cX_ab (sS5 h hk hm) (of_decide_eq_true hB).1
  · exact cX_ab (sS7 h hk hm) (of_decide_eq_true hB).1
/-- what lets two join but their rays -/
def mjB (s : Nat → Nat → Int32) (k m : Nat) : Bool := decide (s k 1 = s m 1 ∧ s k 0 ≠ s m 0 ∧ (vv s k 3 ≤ 30 ∧ 50 ≤ vv s k 4) ∧ (vv s m 3 ≤ 30 ∧ 50 ≤ vv s m 4) ∧ (vv s k 2 - vv s m 2).natAbs ≤ 5)
def jn (s : Nat → Nat → Int32) (k m : Nat) : Bool := mjB s k m && sB s 5 k m && sB s 7 k m
def JJ (s : Nat → Nat → Int32) (n k m : Nat) : Bool := decide (k < n ∧ m < n) && (if m < k then jn s k m else if k < m then jn s m k else false)
theorem gr_JJ (s : Nat → Nat → Int32) (n : Nat) : Gr (JJ s n) n := by
  constructor
  · intro k m
    unfold JJ
    have e : decide (k < n ∧ m < n) = decide (m < n ∧ k < n) := by
      by_cases h : k < n ∧ m < n
      · rw [decide_eq_true h, decide_eq_true h.symm]
      · rw [decide_eq_false h, decide_eq_false (fun g => h g.symm)]
    rw [e]
    rcases Nat.lt_trichotomy k m with g | g | g
    · rw [if_neg (by omega), if_pos g, if_pos g]
    · subst g; rfl
    · rw [if_pos g, if_neg (by omega), if_pos g]
  · intro k m h
    unfold JJ at h
    rw [Bool.and_eq_true] at h
    exact of_decide_eq_true h.1
theorem JJ_gt {s : Nat → Nat → Int32} {n k m : Nat} (h : m < k) (hk : k < n) : JJ s n k m = jn s k m := by
  unfold JJ
  rw [decide_eq_true ⟨hk, by omega⟩, if_pos h, Bool.true_and]
theorem JJ_ir (s : Nat → Nat → Int32) (n k : Nat) : JJ s n k k = false := by
  unfold JJ
  rw [if_neg (by omega), if_neg (by omega), Bool.and_false]
theorem jn_B {s : Nat → Nat → Int32} {k m : Nat} (h : jn s k m = true) : sB s 5 k m = true ∧ sB s 7 k m = true := by
  unfold jn at h
  rw [Bool.and_eq_true, Bool.and_eq_true] at h
  exact ⟨h.1.2, h.2⟩
theorem JJ_night {s : Nat → Nat → Int32} {n k m : Nat} (h : JJ s n k m = true) : s k 1 = s m 1 := by
  have hm : ∀ a b, jn s a b = true → s a 1 = s b 1 := by
    intro a b g
    unfold jn at g
    rw [Bool.and_eq_true, Bool.and_eq_true] at g
    exact (of_decide_eq_true g.1.1).1
  unfold JJ at h
  rw [Bool.and_eq_true] at h
  have h2 := h.2
  split at h2
  · exact hm _ _ h2
  · split at h2
    · exact (hm _ _ h2).symm
    · exact absurd h2 (by decide)
/-! ===== the reference joins two ===== -/
def MX (μ : MS) (n : Nat) (s : Nat → Nat → Int32) : Prop := n ≤ 60 ∧ mi μ 13 0 = nI n ∧ sdt μ n = s ∧ ∀ k, k < n → vp_in (mi μ 14 k) 10
/-- nothing but the places found differs -/
def PL (μ μ' : MS) : Prop := μ'.1 = μ.1 ∧ ∀ a, a ≠ 25 → a ≠ 26 → μ'.2 a = μ.2 a
theorem pl_refl (μ : MS) : PL μ μ := ⟨rfl, fun _ _ _ => rfl⟩
theorem pl_tr {a b c : MS} (h : PL a b) (g : PL b c) : PL a c := ⟨g.1.trans h.1, fun k h1 h2 => (g.2 k h1 h2).trans (h.2 k h1 h2)⟩
theorem mx_1 {μ μ' : MS} {n : Nat} {s : Nat → Nat → Int32} (h : MX μ n s) (e : μ'.1 = μ.1) : MX μ' n s := by
  obtain ⟨μ1, μ2⟩ := μ
  obtain ⟨ν1, ν2⟩ := μ'
  have e : ν1 = μ1 := e
  subst e
  exact h
theorem sdt_at {μ : MS} {n : Nat} {s : Nat → Nat → Int32} (h : MX μ n s) {k : Nat} (hk : k < n) : mi μ 14 k = s k 0 ∧ mi μ 15 k = s k 1 ∧ mi μ 16 k - mi μ 4 (ix (mi μ 14 k)) = s k 2 ∧ mi μ 17 k = s k 3 ∧ mi μ 18 k = s k 4 ∧ mi μ 19 k = s k 5 ∧ mi μ 20 k = s k 6 ∧ mi μ 21 k = s k 7 ∧ mi μ 22 k = s k 8 ∧ mi μ 2 (ix (mi μ 14 k)) = s k 9 ∧ mi μ 3 (ix (mi μ 14 k)) = s k 10 := by
  obtain ⟨-, -, e, -⟩ := h
  subst e
  refine ⟨?_, ?_, ?_, ?_, ?_, ?_, ?_, ?_, ?_, ?_, ?_⟩ <;> exact (if_pos hk).symm
theorem mx_in {μ : MS} {n : Nat} {s : Nat → Nat → Int32} (h : MX μ n s) {k : Nat} (hk : k < n) : vp_in (nI k) 60 ∧ ix (nI k) = k := ⟨nI_in (by have := h.1; omega) (by decide), clamp_nI (by have := h.1; omega)⟩
theorem begins_i {μ : MS} {n : Nat} {s : Nat → Nat → Int32} (h : MX μ n s) (hs : Sok s n) {k m : Nat} (hk : k < n) (hm : m < n) : f_X11_beginsCross μ (nI k) (nI m) = (if sB s 5 k m = true then (1, mL (mL μ 25 0 (Int64.ofInt (sX s 5 k m))) 26 0 (Int64.ofInt (sY s 5 k m))) else (0, μ)) ∧ of_X11_beginsCross μ (nI k) (nI m) := by
  obtain ⟨v1, e1⟩ := mx_in h hk
  obtain ⟨v2, e2⟩ := mx_in h hm
  obtain ⟨a0, a1, a2, a3, a4, a5, a6, a7, a8, a9, a10⟩ := sdt_at h hk
  obtain ⟨b0, b1, b2, b3, b4, b5, b6, b7, b8, b9, b10⟩ := sdt_at h hm
  obtain ⟨g1, g2⟩ := cross_i (μ := μ) (p1 := mi μ 14 k) (p2 := mi μ 19 k) (p3 := mi μ 20 k) (p4 := mi μ 14 m) (p5 := mi μ 19 m) (p6 := mi μ 20 m) (h.2.2.2 k hk) (h.2.2.2 m hm) (congrArg Int32.toInt a9) (congrArg Int32.toInt a10) (congrArg Int32.toInt a5) (congrArg Int32.toInt a6) (congrArg Int32.toInt b9) (congrArg Int32.toInt b10) (congrArg Int32.toInt b5) (congrArg Int32.toInt b6) (sS5 hs hk hm)
  constructor
  · show f_X11_cross μ (mi μ 14 (ix (nI k))) (mi μ 19 (ix (nI k))) (mi μ 20 (ix (nI k))) (mi μ 14 (ix (nI m))) (mi μ 19 (ix (nI m))) (mi μ 20 (ix (nI m))) = _
    rw [e1, e2]
    exact g1
  · unfold of_X11_beginsCross
    rw [e1, e2, g1]
    refine ⟨v1, v1, v1, v2, v2, v2, g2, ?_, trivial⟩
    split
    · exact Or.inr rfl
    · exact Or.inl rfl
theorem ends_i {μ : MS} {n : Nat} {s : Nat → Nat → Int32} (h : MX μ n s) (hs : Sok s n) {k m : Nat} (hk : k < n) (hm : m < n) : f_X11_endsCross μ (nI k) (nI m) = (if sB s 7 k m = true then (1, mL (mL μ 25 0 (Int64.ofInt (sX s 7 k m))) 26 0 (Int64.ofInt (sY s 7 k m))) else (0, μ)) ∧ of_X11_endsCross μ (nI k) (nI m) := by
  obtain ⟨v1, e1⟩ := mx_in h hk
  obtain ⟨v2, e2⟩ := mx_in h hm
  obtain ⟨a0, a1, a2, a3, a4, a5, a6, a7, a8, a9, a10⟩ := sdt_at h hk
  obtain ⟨b0, b1, b2, b3, b4, b5, b6, b7, b8, b9, b10⟩ := sdt_at h hm
  obtain ⟨g1, g2⟩ := cross_i (μ := μ) (p1 := mi μ 14 k) (p2 := mi μ 21 k) (p3 := mi μ 22 k) (p4 := mi μ 14 m) (p5 := mi μ 21 m) (p6 := mi μ 22 m) (h.2.2.2 k hk) (h.2.2.2 m hm) (congrArg Int32.toInt a9) (congrArg Int32.toInt a10) (congrArg Int32.toInt a7) (congrArg Int32.toInt a8) (congrArg Int32.toInt b9) (congrArg Int32.toInt b10) (congrArg Int32.toInt b7) (congrArg Int32.toInt b8) (sS7 hs hk hm)
  constructor
  · show f_X11_cross μ (mi μ 14 (ix (nI k))) (mi μ 21 (ix (nI k))) (mi μ 22 (ix (nI k))) (mi μ 14 (ix (nI m))) (mi μ 21 (ix (nI m))) (mi μ 22 (ix (nI m))) = _
    rw [e1, e2]
    exact g1
  · unfold of_X11_endsCross
    rw [e1, e2, g1]
    refine ⟨v1, v1, v1, v2, v2, v2, g2, ?_, trivial⟩
    split
    · exact Or.inr rfl
    · exact Or.inl rfl
theorem bcr_pl {μ : MS} {b : Bool} {a c : Int64} : PL μ (if b = true then ((1 : Int32), mL (mL μ 25 0 a) 26 0 c) else (0, μ)).2 := by
  cases b with
  | false => exact pl_refl μ
  | true =>
    refine ⟨rfl, fun k h1 h2 => ?_⟩
    show up2 (up2 μ.2 25 0 a) 26 0 c k = μ.2 k
    funext j
    rw [up2_at, if_neg h2, up2_at, if_neg h1]
theorem bcr_1 {α : Type} {b : Bool} {x y : α} : (if b = true then ((1 : Int32), x) else (0, y)).1 = if b = true then 1 else 0 := by cases b <;> rfl
theorem le_ti {a : Int32} {z : Int} {c : Int32} (hc : c.toInt = z) : (c ≤ a ↔ z ≤ a.toInt) ∧ (a ≤ c ↔ a.toInt ≤ z) ∧ (c < a ↔ z < a.toInt) ∧ (a < c ↔ a.toInt < z) := by
  refine ⟨?_, ?_, ?_, ?_⟩
  · rw [Int32.le_iff_toInt_le, hc]
  · rw [Int32.le_iff_toInt_le, hc]
  · rw [Int32.lt_iff_toInt_lt, hc]
  · rw [Int32.lt_iff_toInt_lt, hc]
theorem counts_i {μ : MS} {n : Nat} {s : Nat → Nat → Int32} (h : MX μ n s) {k : Nat} (hk : k < n) : f_X11_counts μ (nI k) = (if vv s k 3 ≤ 30 ∧ 50 ≤ vv s k 4 then 1 else 0) ∧ of_X11_counts μ (nI k) := by
  obtain ⟨v1, e1⟩ := mx_in h hk
  obtain ⟨a0, a1, a2, a3, a4, -⟩ := sdt_at h hk
  constructor
  · unfold f_X11_counts vv
    rw [e1, a3, a4]
    have h1 := (le_ti (a := s k 3) (c := 30) (z := 30) (by decide)).2.2.1
    have h2 := (le_ti (a := s k 4) (c := 50) (z := 50) (by decide)).2.2.2
    by_cases c1 : 30 < s k 3
    · rw [if_pos c1, if_neg (fun z => by have := h1.mp c1; omega)]
    · rw [if_neg c1]
      by_cases c2 : s k 4 < 50
      · rw [if_pos c2, if_neg (fun z => by have := h2.mp c2; omega)]
      · rw [if_neg c2, if_pos]
        refine ⟨?_, ?_⟩
        · rcases Int.lt_or_le 30 (s k 3).toInt with g | g
          · exact absurd (h1.mpr g) c1
          · exact g
        · rcases Int.lt_or_le (s k 4).toInt 50 with g | g
          · exact absurd (h2.mpr g) c2
          · exact g
  · exact ⟨v1, fun _ => trivial, fun _ => ⟨v1, trivial⟩⟩
theorem pl_ite {c d : Prop} [Decidable c] [Decidable d] {μ a b : MS} (ha : PL μ a) (hb : PL μ b) : PL μ (if c then ((0 : Int32), a) else if d then ((0 : Int32), b) else ((1 : Int32), b)).2 := by
  by_cases hc : c
  · rw [if_pos hc]; exact ha
  · rw [if_neg hc]
    by_cases hd : d
    · rw [if_pos hd]; exact hb
    · rw [if_neg hd]; exact hb
theorem join_i {μ : MS} {n : Nat} {s : Nat → Nat → Int32} (h : MX μ n s) (hs : Sok s n) {k m : Nat} (hk : k < n) (hm : m < n) : (f_X11_join μ (nI k) (nI m)).1 = (if jn s k m = true then 1 else 0) ∧ PL μ (f_X11_join μ (nI k) (nI m)).2 ∧ of_X11_join μ (nI k) (nI m) := by
  obtain ⟨v1, e1⟩ := mx_in h hk
  obtain ⟨v2, e2⟩ := mx_in h hm
  obtain ⟨a0, a1, a2, a3, a4, a5, a6, a7, a8, a9, a10⟩ := sdt_at h hk
  obtain ⟨b0, b1, b2, b3, b4, b5, b6, b7, b8, b9, b10⟩ := sdt_at h hm
  obtain ⟨g1, g2⟩ := begins_i h hs hk hm
  have hpl : PL μ (f_X11_beginsCross μ (nI k) (nI m)).2 := by rw [g1]; exact bcr_pl
  have hM2 := mx_1 h hpl.1
  obtain ⟨g3, g4⟩ := ends_i hM2 hs hk hm
  have hpl2 : PL μ (f_X11_endsCross (f_X11_beginsCross μ (nI k) (nI m)).2 (nI k) (nI m)).2 := pl_tr hpl (by rw [g3]; exact bcr_pl)
  obtain ⟨k1, k2⟩ := counts_i h hk
  obtain ⟨m1, m2⟩ := counts_i h hm
  obtain ⟨-, rk, -⟩ := hs k hk
  obtain ⟨-, rm, -⟩ := hs m hm
  have hd : (s k 2 - s m 2).toInt = vv s k 2 - vv s m 2 := i32_sub (m := 86597) (by unfold vv at rk rm; omega) (by omega)
  have z5 : (5 : Int32).toInt = 5 := by decide
  have z6 : (-5 : Int32).toInt = -5 := by decide
  have q1 : (5 < s k 2 - s m 2) ↔ 5 < vv s k 2 - vv s m 2 := by rw [Int32.lt_iff_toInt_lt, hd, z5]
  have q2 : (s k 2 - s m 2 < -5) ↔ vv s k 2 - vv s m 2 < -5 := by rw [Int32.lt_iff_toInt_lt, hd, z6]
  -- behind the conditions
  have t0 : f_X11_join_100 μ (nI k) (nI m) 0 = (0, μ) := if_pos rfl
  have p0 : PL μ (f_X11_join_100 μ (nI k) (nI m) 0).2 := by rw [t0]; exact pl_refl μ
  have o0 : of_X11_join_100 μ (nI k) (nI m) 0 := ⟨fun _ => trivial, fun z => absurd rfl z⟩
  have t1 : (f_X11_join_100 μ (nI k) (nI m) 1).1 = (if sB s 5 k m = true ∧ sB s 7 k m = true then 1 else 0) ∧ PL μ (f_X11_join_100 μ (nI k) (nI m) 1).2 ∧ of_X11_join_100 μ (nI k) (nI m) 1 := by
    have j1 : f_X11_join_100 μ (nI k) (nI m) 1 = f_X11_join_113 μ (nI k) (nI m) ((f_X11_beginsCross μ (nI k) (nI m)).1) ((f_X11_beginsCross μ (nI k) (nI m)).2) := if_neg i_1ne0
    have j2 : (f_X11_beginsCross μ (nI k) (nI m)).1 = if sB s 5 k m = true then 1 else 0 := by rw [g1]; exact bcr_1
    have j3 : (f_X11_endsCross (f_X11_beginsCross μ (nI k) (nI m)).2 (nI k) (nI m)).1 = if sB s 7 k m = true then 1 else 0 := by rw [g3]; exact bcr_1
    refine ⟨?_, ?_, ⟨fun z => absurd z (by decide), fun _ => ⟨g2, fun _ => trivial, fun _ => ⟨g4, trivial⟩⟩⟩⟩
    · rw [j1]
      unfold f_X11_join_113 f_X11_join_122
      rw [j2, j3]
      cases sB s 5 k m <;> cases sB s 7 k m <;> rfl
    · rw [j1]
      unfold f_X11_join_113 f_X11_join_122
      exact pl_ite hpl hpl2
  unfold f_X11_join of_X11_join
  rw [e1, e2, a1, b1, a2, b2, k1, m1]
  have jdef : jn s k m = (decide (s k 1 = s m 1 ∧ s k 0 ≠ s m 0 ∧ (vv s k 3 ≤ 30 ∧ 50 ≤ vv s k 4) ∧ (vv s m 3 ≤ 30 ∧ 50 ≤ vv s m 4) ∧ (vv s k 2 - vv s m 2).natAbs ≤ 5) && sB s 5 k m && sB s 7 k m) := rfl
  have ofs : (vp_in (nI k) 60 ∧ (vp_in (nI k) 60 ∧ (vp_in (mi μ 14 k) 10 ∧ (vp_in (nI m) 60 ∧ (vp_in (nI m) 60 ∧ vp_in (mi μ 14 m) 10))))) := ⟨v1, v1, h.2.2.2 k hk, v2, v2, h.2.2.2 m hm⟩
  by_cases c1 : vv s k 3 ≤ 30 ∧ 50 ≤ vv s k 4
  · rw [if_pos c1]
    by_cases c2 : vv s m 3 ≤ 30 ∧ 50 ≤ vv s m 4
    · rw [if_pos c2, if_neg i_1ne0, if_neg i_1ne0]
      by_cases c3 : s k 1 = s m 1
      · rw [if_pos c3]
        by_cases c4 : mi μ 14 k = mi μ 14 m
        · rw [if_pos c4]
          refine ⟨?_, p0, ofs.1, ofs.2.1, ofs.2.2.1, ofs.2.2.2.1, ofs.2.2.2.2.1, ofs.2.2.2.2.2, k2, fun _ => o0, fun _ => ⟨m2, fun _ => o0, fun _ => ⟨v1, v2, fun _ => ⟨v1, v2, fun _ => o0, fun z => absurd c4 z⟩, fun _ => o0⟩⟩⟩
          rw [t0, jdef, decide_eq_false (fun z => z.2.1 (by rw [← a0, ← b0]; exact c4))]
          rfl
        · rw [if_neg c4]
          have n4 : s k 0 ≠ s m 0 := fun z => c4 (by rw [a0, b0]; exact z)
          by_cases c5 : 5 < s k 2 - s m 2
          · rw [if_pos c5]
            refine ⟨?_, p0, ofs.1, ofs.2.1, ofs.2.2.1, ofs.2.2.2.1, ofs.2.2.2.2.1, ofs.2.2.2.2.2, k2, fun _ => o0, fun _ => ⟨m2, fun _ => o0, fun _ => ⟨v1, v2, fun _ => ⟨v1, v2, fun _ => o0, fun _ => ⟨fun _ => o0, fun z => absurd c5 z⟩⟩, fun _ => o0⟩⟩⟩
            rw [t0, jdef, decide_eq_false (fun z => by have := q1.mp c5; have := z.2.2.2.2; omega)]
            rfl
          · rw [if_neg c5]
            by_cases c6 : s k 2 - s m 2 < -5
            · rw [if_pos c6]
              refine ⟨?_, p0, ofs.1, ofs.2.1, ofs.2.2.1, ofs.2.2.2.1, ofs.2.2.2.2.1, ofs.2.2.2.2.2, k2, fun _ => o0, fun _ => ⟨m2, fun _ => o0, fun _ => ⟨v1, v2, fun _ => ⟨v1, v2, fun _ => o0, fun _ => ⟨fun _ => o0, fun _ => ⟨fun _ => o0, fun z => absurd c6 z⟩⟩⟩, fun _ => o0⟩⟩⟩
              rw [t0, jdef, decide_eq_false (fun z => by have := q2.mp c6; have := z.2.2.2.2; omega)]
              rfl
            · rw [if_neg c6]
              refine ⟨?_, t1.2.1, ofs.1, ofs.2.1, ofs.2.2.1, ofs.2.2.2.1, ofs.2.2.2.2.1, ofs.2.2.2.2.2, k2, fun _ => o0, fun _ => ⟨m2, fun _ => o0, fun _ => ⟨v1, v2, fun _ => ⟨v1, v2, fun _ => o0, fun _ => ⟨fun _ => o0, fun _ => ⟨fun _ => o0, fun _ => t1.2.2⟩⟩⟩, fun _ => o0⟩⟩⟩
              rw [t1.1, jdef, decide_eq_true ⟨c3, n4, c1, c2, by
                have : ¬ (5 < vv s k 2 - vv s m 2) := fun z => c5 (q1.mpr z)
                have : ¬ (vv s k 2 - vv s m 2 < -5) := fun z => c6 (q2.mpr z)
                omega⟩]
              cases sB s 5 k m <;> cases sB s 7 k m <;> rfl
      · rw [if_neg c3]
        refine ⟨?_, p0, ofs.1, ofs.2.1, ofs.2.2.1, ofs.2.2.2.1, ofs.2.2.2.2.1, ofs.2.2.2.2.2, k2, fun _ => o0, fun _ => ⟨m2, fun _ => o0, fun _ => ⟨v1, v2, fun z => absurd z c3, fun _ => o0⟩⟩⟩
        rw [t0, jdef, decide_eq_false (fun z => c3 z.1)]
        rfl
    · rw [if_neg c2, if_neg i_1ne0, if_pos rfl]
      refine ⟨?_, p0, ofs.1, ofs.2.1, ofs.2.2.1, ofs.2.2.2.1, ofs.2.2.2.2.1, ofs.2.2.2.2.2, k2, fun _ => o0, fun _ => ⟨m2, fun _ => o0, fun z => absurd rfl z⟩⟩
      rw [t0, jdef, decide_eq_false (fun z => c2 z.2.2.2.1)]
      rfl
  · rw [if_neg c1, if_pos rfl]
    refine ⟨?_, p0, ofs.1, ofs.2.1, ofs.2.2.1, ofs.2.2.2.1, ofs.2.2.2.2.1, ofs.2.2.2.2.2, k2, fun _ => o0, fun z => absurd rfl z⟩
    rw [t0, jdef, decide_eq_false (fun z => c1 z.2.2.1)]
    rfl
