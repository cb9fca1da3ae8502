/-! ===== roots ===== -/
noncomputable def isq (z : Int) : Int := Classical.epsilon (fun r => 0 ≤ r ∧ r * r ≤ z ∧ z < (r + 1) * (r + 1))
theorem sq_le {a b : Int} (h0 : 0 ≤ a) (h : a ≤ b) : a * a ≤ b * b := Int.mul_le_mul h h h0 (by omega)
theorem isq_eq {z r : Int} (h0 : 0 ≤ r) (h1 : r * r ≤ z) (h2 : z < (r + 1) * (r + 1)) : isq z = r := by
  have hs : 0 ≤ isq z ∧ isq z * isq z ≤ z ∧ z < (isq z + 1) * (isq z + 1) := Classical.epsilon_spec (p := fun r => 0 ≤ r ∧ r * r ≤ z ∧ z < (r + 1) * (r + 1)) ⟨r, h0, h1, h2⟩
  obtain ⟨g0, g1, g2⟩ := hs
  rcases Int.lt_trichotomy (isq z) r with c | c | c
  · have := sq_le (a := isq z + 1) (b := r) (by omega) (by omega); omega
  · exact c
  · have := sq_le (a := r + 1) (b := isq z) (by omega) (by omega); omega
theorem isq_b {z r : Int} (h0 : 0 ≤ r) (h1 : r * r ≤ z) (h2 : z < (r + 1) * (r + 1)) {B : Int} (hB : 0 ≤ B) (hz : z < (B + 1) * (B + 1)) : r ≤ B := by
  rcases Int.lt_or_le B r with c | c
  · have := sq_le (a := B + 1) (b := r) (by omega) (by omega); omega
  · exact c
theorem dg_f : ∀ k, k < 31 → ¬ (30 - nI k : Int32) < 0 ∧ (30 - nI k : Int32) + (-1) = 30 - nI (k + 1) ∧ ((1 : Int64) <<< ((30 - nI k : Int32).toInt64 &&& 63)).toInt = 2 ^ (30 - k) := by decide +kernel
theorem dg_e : (30 - nI 31 : Int32) < 0 := by decide
theorem p2_le : ∀ k, k < 31 → (2 : Int) ^ (31 - k) = 2 * 2 ^ (30 - k) ∧ (2 : Int) ^ (30 - k) ≤ 1073741824 ∧ (1 : Int) ≤ 2 ^ (30 - k) := by decide +kernel
/-- the class's root: by binary digits -/
theorem xroot_i {a : Int64} {z : Int} {m : Nat} (ha : B6 a z m) (h0 : 0 ≤ z) (h1 : z < 4611686018427387904) : of_X10_rootOf a ∧ ∃ r : Int, B6 (f_X10_rootOf a) r 2147483647 ∧ 0 ≤ r ∧ r * r ≤ z ∧ z < (r + 1) * (r + 1) := by
  have hl := itr_for (f := s_X10_rootOf_6 a) (o := os_X10_rootOf_6 a) (fun k (b : Int64) => (b, 30 - nI k)) (fun k b => ∃ R : Int, b.toInt = R ∧ 0 ≤ R ∧ R + 2 ^ (31 - k) ≤ 2147483648 ∧ R * R ≤ z ∧ z < (R + 2 ^ (31 - k)) * (R + 2 ^ (31 - k))) (n := 31) ?_ ?_ FU 0 0 (by omega) (by unfold FU; omega) ⟨0, by decide, by omega, by decide, by omega, by show z < (0 + 2147483648) * (0 + 2147483648); omega⟩
  · obtain ⟨l1, b, l2, R, l3, l4, l5, l6, l7⟩ := hl
    have e : f_X10_rootOf a = b := by
      have l2 : itr (s_X10_rootOf_6 a) FU (0, 30) = (b, 30 - nI 31) := l2
      show (itr (s_X10_rootOf_6 a) FU (0, 30)).1 = b
      rw [l2]
    have l5 : R + 1 ≤ 2147483648 := l5
    refine ⟨⟨l1, trivial⟩, R, ⟨by rw [e]; exact l3, by omega⟩, l4, l6, l7⟩
  · intro k b hk hP
    obtain ⟨R, p1, p2, p3, p4, p5⟩ := hP
    obtain ⟨d1, d2, d3⟩ := dg_f k hk
    obtain ⟨q1, q2, q3⟩ := p2_le k hk
    rw [q1] at p3 p5
    have hb : B6 b R 2147483647 := ⟨p1, by omega⟩
    have hd : B6 ((1 : Int64) <<< ((30 - nI k : Int32).toInt64 &&& 63)) (2 ^ (30 - k)) 1073741824 := ⟨d3, by omega⟩
    have ht : B6 (b + ((1 : Int64) <<< ((30 - nI k : Int32).toInt64 &&& 63))) (R + 2 ^ (30 - k)) 2147483648 := ⟨(b6_add hb hd (by omega)).1, by omega⟩
    have hs := b6_mul ht ht (by omega)
    refine ⟨trivial, ?_⟩
    show ∃ b', b_X10_rootOf_6 a b (30 - nI k) = (true, (b', 30 - nI (k + 1))) ∧ _
    unfold b_X10_rootOf_6 f_X10_rootOf_l6_32
    rw [if_neg d1, d2]
    have e31 : 31 - (k + 1) = 30 - k := by omega
    by_cases c : z < (R + 2 ^ (30 - k)) * (R + 2 ^ (30 - k))
    · rw [if_pos ((b6_gt hs ha).mpr c)]
      exact ⟨b, rfl, R, p1, p2, by rw [e31]; omega, p4, by rw [e31]; exact c⟩
    · rw [if_neg (fun g => c ((b6_gt hs ha).mp g))]
      refine ⟨_, rfl, R + 2 ^ (30 - k), ht.1, by omega, by rw [e31]; omega, by omega, ?_⟩
      rw [e31]
      have : R + 2 ^ (30 - k) + 2 ^ (30 - k) = R + 2 * 2 ^ (30 - k) := by omega
      rw [this]; exact p5
  · intro b hP
    refine ⟨trivial, ?_⟩
    show b_X10_rootOf_6 a b (30 - nI 31) = _
    unfold b_X10_rootOf_6
    rw [if_pos dg_e]
/-- the reference's root: by halves -/
theorem root_loop {a : Int64} {z : Int} {m : Nat} (ha : B6 a z m) : ∀ t n (v : Int64 × Int64) (lo hi : Int), v.1.toInt = lo → v.2.toInt = hi → 0 ≤ lo → lo ≤ hi → hi ≤ 1000000000 → lo * lo ≤ z → z < (hi + 1) * (hi + 1) → hi - lo < 2 ^ t → t < n → ito (s_X11_root_7 a) (os_X11_root_7 a) n v ∧ ∃ r : Int, (itr (s_X11_root_7 a) n v).1.toInt = r ∧ 0 ≤ r ∧ r ≤ 1000000000 ∧ r * r ≤ z ∧ z < (r + 1) * (r + 1) := by
  intro t
  induction t with
  | zero =>
    intro n v lo hi e1 e2 h0 h1 h2 h3 h4 h5 hn
    obtain ⟨n, rfl⟩ : ∃ k, n = k + 1 := ⟨n - 1, by omega⟩
    have he : lo = hi := by have : hi - lo < 1 := h5; omega
    have hv : s_X11_root_7 a v = (false, v) := by
      show b_X11_root_7 a v.1 v.2 = _
      unfold b_X11_root_7
      rw [if_pos]
      rw [lg_cmp_ge, Int64.le_iff_toInt_le, e1, e2]; omega
    refine ⟨⟨trivial, fun z => by rw [hv] at z; exact absurd z Bool.false_ne_true⟩, lo, ?_, h0, by omega, h3, by rw [he]; exact h4⟩
    show (if (s_X11_root_7 a v).1 = true then itr (s_X11_root_7 a) n (s_X11_root_7 a v).2 else (s_X11_root_7 a v).2).1.toInt = lo
    rw [hv]; exact e1
  | succ t ih =>
    intro n v lo hi e1 e2 h0 h1 h2 h3 h4 h5 hn
    obtain ⟨n, rfl⟩ : ∃ k, n = k + 1 := ⟨n - 1, by omega⟩
    by_cases he : hi ≤ lo
    · have hv : s_X11_root_7 a v = (false, v) := by
        show b_X11_root_7 a v.1 v.2 = _
        unfold b_X11_root_7
        rw [if_pos]
        rw [lg_cmp_ge, Int64.le_iff_toInt_le, e1, e2]; omega
      have he2 : lo = hi := by omega
      refine ⟨⟨trivial, fun z => by rw [hv] at z; exact absurd z Bool.false_ne_true⟩, lo, ?_, h0, by omega, h3, by rw [he2]; exact h4⟩
      show (if (s_X11_root_7 a v).1 = true then itr (s_X11_root_7 a) n (s_X11_root_7 a v).2 else (s_X11_root_7 a v).2).1.toInt = lo
      rw [hv]; exact e1
    · have hc : ¬ 0 ≤ lg_cmp v.1 v.2 := by rw [lg_cmp_ge, Int64.le_iff_toInt_le, e1, e2]; exact he
      have b1 : B6 v.1 lo 1000000000 := ⟨e1, by omega⟩
      have b2 : B6 v.2 hi 1000000000 := ⟨e2, by omega⟩
      have b3 : B6 (2 : Int64) 2 2 := ⟨by decide, by decide⟩
      have bm : B6 ((v.1 + v.2 + 1) / 2) ((lo + hi + 1) / 2) 1000000000 := ⟨(b6_div (b6_add (b6_add b1 b2 (by omega)) b6_1 (by omega)) b3 (by omega) (by omega) (by omega)).1, by omega⟩
      have bs := b6_mul bm bm (by omega)
      have h6 : hi - lo < 2 ^ t * 2 := by rw [Int.pow_succ] at h5; exact h5
      have step : ∀ w : Int64 × Int64, s_X11_root_7 a v = (true, w) → (∃ lo' hi' : Int, w.1.toInt = lo' ∧ w.2.toInt = hi' ∧ 0 ≤ lo' ∧ lo' ≤ hi' ∧ hi' ≤ 1000000000 ∧ lo' * lo' ≤ z ∧ z < (hi' + 1) * (hi' + 1) ∧ hi' - lo' < 2 ^ t) → ito (s_X11_root_7 a) (os_X11_root_7 a) (n + 1) v ∧ ∃ r : Int, (itr (s_X11_root_7 a) (n + 1) v).1.toInt = r ∧ 0 ≤ r ∧ r ≤ 1000000000 ∧ r * r ≤ z ∧ z < (r + 1) * (r + 1) := by
        intro w hw hx
        obtain ⟨lo', hi', x1, x2, x3, x4, x5, x6, x7, x8⟩ := hx
        obtain ⟨i1, r, i2, i3⟩ := ih n w lo' hi' x1 x2 x3 x4 x5 x6 x7 x8 (by omega)
        refine ⟨⟨trivial, fun _ => by rw [hw]; exact i1⟩, r, ?_, i3⟩
        show (if (s_X11_root_7 a v).1 = true then itr (s_X11_root_7 a) n (s_X11_root_7 a v).2 else (s_X11_root_7 a v).2).1.toInt = r
        rw [hw]; exact i2
      by_cases c : z < ((lo + hi + 1) / 2) * ((lo + hi + 1) / 2)
      · refine step (v.1, (v.1 + v.2 + 1) / 2 - 1) ?_ ⟨lo, (lo + hi + 1) / 2 - 1, e1, ?_, h0, by omega, by omega, h3, ?_, by omega⟩
        · show b_X11_root_7 a v.1 v.2 = _
          unfold b_X11_root_7
          rw [if_neg hc, if_pos ((b6_gt bs ha).mpr c)]
        · exact (b6_sub bm b6_1 (by omega)).1
        · rw [Int.sub_add_cancel]; exact c
      · refine step ((v.1 + v.2 + 1) / 2, v.2) ?_ ⟨(lo + hi + 1) / 2, hi, bm.1, e2, by omega, by omega, h2, by omega, h4, by omega⟩
        show b_X11_root_7 a v.1 v.2 = _
        unfold b_X11_root_7
        rw [if_neg hc, if_neg (fun g => c ((b6_gt bs ha).mp g))]
theorem mroot_i {a : Int64} {z : Int} {m : Nat} (ha : B6 a z m) (h0 : 0 ≤ z) (h1 : z < 1000000000000000000) : of_X11_root a ∧ ∃ r : Int, B6 (f_X11_root a) r 1000000000 ∧ 0 ≤ r ∧ r * r ≤ z ∧ z < (r + 1) * (r + 1) := by
  obtain ⟨l1, r, l2, l3, l4, l5, l6⟩ := root_loop ha 30 FU (0, 1000000000) 0 1000000000 (by decide) (by decide) (by omega) (by omega) (by omega) (by omega) (by omega) (by decide) (by unfold FU; omega)
  exact ⟨⟨l1, trivial⟩, r, ⟨l2, by omega⟩, l3, l5, l6⟩
