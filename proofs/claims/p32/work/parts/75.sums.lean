/-! ===== sums over squares ===== -/
theorem sm_geq (d : Nat) : ∀ n : Nat, sm (fun w => if d ≤ w then (1 : Int) else 0) n = max 0 ((n : Int) - d)
  | 0 => by show (0 : Int) = _; omega
  | n + 1 => by
    have ih := sm_geq d n
    show sm (fun w => if d ≤ w then (1 : Int) else 0) n + (if d ≤ n then (1 : Int) else 0) = _
    rw [ih]
    by_cases c : d ≤ n
    · rw [if_pos c]; omega
    · rw [if_neg c]; omega
theorem tri8 (u v : Int) : max 0 (8 - max (u.natAbs : Int) (v.natAbs : Int)) = sm (fun w => (if u.natAbs ≤ w then (1 : Int) else 0) * (if v.natAbs ≤ w then (1 : Int) else 0)) 8 := by
  have e : sm (fun w => (if u.natAbs ≤ w then (1 : Int) else 0) * (if v.natAbs ≤ w then (1 : Int) else 0)) 8 = sm (fun w => if max u.natAbs v.natAbs ≤ w then (1 : Int) else 0) 8 := by
    refine sm_c 8 (fun w _ => ?_)
    by_cases c : u.natAbs ≤ w
    · by_cases d : v.natAbs ≤ w
      · rw [if_pos c, if_pos d, if_pos (by omega)]; rfl
      · rw [if_pos c, if_neg d, if_neg (by omega)]; rfl
    · rw [if_neg c, if_neg (show ¬ max u.natAbs v.natAbs ≤ w by omega), Int.zero_mul]
  rw [e, sm_geq]
  omega
theorem sm_in (X : Int) (w : Nat) : ∀ m : Nat, sm (fun a => if ((a : Int) - X).natAbs ≤ w then (1 : Int) else 0) m = max 0 (min ((m : Int) - 1) (X + w) - max 0 (X - w) + 1)
  | 0 => by show (0 : Int) = _; omega
  | m + 1 => by
    have ih := sm_in X w m
    show sm (fun a => if ((a : Int) - X).natAbs ≤ w then (1 : Int) else 0) m + (if ((m : Int) - X).natAbs ≤ w then (1 : Int) else 0) = _
    rw [ih]
    by_cases c : ((m : Int) - X).natAbs ≤ w
    · rw [if_pos c]; omega
    · rw [if_neg c]; omega
theorem sm_prod {f g : Nat → Int} (n m : Nat) : sm (fun a => sm (fun b => f a * g b) m) n = sm f n * sm g m := by
  have e : sm (fun a => sm (fun b => f a * g b) m) n = sm (fun a => f a * sm g m) n := sm_c n (fun a _ => sm_mul m)
  rw [e, sm_mulr]
/-- the cells of a row that lie no farther than w from X -/
def cel (X : Int) (w : Nat) : Int := max 0 (min 99 (X + w) - max 0 (X - w) + 1)
/-- the weight of a square for the pieces -/
def wsq (P R : Nat → Int) (a b : Int) : Int := sm (fun i => max 0 (8 - max ((a - P i).natAbs : Int) ((b - R i).natAbs : Int))) 5
theorem wsq_b (P R : Nat → Int) (a b : Int) : 0 ≤ wsq P R a b ∧ wsq P R a b ≤ 40 := by
  have h1 : ∀ i, 0 ≤ max 0 (8 - max ((a - P i).natAbs : Int) ((b - R i).natAbs : Int)) ∧ max 0 (8 - max ((a - P i).natAbs : Int) ((b - R i).natAbs : Int)) ≤ 8 := fun i => by omega
  have q1 := sm_nn (g := fun i => max 0 (8 - max ((a - P i).natAbs : Int) ((b - R i).natAbs : Int))) 5 (fun i _ => (h1 i).1)
  have q2 := sm_ab (g := fun i => max 0 (8 - max ((a - P i).natAbs : Int) ((b - R i).natAbs : Int))) (B := 8) 5 (fun i _ => by have := h1 i; omega)
  unfold wsq
  omega
theorem wsq_all (P R : Nat → Int) : sm (fun a => sm (fun b => wsq P R a b) 100) 100 = sm (fun i => sm (fun w => cel (P i) w * cel (R i) w) 8) 5 := by
  have e1 : sm (fun a => sm (fun b => wsq P R a b) 100) 100 = sm (fun a => sm (fun b => sm (fun i => sm (fun w => (if ((a : Int) - P i).natAbs ≤ w then (1 : Int) else 0) * (if ((b : Int) - R i).natAbs ≤ w then (1 : Int) else 0)) 8) 5) 100) 100 := by
    refine sm_c 100 (fun a _ => sm_c 100 (fun b _ => ?_))
    exact sm_c 5 (fun i _ => tri8 _ _)
  rw [e1]
  have e2 : sm (fun a => sm (fun b => sm (fun i => sm (fun w => (if ((a : Int) - P i).natAbs ≤ w then (1 : Int) else 0) * (if ((b : Int) - R i).natAbs ≤ w then (1 : Int) else 0)) 8) 5) 100) 100 = sm (fun a => sm (fun i => sm (fun b => sm (fun w => (if ((a : Int) - P i).natAbs ≤ w then (1 : Int) else 0) * (if ((b : Int) - R i).natAbs ≤ w then (1 : Int) else 0)) 8) 100) 5) 100 := sm_c 100 (fun a _ => sm_sw 5 100)
  rw [e2, sm_sw 5 100]
  refine sm_c 5 (fun i _ => ?_)
  have e3 : sm (fun a => sm (fun b => sm (fun w => (if ((a : Int) - P i).natAbs ≤ w then (1 : Int) else 0) * (if ((b : Int) - R i).natAbs ≤ w then (1 : Int) else 0)) 8) 100) 100 = sm (fun a => sm (fun w => sm (fun b => (if ((a : Int) - P i).natAbs ≤ w then (1 : Int) else 0) * (if ((b : Int) - R i).natAbs ≤ w then (1 : Int) else 0)) 100) 8) 100 := sm_c 100 (fun a _ => sm_sw 8 100)
  rw [e3, sm_sw 8 100]
  refine sm_c 8 (fun w _ => ?_)
  rw [sm_prod 100 100, sm_in (P i) w 100, sm_in (R i) w 100]
  rfl
/-! ===== walks ===== -/
def wl (μ : MS) (p a b : Int32) (W : Int) : Nat → Int
  | 0 => W
  | j + 1 => if (mi μ 40 j = p ∧ mi μ 41 j = a ∧ mi μ 42 j = b) then (wl μ p a b W j * (100 - (mi μ 43 j).toInt)) / 100 else wl μ p a b W j
theorem part_b {x c : Int} (hx : 0 ≤ x) (h1 : 1 ≤ c) (h2 : c ≤ 100) : 0 ≤ (x * (100 - c)) / 100 ∧ (x * (100 - c)) / 100 ≤ x ∧ 0 ≤ x * (100 - c) ∧ x * (100 - c) ≤ x * 100 := by
  have a : 0 ≤ x * (100 - c) := Int.mul_nonneg hx (by omega)
  have b : x * (100 - c) ≤ x * 100 := Int.mul_le_mul_of_nonneg_left (by omega) hx
  omega
theorem wl_b {σ : XS} {μ : MS} {n5 : Nat} (h : RWal σ μ n5) (p a b : Int32) {W : Int} (hW : 0 ≤ W) : ∀ j, j ≤ n5 → 0 ≤ wl μ p a b W j ∧ wl μ p a b W j ≤ W
  | 0, _ => ⟨hW, Int.le_refl _⟩
  | j + 1, hj => by
    have ih := wl_b h p a b hW j (by omega)
    obtain ⟨-, -, -, -, -, -, r, -⟩ := h.2.2.2 j (by omega)
    have r' := rng_i (L := 1) (H := 100) r rfl rfl
    show 0 ≤ (if (mi μ 40 j = p ∧ mi μ 41 j = a ∧ mi μ 42 j = b) then (wl μ p a b W j * (100 - (mi μ 43 j).toInt)) / 100 else wl μ p a b W j) ∧ (if (mi μ 40 j = p ∧ mi μ 41 j = a ∧ mi μ 42 j = b) then (wl μ p a b W j * (100 - (mi μ 43 j).toInt)) / 100 else wl μ p a b W j) ≤ W
    by_cases c : (mi μ 40 j = p ∧ mi μ 41 j = a ∧ mi μ 42 j = b)
    · rw [if_pos c]
      have q := part_b ih.1 r'.1 r'.2
      omega
    · rw [if_neg c]; exact ih
theorem wl_no {μ : MS} {p a b : Int32} {W : Int} : ∀ j, (∀ k, k < j → ¬ (mi μ 40 k = p ∧ mi μ 41 k = a ∧ mi μ 42 k = b)) → wl μ p a b W j = W
  | 0, _ => rfl
  | j + 1, h => by
    show (if (mi μ 40 j = p ∧ mi μ 41 j = a ∧ mi μ 42 j = b) then _ else _) = W
    rw [if_neg (h j (by omega))]
    exact wl_no j (fun k hk => h k (by omega))
theorem wl_0 {σ : XS} {μ : MS} {n5 : Nat} (h : RWal σ μ n5) {p a b : Int32} {W : Int} (hW : 0 ≤ W) {k : Nat} (hk : wl μ p a b W k = 0) : ∀ j, k + j ≤ n5 → wl μ p a b W (k + j) = 0
  | 0, _ => hk
  | j + 1, hj => by
    have ih := wl_0 h hW hk j (by omega)
    show (if (mi μ 40 (k + j) = p ∧ mi μ 41 (k + j) = a ∧ mi μ 42 (k + j) = b) then (wl μ p a b W (k + j) * (100 - (mi μ 43 (k + j)).toInt)) / 100 else wl μ p a b W (k + j)) = 0
    rw [ih, Int.zero_mul]
    split
    · rfl
    · rfl
theorem nI_inj {j k : Nat} (hj : j < 2 ^ 31) (hk : k < 2 ^ 31) : nI j = nI k ↔ j = k := nI_eq hj hk
/-- all the squares together: the walked ones each counted once -/
theorem ground_sum {σ : XS} {μ : MS} {n5 : Nat} (h : RWal σ μ n5) (p : Int32) (W : Int → Int → Int) (hW : ∀ a b, 0 ≤ W a b) : sm (fun a => sm (fun b => wl μ p (nI a) (nI b) (W a b) n5) 100) 100 = sm (fun a => sm (fun b => W a b) 100) 100 + sm (fun j => if xi σ 184 (xe σ 5 j) = 0 then 0 else if mi μ 40 j = p then wl μ p (mi μ 41 j) (mi μ 42 j) (W (mi μ 41 j).toInt (mi μ 42 j).toInt) n5 - W (mi μ 41 j).toInt (mi μ 42 j).toInt else 0) n5 := by
  obtain ⟨h60, -, -, hf⟩ := h
  have first : ∀ a b, (∃ j, j < n5 ∧ (mi μ 40 j = p ∧ mi μ 41 j = a ∧ mi μ 42 j = b)) → ∃ j, j < n5 ∧ (mi μ 40 j = p ∧ mi μ 41 j = a ∧ mi μ 42 j = b) ∧ ¬ xi σ 184 (xe σ 5 j) = 0 ∧ ∀ k, k < n5 → (mi μ 40 k = p ∧ mi μ 41 k = a ∧ mi μ 42 k = b) → ¬ xi σ 184 (xe σ 5 k) = 0 → k = j := by
    intro a b ⟨j0, hj0, hw0⟩
    obtain ⟨j, ⟨hj, hw⟩, hl⟩ := least_of (P := fun j => j < n5 ∧ (mi μ 40 j = p ∧ mi μ 41 j = a ∧ mi μ 42 j = b)) j0 ⟨hj0, hw0⟩
    have noL : ∀ k, k < n5 → (mi μ 40 k = p ∧ mi μ 41 k = a ∧ mi μ 42 k = b) → ¬ xi σ 184 (xe σ 5 k) = 0 → ¬ ∃ m, m < k ∧ (mi μ 40 m = p ∧ mi μ 41 m = a ∧ mi μ 42 m = b) := by
      intro k hk wk hn ⟨m, hm, w⟩
      obtain ⟨-, -, -, -, -, -, -, e⟩ := hf k hk
      rcases e with ⟨e, -⟩ | ⟨-, e⟩
      · exact hn e
      · exact e ⟨m, hm, w.1.trans wk.1.symm, w.2.1.trans wk.2.1.symm, w.2.2.trans wk.2.2.symm⟩
    refine ⟨j, hj, hw, ?_, fun k hk wk hn => ?_⟩
    · obtain ⟨-, -, -, -, -, -, -, e⟩ := hf j hj
      rcases e with ⟨-, k, hk, e1, e2, e3⟩ | ⟨e, -⟩
      · have := hl k ⟨by omega, e1.trans hw.1, e2.trans hw.2.1, e3.trans hw.2.2⟩
        omega
      · rw [e]; exact i_1ne0
    · have q1 := hl k ⟨hk, wk⟩
      rcases Nat.lt_or_ge j k with g | g
      · exact absurd ⟨j, g, hw⟩ (noL k hk wk hn)
      · omega
  -- what a square gains, as a sum over the walks
  have gain : ∀ a b : Nat, wl μ p (nI a) (nI b) (W a b) n5 = W a b + sm (fun j => if (mi μ 40 j = p ∧ mi μ 41 j = (nI a) ∧ mi μ 42 j = (nI b)) ∧ ¬ xi σ 184 (xe σ 5 j) = 0 then wl μ p (nI a) (nI b) (W a b) n5 - W a b else 0) n5 := by
    intro a b
    by_cases c : ∃ j, j < n5 ∧ (mi μ 40 j = p ∧ mi μ 41 j = (nI a) ∧ mi μ 42 j = (nI b))
    · obtain ⟨j, hj, hw, hn, hu⟩ := first _ _ c
      have e : sm (fun j => if (mi μ 40 j = p ∧ mi μ 41 j = (nI a) ∧ mi μ 42 j = (nI b)) ∧ ¬ xi σ 184 (xe σ 5 j) = 0 then wl μ p (nI a) (nI b) (W a b) n5 - W a b else 0) n5 = sm (fun k => if k = j then wl μ p (nI a) (nI b) (W a b) n5 - W a b else 0) n5 := by
        refine sm_c n5 (fun k hk => ?_)
        by_cases d : k = j
        · rw [if_pos d, if_pos (by rw [d]; exact ⟨hw, hn⟩)]
        · rw [if_neg d, if_neg (fun z => d (hu k hk z.1 z.2))]
      rw [e, sm_pick, if_pos hj]
      omega
    · rw [wl_no n5 (fun k hk z => c ⟨k, hk, z⟩), sm_0 n5 (fun k hk => if_neg (fun z => c ⟨k, hk, z.1⟩))]
      omega
  have e1 : sm (fun a => sm (fun b => wl μ p (nI a) (nI b) (W a b) n5) 100) 100 = sm (fun a => sm (fun b => W a b) 100 + sm (fun b => sm (fun j => if (mi μ 40 j = p ∧ mi μ 41 j = (nI a) ∧ mi μ 42 j = (nI b)) ∧ ¬ xi σ 184 (xe σ 5 j) = 0 then wl μ p (nI a) (nI b) (W a b) n5 - W a b else 0) n5) 100) 100 := by
    refine sm_c 100 (fun a _ => ?_)
    rw [← sm_add]
    exact sm_c 100 (fun b _ => gain a b)
  rw [e1, sm_add]
  refine congrArg (fun z => sm (fun a => sm (fun b => W a b) 100) 100 + z) ?_
  have e2 : sm (fun a => sm (fun b => sm (fun j => if (mi μ 40 j = p ∧ mi μ 41 j = (nI a) ∧ mi μ 42 j = (nI b)) ∧ ¬ xi σ 184 (xe σ 5 j) = 0 then wl μ p (nI a) (nI b) (W a b) n5 - W a b else 0) n5) 100) 100 = sm (fun a => sm (fun j => sm (fun b => if (mi μ 40 j = p ∧ mi μ 41 j = (nI a) ∧ mi μ 42 j = (nI b)) ∧ ¬ xi σ 184 (xe σ 5 j) = 0 then wl μ p (nI a) (nI b) (W a b) n5 - W a b else 0) 100) n5) 100 := sm_c 100 (fun a _ => sm_sw n5 100)
  rw [e2, sm_sw n5 100]
  refine sm_c n5 (fun j hj => ?_)
  obtain ⟨-, -, -, -, r1, r2, -, -⟩ := hf j hj
  obtain ⟨A, hA, eA⟩ := (rng_iff (n := 100) (by decide) (by decide)).mp r1
  obtain ⟨B, hB, eB⟩ := (rng_iff (n := 100) (by decide) (by decide)).mp r2
  have tA : (nI A).toInt = A := nI_toInt (by omega)
  have tB : (nI B).toInt = B := nI_toInt (by omega)
  rw [eA, eB, tA, tB]
  by_cases c0 : xi σ 184 (xe σ 5 j) = 0
  · rw [if_pos c0]
    exact sm_0 100 (fun a _ => sm_0 100 (fun b _ => if_neg (fun z => z.2 c0)))
  · rw [if_neg c0]
    by_cases c1 : mi μ 40 j = p
    · rw [if_pos c1]
      have e3 : sm (fun a => sm (fun b => if (mi μ 40 j = p ∧ nI A = nI a ∧ nI B = nI b) ∧ ¬ xi σ 184 (xe σ 5 j) = 0 then wl μ p (nI a) (nI b) (W a b) n5 - W a b else 0) 100) 100 = sm (fun a => if a = A then (wl μ p (nI A) (nI B) (W A B) n5 - W A B) else 0) 100 := by
        refine sm_c 100 (fun a ha => ?_)
        by_cases d : a = A
        · rw [if_pos d]
          have e4 : sm (fun b => if (mi μ 40 j = p ∧ nI A = nI a ∧ nI B = nI b) ∧ ¬ xi σ 184 (xe σ 5 j) = 0 then wl μ p (nI a) (nI b) (W a b) n5 - W a b else 0) 100 = sm (fun b => if b = B then (wl μ p (nI A) (nI B) (W A B) n5 - W A B) else 0) 100 := by
            refine sm_c 100 (fun b hb => ?_)
            by_cases d2 : b = B
            · rw [if_pos d2, if_pos ⟨⟨c1, by rw [d], by rw [d2]⟩, c0⟩, d, d2]
            · rw [if_neg d2, if_neg (fun z => d2 ((nI_eq (by omega) (by omega)).mp z.1.2.2).symm)]
          rw [e4, sm_pick, if_pos hB]
        · rw [if_neg d]
          exact sm_0 100 (fun b _ => if_neg (fun z => d ((nI_eq (by omega) (by omega)).mp z.1.2.1).symm))
      rw [e3, sm_pick, if_pos hA]
    · rw [if_neg c1]
      exact sm_0 100 (fun a _ => sm_0 100 (fun b _ => if_neg (fun z => c1 z.1.1)))
