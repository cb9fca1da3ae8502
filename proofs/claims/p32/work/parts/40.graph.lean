/-! ===== sums ===== -/
def sm (g : Nat → Int) : Nat → Int
  | 0 => 0
  | n + 1 => sm g n + g n
theorem sm_c {g h : Nat → Int} : ∀ n, (∀ k, k < n → g k = h k) → sm g n = sm h n
  | 0, _ => rfl
  | n + 1, e => by
    show sm g n + g n = sm h n + h n
    rw [sm_c n (fun k hk => e k (by omega)), e n (by omega)]
theorem sm_0 {g : Nat → Int} : ∀ n, (∀ k, k < n → g k = 0) → sm g n = 0
  | 0, _ => rfl
  | n + 1, e => by
    show sm g n + g n = 0
    rw [sm_0 n (fun k hk => e k (by omega)), e n (by omega)]
    rfl
theorem sm_nn {g : Nat → Int} : ∀ n, (∀ k, k < n → 0 ≤ g k) → 0 ≤ sm g n
  | 0, _ => Int.le_refl 0
  | n + 1, e => by
    have h1 := sm_nn n (fun k hk => e k (by omega))
    have h2 := e n (by omega)
    show 0 ≤ sm g n + g n
    omega
theorem sm_ab {g : Nat → Int} {B : Nat} : ∀ n, (∀ k, k < n → (g k).natAbs ≤ B) → (sm g n).natAbs ≤ n * B
  | 0, _ => by simp [sm]
  | n + 1, e => by
    have h1 := sm_ab n (fun k hk => e k (by omega))
    have h2 := e n (by omega)
    show (sm g n + g n).natAbs ≤ (n + 1) * B
    rw [Nat.add_mul, Nat.one_mul]
    omega
theorem sm_one {g : Nat → Int} {j : Nat} : ∀ n, (∀ k, k < n → 0 ≤ g k) → j < n → g j ≤ sm g n
  | 0, _, h => absurd h (Nat.not_lt_zero _)
  | n + 1, e, h => by
    have h1 := sm_nn n (fun k hk => e k (by omega))
    have h2 := e n (by omega)
    show g j ≤ sm g n + g n
    rcases Nat.lt_or_ge j n with g1 | g1
    · have := sm_one n (fun k hk => e k (by omega)) g1; omega
    · have : j = n := by omega
      subst this; omega
theorem sm_le {g h : Nat → Int} : ∀ n, (∀ k, k < n → g k ≤ h k) → sm g n ≤ sm h n
  | 0, _ => Int.le_refl _
  | n + 1, e => by
    have h1 := sm_le n (fun k hk => e k (by omega))
    have h2 := e n (by omega)
    show sm g n + g n ≤ sm h n + h n
    omega
theorem sm_add {g h : Nat → Int} : ∀ n, sm (fun k => g k + h k) n = sm g n + sm h n
  | 0 => rfl
  | n + 1 => by
    show sm (fun k => g k + h k) n + (g n + h n) = sm g n + g n + (sm h n + h n)
    rw [sm_add n]; omega
theorem sm_sub {g h : Nat → Int} : ∀ n, sm (fun k => g k - h k) n = sm g n - sm h n
  | 0 => rfl
  | n + 1 => by
    show sm (fun k => g k - h k) n + (g n - h n) = sm g n + g n - (sm h n + h n)
    rw [sm_sub n]; omega
theorem sm_mul {g : Nat → Int} {c : Int} : ∀ n, sm (fun k => c * g k) n = c * sm g n
  | 0 => by simp [sm]
  | n + 1 => by
    show sm (fun k => c * g k) n + c * g n = c * (sm g n + g n)
    rw [sm_mul n, Int.mul_add]
theorem sm_mulr {g : Nat → Int} {c : Int} : ∀ n, sm (fun k => g k * c) n = sm g n * c
  | 0 => by simp [sm]
  | n + 1 => by
    show sm (fun k => g k * c) n + g n * c = (sm g n + g n) * c
    rw [sm_mulr n, Int.add_mul]
theorem sm_sw {g : Nat → Nat → Int} (m : Nat) : ∀ n, sm (fun k => sm (fun l => g k l) m) n = sm (fun l => sm (fun k => g k l) n) m
  | 0 => by
    exact (sm_0 m (fun k _ => rfl)).symm
  | n + 1 => by
    show sm (fun k => sm (fun l => g k l) m) n + sm (fun l => g n l) m = sm (fun l => sm (fun k => g k l) n + g n l) m
    rw [sm_sw m n, sm_add]
theorem sm_pick {c : Int} {j : Nat} : ∀ n, sm (fun k => if k = j then c else 0) n = if j < n then c else 0
  | 0 => rfl
  | n + 1 => by
    show sm (fun k => if k = j then c else 0) n + (if n = j then c else 0) = _
    rw [sm_pick n]
    by_cases h1 : n = j
    · subst h1; simp
    · by_cases h2 : j < n
      · rw [if_pos h2, if_neg h1, if_pos (by omega)]; omega
      · rw [if_neg h2, if_neg h1, if_neg (by omega)]; omega
/-! greatest of some -/
def mxx (g : Nat → Int) : Nat → Int
  | 0 => 0
  | n + 1 => max (mxx g n) (g n)
theorem mxx_c {g h : Nat → Int} : ∀ n, (∀ k, k < n → g k = h k) → mxx g n = mxx h n
  | 0, _ => rfl
  | n + 1, e => by
    show max (mxx g n) (g n) = max (mxx h n) (h n)
    rw [mxx_c n (fun k hk => e k (by omega)), e n (by omega)]
theorem mxx_nn {g : Nat → Int} : ∀ n, 0 ≤ mxx g n
  | 0 => Int.le_refl 0
  | n + 1 => by
    have h1 := mxx_nn (g := g) n
    show 0 ≤ max (mxx g n) (g n)
    omega
theorem mxx_le {g : Nat → Int} {B : Int} (hB : 0 ≤ B) : ∀ n, (∀ k, k < n → g k ≤ B) → mxx g n ≤ B
  | 0, _ => hB
  | n + 1, e => by
    have h1 := mxx_le hB n (fun k hk => e k (by omega))
    have h2 := e n (by omega)
    show max (mxx g n) (g n) ≤ B
    omega
/-! ===== how many ===== -/
def cdn (G : Nat → Bool) : Nat → Nat
  | 0 => 0
  | n + 1 => cdn G n + if G n = true then 1 else 0
theorem cdn_le {G : Nat → Bool} : ∀ n, cdn G n ≤ n
  | 0 => Nat.le_refl 0
  | n + 1 => by
    have := cdn_le (G := G) n
    show cdn G n + (if G n = true then 1 else 0) ≤ n + 1
    split <;> omega
theorem cdn_mono {G H : Nat → Bool} : ∀ n, (∀ k, k < n → G k = true → H k = true) → cdn G n ≤ cdn H n
  | 0, _ => Nat.le_refl 0
  | n + 1, e => by
    have h1 := cdn_mono n (fun k hk => e k (by omega))
    have h2 := e n (by omega)
    show cdn G n + (if G n = true then 1 else 0) ≤ cdn H n + (if H n = true then 1 else 0)
    by_cases h3 : G n = true
    · rw [if_pos h3, if_pos (h2 h3)]; omega
    · rw [if_neg h3]; split <;> omega
theorem cdn_lt {G H : Nat → Bool} {j : Nat} (hj1 : ¬ G j = true) (hj2 : H j = true) : ∀ n, (∀ k, k < n → G k = true → H k = true) → j < n → cdn G n < cdn H n
  | 0, _, h => absurd h (Nat.not_lt_zero _)
  | n + 1, e, h => by
    have h0 := cdn_mono n (fun k hk => e k (by omega))
    have h2 := e n (by omega)
    show cdn G n + (if G n = true then 1 else 0) < cdn H n + (if H n = true then 1 else 0)
    rcases Nat.lt_or_ge j n with g1 | g1
    · have h1 := cdn_lt hj1 hj2 n (fun k hk => e k (by omega)) g1
      by_cases h3 : G n = true
      · rw [if_pos h3, if_pos (h2 h3)]; omega
      · rw [if_neg h3]; split <;> omega
    · have : j = n := by omega
      subst this
      rw [if_neg hj1, if_pos hj2]; omega
theorem cdn_pos {G : Nat → Bool} {j n : Nat} (h : G j = true) (hj : j < n) : 0 < cdn G n := by
  have := cdn_lt (G := fun _ => false) (H := G) (j := j) (by simp) h n (fun k _ g => by simp at g) hj
  omega
/-! ===== the least; what is joined over others ===== -/
theorem least_of {P : Nat → Prop} (n : Nat) : P n → ∃ m, P m ∧ ∀ l, P l → m ≤ l := by
  induction n using Nat.strongRecOn with
  | ind n ih =>
    intro h
    by_cases g : ∃ m, m < n ∧ P m
    · obtain ⟨m, hm, hp⟩ := g
      exact ih m hm hp
    · refine ⟨n, h, fun l hl => ?_⟩
      rcases Nat.lt_or_ge l n with h1 | h1
      · exact absurd ⟨l, h1, hl⟩ g
      · exact h1
def rch (J : Nat → Nat → Bool) : Nat → Nat → Nat → Prop
  | 0, k, m => k = m
  | s + 1, k, m => ∃ l, J k l = true ∧ rch J s l m
def cn (J : Nat → Nat → Bool) (k m : Nat) : Prop := ∃ s, rch J s k m
def Gr (J : Nat → Nat → Bool) (n : Nat) : Prop := (∀ k m, J k m = J m k) ∧ ∀ k m, J k m = true → k < n ∧ m < n
theorem cn_refl {J : Nat → Nat → Bool} (k : Nat) : cn J k k := ⟨0, rfl⟩
theorem cn_one {J : Nat → Nat → Bool} {k m : Nat} (h : J k m = true) : cn J k m := ⟨1, m, h, rfl⟩
theorem cn_tr {J : Nat → Nat → Bool} {k m l : Nat} (h : cn J k m) (g : cn J m l) : cn J k l := by
  obtain ⟨s, hs⟩ := h
  induction s generalizing k with
  | zero =>
    have e : k = m := hs
    subst e; exact g
  | succ s ih =>
    obtain ⟨a, hj, hr⟩ := hs
    obtain ⟨t, ht⟩ := ih hr
    exact ⟨t + 1, a, hj, ht⟩
theorem cn_sym {J : Nat → Nat → Bool} {n k m : Nat} (hG : Gr J n) (h : cn J k m) : cn J m k := by
  obtain ⟨s, hs⟩ := h
  induction s generalizing k with
  | zero =>
    have e : k = m := hs
    subst e; exact cn_refl _
  | succ s ih =>
    obtain ⟨a, hj, hr⟩ := hs
    exact cn_tr (ih hr) (cn_one (by rw [hG.1]; exact hj))
theorem cn_inv {α : Type} {J : Nat → Nat → Bool} {a : Nat → α} (h : ∀ k m, J k m = true → a k = a m) {k m : Nat} (g : cn J k m) : a k = a m := by
  obtain ⟨s, hs⟩ := g
  induction s generalizing k with
  | zero =>
    have e : k = m := hs
    rw [e]
  | succ s ih =>
    obtain ⟨b, hj, hr⟩ := hs
    exact (h k b hj).trans (ih hr)
theorem cn_out {J : Nat → Nat → Bool} {k m : Nat} (g : cn J k m) : k = m ∨ ∃ l, J k l = true := by
  obtain ⟨s, hs⟩ := g
  cases s with
  | zero => exact Or.inl hs
  | succ s => obtain ⟨l, hl, -⟩ := hs; exact Or.inr ⟨l, hl⟩
theorem cn_edge {J : Nat → Nat → Bool} {F : Nat → Prop} {k m : Nat} (g : cn J k m) (hk : ¬ F k) (hm : F m) : ∃ a b, J a b = true ∧ ¬ F a ∧ F b := by
  obtain ⟨s, hs⟩ := g
  induction s generalizing k with
  | zero =>
    have e : k = m := hs
    rw [e] at hk; exact absurd hm hk
  | succ s ih =>
    obtain ⟨b, hj, hr⟩ := hs
    by_cases hb : F b
    · exact ⟨k, b, hj, hk, hb⟩
    · exact ih hb hr
noncomputable def low (J : Nat → Nat → Bool) (k : Nat) : Nat := Classical.epsilon (fun m => cn J k m ∧ ∀ l, cn J k l → m ≤ l)
theorem low_spec (J : Nat → Nat → Bool) (k : Nat) : cn J k (low J k) ∧ ∀ l, cn J k l → low J k ≤ l := Classical.epsilon_spec (p := fun m => cn J k m ∧ ∀ l, cn J k l → m ≤ l) (least_of k (cn_refl k))
theorem low_le (J : Nat → Nat → Bool) (k : Nat) : low J k ≤ k := (low_spec J k).2 k (cn_refl k)
theorem low_cn {J : Nat → Nat → Bool} {n k m : Nat} (hG : Gr J n) (h : cn J k m) : low J k = low J m := by
  have h1 := (low_spec J k).2 _ (cn_tr h (low_spec J m).1)
  have h2 := (low_spec J m).2 _ (cn_tr (cn_sym hG h) (low_spec J k).1)
  omega
theorem low_one {J : Nat → Nat → Bool} {n k m : Nat} (hG : Gr J n) (h : J k m = true) : low J k = low J m := low_cn hG (cn_one h)
theorem low_low {J : Nat → Nat → Bool} {n : Nat} (hG : Gr J n) (k : Nat) : low J (low J k) = low J k := (low_cn hG (low_spec J k).1).symm
theorem low_fix {J : Nat → Nat → Bool} {n : Nat} {L : Nat → Nat} (h1 : ∀ k, k < n → cn J k (L k)) (h2 : ∀ k, k < n → L k ≤ k) (h3 : ∀ k m, J k m = true → L k = L m) (k : Nat) (hk : k < n) : L k = low J k := by
  have g1 := (low_spec J k).2 _ (h1 k hk)
  have g2 := low_le J k
  have g3 := h2 (low J k) (by omega)
  have g4 := cn_inv h3 (low_spec J k).1
  omega
def jd (J : Nat → Nat → Bool) (k : Nat) : Prop := ∃ m, J k m = true
theorem jd_low {J : Nat → Nat → Bool} {k : Nat} (h : ¬ low J k = k) : jd J k := by
  rcases cn_out (low_spec J k).1 with e | e
  · exact absurd e.symm h
  · exact e
def isF (J : Nat → Nat → Bool) (f : Nat) : Prop := jd J f ∧ low J f = f
theorem isF_m {J : Nat → Nat → Bool} {f k : Nat} (h : isF J f) (e : low J k = f) : jd J k := by
  by_cases g : k = f
  · rw [g]; exact h.1
  · exact jd_low (by omega)
theorem jd_F {J : Nat → Nat → Bool} {n k : Nat} (hG : Gr J n) (h : jd J k) : isF J (low J k) := by
  refine ⟨?_, low_low hG k⟩
  by_cases g : low J k = k
  · rw [g]; exact h
  · rcases cn_out (cn_sym hG (low_spec J k).1) with e | e
    · exact absurd e g
    · exact e
theorem grp_fix {J : Nat → Nat → Bool} {G : Nat → Bool} {k : Nat} (h0 : G k = true) (h1 : ∀ m, G m = true → cn J k m) (h2 : ∀ m l, G m = true → J m l = true → G l = true) (m : Nat) : G m = true ↔ cn J k m := by
  refine ⟨h1 m, ?_⟩
  intro g
  obtain ⟨s, hs⟩ := g
  have : ∀ s a, G a = true → rch J s a m → G m = true := by
    intro s
    induction s with
    | zero => intro a ha e; have e : a = m := e; rw [← e]; exact ha
    | succ s ih => intro a ha e; obtain ⟨b, hb, hr⟩ := e; exact ih b (h2 a b ha hb) hr
  exact this s k h0 hs
theorem low_grp {J : Nat → Nat → Bool} {n f m : Nat} (hG : Gr J n) (hf : low J f = f) : cn J f m ↔ low J m = f := by
  constructor
  · intro h; rw [← low_cn hG h]; exact hf
  · intro h; have := (low_spec J m).1; rw [h] at this; exact cn_sym hG this
