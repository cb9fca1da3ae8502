/-! ===== tools for the pure part ===== -/
theorem itr_seq {α : Type} {f : α → Bool × α} {o : α → Prop} {S : Nat → α} {n : Nat} {r : α} (h : ∀ k, k < n → f (S k) = (true, S (k + 1)) ∧ o (S k)) (he : f (S n) = (false, r) ∧ o (S n)) : ∀ m k, k ≤ n → n - k < m → itr f m (S k) = r ∧ ito f o m (S k) := by
  intro m
  induction m with
  | zero => intro k _ h2; exact absurd h2 (Nat.not_lt_zero _)
  | succ m ih =>
    intro k hk hm
    rcases Nat.lt_or_ge k n with hl | hl
    · obtain ⟨e1, e2⟩ := h k hl
      obtain ⟨i1, i2⟩ := ih (k + 1) hl (by omega)
      refine ⟨?_, e2, fun _ => ?_⟩
      · show (if (f (S k)).1 = true then itr f m (f (S k)).2 else (f (S k)).2) = r
        rw [e1]; exact i1
      · rw [e1]; exact i2
    · have : k = n := by omega
      subst this
      obtain ⟨e1, e2⟩ := he
      refine ⟨?_, e2, fun h9 => ?_⟩
      · show (if (f (S k)).1 = true then itr f m (f (S k)).2 else (f (S k)).2) = r
        rw [e1]; rfl
      · rw [e1] at h9; exact absurd h9 Bool.false_ne_true
theorem itr_inv {α : Type} {f : α → Bool × α} {o : α → Prop} (I : α → Prop) (mu : α → Nat) (hs : ∀ v, I v → o v ∧ ((f v).1 = true → I (f v).2 ∧ mu (f v).2 < mu v)) : ∀ n v, I v → mu v < n → ito f o n v ∧ ∃ w, I w ∧ (f w).1 = false ∧ itr f n v = (f w).2 := by
  intro n
  induction n with
  | zero => intro v _ h; exact absurd h (Nat.not_lt_zero _)
  | succ n ih =>
    intro v hI hm
    obtain ⟨h1, h2⟩ := hs v hI
    cases hf : (f v).1 with
    | true =>
      obtain ⟨g1, g2⟩ := h2 hf
      obtain ⟨i1, w, i2, i3, i4⟩ := ih (f v).2 g1 (by omega)
      refine ⟨⟨h1, fun _ => i1⟩, w, i2, i3, ?_⟩
      show (if (f v).1 = true then itr f n (f v).2 else (f v).2) = _
      rw [hf]; exact i4
    | false =>
      refine ⟨⟨h1, fun h9 => by rw [hf] at h9; exact absurd h9 Bool.false_ne_true⟩, v, hI, hf, ?_⟩
      show (if (f v).1 = true then itr f n (f v).2 else (f v).2) = _
      rw [hf]; rfl
theorem req_eq (p lo hi : Int32) : f_X10_requireRange p lo hi = if lo ≤ p ∧ p ≤ hi then .ok () else .error 1 := by
  unfold f_X10_requireRange f_X10_requireRange_10
  by_cases h1 : p < lo
  · rw [if_pos h1, if_neg (fun h => by have := h.1; rw [Int32.le_iff_toInt_le] at this; rw [Int32.lt_iff_toInt_lt] at h1; omega)]
  · have h2 : lo ≤ p := by rw [Int32.le_iff_toInt_le]; rw [Int32.lt_iff_toInt_lt] at h1; omega
    rw [if_neg h1]
    by_cases h3 : p ≤ hi
    · rw [if_pos h3, if_pos ⟨h2, h3⟩]
    · rw [if_neg h3, if_neg (fun h => h3 h.2)]
theorem isIn_eq (p lo hi : Int32) : f_X11_isIn p lo hi = if lo ≤ p ∧ p ≤ hi then 1 else 0 := by
  unfold f_X11_isIn
  by_cases h1 : p < lo
  · rw [if_pos h1, if_neg (fun h => by have := h.1; rw [Int32.le_iff_toInt_le] at this; rw [Int32.lt_iff_toInt_lt] at h1; omega)]
  · have h2 : lo ≤ p := by rw [Int32.le_iff_toInt_le]; rw [Int32.lt_iff_toInt_lt] at h1; omega
    rw [if_neg h1]
    by_cases h3 : hi < p
    · rw [if_pos h3, if_neg (fun h => by have := h.2; rw [Int32.le_iff_toInt_le] at this; rw [Int32.lt_iff_toInt_lt] at h3; omega)]
    · have h4 : p ≤ hi := by rw [Int32.le_iff_toInt_le]; rw [Int32.lt_iff_toInt_lt] at h3; omega
      rw [if_neg h3, if_pos ⟨h2, h4⟩]
theorem isIn_y {p lo hi : Int32} (h : lo ≤ p ∧ p ≤ hi) : f_X11_isIn p lo hi = 1 := by rw [isIn_eq, if_pos h]
theorem isIn_n {p lo hi : Int32} (h : ¬ (lo ≤ p ∧ p ≤ hi)) : f_X11_isIn p lo hi = 0 := by rw [isIn_eq, if_neg h]
theorem req_y {p lo hi : Int32} (h : lo ≤ p ∧ p ≤ hi) : f_X10_requireRange p lo hi = .ok () := by rw [req_eq, if_pos h]
theorem req_n {p lo hi : Int32} (h : ¬ (lo ≤ p ∧ p ≤ hi)) : f_X10_requireRange p lo hi = .error 1 := by rw [req_eq, if_neg h]
theorem i_1ne0 : ¬ (1 : Int32) = 0 := by decide
/-- a place in a row, as a number -/
theorem in_nat {p : Int32} {n : Nat} (hn : n < 2 ^ 31) (h : 0 ≤ p ∧ p ≤ nI n - 1) : ∃ j : Nat, j < n ∧ p = nI j := by
  obtain ⟨h1, h2⟩ := h
  have h0 : ¬ p < 0 := by rw [Int32.lt_iff_toInt_lt]; rw [Int32.le_iff_toInt_le] at h1; omega
  obtain ⟨j, hj, rfl⟩ := nI_of h0
  cases n with
  | zero =>
    rw [Int32.le_iff_toInt_le] at h2
    rw [nI_toInt hj] at h2
    have : (nI 0 - 1).toInt = -1 := by decide
    rw [this] at h2
    omega
  | succ n =>
    rw [nI_pred] at h2
    rw [nI_leI hj (by omega)] at h2
    exact ⟨j, by omega, rfl⟩
theorem nat_in {j n : Nat} (hn : n < 2 ^ 31) (h : j < n) : 0 ≤ nI j ∧ nI j ≤ nI n - 1 := by
  refine ⟨nI_pos' (by omega), ?_⟩
  cases n with
  | zero => omega
  | succ n =>
    rw [nI_pred, nI_leI (by omega) (by omega)]
    omega
theorem in_iff {p : Int32} {n : Nat} (hn : n < 2 ^ 31) : (0 ≤ p ∧ p ≤ nI n - 1) ↔ (¬ p < 0 ∧ p < nI n) := by
  constructor
  · intro h
    obtain ⟨j, hj, rfl⟩ := in_nat hn h
    exact ⟨nI_pos (by omega), nI_lt hj hn⟩
  · intro ⟨h1, h2⟩
    obtain ⟨j, hj, rfl⟩ := nI_of h1
    rw [nI_ltI hj hn] at h2
    exact nat_in hn h2
theorem exb_i {α β : Type} (v : α) (g : α → Except Nat β) : exb (.ok v) g = g v := rfl
theorem exb_e {α β : Type} (k : Nat) (g : α → Except Nat β) : exb (.error k) g = .error k := rfl
theorem exo_i {α : Type} (v : α) (g : α → Prop) : exo (.ok v) g = g v := rfl
theorem exo_e {α : Type} (k : Nat) (g : α → Prop) : exo (.error k) g = True := rfl
