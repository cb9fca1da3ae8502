/-! ===== sums over pairs, once from the earlier, once from the later; the root ===== -/
theorem sm_ext {g : Nat → Int} {k : Nat} : ∀ n, k ≤ n → sm (fun m => if m < k then g m else 0) n = sm g k
  | 0, h => by
    have : k = 0 := by omega
    subst this
    rfl
  | n + 1, h => by
    by_cases e : k = n + 1
    · subst e
      exact sm_c (n + 1) (fun m hm => if_pos hm)
    · show sm _ n + (if n < k then g n else 0) = _
      rw [sm_ext n (by omega), if_neg (by omega), Int.add_zero]
/-- what the law adds at i, up to j -/
def lW (s : Nat → Nat → Int32) (n : Nat) (g : Nat → Nat → Int) (i j : Nat) : Int := sm (fun m => if i < m ∧ JJ s n i m = true then g i m else 0) j
theorem lW_0 (s : Nat → Nat → Int32) (n : Nat) (g : Nat → Nat → Int) (i : Nat) : lW s n g i (i + 1) = 0 := sm_0 _ (fun m hm => if_neg (fun z => by omega))
theorem lW_s (s : Nat → Nat → Int32) (n : Nat) (g : Nat → Nat → Int) (i j : Nat) : lW s n g i (j + 1) = lW s n g i j + (if i < j ∧ JJ s n i j = true then g i j else 0) := rfl
theorem lW_b {s : Nat → Nat → Int32} {n i : Nat} {g : Nat → Nat → Int} {B : Nat} (h : ∀ m, JJ s n i m = true → (g i m).natAbs ≤ B) (j : Nat) : (lW s n g i j).natAbs ≤ j * B := sm_ab j (fun m _ => by
  by_cases c : i < m ∧ JJ s n i m = true
  · rw [if_pos c]; exact h m c.2
  · rw [if_neg c]; exact Nat.zero_le _)
noncomputable def lT (s : Nat → Nat → Int32) (n f : Nat) (g : Nat → Nat → Int) (I : Nat) : Int := sm (gM s n f (fun i => lW s n g i n)) I
theorem lT_s (s : Nat → Nat → Int32) (n f : Nat) (g : Nat → Nat → Int) (I : Nat) : lT s n f g (I + 1) = lT s n f g I + gM s n f (fun i => lW s n g i n) I := rfl
theorem gM_ab {s : Nat → Nat → Int32} {n f k B : Nat} {g : Nat → Int} (h : (g k).natAbs ≤ B) : (gM s n f g k).natAbs ≤ B := by
  unfold gM
  split
  · exact h
  · exact Nat.zero_le _
theorem lT_b {s : Nat → Nat → Int32} {n f : Nat} {g : Nat → Nat → Int} {B : Nat} (h : ∀ i m, JJ s n i m = true → (g i m).natAbs ≤ B) (I : Nat) : (lT s n f g I).natAbs ≤ I * (n * B) := sm_ab I (fun i _ => gM_ab (lW_b (fun m hm => h i m hm) n))
/-- the two are the same -/
theorem lT_eq {s : Nat → Nat → Int32} {n f : Nat} {g : Nat → Nat → Int} (hg : ∀ i j, JJ s n i j = true → g i j = g j i) : lT s n f g n = sm (gM s n f (fun k => sm (fun m => if JJ s n k m = true then g k m else 0) k)) n := by
  have hG := gr_JJ s n
  have e1 : lT s n f g n = sm (fun i => sm (fun j => if low (JJ s n) i = f ∧ i < j ∧ JJ s n i j = true then g i j else 0) n) n := by
    refine sm_c n (fun i _ => ?_)
    show gM s n f (fun i => lW s n g i n) i = _
    unfold gM lW
    by_cases c : low (JJ s n) i = f
    · rw [if_pos c]
      exact sm_c n (fun j _ => by
        by_cases d : i < j ∧ JJ s n i j = true
        · rw [if_pos d, if_pos ⟨c, d⟩]
        · rw [if_neg d, if_neg (fun z => d z.2)])
    · rw [if_neg c]
      exact (sm_0 n (fun j _ => if_neg (fun z => c z.1))).symm
  have e2 : sm (gM s n f (fun k => sm (fun m => if JJ s n k m = true then g k m else 0) k)) n = sm (fun k => sm (fun m => if low (JJ s n) k = f ∧ m < k ∧ JJ s n k m = true then g k m else 0) n) n := by
    refine sm_c n (fun k hk => ?_)
    show gM s n f (fun k => sm (fun m => if JJ s n k m = true then g k m else 0) k) k = _
    unfold gM
    by_cases c : low (JJ s n) k = f
    · rw [if_pos c]
      show sm (fun m => if JJ s n k m = true then g k m else 0) k = _
      rw [← sm_ext n (Nat.le_of_lt hk)]
      exact sm_c n (fun j _ => by
        by_cases d : j < k
        · rw [if_pos d]
          by_cases d2 : JJ s n k j = true
          · rw [if_pos d2, if_pos ⟨c, d, d2⟩]
          · rw [if_neg d2, if_neg (fun z => d2 z.2.2)]
        · rw [if_neg d, if_neg (fun z => d z.2.1)])
    · rw [if_neg c]
      exact (sm_0 n (fun j _ => if_neg (fun z => c z.1))).symm
  rw [e1, e2, sm_sw (g := fun k m => if low (JJ s n) k = f ∧ m < k ∧ JJ s n k m = true then g k m else 0) n n]
  refine sm_c n (fun i _ => sm_c n (fun j _ => ?_))
  by_cases c : i < j ∧ JJ s n i j = true
  · have hl : low (JJ s n) i = low (JJ s n) j := low_one hG c.2
    have hs : JJ s n j i = true := (hG.1 j i).trans c.2
    by_cases d : low (JJ s n) i = f
    · rw [if_pos ⟨d, c⟩, if_pos ⟨hl ▸ d, c.1, hs⟩, hg i j c.2]
    · rw [if_neg (fun z => d z.1), if_neg (fun z => d (hl.trans z.1))]
  · rw [if_neg (fun z => c z.2), if_neg (fun z => c ⟨z.2.1, (hG.1 i j).trans z.2.2⟩)]
theorem lT_P {s : Nat → Nat → Int32} {n f : Nat} : lT s n f (fun _ _ => 1) n = qPr s n f n := lT_eq (fun _ _ _ => rfl)
theorem lT_X {s : Nat → Nat → Int32} {n f b : Nat} (hb : b = 5 ∨ b = 7) : lT s n f (fun i j => sX s b i j) n = qX s n b f n ∧ lT s n f (fun i j => sY s b i j) n = qY s n b f n := by
  have hB : ∀ i j, JJ s n i j = true → sB s b i j = true := fun i j h => by
    have hh := (gr_JJ s n).2 i j h
    rw [JJ_jn hh.1 hh.2] at h
    rcases hb with rfl | rfl
    · exact (jn_B h).1
    · exact (jn_B h).2
  exact ⟨lT_eq (fun i j h => (sX_sw (hB i j h)).1), lT_eq (fun i j h => (sX_sw (hB i j h)).2)⟩
theorem pw_f : ∀ t, t < 31 → (2 : Int) ^ (t + 1) = 2 * 2 ^ t ∧ (2 : Int) ^ t ≤ 1073741824 ∧ (1 : Int) ≤ 2 ^ t := by decide +kernel
/-- the root, bit by bit -/
theorem wroot {p2 p3 : Int32} {K : (Nat → Int64) → Prop} {v8 v10 a : Int64} {μ : MS} {z : Int} {m : Nat} (ha : B6 a z m) (h0 : 0 ≤ z) (h1 : z < 4611686018427387904) (hK : ∀ r : Int64, B6 r (isq z) 2147483647 → w_L_all_m382 p2 p3 K v8 v10 r μ) : w_L_all_m332 p2 p3 K v8 v10 a μ := by
  unfold w_L_all_m332 w_L_all_m340
  have z1 : (0 : Int64).toInt = 0 := by decide
  refine ⟨fun M v => ∃ r : Int, v.2.toInt = r ∧ 0 ≤ r ∧ r * r ≤ z ∧ ((M = 1 ∧ v.1.toInt = 0 ∧ r ≤ 2147483647 ∧ z < (r + 1) * (r + 1)) ∨ ∃ t, M = t + 2 ∧ t < 31 ∧ v.1.toInt = 2 ^ t ∧ r + 2 ^ (t + 1) ≤ 2147483648 ∧ z < (r + 2 ^ (t + 1)) * (r + 2 ^ (t + 1))), ⟨0, z1, by omega, by omega, Or.inr ⟨30, rfl, by omega, by decide, by decide, ?_⟩⟩, fun v hv => ?_, fun M v hv => ?_⟩
  · have e : ((0 : Int) + 2 ^ (30 + 1)) * (0 + 2 ^ (30 + 1)) = 4611686018427387904 := by decide
    rw [e]; exact h1
  · obtain ⟨r, -, -, -, g | ⟨t, g, -⟩⟩ := hv
    · omega
    · omega
  · obtain ⟨bit, root⟩ := v
    obtain ⟨r, e2, r0, r1, g⟩ := hv
    dsimp only at e2 g ⊢
    unfold b_L_all_340 w_L_all_l340_371
    rcases g with ⟨g1, g2, g4, g3⟩ | ⟨t, g1, g2, g3, g4, g5⟩
    · have hb : B6 bit 0 0 := ⟨g2, by decide⟩
      refine oif_i (fun _ => ?_) (fun y => absurd ((b6_cle hb b6_0).mpr (Int.le_refl 0)) y)
      have e := isq_eq r0 r1 g3
      exact hK root ⟨by rw [e]; exact e2, by rw [e]; omega⟩
    · obtain ⟨p1, p2', p3'⟩ := pw_f t g2
      have hb : B6 bit (2 ^ t) 1073741824 := ⟨g3, by omega⟩
      refine oif_i (fun y => ?_) (fun _ => ?_)
      · have := (b6_cle hb b6_0).mp y
        omega
      have hr : B6 root r 2147483648 := ⟨e2, by omega⟩
      have hsum : B6 (root + bit) (r + 2 ^ t) 2147483648 := ⟨(b6_add hr hb (by omega)).1, by omega⟩
      have hsq := b6_mul hsum hsum (by omega)
      have hd2 := b6_div hb (show B6 2 2 2 from ⟨by decide, by decide⟩) (by omega) (by omega) (by omega)
      have half : (bit / 2).toInt = 2 ^ t / 2 := hd2.1
      have nxt : ∀ (root' : Int64) (r' : Int), root'.toInt = r' → 0 ≤ r' → r' * r' ≤ z → r' + 2 ^ t ≤ 2147483648 → z < (r' + 2 ^ t) * (r' + 2 ^ t) → ∃ r : Int, root'.toInt = r ∧ 0 ≤ r ∧ r * r ≤ z ∧ ((M = 1 ∧ (bit / 2).toInt = 0 ∧ r ≤ 2147483647 ∧ z < (r + 1) * (r + 1)) ∨ ∃ t, M = t + 2 ∧ t < 31 ∧ (bit / 2).toInt = 2 ^ t ∧ r + 2 ^ (t + 1) ≤ 2147483648 ∧ z < (r + 2 ^ (t + 1)) * (r + 2 ^ (t + 1))) := by
        intro root' r' q1 q2 q3 q4 q5
        refine ⟨r', q1, q2, q3, ?_⟩
        cases t with
        | zero =>
          have e : (2 : Int) ^ 0 = 1 := rfl
          rw [e] at q4 q5 half
          exact Or.inl ⟨by omega, by rw [half]; decide, by omega, q5⟩
        | succ t =>
          obtain ⟨w1, w2, w3⟩ := pw_f t (by omega)
          refine Or.inr ⟨t, by omega, by omega, ?_, q4, q5⟩
          rw [half, w1]
          omega
      refine oif_i (fun y => ?_) (fun y => ?_)
      · have y1 := (b6_gt hsq ha).mp y
        exact nxt root r e2 r0 r1 (by omega) y1
      · have y1 : (r + 2 ^ t) * (r + 2 ^ t) ≤ z := by
          rcases Int.lt_or_le z ((r + 2 ^ t) * (r + 2 ^ t)) with y2 | y2
          · exact absurd ((b6_gt hsq ha).mpr y2) y
          · exact y2
        refine nxt (root + bit) (r + 2 ^ t) hsum.1 (by omega) y1 (by omega) ?_
        have e : r + 2 ^ t + 2 ^ t = r + 2 ^ (t + 1) := by omega
        rw [e]; exact g5
