/-! ===== a fireball's sums ===== -/
noncomputable def gM (s : Nat → Nat → Int32) (n f : Nat) (g : Nat → Int) (k : Nat) : Int := if low (JJ s n) k = f then g k else 0
def pP (s : Nat → Nat → Int32) (n k j : Nat) : Int := sm (fun m => if JJ s n k m = true then 1 else 0) j
def pX (s : Nat → Nat → Int32) (n b k j : Nat) : Int := sm (fun m => if JJ s n k m = true then sX s b k m else 0) j
def pY (s : Nat → Nat → Int32) (n b k j : Nat) : Int := sm (fun m => if JJ s n k m = true then sY s b k m else 0) j
noncomputable def qMan (s : Nat → Nat → Int32) (n f i : Nat) : Int := sm (gM s n f (fun _ => 1)) i
noncomputable def qLen (s : Nat → Nat → Int32) (n f i : Nat) : Int := sm (gM s n f (fun k => vv s k 3)) i
noncomputable def qByl (s : Nat → Nat → Int32) (n f i : Nat) : Int := sm (gM s n f (fun k => vv s k 4 * vv s k 3)) i
noncomputable def qBri (s : Nat → Nat → Int32) (n f i : Nat) : Int := mxx (gM s n f (fun k => vv s k 4)) i
noncomputable def qPr (s : Nat → Nat → Int32) (n f i : Nat) : Int := sm (gM s n f (fun k => pP s n k k)) i
noncomputable def qX (s : Nat → Nat → Int32) (n b f i : Nat) : Int := sm (gM s n f (fun k => pX s n b k k)) i
noncomputable def qY (s : Nat → Nat → Int32) (n b f i : Nat) : Int := sm (gM s n f (fun k => pY s n b k k)) i
theorem gM_y {s : Nat → Nat → Int32} {n f k : Nat} {g : Nat → Int} (h : low (JJ s n) k = f) : gM s n f g k = g k := if_pos h
theorem gM_n {s : Nat → Nat → Int32} {n f k : Nat} {g : Nat → Int} (h : ¬ low (JJ s n) k = f) : gM s n f g k = 0 := if_neg h
theorem gM_b {s : Nat → Nat → Int32} {n f k : Nat} {g : Nat → Int} {lo hi : Int} (h0 : lo ≤ 0) (h1 : 0 ≤ hi) (h : lo ≤ g k ∧ g k ≤ hi) : lo ≤ gM s n f g k ∧ gM s n f g k ≤ hi := by
  unfold gM
  split
  · exact h
  · exact ⟨h0, h1⟩
theorem mul_b {a b A B : Int} (h1 : 0 ≤ a) (h2 : a ≤ A) (h3 : 0 ≤ b) (h4 : b ≤ B) : 0 ≤ a * b ∧ a * b ≤ A * B := ⟨Int.mul_nonneg h1 h3, Int.mul_le_mul h2 h4 h3 (by omega)⟩
theorem qMan_b {s : Nat → Nat → Int32} {n f i : Nat} (hi : i ≤ 60) : 0 ≤ qMan s n f i ∧ qMan s n f i ≤ 60 := by
  have h1 : ∀ k, 0 ≤ gM s n f (fun _ => 1) k ∧ gM s n f (fun _ => 1) k ≤ 1 := fun k => gM_b (by omega) (by omega) ⟨by omega, by omega⟩
  have h2 := sm_nn (g := gM s n f (fun _ => 1)) i (fun k _ => (h1 k).1)
  have h3 := sm_ab (g := gM s n f (fun _ => 1)) (B := 1) i (fun k _ => by have := h1 k; omega)
  unfold qMan
  omega
theorem qLen_b {s : Nat → Nat → Int32} {n f i : Nat} (hs : Sok s n) (hn : n ≤ 60) (hi : i ≤ n) : 0 ≤ qLen s n f i ∧ qLen s n f i ≤ 3600 := by
  have h1 : ∀ k, k < i → 0 ≤ gM s n f (fun k => vv s k 3) k ∧ gM s n f (fun k => vv s k 3) k ≤ 60 := fun k hk => gM_b (by omega) (by omega) (by have := (hs k (by omega)).2.2.1; omega)
  have h2 := sm_nn (g := gM s n f (fun k => vv s k 3)) i (fun k hk => (h1 k hk).1)
  have h3 := sm_ab (g := gM s n f (fun k => vv s k 3)) (B := 60) i (fun k hk => by have := h1 k hk; omega)
  unfold qLen
  omega
theorem lb_b {s : Nat → Nat → Int32} {n k : Nat} (hs : Sok s n) (hk : k < n) : 0 ≤ vv s k 4 * vv s k 3 ∧ vv s k 4 * vv s k 3 ≤ 60000 := by
  obtain ⟨-, -, a3, a4, -⟩ := hs k hk
  exact mul_b (A := 1000) (B := 60) (by omega) (by omega) (by omega) (by omega)
theorem qByl_b {s : Nat → Nat → Int32} {n f i : Nat} (hs : Sok s n) (hn : n ≤ 60) (hi : i ≤ n) : 0 ≤ qByl s n f i ∧ qByl s n f i ≤ 3600000 := by
  have h1 : ∀ k, k < i → 0 ≤ gM s n f (fun k => vv s k 4 * vv s k 3) k ∧ gM s n f (fun k => vv s k 4 * vv s k 3) k ≤ 60000 := fun k hk => gM_b (by omega) (by omega) (lb_b hs (by omega))
  have h2 := sm_nn (g := gM s n f (fun k => vv s k 4 * vv s k 3)) i (fun k hk => (h1 k hk).1)
  have h3 := sm_ab (g := gM s n f (fun k => vv s k 4 * vv s k 3)) (B := 60000) i (fun k hk => by have := h1 k hk; omega)
  unfold qByl
  omega
theorem qBri_b {s : Nat → Nat → Int32} {n f i : Nat} (hs : Sok s n) (hi : i ≤ n) : 0 ≤ qBri s n f i ∧ qBri s n f i ≤ 1000 := by
  have h1 : ∀ k, k < i → 0 ≤ gM s n f (fun k => vv s k 4) k ∧ gM s n f (fun k => vv s k 4) k ≤ 1000 := fun k hk => gM_b (by omega) (by omega) (by have := (hs k (by omega)).2.2.2.1; omega)
  exact ⟨mxx_nn i, mxx_le (by omega) i (fun k hk => (h1 k hk).2)⟩
theorem pP_b {s : Nat → Nat → Int32} {n k j : Nat} (hj : j ≤ 60) : 0 ≤ pP s n k j ∧ pP s n k j ≤ 60 := by
  have h1 : ∀ m, 0 ≤ (if JJ s n k m = true then (1 : Int) else 0) ∧ (if JJ s n k m = true then (1 : Int) else 0) ≤ 1 := fun m => by split <;> omega
  have h2 := sm_nn (g := fun m => if JJ s n k m = true then (1 : Int) else 0) j (fun m _ => (h1 m).1)
  have h3 := sm_ab (g := fun m => if JJ s n k m = true then (1 : Int) else 0) (B := 1) j (fun m _ => by have := h1 m; show (if JJ s n k m = true then (1 : Int) else 0).natAbs ≤ 1; omega)
  unfold pP
  omega
theorem pX_b {s : Nat → Nat → Int32} {n b k j : Nat} (hs : Sok s n) (hn : n ≤ 60) (hk : k < n) (hj : j ≤ k) (hb : b = 5 ∨ b = 7) : (pX s n b k j).natAbs ≤ 11880594000 ∧ (pY s n b k j).natAbs ≤ 11880594000 := by
  have hB : ∀ m, m < k → JJ s n k m = true → sB s b k m = true := by
    intro m hm h
    rw [JJ_gt hm hk] at h
    rcases hb with rfl | rfl
    · exact (jn_B h).1
    · exact (jn_B h).2
  have h1 : ∀ m, m < j → (if JJ s n k m = true then sX s b k m else 0).natAbs ≤ 198009900 := fun m hm => by
    split
    · rename_i c; exact (sX_ab hs hk (by omega) hb (hB m (by omega) c)).1
    · omega
  have h2 : ∀ m, m < j → (if JJ s n k m = true then sY s b k m else 0).natAbs ≤ 198009900 := fun m hm => by
    split
    · rename_i c; exact (sX_ab hs hk (by omega) hb (hB m (by omega) c)).2
    · omega
  have h3 := sm_ab (g := fun m => if JJ s n k m = true then sX s b k m else 0) (B := 198009900) j h1
  have h4 := sm_ab (g := fun m => if JJ s n k m = true then sY s b k m else 0) (B := 198009900) j h2
  have h5 : j * 198009900 ≤ 60 * 198009900 := Nat.mul_le_mul (by omega) (Nat.le_refl _)
  unfold pX pY
  omega
theorem qPr_b {s : Nat → Nat → Int32} {n f i : Nat} (hn : n ≤ 60) (hi : i ≤ n) : 0 ≤ qPr s n f i ∧ qPr s n f i ≤ 3600 := by
  have h1 : ∀ k, k < i → 0 ≤ gM s n f (fun k => pP s n k k) k ∧ gM s n f (fun k => pP s n k k) k ≤ 60 := fun k hk => gM_b (by omega) (by omega) (pP_b (by omega))
  have h2 := sm_nn (g := gM s n f (fun k => pP s n k k)) i (fun k hk => (h1 k hk).1)
  have h3 := sm_ab (g := gM s n f (fun k => pP s n k k)) (B := 60) i (fun k hk => by have := h1 k hk; omega)
  unfold qPr
  omega
theorem qX_b {s : Nat → Nat → Int32} {n b f i : Nat} (hs : Sok s n) (hn : n ≤ 60) (hi : i ≤ n) (hb : b = 5 ∨ b = 7) : (qX s n b f i).natAbs ≤ 712835640000 ∧ (qY s n b f i).natAbs ≤ 712835640000 := by
  have h1 : ∀ k, k < i → (gM s n f (fun k => pX s n b k k) k).natAbs ≤ 11880594000 := fun k hk => by
    have := (pX_b (s := s) (n := n) (b := b) (k := k) (j := k) hs hn (by omega) (Nat.le_refl _) hb).1
    unfold gM; split <;> omega
  have h2 : ∀ k, k < i → (gM s n f (fun k => pY s n b k k) k).natAbs ≤ 11880594000 := fun k hk => by
    have := (pX_b (s := s) (n := n) (b := b) (k := k) (j := k) hs hn (by omega) (Nat.le_refl _) hb).2
    unfold gM; split <;> omega
  have h3 := sm_ab (g := gM s n f (fun k => pX s n b k k)) (B := 11880594000) i h1
  have h4 := sm_ab (g := gM s n f (fun k => pY s n b k k)) (B := 11880594000) i h2
  have h5 : i * 11880594000 ≤ 60 * 11880594000 := Nat.mul_le_mul (by omega) (Nat.le_refl _)
  unfold qX qY
  omega
/-! what is told of it -/
noncomputable def zFx (s : Nat → Nat → Int32) (n f : Nat) : Int := qX s n 5 f n / qPr s n f n
noncomputable def zFy (s : Nat → Nat → Int32) (n f : Nat) : Int := qY s n 5 f n / qPr s n f n
noncomputable def zTx (s : Nat → Nat → Int32) (n f : Nat) : Int := qX s n 7 f n / qPr s n f n
noncomputable def zTy (s : Nat → Nat → Int32) (n f : Nat) : Int := qY s n 7 f n / qPr s n f n
noncomputable def zSq (s : Nat → Nat → Int32) (n f : Nat) : Int := (zTx s n f - zFx s n f) * (zTx s n f - zFx s n f) + (zTy s n f - zFy s n f) * (zTy s n f - zFy s n f)
noncomputable def zSp (s : Nat → Nat → Int32) (n f : Nat) : Int := (10 * isq (zSq s n f)) * qMan s n f n / qLen s n f n
noncomputable def zBl (s : Nat → Nat → Int32) (n f : Nat) : Int := qByl s n f n / qMan s n f n
noncomputable def zMs (s : Nat → Nat → Int32) (n f : Nat) : Int := (1000 * qBri s n f n) / (zSp s n f + 1)
/-- the means of pairs are no farther than the places -/
theorem mean_b {a p : Int} {B : Nat} (hp : 0 < p) (h : a.natAbs ≤ p.toNat * B) : (a / p).natAbs ≤ B := by
  have h1 : -((B : Int)) * p ≤ a ∧ a ≤ (B : Int) * p := by
    have e : ((p.toNat * B : Nat) : Int) = (B : Int) * p := by
      rw [Int.natCast_mul, Int.toNat_of_nonneg (by omega), Int.mul_comm]
    rw [Int.neg_mul]
    omega
  have h2 : -(B : Int) ≤ a / p := (Int.le_ediv_iff_mul_le hp).mpr h1.1
  have h3 : a / p < (B : Int) + 1 := Int.ediv_lt_of_lt_mul hp (by rw [Int.add_mul, Int.one_mul]; omega)
  omega
theorem sm_pr {g c : Nat → Int} {B : Nat} : ∀ n, (∀ k, k < n → 0 ≤ c k ∧ (g k).natAbs ≤ (c k).toNat * B) → (sm g n).natAbs ≤ (sm c n).toNat * B
  | 0, _ => by simp [sm]
  | n + 1, e => by
    have h1 := sm_pr n (fun k hk => e k (by omega))
    have h2 := e n (by omega)
    have h3 := sm_nn (g := c) n (fun k hk => (e k (by omega)).1)
    show (sm g n + g n).natAbs ≤ (sm c n + c n).toNat * B
    rw [Int.toNat_add h3 h2.1, Nat.add_mul]
    omega
theorem pX_pr {s : Nat → Nat → Int32} {n b k j : Nat} (hs : Sok s n) (hk : k < n) (hj : j ≤ k) (hb : b = 5 ∨ b = 7) : (pX s n b k j).natAbs ≤ (pP s n k j).toNat * 198009900 ∧ (pY s n b k j).natAbs ≤ (pP s n k j).toNat * 198009900 := by
  have hB : ∀ m, m < k → JJ s n k m = true → sB s b k m = true := by
    intro m hm h
    rw [JJ_gt hm hk] at h
    rcases hb with rfl | rfl
    · exact (jn_B h).1
    · exact (jn_B h).2
  constructor
  · refine sm_pr j (fun m hm => ?_)
    show 0 ≤ (if JJ s n k m = true then (1 : Int) else 0) ∧ (if JJ s n k m = true then sX s b k m else 0).natAbs ≤ (if JJ s n k m = true then (1 : Int) else 0).toNat * 198009900
    by_cases c : JJ s n k m = true
    · rw [if_pos c, if_pos c]
      have := (sX_ab hs hk (by omega) hb (hB m (by omega) c)).1
      exact ⟨by decide, by rw [show Int.toNat 1 = 1 from rfl, Nat.one_mul]; exact this⟩
    · rw [if_neg c, if_neg c]
      exact ⟨by omega, by omega⟩
  · refine sm_pr j (fun m hm => ?_)
    show 0 ≤ (if JJ s n k m = true then (1 : Int) else 0) ∧ (if JJ s n k m = true then sY s b k m else 0).natAbs ≤ (if JJ s n k m = true then (1 : Int) else 0).toNat * 198009900
    by_cases c : JJ s n k m = true
    · rw [if_pos c, if_pos c]
      have := (sX_ab hs hk (by omega) hb (hB m (by omega) c)).2
      exact ⟨by decide, by rw [show Int.toNat 1 = 1 from rfl, Nat.one_mul]; exact this⟩
    · rw [if_neg c, if_neg c]
      exact ⟨by omega, by omega⟩
theorem gM_pr {s : Nat → Nat → Int32} {n f k : Nat} {g c : Nat → Int} {B : Nat} (h0 : 0 ≤ c k) (h : (g k).natAbs ≤ (c k).toNat * B) : 0 ≤ gM s n f c k ∧ (gM s n f g k).natAbs ≤ (gM s n f c k).toNat * B := by
  unfold gM
  by_cases e : low (JJ s n) k = f
  · rw [if_pos e, if_pos e]; exact ⟨h0, h⟩
  · rw [if_neg e, if_neg e]; exact ⟨by omega, by omega⟩
theorem qX_pr {s : Nat → Nat → Int32} {n b f : Nat} (hs : Sok s n) (hn : n ≤ 60) (hb : b = 5 ∨ b = 7) : (qX s n b f n).natAbs ≤ (qPr s n f n).toNat * 198009900 ∧ (qY s n b f n).natAbs ≤ (qPr s n f n).toNat * 198009900 :=
  ⟨sm_pr n (fun k hk => gM_pr (g := fun k => pX s n b k k) (c := fun k => pP s n k k) (pP_b (by omega)).1 (pX_pr hs hk (Nat.le_refl _) hb).1), sm_pr n (fun k hk => gM_pr (g := fun k => pY s n b k k) (c := fun k => pP s n k k) (pP_b (by omega)).1 (pX_pr hs hk (Nat.le_refl _) hb).2)⟩
/-- where it is a fireball, there is something to divide by -/
theorem z_p1 {s : Nat → Nat → Int32} {n f : Nat} (h1 : f < n) (hl : low (JJ s n) f = f) : 1 ≤ qMan s n f n := by
  have h2 := sm_one (g := gM s n f (fun _ => 1)) (j := f) n (fun k _ => (gM_b (lo := 0) (hi := 1) (by omega) (by omega) ⟨by omega, by omega⟩).1) h1
  have h3 : gM s n f (fun _ => 1) f = 1 := gM_y hl
  rw [h3] at h2
  exact h2
theorem z_p2 {s : Nat → Nat → Int32} {n f : Nat} (hs : Sok s n) (h1 : f < n) (hl : low (JJ s n) f = f) : 1 ≤ qLen s n f n := by
  have h2 := sm_one (g := gM s n f (fun k => vv s k 3)) (j := f) n (fun k hk => (gM_b (lo := 0) (hi := 60) (by omega) (by omega) (by have := (hs k hk).2.2.1; omega)).1) h1
  have h3 : gM s n f (fun k => vv s k 3) f = vv s f 3 := gM_y hl
  rw [h3] at h2
  have h4 := (hs f h1).2.2.1
  exact Int.le_trans h4.1 h2
theorem z_p3 {s : Nat → Nat → Int32} {n f a b : Nat} (hn : n ≤ 60) (hb : b < a) (ha : a < n) (hla : low (JJ s n) a = f) (hJ : JJ s n a b = true) : 1 ≤ qPr s n f n := by
  have hnn : ∀ k, k < n → 0 ≤ gM s n f (fun k => pP s n k k) k := by
    intro k hk
    by_cases e : low (JJ s n) k = f
    · rw [gM_y e]; exact (pP_b (s := s) (n := n) (k := k) (j := k) (by omega)).1
    · rw [gM_n e]; exact Int.le_refl 0
  have hn1 : ∀ k, k < a → 0 ≤ (fun m => if JJ s n a m = true then (1 : Int) else 0) k := by
    intro k _
    by_cases e : JJ s n a k = true
    · exact Int.le_of_lt (by show 0 < (if JJ s n a k = true then (1 : Int) else 0); rw [if_pos e]; omega)
    · show 0 ≤ (if JJ s n a k = true then (1 : Int) else 0)
      rw [if_neg e]; exact Int.le_refl 0
  have g2 := sm_one (g := fun m => if JJ s n a m = true then (1 : Int) else 0) (j := b) a hn1 hb
  have g5 : 1 ≤ pP s n a a := Int.le_trans (Int.le_of_eq (if_pos hJ).symm) g2
  have g1 := sm_one (g := gM s n f (fun k => pP s n k k)) (j := a) n hnn ha
  rw [gM_y hla] at g1
  exact Int.le_trans g5 g1
theorem z_pos {s : Nat → Nat → Int32} {n f : Nat} (hs : Sok s n) (hn : n ≤ 60) (hf : isF (JJ s n) f) : f < n ∧ 1 ≤ qMan s n f n ∧ 1 ≤ qLen s n f n ∧ 1 ≤ qPr s n f n := by
  have hG := gr_JJ s n
  obtain ⟨⟨m, hm⟩, hl⟩ := hf
  obtain ⟨h1, h2⟩ := hG.2 f m hm
  have hlm : low (JJ s n) m = f := (low_one hG hm).symm.trans hl
  refine ⟨h1, z_p1 h1 hl, z_p2 hs h1 hl, ?_⟩
  rcases Nat.lt_trichotomy f m with c | c | c
  · exact z_p3 hn c h2 hlm ((hG.1 m f).trans hm)
  · rw [← c, JJ_ir] at hm; exact absurd hm Bool.false_ne_true
  · exact z_p3 hn c h1 hl hm
/-- how large it may be -/
theorem z_b {s : Nat → Nat → Int32} {n f : Nat} (hs : Sok s n) (hn : n ≤ 60) (hf : isF (JJ s n) f) : (zFx s n f).natAbs ≤ 198009900 ∧ (zFy s n f).natAbs ≤ 198009900 ∧ (zTx s n f).natAbs ≤ 198009900 ∧ (zTy s n f).natAbs ≤ 198009900 ∧ 0 ≤ zSq s n f ∧ zSq s n f ≤ 313663364715360000 := by
  obtain ⟨-, -, -, hp⟩ := z_pos hs hn hf
  have a1 := mean_b (p := qPr s n f n) (by omega) (qX_pr (f := f) hs hn (Or.inl rfl)).1
  have a2 := mean_b (p := qPr s n f n) (by omega) (qX_pr (f := f) hs hn (Or.inl rfl)).2
  have a3 := mean_b (p := qPr s n f n) (by omega) (qX_pr (f := f) hs hn (Or.inr rfl)).1
  have a4 := mean_b (p := qPr s n f n) (by omega) (qX_pr (f := f) hs hn (Or.inr rfl)).2
  have sq : ∀ d : Int, d.natAbs ≤ 396019800 → 0 ≤ d * d ∧ d * d ≤ 156831682357680000 := by
    intro d hd
    have h1 : (d * d).natAbs ≤ 396019800 * 396019800 := by rw [Int.natAbs_mul]; exact Nat.mul_le_mul hd hd
    have h2 := Int.natAbs_mul_self (a := d)
    omega
  have s1 := sq (zTx s n f - zFx s n f) (by unfold zTx zFx; omega)
  have s2 := sq (zTy s n f - zFy s n f) (by unfold zTy zFy; omega)
  refine ⟨a1, a2, a3, a4, ?_, ?_⟩ <;> (unfold zSq; omega)
