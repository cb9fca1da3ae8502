/-! ===== the law's group: what can be come to, its lowest ===== -/
def SG (μ0 μ' : MS) (n : Nat) (G : Nat → Bool) : Prop := μ'.1 0 = μ0.1 0 ∧ μ'.1 1 = μ0.1 1 ∧ (∀ i, i < n → mi μ' 3 i = if G i = true then 1 else 0) ∧ ∀ i, G i = true → i < n
def GI (μ : MS) (s : Nat → Nat → Int32) (n k : Nat) (G0 : Nat → Bool) (P : Nat → Nat → Prop) (mo jo : Int32) (μ' : MS) : Prop := ∃ (G : Nat → Bool) (j : Nat), SG μ μ' n G ∧ G k = true ∧ (∀ m, G m = true → cn (JJ s n) k m) ∧ jo = nI j ∧ j + 1 ≤ cdn G n ∧ (j = 0 → ∀ m, G m = true → m = k) ∧ (j ≠ 0 → ∃ m, m ≠ k ∧ G m = true) ∧ ((mo = 0 ∧ (∀ m, G m = G0 m) ∧ ∀ a b, P a b → G0 a = true → JJ s n a b = true → G0 b = true) ∨ (mo = 1 ∧ cdn G0 n < cdn G n))
theorem sg_at {μ0 μ' : MS} {n : Nat} {G : Nat → Bool} (h : SG μ0 μ' n G) {i : Nat} (hi : i < n) : (mi μ' 3 i = 1 ↔ G i = true) ∧ (mi μ' 3 i = 0 ↔ ¬ G i = true) := by
  rw [h.2.2.1 i hi]
  by_cases g : G i = true
  · rw [if_pos g]
    exact ⟨⟨fun _ => g, fun _ => rfl⟩, ⟨fun z => absurd z (by decide), fun z => absurd g z⟩⟩
  · rw [if_neg g]
    exact ⟨⟨fun z => absurd z (by decide), fun z => absurd z g⟩, ⟨fun _ => g, fun _ => rfl⟩⟩
theorem gi_keep {μ : MS} {s : Nat → Nat → Int32} {n k i m : Nat} {G0 : Nat → Bool} {P P' : Nat → Nat → Prop} {mo jo : Int32} {μ' : MS} (h : GI μ s n k G0 P mo jo μ') (hP : ∀ a b, a < n → b < n → P' a b → P a b ∨ (a = i ∧ b = m)) (hx : ∀ G, SG μ μ' n G → G i = true → JJ s n i m = true → G m = true) : GI μ s n k G0 P' mo jo μ' := by
  obtain ⟨G, j, h1, h2, h3, h4, h5, h6, h7, h8⟩ := h
  refine ⟨G, j, h1, h2, h3, h4, h5, h6, h7, ?_⟩
  rcases h8 with ⟨a1, a2, a3⟩ | h8
  · refine Or.inl ⟨a1, a2, fun a b hab h0 hJ => ?_⟩
    rcases hP a b ((gr_JJ s n).2 a b hJ).1 ((gr_JJ s n).2 a b hJ).2 hab with g | ⟨rfl, rfl⟩
    · exact a3 a b g h0 hJ
    · rw [← a2]
      exact hx G h1 (by rw [a2]; exact h0) hJ
  · exact Or.inr h8
theorem cdn_e9 {G H : Nat → Bool} (h : ∀ k, G k = H k) (n : Nat) : cdn G n = cdn H n := by
  have e : G = H := funext h
  rw [e]
theorem gi_add {μ : MS} {s : Nat → Nat → Int32} {n k i m : Nat} {G0 : Nat → Bool} {P P' : Nat → Nat → Prop} {mo jo : Int32} {μ' : MS} (hn : n ≤ 7) (h : GI μ s n k G0 P mo jo μ') (hm : m < n) (hi : mi μ' 3 i = 1) (hin : i < n) (h0 : mi μ' 3 m = 0) (hJ : JJ s n i m = true) : GI μ s n k G0 P' 1 (jo + 1) (mI μ' 3 m 1) := by
  obtain ⟨G, j, h1, h2, h3, h4, h5, h6, h7, h8⟩ := h
  have gi := (sg_at h1 hin).1.mp hi
  have gm := (sg_at h1 hm).2.mp h0
  have hne : m ≠ k := fun e => gm (by rw [e]; exact h2)
  have hlt : cdn G n < cdn (fun z => G z || decide (z = m)) n := cdn_lt (j := m) gm (by simp) n (fun z _ hz => by simp [hz]) hm
  refine ⟨fun z => G z || decide (z = m), j + 1, ⟨?_, ?_, fun z hz => ?_, fun z hz => ?_⟩, ?_, fun z hz => ?_, ?_, ?_, ?_, ?_, ?_⟩
  · rw [show (mI μ' 3 m 1).1 0 = μ'.1 0 from rfl]; exact h1.1
  · rw [show (mI μ' 3 m 1).1 1 = μ'.1 1 from rfl]; exact h1.2.1
  · rw [mi_at]
    by_cases e : z = m
    · rw [if_pos e, if_pos (by simp [e])]
    · rw [if_neg e, h1.2.2.1 z hz]
      simp [e]
  · have hz' : G z = true ∨ z = m := by simpa using hz
    rcases hz' with g | g
    · exact h1.2.2.2 z g
    · omega
  · simp [h2]
  · have hz' : G z = true ∨ z = m := by simpa using hz
    rcases hz' with g | g
    · exact h3 z g
    · subst g
      exact cn_tr (h3 i gi) (cn_one hJ)
  · rw [h4]; exact (nI_succ j).symm
  · omega
  · intro z; omega
  · intro _; exact ⟨m, hne, by simp⟩
  · refine Or.inr ⟨rfl, ?_⟩
    rcases h8 with ⟨a1, a2, a3⟩ | ⟨a1, a2⟩
    · rw [← cdn_e9 a2]; exact hlt
    · omega
/-- one row of the round -/
theorem wg_37 {μ : MS} {n : Nat} {s : Nat → Nat → Int32} (h : LZ μ n s) (hs : Sok s n) {k i : Nat} (hi : i < n) {G0 : Nat → Bool} {K : Int32 → Prop} {w5 w6 : Int32} {μw : MS} {x5 x6 x7 : Int32} {μx : MS} {KC KE : Int32 × Int32 × Int32 × MS → Prop} {mo jo : Int32} {μ' : MS} (hI : GI μ s n k G0 (fun a _ => a < i) mo jo μ') (hC : ∀ mo jo μ', GI μ s n k G0 (fun a _ => a < i + 1) mo jo μ' → KC (mo, jo, nI i + 1, μ')) : w_L_group_l28_37 (nI n) (nI k) K w5 w6 μw x5 x6 x7 μx KC KE mo jo (nI i) 0 μ' := by
  have hn := h.1
  refine ⟨fun M v => ∃ m, m ≤ n ∧ n + 1 ≤ M + m ∧ v.2.2.1 = nI m ∧ GI μ s n k G0 (fun a b => a < i ∨ (a = i ∧ b < m)) v.1 v.2.1 v.2.2.2, ⟨0, by omega, by omega, rfl, gi_keep (i := i) (m := i) hI (fun a b _ _ z => Or.inl (z.elim id (fun y => absurd y.2 (Nat.not_lt_zero _)))) (fun G hG g1 g2 => by rw [JJ_ir] at g2; exact absurd g2 Bool.false_ne_true)⟩, fun v hv => ?_, fun M v hv => ?_⟩
  · obtain ⟨m, h1, h2, -⟩ := hv
    omega
  · obtain ⟨mo, jo, w8, μ'⟩ := v
    obtain ⟨m, m1, m2, m3, hI⟩ := hv
    dsimp only at m3 hI ⊢
    subst m3
    have hi16 : vp_in (nI i) 16 := in_n (by omega) (by omega)
    have keep : m < n → (∀ G, SG μ μ' n G → G i = true → JJ s n i m = true → G m = true) → ∃ m', m' ≤ n ∧ n + 1 ≤ M + m' ∧ nI m + 1 = nI m' ∧ GI μ s n k G0 (fun a b => a < i ∨ (a = i ∧ b < m')) mo jo μ' := fun hm hx => ⟨m + 1, by omega, by omega, (nI_succ m).symm, gi_keep (i := i) (m := m) hI (fun a b _ _ z => by
      rcases z with z | ⟨z1, z2⟩
      · exact Or.inl (Or.inl z)
      · rcases Nat.lt_or_ge b m with g | g
        · exact Or.inl (Or.inr ⟨z1, g⟩)
        · exact Or.inr ⟨z1, by omega⟩) hx⟩
    unfold b_L_group_37
    refine oif_i (fun g => ?_) (fun g => ⟨hi16, ?_⟩)
    · have e : n ≤ m := (nI_leI (by omega) (by omega)).mp g
      refine hC _ _ _ (gi_keep (i := i) (m := i) hI (fun a b _ hb z => ?_) (fun G hG g1 g2 => by rw [JJ_ir] at g2; exact absurd g2 Bool.false_ne_true))
      by_cases ha : a < i
      · exact Or.inl (Or.inl ha)
      · rcases Nat.lt_or_ge b m with g | g
        · exact Or.inl (Or.inr ⟨by omega, g⟩)
        · exact absurd hb (by omega)
    · have hm : m < n := by
        rcases Nat.lt_or_ge m n with z | z
        · exact z
        · exact absurd (nI_le z (by omega)) g
      have hm16 : vp_in (nI m) 16 := in_n (by omega) (by omega)
      unfold w_L_group_l37_84 w_L_group_l37_78
      rw [ix_n (by omega), ix_n (by omega)]
      refine oif_i (fun gi => ⟨hm16, ?_⟩) (fun gi => keep hm (fun G hG z => absurd ((sg_at hG hi).1.mpr z) gi))
      refine oif_i (fun gm => ?_) (fun gm => keep hm (fun G hG _ _ => Decidable.byContradiction fun z => gm ((sg_at hG hm).2.mpr z)))
      have hz : LZ μ' n s := by
        obtain ⟨G, j, h1, -⟩ := hI
        exact lz_eq h h1.1 h1.2.1
      refine ⟨fun v => (v = 1 ∧ jn s i m = true) ∨ (v = 0 ∧ jn s i m = false), wjoins hz hs hi hm (fun z => Or.inl ⟨rfl, z⟩) (fun z => Or.inr ⟨rfl, z⟩), fun v hv => ?_⟩
      rcases hv with ⟨rfl, y⟩ | ⟨rfl, y⟩
      · refine oif_i (fun z => absurd z (by decide)) (fun _ => ⟨hm16, ?_⟩)
        unfold w_L_group_l37_84
        exact ⟨m + 1, by omega, by omega, (nI_succ m).symm, gi_add hn hI hm gi hi gm (by rw [JJ_jn hi hm]; exact y)⟩
      · exact oif_i (fun _ => keep hm (fun G _ _ z => by rw [JJ_jn hi hm, y] at z; exact absurd z Bool.false_ne_true)) (fun z => absurd rfl z)
/-- a round -/
theorem wg_28 {μ : MS} {n : Nat} {s : Nat → Nat → Int32} (h : LZ μ n s) (hs : Sok s n) {k : Nat} {G0 : Nat → Bool} {K : Int32 → Prop} {w5 w6 : Int32} {μw : MS} {KC KE : Int32 × Int32 × MS → Prop} {jo : Int32} {μ' : MS} (hI : GI μ s n k G0 (fun _ _ => False) 0 jo μ') (hC : ∀ mo jo μ', GI μ s n k G0 (fun _ _ => True) mo jo μ' → KC (mo, jo, μ')) : w_L_group_l17_28 (nI n) (nI k) K w5 w6 μw KC KE 0 jo 0 μ' := by
  have hn := h.1
  refine ⟨fun M v => ∃ i, i ≤ n ∧ n + 1 ≤ M + i ∧ v.2.2.1 = nI i ∧ GI μ s n k G0 (fun a _ => a < i) v.1 v.2.1 v.2.2.2, ⟨0, by omega, by omega, rfl, gi_keep (i := k) (m := k) hI (fun a b _ _ z => absurd z (Nat.not_lt_zero _)) (fun G hG g1 g2 => by rw [JJ_ir] at g2; exact absurd g2 Bool.false_ne_true)⟩, fun v hv => ?_, fun M v hv => ?_⟩
  · obtain ⟨m, h1, h2, -⟩ := hv
    omega
  · obtain ⟨mo, jo, w7, μ'⟩ := v
    obtain ⟨i, m1, m2, m3, hI⟩ := hv
    dsimp only at m3 hI ⊢
    subst m3
    unfold b_L_group_28
    refine oif_i (fun g => ?_) (fun g => ?_)
    · have e : n ≤ i := (nI_leI (by omega) (by omega)).mp g
      unfold w_L_group_l17_96
      exact hC _ _ _ (gi_keep (i := k) (m := k) hI (fun a b ha9 _ _ => by
        by_cases ha : a < i
        · exact Or.inl ha
        · exact Or.inl (by omega)) (fun G hG g1 g2 => by rw [JJ_ir] at g2; exact absurd g2 Bool.false_ne_true))
    · have hi : i < n := by
        rcases Nat.lt_or_ge i n with z | z
        · exact z
        · exact absurd (nI_le z (by omega)) g
      refine wg_37 h hs hi hI (fun mo jo μ' hI' => ?_)
      exact ⟨i + 1, by omega, by omega, (nI_succ i).symm, hI'⟩
theorem cdn_one {k : Nat} {G : Nat → Bool} (h : G k = true) : ∀ n, k < n → 1 ≤ cdn G n := fun n hk => cdn_pos h hk
/-- the whole of it -/
theorem wgroup {μ : MS} {n : Nat} {s : Nat → Nat → Int32} (h : LZ μ n s) (hs : Sok s n) {k : Nat} (hk : k < n) {K : Int32 → Prop} (h1 : jd (JJ s n) k → K (nI (low (JJ s n) k))) (h0 : ¬ jd (JJ s n) k → K (-1)) : w_L_group μ (nI n) (nI k) K := by
  have hn := h.1
  have hG := gr_JJ s n
  unfold w_L_group w_L_group_m11 w_L_group_m17
  rw [ix_n (by omega)]
  refine ⟨in_n (by omega) (by omega), ?_⟩
  refine ⟨fun N v => ∃ G, GI μ s n k G (fun _ _ => False) 0 v.2.1 v.2.2 ∧ ((v.1 = 0 ∧ 1 ≤ N ∧ ∀ a b, G a = true → JJ s n a b = true → G b = true) ∨ (v.1 = 1 ∧ n + 2 ≤ N + cdn G n)), ⟨fun z => decide (z = k), ⟨fun z => decide (z = k), 0, ⟨rfl, rfl, fun i hi => ?_, fun i hi => ?_⟩, by simp, fun m hm => ?_, rfl, ?_, fun _ m hm => ?_, fun z => absurd rfl z, Or.inl ⟨rfl, fun _ => rfl, fun a b z => z.elim⟩⟩, Or.inr ⟨rfl, ?_⟩⟩, fun v hv => ?_, fun N v hv => ?_⟩
  · rw [mi_at]
    by_cases e : i = k
    · rw [if_pos e, if_pos (by simp [e])]
    · rw [if_neg e, if_neg (by simp [e])]
      rfl
  · have : i = k := of_decide_eq_true hi
    omega
  · have : m = k := of_decide_eq_true hm
    rw [this]
    exact cn_refl k
  · exact cdn_one (G := fun z => decide (z = k)) (by simp) n hk
  · exact of_decide_eq_true hm
  · have := cdn_one (G := fun z => decide (z = k)) (k := k) (by simp) n hk
    omega
  · obtain ⟨G, -, g⟩ := hv
    have := cdn_le (G := G) n
    rcases g with g | g
    · omega
    · omega
  · obtain ⟨mo, jo, μ'⟩ := v
    obtain ⟨G, hI, g⟩ := hv
    dsimp only at hI g ⊢
    unfold b_L_group_17
    refine oif_i (fun e0 => ?_) (fun e0 => ?_)
    · subst e0
      have hcl : ∀ a b, G a = true → JJ s n a b = true → G b = true := by
        rcases g with g | g
        · exact g.2.2
        · exact absurd g.1 (by decide)
      obtain ⟨G', j, i1, i2, i3, i4, i5, i6, i7, i8⟩ := hI
      have hGG : ∀ m, G' m = G m := by
        rcases i8 with y | y
        · exact y.2.1
        · exact absurd y.1 (by decide)
      have hcl' : ∀ a b, G' a = true → JJ s n a b = true → G' b = true := fun a b y1 y2 => by
        rw [hGG] at y1 ⊢
        exact hcl a b y1 y2
      have hfix : ∀ m, G' m = true ↔ cn (JJ s n) k m := grp_fix i2 i3 hcl'
      have hlk := low_le (JJ s n) k
      have hls := low_spec (JJ s n) k
      have hlG : G' (low (JJ s n) k) = true := (hfix _).mpr hls.1
      unfold w_L_group_m99 w_L_group_m102
      refine ⟨fun M v => ∃ i, v = nI i ∧ i ≤ low (JJ s n) k ∧ 17 ≤ M + i ∧ ∀ a, a < i → ¬ G' a = true, ⟨0, rfl, by omega, by omega, fun a ha => absurd ha (Nat.not_lt_zero _)⟩, fun v hv => ?_, fun M v hv => ?_⟩
      · obtain ⟨i, -, g1, g2, -⟩ := hv
        omega
      · obtain ⟨i, rfl, g1, g2, g3⟩ := hv
        unfold b_L_group_102
        rw [ix_n (by omega)]
        refine ⟨in_n (by omega) (by omega), oif_i (fun y => ?_) (fun y => ?_)⟩
        · have gi := (sg_at i1 (by omega : i < n)).2.mp y
          refine ⟨i + 1, (nI_succ i).symm, ?_, by omega, fun a ha => ?_⟩
          · rcases Nat.lt_or_ge i (low (JJ s n) k) with z | z
            · exact z
            · have e : i = low (JJ s n) k := by omega
              rw [e] at gi
              exact absurd hlG gi
          · rcases Nat.lt_or_ge a i with z | z
            · exact g3 a z
            · have e : a = i := by omega
              rw [e]; exact gi
        · have gi : G' i = true := Decidable.byContradiction fun z => y ((sg_at i1 (by omega : i < n)).2.mpr z)
          have e : i = low (JJ s n) k := by
            have := hls.2 i ((hfix i).mp gi)
            omega
          rw [e]
          unfold w_L_group_m116
          rw [i4]
          refine oif_i (fun z => h0 ?_) (fun z => h1 ?_)
          · have hj0 : j = 0 := by
              have := cdn_le (G := G') n
              exact (nI_eq (b := 0) (by omega) (by omega)).mp z
            rintro ⟨m, hm⟩
            have hmk := i6 hj0 m (hcl' k m i2 hm)
            rw [hmk, JJ_ir] at hm
            exact absurd hm Bool.false_ne_true
          · have hj0 : j ≠ 0 := fun y0 => z (by rw [y0]; rfl)
            obtain ⟨m, m1, m2⟩ := i7 hj0
            rcases cn_out (i3 m m2) with y0 | y0
            · exact absurd y0.symm m1
            · exact y0
    · have hg : mo = 1 ∧ n + 2 ≤ N + 1 + cdn G n := by
        rcases g with g | g
        · exact absurd g.1 e0
        · exact g
      refine wg_28 h hs (G0 := G) hI (fun mo jo μ' hI' => ?_)
      obtain ⟨G', j, i1, i2, i3, i4, i5, i6, i7, i8⟩ := hI'
      have hc := cdn_le (G := G) n
      refine ⟨G', ⟨G', j, i1, i2, i3, i4, i5, i6, i7, Or.inl ⟨rfl, fun _ => rfl, fun a b z => z.elim⟩⟩, ?_⟩
      rcases i8 with ⟨y1, y2, y3⟩ | ⟨y1, y2⟩
      · refine Or.inl ⟨y1, by omega, fun a b z1 z2 => ?_⟩
        rw [y2] at z1 ⊢
        exact y3 a b trivial z1 z2
      · exact Or.inr ⟨y1, by omega⟩
