/-! ===== the reference measures a fireball ===== -/
def MS1 (μ : MS) (n : Nat) (s : Nat → Nat → Int32) : Prop := MX μ n s ∧ ∀ k, k < n → mi μ 23 k = nI (low (JJ s n) k) ∧ (mi μ 24 k = 0 ↔ ¬ jd (JJ s n) k)
def MF (μ μ' : MS) : Prop := ∀ a, a ≠ 32 → a ≠ 34 → μ'.1 a = μ.1 a
theorem mf_refl (μ : MS) : MF μ μ := fun _ _ _ => rfl
theorem mf_tr {a b c : MS} (h : MF a b) (g : MF b c) : MF a c := fun k h1 h2 => (g k h1 h2).trans (h k h1 h2)
theorem mf_1 {a b : MS} (h : b.1 = a.1) : MF a b := fun k _ _ => by rw [h]
theorem fr_mf {a b : MS} (h : MF a b) : Fr a b := fun k _ _ _ h4 h5 => h k h4 h5
theorem ms_mf {μ μ' : MS} {n : Nat} {s : Nat → Nat → Int32} (h : MS1 μ n s) (g : MF μ μ') : MS1 μ' n s := by
  refine ⟨mx_f h.1 (fr_mf g), fun k hk => ?_⟩
  have e1 : mi μ' 23 k = mi μ 23 k := by show μ'.1 23 k = μ.1 23 k; rw [g 23 (by decide) (by decide)]
  have e2 : mi μ' 24 k = mi μ 24 k := by show μ'.1 24 k = μ.1 24 k; rw [g 24 (by decide) (by decide)]
  rw [e1, e2]
  exact h.2 k hk
/-- ints the same, longs too but 25 .. 30 -/
def LM (μ μ' : MS) : Prop := μ'.1 = μ.1 ∧ ∀ a, a < 25 ∨ 30 < a → μ'.2 a = μ.2 a
theorem lm_refl (μ : MS) : LM μ μ := ⟨rfl, fun _ _ => rfl⟩
theorem lm_tr {a b c : MS} (h : LM a b) (g : LM b c) : LM a c := ⟨g.1.trans h.1, fun k h1 => (g.2 k h1).trans (h.2 k h1)⟩
theorem lm_pl {a b : MS} (h : PL a b) : LM a b := ⟨h.1, fun k h1 => h.2 k (by omega) (by omega)⟩
theorem mL_ne {μ : MS} {k i a : Nat} {v : Int64} (h : a ≠ k) : (mL μ k i v).2 a = μ.2 a := by
  funext j
  show up2 μ.2 k i v a j = _
  rw [up2_at, if_neg h]
theorem ml_ne {μ : MS} {k i a j : Nat} {v : Int64} (h : a ≠ k) : ml (mL μ k i v) a j = ml μ a j := by
  show (mL μ k i v).2 a j = μ.2 a j
  rw [mL_ne h]
theorem ml_at (μ : MS) (k i : Nat) (v : Int64) (j : Nat) : ml (mL μ k i v) k j = if j = i then v else ml μ k j := by
  show up2 μ.2 k i v k j = _
  rw [up2_at, if_pos rfl]; rfl
theorem lm_L {μ : MS} {k : Nat} {v : Int64} (h : 25 ≤ k ∧ k ≤ 30) : LM μ (mL μ k 0 v) := ⟨rfl, fun a h1 => mL_ne (by omega)⟩
theorem pl_ml {a b : MS} (h : PL a b) (k i : Nat) (h1 : k ≠ 25) (h2 : k ≠ 26) : ml b k i = ml a k i := by
  show b.2 k i = a.2 k i
  rw [h.2 k h1 h2]
theorem mcross {μ : MS} {n : Nat} {s : Nat → Nat → Int32} (h : MX μ n s) (hs : Sok s n) {k m : Nat} (hk : k < n) (hm : m < n) (s5 : sB s 5 k m = true) (s7 : sB s 7 k m = true) : ∃ μ2 μ4, f_X11_beginsCross μ (nI k) (nI m) = (1, μ2) ∧ of_X11_beginsCross μ (nI k) (nI m) ∧ f_X11_endsCross (mL (mL μ2 27 0 ((ml μ2 27 0) + (ml μ2 25 0))) 28 0 ((ml μ2 28 0) + (ml μ2 26 0))) (nI k) (nI m) = (1, μ4) ∧ of_X11_endsCross (mL (mL μ2 27 0 ((ml μ2 27 0) + (ml μ2 25 0))) 28 0 ((ml μ2 28 0) + (ml μ2 26 0))) (nI k) (nI m) ∧ LM μ μ4 ∧ ml μ4 25 0 = Int64.ofInt (sX s 7 k m) ∧ ml μ4 26 0 = Int64.ofInt (sY s 7 k m) ∧ ml μ4 27 0 = ml μ 27 0 + Int64.ofInt (sX s 5 k m) ∧ ml μ4 28 0 = ml μ 28 0 + Int64.ofInt (sY s 5 k m) ∧ ml μ4 29 0 = ml μ 29 0 ∧ ml μ4 30 0 = ml μ 30 0 := by
  obtain ⟨g1, g2⟩ := begins_i h hs hk hm
  rw [if_pos s5] at g1
  have hpl : PL μ (mL (mL μ 25 0 (Int64.ofInt (sX s 5 k m))) 26 0 (Int64.ofInt (sY s 5 k m))) := bcr_pl (μ := μ) (b := true) (a := Int64.ofInt (sX s 5 k m)) (c := Int64.ofInt (sY s 5 k m))
  have y1 : ml (mL (mL μ 25 0 (Int64.ofInt (sX s 5 k m))) 26 0 (Int64.ofInt (sY s 5 k m))) 25 0 = Int64.ofInt (sX s 5 k m) := by rw [ml_ne (by decide), ml_at, if_pos rfl]
  have y2 : ml (mL (mL μ 25 0 (Int64.ofInt (sX s 5 k m))) 26 0 (Int64.ofInt (sY s 5 k m))) 26 0 = Int64.ofInt (sY s 5 k m) := by rw [ml_at, if_pos rfl]
  obtain ⟨μ2, e2⟩ : ∃ t, mL (mL μ 25 0 (Int64.ofInt (sX s 5 k m))) 26 0 (Int64.ofInt (sY s 5 k m)) = t := ⟨_, rfl⟩
  rw [e2] at g1 hpl y1 y2
  have hM3 : MX (mL (mL μ2 27 0 ((ml μ2 27 0) + (ml μ2 25 0))) 28 0 ((ml μ2 28 0) + (ml μ2 26 0))) n s := mx_1 h (by show μ2.1 = μ.1; exact hpl.1)
  have w1 : ml (mL (mL μ2 27 0 ((ml μ2 27 0) + (ml μ2 25 0))) 28 0 ((ml μ2 28 0) + (ml μ2 26 0))) 27 0 = ml μ 27 0 + Int64.ofInt (sX s 5 k m) := by rw [ml_ne (by decide), ml_at, if_pos rfl, y1, pl_ml hpl _ _ (by decide) (by decide)]
  have w2 : ml (mL (mL μ2 27 0 ((ml μ2 27 0) + (ml μ2 25 0))) 28 0 ((ml μ2 28 0) + (ml μ2 26 0))) 28 0 = ml μ 28 0 + Int64.ofInt (sY s 5 k m) := by rw [ml_at, if_pos rfl, y2, pl_ml hpl _ _ (by decide) (by decide)]
  have w3 : ml (mL (mL μ2 27 0 ((ml μ2 27 0) + (ml μ2 25 0))) 28 0 ((ml μ2 28 0) + (ml μ2 26 0))) 29 0 = ml μ 29 0 := by rw [ml_ne (by decide), ml_ne (by decide), pl_ml hpl _ _ (by decide) (by decide)]
  have w4 : ml (mL (mL μ2 27 0 ((ml μ2 27 0) + (ml μ2 25 0))) 28 0 ((ml μ2 28 0) + (ml μ2 26 0))) 30 0 = ml μ 30 0 := by rw [ml_ne (by decide), ml_ne (by decide), pl_ml hpl _ _ (by decide) (by decide)]
  have hlm : LM μ (mL (mL μ2 27 0 ((ml μ2 27 0) + (ml μ2 25 0))) 28 0 ((ml μ2 28 0) + (ml μ2 26 0))) := lm_tr (lm_pl hpl) (lm_tr (lm_L (by omega)) (lm_L (by omega)))
  obtain ⟨g3, g4⟩ := ends_i hM3 hs hk hm
  rw [if_pos s7] at g3
  refine ⟨μ2, _, g1, g2, g3, g4, lm_tr hlm (lm_pl (bcr_pl (μ := mL (mL μ2 27 0 ((ml μ2 27 0) + (ml μ2 25 0))) 28 0 ((ml μ2 28 0) + (ml μ2 26 0))) (b := true) (a := Int64.ofInt (sX s 7 k m)) (c := Int64.ofInt (sY s 7 k m)))), ?_, ?_, ?_, ?_, ?_, ?_⟩
  · rw [ml_ne (by decide), ml_at, if_pos rfl]
  · rw [ml_at, if_pos rfl]
  · rw [ml_ne (by decide), ml_ne (by decide)]; exact w1
  · rw [ml_ne (by decide), ml_ne (by decide)]; exact w2
  · rw [ml_ne (by decide), ml_ne (by decide)]; exact w3
  · rw [ml_ne (by decide), ml_ne (by decide)]; exact w4
/-- the sums while row k's first j are added -/
def RM (s : Nat → Nat → Int32) (n k j : Nat) (p0 : Int64) (μ0 : MS) (p : Int64) (μ : MS) : Prop := p.toInt = p0.toInt + pP s n k j ∧ (ml μ 27 0).toInt = (ml μ0 27 0).toInt + pX s n 5 k j ∧ (ml μ 28 0).toInt = (ml μ0 28 0).toInt + pY s n 5 k j ∧ (ml μ 29 0).toInt = (ml μ0 29 0).toInt + pX s n 7 k j ∧ (ml μ 30 0).toInt = (ml μ0 30 0).toInt + pY s n 7 k j
def RMb (p0 : Int64) (μ0 : MS) : Prop := p0.toInt.natAbs ≤ 712835640000 ∧ (ml μ0 27 0).toInt.natAbs ≤ 712835640000 ∧ (ml μ0 28 0).toInt.natAbs ≤ 712835640000 ∧ (ml μ0 29 0).toInt.natAbs ≤ 712835640000 ∧ (ml μ0 30 0).toInt.natAbs ≤ 712835640000
theorem rm_step {s : Nat → Nat → Int32} {n k j : Nat} {p0 p : Int64} {μ0 b μ3 : MS} (hs : Sok s n) (hn : n ≤ 60) (hk : k < n) (hj : j < k) (c : JJ s n k j = true) (s5 : sB s 5 k j = true) (s7 : sB s 7 k j = true) (hb : RMb p0 μ0) (p2 : RM s n k j p0 μ0 p b) (t3 : ml μ3 27 0 = ml b 27 0 + Int64.ofInt (sX s 5 k j)) (t4 : ml μ3 28 0 = ml b 28 0 + Int64.ofInt (sY s 5 k j)) (t5 : ml μ3 29 0 = ml b 29 0 + Int64.ofInt (sX s 7 k j)) (t6 : ml μ3 30 0 = ml b 30 0 + Int64.ofInt (sY s 7 k j)) : RM s n k (j + 1) p0 μ0 (p + 1) μ3 := by
  obtain ⟨hb1, hb2, hb3, hb4, hb5⟩ := hb
  obtain ⟨r1, r2, r3, r4, r5⟩ := p2
  have hjn : j < n := by omega
  have rb := pP_b (s := s) (n := n) (k := k) (j := j) (by omega)
  obtain ⟨x5, y5⟩ := pX_b (s := s) (n := n) (b := 5) (k := k) (j := j) hs hn hk (by omega) (Or.inl rfl)
  obtain ⟨x7, y7⟩ := pX_b (s := s) (n := n) (b := 7) (k := k) (j := j) hs hn hk (by omega) (Or.inr rfl)
  obtain ⟨u5, w5⟩ := sX_ab hs hk hjn (Or.inl rfl) s5
  obtain ⟨u7, w7⟩ := sX_ab hs hk hjn (Or.inr rfl) s7
  have eP : pP s n k (j + 1) = pP s n k j + 1 := congrArg (pP s n k j + ·) (if_pos c)
  have eX : ∀ b, pX s n b k (j + 1) = pX s n b k j + sX s b k j := fun b => congrArg (pX s n b k j + ·) (if_pos c)
  have eY : ∀ b, pY s n b k (j + 1) = pY s n b k j + sY s b k j := fun b => congrArg (pY s n b k j + ·) (if_pos c)
  have B : ∀ {a d : Int}, a.natAbs ≤ 712835640000 → d.natAbs ≤ 11880594000 → (a + d).natAbs ≤ 1000000000000 := fun h1 h2 => by omega
  unfold RM
  rw [t3, t4, t5, t6, eP, eX, eX, eY, eY]
  refine ⟨?_, ?_, ?_, ?_, ?_⟩
  · exact (b6_plus r1 (B hb1 (by omega)) b6_1 (by decide)).trans (Int.add_assoc _ _ _)
  · exact (b6_plus r2 (B hb2 x5) (b6_of u5 (by decide)) (by decide)).trans (Int.add_assoc _ _ _)
  · exact (b6_plus r3 (B hb3 y5) (b6_of w5 (by decide)) (by decide)).trans (Int.add_assoc _ _ _)
  · exact (b6_plus r4 (B hb4 x7) (b6_of u7 (by decide)) (by decide)).trans (Int.add_assoc _ _ _)
  · exact (b6_plus r5 (B hb5 y7) (b6_of w7 (by decide)) (by decide)).trans (Int.add_assoc _ _ _)
theorem p_0 {s : Nat → Nat → Int32} {n f k : Nat} (h : low (JJ s n) k = f) : pP s n k f = 0 ∧ ∀ b, pX s n b k f = 0 ∧ pY s n b k f = 0 := by
  have hG := gr_JJ s n
  have hz : ∀ m, m < f → ¬ JJ s n k m = true := fun m hm z => by
    have h1 := low_one hG z
    have h2 := low_le (JJ s n) m
    omega
  exact ⟨sm_0 f (fun m hm => if_neg (hz m hm)), fun b => ⟨sm_0 f (fun m hm => if_neg (hz m hm)), sm_0 f (fun m hm => if_neg (hz m hm))⟩⟩
theorem me157 {μ0 : MS} {n : Nat} {s : Nat → Nat → Int32} (h : MS1 μ0 n s) (hs : Sok s n) {f k : Nat} (hk : k < n) (hf : f ≤ k) (hl : low (JJ s n) k = f) (v4 p0 : Int64) (hb : RMb p0 μ0) : ito (s_X11_measures_157 (nI f) v4 (nI k)) (os_X11_measures_157 (nI f) v4 (nI k)) FU (p0, nI f, μ0) ∧ ∃ p μ', itr (s_X11_measures_157 (nI f) v4 (nI k)) FU (p0, nI f, μ0) = (p, nI k, μ') ∧ LM μ0 μ' ∧ RM s n k k p0 μ0 p μ' := by
  have hn := h.1.1
  have hG := gr_JJ s n
  obtain ⟨z1, z2⟩ := p_0 hl
  have hl9 := itr_for (f := s_X11_measures_157 (nI f) v4 (nI k)) (o := os_X11_measures_157 (nI f) v4 (nI k)) (fun j (b : Int64 × MS) => (b.1, nI j, b.2)) (fun j b => LM μ0 b.2 ∧ (f ≤ j → RM s n k j p0 μ0 b.1 b.2) ∧ f ≤ j) (n := k) ?_ ?_ FU f (p0, μ0) hf (by unfold FU; omega) ⟨lm_refl μ0, fun _ => by unfold RM; rw [z1, (z2 5).1, (z2 5).2, (z2 7).1, (z2 7).2]; exact ⟨(Int.add_zero _).symm, (Int.add_zero _).symm, (Int.add_zero _).symm, (Int.add_zero _).symm, (Int.add_zero _).symm⟩, Nat.le_refl f⟩
  · obtain ⟨l1, b, l2, l3, l4, l5⟩ := hl9
    exact ⟨l1, b.1, b.2, l2, l3, l4 l5⟩
  · intro j b hj hP
    obtain ⟨p, μ⟩ := b
    obtain ⟨p1, p2, p3⟩ := hP
    have p2 := p2 p3
    have p1 : LM μ0 μ := p1
    have hjn : j < n := by omega
    have hM := ms_mf h (mf_1 p1.1)
    obtain ⟨v1, e1⟩ := mx_in hM.1 hk
    obtain ⟨v2, e2⟩ := mx_in hM.1 hjn
    have c1 : ¬ nI k ≤ nI j := by rw [nI_leI (by omega) (by omega)]; omega
    have hlj := low_le (JJ s n) j
    have hj23 := (hM.2 j hjn).1
    have ceq : mi μ 23 j = nI f ↔ low (JJ s n) j = f := by rw [hj23, nI_eq (by omega) (by omega)]
    have hJ := JJ_gt (s := s) (n := n) hj hk
    have skip : ¬ JJ s n k j = true → ∀ μ', PL μ μ' → LM μ0 μ' ∧ (f ≤ j + 1 → RM s n k (j + 1) p0 μ0 p μ') ∧ f ≤ j + 1 := by
      intro c μ' hpl
      refine ⟨lm_tr p1 (lm_pl hpl), fun _ => ?_, by omega⟩
      have eP : pP s n k (j + 1) = pP s n k j := by
        show pP s n k j + (if JJ s n k j = true then 1 else 0) = _
        rw [if_neg c]; omega
      have eX : ∀ b, pX s n b k (j + 1) = pX s n b k j := fun b => by
        show pX s n b k j + (if JJ s n k j = true then sX s b k j else 0) = _
        rw [if_neg c]; omega
      have eY : ∀ b, pY s n b k (j + 1) = pY s n b k j := fun b => by
        show pY s n b k j + (if JJ s n k j = true then sY s b k j else 0) = _
        rw [if_neg c]; omega
      unfold RM at p2 ⊢
      rw [eP, eX, eX, eY, eY, pl_ml hpl _ _ (by decide) (by decide), pl_ml hpl _ _ (by decide) (by decide), pl_ml hpl _ _ (by decide) (by decide), pl_ml hpl _ _ (by decide) (by decide)]
      exact p2
    show ob_X11_measures_157 (nI f) v4 (nI k) p (nI j) μ ∧ ∃ b' : Int64 × MS, b_X11_measures_157 (nI f) v4 (nI k) p (nI j) μ = (true, (b'.1, nI (j + 1), b'.2)) ∧ _
    unfold ob_X11_measures_157 b_X11_measures_157
    rw [e2, if_neg c1]
    by_cases d1 : low (JJ s n) j = f
    · rw [if_pos (ceq.mpr d1)]
      obtain ⟨j1, j2, j3⟩ := join_i hM.1 hs hk hjn
      unfold f_X11_measures_l157_183 of_X11_measures_l157_183
      rw [j1]
      obtain ⟨μ1, eμ⟩ : ∃ t, (f_X11_join μ (nI k) (nI j)).2 = t := ⟨_, rfl⟩
      rw [eμ] at j2 ⊢
      by_cases c : jn s k j = true
      · obtain ⟨s5, s7⟩ := jn_B c
        have hM1 := mx_1 hM.1 j2.1
        obtain ⟨μ2, μ4, g1, g2, g3, g4, g5, g6, g7, g8, g9, g10, g11⟩ := mcross hM1 hs hk hjn s5 s7
        rw [if_pos c, if_neg i_1ne0, g1]
        unfold f_X11_measures_l157_198 of_X11_measures_l157_198 f_X11_measures_l157_233 f_X11_measures_l157_260
        dsimp only
        rw [g3, nI_succ]
        dsimp only
        have key : RM s n k (j + 1) p0 μ0 (p + 1) (mL (mL μ4 29 0 ((ml μ4 29 0) + (ml μ4 25 0))) 30 0 ((ml μ4 30 0) + (ml μ4 26 0))) := by
          refine rm_step hs hn hk hj (hJ.trans c) s5 s7 hb p2 ?_ ?_ ?_ ?_
          · rw [ml_ne (by decide), ml_ne (by decide), g8, pl_ml j2 _ _ (by decide) (by decide)]
          · rw [ml_ne (by decide), ml_ne (by decide), g9, pl_ml j2 _ _ (by decide) (by decide)]
          · rw [ml_ne (by decide), ml_at, if_pos rfl, g10, g6, pl_ml j2 _ _ (by decide) (by decide)]
          · rw [ml_at, if_pos rfl, g11, g7, pl_ml j2 _ _ (by decide) (by decide)]
        exact ⟨⟨fun z => absurd z c1, fun _ => ⟨v2, fun _ => ⟨j3, fun z => absurd z i_1ne0, fun _ => ⟨g2, g4, trivial⟩⟩, fun z => absurd (ceq.mpr d1) z⟩⟩, (p + 1, mL (mL μ4 29 0 ((ml μ4 29 0) + (ml μ4 25 0))) 30 0 ((ml μ4 30 0) + (ml μ4 26 0))), rfl, lm_tr p1 (lm_tr (lm_pl j2) (lm_tr g5 (lm_tr (lm_L (by omega)) (lm_L (by omega))))), fun _ => key, by omega⟩
      · rw [if_neg c, if_pos rfl]
        unfold f_X11_measures_l157_260
        rw [nI_succ]
        exact ⟨⟨fun z => absurd z c1, fun _ => ⟨v2, fun _ => ⟨j3, fun _ => trivial, fun z => absurd rfl z⟩, fun z => absurd (ceq.mpr d1) z⟩⟩, (p, μ1), rfl, skip (fun z => c (hJ.symm.trans z)) μ1 j2⟩
    · rw [if_neg (fun z => d1 (ceq.mp z))]
      unfold f_X11_measures_l157_260
      rw [nI_succ]
      exact ⟨⟨fun z => absurd z c1, fun _ => ⟨v2, fun z => absurd (ceq.mp z) d1, fun _ => trivial⟩⟩, (p, μ), rfl, skip (fun z => d1 ((low_one hG z).symm.trans hl)) μ (pl_refl μ)⟩
  · intro b hP
    have c1 : nI k ≤ nI k := Int32.le_refl _
    show ob_X11_measures_157 (nI f) v4 (nI k) b.1 (nI k) b.2 ∧ b_X11_measures_157 (nI f) v4 (nI k) b.1 (nI k) b.2 = _
    unfold ob_X11_measures_157 b_X11_measures_157
    rw [if_pos c1]
    exact ⟨⟨fun _ => trivial, fun z => absurd c1 z⟩, rfl⟩
