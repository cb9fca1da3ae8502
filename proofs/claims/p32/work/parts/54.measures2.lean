/-! ===== all of its measures ===== -/
theorem qz_0 {s : Nat → Nat → Int32} {n f : Nat} (g : Nat → Int) : sm (gM s n f g) f = 0 ∧ mxx (gM s n f g) f = 0 := by
  have hz : ∀ k, k < f → gM s n f g k = 0 := fun k hk => gM_n (by have := low_le (JJ s n) k; omega)
  refine ⟨sm_0 f hz, ?_⟩
  have h1 := mxx_nn (g := gM s n f g) f
  have h2 := mxx_le (g := gM s n f g) (B := 0) (by omega) f (fun k hk => by rw [hz k hk]; exact Int.le_refl 0)
  omega
def QM (s : Nat → Nat → Int32) (n f k : Nat) (p len : Int64) (μ : MS) : Prop := p.toInt = qPr s n f k ∧ len.toInt = qLen s n f k ∧ (mi μ 32 0).toInt = qMan s n f k ∧ (ml μ 33 0).toInt = qByl s n f k ∧ (mi μ 34 0).toInt = qBri s n f k ∧ (ml μ 27 0).toInt = qX s n 5 f k ∧ (ml μ 28 0).toInt = qY s n 5 f k ∧ (ml μ 29 0).toInt = qX s n 7 f k ∧ (ml μ 30 0).toInt = qY s n 7 f k
theorem lm_mi {a b : MS} (h : LM a b) (k i : Nat) : mi b k i = mi a k i := by
  show b.1 k i = a.1 k i
  rw [h.1]
theorem lm_ml {a b : MS} (h : LM a b) (k i : Nat) (hk : k < 25 ∨ 30 < k) : ml b k i = ml a k i := by
  show b.2 k i = a.2 k i
  rw [h.2 k hk]
theorem me43 {μ0 : MS} {n : Nat} {s : Nat → Nat → Int32} (h : MS1 μ0 n s) (hs : Sok s n) {f : Nat} (hf : isF (JJ s n) f) (h0 : QM s n f f 0 0 μ0) : ito (s_X11_measures_43 (nI f)) (os_X11_measures_43 (nI f)) FU (0, 0, nI f, μ0) ∧ ∃ p len μ', itr (s_X11_measures_43 (nI f)) FU (0, 0, nI f, μ0) = (p, len, nI n, μ') ∧ MF μ0 μ' ∧ QM s n f n p len μ' := by
  have hn := h.1.1
  have hG := gr_JJ s n
  have hfn : f < n := (z_pos hs hn hf).1
  have hl9 := itr_for (f := s_X11_measures_43 (nI f)) (o := os_X11_measures_43 (nI f)) (fun k (b : Int64 × Int64 × MS) => (b.1, b.2.1, nI k, b.2.2)) (fun k b => (MF μ0 b.2.2 ∧ QM s n f k b.1 b.2.1 b.2.2) ∧ f ≤ k) (n := n) ?_ ?_ FU f (0, 0, μ0) (by omega) (by unfold FU; omega) ⟨⟨mf_refl μ0, h0⟩, Nat.le_refl f⟩
  · obtain ⟨l1, b, l2, ⟨l3, l4⟩, -⟩ := hl9
    exact ⟨l1, b.1, b.2.1, b.2.2, l2, l3, l4⟩
  · intro k b hk hP
    obtain ⟨p, len, μ⟩ := b
    obtain ⟨⟨p1, p2⟩, p3⟩ := hP
    have p1 : MF μ0 μ := p1
    have hM := ms_mf h p1
    obtain ⟨v1, e1⟩ := mx_in hM.1 hk
    have c1 : ¬ nI n ≤ nI k := by rw [nI_leI (by omega) (by omega)]; omega
    have hlk := low_le (JJ s n) k
    have ceq : mi μ 23 k = nI f ↔ low (JJ s n) k = f := by rw [(hM.2 k hk).1, nI_eq (by omega) (by omega)]
    have cj := (hM.2 k hk).2
    obtain ⟨r1, r2, r3, r4, r5, r6, r7, r8, r9⟩ := p2
    have r1 : p.toInt = qPr s n f k := r1
    have r2 : len.toInt = qLen s n f k := r2
    have r3 : (mi μ 32 0).toInt = qMan s n f k := r3
    have r4 : (ml μ 33 0).toInt = qByl s n f k := r4
    have r5 : (mi μ 34 0).toInt = qBri s n f k := r5
    have r6 : (ml μ 27 0).toInt = qX s n 5 f k := r6
    have r7 : (ml μ 28 0).toInt = qY s n 5 f k := r7
    have r8 : (ml μ 29 0).toInt = qX s n 7 f k := r8
    have r9 : (ml μ 30 0).toInt = qY s n 7 f k := r9
    show ob_X11_measures_43 (nI f) p len (nI k) μ ∧ ∃ b' : Int64 × Int64 × MS, b_X11_measures_43 (nI f) p len (nI k) μ = (true, (b'.1, b'.2.1, nI (k + 1), b'.2.2)) ∧ _
    unfold ob_X11_measures_43 b_X11_measures_43
    rw [hM.1.2.1, e1, if_neg c1]
    have skip : ¬ low (JJ s n) k = f → (MF μ0 μ ∧ QM s n f (k + 1) p len μ) ∧ f ≤ k + 1 := by
      intro c
      have bR := (qBri_b (s := s) (n := n) (f := f) (i := k) hs (by omega)).1
      refine ⟨⟨p1, r1.trans ?_, r2.trans ?_, r3.trans ?_, r4.trans ?_, r5.trans ?_, r6.trans ?_, r7.trans ?_, r8.trans ?_, r9.trans ?_⟩, by omega⟩
      · show _ = qPr s n f k + gM s n f (fun k => pP s n k k) k; rw [gM_n c, Int.add_zero]
      · show _ = qLen s n f k + gM s n f (fun k => vv s k 3) k; rw [gM_n c, Int.add_zero]
      · show _ = qMan s n f k + gM s n f (fun _ => 1) k; rw [gM_n c, Int.add_zero]
      · show _ = qByl s n f k + gM s n f (fun k => vv s k 4 * vv s k 3) k; rw [gM_n c, Int.add_zero]
      · show _ = max (qBri s n f k) (gM s n f (fun k => vv s k 4) k); rw [gM_n c]; omega
      · show _ = qX s n 5 f k + gM s n f (fun k => pX s n 5 k k) k; rw [gM_n c, Int.add_zero]
      · show _ = qY s n 5 f k + gM s n f (fun k => pY s n 5 k k) k; rw [gM_n c, Int.add_zero]
      · show _ = qX s n 7 f k + gM s n f (fun k => pX s n 7 k k) k; rw [gM_n c, Int.add_zero]
      · show _ = qY s n 7 f k + gM s n f (fun k => pY s n 7 k k) k; rw [gM_n c, Int.add_zero]
    by_cases d0 : jd (JJ s n) k
    · have d0' : ¬ mi μ 24 k = 0 := fun z => cj.mp z d0
      rw [if_neg d0']
      by_cases d1 : low (JJ s n) k = f
      · have d1' := ceq.mpr d1
        rw [if_pos d1']
        obtain ⟨a0, a1, a2, a3, a4, -⟩ := sdt_at hM.1 hk
        rw [a3, a4]
        obtain ⟨-, -, d3, d4, -⟩ := hs k hk
        have l3 : B6 ((s k 3).toInt64) (vv s k 3) 60 := b6_i32 rfl (by omega)
        have l4 : B6 ((s k 4).toInt64) (vv s k 4) 1000 := b6_i32 rfl (by omega)
        have l43 := b6_mul l4 l3 (by omega)
        have bM := qMan_b (s := s) (n := n) (f := f) (i := k) (by omega)
        have bL := qLen_b (s := s) (n := n) (f := f) (i := k) hs hn (by omega)
        have bB := qByl_b (s := s) (n := n) (f := f) (i := k) hs hn (by omega)
        have bR := qBri_b (s := s) (n := n) (f := f) (i := k) hs (by omega)
        have bP := qPr_b (s := s) (n := n) (f := f) (i := k) hn (by omega)
        have b5 := qX_b (s := s) (n := n) (b := 5) (f := f) (i := k) hs hn (by omega) (Or.inl rfl)
        have b7 := qX_b (s := s) (n := n) (b := 7) (f := f) (i := k) hs hn (by omega) (Or.inr rfl)
        -- what holds once many, byLight and the brightest are taken in
        have fin : ∀ t : Int32, t.toInt = max (qBri s n f k) (vv s k 4) → of_X11_measures_l43_157 (nI f) p len (nI k) μ p (len + (s k 3).toInt64) (nI k) (nI f) (mI (mL (mI μ 32 0 ((mi μ 32 0) + 1)) 33 0 ((ml μ 33 0) + ((s k 4).toInt64 * (s k 3).toInt64))) 34 0 t) ∧ ∃ b' : Int64 × Int64 × MS, f_X11_measures_l43_157 (nI f) p len (nI k) μ p (len + (s k 3).toInt64) (nI k) (nI f) (mI (mL (mI μ 32 0 ((mi μ 32 0) + 1)) 33 0 ((ml μ 33 0) + ((s k 4).toInt64 * (s k 3).toInt64))) 34 0 t) = (true, (b'.1, b'.2.1, nI (k + 1), b'.2.2)) ∧ (MF μ0 b'.2.2 ∧ QM s n f (k + 1) b'.1 b'.2.1 b'.2.2) ∧ f ≤ k + 1 := by
          intro t ht
          have m32 : mi (mI (mL (mI μ 32 0 ((mi μ 32 0) + 1)) 33 0 ((ml μ 33 0) + ((s k 4).toInt64 * (s k 3).toInt64))) 34 0 t) 32 0 = mi μ 32 0 + 1 := by
            rw [mi_ne (by decide)]
            show mi (mI μ 32 0 ((mi μ 32 0) + 1)) 32 0 = _
            rw [mi_at, if_pos rfl]
          have m33 : ml (mI (mL (mI μ 32 0 ((mi μ 32 0) + 1)) 33 0 ((ml μ 33 0) + ((s k 4).toInt64 * (s k 3).toInt64))) 34 0 t) 33 0 = (ml μ 33 0) + ((s k 4).toInt64 * (s k 3).toInt64) := by
            show ml (mL (mI μ 32 0 ((mi μ 32 0) + 1)) 33 0 ((ml μ 33 0) + ((s k 4).toInt64 * (s k 3).toInt64))) 33 0 = _
            rw [ml_at, if_pos rfl]
          have m34 : mi (mI (mL (mI μ 32 0 ((mi μ 32 0) + 1)) 33 0 ((ml μ 33 0) + ((s k 4).toInt64 * (s k 3).toInt64))) 34 0 t) 34 0 = t := by rw [mi_at, if_pos rfl]
          have mlx : ∀ c, c ≠ 33 → ml (mI (mL (mI μ 32 0 ((mi μ 32 0) + 1)) 33 0 ((ml μ 33 0) + ((s k 4).toInt64 * (s k 3).toInt64))) 34 0 t) c 0 = ml μ c 0 := fun c hc => by
            show ml (mL (mI μ 32 0 ((mi μ 32 0) + 1)) 33 0 ((ml μ 33 0) + ((s k 4).toInt64 * (s k 3).toInt64))) c 0 = _
            rw [ml_ne hc]; rfl
          have hmf : MF μ (mI (mL (mI μ 32 0 ((mi μ 32 0) + 1)) 33 0 ((ml μ 33 0) + ((s k 4).toInt64 * (s k 3).toInt64))) 34 0 t) := fun a h1 h2 => by
            rw [mI_ne h2]
            show (mI μ 32 0 ((mi μ 32 0) + 1)).1 a = _
            rw [mI_ne h1]
          obtain ⟨μ1, eμ⟩ : ∃ z, mI (mL (mI μ 32 0 ((mi μ 32 0) + 1)) 33 0 ((ml μ 33 0) + ((s k 4).toInt64 * (s k 3).toInt64))) 34 0 t = z := ⟨_, rfl⟩
          rw [eμ] at m32 m33 m34 mlx hmf ⊢
          obtain ⟨i1, q, μ', i2, i3, i4⟩ := me157 (ms_mf hM hmf) hs hk p3 d1 (len + (s k 3).toInt64) p ⟨by omega, by rw [mlx 27 (by decide), r6]; exact b5.1, by rw [mlx 28 (by decide), r7]; exact b5.2, by rw [mlx 29 (by decide), r8]; exact b7.1, by rw [mlx 30 (by decide), r9]; exact b7.2⟩
          obtain ⟨y1, y2, y3, y4, y5⟩ := i4
          rw [mlx 27 (by decide)] at y2
          rw [mlx 28 (by decide)] at y3
          rw [mlx 29 (by decide)] at y4
          rw [mlx 30 (by decide)] at y5
          refine ⟨⟨i1, trivial⟩, (q, len + (s k 3).toInt64, μ'), ?_, ⟨mf_tr p1 (mf_tr hmf (mf_1 i3.1)), ?_, ?_, ?_, ?_, ?_, ?_, ?_, ?_, ?_⟩, by omega⟩
          · unfold f_X11_measures_l43_157 f_X11_measures_l43_266
            rw [i2, nI_succ]
          · show _ = qPr s n f k + gM s n f (fun k => pP s n k k) k
            rw [gM_y d1, ← r1]; exact y1
          · show _ = qLen s n f k + gM s n f (fun k => vv s k 3) k
            rw [gM_y d1]
            exact b6_plus (m := 3600) r2 (by omega) l3 (by omega)
          · show _ = qMan s n f k + gM s n f (fun _ => 1) k
            rw [gM_y d1]
            show (mi μ' 32 0).toInt = _
            rw [lm_mi i3, m32]
            exact i32_inc r3 bM.1 (by omega)
          · show _ = qByl s n f k + gM s n f (fun k => vv s k 4 * vv s k 3) k
            rw [gM_y d1]
            show (ml μ' 33 0).toInt = _
            rw [lm_ml i3 33 0 (Or.inr (by decide)), m33]
            exact b6_plus (m := 3600000) r4 (by omega) l43 (by omega)
          · show _ = max (qBri s n f k) (gM s n f (fun k => vv s k 4) k)
            rw [gM_y d1]
            show (mi μ' 34 0).toInt = _
            rw [lm_mi i3, m34]
            exact ht
          · show _ = qX s n 5 f k + gM s n f (fun k => pX s n 5 k k) k
            rw [gM_y d1, ← r6]; exact y2
          · show _ = qY s n 5 f k + gM s n f (fun k => pY s n 5 k k) k
            rw [gM_y d1, ← r7]; exact y3
          · show _ = qX s n 7 f k + gM s n f (fun k => pX s n 7 k k) k
            rw [gM_y d1, ← r8]; exact y4
          · show _ = qY s n 7 f k + gM s n f (fun k => pY s n 7 k k) k
            rw [gM_y d1, ← r9]; exact y5
        unfold f_X11_measures_l43_122 of_X11_measures_l43_122 f_X11_measures_l43_151 of_X11_measures_l43_151
        rw [e1]
        have m18 : mi (mL (mI μ 32 0 ((mi μ 32 0) + 1)) 33 0 ((ml μ 33 0) + ((s k 4).toInt64 * (s k 3).toInt64))) 18 k = s k 4 := a4
        have m34b : mi (mL (mI μ 32 0 ((mi μ 32 0) + 1)) 33 0 ((ml μ 33 0) + ((s k 4).toInt64 * (s k 3).toInt64))) 34 0 = mi μ 34 0 := rfl
        rw [m18, m34b]
        have cle : (s k 4 ≤ mi μ 34 0) ↔ vv s k 4 ≤ qBri s n f k := by rw [Int32.le_iff_toInt_le, r5]; rfl
        by_cases cc : s k 4 ≤ mi μ 34 0
        · obtain ⟨t1, t2⟩ := fin (mi μ 34 0) (by have := cle.mp cc; omega)
          rw [if_pos cc]
          exact ⟨⟨fun z => absurd z c1, fun _ => ⟨v1, fun z => absurd z d0', fun _ => ⟨v1, fun _ => ⟨v1, v1, v1, v1, fun _ => t1, fun z => absurd cc z⟩, fun z => absurd d1' z⟩⟩⟩, t2⟩
        · obtain ⟨t1, t2⟩ := fin (s k 4) (by
            have : ¬ vv s k 4 ≤ qBri s n f k := fun z => cc (cle.mpr z)
            show vv s k 4 = _
            omega)
          rw [if_neg cc]
          exact ⟨⟨fun z => absurd z c1, fun _ => ⟨v1, fun z => absurd z d0', fun _ => ⟨v1, fun _ => ⟨v1, v1, v1, v1, fun z => absurd z cc, fun _ => ⟨v1, t1⟩⟩, fun z => absurd d1' z⟩⟩⟩, t2⟩
      · rw [if_neg (fun z => d1 (ceq.mp z))]
        unfold f_X11_measures_l43_266
        rw [nI_succ]
        exact ⟨⟨fun z => absurd z c1, fun _ => ⟨v1, fun z => absurd z d0', fun _ => ⟨v1, fun z => absurd (ceq.mp z) d1, fun _ => trivial⟩⟩⟩, (p, len, μ), rfl, skip d1⟩
    · have d0' : mi μ 24 k = 0 := cj.mpr d0
      rw [if_pos d0']
      unfold f_X11_measures_l43_266
      rw [nI_succ]
      exact ⟨⟨fun z => absurd z c1, fun _ => ⟨v1, fun _ => trivial, fun z => absurd d0' z⟩⟩, (p, len, μ), rfl, skip (fun z => d0 (isF_m hf z))⟩
  · intro b hP
    have hM := ms_mf h hP.1.1
    have c1 : nI n ≤ nI n := Int32.le_refl _
    show ob_X11_measures_43 (nI f) b.1 b.2.1 (nI n) b.2.2 ∧ b_X11_measures_43 (nI f) b.1 b.2.1 (nI n) b.2.2 = _
    unfold ob_X11_measures_43 b_X11_measures_43
    rw [hM.1.2.1, if_pos c1]
    exact ⟨⟨fun _ => trivial, fun z => absurd c1 z⟩, rfl⟩
/-- what measures leaves -/
def ZM (s : Nat → Nat → Int32) (n f : Nat) (μ : MS) : Prop := (mi μ 32 0).toInt = qMan s n f n ∧ (mi μ 34 0).toInt = qBri s n f n ∧ B6 (ml μ 27 0) (zFx s n f) 198009900 ∧ B6 (ml μ 28 0) (zFy s n f) 198009900 ∧ B6 (ml μ 29 0) (zTx s n f) 198009900 ∧ B6 (ml μ 30 0) (zTy s n f) 198009900 ∧ 0 ≤ zSp s n f ∧ B6 (ml μ 31 0) (zSp s n f) 600000000000 ∧ B6 (ml μ 33 0) (zBl s n f) 3600000
theorem measures_i {μ : MS} {n : Nat} {s : Nat → Nat → Int32} (h : MS1 μ n s) (hs : Sok s n) {f : Nat} (hf : isF (JJ s n) f) : of_X11_measures μ (nI f) ∧ MF μ (f_X11_measures μ (nI f)) ∧ ZM s n f (f_X11_measures μ (nI f)) := by
  have hn := h.1.1
  obtain ⟨hfn, p1, p2, p3⟩ := z_pos hs hn hf
  have e032 : (0 : Int32).toInt = 0 := by decide
  have e064 : (0 : Int64).toInt = 0 := by decide
  have hmf0 : MF μ (mI (mL (mI (mL (mL (mL (mL μ 27 0 0) 28 0 0) 29 0 0) 30 0 0) 32 0 0) 33 0 0) 34 0 0) := fun a h1 h2 => by
    rw [mI_ne h2]
    show (mI (mL (mL (mL (mL μ 27 0 0) 28 0 0) 29 0 0) 30 0 0) 32 0 0).1 a = _
    rw [mI_ne h1]; rfl
  have h0 : QM s n f f 0 0 (mI (mL (mI (mL (mL (mL (mL μ 27 0 0) 28 0 0) 29 0 0) 30 0 0) 32 0 0) 33 0 0) 34 0 0) := by
    refine ⟨(qz_0 _).1.symm, (qz_0 _).1.symm, ?_, ?_, ?_, ?_, ?_, ?_, ?_⟩
    · rw [mi_ne (by decide)]
      show (mi (mI (mL (mL (mL (mL μ 27 0 0) 28 0 0) 29 0 0) 30 0 0) 32 0 0) 32 0).toInt = _
      rw [mi_at, if_pos rfl, e032]; exact (qz_0 _).1.symm
    · show (ml (mL (mI (mL (mL (mL (mL μ 27 0 0) 28 0 0) 29 0 0) 30 0 0) 32 0 0) 33 0 0) 33 0).toInt = _
      rw [ml_at, if_pos rfl, e064]; exact (qz_0 _).1.symm
    · rw [mi_at, if_pos rfl, e032]; exact (qz_0 _).2.symm
    · show (ml (mL (mL (mL (mL μ 27 0 0) 28 0 0) 29 0 0) 30 0 0) 27 0).toInt = _
      rw [ml_ne (by decide), ml_ne (by decide), ml_ne (by decide), ml_at, if_pos rfl, e064]; exact (qz_0 _).1.symm
    · show (ml (mL (mL (mL (mL μ 27 0 0) 28 0 0) 29 0 0) 30 0 0) 28 0).toInt = _
      rw [ml_ne (by decide), ml_ne (by decide), ml_at, if_pos rfl, e064]; exact (qz_0 _).1.symm
    · show (ml (mL (mL (mL (mL μ 27 0 0) 28 0 0) 29 0 0) 30 0 0) 29 0).toInt = _
      rw [ml_ne (by decide), ml_at, if_pos rfl, e064]; exact (qz_0 _).1.symm
    · show (ml (mL (mL (mL (mL μ 27 0 0) 28 0 0) 29 0 0) 30 0 0) 30 0).toInt = _
      rw [ml_at, if_pos rfl, e064]; exact (qz_0 _).1.symm
  obtain ⟨i1, p, len, μ', i2, i3, i4⟩ := me43 (ms_mf h hmf0) hs hf h0
  have e : f_X11_measures μ (nI f) = f_X11_measures_272 μ (nI f) p len μ' := by
    show f_X11_measures_272 μ (nI f) (itr (s_X11_measures_43 (nI f)) FU (0, 0, nI f, (mI (mL (mI (mL (mL (mL (mL μ 27 0 0) 28 0 0) 29 0 0) 30 0 0) 32 0 0) 33 0 0) 34 0 0))).1 (itr (s_X11_measures_43 (nI f)) FU (0, 0, nI f, (mI (mL (mI (mL (mL (mL (mL μ 27 0 0) 28 0 0) 29 0 0) 30 0 0) 32 0 0) 33 0 0) 34 0 0))).2.1 (itr (s_X11_measures_43 (nI f)) FU (0, 0, nI f, (mI (mL (mI (mL (mL (mL (mL μ 27 0 0) 28 0 0) 29 0 0) 30 0 0) 32 0 0) 33 0 0) 34 0 0))).2.2.2 = _
    rw [i2]
  have oe : of_X11_measures_272 μ (nI f) p len μ' → of_X11_measures μ (nI f) := fun z => ⟨i1, by
    show of_X11_measures_272 μ (nI f) (itr (s_X11_measures_43 (nI f)) FU (0, 0, nI f, (mI (mL (mI (mL (mL (mL (mL μ 27 0 0) 28 0 0) 29 0 0) 30 0 0) 32 0 0) 33 0 0) 34 0 0))).1 (itr (s_X11_measures_43 (nI f)) FU (0, 0, nI f, (mI (mL (mI (mL (mL (mL (mL μ 27 0 0) 28 0 0) 29 0 0) 30 0 0) 32 0 0) 33 0 0) 34 0 0))).2.1 (itr (s_X11_measures_43 (nI f)) FU (0, 0, nI f, (mI (mL (mI (mL (mL (mL (mL μ 27 0 0) 28 0 0) 29 0 0) 30 0 0) 32 0 0) 33 0 0) 34 0 0))).2.2.2
    rw [i2]; exact z⟩
  obtain ⟨r1, r2, r3, r4, r5, r6, r7, r8, r9⟩ := i4
  have bM := qMan_b (s := s) (n := n) (f := f) (i := n) hn
  have bL := qLen_b (s := s) (n := n) (f := f) (i := n) hs hn (Nat.le_refl _)
  have bB := qByl_b (s := s) (n := n) (f := f) (i := n) hs hn (Nat.le_refl _)
  have bR := qBri_b (s := s) (n := n) (f := f) (i := n) hs (Nat.le_refl _)
  have bP := qPr_b (s := s) (n := n) (f := f) (i := n) hn (Nat.le_refl _)
  have b5 := qX_b (s := s) (n := n) (b := 5) (f := f) (i := n) hs hn (Nat.le_refl _) (Or.inl rfl)
  have b7 := qX_b (s := s) (n := n) (b := 7) (f := f) (i := n) hs hn (Nat.le_refl _) (Or.inr rfl)
  obtain ⟨m6, m7, m8, m9, hz0, hz1⟩ := z_b hs hn hf
  have cP : B6 p (qPr s n f n) 3600 := ⟨r1, by omega⟩
  have cL : B6 len (qLen s n f n) 3600 := ⟨r2, by omega⟩
  have cM : B6 ((mi μ' 32 0).toInt64) (qMan s n f n) 60 := b6_i32 r3 (by omega)
  have cB : B6 (ml μ' 33 0) (qByl s n f n) 3600000 := ⟨r4, by omega⟩
  have w6 := b6_dn (a := ml μ' 27 0) ⟨r6, b5.1⟩ cP (by omega) (by omega)
  have w7 := b6_dn (a := ml μ' 28 0) ⟨r7, b5.2⟩ cP (by omega) (by omega)
  have w8 := b6_dn (a := ml μ' 29 0) ⟨r8, b7.1⟩ cP (by omega) (by omega)
  have w9 := b6_dn (a := ml μ' 30 0) ⟨r9, b7.2⟩ cP (by omega) (by omega)
  have e1 : f_X11_measures_272 μ (nI f) p len μ' = f_X11_measures_308 μ (nI f) p len (mL (mL (mL μ' 27 0 (f_X11_down (ml μ' 27 0) p)) 28 0 (f_X11_down (ml μ' 28 0) p)) 29 0 (f_X11_down (ml μ' 29 0) p)) := rfl
  have o1 : of_X11_measures_308 μ (nI f) p len (mL (mL (mL μ' 27 0 (f_X11_down (ml μ' 27 0) p)) 28 0 (f_X11_down (ml μ' 28 0) p)) 29 0 (f_X11_down (ml μ' 29 0) p)) → of_X11_measures_272 μ (nI f) p len μ' := fun z => ⟨of_dn cP (by omega), of_dn cP (by omega), of_dn cP (by omega), z⟩
  obtain ⟨v6, x6⟩ : ∃ v, f_X11_down (ml μ' 27 0) p = v := ⟨_, rfl⟩
  obtain ⟨v7, x7⟩ : ∃ v, f_X11_down (ml μ' 28 0) p = v := ⟨_, rfl⟩
  obtain ⟨v8, x8⟩ : ∃ v, f_X11_down (ml μ' 29 0) p = v := ⟨_, rfl⟩
  obtain ⟨v9, x9⟩ : ∃ v, f_X11_down (ml μ' 30 0) p = v := ⟨_, rfl⟩
  rw [x6] at w6
  rw [x7] at w7
  rw [x8] at w8
  rw [x9] at w9
  rw [x6, x7, x8] at e1 o1
  have d6 : B6 v6 (zFx s n f) 198009900 := ⟨w6.1, m6⟩
  have d7 : B6 v7 (zFy s n f) 198009900 := ⟨w7.1, m7⟩
  have d8 : B6 v8 (zTx s n f) 198009900 := ⟨w8.1, m8⟩
  have d9 : B6 v9 (zTy s n f) 198009900 := ⟨w9.1, m9⟩
  have q6 : ml (mL (mL (mL μ' 27 0 v6) 28 0 v7) 29 0 v8) 27 0 = v6 := by rw [ml_ne (by decide), ml_ne (by decide), ml_at, if_pos rfl]
  have q7 : ml (mL (mL (mL μ' 27 0 v6) 28 0 v7) 29 0 v8) 28 0 = v7 := by rw [ml_ne (by decide), ml_at, if_pos rfl]
  have q8 : ml (mL (mL (mL μ' 27 0 v6) 28 0 v7) 29 0 v8) 29 0 = v8 := by rw [ml_at, if_pos rfl]
  have q9 : f_X11_down (ml (mL (mL (mL μ' 27 0 v6) 28 0 v7) 29 0 v8) 30 0) p = v9 := x9
  have e2 : f_X11_measures_308 μ (nI f) p len (mL (mL (mL μ' 27 0 v6) 28 0 v7) 29 0 v8) = f_X11_measures_342 μ (nI f) len (v8 - v6) (v9 - v7) (mL (mL (mL (mL μ' 27 0 v6) 28 0 v7) 29 0 v8) 30 0 v9) := by
    unfold f_X11_measures_308
    rw [q9, q6, q7, q8]
  have o2 : of_X11_measures_342 μ (nI f) len (v8 - v6) (v9 - v7) (mL (mL (mL (mL μ' 27 0 v6) 28 0 v7) 29 0 v8) 30 0 v9) → of_X11_measures_308 μ (nI f) p len (mL (mL (mL μ' 27 0 v6) 28 0 v7) 29 0 v8) := by
    intro z
    unfold of_X11_measures_308
    rw [q9, q6, q7, q8]
    exact ⟨of_dn cP (by omega), z⟩
  have bx := b6_sub d8 d6 (by omega)
  have by' := b6_sub d9 d7 (by omega)
  have bsq := b6_add (b6_mul bx bx (by omega)) (b6_mul by' by' (by omega)) (by omega)
  obtain ⟨or1, r, t1, t2, t3, t4⟩ := mroot_i bsq hz0 (by have : (zTx s n f - zFx s n f) * (zTx s n f - zFx s n f) + (zTy s n f - zFy s n f) * (zTy s n f - zFy s n f) ≤ 313663364715360000 := hz1; omega)
  have hr : isq (zSq s n f) = r := isq_eq t2 t3 t4
  have b10 := b6_mul (b6_mul b6_10 t1 (by omega)) cM (by omega)
  have nn : 0 ≤ (10 * r) * qMan s n f n := Int.mul_nonneg (by omega) (by omega)
  have nn2 : 0 ≤ (10 * r) * qMan s n f n / qLen s n f n := Int.ediv_nonneg nn (by omega)
  have w10 := b6_div b10 cL (by omega) nn (by omega)
  have w11 := b6_div cB cM (by omega) bB.1 (by omega)
  have e3 : f_X11_measures_342 μ (nI f) len (v8 - v6) (v9 - v7) (mL (mL (mL (mL μ' 27 0 v6) 28 0 v7) 29 0 v8) 30 0 v9) = mL (mL (mL (mL (mL (mL μ' 27 0 v6) 28 0 v7) 29 0 v8) 30 0 v9) 31 0 (((10 * (f_X11_root (((v8 - v6) * (v8 - v6)) + ((v9 - v7) * (v9 - v7))))) * ((mi μ' 32 0).toInt64)) / len)) 33 0 ((ml μ' 33 0) / ((mi μ' 32 0).toInt64)) := rfl
  have o3 : of_X11_measures_342 μ (nI f) len (v8 - v6) (v9 - v7) (mL (mL (mL (mL μ' 27 0 v6) 28 0 v7) 29 0 v8) 30 0 v9) := ⟨or1, b6_n0 cL (by omega), b6_n0 (b := (mi μ' 32 0).toInt64) cM (by omega), trivial⟩
  have zsp : zSp s n f = (10 * r) * qMan s n f n / qLen s n f n := by unfold zSp; rw [hr]
  refine ⟨oe (o1 (o2 o3)), ?_, ?_⟩
  · rw [e, e1, e2, e3]
    exact mf_tr hmf0 (mf_tr i3 (mf_1 rfl))
  · rw [e, e1, e2, e3]
    refine ⟨r3, r5, ?_, ?_, ?_, ?_, by rw [zsp]; exact nn2, ?_, ?_⟩
    · rw [ml_ne (by decide), ml_ne (by decide), ml_ne (by decide), q6]; exact d6
    · rw [ml_ne (by decide), ml_ne (by decide), ml_ne (by decide), q7]; exact d7
    · rw [ml_ne (by decide), ml_ne (by decide), ml_ne (by decide), q8]; exact d8
    · rw [ml_ne (by decide), ml_ne (by decide), ml_at, if_pos rfl]; exact d9
    · rw [ml_ne (by decide), ml_at, if_pos rfl, zsp]; exact b6_le w10 (by omega)
    · rw [ml_at, if_pos rfl]; exact w11
