/-! ===== a whole fireball, settled ===== -/
/-- what gathering into row q may change -/
def GF (q : Nat) (σ σ' : XS) : Prop := σ'.1 = σ.1 ∧ (∀ c z, c ≠ 150 → (c ≠ 100 ∧ c ≠ 101 ∧ c ≠ 102) ∨ z ≠ q → xi σ' c z = xi σ c z) ∧ (∀ c z, c ≠ 60 → c ≠ 61 → (c < 103 ∨ 112 < c) ∨ z ≠ q → xj σ' c z = xj σ c z) ∧ σ'.2.2.2 = σ.2.2.2
theorem gf_refl (q : Nat) (σ : XS) : GF q σ σ := ⟨rfl, fun _ _ _ _ => rfl, fun _ _ _ _ _ => rfl, rfl⟩
theorem gf_tr {q : Nat} {a b c : XS} (h : GF q a b) (g : GF q b c) : GF q a c := ⟨g.1.trans h.1, fun k z h1 h2 => (g.2.1 k z h1 h2).trans (h.2.1 k z h1 h2), fun k z h1 h2 h3 => (g.2.2.1 k z h1 h2 h3).trans (h.2.2.1 k z h1 h2 h3), g.2.2.2.trans h.2.2.2⟩
theorem gf_af {q : Nat} {a b : XS} (h : AF q a b) : GF q a b := ⟨h.1, fun c z _ h2 => h.2.1 c z (h2.imp (fun g => g.2.2) id), fun c z h1 h2 h3 => h.2.2.1 c z h1 h2 (h3.imp (fun g => by omega) id), h.2.2.2⟩
theorem xf_gf {q : Nat} {a b : XS} (h : GF q a b) : XF a b := ⟨h.1, fun c _ _ h3 h4 h5 h6 _ => by funext z; exact h.2.1 c z h6 (Or.inl ⟨h3, h4, h5⟩), h.2.2.2⟩
theorem gf_xe {q : Nat} {a b : XS} (h : GF q a b) (j i : Nat) : xe b j i = xe a j i := by
  show b.2.2.2.2.2 j i = a.2.2.2.2.2 j i
  rw [h.2.2.2]
theorem gf_J {q c : Nat} {σ : XS} {v : Int64} (h : 103 ≤ c ∧ c ≤ 112) : GF q σ (xJ σ c q v) := ⟨rfl, fun _ _ _ _ => rfl, fun a z _ _ h3 => xJ_z (h3.imp (fun g => by omega) id), rfl⟩
theorem gf_I {q c : Nat} {σ : XS} {v : Int32} (h : c = 100 ∨ c = 101 ∨ c = 102) : GF q σ (xI σ c q v) := ⟨rfl, fun a z _ h2 => xI_z (h2.imp (fun g => by omega) id), fun _ _ _ _ _ => rfl, rfl⟩
theorem gf_150 {q z : Nat} {σ : XS} {v : Int32} : GF q σ (xI σ 150 z v) := ⟨rfl, fun a y h1 _ => xI_z (Or.inl h1), fun _ _ _ _ _ => rfl, rfl⟩
theorem add_i (σ : XS) (q p : Nat) : GF q σ (f_X4_add σ q p).2 ∧ xi (f_X4_add σ q p).2 100 q = xi σ 141 p ∧ xi (f_X4_add σ q p).2 101 q = xi σ 101 q + 1 ∧ xj (f_X4_add σ q p).2 103 q = xj σ 103 q + (xi σ 143 p).toInt64 ∧ xj (f_X4_add σ q p).2 104 q = xj σ 104 q + (xi σ 144 p).toInt64 * (xi σ 143 p).toInt64 ∧ xj (f_X4_add σ q p).2 105 q = f_J9_max_f86c9 (xj σ 105 q) (xi σ 144 p).toInt64 ∧ (∀ c, 106 ≤ c → xj (f_X4_add σ q p).2 c q = xj σ c q) ∧ (∀ z, xi (f_X4_add σ q p).2 102 z = xi σ 102 z) ∧ ∀ z, xi (f_X4_add σ q p).2 150 z = xi σ 150 z := by
  have e : (f_X4_add σ q p).2 = xJ (xJ (xJ (xI (xI σ 100 q (xi σ 141 p)) 101 q ((xi σ 101 q) + 1)) 103 q ((xj σ 103 q) + ((xi σ 143 p).toInt64))) 104 q ((xj σ 104 q) + (((xi σ 144 p).toInt64) * ((xi σ 143 p).toInt64)))) 105 q (f_J9_max_f86c9 (xj σ 105 q) ((xi σ 144 p).toInt64)) := rfl
  rw [e]
  refine ⟨gf_tr (gf_I (Or.inl rfl)) (gf_tr (gf_I (Or.inr (Or.inl rfl))) (gf_tr (gf_J (by omega)) (gf_tr (gf_J (by omega)) (gf_J (by omega))))), ?_, ?_, ?_, ?_, ?_, fun c hc => ?_, fun z => rfl, fun z => rfl⟩
  · show xi (xI σ 100 q (xi σ 141 p)) 100 q = _
    rw [xi_at, if_pos rfl]
  · show xi (xI (xI σ 100 q (xi σ 141 p)) 101 q ((xi σ 101 q) + 1)) 101 q = _
    rw [xi_at, if_pos rfl]
  · rw [xJ_z (Or.inl (by decide)), xJ_z (Or.inl (by decide)), xj_at, if_pos rfl]
  · rw [xJ_z (Or.inl (by decide)), xj_at, if_pos rfl]
  · rw [xj_at, if_pos rfl]
  · rw [xJ_z (Or.inl (by omega)), xJ_z (Or.inl (by omega)), xJ_z (Or.inl (by omega))]
    rfl
/-- row q holds the sums of the first i sightings -/
def RQ (s : Nat → Nat → Int32) (n f q i : Nat) (σ : XS) : Prop := ((∃ k, k < i ∧ low (JJ s n) k = f) → xi σ 100 q = s f 1) ∧ (xi σ 101 q).toInt = qMan s n f i ∧ (xi σ 102 q).toInt = qPr s n f i ∧ (xj σ 103 q).toInt = qLen s n f i ∧ (xj σ 104 q).toInt = qByl s n f i ∧ (xj σ 105 q).toInt = qBri s n f i ∧ (xj σ 106 q).toInt = qX s n 5 f i ∧ (xj σ 107 q).toInt = qY s n 5 f i ∧ (xj σ 108 q).toInt = qX s n 7 f i ∧ (xj σ 109 q).toInt = qY s n 7 f i
theorem gi9 {σ0 : XS} {x n : Nat} {s : Nat → Nat → Int32} (h : SX σ0 x n s) (hs : Sok s n) (hM : MK σ0 n (JJ s n)) {f q : Nat} (hf : f < n) (hlf : low (JJ s n) f = f) (hq : xk σ0 q = 5) (w : Int64) (hw : ∀ m, tb w m = true ↔ cn (JJ s n) f m) (h0 : RQ s n f q 0 σ0) : ito (s_X10_gatherInto_9 x q (nI f) w) (os_X10_gatherInto_9 x q (nI f) w) FU (0, σ0) ∧ ∃ σ', itr (s_X10_gatherInto_9 x q (nI f) w) FU (0, σ0) = (nI n, σ') ∧ GF q σ0 σ' ∧ RQ s n f q n σ' ∧ ∀ k, k < n → xi σ' 150 (xe σ0 2 k) = if low (JJ s n) k = f then nI f else xi σ0 150 (xe σ0 2 k) := by
  have hn := h.1
  have hG := gr_JJ s n
  have inj := h.2.2.2.2.2.1
  have hl := itr_for (f := s_X10_gatherInto_9 x q (nI f) w) (o := os_X10_gatherInto_9 x q (nI f) w) (fun i (b : XS) => (nI i, b)) (fun i b => GF q σ0 b ∧ RQ s n f q i b ∧ ∀ k, k < n → xi b 150 (xe σ0 2 k) = if k < i ∧ low (JJ s n) k = f then nI f else xi σ0 150 (xe σ0 2 k)) (n := n) ?_ ?_ FU 0 σ0 (by omega) (by unfold FU; omega) ⟨gf_refl q σ0, h0, fun k _ => by rw [if_neg (fun z => absurd z.1 (Nat.not_lt_zero _))]⟩
  · obtain ⟨l1, σ', l2, l3, l4, l5⟩ := hl
    refine ⟨l1, σ', l2, l3, l4, fun k hk => ?_⟩
    rw [l5 k hk]
    by_cases c : low (JJ s n) k = f
    · rw [if_pos c, if_pos ⟨hk, c⟩]
    · rw [if_neg c, if_neg (fun z => c z.2)]
  · intro i b hi hP
    obtain ⟨p1, p2, p3⟩ := hP
    have hS := sx_f h (xf_gf p1)
    have ex : ∀ k, xe b 2 k = xe σ0 2 k := gf_xe p1 2
    have c1 : ¬ nI n ≤ nI i := by rw [nI_leI (by omega) (by omega)]; omega
    have e2 : ix (nI i) = i := clamp_nI (by omega)
    have vi : vp_in (nI i) n := nI_in hi (by omega)
    have i7 : xk b (xe σ0 2 i) = 7 := by have := (hS.2.2.2.2.1 i hi).1; rw [ex] at this; exact this
    have q5 : xk b q = 5 := by show b.1 q = 5; rw [p1.1]; exact hq
    show ob_X10_gatherInto_9 x q (nI f) w (nI i) b ∧ ∃ b', b_X10_gatherInto_9 x q (nI f) w (nI i) b = (true, (nI (i + 1), b')) ∧ _
    unfold ob_X10_gatherInto_9 b_X10_gatherInto_9
    rw [hS.2.1, e2, ex, holds_i w (by omega), if_neg c1, nI_succ]
    have hmem : tb w i = true ↔ low (JJ s n) i = f := (hw i).trans (low_grp hG hlf)
    by_cases c : low (JJ s n) i = f
    · rw [if_pos (hmem.mpr c), if_neg i_1ne0]
      unfold f_X10_gatherInto_l9_60 f_X10_gatherInto_l9_69 of_X10_gatherInto_l9_60
      obtain ⟨a1, a2, a3, a4, a5, a6, a7, a8, a9⟩ := add_i (xI b 150 (xe σ0 2 i) (nI f)) q (xe σ0 2 i)
      have f1 : GF q b (f_X4_add (xI b 150 (xe σ0 2 i) (nI f)) q (xe σ0 2 i)).2 := gf_tr gf_150 a1
      have f2 := gf_tr p1 f1
      have hS2 := sx_f h (xf_gf f2)
      have hM2 : MK (f_X4_add (xI b 150 (xe σ0 2 i) (nI f)) q (xe σ0 2 i)).2 n (JJ s n) := fun k hk m hm => by
        rw [gf_xe f2, f2.2.2.1 149 _ (by decide) (by decide) (Or.inl (Or.inr (by decide)))]
        exact hM k hk m hm
      have q52 : xk (f_X4_add (xI b 150 (xe σ0 2 i) (nI f)) q (xe σ0 2 i)).2 q = 5 := by
        show (f_X4_add (xI b 150 (xe σ0 2 i) (nI f)) q (xe σ0 2 i)).2.1 q = 5
        rw [f2.1]; exact hq
      obtain ⟨s7, s1, sd1, sd2, sd3, sd4, -⟩ := hS.2.2.2.2.1 i hi
      rw [ex] at sd1 sd3 sd4
      obtain ⟨r0, r1, r2, r3, r4, r5, r6, r7, r8, r9⟩ := p2
      have bM := qMan_b (s := s) (n := n) (f := f) (i := i) (by omega)
      have bL := qLen_b (s := s) (n := n) (f := f) (i := i) hs hn (by omega)
      have bB := qByl_b (s := s) (n := n) (f := f) (i := i) hs hn (by omega)
      have bR := qBri_b (s := s) (n := n) (f := f) (i := i) hs (by omega)
      have bP := qPr_b (s := s) (n := n) (f := f) (i := i) hn (by omega)
      have b5 := qX_b (s := s) (n := n) (b := 5) (f := f) (i := i) hs hn (by omega) (Or.inl rfl)
      have b7 := qX_b (s := s) (n := n) (b := 7) (f := f) (i := i) hs hn (by omega) (Or.inr rfl)
      have g6 := (a7 106 (by omega)).trans (show xj (xI b 150 (xe σ0 2 i) (nI f)) 106 q = xj b 106 q from rfl)
      have g7 := (a7 107 (by omega)).trans (show xj (xI b 150 (xe σ0 2 i) (nI f)) 107 q = xj b 107 q from rfl)
      have g8 := (a7 108 (by omega)).trans (show xj (xI b 150 (xe σ0 2 i) (nI f)) 108 q = xj b 108 q from rfl)
      have g9 := (a7 109 (by omega)).trans (show xj (xI b 150 (xe σ0 2 i) (nI f)) 109 q = xj b 109 q from rfl)
      have g2 := (a8 q).trans (show xi (xI b 150 (xe σ0 2 i) (nI f)) 102 q = xi b 102 q from rfl)
      have hRb : RPb q (f_X4_add (xI b 150 (xe σ0 2 i) (nI f)) q (xe σ0 2 i)).2 := by
        unfold RPb
        rw [g6, g7, g8, g9, g2, r2, r6, r7, r8, r9]
        exact ⟨bP, b5.1, b5.2, b7.1, b7.2⟩
      obtain ⟨t1, t2, t3⟩ := addPl_i hS2 hs hM2 hi q52 hRb
      rw [gf_xe f2] at t1 t2 t3
      refine ⟨⟨fun z => absurd z c1, fun _ => ⟨fun z => absurd z i_1ne0, fun _ => ⟨vi, i7, ⟨i7, q5, q5, i7, trivial⟩, q5, t1, trivial⟩⟩⟩, _, rfl, gf_tr f2 (gf_af t2), ?_, fun k hk => ?_⟩
      · obtain ⟨y2, y6, y7, y8, y9⟩ := t3
        have w0 := t2.2.1 100 q (Or.inl (by decide))
        have w1 := t2.2.1 101 q (Or.inl (by decide))
        have w3 := t2.2.2.1 103 q (by decide) (by decide) (Or.inl (Or.inl (by decide)))
        have w4 := t2.2.2.1 104 q (by decide) (by decide) (Or.inl (Or.inl (by decide)))
        have w5 := t2.2.2.1 105 q (by decide) (by decide) (Or.inl (Or.inl (by decide)))
        have hnight : s i 1 = s f 1 := by
          have := cn_inv (J := JJ s n) (a := fun k => s k 1) (fun k m z => JJ_night z) (low_spec (JJ s n) i).1
          rw [c] at this; exact this
        obtain ⟨-, -, d3, d4, -⟩ := hs i hi
        have l3 : B6 ((s i 3).toInt64) (vv s i 3) 60 := b6_i32 rfl (by omega)
        have l4 : B6 ((s i 4).toInt64) (vv s i 4) 1000 := b6_i32 rfl (by omega)
        have l43 := b6_mul l4 l3 (by omega)
        refine ⟨fun _ => ?_, ?_, ?_, ?_, ?_, ?_, ?_, ?_, ?_, ?_⟩
        · rw [w0, a2]
          exact sd1.trans hnight
        · rw [w1, a3]
          show (xi b 101 q + 1).toInt = qMan s n f i + gM s n f (fun _ => 1) i
          rw [gM_y c]
          exact i32_inc r1 bM.1 (by omega)
        · show _ = qPr s n f i + gM s n f (fun k => pP s n k k) i
          rw [gM_y c, y2, g2, r2]
        · show _ = qLen s n f i + gM s n f (fun k => vv s k 3) i
          rw [gM_y c, w3, a4]
          show (xj b 103 q + (xi b 143 (xe σ0 2 i)).toInt64).toInt = _
          rw [sd3]
          exact b6_plus (m := 3600) r3 (by omega) l3 (by omega)
        · show _ = qByl s n f i + gM s n f (fun k => vv s k 4 * vv s k 3) i
          rw [gM_y c, w4, a5]
          show (xj b 104 q + (xi b 144 (xe σ0 2 i)).toInt64 * (xi b 143 (xe σ0 2 i)).toInt64).toInt = _
          rw [sd3, sd4]
          exact b6_plus (m := 3600000) r4 (by omega) l43 (by omega)
        · show _ = max (qBri s n f i) (gM s n f (fun k => vv s k 4) i)
          rw [gM_y c, w5, a6]
          show (f_J9_max_f86c9 (xj b 105 q) ((xi b 144 (xe σ0 2 i)).toInt64)).toInt = _
          rw [sd4]
          exact (b6_max (m := 1000) ⟨r5, by omega⟩ l4).1
        · show _ = qX s n 5 f i + gM s n f (fun k => pX s n 5 k k) i
          rw [gM_y c, y6, g6, r6]
        · show _ = qY s n 5 f i + gM s n f (fun k => pY s n 5 k k) i
          rw [gM_y c, y7, g7, r7]
        · show _ = qX s n 7 f i + gM s n f (fun k => pX s n 7 k k) i
          rw [gM_y c, y8, g8, r8]
        · show _ = qY s n 7 f i + gM s n f (fun k => pY s n 7 k k) i
          rw [gM_y c, y9, g9, r9]
      · rw [t2.2.1 150 _ (Or.inl (by decide)), a9, xi_at]
        by_cases ck : k = i
        · subst ck
          rw [if_pos rfl, if_pos ⟨by omega, c⟩]
        · have hki : ¬ xe σ0 2 k = xe σ0 2 i := fun z => ck (inj k i hk hi z)
          rw [if_neg hki, p3 k hk]
          by_cases cl : k < i ∧ low (JJ s n) k = f
          · rw [if_pos cl, if_pos ⟨by omega, cl.2⟩]
          · rw [if_neg cl, if_neg (fun z => cl ⟨by omega, z.2⟩)]
    · rw [if_neg (fun z => c (hmem.mp z)), if_pos rfl]
      unfold f_X10_gatherInto_l9_69
      refine ⟨⟨fun z => absurd z c1, fun _ => ⟨fun _ => trivial, fun z => absurd rfl z⟩⟩, b, rfl, p1, ?_, fun k hk => ?_⟩
      · obtain ⟨r0, r1, r2, r3, r4, r5, r6, r7, r8, r9⟩ := p2
        have bR := (qBri_b (s := s) (n := n) (f := f) (i := i) hs (by omega)).1
        refine ⟨fun z => ?_, ?_, ?_, ?_, ?_, ?_, ?_, ?_, ?_, ?_⟩
        · obtain ⟨k, k1, k2⟩ := z
          by_cases ck : k = i
          · rw [ck] at k2; exact absurd k2 c
          · exact r0 ⟨k, by omega, k2⟩
        · rw [r1]; show _ = qMan s n f i + gM s n f (fun _ => 1) i; rw [gM_n c, Int.add_zero]
        · rw [r2]; show _ = qPr s n f i + gM s n f (fun k => pP s n k k) i; rw [gM_n c, Int.add_zero]
        · rw [r3]; show _ = qLen s n f i + gM s n f (fun k => vv s k 3) i; rw [gM_n c, Int.add_zero]
        · rw [r4]; show _ = qByl s n f i + gM s n f (fun k => vv s k 4 * vv s k 3) i; rw [gM_n c, Int.add_zero]
        · rw [r5]; show _ = max (qBri s n f i) (gM s n f (fun k => vv s k 4) i); rw [gM_n c]; omega
        · rw [r6]; show _ = qX s n 5 f i + gM s n f (fun k => pX s n 5 k k) i; rw [gM_n c, Int.add_zero]
        · rw [r7]; show _ = qY s n 5 f i + gM s n f (fun k => pY s n 5 k k) i; rw [gM_n c, Int.add_zero]
        · rw [r8]; show _ = qX s n 7 f i + gM s n f (fun k => pX s n 7 k k) i; rw [gM_n c, Int.add_zero]
        · rw [r9]; show _ = qY s n 7 f i + gM s n f (fun k => pY s n 7 k k) i; rw [gM_n c, Int.add_zero]
      · rw [p3 k hk]
        by_cases cl : k < i ∧ low (JJ s n) k = f
        · rw [if_pos cl, if_pos ⟨by omega, cl.2⟩]
        · rw [if_neg cl, if_neg (fun z => by
            by_cases ck : k = i
            · rw [ck] at z; exact c z.2
            · exact cl ⟨by omega, z.2⟩)]
  · intro b hP
    have hS := sx_f h (xf_gf hP.1)
    have c1 : nI n ≤ nI n := Int32.le_refl _
    show ob_X10_gatherInto_9 x q (nI f) w (nI n) b ∧ b_X10_gatherInto_9 x q (nI f) w (nI n) b = _
    unfold ob_X10_gatherInto_9 b_X10_gatherInto_9
    rw [hS.2.1, if_pos c1]
    exact ⟨⟨fun _ => trivial, fun z => absurd c1 z⟩, rfl⟩
