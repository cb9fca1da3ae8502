/-! ===== the class gathers a fireball ===== -/
theorem xJ_z {σ : XS} {c q a z : Nat} {v : Int64} (h : a ≠ c ∨ z ≠ q) : xj (xJ σ c q v) a z = xj σ a z := by
  show up2 σ.2.2.1 c q v a z = _
  rw [up2_at]
  by_cases h1 : a = c
  · rw [if_pos h1, if_neg (h.resolve_left (fun g => g h1))]; rfl
  · rw [if_neg h1]; rfl
theorem xI_z {σ : XS} {c q a z : Nat} {v : Int32} (h : a ≠ c ∨ z ≠ q) : xi (xI σ c q v) a z = xi σ a z := by
  show up2 σ.2.1 c q v a z = _
  rw [up2_at]
  by_cases h1 : a = c
  · rw [if_pos h1, if_neg (h.resolve_left (fun g => g h1))]; rfl
  · rw [if_neg h1]; rfl
/-- what adding pairs to row q may change -/
def AF (q : Nat) (σ σ' : XS) : Prop := σ'.1 = σ.1 ∧ (∀ c z, c ≠ 102 ∨ z ≠ q → xi σ' c z = xi σ c z) ∧ (∀ c z, c ≠ 60 → c ≠ 61 → (c < 106 ∨ 109 < c) ∨ z ≠ q → xj σ' c z = xj σ c z) ∧ σ'.2.2.2 = σ.2.2.2
theorem af_refl (q : Nat) (σ : XS) : AF q σ σ := ⟨rfl, fun _ _ _ => rfl, fun _ _ _ _ _ => rfl, rfl⟩
theorem af_tr {q : Nat} {a b c : XS} (h : AF q a b) (g : AF q b c) : AF q a c := ⟨g.1.trans h.1, fun k z h1 => (g.2.1 k z h1).trans (h.2.1 k z h1), fun k z h1 h2 h3 => (g.2.2.1 k z h1 h2 h3).trans (h.2.2.1 k z h1 h2 h3), g.2.2.2.trans h.2.2.2⟩
theorem af_px {q : Nat} {a b : XS} (h : PX a b) : AF q a b := ⟨h.1, fun c z _ => by show b.2.1 c z = a.2.1 c z; rw [h.2.1], fun c z h1 h2 _ => by show b.2.2.1 c z = a.2.2.1 c z; rw [h.2.2.1 c h1 h2], h.2.2.2⟩
theorem xf_af {q : Nat} {a b : XS} (h : AF q a b) : XF a b := ⟨h.1, fun c _ _ _ _ h5 _ _ => by funext z; exact h.2.1 c z (Or.inl h5), h.2.2.2⟩
theorem af_xe {q : Nat} {a b : XS} (h : AF q a b) (j i : Nat) : xe b j i = xe a j i := by
  show b.2.2.2.2.2 j i = a.2.2.2.2.2 j i
  rw [h.2.2.2]
theorem addPair_i (σ : XS) (q p1 p2 : Nat) : AF q σ (f_X4_addPair σ q p1 p2).2 ∧ xi (f_X4_addPair σ q p1 p2).2 102 q = xi σ 102 q + 1 ∧ xj (f_X4_addPair σ q p1 p2).2 106 q = xj σ 106 q + xj σ 60 p1 ∧ xj (f_X4_addPair σ q p1 p2).2 107 q = xj σ 107 q + xj σ 61 p1 ∧ xj (f_X4_addPair σ q p1 p2).2 108 q = xj σ 108 q + xj σ 60 p2 ∧ xj (f_X4_addPair σ q p1 p2).2 109 q = xj σ 109 q + xj σ 61 p2 := by
  have e : (f_X4_addPair σ q p1 p2).2 = xJ (xJ (xJ (xJ (xI σ 102 q ((xi σ 102 q) + 1)) 106 q ((xj σ 106 q) + (xj σ 60 p1))) 107 q ((xj σ 107 q) + (xj σ 61 p1))) 108 q ((xj σ 108 q) + (xj σ 60 p2))) 109 q ((xj σ 109 q) + (xj σ 61 p2)) := rfl
  rw [e]
  refine ⟨⟨rfl, fun c z h => ?_, fun c z h1 h2 h3 => ?_, rfl⟩, ?_, ?_, ?_, ?_, ?_⟩
  · exact xI_z h
  · rw [xJ_z (h3.imp (fun g => by omega) id), xJ_z (h3.imp (fun g => by omega) id), xJ_z (h3.imp (fun g => by omega) id), xJ_z (h3.imp (fun g => by omega) id)]
    rfl
  · show xi (xI σ 102 q ((xi σ 102 q) + 1)) 102 q = _
    rw [xi_at, if_pos rfl]
  · rw [xJ_z (Or.inl (by decide)), xJ_z (Or.inl (by decide)), xJ_z (Or.inl (by decide)), xj_at, if_pos rfl]
  · rw [xJ_z (Or.inl (by decide)), xJ_z (Or.inl (by decide)), xj_at, if_pos rfl]
  · rw [xJ_z (Or.inl (by decide)), xj_at, if_pos rfl]
  · rw [xj_at, if_pos rfl]
theorem i32_inc {a : Int32} {A : Int} (h : a.toInt = A) (h0 : 0 ≤ A) (h1 : A < 1000000) : (a + 1).toInt = A + 1 := by
  have e1 : (1 : Int32).toInt = 1 := by decide
  rw [i32_add (m := 1000000) (by rw [h, e1]; omega) (by omega), h, e1]
theorem b6_plus {a b : Int64} {A C : Int} {m n : Nat} (ha : a.toInt = A) (hA : A.natAbs ≤ m) (hb : B6 b C n) (h : m + n < 9223372036854775808) : (a + b).toInt = A + C := (b6_add ⟨ha, hA⟩ hb h).1
/-- the sums of row q while the pairs of sighting i are added -/
def RP (s : Nat → Nat → Int32) (n : Nat) (q i j : Nat) (σ0 σ : XS) : Prop := (xi σ 102 q).toInt = (xi σ0 102 q).toInt + pP s n i j ∧ (xj σ 106 q).toInt = (xj σ0 106 q).toInt + pX s n 5 i j ∧ (xj σ 107 q).toInt = (xj σ0 107 q).toInt + pY s n 5 i j ∧ (xj σ 108 q).toInt = (xj σ0 108 q).toInt + pX s n 7 i j ∧ (xj σ 109 q).toInt = (xj σ0 109 q).toInt + pY s n 7 i j
def RPb (q : Nat) (σ0 : XS) : Prop := (0 ≤ (xi σ0 102 q).toInt ∧ (xi σ0 102 q).toInt ≤ 3600) ∧ (xj σ0 106 q).toInt.natAbs ≤ 712835640000 ∧ (xj σ0 107 q).toInt.natAbs ≤ 712835640000 ∧ (xj σ0 108 q).toInt.natAbs ≤ 712835640000 ∧ (xj σ0 109 q).toInt.natAbs ≤ 712835640000
theorem cross2 {b : XS} {x n : Nat} {s : Nat → Nat → Int32} (h : SX b x n s) (hs : Sok s n) {i j : Nat} (hi : i < n) (hj : j < n) (s5 : sB s 5 i j = true) (s7 : sB s 7 i j = true) : ∃ σ1 σ2, f_X2_isOfBegins b (x + 5) (xe b 2 i) (xe b 2 j) = (1, σ1) ∧ of_X2_isOfBegins b (x + 5) (xe b 2 i) (xe b 2 j) ∧ f_X2_isOfEnds σ1 (x + 6) (xe b 2 i) (xe b 2 j) = (1, σ2) ∧ of_X2_isOfEnds σ1 (x + 6) (xe b 2 i) (xe b 2 j) ∧ PX b σ1 ∧ PX σ1 σ2 ∧ xj σ2 60 (x + 5) = Int64.ofInt (sX s 5 i j) ∧ xj σ2 61 (x + 5) = Int64.ofInt (sY s 5 i j) ∧ xj σ2 60 (x + 6) = Int64.ofInt (sX s 7 i j) ∧ xj σ2 61 (x + 6) = Int64.ofInt (sY s 7 i j) := by
  obtain ⟨g1, g2⟩ := xbegins_i h hs hi hj (q0 := x + 5) h.2.2.1
  rw [if_pos s5] at g1
  have n56 : x + 5 ≠ x + 6 := by omega
  have hpx : PX b (xJ (xJ b 60 (x + 5) (Int64.ofInt (sX s 5 i j))) 61 (x + 5) (Int64.ofInt (sY s 5 i j))) := xcr_px (σ := b) (b := true) (q := x + 5) (a := Int64.ofInt (sX s 5 i j)) (c := Int64.ofInt (sY s 5 i j))
  have y1 : xj (xJ (xJ b 60 (x + 5) (Int64.ofInt (sX s 5 i j))) 61 (x + 5) (Int64.ofInt (sY s 5 i j))) 60 (x + 5) = Int64.ofInt (sX s 5 i j) := by rw [xJ_z (Or.inl (by decide)), xj_at, if_pos rfl]
  have y2 : xj (xJ (xJ b 60 (x + 5) (Int64.ofInt (sX s 5 i j))) 61 (x + 5) (Int64.ofInt (sY s 5 i j))) 61 (x + 5) = Int64.ofInt (sY s 5 i j) := by rw [xj_at, if_pos rfl]
  obtain ⟨σ1, e1⟩ : ∃ t, xJ (xJ b 60 (x + 5) (Int64.ofInt (sX s 5 i j))) 61 (x + 5) (Int64.ofInt (sY s 5 i j)) = t := ⟨_, rfl⟩
  rw [e1] at g1 hpx y1 y2
  have hS1 := sx_f h (xf_px hpx)
  obtain ⟨g3, g4⟩ := xends_i hS1 hs hi hj (q0 := x + 6) hS1.2.2.2.1
  have ex : ∀ k, xe σ1 2 k = xe b 2 k := fun k => by show σ1.2.2.2.2.2 2 k = b.2.2.2.2.2 2 k; rw [hpx.2.2.2]
  rw [ex, ex, if_pos s7] at g3
  rw [ex, ex] at g4
  refine ⟨σ1, _, g1, g2, g3, g4, hpx, xcr_px (σ := σ1) (b := true) (q := x + 6) (a := Int64.ofInt (sX s 7 i j)) (c := Int64.ofInt (sY s 7 i j)), ?_, ?_, ?_, ?_⟩
  · rw [xJ_z (Or.inl (by decide)), xJ_z (Or.inr n56)]; exact y1
  · rw [xJ_z (Or.inr n56), xJ_z (Or.inl (by decide))]; exact y2
  · rw [xJ_z (Or.inl (by decide)), xj_at, if_pos rfl]
  · rw [xj_at, if_pos rfl]
theorem rp_step {s : Nat → Nat → Int32} {n q i j : Nat} {σ0 b σ3 : XS} (hs : Sok s n) (hn : n ≤ 60) (hi : i < n) (hj : j < i) (c : JJ s n i j = true) (s5 : sB s 5 i j = true) (s7 : sB s 7 i j = true) (hb : RPb q σ0) (p2 : RP s n q i j σ0 b) (t2 : xi σ3 102 q = xi b 102 q + 1) (t3 : xj σ3 106 q = xj b 106 q + Int64.ofInt (sX s 5 i j)) (t4 : xj σ3 107 q = xj b 107 q + Int64.ofInt (sY s 5 i j)) (t5 : xj σ3 108 q = xj b 108 q + Int64.ofInt (sX s 7 i j)) (t6 : xj σ3 109 q = xj b 109 q + Int64.ofInt (sY s 7 i j)) : RP s n q i (j + 1) σ0 σ3 := by
  obtain ⟨hb1, hb2, hb3, hb4, hb5⟩ := hb
  obtain ⟨r1, r2, r3, r4, r5⟩ := p2
  have hjn : j < n := by omega
  have rb := pP_b (s := s) (n := n) (k := i) (j := j) (by omega)
  obtain ⟨x5, y5⟩ := pX_b (s := s) (n := n) (b := 5) (k := i) (j := j) hs hn hi (by omega) (Or.inl rfl)
  obtain ⟨x7, y7⟩ := pX_b (s := s) (n := n) (b := 7) (k := i) (j := j) hs hn hi (by omega) (Or.inr rfl)
  obtain ⟨u5, w5⟩ := sX_ab hs hi hjn (Or.inl rfl) s5
  obtain ⟨u7, w7⟩ := sX_ab hs hi hjn (Or.inr rfl) s7
  have eP : pP s n i (j + 1) = pP s n i j + 1 := congrArg (pP s n i j + ·) (if_pos c)
  have eX : ∀ b, pX s n b i (j + 1) = pX s n b i j + sX s b i j := fun b => congrArg (pX s n b i j + ·) (if_pos c)
  have eY : ∀ b, pY s n b i (j + 1) = pY s n b i j + sY s b i j := fun b => congrArg (pY s n b i j + ·) (if_pos c)
  have B : ∀ {a d : Int}, a.natAbs ≤ 712835640000 → d.natAbs ≤ 11880594000 → (a + d).natAbs ≤ 1000000000000 := fun h1 h2 => by omega
  unfold RP
  rw [t2, t3, t4, t5, t6, eP, eX, eX, eY, eY]
  refine ⟨(i32_inc r1 (by omega) (by omega)).trans (Int.add_assoc _ _ _), ?_, ?_, ?_, ?_⟩
  · exact (b6_plus r2 (B hb2 x5) (b6_of u5 (by decide)) (by decide)).trans (Int.add_assoc _ _ _)
  · exact (b6_plus r3 (B hb3 y5) (b6_of w5 (by decide)) (by decide)).trans (Int.add_assoc _ _ _)
  · exact (b6_plus r4 (B hb4 x7) (b6_of u7 (by decide)) (by decide)).trans (Int.add_assoc _ _ _)
  · exact (b6_plus r5 (B hb5 y7) (b6_of w7 (by decide)) (by decide)).trans (Int.add_assoc _ _ _)
theorem addPl_i {σ : XS} {x n : Nat} {s : Nat → Nat → Int32} (h : SX σ x n s) (hs : Sok s n) (hM : MK σ n (JJ s n)) {i : Nat} (hi : i < n) {q : Nat} (hq : xk σ q = 5) (hb : RPb q σ) : of_X10_addPlaces σ x q (xe σ 2 i) (nI i) ∧ AF q σ (f_X10_addPlaces σ x q (xe σ 2 i) (nI i)).2 ∧ RP s n q i i σ (f_X10_addPlaces σ x q (xe σ 2 i) (nI i)).2 := by
  have hn := h.1
  obtain ⟨hb1, hb2, hb3, hb4, hb5⟩ := hb
  have hl := itr_for (f := s_X10_addPlaces_3 x q (xe σ 2 i) (nI i)) (o := os_X10_addPlaces_3 x q (xe σ 2 i) (nI i)) (fun j (b : XS) => (nI j, b)) (fun j b => AF q σ b ∧ RP s n q i j σ b) (n := i) ?_ ?_ FU 0 σ (by omega) (by unfold FU; omega) ⟨af_refl q σ, by unfold RP pP pX pY sm; omega⟩
  · obtain ⟨l1, σ', l2, l3⟩ := hl
    have e : (f_X10_addPlaces σ x q (xe σ 2 i) (nI i)).2 = σ' := by
      have l2 : itr (s_X10_addPlaces_3 x q (xe σ 2 i) (nI i)) FU (0, σ) = (nI i, σ') := l2
      show (itr (s_X10_addPlaces_3 x q (xe σ 2 i) (nI i)) FU (0, σ)).2 = σ'
      rw [l2]
    rw [e]
    exact ⟨⟨l1, trivial⟩, l3⟩
  · intro j b hj hP
    obtain ⟨p1, p2⟩ := hP
    have hjn : j < n := by omega
    have hS := sx_f h (xf_af p1)
    have ex : ∀ k, xe b 2 k = xe σ 2 k := af_xe p1 2
    have c1 : ¬ nI i ≤ nI j := by rw [nI_leI (by omega) (by omega)]; omega
    have c2 : ¬ nI n ≤ nI j := by rw [nI_leI (by omega) (by omega)]; omega
    have e2 : ix (nI j) = j := clamp_nI (by omega)
    have vj : vp_in (nI j) n := nI_in hjn (by omega)
    have i7 : xk b (xe σ 2 i) = 7 := by have := (hS.2.2.2.2.1 i hi).1; rw [ex] at this; exact this
    have j7 : xk b (xe σ 2 j) = 7 := by have := (hS.2.2.2.2.1 j hjn).1; rw [ex] at this; exact this
    have q5 : xk b q = 5 := by show b.1 q = 5; rw [p1.1]; exact hq
    have hjo : xj b 149 (xe σ 2 i) = xj σ 149 (xe σ 2 i) := p1.2.2.1 149 _ (by decide) (by decide) (Or.inl (Or.inr (by decide)))
    have hJ := JJ_gt (s := s) (n := n) hj hi
    show ob_X10_addPlaces_3 x q (xe σ 2 i) (nI i) (nI j) b ∧ ∃ b', b_X10_addPlaces_3 x q (xe σ 2 i) (nI i) (nI j) b = (true, (nI (j + 1), b')) ∧ _
    unfold ob_X10_addPlaces_3 b_X10_addPlaces_3
    rw [hS.2.1, e2, ex, hjo, holds_i _ (by omega), mk_all hn hM hi, if_neg c1, if_neg c2]
    by_cases c : JJ s n i j = true
    · obtain ⟨s5, s7⟩ := jn_B (hJ.symm.trans c)
      obtain ⟨σ1, σ2, g1, g2, g3, g4, hpx, hpx2, z1, z2, z3, z4⟩ := cross2 hS hs hi hjn s5 s7
      rw [ex, ex] at g1 g2 g3 g4
      have hS1 := sx_f hS (xf_px hpx)
      have hS2 := sx_f hS1 (xf_px hpx2)
      have q52 : xk σ2 q = 5 := by show σ2.1 q = 5; rw [hpx2.1, hpx.1]; exact q5
      obtain ⟨t1, t2, t3, t4, t5, t6⟩ := addPair_i σ2 q (x + 5) (x + 6)
      have f12 := af_tr (af_px (q := q) hpx) (af_px hpx2)
      rw [z1] at t3
      rw [z2] at t4
      rw [z3] at t5
      rw [z4] at t6
      have pi : xi σ2 102 q = xi b 102 q := by show σ2.2.1 102 q = b.2.1 102 q; rw [hpx2.2.1, hpx.2.1]
      have pj : ∀ c, c ≠ 60 → c ≠ 61 → xj σ2 c q = xj b c q := fun c h1 h2 => by show σ2.2.2.1 c q = b.2.2.1 c q; rw [hpx2.2.2.1 c h1 h2, hpx.2.2.1 c h1 h2]
      rw [pi] at t2
      rw [pj 106 (by decide) (by decide)] at t3
      rw [pj 107 (by decide) (by decide)] at t4
      rw [pj 108 (by decide) (by decide)] at t5
      rw [pj 109 (by decide) (by decide)] at t6
      have hR := rp_step hs hn hi hj c s5 s7 ⟨hb1, hb2, hb3, hb4, hb5⟩ p2 t2 t3 t4 t5 t6
      rw [if_pos c, if_neg i_1ne0, g1]
      unfold f_X10_addPlaces_l3_61 of_X10_addPlaces_l3_61
      dsimp only
      rw [g3]
      unfold f_X10_addPlaces_l3_74 of_X10_addPlaces_l3_74 f_X10_addPlaces_l3_89
      dsimp only
      rw [if_neg i_1ne0, if_neg i_1ne0, nI_succ]
      exact ⟨⟨fun z => absurd z c1, fun _ => ⟨fun z => absurd z c2, fun _ => ⟨vj, j7, i7, fun z => absurd z i_1ne0, fun _ => ⟨g2, hS.2.2.1, fun z => absurd z i_1ne0, fun _ => ⟨g4, hS1.2.2.2.1, fun z => absurd z i_1ne0, fun _ => ⟨⟨q52, hS2.2.2.1, hS2.2.2.2.1, q52, hS2.2.2.2.1, trivial⟩, q52, trivial⟩⟩⟩⟩⟩⟩, _, rfl, af_tr p1 (af_tr f12 t1), hR⟩
    · rw [if_neg c, if_pos rfl]
      unfold f_X10_addPlaces_l3_89
      rw [nI_succ]
      refine ⟨⟨fun z => absurd z c1, fun _ => ⟨fun z => absurd z c2, fun _ => ⟨vj, j7, i7, fun _ => trivial, fun z => absurd rfl z⟩⟩⟩, b, rfl, p1, ?_⟩
      have eP : pP s n i (j + 1) = pP s n i j := by
        show pP s n i j + (if JJ s n i j = true then 1 else 0) = _
        rw [if_neg c]; omega
      have eX : ∀ b, pX s n b i (j + 1) = pX s n b i j := fun b => by
        show pX s n b i j + (if JJ s n i j = true then sX s b i j else 0) = _
        rw [if_neg c]; omega
      have eY : ∀ b, pY s n b i (j + 1) = pY s n b i j := fun b => by
        show pY s n b i j + (if JJ s n i j = true then sY s b i j else 0) = _
        rw [if_neg c]; omega
      unfold RP at p2 ⊢
      rw [eP, eX, eX, eY, eY]
      exact p2
  · intro b hP
    have c1 : nI i ≤ nI i := Int32.le_refl _
    show ob_X10_addPlaces_3 x q (xe σ 2 i) (nI i) (nI i) b ∧ b_X10_addPlaces_3 x q (xe σ 2 i) (nI i) (nI i) b = _
    unfold ob_X10_addPlaces_3 b_X10_addPlaces_3
    rw [if_pos c1]
    exact ⟨⟨fun _ => trivial, fun z => absurd c1 z⟩, rfl⟩
