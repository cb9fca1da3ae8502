/-! ===== cameras, clouds ===== -/
theorem cam_ex {σ : XS} {x : Nat} {μ : MS} {n0 : Nat} (p : Int32) (h : RCam σ μ n0) : of_X10_existingCamera σ x p ∧ of_X11_isCamera μ p ∧ ((∃ j, j < n0 ∧ p = nI j ∧ ix p = j ∧ vp_in p 10 ∧ f_X10_existingCamera σ x p = .ok (xe σ 0 j) ∧ f_X11_isCamera μ p = 1 ∧ xk σ (xe σ 0 j) = 1) ∨ (¬ (¬ p < 0 ∧ p < nI n0) ∧ f_X10_existingCamera σ x p = .error 3 ∧ f_X11_isCamera μ p = 0)) := by
  obtain ⟨h10, hn, ⟨hl, hk, -⟩, -⟩ := h
  have hlt : n0 < 2 ^ 31 := by omega
  by_cases hp : ¬ p < 0 ∧ p < nI n0
  · obtain ⟨j, hj, rfl⟩ := in_nat hlt ((in_iff hlt).mpr hp)
    have hix : ix (nI j) = j := clamp_nI (by omega)
    have hi : f_X11_isIn (nI j) 0 (nI n0 - 1) = 1 := isIn_y (nat_in hlt hj)
    have hv : vp_in (nI j) n0 := nI_in hj hlt
    refine ⟨?_, ?_, Or.inl ⟨j, hj, rfl, hix, nI_in (by omega) (by decide), ?_, ?_, hk j hj⟩⟩
    · refine ⟨fun h => absurd h hp.1, fun _ => ⟨fun _ => ⟨by rw [hl]; exact hv, by rw [hix]; exact hk j hj, trivial⟩, fun _ => trivial⟩⟩
    · exact ⟨by rw [hn, hi]; exact Or.inr rfl, trivial⟩
    · unfold f_X10_existingCamera
      rw [if_neg hp.1, hl, if_pos hp.2, hix]
    · unfold f_X11_isCamera
      rw [hn, hi]
  · have hi : f_X11_isIn p 0 (nI n0 - 1) = 0 := isIn_n (fun h => hp ((in_iff hlt).mp h))
    refine ⟨?_, ?_, Or.inr ⟨hp, ?_, ?_⟩⟩
    · refine ⟨fun _ => trivial, fun h1 => ⟨fun h2 => absurd ⟨h1, by rw [hl] at h2; exact h2⟩ hp, fun _ => trivial⟩⟩
    · exact ⟨by rw [hn, hi]; exact Or.inl rfl, trivial⟩
    · unfold f_X10_existingCamera f_X10_existingCamera_17
      by_cases h1 : p < 0
      · rw [if_pos h1]
      · rw [if_neg h1, hl, if_neg (fun h2 => hp ⟨h1, h2⟩)]
    · unfold f_X11_isCamera
      rw [hn, hi]
/-- the clouds of camera c in the nights a .. b -/
def clB (μ : MS) (c : Int32) (a b : Int32) (j : Nat) : Bool := decide (mi μ 6 j = c ∧ a ≤ mi μ 7 j ∧ mi μ 7 j ≤ b)
theorem i32_nlt {a b : Int32} : ¬ a < b ↔ b ≤ a := by
  rw [Int32.lt_iff_toInt_lt, Int32.le_iff_toInt_le]; omega
theorem i32_nle {a b : Int32} : ¬ a ≤ b ↔ b < a := by
  rw [Int32.lt_iff_toInt_lt, Int32.le_iff_toInt_le]; omega
theorem cdn_s {G : Nat → Bool} {j : Nat} : cdn G (j + 1) = cdn G j + if G j = true then 1 else 0 := rfl
theorem cn_i {σ : XS} {x : Nat} {μ : MS} {n0 n1 : Nat} (hc : RCam σ μ n0) (h : RClo σ μ n0 n1) {c : Nat} (hcn : c < n0) (a b : Int32) : of_X10_cloudyNights σ x (xe σ 0 c) a b ∧ f_X10_cloudyNights σ x (xe σ 0 c) a b = nI (cdn (clB μ (nI c) a b) n1) := by
  obtain ⟨h50, hn, ⟨hl, hk, -⟩, hf, -⟩ := h
  obtain ⟨h10, -, ⟨-, ck, cinj⟩, -⟩ := hc
  have hl9 := itr_for (f := s_X10_cloudyNights_6 x (xe σ 0 c) a b σ) (o := os_X10_cloudyNights_6 x (xe σ 0 c) a b σ) (fun j (w : Int32) => (w, nI j)) (fun j w => w = nI (cdn (clB μ (nI c) a b) j)) (n := n1) ?_ ?_ FU 0 0 (by omega) (by unfold FU; omega) rfl
  · obtain ⟨l1, w, l2, l3⟩ := hl9
    refine ⟨⟨l1, trivial⟩, ?_⟩
    have l2 : itr (s_X10_cloudyNights_6 x (xe σ 0 c) a b σ) FU (0, 0) = (w, nI n1) := l2
    show (itr (s_X10_cloudyNights_6 x (xe σ 0 c) a b σ) FU (0, 0)).1 = _
    rw [l2, l3]
  · intro j w hj hw
    obtain ⟨d, d1, d2, d3, d4, d5⟩ := hf j hj
    have c1 : ¬ nI n1 ≤ nI j := by rw [nI_leI (by omega) (by omega)]; omega
    have e1 : ix (nI j) = j := clamp_nI (by omega)
    have ceq : xe σ 0 d = xe σ 0 c ↔ mi μ 6 j = nI c := by
      rw [d2, nI_eq (by omega) (by omega)]
      exact ⟨fun z => cinj d c d1 hcn z, fun z => by rw [z]⟩
    show ob_X10_cloudyNights_6 x (xe σ 0 c) a b σ w (nI j) ∧ ∃ w', b_X10_cloudyNights_6 x (xe σ 0 c) a b σ w (nI j) = (true, (w', nI (j + 1))) ∧ _
    unfold ob_X10_cloudyNights_6 b_X10_cloudyNights_6 f_X10_cloudyNights_l6_66
    rw [hl, e1, if_neg c1, d3, d4, nI_succ]
    refine ⟨⟨fun z => absurd z c1, fun _ => ⟨nI_in hj (by omega), hk j hj, ck d d1, trivial⟩⟩, ?_⟩
    have no : clB μ (nI c) a b j = false → w = nI (cdn (clB μ (nI c) a b) (j + 1)) := fun z => by rw [cdn_s, z, hw]; rfl
    by_cases q1 : xe σ 0 d = xe σ 0 c
    · rw [if_pos q1]
      by_cases q2 : mi μ 7 j < a
      · rw [if_pos q2]
        exact ⟨w, rfl, no (decide_eq_false (fun z => i32_nlt.mpr z.2.1 q2))⟩
      · rw [if_neg q2]
        by_cases q3 : b < mi μ 7 j
        · rw [if_pos q3]
          exact ⟨w, rfl, no (decide_eq_false (fun z => i32_nlt.mpr z.2.2 q3))⟩
        · rw [if_neg q3]
          refine ⟨w + 1, rfl, ?_⟩
          have : clB μ (nI c) a b j = true := decide_eq_true ⟨ceq.mp q1, i32_nlt.mp q2, i32_nlt.mp q3⟩
          rw [cdn_s, this, if_pos rfl, hw, nI_succ]
    · rw [if_neg q1]
      exact ⟨w, rfl, no (decide_eq_false (fun z => q1 (ceq.mpr z.1)))⟩
  · intro w _
    have c1 : nI n1 ≤ nI n1 := Int32.le_refl _
    show ob_X10_cloudyNights_6 x (xe σ 0 c) a b σ w (nI n1) ∧ b_X10_cloudyNights_6 x (xe σ 0 c) a b σ w (nI n1) = _
    unfold ob_X10_cloudyNights_6 b_X10_cloudyNights_6
    rw [hl, if_pos c1]
    exact ⟨⟨fun _ => trivial, fun z => absurd c1 z⟩, rfl⟩
theorem cdn_ex {G : Nat → Bool} : ∀ n, (0 < cdn G n ↔ ∃ j, j < n ∧ G j = true)
  | 0 => ⟨fun z => absurd z (Nat.lt_irrefl 0), fun ⟨_, h, _⟩ => absurd h (Nat.not_lt_zero _)⟩
  | n + 1 => by
    rw [cdn_s]
    have ih := cdn_ex (G := G) n
    constructor
    · intro h
      by_cases c : G n = true
      · exact ⟨n, by omega, c⟩
      · rw [if_neg c] at h
        obtain ⟨j, j1, j2⟩ := ih.mp h
        exact ⟨j, by omega, j2⟩
    · intro ⟨j, j1, j2⟩
      by_cases e : j = n
      · subst e; rw [if_pos j2]; omega
      · have := ih.mpr ⟨j, by omega, j2⟩; omega
theorem icl_i {σ : XS} {x : Nat} {μ : MS} {n0 n1 : Nat} (hc : RCam σ μ n0) (h : RClo σ μ n0 n1) {c : Nat} (hcn : c < n0) (a : Int32) : of_X10_isCloudy σ x (xe σ 0 c) a ∧ ((f_X10_isCloudy σ x (xe σ 0 c) a = 1 ∧ ∃ j, j < n1 ∧ mi μ 6 j = nI c ∧ mi μ 7 j = a) ∨ (f_X10_isCloudy σ x (xe σ 0 c) a = 0 ∧ ¬ ∃ j, j < n1 ∧ mi μ 6 j = nI c ∧ mi μ 7 j = a)) := by
  have h50 := h.1
  obtain ⟨o1, e1⟩ := cn_i (x := x) hc h hcn a a
  refine ⟨⟨o1, trivial⟩, ?_⟩
  have hle := cdn_le (G := clB μ (nI c) a a) n1
  have hB : ∀ j, clB μ (nI c) a a j = true ↔ mi μ 6 j = nI c ∧ mi μ 7 j = a := by
    intro j
    unfold clB
    rw [decide_eq_true_iff]
    constructor
    · intro ⟨z1, z2, z3⟩
      refine ⟨z1, Int32.toInt_inj.mp ?_⟩
      rw [Int32.le_iff_toInt_le] at z2 z3
      omega
    · intro ⟨z1, z2⟩
      rw [z2]
      exact ⟨z1, Int32.le_refl _, Int32.le_refl _⟩
  have hx := cdn_ex (G := clB μ (nI c) a a) n1
  unfold f_X10_isCloudy
  rw [e1]
  have hz : nI (cdn (clB μ (nI c) a a) n1) ≤ 0 ↔ cdn (clB μ (nI c) a a) n1 ≤ 0 := by rw [show (0 : Int32) = nI 0 from rfl, nI_leI (by omega) (by omega)]
  by_cases z : 0 < cdn (clB μ (nI c) a a) n1
  · obtain ⟨j, j1, j2⟩ := hx.mp z
    rw [if_neg (fun y => by have := hz.mp y; omega)]
    exact Or.inl ⟨rfl, j, j1, (hB j).mp j2⟩
  · rw [if_pos (hz.mpr (by omega))]
    exact Or.inr ⟨rfl, fun ⟨j, j1, j2⟩ => z (hx.mpr ⟨j, j1, (hB j).mpr j2⟩)⟩
/-- a loop that notes whether one of them is so -/
def anyP (Q : Nat → Prop) (j : Nat) (w : Int32) : Prop := (w = 1 ∧ ∃ i, i < j ∧ Q i) ∨ (w = 0 ∧ ¬ ∃ i, i < j ∧ Q i)
theorem any_y {Q : Nat → Prop} {j : Nat} {w : Int32} (h : Q j ∨ w = 1) (hw : anyP Q j w) : anyP Q (j + 1) 1 := by
  refine Or.inl ⟨rfl, ?_⟩
  rcases h with h | h
  · exact ⟨j, by omega, h⟩
  · rcases hw with ⟨-, i, i1, i2⟩ | ⟨h2, -⟩
    · exact ⟨i, by omega, i2⟩
    · rw [h] at h2; exact absurd h2 i_1ne0
theorem any_n {Q : Nat → Prop} {j : Nat} {w : Int32} (h : ¬ Q j) (h0 : w = 0) (hw : anyP Q j w) : anyP Q (j + 1) 0 := by
  refine Or.inr ⟨rfl, fun ⟨i, i1, i2⟩ => ?_⟩
  rcases hw with ⟨h2, -⟩ | ⟨-, h2⟩
  · rw [h0] at h2; exact absurd h2.symm i_1ne0
  · by_cases e : i = j
    · rw [e] at i2; exact h i2
    · exact h2 ⟨i, by omega, i2⟩
theorem any_zb {Q : Nat → Prop} {j : Nat} {w : Int32} (hw : anyP Q j w) : zb w := by
  rcases hw with ⟨h, -⟩ | ⟨h, -⟩
  · exact Or.inr h
  · exact Or.inl h
theorem mcl_i {μ : MS} {n1 : Nat} (h50 : n1 ≤ 50) (hn : mi μ 5 0 = nI n1) (c a : Int32) : of_X11_isCloudy μ c a ∧ anyP (fun j => mi μ 6 j = c ∧ mi μ 7 j = a) n1 (f_X11_isCloudy μ c a) := by
  have hl9 := itr_for (f := s_X11_isCloudy_5 c a μ) (o := os_X11_isCloudy_5 c a μ) (fun j (w : Int32) => (w, nI j)) (fun j w => anyP (fun j => mi μ 6 j = c ∧ mi μ 7 j = a) j w) (n := n1) ?_ ?_ FU 0 0 (by omega) (by unfold FU; omega) (Or.inr ⟨rfl, fun ⟨_, z, _⟩ => absurd z (Nat.not_lt_zero _)⟩)
  · obtain ⟨l1, w, l2, l3⟩ := hl9
    have l2 : itr (s_X11_isCloudy_5 c a μ) FU (0, 0) = (w, nI n1) := l2
    have e : f_X11_isCloudy μ c a = w := by
      show (itr (s_X11_isCloudy_5 c a μ) FU (0, 0)).1 = w
      rw [l2]
    refine ⟨⟨l1, ?_, trivial⟩, by rw [e]; exact l3⟩
    rw [l2]
    exact any_zb l3
  · intro j w hj hw
    have c1 : ¬ nI n1 ≤ nI j := by rw [nI_leI (by omega) (by omega)]; omega
    have e1 : ix (nI j) = j := clamp_nI (by omega)
    have v1 : vp_in (nI j) 50 := nI_in (by omega) (by decide)
    show ob_X11_isCloudy_5 c a μ w (nI j) ∧ ∃ w', b_X11_isCloudy_5 c a μ w (nI j) = (true, (w', nI (j + 1))) ∧ _
    unfold ob_X11_isCloudy_5 b_X11_isCloudy_5 f_X11_isCloudy_l5_45
    rw [hn, e1, if_neg c1, nI_succ]
    refine ⟨⟨fun z => absurd z c1, fun _ => ⟨fun _ => ⟨v1, fun _ => ⟨v1, trivial⟩, fun _ => trivial⟩, fun _ => trivial⟩⟩, ?_⟩
    by_cases q0 : w = 0
    · rw [if_pos q0]
      by_cases q1 : mi μ 6 j = c
      · rw [if_pos q1]
        by_cases q2 : mi μ 7 j = a
        · rw [if_pos q2]; exact ⟨1, rfl, any_y (Or.inl ⟨q1, q2⟩) hw⟩
        · rw [if_neg q2]; exact ⟨0, rfl, any_n (fun z => q2 z.2) q0 hw⟩
      · rw [if_neg q1]; exact ⟨0, rfl, any_n (fun z => q1 z.1) q0 hw⟩
    · rw [if_neg q0]
      exact ⟨1, rfl, any_y (Or.inr ((any_zb hw).resolve_left q0)) hw⟩
  · intro w _
    have c1 : nI n1 ≤ nI n1 := Int32.le_refl _
    show ob_X11_isCloudy_5 c a μ w (nI n1) ∧ b_X11_isCloudy_5 c a μ w (nI n1) = _
    unfold ob_X11_isCloudy_5 b_X11_isCloudy_5
    rw [hn, if_pos c1]
    exact ⟨⟨fun _ => trivial, fun z => absurd c1 z⟩, rfl⟩
/-- both say the same of clouds -/
theorem cl_both {σ : XS} {x : Nat} {μ : MS} {n0 n1 : Nat} (hc : RCam σ μ n0) (h : RClo σ μ n0 n1) {c : Nat} (hcn : c < n0) (a : Int32) : of_X10_isCloudy σ x (xe σ 0 c) a ∧ of_X11_isCloudy μ (nI c) a ∧ ((f_X10_isCloudy σ x (xe σ 0 c) a = 1 ∧ f_X11_isCloudy μ (nI c) a = 1) ∨ (f_X10_isCloudy σ x (xe σ 0 c) a = 0 ∧ f_X11_isCloudy μ (nI c) a = 0 ∧ ¬ ∃ j, j < n1 ∧ mi μ 6 j = nI c ∧ mi μ 7 j = a)) := by
  obtain ⟨o1, r1⟩ := icl_i (x := x) hc h hcn a
  obtain ⟨o2, r2⟩ := mcl_i h.1 h.2.1 (nI c) a
  refine ⟨o1, o2, ?_⟩
  rcases r1 with ⟨r1, w1⟩ | ⟨r1, w1⟩
  · rcases r2 with ⟨r2, -⟩ | ⟨-, w2⟩
    · exact Or.inl ⟨r1, r2⟩
    · exact absurd w1 w2
  · rcases r2 with ⟨-, w2⟩ | ⟨r2, -⟩
    · exact absurd w2 w1
    · exact Or.inr ⟨r1, r2, w1⟩
