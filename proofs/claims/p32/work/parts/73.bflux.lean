/-! ===== flux ===== -/
theorem cdn_sm {G : Nat → Bool} : ∀ n, (cdn G n : Int) = sm (fun k => if G k = true then 1 else 0) n
  | 0 => rfl
  | n + 1 => by
    have ih := cdn_sm (G := G) n
    show ((cdn G n + (if G n = true then 1 else 0) : Nat) : Int) = sm (fun k => if G k = true then 1 else 0) n + (if G n = true then 1 else 0)
    rw [← ih]
    by_cases c : G n = true
    · rw [if_pos c, if_pos c]; omega
    · rw [if_neg c, if_neg c]; omega
theorem sm_k {c : Int} : ∀ n, sm (fun _ => c) n = (n : Int) * c
  | 0 => by rw [show ((0 : Nat) : Int) = 0 from rfl, Int.zero_mul]; rfl
  | n + 1 => by
    have ih := sm_k (c := c) n
    show sm (fun _ => c) n + c = ((n + 1 : Nat) : Int) * c
    rw [ih, Int.natCast_succ, Int.add_mul, Int.one_mul]
theorem cdn_rm {G : Nat → Bool} {j : Nat} : ∀ n, cdn G n ≤ cdn (fun k => G k && decide (k ≠ j)) n + (if j < n then 1 else 0)
  | 0 => Nat.zero_le _
  | n + 1 => by
    have ih := cdn_rm (G := G) (j := j) n
    show cdn G n + (if G n = true then 1 else 0) ≤ cdn (fun k => G k && decide (k ≠ j)) n + (if (G n && decide (n ≠ j)) = true then 1 else 0) + (if j < n + 1 then 1 else 0)
    by_cases c : n = j
    · rw [if_neg (show ¬ j < n by omega)] at ih
      rw [if_pos (show j < n + 1 by omega)]
      by_cases d : G n = true
      · rw [if_pos d]; omega
      · rw [if_neg d]; omega
    · have e : (G n && decide (n ≠ j)) = G n := by simp [c]
      rw [e]
      have e2 : (if j < n + 1 then 1 else 0) = if j < n then 1 else 0 := by
        by_cases d : j < n
        · rw [if_pos d, if_pos (by omega)]
        · rw [if_neg d, if_neg (by omega)]
      rw [e2]
      omega
theorem pigeon {v : Nat → Int} {lo : Int} {n : Nat} : ∀ (d : Nat) (G : Nat → Bool), (∀ j, j < n → G j = true → lo ≤ v j ∧ v j < lo + d) → (∀ i j, i < n → j < n → G i = true → G j = true → v i = v j → i = j) → cdn G n ≤ d
  | 0, G, h1, _ => by
    have : ¬ 0 < cdn G n := fun z => by
      obtain ⟨j, hj, hg⟩ := (cdn_ex n).mp z
      have := h1 j hj hg
      omega
    omega
  | d + 1, G, h1, h2 => by
    by_cases c : ∃ j, j < n ∧ G j = true ∧ v j = lo + d
    · obtain ⟨j, hj, hg, hv⟩ := c
      have ih := pigeon (v := v) (lo := lo) d (fun k => G k && decide (k ≠ j)) (fun i hi hgi => by
        simp only [Bool.and_eq_true, decide_eq_true_eq] at hgi
        have q := h1 i hi hgi.1
        have : v i ≠ lo + d := fun e => hgi.2 (h2 i j hi hj hgi.1 hg (e.trans hv.symm))
        omega) (fun i k hi hk g1 g2 e => by
        simp only [Bool.and_eq_true] at g1 g2
        exact h2 i k hi hk g1.1 g2.1 e)
      have r := cdn_rm (G := G) (j := j) n
      rw [if_pos hj] at r
      omega
    · have ih := pigeon (v := v) (lo := lo) d G (fun i hi hgi => by
        have q := h1 i hi hgi
        have : v i ≠ lo + d := fun e => c ⟨i, hi, hgi, e⟩
        omega) h2
      omega
/-- a cloud in the nights a .. b -/
def inr (μ : MS) (a b : Int32) (j : Nat) : Bool := decide (a ≤ mi μ 7 j ∧ mi μ 7 j ≤ b)
theorem cl_sum {σ : XS} {μ : MS} {n0 n1 : Nat} (h10 : n0 ≤ 10) (h : RClo σ μ n0 n1) (a b : Int32) (D : Int) : sm (fun c => D - (cdn (clB μ (nI c) a b) n1 : Int)) n0 = (n0 : Int) * D - (cdn (inr μ a b) n1 : Int) := by
  obtain ⟨h50, -, -, hf, -⟩ := h
  rw [sm_sub, sm_k, cdn_sm (G := inr μ a b)]
  have e : sm (fun c => (cdn (clB μ (nI c) a b) n1 : Int)) n0 = sm (fun c => sm (fun j => if clB μ (nI c) a b j = true then 1 else 0) n1) n0 := sm_c n0 (fun c _ => cdn_sm n1)
  rw [e, sm_sw]
  have e2 : sm (fun j => sm (fun c => if clB μ (nI c) a b j = true then (1 : Int) else 0) n0) n1 = sm (fun j => if inr μ a b j = true then 1 else 0) n1 := by
    refine sm_c n1 (fun j hj => ?_)
    obtain ⟨cj, q1, q2, -⟩ := hf j hj
    have e3 : sm (fun c => if clB μ (nI c) a b j = true then (1 : Int) else 0) n0 = sm (fun c => if c = cj then (if inr μ a b j = true then (1 : Int) else 0) else 0) n0 := by
      refine sm_c n0 (fun c hc => ?_)
      by_cases d : c = cj
      · rw [if_pos d]
        have : clB μ (nI c) a b j = inr μ a b j := by
          unfold clB inr
          rw [q2, d]
          simp
        rw [this]
      · rw [if_neg d]
        refine if_neg (fun z => ?_)
        have z1 := (decide_eq_true_iff.mp z).1
        rw [q2] at z1
        exact d ((nI_eq (by omega) (by omega)).mp z1.symm)
    rw [e3, sm_pick, if_pos q1]
  rw [e2]
theorem cl_le {σ : XS} {μ : MS} {n0 n1 : Nat} (h : RClo σ μ n0 n1) (a b : Int32) (D : Nat) (hD : b.toInt - a.toInt + 1 = D) (c : Int32) : cdn (clB μ c a b) n1 ≤ D := by
  obtain ⟨h50, -, -, hf, hu⟩ := h
  refine pigeon (v := fun j => (mi μ 7 j).toInt) (lo := a.toInt) D (clB μ c a b) (fun j hj hg => ?_) (fun i j hi hj g1 g2 e => ?_)
  · have z := decide_eq_true_iff.mp hg
    have z1 := Int32.le_iff_toInt_le.mp z.2.1
    have z2 := Int32.le_iff_toInt_le.mp z.2.2
    show a.toInt ≤ (mi μ 7 j).toInt ∧ (mi μ 7 j).toInt < a.toInt + D
    omega
  · have z := decide_eq_true_iff.mp g1
    have y := decide_eq_true_iff.mp g2
    exact hu i j hi hj (z.1.trans y.1.symm) (Int32.toInt_inj.mp e)
theorem flux_c {σ : XS} {x : Nat} {μ : MS} {n0 n1 : Nat} (hc : RCam σ μ n0) (h : RClo σ μ n0 n1) (a b c : Int32) (D : Nat) (hD : b.toInt - a.toInt + 1 = D) (hD2 : D ≤ 3650) (ha : 0 ≤ a.toInt) : ito (s_X10_flux_25 x a b c σ) (os_X10_flux_25 x a b c σ) FU (0, 0) ∧ ∃ w, itr (s_X10_flux_25 x a b c σ) FU (0, 0) = (w, nI n0) ∧ w.toInt = (n0 : Int) * D - (cdn (inr μ a b) n1 : Int) ∧ 0 ≤ w.toInt := by
  have h10 := hc.1
  have hx := hc.2.2.1.1
  have hk := hc.2.2.1.2.1
  have dd : (b - a).toInt = b.toInt - a.toInt := i32_sub (m := 100000) (by omega) (by omega)
  have d1 : (b - a + 1).toInt = D := by
    have e1 : (1 : Int32).toInt = 1 := rfl
    rw [i32_add (m := 100000) (by rw [dd, e1]; omega) (by omega), dd, e1]; exact hD
  have tb : ∀ c, 0 ≤ (D : Int) - (cdn (clB μ (nI c) a b) n1 : Int) ∧ (D : Int) - (cdn (clB μ (nI c) a b) n1 : Int) ≤ 3650 := fun c => by
    have := cl_le h a b D hD (nI c)
    omega
  have sb : ∀ k, k ≤ 10 → 0 ≤ sm (fun c => (D : Int) - (cdn (clB μ (nI c) a b) n1 : Int)) k ∧ sm (fun c => (D : Int) - (cdn (clB μ (nI c) a b) n1 : Int)) k ≤ 36500 := fun k hk => by
    have q1 := sm_nn (g := fun c => (D : Int) - (cdn (clB μ (nI c) a b) n1 : Int)) k (fun c _ => (tb c).1)
    have q2 := sm_ab (g := fun c => (D : Int) - (cdn (clB μ (nI c) a b) n1 : Int)) (B := 3650) k (fun c _ => by have := tb c; omega)
    omega
  have main := itr_for (f := s_X10_flux_25 x a b c σ) (o := os_X10_flux_25 x a b c σ) (fun k (w : Int32) => (w, nI k)) (fun k w => w.toInt = sm (fun c => (D : Int) - (cdn (clB μ (nI c) a b) n1 : Int)) k) (n := n0) (by
    intro k w hk2 hw
    have hix : ix (nI k) = k := clamp_nI (by omega)
    have c1 : ¬ nI n0 ≤ nI k := by rw [nI_leI (by omega) (by omega)]; omega
    obtain ⟨o1, o2⟩ := cn_i (x := x) hc h hk2 a b
    have hw' := sb k (by omega)
    have ht := tb k
    have hcl := cl_le h a b D hD (nI k)
    constructor
    · show ob_X10_flux_25 x a b c σ w (nI k)
      unfold ob_X10_flux_25
      rw [hx, hix]
      exact ⟨fun _ => trivial, fun _ => ⟨nI_in hk2 (by omega), hk k hk2, o1, trivial⟩⟩
    · refine ⟨w + (b - a + 1 - nI (cdn (clB μ (nI k) a b) n1)), ?_, ?_⟩
      · show b_X10_flux_25 x a b c σ w (nI k) = _
        unfold b_X10_flux_25
        rw [hx, if_neg c1, hix, o2, nI_1]
      · have e2 : (nI (cdn (clB μ (nI k) a b) n1)).toInt = (cdn (clB μ (nI k) a b) n1 : Int) := nI_toInt (by omega)
        have e3 : (b - a + 1 - nI (cdn (clB μ (nI k) a b) n1)).toInt = (D : Int) - (cdn (clB μ (nI k) a b) n1 : Int) := by
          rw [i32_sub (m := 100000) (by rw [d1, e2]; omega) (by omega), d1, e2]
        rw [i32_add (m := 100000) (by rw [hw, e3]; omega) (by omega), hw, e3]
        rfl) (by
    intro w hw
    show ob_X10_flux_25 x a b c σ w (nI n0) ∧ b_X10_flux_25 x a b c σ w (nI n0) = _
    unfold ob_X10_flux_25 b_X10_flux_25
    rw [hx, if_pos (Int32.le_refl _)]
    exact ⟨⟨fun _ => trivial, fun z => absurd (Int32.le_refl _) z⟩, rfl⟩) FU 0 0 (Nat.zero_le _) (by show n0 - 0 < 100000; omega) rfl
  obtain ⟨m1, w, m2, m3⟩ := main
  refine ⟨m1, w, m2, ?_, by rw [m3]; exact (sb n0 h10).1⟩
  rw [m3]
  exact cl_sum h10 h a b D
theorem flux_m1 {μs : MS} {s : Nat → Nat → Int32} {n : Nat} (h : MS1 μs n s) (hs : Sok s n) (a b c : Int32) : ito (s_X11_flux_69 a b c) (os_X11_flux_69 a b c) FU (0, 0, μs) ∧ ∃ μ', MF μs μ' ∧ itr (s_X11_flux_69 a b c) FU (0, 0, μs) = (nI (cdn (cf s n a b c) n), nI n, μ') := by
  have hn := h.1.1
  have main := itr_for (f := s_X11_flux_69 a b c) (o := os_X11_flux_69 a b c) (fun k (w : Int32 × MS) => (w.1, nI k, w.2)) (fun k w => w.1 = nI (cdn (cf s n a b c) k) ∧ MF μs w.2) (n := n) (by
    rintro k ⟨w, μ⟩ hk2 ⟨hw, hg⟩
    have hw : w = nI (cdn (cf s n a b c) k) := hw
    have hg : MF μs μ := hg
    have h' := ms_mf h hg
    have h13 : mi μ 13 0 = nI n := h'.1.2.1
    have hix : ix (nI k) = k := clamp_nI (by omega)
    have c1 : ¬ nI n ≤ nI k := by rw [nI_leI (by omega) (by omega)]; omega
    have v : vp_in (nI k) 60 := nI_in (by omega) (by decide)
    obtain ⟨o1, o2⟩ := isf_i h' (nI k)
    have e15 : mi μ 15 k = s k 1 := (sdt_at h'.1 hk2).2.1
    show ob_X11_flux_69 a b c w (nI k) μ ∧ ∃ b' : Int32 × MS, b_X11_flux_69 a b c w (nI k) μ = (true, (b'.1, nI (k + 1), b'.2)) ∧ b'.1 = nI (cdn (cf s n a b c) (k + 1)) ∧ MF μs b'.2
    unfold ob_X11_flux_69 b_X11_flux_69 f_X11_flux_l69_128
    rw [h13, if_neg c1, hix, nI_1, cdn_s, e15]
    have no : ¬ cf s n a b c k = true → w = nI (cdn (cf s n a b c) k + if cf s n a b c k = true then 1 else 0) := fun z => by rw [if_neg z]; exact hw
    rcases o2 with ⟨f, hf, d, e, o3⟩ | ⟨o3, o4⟩
    · have : k = f := (nI_eq (by omega) (by omega)).mp e
      subst this
      obtain ⟨oM, hmf, hz⟩ := measures_i h' hs d
      obtain ⟨z1, z2, z3, z4, z5, z6, z7, z8, z9⟩ := hz
      rw [o3, if_neg i_1ne0]
      rcases in_or (s k 1) a b with ⟨a1, a2, -⟩ | ⟨a1, a2, -⟩
      · rw [a2, if_neg i_1ne0]
        refine ⟨⟨fun _ => trivial, fun _ => ⟨o1, fun _ => trivial, fun _ => ⟨v, fun _ => trivial, fun _ => ⟨oM, trivial⟩⟩⟩⟩, ?_⟩
        unfold f_X11_flux_l69_108 f_X11_flux_l69_125 f_X11_flux_l69_128
        by_cases e3 : zBl s n k < c.toInt
        · rw [if_pos ((b6_lt z9 (b6_w c)).mpr e3), Int32.add_zero, nI_1]
          exact ⟨(w, f_X11_measures μ (nI k)), rfl, no (fun z => by have := (cf_t.mp z).2.2.2; omega), mf_tr hg hmf⟩
        · rw [if_neg (fun z => e3 ((b6_lt z9 (b6_w c)).mp z)), nI_1]
          refine ⟨(w + 1, f_X11_measures μ (nI k)), rfl, ?_, mf_tr hg hmf⟩
          rw [if_pos (cf_t.mpr ⟨d, a1.1, a1.2, by omega⟩), hw, nI_1]
      · rw [a2, if_pos rfl]
        exact ⟨⟨fun _ => trivial, fun _ => ⟨o1, fun _ => trivial, fun _ => ⟨v, fun _ => trivial, fun z => absurd rfl z⟩⟩⟩, (w, μ), rfl, no (fun z => a1 ⟨(cf_t.mp z).2.1, (cf_t.mp z).2.2.1⟩), hg⟩
    · rw [o3, if_pos rfl]
      exact ⟨⟨fun _ => trivial, fun _ => ⟨o1, fun _ => trivial, fun z => absurd rfl z⟩⟩, (w, μ), rfl, no (fun z => o4 k rfl (by omega) (cf_t.mp z).1), hg⟩) (by
    rintro ⟨w, μ⟩ ⟨hw, hg⟩
    have hg : MF μs μ := hg
    have h13 : mi μ 13 0 = nI n := (ms_mf h hg).1.2.1
    show ob_X11_flux_69 a b c w (nI n) μ ∧ b_X11_flux_69 a b c w (nI n) μ = _
    unfold ob_X11_flux_69 b_X11_flux_69
    rw [h13, if_pos (Int32.le_refl _)]
    exact ⟨⟨fun _ => trivial, fun z => absurd (Int32.le_refl _) z⟩, rfl⟩) FU 0 (0, μs) (Nat.zero_le _) (by show n - 0 < 100000; omega) ⟨rfl, mf_refl μs⟩
  obtain ⟨m1, ⟨w, μ'⟩, m2, m3, m4⟩ := main
  have m3 : w = nI (cdn (cf s n a b c) n) := m3
  refine ⟨m1, μ', m4, ?_⟩
  rw [← m3]
  exact m2
theorem flux_m2 {σ : XS} {μ : MS} {n0 n1 : Nat} (hc : RCam σ μ n0) (h : RClo σ μ n0 n1) (a b v5 : Int32) (D : Nat) (hD : b.toInt - a.toInt + 1 = D) (hD2 : D ≤ 3650) (ha : 0 ≤ a.toInt) : ito (s_X11_flux_149 a b v5 μ) (os_X11_flux_149 a b v5 μ) FU (mi μ 1 0 * (b - a + 1), 0) ∧ ∃ w, itr (s_X11_flux_149 a b v5 μ) FU (mi μ 1 0 * (b - a + 1), 0) = (w, nI n1) ∧ w.toInt = (n0 : Int) * D - (cdn (inr μ a b) n1 : Int) := by
  have h10 := hc.1
  have hm1 := hc.2.1
  obtain ⟨h50, hm5, -, -, -⟩ := h
  have dd : (b - a).toInt = b.toInt - a.toInt := i32_sub (m := 100000) (by omega) (by omega)
  have e1 : (1 : Int32).toInt = 1 := rfl
  have d1 : (b - a + 1).toInt = D := by
    rw [i32_add (m := 100000) (by rw [dd, e1]; omega) (by omega), dd, e1]; exact hD
  have e0 : (nI n0).toInt = n0 := nI_toInt (by omega)
  have hp : ((n0 : Int) * D).natAbs ≤ 36500 := by
    have q : n0 * D ≤ 10 * 3650 := Nat.mul_le_mul h10 hD2
    rw [← Int.natCast_mul]
    omega
  have hst : (nI n0 * (b - a + 1)).toInt = (n0 : Int) * D := by
    rw [i32_mul (m := 100000) (by rw [e0, d1]; omega) (by omega), e0, d1]
  obtain ⟨N, eN⟩ : ∃ N : Int, (n0 : Int) * D = N := ⟨_, rfl⟩
  rw [eN] at hp hst ⊢
  have main := itr_for (f := s_X11_flux_149 a b v5 μ) (o := os_X11_flux_149 a b v5 μ) (fun k (w : Int32) => (w, nI k)) (fun k w => w.toInt = N - (cdn (inr μ a b) k : Int)) (n := n1) (by
    intro k w hk2 hw
    have hix : ix (nI k) = k := clamp_nI (by omega)
    have c1 : ¬ nI n1 ≤ nI k := by rw [nI_leI (by omega) (by omega)]; omega
    have v : vp_in (nI k) 50 := nI_in (by omega) (by decide)
    have hle := cdn_le (G := inr μ a b) k
    refine ⟨⟨fun _ => trivial, fun _ => ⟨v, trivial⟩⟩, ?_⟩
    show ∃ b', b_X11_flux_149 a b v5 μ w (nI k) = (true, (b', nI (k + 1))) ∧ b'.toInt = N - ((cdn (inr μ a b) (k + 1) : Nat) : Int)
    unfold b_X11_flux_149 f_X11_flux_l149_180
    rw [hm5, if_neg c1, hix, nI_1, cdn_s]
    rcases in_or (mi μ 7 k) a b with ⟨a1, a2, -⟩ | ⟨a1, a2, -⟩
    · rw [a2, if_neg i_1ne0]
      refine ⟨w - 1, rfl, ?_⟩
      have : inr μ a b k = true := decide_eq_true a1
      rw [this, if_pos rfl, i32_sub (m := 100000) (by rw [hw, e1]; omega) (by omega), hw, e1]
      omega
    · rw [a2, if_pos rfl]
      refine ⟨w - 0, rfl, ?_⟩
      have : ¬ inr μ a b k = true := fun z => a1 (show a ≤ mi μ 7 k ∧ mi μ 7 k ≤ b from of_decide_eq_true z)
      rw [if_neg this, Int32.sub_zero, hw]
      omega) (by
    intro w hw
    show ob_X11_flux_149 a b v5 μ w (nI n1) ∧ b_X11_flux_149 a b v5 μ w (nI n1) = _
    unfold ob_X11_flux_149 b_X11_flux_149
    rw [hm5, if_pos (Int32.le_refl _)]
    exact ⟨⟨fun _ => trivial, fun z => absurd (Int32.le_refl _) z⟩, rfl⟩) FU 0 (nI n0 * (b - a + 1)) (Nat.zero_le _) (by show n1 - 0 < 100000; omega) (by rw [hst]; show N = N - 0; omega)
  obtain ⟨m1, w, m2, m3⟩ := main
  rw [hm1]
  exact ⟨m1, w, m2, m3⟩
theorem br_flux : Br_flux Rep := by
  intro σ x μ p0 p1 p2 hh
  obtain ⟨n0, n1, n2, n4, n5, n6, h, hG⟩ := id hh
  have h60 := h.2.2.2.2.1.1
  have h3 := h.2.2.2.2.2.2.2.2.2.2.2.1
  have hs := (rep_sx h).2
  have d1 : cd_flux 1 = 1 := by decide
  have i1 : ¬ (1 : Int32) ≤ 0 := by decide
  have oN : of_X11_isNight p0 := ⟨by rcases in_or p0 0 3649 with ⟨-, a2, -⟩ | ⟨-, a2, -⟩ <;> (rw [a2]; unfold zb; decide), trivial⟩
  have bad : f_X10_flux σ x p0 p1 p2 = .error 1 → of_X10_flux σ x p0 p1 p2 → f_X11_flux μ p0 p1 p2 = f_X11_flux_34 μ p0 p1 p2 0 → (of_X11_flux_34 μ p0 p1 p2 0 → of_X11_flux μ p0 p1 p2) → (of_X10_flux σ x p0 p1 p2) ∧ (∀ nq k, FL_flux σ x p0 p1 p2 nq = .error k → k = 1) ∧ (of_X11_flux μ p0 p1 p2) ∧ (∀ nq f, xk σ nq = 0 → nq ≠ 0 → f_X11_thrown (f_X11_flux μ p0 p1 p2).2 = (hR cd_flux cvI (FL_flux σ x p0 p1 p2 nq) f σ).1 ∧ ((hR cd_flux cvI (FL_flux σ x p0 p1 p2 nq) f σ).1 = 0 → (hR cd_flux cvI (FL_flux σ x p0 p1 p2 nq) f σ).2.1 0 = ((f_X11_flux μ p0 p1 p2).1).toInt64) ∧ Rep (hR cd_flux cvI (FL_flux σ x p0 p1 p2 nq) f σ).2.2 x (f_X11_flux μ p0 p1 p2).2) := by
    intro b1 b2 b3 b4
    have hFe : ∀ nq, FL_flux σ x p0 p1 p2 nq = .error 1 := fun nq => by
      show exm σ (f_X10_flux σ x p0 p1 p2) = _
      rw [b1]; rfl
    have hMe : f_X11_flux μ p0 p1 p2 = (0, mI μ 0 0 1) := by
      rw [b3]
      unfold f_X11_flux_34
      rw [if_pos rfl]
      exact if_neg i1
    exact ⟨b2, is_er hFe rfl, b4 ⟨fun _ => ⟨fun z => absurd z i1, fun _ => trivial⟩, fun z => absurd rfl z⟩, fun nq g _ _ => cl_eI hFe hMe (fr_refl μ) d1 (by decide) hh nq g⟩
  rcases in_or p0 0 3649 with ⟨a1, a2, a3⟩ | ⟨a1, a2, a3⟩
  · have hnight : f_X10_requireNight p0 = .ok () := by unfold f_X10_requireNight; rw [a3]; rfl
    have hisN : ¬ f_X11_isNight p0 = 0 := by rw [show f_X11_isNight p0 = 1 from a2]; exact i_1ne0
    rcases in_or p1 p0 3649 with ⟨b1, b2, b3⟩ | ⟨b1, b2, b3⟩
    · have hb2 : ¬ f_X11_isIn p1 p0 3649 = 0 := by rw [b2]; exact i_1ne0
      rcases in_or p2 0 100000 with ⟨c1, c2, c3⟩ | ⟨c1, c2, c3⟩
      · have hc2 : ¬ f_X11_isIn p2 0 100000 = 0 := by rw [c2]; exact i_1ne0
        have r0 := rng_i (L := 0) (H := 3649) a1 rfl rfl
        have r1 := rng_i (L := p0.toInt) (H := 3649) b1 rfl rfl
        obtain ⟨D, hD⟩ : ∃ D : Nat, p1.toInt - p0.toInt + 1 = D := ⟨(p1.toInt - p0.toInt + 1).toNat, by omega⟩
        obtain ⟨oC, eC⟩ := count_c (x := x) h3 hG hs h60 p0 p1 p2
        obtain ⟨oS, hms, hfr, ht⟩ := spr_ms (thr_rep (t := 0) h)
        have es : sdt (mI μ 0 0 0) n2 = sdt μ n2 := sdt_fr (fr_thr μ 0)
        rw [es] at hms
        obtain ⟨μs, eμ⟩ : ∃ z, f_X11_spreads (mI μ 0 0 0) = z := ⟨_, rfl⟩
        rw [eμ] at hms hfr ht
        obtain ⟨m1, μe, hmf, m2⟩ := flux_m1 hms hs p0 p1 p2
        have hfe : Fr μ μe := fr_tr (fr_tr (fr_thr μ 0) hfr) (fr_mf hmf)
        have he := rep0_fr h hfe
        have hte : mi μe 0 0 = 0 := by
          show μe.1 0 0 = 0
          rw [hmf 0 (by decide) (by decide)]
          exact ht
        obtain ⟨u1, w1, u2, u3, u4⟩ := flux_c (x := x) he.2.1 he.2.2.1 p0 p1 p2 D hD (by omega) r0.1
        obtain ⟨y1, w2, y2, y3⟩ := flux_m2 he.2.1 he.2.2.1 p0 p1 (nI (cdn (cf (sdt μ n2) n2 p0 p1 p2) n2)) D hD (by omega) r0.1
        have ew : w1 = w2 := Int32.toInt_inj.mp (u3.trans y3.symm)
        rw [← ew] at y2
        have M0 : f_X11_flux μ p0 p1 p2 = f_X11_flux_189 μ p0 p1 p2 (nI (cdn (cf (sdt μ n2) n2 p0 p1 p2) n2)) w1 μe := by
          unfold f_X11_flux
          rw [if_neg hisN, if_neg hb2, if_neg hc2]
          unfold f_X11_flux_34
          rw [if_neg i_1ne0]
          unfold f_X11_flux_47
          rw [if_pos (by decide), eμ]
          unfold f_X11_flux_63 f_X11_flux_69
          rw [m2]
          show f_X11_flux_134 μ p0 p1 p2 (nI (cdn (cf (sdt μ n2) n2 p0 p1 p2) n2)) μe = _
          unfold f_X11_flux_134 f_X11_flux_149
          rw [y2]
        have O0 : of_X11_flux_189 μ p0 p1 p2 (nI (cdn (cf (sdt μ n2) n2 p0 p1 p2) n2)) w1 μe → of_X11_flux μ p0 p1 p2 := by
          intro z
          refine ⟨oN, fun y => absurd y hisN, fun _ => ⟨fun y => absurd y hb2, fun _ => ⟨fun y => absurd y hc2, fun _ => ⟨fun y => absurd y i_1ne0, fun _ => ⟨fun _ => ⟨oS, ?_⟩, fun _ => trivial⟩⟩⟩⟩⟩
          rw [eμ]
          refine ⟨m1, ?_⟩
          rw [m2]
          refine ⟨y1, ?_⟩
          rw [y2]
          exact z
        have F0 : f_X10_flux σ x p0 p1 p2 = f_X10_flux_76 σ x p0 p1 p2 w1 := by
          unfold f_X10_flux
          rw [hnight, exb_i, b3, exb_i, c3, exb_i]
          unfold f_X10_flux_25
          rw [u2]
        have P0 : of_X10_flux_76 σ x p0 p1 p2 w1 → of_X10_flux σ x p0 p1 p2 := by
          intro z
          unfold of_X10_flux
          rw [hnight, exo_i, b3, exo_i, c3, exo_i]
          refine ⟨u1, ?_⟩
          rw [u2]
          exact z
        have e0 : (0 : Int32).toInt = 0 := rfl
        by_cases cw : w1 = 0
        · have nw : ¬ 0 < w1 := by rw [cw]; decide
          have hFo : ∀ nq, FL_flux σ x p0 p1 p2 nq = .ok (0, σ) := by
            intro nq
            show exm σ (f_X10_flux σ x p0 p1 p2) = _
            rw [F0]
            unfold f_X10_flux_76
            rw [if_neg nw]; rfl
          have hMo : f_X11_flux μ p0 p1 p2 = (0, μe) := by
            rw [M0]
            exact if_pos cw
          exact ⟨P0 ⟨fun z => absurd z nw, fun _ => trivial⟩, no_er hFo, O0 ⟨fun _ => trivial, fun z => absurd cw z⟩, fun nq g _ _ => cl_oI (hFo nq) hMo hte (rep_fr hh hfe) g⟩
        · have nw : 0 < w1 := by
            rw [Int32.lt_iff_toInt_lt, e0]
            have : w1.toInt ≠ 0 := fun z => cw (Int32.toInt_inj.mp (z.trans e0.symm))
            omega
          have hFo : ∀ nq, FL_flux σ x p0 p1 p2 nq = .ok (nI (cdn (cf (sdt μ n2) n2 p0 p1 p2) n2) * 1000 / w1, σ) := by
            intro nq
            show exm σ (f_X10_flux σ x p0 p1 p2) = _
            rw [F0]
            unfold f_X10_flux_76
            rw [if_pos nw, eC]; rfl
          have hMo : f_X11_flux μ p0 p1 p2 = (nI (cdn (cf (sdt μ n2) n2 p0 p1 p2) n2) * 1000 / w1, μe) := by
            rw [M0]
            exact if_neg cw
          exact ⟨P0 ⟨fun _ => ⟨oC, cw, trivial⟩, fun z => absurd nw z⟩, no_er hFo, O0 ⟨fun z => absurd z cw, fun _ => ⟨cw, trivial⟩⟩, fun nq g _ _ => cl_oI (hFo nq) hMo hte (rep_fr hh hfe) g⟩
      · refine bad ?_ ?_ ?_ (fun z => ⟨oN, fun y => absurd y hisN, fun _ => ⟨fun y => absurd y hb2, fun _ => ⟨fun _ => z, fun y => absurd c2 y⟩⟩⟩)
        · unfold f_X10_flux
          rw [hnight, exb_i, b3, exb_i, c3, exb_e]
        · unfold of_X10_flux
          rw [hnight, exo_i, b3, exo_i, c3, exo_e]
          exact trivial
        · unfold f_X11_flux
          rw [if_neg hisN, if_neg hb2, if_pos c2]
    · refine bad ?_ ?_ ?_ (fun z => ⟨oN, fun y => absurd y hisN, fun _ => ⟨fun _ => z, fun y => absurd b2 y⟩⟩)
      · unfold f_X10_flux
        rw [hnight, exb_i, b3, exb_e]
      · unfold of_X10_flux
        rw [hnight, exo_i, b3, exo_e]
        exact trivial
      · unfold f_X11_flux
        rw [if_neg hisN, if_pos b2]
  · have hnight : f_X10_requireNight p0 = .error 1 := by unfold f_X10_requireNight; rw [a3]; rfl
    have hisN : f_X11_isNight p0 = 0 := a2
    refine bad ?_ ?_ ?_ (fun z => ⟨oN, fun _ => z, fun y => absurd hisN y⟩)
    · unfold f_X10_flux
      rw [hnight, exb_e]
    · unfold of_X10_flux
      rw [hnight, exo_e]
      exact trivial
    · unfold f_X11_flux
      rw [if_pos hisN]
