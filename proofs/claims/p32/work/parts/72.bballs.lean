/-! ===== fireballs ===== -/
noncomputable def cf (s : Nat → Nat → Int32) (n : Nat) (a b c : Int32) (k : Nat) : Bool := @decide (isF (JJ s n) k ∧ a ≤ s k 1 ∧ s k 1 ≤ b ∧ c.toInt ≤ zBl s n k) (Classical.propDecidable _)
theorem cf_t {s : Nat → Nat → Int32} {n : Nat} {a b c : Int32} {k : Nat} : cf s n a b c k = true ↔ isF (JJ s n) k ∧ a ≤ s k 1 ∧ s k 1 ≤ b ∧ c.toInt ≤ zBl s n k := by
  unfold cf
  exact @decide_eq_true_iff _ (Classical.propDecidable _)
theorem cdn_t {G : Nat → Bool} {n : Nat} (h : ∀ k, n ≤ k → ¬ G k = true) : ∀ m, cdn G (n + m) = cdn G n
  | 0 => rfl
  | m + 1 => by
    have ih := cdn_t h m
    show cdn G (n + m) + (if G (n + m) = true then 1 else 0) = _
    rw [if_neg (h (n + m) (by omega)), ih, Nat.add_zero]
theorem cf_60 {s : Nat → Nat → Int32} {n : Nat} (hn : n ≤ 60) (a b c : Int32) : cdn (cf s n a b c) 60 = cdn (cf s n a b c) n := by
  have h : ∀ k, n ≤ k → ¬ cf s n a b c k = true := fun k hk z => by
    obtain ⟨⟨⟨m, hm⟩, -⟩, -⟩ := cf_t.mp z
    have := ((gr_JJ s n).2 k m hm).1
    omega
  have := cdn_t h (60 - n)
  rw [show n + (60 - n) = 60 from by omega] at this
  exact this
theorem zbl_nn {s : Nat → Nat → Int32} {n f : Nat} (hs : Sok s n) (hn : n ≤ 60) : 0 ≤ zBl s n f := Int.ediv_nonneg (qByl_b hs hn (Nat.le_refl n)).1 (qMan_b hn).1
theorem count_c {σ : XS} {x : Nat} {s : Nat → Nat → Int32} {n : Nat} (h3 : Lst σ 3 5 60) (hG : RG σ n s) (hs : Sok s n) (hn : n ≤ 60) (a b c : Int32) : of_X10_countFireballs σ x a b c ∧ f_X10_countFireballs σ x a b c = nI (cdn (cf s n a b c) n) := by
  obtain ⟨hx, hk, -⟩ := h3
  have main := itr_for (f := s_X10_countFireballs_6 x a b c σ) (o := os_X10_countFireballs_6 x a b c σ) (fun k (w : Int32) => (w, nI k)) (fun k w => w = nI (cdn (cf s n a b c) k)) (n := 60) (by
    intro k w hk2 hw
    have hix : ix (nI k) = k := clamp_nI (by omega)
    have c1 : ¬ nI 60 ≤ nI k := by rw [nI_leI (by omega) (by omega)]; omega
    have v : vp_in (nI k) 60 := nI_in hk2 (by decide)
    have kk := hk k hk2
    obtain ⟨g1, g2⟩ := hG.2.2 k hk2
    constructor
    · show ob_X10_countFireballs_6 x a b c σ w (nI k)
      unfold ob_X10_countFireballs_6
      rw [hx, hix]
      exact ⟨fun _ => trivial, fun _ => ⟨v, kk, ⟨kk, trivial⟩, trivial⟩⟩
    · show ∃ b', b_X10_countFireballs_6 x a b c σ w (nI k) = (true, (b', nI (k + 1))) ∧ b' = nI (cdn (cf s n a b c) (k + 1))
      unfold b_X10_countFireballs_6 f_X10_countFireballs_l6_76 f_X4_exists
      rw [hx, if_neg c1, hix, nI_1, cdn_s]
      have no : ¬ cf s n a b c k = true → w = nI (cdn (cf s n a b c) k + if cf s n a b c k = true then 1 else 0) := fun z => by rw [if_neg z]; exact hw
      by_cases d : isF (JJ s n) k
      · obtain ⟨r1, r2, -, -, -, -, -, -, r9, -⟩ := g1 d
        obtain ⟨p1, p2, -⟩ := z_pos hs hn d
        have c2 : ¬ xi σ 101 (xe σ 3 k) ≤ 0 := by
          rw [Int32.le_iff_toInt_le, r2]
          have : (0 : Int32).toInt = 0 := rfl
          omega
        rw [if_neg c2, if_neg i_1ne0, r1]
        by_cases e1 : s k 1 < a
        · rw [if_pos e1]
          exact ⟨w, rfl, no (fun z => i32_nlt.mpr (cf_t.mp z).2.1 e1)⟩
        · rw [if_neg e1]
          by_cases e2 : b < s k 1
          · rw [if_pos e2]
            exact ⟨w, rfl, no (fun z => i32_nlt.mpr (cf_t.mp z).2.2.1 e2)⟩
          · rw [if_neg e2]
            by_cases e3 : zBl s n k < c.toInt
            · rw [if_pos ((b6_lt r9 (b6_w c)).mpr e3)]
              exact ⟨w, rfl, no (fun z => by have := (cf_t.mp z).2.2.2; omega)⟩
            · rw [if_neg (fun z => e3 ((b6_lt r9 (b6_w c)).mp z))]
              refine ⟨w + 1, rfl, ?_⟩
              rw [if_pos (cf_t.mpr ⟨d, i32_nlt.mp e1, i32_nlt.mp e2, by omega⟩), hw, nI_1]
      · have c2 : xi σ 101 (xe σ 3 k) ≤ 0 := by rw [g2 d]; exact Int32.le_refl _
        rw [if_pos c2, if_pos rfl]
        exact ⟨w, rfl, no (fun z => d (cf_t.mp z).1)⟩) (by
    intro w hw
    show ob_X10_countFireballs_6 x a b c σ w (nI 60) ∧ b_X10_countFireballs_6 x a b c σ w (nI 60) = _
    unfold ob_X10_countFireballs_6 b_X10_countFireballs_6
    rw [hx, if_pos (Int32.le_refl _)]
    exact ⟨⟨fun _ => trivial, fun z => absurd (Int32.le_refl _) z⟩, rfl⟩) FU 0 0 (Nat.zero_le _) (by show 60 - 0 < 100000; omega) rfl
  obtain ⟨m1, w, m2, m3⟩ := main
  refine ⟨⟨m1, trivial⟩, ?_⟩
  have m2' : itr (s_X10_countFireballs_6 x a b c σ) FU (0, 0) = (w, nI 60) := m2
  unfold f_X10_countFireballs f_X10_countFireballs_6 f_X10_countFireballs_82
  rw [m2', ← cf_60 hn]
  exact m3
theorem i32_both {p v : Int32} : (p ≤ v ∧ v ≤ p) ↔ v = p := by
  rw [Int32.le_iff_toInt_le, Int32.le_iff_toInt_le, ← Int32.toInt_inj]
  omega
theorem balls_m {μ : MS} {s : Nat → Nat → Int32} {n : Nat} (h : MS1 μ n s) (hs : Sok s n) (p : Int32) : ito (s_X11_fireballs_33 p μ) (os_X11_fireballs_33 p μ) FU (0, 0) ∧ itr (s_X11_fireballs_33 p μ) FU (0, 0) = (nI (cdn (cf s n p p 0) n), nI n) := by
  have hn := h.1.1
  have h13 : mi μ 13 0 = nI n := h.1.2.1
  have main := itr_for (f := s_X11_fireballs_33 p μ) (o := os_X11_fireballs_33 p μ) (fun k (w : Int32) => (w, nI k)) (fun k w => w = nI (cdn (cf s n p p 0) k)) (n := n) (by
    intro k w hk2 hw
    have hix : ix (nI k) = k := clamp_nI (by omega)
    have c1 : ¬ nI n ≤ nI k := by rw [nI_leI (by omega) (by omega)]; omega
    have v : vp_in (nI k) 60 := nI_in (by omega) (by decide)
    obtain ⟨o1, o2⟩ := isf_i h (nI k)
    have e15 : mi μ 15 k = s k 1 := (sdt_at h.1 hk2).2.1
    constructor
    · exact ⟨fun _ => trivial, fun _ => ⟨o1, fun _ => trivial, fun _ => ⟨v, trivial⟩⟩⟩
    · show ∃ b', b_X11_fireballs_33 p μ w (nI k) = (true, (b', nI (k + 1))) ∧ b' = nI (cdn (cf s n p p 0) (k + 1))
      unfold b_X11_fireballs_33 f_X11_fireballs_l33_65
      rw [h13, if_neg c1, hix, nI_1, cdn_s, e15, Int32.add_zero]
      have no : ¬ cf s n p p 0 k = true → w = nI (cdn (cf s n p p 0) k + if cf s n p p 0 k = true then 1 else 0) := fun z => by rw [if_neg z]; exact hw
      rcases o2 with ⟨f, hf, d, e, o3⟩ | ⟨o3, o4⟩
      · have : k = f := (nI_eq (by omega) (by omega)).mp e
        subst this
        rw [o3, if_neg i_1ne0]
        by_cases e1 : s k 1 = p
        · rw [if_pos e1]
          refine ⟨w + 1, rfl, ?_⟩
          have b := i32_both.mpr e1
          have zb0 : (0 : Int32).toInt ≤ zBl s n k := by
            have := zbl_nn (f := k) hs hn
            have e : (0 : Int32).toInt = 0 := rfl
            omega
          rw [if_pos (cf_t.mpr ⟨d, b.1, b.2, zb0⟩), hw, nI_1]
        · rw [if_neg e1]
          exact ⟨w, rfl, no (fun z => e1 (i32_both.mp ⟨(cf_t.mp z).2.1, (cf_t.mp z).2.2.1⟩))⟩
      · rw [o3, if_pos rfl]
        exact ⟨w, rfl, no (fun z => o4 k rfl (by omega) (cf_t.mp z).1)⟩) (by
    intro w hw
    show ob_X11_fireballs_33 p μ w (nI n) ∧ b_X11_fireballs_33 p μ w (nI n) = _
    unfold ob_X11_fireballs_33 b_X11_fireballs_33
    rw [h13, if_pos (Int32.le_refl _)]
    exact ⟨⟨fun _ => trivial, fun z => absurd (Int32.le_refl _) z⟩, rfl⟩) FU 0 0 (Nat.zero_le _) (by show n - 0 < 100000; omega) rfl
  obtain ⟨m1, w, m2, m3⟩ := main
  refine ⟨m1, ?_⟩
  rw [← m3]
  exact m2
theorem br_fireballs : Br_fireballs Rep := by
  intro σ x μ p0 hh
  obtain ⟨n0, n1, n2, n4, n5, n6, h, hG⟩ := id hh
  have h60 := h.2.2.2.2.1.1
  have h3 := h.2.2.2.2.2.2.2.2.2.2.2.1
  have hs := (rep_sx h).2
  have d1 : cd_fireballs 1 = 1 := by decide
  have i1 : ¬ (1 : Int32) ≤ 0 := by decide
  have oN : of_X11_isNight p0 := ⟨by rcases in_or p0 0 3649 with ⟨-, a2, -⟩ | ⟨-, a2, -⟩ <;> (rw [a2]; unfold zb; decide), trivial⟩
  rcases in_or p0 0 3649 with ⟨a1, a2, a3⟩ | ⟨a1, a2, a3⟩
  · have hnight : f_X10_requireNight p0 = .ok () := by unfold f_X10_requireNight; rw [a3]; rfl
    have hisN : ¬ f_X11_isNight p0 = 0 := by rw [show f_X11_isNight p0 = 1 from a2]; exact i_1ne0
    obtain ⟨oC, eC⟩ := count_c (x := x) h3 hG hs h60 p0 p0 0
    obtain ⟨oS, hms, hfr, ht⟩ := spr_ms (thr_rep (t := 0) h)
    have es : sdt (mI μ 0 0 0) n2 = sdt μ n2 := sdt_fr (fr_thr μ 0)
    rw [es] at hms
    obtain ⟨μs, eμ⟩ : ∃ z, f_X11_spreads (mI μ 0 0 0) = z := ⟨_, rfl⟩
    rw [eμ] at hms hfr ht
    obtain ⟨m1, m2⟩ := balls_m hms hs p0
    have hFo : ∀ nq, FL_fireballs σ x p0 nq = .ok (nI (cdn (cf (sdt μ n2) n2 p0 p0 0) n2), σ) := by
      intro nq
      show exm σ (f_X10_fireballs σ x p0) = _
      unfold f_X10_fireballs
      rw [hnight, exb_i, eC]; rfl
    have hMo : f_X11_fireballs μ p0 = (nI (cdn (cf (sdt μ n2) n2 p0 p0 0) n2), μs) := by
      unfold f_X11_fireballs
      rw [if_neg hisN]
      unfold f_X11_fireballs_13
      rw [if_pos (by decide), eμ]
      unfold f_X11_fireballs_29 f_X11_fireballs_33 f_X11_fireballs_73
      rw [m2]
    refine ⟨?_, no_er hFo, ⟨oN, fun z => absurd z hisN, fun _ => ⟨fun _ => ⟨oS, by rw [eμ]; exact ⟨m1, trivial⟩⟩, fun _ => trivial⟩⟩, fun nq g _ _ => cl_oI (hFo nq) hMo ht (rep_fr hh (fr_tr (fr_thr μ 0) hfr)) g⟩
    unfold of_X10_fireballs
    rw [hnight, exo_i]
    exact ⟨oC, trivial⟩
  · have hnight : f_X10_requireNight p0 = .error 1 := by unfold f_X10_requireNight; rw [a3]; rfl
    have hisN : f_X11_isNight p0 = 0 := a2
    have hFe : ∀ nq, FL_fireballs σ x p0 nq = .error 1 := fun nq => by
      show exm σ (f_X10_fireballs σ x p0) = _
      unfold f_X10_fireballs
      rw [hnight, exb_e]; rfl
    have hMe : f_X11_fireballs μ p0 = (0, mI μ 0 0 1) := by
      unfold f_X11_fireballs
      rw [if_pos hisN]
      exact if_neg i1
    refine ⟨?_, is_er hFe rfl, ⟨oN, fun _ => ⟨fun z => absurd z i1, fun _ => trivial⟩, fun z => absurd hisN z⟩, fun nq g _ _ => cl_eI hFe hMe (fr_refl μ) d1 (by decide) hh nq g⟩
    unfold of_X10_fireballs
    rw [hnight, exo_e]
    exact trivial
