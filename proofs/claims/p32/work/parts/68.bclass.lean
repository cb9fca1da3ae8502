/-! ===== classOf ===== -/
def LR (σ : XS) : Nat → Nat
  | 0 => 0
  | k + 1 => if xr σ 242 k = 0 then LR σ k else xr σ 242 k
theorem nI_dec (i : Nat) : nI (i + 1) + (-1) = nI i := by
  rw [← nI_1, Int32.add_assoc]
  exact Int32.add_zero _
theorem lr_c {σ : XS} {x i : Nat} (hi : i < 10) : of_X10_latestRule σ x (nI i) ∧ f_X10_latestRule σ x (nI i) = LR σ (i + 1) := by
  have main := itr_for (f := s_X10_latestRule_4 x (nI i) σ) (o := os_X10_latestRule_4 x (nI i) σ) (fun k (b : Nat) => (b, nI k)) (fun k b => b = LR σ k) (n := i + 1) (by
    intro k b hk hb
    have hix : ix (nI k) = k := clamp_nI (by omega)
    have c1 : ¬ nI i < nI k := by rw [nI_ltI (by omega) (by omega)]; omega
    have c2 : ¬ (10 : Int32) ≤ nI k := by rw [show (10 : Int32) = nI 10 from rfl, nI_leI (by omega) (by omega)]; omega
    have vk : vp_in (nI k) 10 := nI_in (by omega) (by decide)
    constructor
    · exact ⟨fun _ => trivial, fun _ => ⟨fun _ => trivial, fun _ => ⟨vk, fun _ => trivial, fun _ => ⟨vk, trivial⟩⟩⟩⟩
    · refine ⟨LR σ (k + 1), ?_, rfl⟩
      show b_X10_latestRule_4 x (nI i) σ b (nI k) = (true, (if xr σ 242 k = 0 then LR σ k else xr σ 242 k, nI (k + 1)))
      unfold b_X10_latestRule_4 f_X10_latestRule_l4_34
      rw [if_neg c1, if_neg c2, hix, hb, nI_1]
      by_cases z : xr σ 242 k = 0
      · rw [if_pos z, if_pos z]
      · rw [if_neg z, if_neg z]) (by
    intro b hb
    have c1 : nI i < nI (i + 1) := by rw [nI_ltI (by omega) (by omega)]; omega
    constructor
    · exact ⟨fun _ => trivial, fun z => absurd c1 z⟩
    · show b_X10_latestRule_4 x (nI i) σ b (nI (i + 1)) = _
      unfold b_X10_latestRule_4
      rw [if_pos c1]) FU 0 0 (Nat.zero_le _) (by show i + 1 - 0 < 100000; omega) rfl
  obtain ⟨m1, b', m2, m3⟩ := main
  refine ⟨⟨m1, trivial⟩, ?_⟩
  unfold f_X10_latestRule f_X10_latestRule_4 f_X10_latestRule_40
  rw [show ((0 : Nat), (0 : Int32)) = (0, nI 0) from rfl, m2]
  exact m3
theorem lr_m {σ : XS} {μ : MS} (h : RRul σ μ) (p : Int32) : ∀ i, i < 10 → ∀ m, i + 1 < m → ito (s_X11_classIn_2 p μ) (os_X11_classIn_2 p μ) m (nI i) ∧ ((∃ r, r ≤ i ∧ mi μ 63 r = 1 ∧ LR σ (i + 1) = xr σ 242 r ∧ itr (s_X11_classIn_2 p μ) m (nI i) = nI r) ∨ (LR σ (i + 1) = 0 ∧ itr (s_X11_classIn_2 p μ) m (nI i) = -1)) := by
  intro i
  induction i with
  | zero =>
    intro hi m hm
    obtain ⟨m, rfl⟩ : ∃ m', m = m' + 2 := ⟨m - 2, by omega⟩
    have c1 : ¬ nI 0 < 0 := by decide
    have hix : ix (nI 0) = 0 := clamp_nI (by omega)
    have v0 : vp_in (nI 0) 10 := nI_in (by omega) (by decide)
    have oM : os_X11_classIn_2 p μ (nI 0) := ⟨fun _ => trivial, fun _ => ⟨v0, trivial⟩⟩
    rcases h 0 (by omega) with ⟨a1, a2⟩ | ⟨a1, a2, a3, -⟩
    · have fM : s_X11_classIn_2 p μ (nI 0) = (true, -1) := by
        show b_X11_classIn_2 p μ (nI 0) = _
        unfold b_X11_classIn_2
        rw [if_neg c1, hix, if_pos a1]; rfl
      have fM2 : s_X11_classIn_2 p μ (-1) = (false, -1) := by
        show b_X11_classIn_2 p μ (-1) = _
        unfold b_X11_classIn_2
        rw [if_pos (by decide)]
      refine ⟨(it_t fM (m + 1)).2 oM ((it_f fM2 m).2 ⟨fun _ => trivial, fun z => absurd (by decide) z⟩), Or.inr ⟨?_, ?_⟩⟩
      · exact if_pos a2
      · rw [(it_t (o := os_X11_classIn_2 p μ) fM (m + 1)).1, (it_f (o := os_X11_classIn_2 p μ) fM2 m).1]
    · have fM : s_X11_classIn_2 p μ (nI 0) = (false, nI 0) := by
        show b_X11_classIn_2 p μ (nI 0) = _
        unfold b_X11_classIn_2
        rw [if_neg c1, hix, if_neg (by rw [a1]; exact i_1ne0)]
      exact ⟨(it_f fM (m + 1)).2 oM, Or.inl ⟨0, Nat.le_refl _, a1, if_neg a3, (it_f (o := os_X11_classIn_2 p μ) fM (m + 1)).1⟩⟩
  | succ i ih =>
    intro hi m hm
    obtain ⟨m, rfl⟩ : ∃ m', m = m' + 1 := ⟨m - 1, by omega⟩
    have c1 : ¬ nI (i + 1) < 0 := nI_pos (by omega)
    have hix : ix (nI (i + 1)) = i + 1 := clamp_nI (by omega)
    have v0 : vp_in (nI (i + 1)) 10 := nI_in (by omega) (by decide)
    have oM : os_X11_classIn_2 p μ (nI (i + 1)) := ⟨fun _ => trivial, fun _ => ⟨v0, trivial⟩⟩
    rcases h (i + 1) (by omega) with ⟨a1, a2⟩ | ⟨a1, a2, a3, -⟩
    · have fM : s_X11_classIn_2 p μ (nI (i + 1)) = (true, nI i) := by
        show b_X11_classIn_2 p μ (nI (i + 1)) = _
        unfold b_X11_classIn_2
        rw [if_neg c1, hix, if_pos a1, nI_dec]
      obtain ⟨i1, i2⟩ := ih (by omega) m (by omega)
      have e : LR σ (i + 1 + 1) = LR σ (i + 1) := if_pos a2
      rw [e, (it_t (o := os_X11_classIn_2 p μ) fM m).1]
      refine ⟨(it_t fM m).2 oM i1, ?_⟩
      rcases i2 with ⟨r, r1, r2⟩ | i2
      · exact Or.inl ⟨r, by omega, r2⟩
      · exact Or.inr i2
    · have fM : s_X11_classIn_2 p μ (nI (i + 1)) = (false, nI (i + 1)) := by
        show b_X11_classIn_2 p μ (nI (i + 1)) = _
        unfold b_X11_classIn_2
        rw [if_neg c1, hix, if_neg (by rw [a1]; exact i_1ne0)]
      exact ⟨(it_f fM m).2 oM, Or.inl ⟨i + 1, Nat.le_refl _, a1, if_neg a3, (it_f (o := os_X11_classIn_2 p μ) fM m).1⟩⟩
theorem classIn_i {σ : XS} {x : Nat} {μ : MS} {n6 j i : Nat} (h : RSto σ μ n6) (hr : RRul σ μ) (hj : j < n6) (hi : i < 10) : of_X10_classIn σ x (xe σ 6 j) (nI i) ∧ of_X11_classIn μ (nI j) (nI i) ∧ f_X10_classIn σ x (xe σ 6 j) (nI i) = f_X11_classIn μ (nI j) (nI i) := by
  have h40 := h.1
  obtain ⟨a1, a2⟩ := lr_c (σ := σ) (x := x) hi
  obtain ⟨m1, m2⟩ := lr_m hr (nI j) i hi FU (by show i + 1 < 100000; omega)
  have hix : ix (nI j) = j := clamp_nI (by omega)
  have vj : vp_in (nI j) 40 := nI_in (by omega) (by decide)
  have kj := h.2.2.2.2.1.2.1 j hj
  obtain ⟨b1, b2, b3, b4, b5, b6, b7, b8, b9, b10, b11, b12, b13, b14, b15, b16, b17⟩ := h.2.2.2.2.2 j hj
  have fe : f_X11_classIn μ (nI j) (nI i) = f_X11_classIn_21 μ (nI j) (nI i) (itr (s_X11_classIn_2 (nI j) μ) FU (nI i)) := by
    unfold f_X11_classIn f_X11_classIn_2
    rfl
  have oe : of_X11_classIn_21 μ (nI j) (nI i) (itr (s_X11_classIn_2 (nI j) μ) FU (nI i)) → of_X11_classIn μ (nI j) (nI i) := fun z => ⟨m1, z⟩
  rw [fe]
  rcases m2 with ⟨r, r1, r2, r3, r4⟩ | ⟨r1, r2⟩
  · rw [r4] at oe ⊢
    have cr : ¬ nI r < 0 := nI_pos (by omega)
    have hir : ix (nI r) = r := clamp_nI (by omega)
    have vr : vp_in (nI r) 10 := nI_in (by omega) (by decide)
    rcases hr r (by omega) with ⟨q1, -⟩ | ⟨-, q2, q3, q4, q5⟩
    · rw [r2] at q1; exact absurd q1 i_1ne0
    have hL : f_X10_latestRule σ x (nI i) = xr σ 242 r := a2.trans r3
    refine ⟨?_, oe ⟨fun z => absurd z cr, fun _ => ⟨vj, fun _ => trivial, fun _ => ⟨vj, vr, fun _ => ⟨vj, vr, fun _ => ⟨vj, vj, trivial⟩, fun _ => ⟨vj, vj, trivial⟩⟩, fun _ => ⟨vj, vj, trivial⟩⟩⟩⟩, ?_⟩
    · unfold of_X10_classIn
      rw [hL]
      exact ⟨a1, fun _ => trivial, fun _ => ⟨kj, fun _ => trivial, fun _ => ⟨q2, ⟨q2, trivial⟩, trivial⟩⟩⟩
    · unfold f_X10_classIn f_X11_classIn_21 f_X5_groupOf
      rw [hL, if_neg q3, if_neg cr, hix, hir, q4, q5]
      unfold f_X11_classIn_80
      rw [hix]
      rcases b16 with ⟨c1, c2⟩ | ⟨c1, c2, c3, c4, -, c6, -⟩
      · rw [if_pos c2, if_pos c1]
      · have cm : ¬ mi μ 57 j = -1 := by
          intro z
          have := rng_i (L := 0) (H := 1000) c3 rfl rfl
          rw [z] at this
          have e : (-1 : Int32).toInt = -1 := rfl
          omega
        have c1' : ¬ mi μ 56 j = 0 := by rw [c1]; exact i_1ne0
        rw [c2, c4, c6, if_neg cm, if_neg c1']
        by_cases d1 : mi μ 57 j < mi μ 64 r
        · by_cases d2 : mi μ 57 j < mi μ 65 r
          · rw [if_pos d1, if_pos d2, if_pos d1, if_pos d2]
          · rw [if_pos d1, if_neg d2, if_pos d1, if_neg d2]
        · rw [if_neg d1, if_neg d1]
  · rw [r2] at oe ⊢
    have hL : f_X10_latestRule σ x (nI i) = 0 := a2.trans r1
    refine ⟨?_, oe ⟨fun _ => trivial, fun z => absurd (by decide) z⟩, ?_⟩
    · unfold of_X10_classIn
      rw [hL]
      exact ⟨a1, fun _ => trivial, fun z => absurd rfl z⟩
    · unfold f_X10_classIn f_X11_classIn_21
      rw [hL, if_pos rfl, if_pos (by decide)]
theorem br_classOf : Br_classOf Rep := by
  intro σ x μ p0 p1 hh
  obtain ⟨n0, n1, n2, n4, n5, n6, h, hG⟩ := id hh
  have hst := h.2.2.2.2.2.2.2.1
  have d1 : cd_classOf 3 = 1 := by decide
  have d2 : cd_classOf 1 = 2 := by decide
  have i1 : ¬ (1 : Int32) ≤ 0 := by decide
  have i2 : ¬ (2 : Int32) ≤ 0 := by decide
  obtain ⟨e1, e2, e3⟩ := st_ex (x := x) p0 hst
  have t28 : ∀ t, ¬ t ≤ (0 : Int32) → f_X11_classOf_28 μ p0 p1 t = (0, mI μ 0 0 t) ∧ of_X11_classOf_28 μ p0 p1 t := fun t ht => ⟨if_neg ht, fun z => absurd z ht, fun _ => trivial⟩
  rcases e3 with ⟨j, hj, rfl, hix, h40, hn, hF, hM, hK⟩ | ⟨-, hF, hM⟩
  · have hm1 : ¬ f_X11_isStone μ (nI j) = 0 := by rw [hM]; exact i_1ne0
    rcases in_or p1 0 9 with ⟨a1, a2, a3⟩ | ⟨a1, a2, a3⟩
    · obtain ⟨i, hi, rfl⟩ := (rng_iff (n := 10) (by decide) (by decide)).mp a1
      have hm2 : ¬ f_X11_isIn (nI i) 0 9 = 0 := by rw [a2]; exact i_1ne0
      have hst' : RSto σ (mI μ 0 0 0) n6 := (thr_rep (t := 0) h).2.2.2.2.2.2.2.1
      have hru' : RRul σ (mI μ 0 0 0) := (thr_rep (t := 0) h).2.2.2.2.2.2.2.2.2.2.1
      obtain ⟨q1, q2, q3⟩ := classIn_i (x := x) hst' hru' hj hi
      have hFo : ∀ nq, FL_classOf σ x (nI j) (nI i) nq = .ok (f_X11_classIn (mI μ 0 0 0) (nI j) (nI i), σ) := by
        intro nq
        show exm σ (f_X10_classOf σ x (nI j) (nI i)) = _
        unfold f_X10_classOf
        rw [hF, exb_i, a3, exb_i, q3]; rfl
      have hMo : f_X11_classOf μ (nI j) (nI i) = (f_X11_classIn (mI μ 0 0 0) (nI j) (nI i), mI μ 0 0 0) := by
        unfold f_X11_classOf
        rw [if_neg hm1, if_neg hm2]
        exact if_pos (by decide)
      refine ⟨?_, no_er hFo, ⟨e2, fun z => absurd z hm1, fun _ => ⟨fun z => absurd z hm2, fun _ => ⟨fun _ => ⟨q2, trivial⟩, fun _ => trivial⟩⟩⟩, fun nq f _ _ => cl_oI (hFo nq) hMo rfl ⟨n0, n1, n2, n4, n5, n6, thr_rep h, hG⟩ f⟩
      unfold of_X10_classOf
      rw [hF, exo_i, a3, exo_i]
      exact ⟨e1, q1, trivial⟩
    · have hFe : ∀ nq, FL_classOf σ x (nI j) p1 nq = .error 1 := by
        intro nq
        show exm σ (f_X10_classOf σ x (nI j) p1) = _
        unfold f_X10_classOf
        rw [hF, exb_i, a3, exb_e]; rfl
      have hMe : f_X11_classOf μ (nI j) p1 = (0, mI μ 0 0 2) := by
        unfold f_X11_classOf
        rw [if_neg hm1, if_pos a2]
        exact (t28 2 i2).1
      refine ⟨?_, is_er hFe (Or.inr rfl), ⟨e2, fun z => absurd z hm1, fun _ => ⟨fun _ => (t28 2 i2).2, fun z => absurd a2 z⟩⟩, fun nq f _ _ => cl_eI hFe hMe (fr_refl μ) d2 (by decide) hh nq f⟩
      unfold of_X10_classOf
      rw [hF, exo_i, a3, exo_e]
      exact ⟨e1, trivial⟩
  · have hFe : ∀ nq, FL_classOf σ x p0 p1 nq = .error 3 := fun nq => by
      show exm σ (f_X10_classOf σ x p0 p1) = _
      unfold f_X10_classOf
      rw [hF, exb_e]; rfl
    have hMe : f_X11_classOf μ p0 p1 = (0, mI μ 0 0 1) := by
      unfold f_X11_classOf
      rw [if_pos hM]
      exact (t28 1 i1).1
    refine ⟨?_, is_er hFe (Or.inl rfl), ⟨e2, fun _ => (t28 1 i1).2, fun z => absurd hM z⟩, fun nq f _ _ => cl_eI hFe hMe (fr_refl μ) d1 (by decide) hh nq f⟩
    unfold of_X10_classOf
    rw [hF, exo_e]
    exact ⟨e1, trivial⟩
