/-! ===== the way up from a stone ===== -/
theorem it_t {α : Type} {f : α → Bool × α} {o : α → Prop} {v w : α} (h : f v = (true, w)) (m : Nat) : itr f (m + 1) v = itr f m w ∧ (o v → ito f o m w → ito f o (m + 1) v) := by
  refine ⟨?_, fun h1 h2 => ⟨h1, fun _ => by rw [h]; exact h2⟩⟩
  show (if (f v).1 = true then itr f m (f v).2 else (f v).2) = _
  rw [h]; rfl
theorem it_f {α : Type} {f : α → Bool × α} {o : α → Prop} {v w : α} (h : f v = (false, w)) (m : Nat) : itr f (m + 1) v = w ∧ (o v → ito f o (m + 1) v) := by
  refine ⟨?_, fun h1 => ⟨h1, fun h9 => by rw [h] at h9; exact absurd h9 Bool.false_ne_true⟩⟩
  show (if (f v).1 = true then itr f m (f v).2 else (f v).2) = _
  rw [h]; rfl
theorem up_i {σ : XS} {μ : MS} {n6 k : Nat} (h : RSto σ μ n6) (hk : k < n6) (q0 : Nat) : ∀ j, j < n6 → ∀ m, j + 1 < m →
    ito (s_X7_isPartOf_2 q0 (xe σ 6 k) σ) (os_X7_isPartOf_2 q0 (xe σ 6 k) σ) m (xe σ 6 j, none) ∧ ito (s_X11_isCutFrom_2 (nI k) μ) (os_X11_isCutFrom_2 (nI k) μ) m (nI j) ∧ (((itr (s_X7_isPartOf_2 q0 (xe σ 6 k) σ) m (xe σ 6 j, none)).2 = some 1 ∧ itr (s_X11_isCutFrom_2 (nI k) μ) m (nI j) = nI k ∧ k ≤ j) ∨ ((itr (s_X7_isPartOf_2 q0 (xe σ 6 k) σ) m (xe σ 6 j, none)).2 = none ∧ itr (s_X11_isCutFrom_2 (nI k) μ) m (nI j) = -1)) := by
  intro j
  induction j using Nat.strongRecOn with
  | ind j ih =>
  intro hj m hm
  obtain ⟨g1, g2, g3, g4, g5, g6⟩ := h
  obtain ⟨b1, b2, b3, b4, b5, b6, b7, b8, b9, b10, b11, b12, b13, b14, b15, b16, b17⟩ := g6 j hj
  obtain ⟨m, rfl⟩ : ∃ m', m = m' + 1 := ⟨m - 1, by omega⟩
  have z0 := g2 j hj
  have kj : xk σ (xe σ 6 j) = 8 := g5.2.1 j hj
  have nj : ¬ nI j = -1 := nI_m1 (by omega)
  have hix : ix (nI j) = j := clamp_nI (by omega)
  have vj : vp_in (nI j) 40 := nI_in (by omega) (by decide)
  have oX : ob_X7_isPartOf_2 q0 (xe σ 6 k) σ (xe σ 6 j) := ⟨fun _ => trivial, fun _ => ⟨kj, trivial⟩⟩
  have oM : ob_X11_isCutFrom_2 (nI k) μ (nI j) := ⟨fun z => absurd z nj, fun _ => ⟨fun _ => trivial, fun _ => ⟨vj, trivial⟩⟩⟩
  by_cases c : j = k
  · have fX : s_X7_isPartOf_2 q0 (xe σ 6 k) σ (xe σ 6 j, none) = (false, (xe σ 6 j, some 1)) := by
      show b_X7_isPartOf_2 q0 (xe σ 6 k) σ (xe σ 6 j) = _
      unfold b_X7_isPartOf_2
      rw [if_neg z0, if_pos (by rw [c])]
    have fM : s_X11_isCutFrom_2 (nI k) μ (nI j) = (false, nI j) := by
      show b_X11_isCutFrom_2 (nI k) μ (nI j) = _
      unfold b_X11_isCutFrom_2
      rw [if_neg nj, if_pos (by rw [c])]
    refine ⟨(it_f fX m).2 oX, (it_f fM m).2 oM, Or.inl ⟨?_, ?_, by omega⟩⟩
    · rw [(it_f (o := os_X7_isPartOf_2 q0 (xe σ 6 k) σ) fX m).1]
    · rw [(it_f (o := os_X11_isCutFrom_2 (nI k) μ) fM m).1, c]
  · have ne : ¬ xe σ 6 j = xe σ 6 k := fun e => c (g5.2.2 j k hj hk e)
    have ne2 : ¬ nI j = nI k := fun e => c ((nI_eq (by omega) (by omega)).mp e)
    have fX : s_X7_isPartOf_2 q0 (xe σ 6 k) σ (xe σ 6 j, none) = (true, (xr σ 164 (xe σ 6 j), none)) := by
      show b_X7_isPartOf_2 q0 (xe σ 6 k) σ (xe σ 6 j) = _
      unfold b_X7_isPartOf_2
      rw [if_neg z0, if_neg ne]
    have fM : s_X11_isCutFrom_2 (nI k) μ (nI j) = (true, mi μ 54 j) := by
      show b_X11_isCutFrom_2 (nI k) μ (nI j) = _
      unfold b_X11_isCutFrom_2
      rw [if_neg nj, if_neg ne2, hix]
    rw [(it_t (o := os_X7_isPartOf_2 q0 (xe σ 6 k) σ) fX m).1, (it_t (o := os_X11_isCutFrom_2 (nI k) μ) fM m).1]
    rcases b15 with ⟨e1, e2⟩ | ⟨p, hp, e1, e2⟩
    · rw [e1] at fM ⊢
      rw [e2] at fX ⊢
      obtain ⟨m, rfl⟩ : ∃ m', m = m' + 1 := ⟨m - 1, by omega⟩
      have fX2 : s_X7_isPartOf_2 q0 (xe σ 6 k) σ (0, none) = (false, (0, none)) := by
        show b_X7_isPartOf_2 q0 (xe σ 6 k) σ 0 = _
        unfold b_X7_isPartOf_2
        rw [if_pos rfl]
      have fM2 : s_X11_isCutFrom_2 (nI k) μ (-1) = (false, -1) := by
        show b_X11_isCutFrom_2 (nI k) μ (-1) = _
        unfold b_X11_isCutFrom_2
        rw [if_pos rfl]
      refine ⟨(it_t fX (m + 1)).2 oX ((it_f fX2 m).2 ⟨fun _ => trivial, fun z => absurd rfl z⟩), (it_t fM (m + 1)).2 oM ((it_f fM2 m).2 ⟨fun _ => trivial, fun z => absurd rfl z⟩), Or.inr ⟨?_, ?_⟩⟩
      · rw [(it_f (o := os_X7_isPartOf_2 q0 (xe σ 6 k) σ) fX2 m).1]
      · rw [(it_f (o := os_X11_isCutFrom_2 (nI k) μ) fM2 m).1]
    · rw [e1] at fM ⊢
      rw [e2] at fX ⊢
      obtain ⟨i1, i2, i3⟩ := ih p hp (by omega) m (by omega)
      refine ⟨(it_t fX m).2 oX i1, (it_t fM m).2 oM i2, ?_⟩
      rcases i3 with ⟨y1, y2, y3⟩ | ⟨y1, y2⟩
      · exact Or.inl ⟨y1, y2, by omega⟩
      · exact Or.inr ⟨y1, y2⟩
theorem cut_i {σ : XS} {μ : MS} {n6 j k : Nat} (h : RSto σ μ n6) (hj : j < n6) (hk : k < n6) : of_X7_isPartOf σ (xe σ 6 j) (xe σ 6 k) ∧ of_X11_isCutFrom μ (nI j) (nI k) ∧ ((f_X7_isPartOf σ (xe σ 6 j) (xe σ 6 k) = 1 ∧ f_X11_isCutFrom μ (nI j) (nI k) = 1 ∧ k ≤ j) ∨ (f_X7_isPartOf σ (xe σ 6 j) (xe σ 6 k) = 0 ∧ f_X11_isCutFrom μ (nI j) (nI k) = 0)) := by
  have h40 := h.1
  have kj : xk σ (xe σ 6 j) = 8 := h.2.2.2.2.1.2.1 j hj
  obtain ⟨i1, i2, i3⟩ := up_i h hk (xe σ 6 j) j hj FU (by show j + 1 < 100000; omega)
  have f1 : f_X7_isPartOf σ (xe σ 6 j) (xe σ 6 k) = lret (itr (s_X7_isPartOf_2 (xe σ 6 j) (xe σ 6 k) σ) FU (xe σ 6 j, none)).2 0 := by
    unfold f_X7_isPartOf f_X7_isPartOf_2 f_X7_isPartOf_21
    rfl
  have f2 : f_X11_isCutFrom μ (nI j) (nI k) = if itr (s_X11_isCutFrom_2 (nI k) μ) FU (nI j) = nI k then 1 else 0 := by
    unfold f_X11_isCutFrom f_X11_isCutFrom_2 f_X11_isCutFrom_22
    rfl
  have nk : ¬ (-1 : Int32) = nI k := fun z => nI_m1 (k := k) (by omega) z.symm
  refine ⟨⟨kj, i1, ?_⟩, ⟨i2, trivial⟩, ?_⟩
  · rcases i3 with ⟨y1, -⟩ | ⟨y1, -⟩
    · rw [y1]; exact trivial
    · rw [y1]; exact trivial
  · rw [f1, f2]
    rcases i3 with ⟨y1, y2, y3⟩ | ⟨y1, y2⟩
    · exact Or.inl ⟨lret_s y1, by rw [y2, if_pos rfl], y3⟩
    · exact Or.inr ⟨lret_n y1, by rw [y2, if_neg nk]⟩
/-! ===== whole ===== -/
def wsum (μ : MS) (j : Nat) : Nat → Int32
  | 0 => 0
  | k + 1 => if f_X11_isCutFrom μ (nI k) (nI j) = 0 then wsum μ j k else wsum μ j k + (mi μ 50 k + mi μ 55 k)
theorem wsum_0 {σ : XS} {μ : MS} {n6 j : Nat} (h : RSto σ μ n6) (hj : j < n6) : ∀ k, k ≤ j → wsum μ j k = 0
  | 0, _ => rfl
  | k + 1, hk => by
    have e : f_X11_isCutFrom μ (nI k) (nI j) = 0 := by
      rcases (cut_i h (j := k) (by omega) hj).2.2 with ⟨-, -, y⟩ | ⟨-, y⟩
      · omega
      · exact y
    show (if _ then _ else _) = _
    rw [if_pos e]
    exact wsum_0 h hj k (by omega)
theorem whole_c {σ : XS} {x : Nat} {μ : MS} {n6 j : Nat} (h : RSto σ μ n6) (hj : j < n6) : ito (s_X10_whole_11 x (xe σ 6 j) σ) (os_X10_whole_11 x (xe σ 6 j) σ) FU (0, 0) ∧ itr (s_X10_whole_11 x (xe σ 6 j) σ) FU (0, 0) = (wsum μ j n6, nI n6) := by
  have h40 := h.1
  have hx : xn σ 6 = n6 := h.2.2.2.2.1.1
  have hkk := h.2.2.2.2.1.2.1
  have main := itr_for (f := s_X10_whole_11 x (xe σ 6 j) σ) (o := os_X10_whole_11 x (xe σ 6 j) σ) (fun k (b : Int32) => (b, nI k)) (fun k b => b = wsum μ j k) (n := n6) (by
    intro k b hk hb
    have hix : ix (nI k) = k := clamp_nI (by omega)
    have c1 : ¬ nI n6 ≤ nI k := by rw [nI_leI (by omega) (by omega)]; omega
    obtain ⟨q1, q2, q3⟩ := cut_i h hk hj
    obtain ⟨b1, b2, b3, b4, b5, b6, -⟩ := h.2.2.2.2.2 k hk
    constructor
    · show ob_X10_whole_11 x (xe σ 6 j) σ b (nI k)
      unfold ob_X10_whole_11
      rw [hx, hix]
      exact ⟨fun _ => trivial, fun _ => ⟨nI_in hk (by omega), hkk k hk, q1, trivial⟩⟩
    · refine ⟨wsum μ j (k + 1), ?_, rfl⟩
      show b_X10_whole_11 x (xe σ 6 j) σ b (nI k) = _
      unfold b_X10_whole_11 f_X10_whole_l11_64
      rw [hx, if_neg c1, hix, b5, b6, hb]
      show _ = (true, ((if f_X11_isCutFrom μ (nI k) (nI j) = 0 then wsum μ j k else wsum μ j k + (mi μ 50 k + mi μ 55 k)), nI (k + 1)))
      rcases q3 with ⟨y1, y2, -⟩ | ⟨y1, y2⟩
      · rw [y1, y2, if_neg i_1ne0, if_neg i_1ne0, nI_1]
      · rw [y1, y2, if_pos rfl, if_pos rfl, nI_1]) (by
    intro b hb
    constructor
    · show ob_X10_whole_11 x (xe σ 6 j) σ b (nI n6)
      unfold ob_X10_whole_11
      rw [hx]
      exact ⟨fun _ => trivial, fun z => absurd (Int32.le_refl _) z⟩
    · show b_X10_whole_11 x (xe σ 6 j) σ b (nI n6) = _
      unfold b_X10_whole_11
      rw [hx, if_pos (Int32.le_refl _)]) FU 0 0 (Nat.zero_le _) (by show n6 - 0 < 100000; omega) rfl
  obtain ⟨m1, b', m2, m3⟩ := main
  exact ⟨m1, by rw [← m3]; exact m2⟩
theorem whole_m {σ : XS} {μ : MS} {n6 j : Nat} (h : RSto σ μ n6) (ht : mi μ 0 0 = 0) (hj : j < n6) : ito (s_X11_whole_21 (nI j) μ) (os_X11_whole_21 (nI j) μ) FU (0, nI j) ∧ itr (s_X11_whole_21 (nI j) μ) FU (0, nI j) = (wsum μ j n6, nI n6) := by
  have h40 := h.1
  have hm : mi μ 46 0 = nI n6 := h.2.2.2.1
  have main := itr_for (f := s_X11_whole_21 (nI j) μ) (o := os_X11_whole_21 (nI j) μ) (fun k (b : Int32) => (b, nI k)) (fun k b => b = wsum μ j k) (n := n6) (by
    intro k b hk hb
    have hix : ix (nI k) = k := clamp_nI (by omega)
    have c1 : ¬ nI n6 ≤ nI k := by rw [nI_leI (by omega) (by omega)]; omega
    have vk : vp_in (nI k) 40 := nI_in (by omega) (by decide)
    obtain ⟨q1, q2, q3⟩ := cut_i h hk hj
    constructor
    · show ob_X11_whole_21 (nI j) μ b (nI k)
      exact ⟨fun _ => trivial, fun _ => ⟨fun _ => ⟨q2, fun _ => trivial, fun _ => ⟨vk, vk, trivial⟩⟩, fun _ => trivial⟩⟩
    · refine ⟨wsum μ j (k + 1), ?_, rfl⟩
      show b_X11_whole_21 (nI j) μ b (nI k) = _
      unfold b_X11_whole_21 f_X11_whole_l21_63
      rw [hm, if_neg c1, if_pos ht, hix, hb]
      show _ = (true, ((if f_X11_isCutFrom μ (nI k) (nI j) = 0 then wsum μ j k else wsum μ j k + (mi μ 50 k + mi μ 55 k)), nI (k + 1)))
      rcases q3 with ⟨y1, y2, -⟩ | ⟨y1, y2⟩
      · rw [y2, if_neg i_1ne0, if_neg i_1ne0, nI_1]
      · rw [y2, if_pos rfl, if_pos rfl, nI_1, Int32.add_zero]) (by
    intro b hb
    constructor
    · show ob_X11_whole_21 (nI j) μ b (nI n6)
      unfold ob_X11_whole_21
      rw [hm]
      exact ⟨fun _ => trivial, fun z => absurd (Int32.le_refl _) z⟩
    · show b_X11_whole_21 (nI j) μ b (nI n6) = _
      unfold b_X11_whole_21
      rw [hm, if_pos (Int32.le_refl _)]) FU j 0 (by omega) (by show n6 - j < 100000; omega) (wsum_0 h hj j (Nat.le_refl _)).symm
  obtain ⟨m1, b', m2, m3⟩ := main
  exact ⟨m1, by rw [← m3]; exact m2⟩
theorem br_whole : Br_whole Rep := by
  intro σ x μ p0 hh
  obtain ⟨n0, n1, n2, n4, n5, n6, h, hG⟩ := id hh
  have hst := h.2.2.2.2.2.2.2.1
  have d1 : cd_whole 3 = 1 := by decide
  obtain ⟨e1, e2, e3⟩ := st_ex (x := x) p0 hst
  rcases e3 with ⟨j, hj, rfl, hix, h40, hn, hF, hM, hK⟩ | ⟨-, hF, hM⟩
  · have hst' : RSto σ (mI μ 0 0 0) n6 := (thr_rep (t := 0) h).2.2.2.2.2.2.2.1
    obtain ⟨a1, a2⟩ := whole_c (x := x) hst' hj
    obtain ⟨c1, c2⟩ := whole_m hst' rfl hj
    have hm1 : ¬ f_X11_isStone μ (nI j) = 0 := by rw [hM]; exact i_1ne0
    have hFo : ∀ nq, FL_whole σ x (nI j) nq = .ok (wsum (mI μ 0 0 0) j n6, σ) := by
      intro nq
      show exm σ (f_X10_whole σ x (nI j)) = _
      unfold f_X10_whole
      rw [hF, exb_i]
      unfold f_X10_whole_11 f_X10_whole_70
      rw [a2]
      rfl
    have hMo : f_X11_whole μ (nI j) = (wsum (mI μ 0 0 0) j n6, mI μ 0 0 0) := by
      unfold f_X11_whole
      rw [if_neg hm1]
      unfold f_X11_whole_14 f_X11_whole_21 f_X11_whole_71
      rw [c2]
    refine ⟨?_, no_er hFo, ⟨e2, fun z => absurd z hm1, fun _ => ⟨c1, trivial⟩⟩, fun nq f _ _ => cl_oI (hFo nq) hMo rfl ⟨n0, n1, n2, n4, n5, n6, thr_rep h, hG⟩ f⟩
    unfold of_X10_whole
    rw [hF, exo_i]
    exact ⟨e1, a1, trivial⟩
  · have hFe : ∀ nq, FL_whole σ x p0 nq = .error 3 := fun nq => by
      show exm σ (f_X10_whole σ x p0) = _
      unfold f_X10_whole
      rw [hF, exb_e]; rfl
    have fb : ∃ w, s_X11_whole_21 p0 (mI μ 0 0 1) (0, p0) = (false, (0, w)) := by
      show ∃ w, b_X11_whole_21 p0 (mI μ 0 0 1) 0 p0 = (false, (0, w))
      unfold b_X11_whole_21
      by_cases c : mi (mI μ 0 0 1) 46 0 ≤ p0
      · rw [if_pos c]; exact ⟨_, rfl⟩
      · rw [if_neg c, if_neg (show ¬ mi (mI μ 0 0 1) 0 0 = 0 from i_1ne0)]; exact ⟨_, rfl⟩
    obtain ⟨w, fb⟩ := fb
    have ob : os_X11_whole_21 p0 (mI μ 0 0 1) (0, p0) := by
      show ob_X11_whole_21 p0 (mI μ 0 0 1) 0 p0
      exact ⟨fun _ => trivial, fun _ => ⟨fun z => absurd (show mi (mI μ 0 0 1) 0 0 = 0 from z) i_1ne0, fun _ => trivial⟩⟩
    have eFU : FU = 99999 + 1 := rfl
    have hMe : f_X11_whole μ p0 = (0, mI μ 0 0 1) := by
      unfold f_X11_whole
      rw [if_pos hM]
      unfold f_X11_whole_14 f_X11_whole_21 f_X11_whole_71
      rw [eFU, (it_f (o := os_X11_whole_21 p0 (mI μ 0 0 1)) fb 99999).1]
    refine ⟨?_, is_er hFe rfl, ⟨e2, fun _ => ⟨by rw [eFU]; exact (it_f fb 99999).2 ob, trivial⟩, fun z => absurd hM z⟩, fun nq f _ _ => cl_eI hFe hMe (fr_refl μ) d1 (by decide) hh nq f⟩
    unfold of_X10_whole
    rw [hF, exo_e]
    exact ⟨e1, trivial⟩
