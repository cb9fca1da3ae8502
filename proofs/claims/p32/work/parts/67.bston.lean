/-! ===== stone ===== -/
theorem own_i {σ : XS} {μ : MS} {n6 j : Nat} (h : RSto σ μ n6) (hj : j < n6) : (xi σ 173 (xe σ 6 j) = -1 ∧ mi μ 60 j = -1) ∨ (¬ xi σ 173 (xe σ 6 j) = -1 ∧ ¬ mi μ 60 j = -1 ∧ mi μ 60 j = 100 * xi σ 173 (xe σ 6 j) + xi σ 174 (xe σ 6 j)) := by
  obtain ⟨b1, b2, b3, b4, b5, b6, b7, b8, b9, b10, b11, b12, b13, b14, b15, b16, b17⟩ := h.2.2.2.2.2 j hj
  rcases b17 with c | ⟨c1, c2, c3⟩
  · exact Or.inl c
  · obtain ⟨k, hk, ek⟩ := (rng_iff (n := 10) (by decide) (by decide)).mp c1
    rw [ek] at c3 ⊢
    refine Or.inr ⟨nI_m1 (by omega), ?_, c3⟩
    rw [c3]
    have u := rng_i (L := 1) (H := 40) c2 rfl rfl
    have w : (nI k).toInt = k := nI_toInt (by omega)
    have w2 : (100 * nI k).toInt = 100 * (k : Int) := by
      rw [i32_mul (m := 900) (by rw [w]; show (100 * (k : Int)).natAbs ≤ 900; omega) (by omega), w]; rfl
    intro z
    have z2 := congrArg Int32.toInt z
    rw [i32_add (m := 1000) (by omega) (by omega), w2] at z2
    have : (-1 : Int32).toInt = -1 := rfl
    omega
theorem nam_i {σ : XS} {μ : MS} {n6 : Nat} (h : RSto σ μ n6) (q0 : Nat) : ∀ j, j < n6 → ∀ m, j + 1 < m →
    ito (s_X7_namesake_2 q0 σ) (os_X7_namesake_2 q0 σ) m (xe σ 6 j, none) ∧ ito (s_X11_namesake_2 μ) (os_X11_namesake_2 μ) m (nI j) ∧ ((∃ p, p < n6 ∧ (itr (s_X7_namesake_2 q0 σ) m (xe σ 6 j, none)).2 = some (xe σ 6 p) ∧ itr (s_X11_namesake_2 μ) m (nI j) = nI p ∧ ¬ mi μ 60 p = -1) ∨ ((itr (s_X7_namesake_2 q0 σ) m (xe σ 6 j, none)).2 = none ∧ itr (s_X11_namesake_2 μ) m (nI j) = -1)) := by
  intro j
  induction j using Nat.strongRecOn with
  | ind j ih =>
  intro hj m hm
  have own := own_i h hj
  obtain ⟨g1, g2, g3, g4, g5, g6⟩ := h
  obtain ⟨b1, b2, b3, b4, b5, b6, b7, b8, b9, b10, b11, b12, b13, b14, b15, b16, b17⟩ := g6 j hj
  obtain ⟨m, rfl⟩ : ∃ m', m = m' + 1 := ⟨m - 1, by omega⟩
  have z0 := g2 j hj
  have kj : xk σ (xe σ 6 j) = 8 := g5.2.1 j hj
  have nj : ¬ nI j = -1 := nI_m1 (by omega)
  have hix : ix (nI j) = j := clamp_nI (by omega)
  have vj : vp_in (nI j) 40 := nI_in (by omega) (by decide)
  have oX : ob_X7_namesake_2 q0 σ (xe σ 6 j) := ⟨fun _ => trivial, fun _ => ⟨kj, ⟨kj, trivial⟩, trivial⟩⟩
  have oM : ob_X11_namesake_2 μ (nI j) := ⟨fun z => absurd z nj, fun _ => ⟨vj, fun _ => ⟨vj, trivial⟩, fun _ => trivial⟩⟩
  rcases own with ⟨c1, c2⟩ | ⟨c1, c2, c3⟩
  · have fX : s_X7_namesake_2 q0 σ (xe σ 6 j, none) = (true, (xr σ 164 (xe σ 6 j), none)) := by
      show b_X7_namesake_2 q0 σ (xe σ 6 j) = _
      unfold b_X7_namesake_2 f_X7_hasOwnName
      rw [if_neg z0, if_pos c1, if_pos rfl]
    have fM : s_X11_namesake_2 μ (nI j) = (true, mi μ 54 j) := by
      show b_X11_namesake_2 μ (nI j) = _
      unfold b_X11_namesake_2
      rw [if_neg nj, hix, if_pos c2]
    rw [(it_t (o := os_X7_namesake_2 q0 σ) fX m).1, (it_t (o := os_X11_namesake_2 μ) fM m).1]
    rcases b15 with ⟨e1, e2⟩ | ⟨p, hp, e1, e2⟩
    · rw [e1] at fM ⊢
      rw [e2] at fX ⊢
      obtain ⟨m, rfl⟩ : ∃ m', m = m' + 1 := ⟨m - 1, by omega⟩
      have fX2 : s_X7_namesake_2 q0 σ (0, none) = (false, (0, none)) := by
        show b_X7_namesake_2 q0 σ 0 = _
        unfold b_X7_namesake_2
        rw [if_pos rfl]
      have fM2 : s_X11_namesake_2 μ (-1) = (false, -1) := by
        show b_X11_namesake_2 μ (-1) = _
        unfold b_X11_namesake_2
        rw [if_pos rfl]
      refine ⟨(it_t fX (m + 1)).2 oX ((it_f fX2 m).2 ⟨fun _ => trivial, fun z => absurd rfl z⟩), (it_t fM (m + 1)).2 oM ((it_f fM2 m).2 ⟨fun _ => trivial, fun z => absurd rfl z⟩), Or.inr ⟨?_, ?_⟩⟩
      · rw [(it_f (o := os_X7_namesake_2 q0 σ) fX2 m).1]
      · rw [(it_f (o := os_X11_namesake_2 μ) fM2 m).1]
    · rw [e1] at fM ⊢
      rw [e2] at fX ⊢
      obtain ⟨i1, i2, i3⟩ := ih p hp (by omega) m (by omega)
      exact ⟨(it_t fX m).2 oX i1, (it_t fM m).2 oM i2, i3⟩
  · have fX : s_X7_namesake_2 q0 σ (xe σ 6 j, none) = (false, (xe σ 6 j, some (xe σ 6 j))) := by
      show b_X7_namesake_2 q0 σ (xe σ 6 j) = _
      unfold b_X7_namesake_2 f_X7_hasOwnName
      rw [if_neg z0, if_neg c1, if_neg i_1ne0]
    have fM : s_X11_namesake_2 μ (nI j) = (false, nI j) := by
      show b_X11_namesake_2 μ (nI j) = _
      unfold b_X11_namesake_2
      rw [if_neg nj, hix, if_neg c2]
    refine ⟨(it_f fX m).2 oX, (it_f fM m).2 oM, Or.inl ⟨j, hj, ?_, ?_, c2⟩⟩
    · rw [(it_f (o := os_X7_namesake_2 q0 σ) fX m).1]
    · rw [(it_f (o := os_X11_namesake_2 μ) fM m).1]
theorem names_i {σ : XS} {μ : MS} {n6 j : Nat} (h : RSto σ μ n6) (hj : j < n6) : of_X7_namesake σ (xe σ 6 j) ∧ of_X11_namesake μ (nI j) ∧ ((∃ p, p < n6 ∧ f_X7_namesake σ (xe σ 6 j) = xe σ 6 p ∧ f_X11_namesake μ (nI j) = nI p ∧ ¬ mi μ 60 p = -1) ∨ (f_X7_namesake σ (xe σ 6 j) = 0 ∧ f_X11_namesake μ (nI j) = -1)) := by
  have h40 := h.1
  have kj : xk σ (xe σ 6 j) = 8 := h.2.2.2.2.1.2.1 j hj
  obtain ⟨i1, i2, i3⟩ := nam_i h (xe σ 6 j) j hj FU (by show j + 1 < 100000; omega)
  have f1 : f_X7_namesake σ (xe σ 6 j) = lret (itr (s_X7_namesake_2 (xe σ 6 j) σ) FU (xe σ 6 j, none)).2 0 := by
    unfold f_X7_namesake f_X7_namesake_2 f_X7_namesake_23
    rfl
  have f2 : f_X11_namesake μ (nI j) = itr (s_X11_namesake_2 μ) FU (nI j) := by
    unfold f_X11_namesake f_X11_namesake_2 f_X11_namesake_27
    rfl
  refine ⟨⟨kj, i1, ?_⟩, ⟨i2, trivial⟩, ?_⟩
  · rcases i3 with ⟨p, -, y1, -⟩ | ⟨y1, -⟩
    · rw [y1]; exact trivial
    · rw [y1]; exact trivial
  · rw [f1, f2]
    rcases i3 with ⟨p, y0, y1, y2, y3⟩ | ⟨y1, y2⟩
    · exact Or.inl ⟨p, y0, lret_s y1, y2, y3⟩
    · exact Or.inr ⟨lret_n y1, y2⟩
def snum (μ : MS) (p j : Int32) : Int32 := if p = 0 then mi μ 50 (ix j) else if p = 1 then mi μ 51 (ix j) else if p = 2 then mi μ 52 (ix j) else if p = 3 then mi μ 53 (ix j) else if p = 4 then mi μ 54 (ix j) else if p = 5 then (if f_X11_namesake μ j = -1 then -1 else mi μ 60 (ix (f_X11_namesake μ j))) else if p = 6 then (if f_X11_namesake μ j = -1 then 0 else if mi μ 61 (ix (f_X11_namesake μ j)) = 0 then 0 else 1) else mi μ 55 (ix j)
theorem number_i {σ : XS} {μ : MS} {n6 j : Nat} (h : RSto σ μ n6) (hj : j < n6) (p : Int32) : of_X7_number σ (xe σ 6 j) p ∧ f_X7_number σ (xe σ 6 j) p = snum μ p (nI j) := by
  have h40 := h.1
  obtain ⟨o1, o2, o3⟩ := names_i h hj
  have hix : ix (nI j) = j := clamp_nI (by omega)
  have kk : ∀ p, p < n6 → xk σ (xe σ 6 p) = 8 := h.2.2.2.2.1.2.1
  have kj := kk j hj
  obtain ⟨b1, b2, b3, b4, b5, b6, b7, b8, b9, b10, b11, b12, b13, b14, b15, b16, b17⟩ := h.2.2.2.2.2 j hj
  have ofull : of_X7_fullName σ (xe σ 6 j) ∧ f_X7_fullName σ (xe σ 6 j) = if f_X11_namesake μ (nI j) = -1 then -1 else mi μ 60 (ix (f_X11_namesake μ (nI j))) := by
    unfold of_X7_fullName f_X7_fullName
    rcases o3 with ⟨q, y0, y1, y2, y3⟩ | ⟨y1, y2⟩
    · have nq : ¬ nI q = -1 := nI_m1 (by omega)
      have hq : ix (nI q) = q := clamp_nI (by omega)
      rw [y1, y2, if_neg (h.2.1 q y0), if_neg nq, hq]
      refine ⟨⟨o1, kj, fun z => absurd z (h.2.1 q y0), fun _ => ⟨kk q y0, trivial⟩⟩, ?_⟩
      rcases own_i h y0 with ⟨-, c⟩ | ⟨-, -, c⟩
      · exact absurd c y3
      · exact c.symm
    · rw [y1, y2, if_pos rfl, if_pos rfl]
      exact ⟨⟨o1, kj, fun _ => trivial, fun z => absurd rfl z⟩, rfl⟩
  have odou : of_X7_isDoubtful σ (xe σ 6 j) ∧ f_X7_isDoubtful σ (xe σ 6 j) = if f_X11_namesake μ (nI j) = -1 then 0 else if mi μ 61 (ix (f_X11_namesake μ (nI j))) = 0 then 0 else 1 := by
    unfold of_X7_isDoubtful f_X7_isDoubtful
    rcases o3 with ⟨q, y0, y1, y2, y3⟩ | ⟨y1, y2⟩
    · have nq : ¬ nI q = -1 := nI_m1 (by omega)
      have hq : ix (nI q) = q := clamp_nI (by omega)
      obtain ⟨c1, c2, c3, c4, c5, c6, c7, c8, c9, c10, -⟩ := h.2.2.2.2.2 q y0
      rw [y1, y2, if_neg (h.2.1 q y0), if_neg nq, hq, c10]
      exact ⟨⟨o1, kj, fun z => absurd z (h.2.1 q y0), fun _ => ⟨kk q y0, trivial⟩⟩, rfl⟩
    · rw [y1, y2, if_pos rfl, if_pos rfl]
      exact ⟨⟨o1, kj, fun _ => trivial, fun z => absurd rfl z⟩, rfl⟩
  constructor
  · refine ⟨fun _ => ⟨kj, trivial⟩, fun _ => ⟨fun _ => ⟨kj, trivial⟩, fun _ => ⟨fun _ => ⟨kj, trivial⟩, fun _ => ⟨fun _ => ⟨kj, trivial⟩, fun _ => ⟨fun _ => ⟨kj, fun _ => trivial, fun z => ⟨?_, trivial⟩⟩, fun _ => ⟨fun _ => ⟨ofull.1, kj, trivial⟩, fun _ => ⟨fun _ => ⟨odou.1, kj, trivial⟩, fun _ => ⟨kj, trivial⟩⟩⟩⟩⟩⟩⟩⟩
    rcases b15 with ⟨e1, e2⟩ | ⟨q, hq, e1, e2⟩
    · exact absurd e2 z
    · rw [e2]; exact kk q (by omega)
  · have e4 : (if xr σ 164 (xe σ 6 j) = 0 then (-1 : Int32) else xi σ 160 (xr σ 164 (xe σ 6 j))) = mi μ 54 j := by
      rcases b15 with ⟨e1, e2⟩ | ⟨q, hq, e1, e2⟩
      · rw [if_pos e2, e1]
      · rw [e2, if_neg (h.2.1 q (by omega)), (h.2.2.2.2.2 q (by omega)).1, e1]
    have e6 : (if f_X7_isDoubtful σ (xe σ 6 j) = 0 then (0 : Int32) else 1) = if f_X11_namesake μ (nI j) = -1 then 0 else if mi μ 61 (ix (f_X11_namesake μ (nI j))) = 0 then 0 else 1 := by
      rw [odou.2]
      by_cases c : f_X11_namesake μ (nI j) = -1
      · rw [if_pos c, if_pos rfl]
      · rw [if_neg c]
        by_cases d : mi μ 61 (ix (f_X11_namesake μ (nI j))) = 0
        · rw [if_pos d, if_pos rfl]
        · rw [if_neg d, if_neg i_1ne0]
    unfold f_X7_number snum
    rw [ofull.2, e4, e6, b5, b6, b7, b8, b9, hix]
theorem br_stone : Br_stone Rep := by
  intro σ x μ p0 p1 hh
  obtain ⟨n0, n1, n2, n4, n5, n6, h, hG⟩ := id hh
  have hst := h.2.2.2.2.2.2.2.1
  have d1 : cd_stone 3 = 1 := by decide
  have d2 : cd_stone 1 = 2 := by decide
  have i1 : ¬ (1 : Int32) ≤ 0 := by decide
  have i2 : ¬ (2 : Int32) ≤ 0 := by decide
  obtain ⟨e1, e2, e3⟩ := st_ex (x := x) p0 hst
  have t28 : ∀ t, ¬ t ≤ (0 : Int32) → f_X11_stone_28 μ p0 p1 t = (0, mI μ 0 0 t) ∧ of_X11_stone_28 μ p0 p1 t := fun t ht => ⟨if_neg ht, fun z => absurd z ht, fun _ => trivial⟩
  rcases e3 with ⟨j, hj, rfl, hix, h40, hn, hF, hM, hK⟩ | ⟨-, hF, hM⟩
  · have hm1 : ¬ f_X11_isStone μ (nI j) = 0 := by rw [hM]; exact i_1ne0
    rcases in_or p1 0 7 with ⟨a1, a2, a3⟩ | ⟨a1, a2, a3⟩
    · have hm2 : ¬ f_X11_isIn p1 0 7 = 0 := by rw [a2]; exact i_1ne0
      have hst' : RSto σ (mI μ 0 0 0) n6 := (thr_rep (t := 0) h).2.2.2.2.2.2.2.1
      obtain ⟨q1, q2⟩ := number_i hst' hj p1
      obtain ⟨-, r1, r2⟩ := names_i hst' hj
      have vn : ¬ f_X11_namesake (mI μ 0 0 0) (nI j) = -1 → vp_in (f_X11_namesake (mI μ 0 0 0) (nI j)) 40 := by
        intro z
        rcases r2 with ⟨p, y0, -, y2, -⟩ | ⟨-, y2⟩
        · rw [y2]; exact nI_in (by have := hst.1; omega) (by decide)
        · exact absurd y2 z
      have hFo : ∀ nq, FL_stone σ x (nI j) p1 nq = .ok (snum (mI μ 0 0 0) p1 (nI j), σ) := by
        intro nq
        show exm σ (f_X10_stone σ x (nI j) p1) = _
        unfold f_X10_stone
        rw [hF, exb_i, a3, exb_i, q2]; rfl
      have hMo : f_X11_stone μ (nI j) p1 = (snum (mI μ 0 0 0) p1 (nI j), mI μ 0 0 0) := by
        unfold f_X11_stone
        rw [if_neg hm1, if_neg hm2]
        unfold f_X11_stone_28 snum
        rw [if_pos (by decide)]
        split
        · rfl
        · split
          · rfl
          · split
            · rfl
            · split
              · rfl
              · split
                · rfl
                · split
                  · split
                    · rfl
                    · rfl
                  · split
                    · split
                      · rfl
                      · split
                        · rename_i z
                          exact Prod.ext (if_pos z).symm rfl
                        · rename_i z
                          exact Prod.ext (if_neg z).symm rfl
                    · rfl
      refine ⟨?_, no_er hFo, ⟨e2, fun z => absurd z hm1, fun _ => ⟨fun z => absurd z hm2, fun _ => ⟨fun _ => ⟨r1, fun _ => ⟨h40, trivial⟩, fun _ => ⟨fun _ => ⟨h40, trivial⟩, fun _ => ⟨fun _ => ⟨h40, trivial⟩, fun _ => ⟨fun _ => ⟨h40, trivial⟩, fun _ => ⟨fun _ => ⟨h40, trivial⟩, fun _ => ⟨fun _ => ⟨fun _ => trivial, fun z => ⟨vn z, trivial⟩⟩, fun _ => ⟨fun _ => ⟨fun _ => trivial, fun z => ⟨vn z, trivial⟩⟩, fun _ => ⟨h40, trivial⟩⟩⟩⟩⟩⟩⟩⟩, fun _ => trivial⟩⟩⟩, fun nq f _ _ => cl_oI (hFo nq) hMo rfl ⟨n0, n1, n2, n4, n5, n6, thr_rep h, hG⟩ f⟩
      unfold of_X10_stone
      rw [hF, exo_i, a3, exo_i]
      exact ⟨e1, q1, hK, trivial⟩
    · have hFe : ∀ nq, FL_stone σ x (nI j) p1 nq = .error 1 := by
        intro nq
        show exm σ (f_X10_stone σ x (nI j) p1) = _
        unfold f_X10_stone
        rw [hF, exb_i, a3, exb_e]; rfl
      have hMe : f_X11_stone μ (nI j) p1 = (0, mI μ 0 0 2) := by
        unfold f_X11_stone
        rw [if_neg hm1, if_pos a2]
        exact (t28 2 i2).1
      refine ⟨?_, is_er hFe (Or.inr rfl), ⟨e2, fun z => absurd z hm1, fun _ => ⟨fun _ => (t28 2 i2).2, fun z => absurd a2 z⟩⟩, fun nq f _ _ => cl_eI hFe hMe (fr_refl μ) d2 (by decide) hh nq f⟩
      unfold of_X10_stone
      rw [hF, exo_i, a3, exo_e]
      exact ⟨e1, trivial⟩
  · have hFe : ∀ nq, FL_stone σ x p0 p1 nq = .error 3 := fun nq => by
      show exm σ (f_X10_stone σ x p0 p1) = _
      unfold f_X10_stone
      rw [hF, exb_e]; rfl
    have hMe : f_X11_stone μ p0 p1 = (0, mI μ 0 0 1) := by
      unfold f_X11_stone
      rw [if_pos hM]
      exact (t28 1 i1).1
    refine ⟨?_, is_er hFe (Or.inl rfl), ⟨e2, fun _ => (t28 1 i1).2, fun z => absurd hM z⟩, fun nq f _ _ => cl_eI hFe hMe (fr_refl μ) d1 (by decide) hh nq f⟩
    unfold of_X10_stone
    rw [hF, exo_e]
    exact ⟨e1, trivial⟩
