/-! ===== cut ===== -/
theorem weigh_rep {σ : XS} {x : Nat} {μ : MS} {n0 n1 n2 n4 n5 n6 j : Nat} {v w : Int32} (hj : j < n6) (h : Rep0 σ x μ n0 n1 n2 n4 n5 n6) : Rep0 (xI (xI σ 165 (xe σ 6 j) v) 166 (xe σ 6 j) w) x (mI (mI μ 50 j v) 55 j w) n0 n1 n2 n4 n5 n6 := by
  obtain ⟨h1, h2, h3, h4, h5, h6, h7, h8, h9, h10, h11, h12⟩ := h
  refine ⟨h1, h2, h3, h4, h5, h6, h7, ?_, h9, h10, h11, h12⟩
  obtain ⟨g1, g2, g3, g4, g5, g6⟩ := h8
  refine ⟨g1, g2, fun i hi => ?_, g4, g5, fun i hi => ?_⟩
  · obtain ⟨f1, f2, f3, f4⟩ := g3 i hi
    refine ⟨f1, ?_, f3, f4⟩
    show mi (mI (mI μ 50 j v) 55 j w) 55 i = 0
    rw [mi_at, if_neg (by omega)]
    exact f2
  · obtain ⟨a1, a2, a3, a4, a5, a6, a7⟩ := g6 i hi
    refine ⟨a1, a2, a3, a4, ?_, ?_, a7⟩
    · show xi (xI σ 165 (xe σ 6 j) v) 165 (xe σ 6 i) = mi (mI μ 50 j v) 50 i
      rw [xi_at, mi_at]
      by_cases hij : i = j
      · rw [if_pos (by rw [hij]), if_pos hij]
      · rw [if_neg (fun e => hij (g5.2.2 i j hi hj e)), if_neg hij]
        exact a5
    · show xi (xI (xI σ 165 (xe σ 6 j) v) 166 (xe σ 6 j) w) 166 (xe σ 6 i) = mi (mI (mI μ 50 j v) 55 j w) 55 i
      rw [xi_at, mi_at]
      by_cases hij : i = j
      · rw [if_pos (by rw [hij]), if_pos hij]
      · rw [if_neg (fun e => hij (g5.2.2 i j hi hj e)), if_neg hij]
        exact a6
/-- the piece: the new stone with the other one's minerals -/
def pie (σ : XS) (nq q : Nat) (N gr : Int32) : XS := xI (xI (xI (ini σ nq N (xi σ 161 q) (xi σ 162 q) (xi σ 163 q) gr (xi σ 167 q) q) 170 nq (xi σ 170 q)) 171 nq (xi σ 171 q)) 172 nq (xi σ 172 q)
theorem pie_e {σ : XS} {nq q : Nat} (hne : q ≠ nq) (N gr : Int32) : f_X7_pieceOf σ q nq N gr = (nq, pie σ nq q N gr) := by
  have z : ∀ c, xi (xNew σ 8 nq) c q = xi σ c q := fun c => new_xi (Or.inl hne)
  have e1 : f_X7_pieceOf σ q nq N gr = f_X7_pieceOf_26 σ q nq N gr nq (ini σ nq N (xi σ 161 q) (xi σ 162 q) (xi σ 163 q) gr (xi σ 167 q) q) := by
    unfold f_X7_pieceOf
    rw [z, z, z, z, ini_e]
  have y : ∀ c, xi (ini σ nq N (xi σ 161 q) (xi σ 162 q) (xi σ 163 q) gr (xi σ 167 q) q) c q = xi σ c q := by
    intro c
    unfold ini
    show xi (xI (xI (xI (xI (xI (xI (xI (xI (xI (xI (xNew σ 8 nq) 168 nq 0) 169 nq (-1)) 170 nq (-1)) 173 nq (-1)) 160 nq N) 161 nq _) 162 nq _) 163 nq _) 165 nq gr) 167 nq _) c q = _
    rw [xI_z (Or.inr hne), xI_z (Or.inr hne), xI_z (Or.inr hne), xI_z (Or.inr hne), xI_z (Or.inr hne), xI_z (Or.inr hne), xI_z (Or.inr hne), xI_z (Or.inr hne), xI_z (Or.inr hne), xI_z (Or.inr hne), z]
  rw [e1]
  unfold f_X7_pieceOf_26 pie
  rw [y, y, y]
theorem pie_agr {σ : XS} {nq : Nat} (hq : xk σ nq = 0) (q : Nat) (N gr : Int32) : Agr σ (pie σ nq q N gr) := agr_I (agr_I (agr_I (ini_agr hq _ _ _ _ _ _ _) hq (by omega)) hq (by omega)) hq (by omega)
/-- the reference's memory ahead of adds -/
def cutM (μ : MS) (t : Int32) (n6 j : Nat) (v w m6 m7 m8 m9 : Int32) : MS := mI (mI (mI (mI (mI (mI (mI μ 0 0 t) 50 j v) 55 j w) 56 n6 m6) 57 n6 m7) 58 n6 m8) 59 n6 m9
theorem cutM_q (μ : MS) (t : Int32) (n6 j : Nat) (v w m6 m7 m8 m9 : Int32) : MQs n6 (mI (mI μ 50 j v) 55 j w) (cutM μ t n6 j v w m6 m7 m8 m9) := by
  constructor
  · intro k h0 h1 h2 h3 h4
    unfold cutM
    rw [mI_ne h4, mI_ne h3, mI_ne h2, mI_ne h1]
    funext i
    show up2 (up2 (up2 μ.1 0 0 t) 50 j v) 55 j w k i = up2 (up2 μ.1 50 j v) 55 j w k i
    rw [up2_at, up2_at, up2_at, up2_at, up2_at, if_neg h0]
  · intro k i h0 hi
    have e : ∀ (b : MS) (a : Nat) (u : Int32), mi (mI b a n6 u) k i = mi b k i := by
      intro b a u
      by_cases c : k = a
      · subst c; rw [mi_at, if_neg hi]
      · exact mi_ne c
    unfold cutM
    rw [e, e, e, e]
    show up2 (up2 (up2 μ.1 0 0 t) 50 j v) 55 j w k i = up2 (up2 μ.1 50 j v) 55 j w k i
    rw [up2_at, up2_at, up2_at, up2_at, up2_at, if_neg h0]
theorem cut_rep {σ : XS} {x : Nat} {μ : MS} {n0 n1 n2 n4 n5 n6 nq j : Nat} {t gr v w : Int32} (hq : xk σ nq = 0) (hq0 : nq ≠ 0) (hn : n6 < 40) (hj : j < n6) (h : Rep0 σ x μ n0 n1 n2 n4 n5 n6) (hG : RG σ n2 (sdt μ n2)) : Rep (xAdd (xI (xI (pie σ nq (xe σ 6 j) (nI n6) gr) 165 (xe σ 6 j) v) 166 (xe σ 6 j) w) 6 nq) x (addM (cutM μ t n6 j v w (bz (mi μ 56 j)) (mi μ 57 j) (mi μ 58 j) (mi μ 59 j)) n6 (mi μ 47 j) (mi μ 48 j) (mi μ 49 j) gr (mi μ 51 j) (nI j)) := by
  have hst := h.2.2.2.2.2.2.2.1
  have hl6 := hst.2.2.2.2.1
  have hne : xe σ 6 j ≠ nq := lst_fresh hl6 hq (by decide) j hj
  have g := pie_agr hq (xe σ 6 j) (nI n6) gr
  have h1 := agr_rep g h
  have hG1 := agr_rg g (rep_l2 h).1 (rep_l2 h).2 hG
  obtain ⟨k1, k2, k3, k4, k5, k6, k7, k8, k9, k10, k11, k12, k13, k14⟩ := ini_f σ nq (nI n6) (xi σ 161 (xe σ 6 j)) (xi σ 162 (xe σ 6 j)) (xi σ 163 (xe σ 6 j)) gr (xi σ 167 (xe σ 6 j)) (xe σ 6 j)
  have h2 : Rep0 (xI (xI (pie σ nq (xe σ 6 j) (nI n6) gr) 165 (xe σ 6 j) v) 166 (xe σ 6 j) w) x (mI (mI μ 50 j v) 55 j w) n0 n1 n2 n4 n5 n6 := weigh_rep (v := v) (w := w) hj h1
  have f1 := lst_fresh hl6 hq (by decide)
  have hne2 : nq ≠ xe σ 6 j := fun e => hne e.symm
  have rd : ∀ c, c ≠ 170 → c ≠ 171 → c ≠ 172 → xi (xI (xI (pie σ nq (xe σ 6 j) (nI n6) gr) 165 (xe σ 6 j) v) 166 (xe σ 6 j) w) c nq = xi (ini σ nq (nI n6) (xi σ 161 (xe σ 6 j)) (xi σ 162 (xe σ 6 j)) (xi σ 163 (xe σ 6 j)) gr (xi σ 167 (xe σ 6 j)) (xe σ 6 j)) c nq := by
    intro c c1 c2 c3
    rw [xI_z (Or.inr hne2), xI_z (Or.inr hne2)]
    unfold pie
    rw [xI_z (Or.inl c3), xI_z (Or.inl c2), xI_z (Or.inl c1)]
  have r170 : xi (xI (xI (pie σ nq (xe σ 6 j) (nI n6) gr) 165 (xe σ 6 j) v) 166 (xe σ 6 j) w) 170 nq = xi σ 170 (xe σ 6 j) := by
    rw [xI_z (Or.inr hne2), xI_z (Or.inr hne2)]
    unfold pie
    rw [xI_z (Or.inl (by decide)), xI_z (Or.inl (by decide)), xi_at, if_pos rfl]
  have r171 : xi (xI (xI (pie σ nq (xe σ 6 j) (nI n6) gr) 165 (xe σ 6 j) v) 166 (xe σ 6 j) w) 171 nq = xi σ 171 (xe σ 6 j) := by
    rw [xI_z (Or.inr hne2), xI_z (Or.inr hne2)]
    unfold pie
    rw [xI_z (Or.inl (by decide)), xi_at, if_pos rfl]
  have r172 : xi (xI (xI (pie σ nq (xe σ 6 j) (nI n6) gr) 165 (xe σ 6 j) v) 166 (xe σ 6 j) w) 172 nq = xi σ 172 (xe σ 6 j) := by
    rw [xI_z (Or.inr hne2), xI_z (Or.inr hne2)]
    unfold pie
    rw [xi_at, if_pos rfl]
  obtain ⟨b1, b2, b3, b4, b5, b6, b7, b8, b9, b10, b11, b12, b13, b14, b15, b16, b17⟩ := hst.2.2.2.2.2 j hj
  have m56 : mi (cutM μ t n6 j v w (bz (mi μ 56 j)) (mi μ 57 j) (mi μ 58 j) (mi μ 59 j)) 56 n6 = bz (mi μ 56 j) := by
    unfold cutM
    rw [mi_ne (by decide), mi_ne (by decide), mi_ne (by decide), mi_at, if_pos rfl]
  have m57 : mi (cutM μ t n6 j v w (bz (mi μ 56 j)) (mi μ 57 j) (mi μ 58 j) (mi μ 59 j)) 57 n6 = mi μ 57 j := by
    unfold cutM
    rw [mi_ne (by decide), mi_ne (by decide), mi_at, if_pos rfl]
  have m58 : mi (cutM μ t n6 j v w (bz (mi μ 56 j)) (mi μ 57 j) (mi μ 58 j) (mi μ 59 j)) 58 n6 = mi μ 58 j := by
    unfold cutM
    rw [mi_ne (by decide), mi_at, if_pos rfl]
  have m59 : mi (cutM μ t n6 j v w (bz (mi μ 56 j)) (mi μ 57 j) (mi μ 58 j) (mi μ 59 j)) 59 n6 = mi μ 59 j := by
    unfold cutM
    rw [mi_at, if_pos rfl]
  have hr : Rep0 (xAdd (xI (xI (pie σ nq (xe σ 6 j) (nI n6) gr) 165 (xe σ 6 j) v) 166 (xe σ 6 j) w) 6 nq) x (addM (cutM μ t n6 j v w (bz (mi μ 56 j)) (mi μ 57 j) (mi μ 58 j) (mi μ 59 j)) n6 (mi μ 47 j) (mi μ 48 j) (mi μ 49 j) gr (mi μ 51 j) (nI j)) n0 n1 n2 n4 n5 (n6 + 1) := by
    refine stone_add h2 (cutM_q μ t n6 j v w _ _ _ _) hn k1 f1 hq0 ?_ ?_ ?_ ?_ ?_ ?_ ?_ ?_ ?_ ?_ ?_ b12 b13 b14 (Or.inr ⟨j, hj, rfl, ?_⟩) ?_
    · rw [rd 160 (by decide) (by decide) (by decide)]; exact k2
    · rw [rd 161 (by decide) (by decide) (by decide), k3]; exact b2
    · rw [rd 162 (by decide) (by decide) (by decide), k4]; exact b3
    · rw [rd 163 (by decide) (by decide) (by decide), k5]; exact b4
    · rw [rd 165 (by decide) (by decide) (by decide)]; exact k6
    · rw [rd 166 (by decide) (by decide) (by decide)]; exact k7
    · rw [rd 167 (by decide) (by decide) (by decide), k8]; exact b7
    · rw [rd 168 (by decide) (by decide) (by decide)]; exact k9
    · rw [rd 169 (by decide) (by decide) (by decide)]; exact k10
    · rw [rd 173 (by decide) (by decide) (by decide)]; exact k11
    · rw [rd 175 (by decide) (by decide) (by decide)]; exact k12
    · exact k13
    · rw [m56, m57, m58, m59, r170, r171, r172]
      rcases b16 with ⟨c1, c2⟩ | ⟨c1, c2, c3, c4, c5, c6, c7⟩
      · rw [c1]; exact Or.inl ⟨by decide, c2⟩
      · rw [c1]; exact Or.inr ⟨by decide, c2, c3, c4, c5, c6, c7⟩
  refine ⟨n0, n1, n2, n4, n5, n6 + 1, hr, ?_⟩
  rw [sdt_addM (cutM_q μ t n6 j v w _ _ _ _)]
  exact hG1
theorem br_cut : Br_cut Rep := by
  intro σ x μ p0 p1 p2 hh
  obtain ⟨n0, n1, n2, n4, n5, n6, h, hG⟩ := id hh
  have hst := h.2.2.2.2.2.2.2.1
  have hx6 := hst.2.2.2.2.1.1
  have hm6 := hst.2.2.2.1
  have d1 : cd_cut 3 = 1 := by decide
  have d2 : cd_cut 1 = 2 := by decide
  have d3 : cd_cut 2 = 3 := by decide
  have i1 : ¬ (1 : Int32) ≤ 0 := by decide
  have i2 : ¬ (2 : Int32) ≤ 0 := by decide
  have i3 : ¬ (3 : Int32) ≤ 0 := by decide
  obtain ⟨e1, e2, e3⟩ := st_ex (x := x) p0 hst
  have t89 : ∀ t, ¬ t ≤ (0 : Int32) → f_X11_cut_89 μ p0 p1 p2 t = (0, mI μ 0 0 t) ∧ of_X11_cut_89 μ p0 p1 p2 t := fun t ht => ⟨if_neg ht, fun z => absurd z ht, fun _ => trivial⟩
  rcases e3 with ⟨j, hj, rfl, hix, h40, hn, hF, hM, hK⟩ | ⟨-, hF, hM⟩
  · obtain ⟨b1, b2, b3, b4, b5, b6, b7, b8, b9, b10, b11, b12, b13, b14, b15, b16, b17⟩ := hst.2.2.2.2.2 j hj
    have args : (f_X10_requireRange p1 1 1000000 = .ok () ∧ f_X10_requireRange p2 0 1000 = .ok () ∧ f_X11_cut μ (nI j) p1 p2 = f_X11_cut_27 μ (nI j) p1 p2 1 ∧ (of_X11_cut_27 μ (nI j) p1 p2 1 → of_X11_cut μ (nI j) p1 p2)) ∨ ((∀ nq, FL_cut σ x (nI j) p1 p2 nq = .error 1) ∧ (∀ nq, of_X10_cut σ x nq (nI j) p1 p2) ∧ f_X11_cut μ (nI j) p1 p2 = f_X11_cut_27 μ (nI j) p1 p2 0 ∧ (of_X11_cut_27 μ (nI j) p1 p2 0 → of_X11_cut μ (nI j) p1 p2)) := by
      rcases in_or p1 1 1000000 with ⟨a1, a2, a3⟩ | ⟨a1, a2, a3⟩
      · rcases in_or p2 0 1000 with ⟨c1, c2, c3⟩ | ⟨c1, c2, c3⟩
        · exact Or.inl ⟨a3, c3, by simp [f_X11_cut, a2, c2], fun z => by simp [of_X11_cut, oif, a2, c2, z]⟩
        · exact Or.inr ⟨fun nq => by simp [FL_cut, f_X10_cut, hF, a3, c3, exb_i, exb_e], fun nq => by simp [of_X10_cut, e1, hF, a3, c3, exo_i, exo_e], by simp [f_X11_cut, a2, c2], fun z => by simp [of_X11_cut, oif, a2, c2, z]⟩
      · exact Or.inr ⟨fun nq => by simp [FL_cut, f_X10_cut, hF, a3, exb_i, exb_e], fun nq => by simp [of_X10_cut, e1, hF, a3, exo_i, exo_e], by simp [f_X11_cut, a2], fun z => by simp [of_X11_cut, oif, a2, z]⟩
    rcases args with ⟨q1, q2, hM2, hO⟩ | ⟨hFe, ho, hM2, hO⟩
    · -- the reference's refusal
      have ref3 : (mi μ 52 j = 2 ∨ ¬ (1 : Int32) ≤ mi μ 50 j - p1 - p2 ∨ ¬ n6 < 40) → f_X11_cut μ (nI j) p1 p2 = (0, mI μ 0 0 3) ∧ of_X11_cut μ (nI j) p1 p2 := by
        intro hb
        have h40' := hst.1
        have m40 : mi μ 46 0 = 40 ↔ ¬ n6 < 40 := by rw [hm6, show (40 : Int32) = nI 40 from rfl, nI_eq (by omega) (by omega)]; omega
        constructor
        · rw [hM2]
          unfold f_X11_cut_27
          rw [hM, if_neg i_1ne0, if_neg i_1ne0, hix]
          by_cases z1 : mi μ 52 j = 2
          · rw [if_pos z1]; exact (t89 3 i3).1
          · rw [if_neg z1]
            by_cases z2 : mi μ 50 j - p1 - p2 < 1
            · rw [if_pos z2]; exact (t89 3 i3).1
            · rw [if_neg z2, if_pos (m40.mpr (by
                rcases hb with y | y | y
                · exact absurd y z1
                · exact absurd (i32_nlt.mp z2) y
                · exact y))]
              exact (t89 3 i3).1
        · refine hO ⟨e2, fun z => absurd (hM.symm.trans z) i_1ne0, fun _ => ⟨fun z => absurd z i_1ne0, fun _ => ⟨h40, ?_⟩⟩⟩
          rw [hix]
          refine ⟨fun _ => (t89 3 i3).2, fun z1 => ⟨h40, fun _ => (t89 3 i3).2, fun z2 => ⟨fun _ => (t89 3 i3).2, fun z3 => ?_⟩⟩⟩
          exfalso
          rcases hb with y | y | y
          · exact z1 y
          · exact y (i32_nlt.mp z2)
          · exact z3 (m40.mpr y)
      by_cases z1 : mi μ 52 j = 2
      · have hFe : ∀ nq, FL_cut σ x (nI j) p1 p2 nq = .error 2 := by
          intro nq
          show f_X10_cut σ x nq (nI j) p1 p2 = _
          unfold f_X10_cut
          rw [hF, exb_i, q1, exb_i, q2, exb_i, b8, if_pos z1]
        obtain ⟨r1, r2⟩ := ref3 (Or.inl z1)
        refine ⟨fun nq hq => ?_, is_er hFe (Or.inr (Or.inr rfl)), r2, fun nq f _ _ => cl_eI hFe r1 (fr_refl μ) d3 (by decide) hh nq f⟩
        unfold of_X10_cut
        rw [hF, exo_i, q1, exo_i, q2, exo_i, b8]
        exact ⟨e1, hK, fun _ => trivial, fun z => absurd z1 z⟩
      · by_cases z2 : (1 : Int32) ≤ mi μ 50 j - p1 - p2
        · by_cases hn6 : n6 < 40
          · have n40 : nI n6 < 40 := by rw [show (40 : Int32) = nI 40 from rfl, nI_ltI (by omega) (by omega)]; exact hn6
            have m40 : ¬ mi μ 46 0 = 40 := by rw [hm6, show (40 : Int32) = nI 40 from rfl, nI_eq (by omega) (by omega)]; omega
            have hix6 : ix (nI n6) = n6 := clamp_nI (by omega)
            have v6 : vp_in (nI n6) 40 := nI_in hn6 (by decide)
            have hFo : ∀ nq, xk σ nq = 0 → FL_cut σ x (nI j) p1 p2 nq = .ok (nI n6, xAdd (xI (xI (pie σ nq (xe σ 6 j) (nI n6) p1) 165 (xe σ 6 j) (mi μ 50 j - (p1 + p2))) 166 (xe σ 6 j) (mi μ 55 j + p2)) 6 nq) := by
              intro nq hq
              have hne : xe σ 6 j ≠ nq := lst_fresh hst.2.2.2.2.1 hq (by decide) j hj
              show f_X10_cut σ x nq (nI j) p1 p2 = _
              unfold f_X10_cut
              rw [hF, exb_i, q1, exb_i, q2, exb_i, b8, if_neg z1, b5, if_pos z2, hx6, if_pos n40, pie_e hne]
              unfold f_X10_cut_105
              have ga := (pie_agr hq (xe σ 6 j) (nI n6) p1).1 (xe σ 6 j) (by rw [hK]; decide)
              have w165 : xi (pie σ nq (xe σ 6 j) (nI n6) p1) 165 (xe σ 6 j) = mi μ 50 j := (ga.2.1 165).trans b5
              have w166 : xi (pie σ nq (xe σ 6 j) (nI n6) p1) 166 (xe σ 6 j) = mi μ 55 j := (ga.2.1 166).trans b6
              have w160 : xi (pie σ nq (xe σ 6 j) (nI n6) p1) 160 nq = nI n6 := (ini_f σ nq (nI n6) (xi σ 161 (xe σ 6 j)) (xi σ 162 (xe σ 6 j)) (xi σ 163 (xe σ 6 j)) p1 (xi σ 167 (xe σ 6 j)) (xe σ 6 j)).2.1
              rw [w165, w166, w160]
            have hMo : f_X11_cut μ (nI j) p1 p2 = (nI n6, addM (cutM μ 0 n6 j (mi μ 50 j - (p1 + p2)) (mi μ 55 j + p2) (bz (mi μ 56 j)) (mi μ 57 j) (mi μ 58 j) (mi μ 59 j)) n6 (mi μ 47 j) (mi μ 48 j) (mi μ 49 j) p1 (mi μ 51 j) (nI j)) ∧ of_X11_cut μ (nI j) p1 p2 := by
              have hjn : j ≠ n6 := by omega
              obtain ⟨μc, eμ⟩ : ∃ z, cutM μ 0 n6 j (mi μ 50 j - (p1 + p2)) (mi μ 55 j + p2) (bz (mi μ 56 j)) (mi μ 57 j) (mi μ 58 j) (mi μ 59 j) = z := ⟨_, rfl⟩
              have c46 : mi μc 46 0 = nI n6 := by rw [← eμ]; exact hm6
              have c47 : mi μc 47 j = mi μ 47 j := by rw [← eμ]; rfl
              have c48 : mi μc 48 j = mi μ 48 j := by rw [← eμ]; rfl
              have c49 : mi μc 49 j = mi μ 49 j := by rw [← eμ]; rfl
              have c51 : mi μc 51 j = mi μ 51 j := by rw [← eμ]; rfl
              obtain ⟨ad1, ad2⟩ := adds_i (μ := μc) (n6 := n6) c46 hn6 (mi μ 47 j) (mi μ 48 j) (mi μ 49 j) p1 (mi μ 51 j) (nI j)
              have s89 : f_X11_cut_89 μ (nI j) p1 p2 0 = f_X11_cut_183 μ (nI j) p1 p2 μc := by
                rw [← eμ]
                unfold f_X11_cut_89
                rw [if_pos (by decide), hm6, hix6, hix]
                unfold f_X11_cut_138
                rw [hix]
                show f_X11_cut_183 μ (nI j) p1 p2 (mI (mI (mI (mI (mI (mI (mI μ 0 0 0) 50 j _) 55 j _) 56 n6 _) 57 (ix (mi μ 46 0)) (mi μ 57 j)) 58 (ix (mi μ 46 0)) (mi μ 58 j)) 59 (ix (mi μ 46 0)) (mi μ 59 j)) = _
                rw [hm6, hix6]
                rfl
              constructor
              · rw [hM2]
                unfold f_X11_cut_27
                rw [hM, if_neg i_1ne0, if_neg i_1ne0, hix, if_neg z1, if_neg (fun z => i32_nlt.mpr z2 z), if_neg m40, s89]
                unfold f_X11_cut_183
                rw [hix, c47, c48, c49, c51, ad1, eμ]
              · refine hO ⟨e2, fun z => absurd (hM.symm.trans z) i_1ne0, fun _ => ⟨fun z => absurd z i_1ne0, fun _ => ⟨h40, ?_⟩⟩⟩
                rw [hix]
                refine ⟨fun z => absurd z z1, fun _ => ⟨h40, fun z => absurd z (i32_nlt.mpr z2), fun _ => ⟨fun z => absurd z m40, fun _ => ⟨fun _ => ⟨h40, h40, h40, h40, h40, by rw [hm6]; exact v6, ?_⟩, fun _ => trivial⟩⟩⟩⟩
                rw [hm6, hix6, hix]
                refine ⟨h40, by show vp_in (mi μ 46 0) 40; rw [hm6]; exact v6, h40, by show vp_in (mi μ 46 0) 40; rw [hm6]; exact v6, h40, by show vp_in (mi μ 46 0) 40; rw [hm6]; exact v6, ?_⟩
                rw [hix]
                show of_X11_cut_183 μ (nI j) p1 p2 (mI (mI (mI (mI (mI (mI (mI μ 0 0 0) 50 j _) 55 j _) 56 n6 _) 57 (ix (mi μ 46 0)) (mi μ 57 j)) 58 (ix (mi μ 46 0)) (mi μ 58 j)) 59 (ix (mi μ 46 0)) (mi μ 59 j))
                rw [hm6, hix6]
                show of_X11_cut_183 μ (nI j) p1 p2 (cutM μ 0 n6 j (mi μ 50 j - (p1 + p2)) (mi μ 55 j + p2) (bz (mi μ 56 j)) (mi μ 57 j) (mi μ 58 j) (mi μ 59 j))
                rw [eμ]
                unfold of_X11_cut_183
                rw [hix, c47, c48, c49, c51]
                exact ⟨h40, h40, h40, h40, ad2, trivial⟩
            refine ⟨fun nq hq => ?_, fun nq k hk => ?_, hMo.2, fun nq f hq hq0 => cl_oI (hFo nq hq) hMo.1 rfl (cut_rep hq hq0 hn6 hj h hG) f⟩
            · have hne : xe σ 6 j ≠ nq := lst_fresh hst.2.2.2.2.1 hq (by decide) j hj
              unfold of_X10_cut
              rw [hF, exo_i, q1, exo_i, q2, exo_i, b8, b5, hx6, pie_e hne]
              have ga := pie_agr hq (xe σ 6 j) (nI n6) p1
              have kq : xk (pie σ nq (xe σ 6 j) (nI n6) p1) nq = 8 := (ini_f σ nq (nI n6) (xi σ 161 (xe σ 6 j)) (xi σ 162 (xe σ 6 j)) (xi σ 163 (xe σ 6 j)) p1 (xi σ 167 (xe σ 6 j)) (xe σ 6 j)).1
              have kj : xk (pie σ nq (xe σ 6 j) (nI n6) p1) (xe σ 6 j) = 8 := ((ga.1 (xe σ 6 j) (by rw [hK]; decide)).1).trans hK
              refine ⟨e1, hK, fun z => absurd z z1, fun _ => ⟨fun _ => ⟨fun _ => ⟨fun r hr => ?_, kj, kq, ?_, fun i hi => ?_, trivial⟩, fun z => absurd n40 z⟩, fun z => absurd z2 z⟩⟩
              · have hr1 : xe σ 6 j ≠ r := lst_fresh hst.2.2.2.2.1 hr (by decide) j hj
                have kr : xk (xNew σ 8 r) r = 8 := by rw [new_xk, if_pos rfl]
                have kj2 : xk (xNew σ 8 r) (xe σ 6 j) = 8 := by rw [new_xk, if_neg hr1]; exact hK
                exact ⟨kj2, ⟨kr, kr, trivial⟩, kj2, kr, trivial⟩
              · show xn (pie σ nq (xe σ 6 j) (nI n6) p1) 6 ≤ 100
                rw [ga.2.2.2.2.2.1, hx6]; omega
              · have hi : i < n6 := by
                  have : i < xn (pie σ nq (xe σ 6 j) (nI n6) p1) 6 := hi
                  rw [ga.2.2.2.2.2.1, hx6] at this; exact this
                exact (agr_lst ga (by decide) hst.2.2.2.2.1).2.1 i hi
            · -- no error: at any address
              have hFn : ∃ r, FL_cut σ x (nI j) p1 p2 nq = .ok r := by
                refine ⟨?_, ?_⟩
                rotate_left
                · show f_X10_cut σ x nq (nI j) p1 p2 = _
                  unfold f_X10_cut
                  rw [hF, exb_i, q1, exb_i, q2, exb_i, b8, if_neg z1, b5, if_pos z2, hx6, if_pos n40]
                  unfold f_X10_cut_105
                  rfl
              obtain ⟨r, hr⟩ := hFn
              rw [hr] at hk
              cases hk
          · have n40 : ¬ nI n6 < 40 := by rw [show (40 : Int32) = nI 40 from rfl, nI_ltI (by have := hst.1; omega) (by omega)]; exact hn6
            have hFe : ∀ nq, FL_cut σ x (nI j) p1 p2 nq = .error 2 := by
              intro nq
              show f_X10_cut σ x nq (nI j) p1 p2 = _
              unfold f_X10_cut
              rw [hF, exb_i, q1, exb_i, q2, exb_i, b8, if_neg z1, b5, if_pos z2, hx6, if_neg n40]
            obtain ⟨r1, r2⟩ := ref3 (Or.inr (Or.inr hn6))
            refine ⟨fun nq hq => ?_, is_er hFe (Or.inr (Or.inr rfl)), r2, fun nq f _ _ => cl_eI hFe r1 (fr_refl μ) d3 (by decide) hh nq f⟩
            unfold of_X10_cut
            rw [hF, exo_i, q1, exo_i, q2, exo_i, b8, b5, hx6]
            exact ⟨e1, hK, fun z => absurd z z1, fun _ => ⟨fun _ => ⟨fun z => absurd z n40, fun _ => trivial⟩, fun z => absurd z2 z⟩⟩
        · have hFe : ∀ nq, FL_cut σ x (nI j) p1 p2 nq = .error 2 := by
            intro nq
            show f_X10_cut σ x nq (nI j) p1 p2 = _
            unfold f_X10_cut
            rw [hF, exb_i, q1, exb_i, q2, exb_i, b8, if_neg z1, b5, if_neg z2]
          obtain ⟨r1, r2⟩ := ref3 (Or.inr (Or.inl z2))
          refine ⟨fun nq hq => ?_, is_er hFe (Or.inr (Or.inr rfl)), r2, fun nq f _ _ => cl_eI hFe r1 (fr_refl μ) d3 (by decide) hh nq f⟩
          unfold of_X10_cut
          rw [hF, exo_i, q1, exo_i, q2, exo_i, b8, b5]
          exact ⟨e1, hK, fun z => absurd z z1, fun _ => ⟨fun z => absurd z z2, fun _ => trivial⟩⟩
    · have hMe : f_X11_cut μ (nI j) p1 p2 = (0, mI μ 0 0 2) := by
        rw [hM2]
        unfold f_X11_cut_27
        rw [hM, if_neg i_1ne0, if_pos rfl]; exact (t89 2 i2).1
      exact ⟨fun nq _ => ho nq, is_er hFe (Or.inr (Or.inl rfl)), hO ⟨e2, fun z => absurd (hM.symm.trans z) i_1ne0, fun _ => ⟨fun _ => (t89 2 i2).2, fun z => absurd rfl z⟩⟩, fun nq f _ _ => cl_eI hFe hMe (fr_refl μ) d2 (by decide) hh nq f⟩
  · have hFe : ∀ nq, FL_cut σ x p0 p1 p2 nq = .error 3 := fun nq => by
      show f_X10_cut σ x nq p0 p1 p2 = _
      unfold f_X10_cut
      rw [hF, exb_e]
    have m27 : ∀ t, f_X11_cut_27 μ p0 p1 p2 t = (0, mI μ 0 0 1) ∧ of_X11_cut_27 μ p0 p1 p2 t := fun t => ⟨by
      unfold f_X11_cut_27
      rw [hM, if_pos rfl]; exact (t89 1 i1).1, e2, fun _ => (t89 1 i1).2, fun z => absurd hM z⟩
    have hMe : f_X11_cut μ p0 p1 p2 = (0, mI μ 0 0 1) := by
      unfold f_X11_cut
      split
      · exact (m27 0).1
      · split
        · exact (m27 0).1
        · exact (m27 1).1
    refine ⟨fun nq _ => ?_, is_er hFe (Or.inl rfl), ⟨fun _ => (m27 0).2, fun _ => ⟨fun _ => (m27 0).2, fun _ => (m27 1).2⟩⟩, fun nq f _ _ => cl_eI hFe hMe (fr_refl μ) d1 (by decide) hh nq f⟩
    unfold of_X10_cut
    rw [hF, exo_e]
    exact ⟨e1, trivial⟩
