/-! ===== wind ===== -/
theorem wof_c {σ : XS} {x : Nat} {μ : MS} {n4 : Nat} (h : RWin σ μ n4) (p : Int32) : of_X10_windOf σ x p ∧ ((∃ j, j < n4 ∧ mi μ 36 j = p ∧ f_X10_windOf σ x p = xe σ 4 j) ∨ ((∀ j, j < n4 → ¬ mi μ 36 j = p) ∧ f_X10_windOf σ x p = 0)) := by
  obtain ⟨h50, hne, hm, ⟨hx, hk, hu⟩, hf, -⟩ := h
  have main := itr_find (f := s_X10_windOf_2 x p σ) (o := os_X10_windOf_2 x p σ) (fun k v => v.1 = nI k) (fun k => mi μ 36 k = p) (fun k => (nI k, none)) (nI n4, some 0) (n := n4) (by
    rintro k ⟨w, o⟩ hk2 hw hq
    have hw : w = nI k := hw
    have hix : ix (nI k) = k := clamp_nI (by omega)
    have c1 : ¬ nI n4 ≤ nI k := by rw [nI_leI (by omega) (by omega)]; omega
    show ob_X10_windOf_2 x p σ w ∧ ∃ b, b_X10_windOf_2 x p σ w = (true, b) ∧ _
    unfold ob_X10_windOf_2 b_X10_windOf_2
    rw [hw, hx, hix, if_neg c1, (hf k hk2).1, if_neg hq, nI_1]
    exact ⟨⟨fun _ => trivial, fun _ => ⟨nI_in hk2 (by omega), hk k hk2, trivial⟩⟩, _, rfl, rfl⟩) (by
    rintro k ⟨w, o⟩ hk2 hw hq
    have hw : w = nI k := hw
    have hix : ix (nI k) = k := clamp_nI (by omega)
    have c1 : ¬ nI n4 ≤ nI k := by rw [nI_leI (by omega) (by omega)]; omega
    show ob_X10_windOf_2 x p σ w ∧ b_X10_windOf_2 x p σ w = _
    unfold ob_X10_windOf_2 b_X10_windOf_2
    rw [hw, hx, hix, if_neg c1, (hf k hk2).1, if_pos hq]
    exact ⟨⟨fun _ => trivial, fun _ => ⟨nI_in hk2 (by omega), hk k hk2, trivial⟩⟩, rfl⟩) (by
    rintro ⟨w, o⟩ hw
    have hw : w = nI n4 := hw
    show ob_X10_windOf_2 x p σ w ∧ b_X10_windOf_2 x p σ w = _
    unfold ob_X10_windOf_2 b_X10_windOf_2
    rw [hw, hx, if_pos (Int32.le_refl _)]
    exact ⟨⟨fun _ => trivial, fun z => absurd (Int32.le_refl _) z⟩, rfl⟩) FU 0 (0, none) (Nat.zero_le _) (by show n4 - 0 < 100000; omega) rfl
  obtain ⟨m1, m2⟩ := main
  have fe : f_X10_windOf σ x p = lret (itr (s_X10_windOf_2 x p σ) FU (0, none)).2 (f_X10_windOf_35 σ x p ((itr (s_X10_windOf_2 x p σ) FU (0, none)).1)) := by
    unfold f_X10_windOf f_X10_windOf_2
    rfl
  rcases m2 with ⟨j, -, j2, j3, -, j5⟩ | ⟨j1, j2⟩
  · have hix : ix (nI j) = j := clamp_nI (by omega)
    refine ⟨⟨m1, ?_⟩, Or.inl ⟨j, j2, j3, ?_⟩⟩
    · rw [j5]
      show of_X10_windOf_35 σ x p (nI j)
      unfold of_X10_windOf_35
      rw [hx, hix]
      exact ⟨nI_in j2 (by omega), hk j j2, hk j j2, trivial⟩
    · rw [fe, j5]
      show f_X10_windOf_35 σ x p (nI j) = _
      unfold f_X10_windOf_35
      rw [hix]
  · refine ⟨⟨m1, ?_⟩, Or.inr ⟨fun j hj => j1 j (Nat.zero_le _) hj, ?_⟩⟩
    · rw [j2]; exact trivial
    · rw [fe, j2]; rfl
theorem wof_m {σ : XS} {μ : MS} {n4 : Nat} (h : RWin σ μ n4) (p : Int32) : of_X11_windOf μ p ∧ ((∃ j, j < n4 ∧ mi μ 36 j = p ∧ f_X11_windOf μ p = nI j) ∨ ((∀ j, j < n4 → ¬ mi μ 36 j = p) ∧ f_X11_windOf μ p = -1)) := by
  obtain ⟨h50, hne, hm, -, -, hu⟩ := h
  have main := itr_for (f := s_X11_windOf_4 p μ) (o := os_X11_windOf_4 p μ) (fun k (b : Int32) => (b, nI k)) (fun k b => (∃ j, j < k ∧ mi μ 36 j = p ∧ b = nI j) ∨ ((∀ j, j < k → ¬ mi μ 36 j = p) ∧ b = -1)) (n := n4) (by
    intro k b hk hb
    have hix : ix (nI k) = k := clamp_nI (by omega)
    have c1 : ¬ nI n4 ≤ nI k := by rw [nI_leI (by omega) (by omega)]; omega
    have vk : vp_in (nI k) 50 := nI_in (by omega) (by decide)
    refine ⟨⟨fun _ => trivial, fun _ => ⟨vk, trivial⟩⟩, ?_⟩
    show ∃ b', b_X11_windOf_4 p μ b (nI k) = (true, (b', nI (k + 1))) ∧ _
    unfold b_X11_windOf_4 f_X11_windOf_l4_27
    rw [hm, if_neg c1, hix]
    by_cases c : mi μ 36 k = p
    · rw [if_pos c, nI_1]
      exact ⟨_, rfl, Or.inl ⟨k, by omega, c, rfl⟩⟩
    · rw [if_neg c, nI_1]
      refine ⟨_, rfl, ?_⟩
      rcases hb with ⟨j, j1, j2, j3⟩ | ⟨j1, j2⟩
      · exact Or.inl ⟨j, by omega, j2, j3⟩
      · refine Or.inr ⟨fun j hj => ?_, j2⟩
        by_cases e : j = k
        · rw [e]; exact c
        · exact j1 j (by omega)) (by
    intro b hb
    constructor
    · show ob_X11_windOf_4 p μ b (nI n4)
      unfold ob_X11_windOf_4
      rw [hm]
      exact ⟨fun _ => trivial, fun z => absurd (Int32.le_refl _) z⟩
    · show b_X11_windOf_4 p μ b (nI n4) = _
      unfold b_X11_windOf_4
      rw [hm, if_pos (Int32.le_refl _)]) FU 0 (-1) (Nat.zero_le _) (by show n4 - 0 < 100000; omega) (Or.inr ⟨fun j hj => absurd hj (Nat.not_lt_zero _), rfl⟩)
  obtain ⟨m1, b', m2, m3⟩ := main
  have fe : f_X11_windOf μ p = b' := by
    unfold f_X11_windOf f_X11_windOf_4 f_X11_windOf_34
    rw [show ((-1 : Int32), (0 : Int32)) = (-1, nI 0) from rfl, m2]
  rw [fe]
  exact ⟨⟨m1, trivial⟩, m3⟩
theorem wset_rep {σ : XS} {x : Nat} {μ : MS} {n0 n1 n2 n4 n5 n6 j : Nat} {t v w : Int32} (hj : j < n4) (hv : rng (-20) 20 v) (hw : rng (-20) 20 w) (h : Rep0 σ x μ n0 n1 n2 n4 n5 n6) : Rep0 (xI (xI σ 201 (xe σ 4 j) v) 202 (xe σ 4 j) w) x (mI (mI (mI μ 0 0 t) 37 j v) 38 j w) n0 n1 n2 n4 n5 n6 := by
  obtain ⟨h1, h2, h3, h4, h5, h6, h7⟩ := h
  refine ⟨h1, h2, h3, h4, h5, ?_, h7⟩
  obtain ⟨g1, g2, g3, g4, g5, g6⟩ := h6
  refine ⟨g1, g2, g3, g4, fun i hi => ?_, g6⟩
  obtain ⟨a1, a2, a3, a4, a5, a6⟩ := g5 i hi
  show xi σ 200 (xe σ 4 i) = mi μ 36 i ∧ xi (xI σ 201 (xe σ 4 j) v) 201 (xe σ 4 i) = mi (mI μ 37 j v) 37 i ∧ xi (xI σ 202 (xe σ 4 j) w) 202 (xe σ 4 i) = mi (mI μ 38 j w) 38 i ∧ rng 0 3649 (mi μ 36 i) ∧ rng (-20) 20 (mi (mI μ 37 j v) 37 i) ∧ rng (-20) 20 (mi (mI μ 38 j w) 38 i)
  rw [xi_at, xi_at, mi_at, mi_at]
  by_cases c : i = j
  · have c' : xe σ 4 i = xe σ 4 j := by rw [c]
    rw [if_pos c', if_pos c', if_pos c, if_pos c]
    exact ⟨a1, rfl, rfl, a4, hv, hw⟩
  · have c' : ¬ xe σ 4 i = xe σ 4 j := fun e => c (g4.2.2 i j hi hj e)
    rw [if_neg c', if_neg c', if_neg c, if_neg c]
    exact ⟨a1, a2, a3, a4, a5, a6⟩
/-- a new wind -/
def wnew (σ : XS) (nq : Nat) (p v w : Int32) : XS := xI (xI (xI (xNew σ 10 nq) 200 nq p) 201 nq v) 202 nq w
theorem wadd_rep {σ : XS} {x : Nat} {μ : MS} {n0 n1 n2 n4 n5 n6 nq : Nat} {t p v w : Int32} (hq : xk σ nq = 0) (hq0 : nq ≠ 0) (hn : n4 < 50) (hp : rng 0 3649 p) (hv : rng (-20) 20 v) (hw : rng (-20) 20 w) (hno : ∀ j, j < n4 → ¬ mi μ 36 j = p) (h : Rep0 σ x μ n0 n1 n2 n4 n5 n6) (hG : RG σ n2 (sdt μ n2)) : Rep (xAdd (wnew σ nq p v w) 4 nq) x (mI (mI (mI (mI (mI μ 0 0 t) 36 n4 p) 35 0 (nI n4 + 1)) 37 n4 v) 38 n4 w) := by
  have g : Agr σ (wnew σ nq p v w) := agr_I (agr_I (agr_I (agr_new hq (by omega)) hq (by omega)) hq (by omega)) hq (by omega)
  have h1 := agr_rep g h
  have hG1 := agr_rg g (rep_l2 h).1 (rep_l2 h).2 hG
  have f1 := lst_fresh (h.2.2.2.2.2.1.2.2.2.1) hq (by decide)
  have hf1 : ∀ i, i < n4 → xe (wnew σ nq p v w) 4 i ≠ nq := f1
  have hk1 : xk (wnew σ nq p v w) nq = 10 := by
    show xk (xNew σ 10 nq) nq = 10
    rw [new_xk, if_pos rfl]
  have v0 : xi (wnew σ nq p v w) 200 nq = p := by
    unfold wnew
    rw [xI_z (Or.inl (by decide)), xI_z (Or.inl (by decide)), xi_at, if_pos rfl]
  have v1 : xi (wnew σ nq p v w) 201 nq = v := by
    unfold wnew
    rw [xI_z (Or.inl (by decide)), xi_at, if_pos rfl]
  have v2 : xi (wnew σ nq p v w) 202 nq = w := by
    unfold wnew
    rw [xi_at, if_pos rfl]
  obtain ⟨σ1, e1⟩ : ∃ z, wnew σ nq p v w = z := ⟨_, rfl⟩
  rw [e1] at h1 hG1 hk1 v0 v1 v2 hf1 ⊢
  obtain ⟨a0, ac, al, ab, as', aw, ak, at', ala, an, ar, a3, x5, x6, x9⟩ := h1
  obtain ⟨c1, c2, c3, c4, c5, c6⟩ := aw
  have hxe : ∀ k, k < n4 → xe (xAdd σ1 4 nq) 4 k = xe σ1 4 k := fun k hk => add_xe (Or.inr (by rw [c4.1]; omega))
  have hlast : xe (xAdd σ1 4 nq) 4 n4 = nq := by have := add_last σ1 4 nq; rw [c4.1] at this; exact this
  obtain ⟨μ', eμ⟩ : ∃ z, mI (mI (mI (mI (mI μ 0 0 t) 36 n4 p) 35 0 (nI n4 + 1)) 37 n4 v) 38 n4 w = z := ⟨_, rfl⟩
  have m36 : ∀ i, mi μ' 36 i = if i = n4 then p else mi μ 36 i := fun i => by
    rw [← eμ]
    show mi (mI (mI μ 0 0 t) 36 n4 p) 36 i = _
    rw [mi_at]; rfl
  have m37 : ∀ i, mi μ' 37 i = if i = n4 then v else mi μ 37 i := fun i => by
    rw [← eμ]
    show mi (mI (mI (mI (mI μ 0 0 t) 36 n4 p) 35 0 (nI n4 + 1)) 37 n4 v) 37 i = _
    rw [mi_at]; rfl
  have m38 : ∀ i, mi μ' 38 i = if i = n4 then w else mi μ 38 i := fun i => by
    rw [← eμ]
    rw [mi_at]; rfl
  have m35 : mi μ' 35 0 = nI (n4 + 1) := by
    rw [← eμ, ← nI_1]
    show mi (mI (mI (mI μ 0 0 t) 36 n4 p) 35 0 (nI n4 + 1)) 35 0 = _
    rw [mi_at, if_pos rfl]
  have hw' : RWin (xAdd σ1 4 nq) μ' (n4 + 1) := by
    refine ⟨by omega, fun i hi => ?_, m35, add_lst c4 hk1 hf1, fun i hi => ?_, fun i k hi hk z => ?_⟩
    · by_cases ci : i = n4
      · rw [ci, hlast]; exact hq0
      · rw [hxe i (by omega)]; exact c2 i (by omega)
    · rw [m36, m37, m38]
      by_cases ci : i = n4
      · rw [if_pos ci, if_pos ci, if_pos ci, ci, hlast]
        exact ⟨v0, v1, v2, hp, hv, hw⟩
      · rw [if_neg ci, if_neg ci, if_neg ci, hxe i (by omega)]
        exact c5 i (by omega)
    · rw [m36, m36] at z
      by_cases ci : i = n4
      · by_cases ck : k = n4
        · omega
        · rw [if_pos ci, if_neg ck] at z
          exact absurd z.symm (hno k (by omega))
      · by_cases ck : k = n4
        · rw [if_neg ci, if_pos ck] at z
          exact absurd z (hno i (by omega))
        · rw [if_neg ci, if_neg ck] at z
          exact c6 i k (by omega) (by omega) z
  rw [← eμ] at hw'
  exact ⟨n0, n1, n2, n4 + 1, n5, n6, ⟨a0, ac, al, ab, as', hw', ak, at', ala, an, ar, a3, x5, x6, x9⟩, hG1⟩
theorem br_wind : Br_wind Rep := by
  intro σ x μ p0 p1 p2 hh
  obtain ⟨n0, n1, n2, n4, n5, n6, h, hG⟩ := id hh
  have hwi := h.2.2.2.2.2.1
  have h50 := hwi.1
  have hx4 := hwi.2.2.2.1.1
  have hk4 := hwi.2.2.2.1.2.1
  have hm := hwi.2.2.1
  have d1 : cd_wind 1 = 1 := by decide
  have d2 : cd_wind 2 = 2 := by decide
  have j1 : ¬ (1 : Int32) ≤ 0 := by decide
  have j2 : ¬ (2 : Int32) ≤ 0 := by decide
  obtain ⟨oX, rX⟩ := wof_c (x := x) hwi p0
  obtain ⟨oM, rM⟩ := wof_m hwi p0
  have oN : of_X11_isNight p0 := ⟨by rcases in_or p0 0 3649 with ⟨-, a2, -⟩ | ⟨-, a2, -⟩ <;> (rw [a2]; unfold zb; decide), trivial⟩
  have o73 : ∀ v t, ¬ t ≤ (0 : Int32) → f_X11_wind_73 μ p0 p1 p2 v t = mI μ 0 0 t ∧ of_X11_wind_73 μ p0 p1 p2 v t := fun v t ht => ⟨if_neg ht, fun z => absurd z ht, fun _ => trivial⟩
  have bad : (∀ nq, FL_wind σ x p0 p1 p2 nq = .error 1) → (∀ nq, xk σ nq = 0 → of_X10_wind σ x nq p0 p1 p2) → f_X11_wind μ p0 p1 p2 = f_X11_wind_34 μ p0 p1 p2 0 → (of_X11_wind_34 μ p0 p1 p2 0 → of_X11_wind μ p0 p1 p2) → (∀ nq, xk σ nq = 0 → of_X10_wind σ x nq p0 p1 p2) ∧ (∀ nq k, FL_wind σ x p0 p1 p2 nq = .error k → k = 1 ∨ k = 2) ∧ (of_X11_wind μ p0 p1 p2) ∧ (∀ nq f, xk σ nq = 0 → nq ≠ 0 → f_X11_thrown (f_X11_wind μ p0 p1 p2) = (hR cd_wind cvV (FL_wind σ x p0 p1 p2 nq) f σ).1 ∧ Rep (hR cd_wind cvV (FL_wind σ x p0 p1 p2 nq) f σ).2.2 x (f_X11_wind μ p0 p1 p2)) := by
    intro hFe ho hM hO
    have e34 : f_X11_wind_34 μ p0 p1 p2 0 = mI μ 0 0 1 := by
      unfold f_X11_wind_34
      rw [if_pos rfl]
      exact (o73 _ 1 j1).1
    exact ⟨ho, is_er hFe (Or.inl rfl), hO ⟨oM, fun _ => (o73 _ 1 j1).2, fun z => absurd rfl z⟩, fun nq f _ _ => cl_eV hFe (hM.trans e34) (fr_refl μ) d1 hh nq f⟩
  rcases in_or p0 0 3649 with ⟨a1, a2, a3⟩ | ⟨a1, a2, a3⟩
  · have hnight : f_X10_requireNight p0 = .ok () := by unfold f_X10_requireNight; rw [a3]; rfl
    have hisN : ¬ f_X11_isNight p0 = 0 := by rw [show f_X11_isNight p0 = 1 from a2]; exact i_1ne0
    rcases in_or p1 (-20) 20 with ⟨b1, b2, b3⟩ | ⟨b1, b2, b3⟩
    · have hb2 : ¬ f_X11_isIn p1 (-20) 20 = 0 := by rw [b2]; exact i_1ne0
      rcases in_or p2 (-20) 20 with ⟨c1, c2, c3⟩ | ⟨c1, c2, c3⟩
      · have hc2 : ¬ f_X11_isIn p2 (-20) 20 = 0 := by rw [c2]; exact i_1ne0
        have hM : f_X11_wind μ p0 p1 p2 = f_X11_wind_34 μ p0 p1 p2 1 := by
          unfold f_X11_wind
          rw [if_neg hisN, if_neg hb2, if_neg hc2]
        have hO : of_X11_wind_34 μ p0 p1 p2 1 → of_X11_wind μ p0 p1 p2 := fun z => ⟨oN, fun y => absurd y hisN, fun _ => ⟨fun y => absurd y hb2, fun _ => ⟨fun y => absurd y hc2, fun _ => z⟩⟩⟩
        have hF : ∀ nq, FL_wind σ x p0 p1 p2 nq = if f_X10_windOf σ x p0 = 0 then (if nI n4 < 50 then f_X10_wind_64 σ x nq p0 p1 p2 nq ((f_X9_init (xNew σ 10 nq) nq p0).2) else .error 2) else f_X10_wind_78 σ x nq p0 p1 p2 (f_X10_windOf σ x p0) σ := by
          intro nq
          show f_X10_wind σ x nq p0 p1 p2 = _
          unfold f_X10_wind
          rw [hnight, exb_i, b3, exb_i, c3, exb_i, hx4]
        have hOX : ∀ nq, oif (f_X10_windOf σ x p0 = 0) (oif (nI n4 < 50) (of_X9_init (xNew σ 10 nq) nq p0 ∧ of_X10_wind_64 σ x nq p0 p1 p2 nq ((f_X9_init (xNew σ 10 nq) nq p0).2)) True) (of_X10_wind_78 σ x nq p0 p1 p2 (f_X10_windOf σ x p0) σ) → of_X10_wind σ x nq p0 p1 p2 := by
          intro nq z
          unfold of_X10_wind
          rw [hnight, exo_i, b3, exo_i, c3, exo_i, hx4]
          exact ⟨oX, z⟩
        rcases rM with ⟨j, k1, k2, k3⟩ | ⟨k1, k2⟩
        · -- it changes
          rcases rX with ⟨i, l1, l2, l3⟩ | ⟨l1, -⟩
          · have hij : i = j := hwi.2.2.2.2.2 i j l1 k1 (l2.trans k2.symm)
            subst hij
            have hne := hwi.2.1 i l1
            have hix : ix (nI i) = i := clamp_nI (by omega)
            have nm : ¬ nI i = -1 := nI_m1 (by omega)
            have v50 : vp_in (nI i) 50 := nI_in (by omega) (by decide)
            have hFo : ∀ nq, FL_wind σ x p0 p1 p2 nq = .ok ((), xI (xI σ 201 (xe σ 4 i) p1) 202 (xe σ 4 i) p2) := by
              intro nq
              rw [hF nq, l3, if_neg hne]; rfl
            have hMo : f_X11_wind μ p0 p1 p2 = mI (mI (mI μ 0 0 0) 37 i p1) 38 i p2 := by
              rw [hM]
              unfold f_X11_wind_34
              rw [if_neg i_1ne0, k3, if_neg nm]
              unfold f_X11_wind_73
              rw [if_pos (by decide), if_neg nm]
              unfold f_X11_wind_116
              rw [hix]
            refine ⟨fun nq _ => hOX nq ?_, no_er hFo, hO ⟨oM, fun z => absurd z i_1ne0, fun _ => ?_⟩, fun nq f _ _ => cl_oV (hFo nq) hMo rfl ⟨n0, n1, n2, n4, n5, n6, wset_rep l1 b1 c1 h, hG⟩ f⟩
            · rw [l3]
              exact ⟨fun z => absurd z hne, fun _ => ⟨hk4 i l1, trivial⟩⟩
            · rw [k3]
              exact ⟨fun z => absurd z nm, fun _ => ⟨fun _ => ⟨fun z => absurd z nm, fun _ => ⟨v50, v50, trivial⟩⟩, fun _ => trivial⟩⟩
          · exact absurd k2 (l1 j k1)
        · rcases rX with ⟨i, l1, l2, l3⟩ | ⟨l1, l3⟩
          · exact absurd l2 (k1 i l1)
          · by_cases hn4 : n4 < 50
            · have n50 : nI n4 < 50 := by rw [show (50 : Int32) = nI 50 from rfl, nI_ltI (by omega) (by omega)]; exact hn4
              have m50 : ¬ mi μ 35 0 = 50 := by rw [hm, show (50 : Int32) = nI 50 from rfl, nI_eq (by omega) (by omega)]; omega
              have hix : ix (nI n4) = n4 := clamp_nI (by omega)
              have v50 : vp_in (nI n4) 50 := nI_in (by omega) (by decide)
              have hFo : ∀ nq, FL_wind σ x p0 p1 p2 nq = .ok ((), xAdd (wnew σ nq p0 p1 p2) 4 nq) := by
                intro nq
                rw [hF nq, l3, if_pos rfl, if_pos n50]; rfl
              have hMo : f_X11_wind μ p0 p1 p2 = mI (mI (mI (mI (mI μ 0 0 0) 36 n4 p0) 35 0 (nI n4 + 1)) 37 n4 p1) 38 n4 p2 := by
                rw [hM]
                unfold f_X11_wind_34
                rw [if_neg i_1ne0, k2, if_pos rfl, if_neg m50]
                unfold f_X11_wind_73
                rw [if_pos (by decide), if_pos rfl, hm]
                unfold f_X11_wind_116
                rw [hix]
              refine ⟨fun nq hq => hOX nq ?_, no_er hFo, hO ⟨oM, fun z => absurd z i_1ne0, fun _ => ?_⟩, fun nq f hq hq0 => cl_oV (hFo nq) hMo rfl (wadd_rep hq hq0 hn4 a1 b1 c1 k1 h hG) f⟩
              · have kq : xk (xNew σ 10 nq) nq = 10 := by rw [new_xk, if_pos rfl]
                have g : Agr σ (xI (xNew σ 10 nq) 200 nq p0) := agr_I (agr_new hq (by omega)) hq (by omega)
                rw [l3]
                refine ⟨fun _ => ⟨fun _ => ⟨⟨kq, trivial⟩, kq, ?_, fun i hi => ?_, kq, trivial⟩, fun _ => trivial⟩, fun z => absurd rfl z⟩
                · show xn σ 4 ≤ 100
                  rw [hx4]; omega
                · have hi : i < n4 := by
                    have : i < xn σ 4 := hi
                    rw [hx4] at this; exact this
                  exact (agr_lst g (by decide) hwi.2.2.2.1).2.1 i hi
              · rw [k2]
                refine ⟨fun _ => ⟨fun z => absurd z m50, fun _ => ⟨fun _ => ⟨fun _ => ⟨by rw [hm]; exact v50, ?_⟩, fun z => absurd rfl z⟩, fun _ => trivial⟩⟩, fun z => absurd rfl z⟩
                rw [hm]
                exact ⟨v50, v50, trivial⟩
            · have n50 : ¬ nI n4 < 50 := by rw [show (50 : Int32) = nI 50 from rfl, nI_ltI (by omega) (by omega)]; exact hn4
              have m50 : mi μ 35 0 = 50 := by rw [hm, show (50 : Int32) = nI 50 from rfl, nI_eq (by omega) (by omega)]; omega
              have hFe : ∀ nq, FL_wind σ x p0 p1 p2 nq = .error 2 := fun nq => by
                rw [hF nq, l3, if_pos rfl, if_neg n50]
              have hMe : f_X11_wind μ p0 p1 p2 = mI μ 0 0 2 := by
                rw [hM]
                unfold f_X11_wind_34
                rw [if_neg i_1ne0, k2, if_pos rfl, if_pos m50]
                exact (o73 _ 2 j2).1
              refine ⟨fun nq hq => hOX nq ?_, is_er hFe (Or.inr rfl), hO ⟨oM, fun z => absurd z i_1ne0, fun _ => ?_⟩, fun nq f _ _ => cl_eV hFe hMe (fr_refl μ) d2 hh nq f⟩
              · rw [l3]
                exact ⟨fun _ => ⟨fun z => absurd z n50, fun _ => trivial⟩, fun z => absurd rfl z⟩
              · rw [k2]
                exact ⟨fun _ => ⟨fun _ => (o73 _ 2 j2).2, fun z => absurd m50 z⟩, fun z => absurd rfl z⟩
      · refine bad (fun nq => ?_) (fun nq _ => ?_) ?_ (fun z => ⟨oN, fun y => absurd y hisN, fun _ => ⟨fun y => absurd y hb2, fun _ => ⟨fun _ => z, fun y => absurd c2 y⟩⟩⟩)
        · show f_X10_wind σ x nq p0 p1 p2 = _
          unfold f_X10_wind
          rw [hnight, exb_i, b3, exb_i, c3, exb_e]
        · unfold of_X10_wind
          rw [hnight, exo_i, b3, exo_i, c3, exo_e]
          exact trivial
        · unfold f_X11_wind
          rw [if_neg hisN, if_neg hb2, if_pos c2]
    · refine bad (fun nq => ?_) (fun nq _ => ?_) ?_ (fun z => ⟨oN, fun y => absurd y hisN, fun _ => ⟨fun _ => z, fun y => absurd b2 y⟩⟩)
      · show f_X10_wind σ x nq p0 p1 p2 = _
        unfold f_X10_wind
        rw [hnight, exb_i, b3, exb_e]
      · unfold of_X10_wind
        rw [hnight, exo_i, b3, exo_e]
        exact trivial
      · unfold f_X11_wind
        rw [if_neg hisN, if_pos b2]
  · have hnight : f_X10_requireNight p0 = .error 1 := by unfold f_X10_requireNight; rw [a3]; rfl
    have hisN : f_X11_isNight p0 = 0 := a2
    refine bad (fun nq => ?_) (fun nq _ => ?_) ?_ (fun z => ⟨oN, fun _ => z, fun y => absurd hisN y⟩)
    · show f_X10_wind σ x nq p0 p1 p2 = _
      unfold f_X10_wind
      rw [hnight, exb_e]
    · unfold of_X10_wind
      rw [hnight, exo_e]
      exact trivial
    · unfold f_X11_wind
      rw [if_pos hisN]
