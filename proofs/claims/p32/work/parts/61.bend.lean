/-! ===== clock ===== -/
theorem clock_rep {σ : XS} {x : Nat} {μ : MS} {n0 n1 n2 n4 n5 n6 c : Nat} {t v : Int32} (hc : c < n0) (hv : rng (-99) 99 v) (h : Rep0 σ x μ n0 n1 n2 n4 n5 n6) : Rep0 (xI σ 22 (xe σ 0 c) v) x (mI (mI μ 0 0 t) 4 c v) n0 n1 n2 n4 n5 n6 := by
  obtain ⟨a0, ac, al, ab, as', aw, ak, at', ala, an, ar, a3, x5, x6, x9⟩ := h
  obtain ⟨c1, c2, c3, c4⟩ := ac
  refine ⟨a0, ⟨c1, c2, c3, fun i hi => ?_⟩, al, ab, as', aw, ak, at', ala, an, ar, a3, x5, x6, x9⟩
  obtain ⟨d1, d2, d3, d4, d5, d6⟩ := c4 i hi
  refine ⟨d1, d2, ?_, d4, d5, ?_⟩
  · show xi (xI σ 22 (xe σ 0 c) v) 22 (xe σ 0 i) = mi (mI (mI μ 0 0 t) 4 c v) 4 i
    rw [xi_at, mi_at]
    by_cases e : i = c
    · rw [if_pos (by rw [e]), if_pos e]
    · rw [if_neg (fun z => e (c3.2.2 i c hi hc z)), if_neg e]; exact d3
  · show rng (-99) 99 (mi (mI (mI μ 0 0 t) 4 c v) 4 i)
    rw [mi_at]
    by_cases e : i = c
    · rw [if_pos e]; exact hv
    · rw [if_neg e]; exact d6
theorem gath_rep {σ : XS} {x : Nat} {μ : MS} {n0 n1 n2 n4 n5 n6 : Nat} (h : Rep0 σ x μ n0 n1 n2 n4 n5 n6) : of_X10_gatherFireballs σ x ∧ Rep (f_X10_gatherFireballs σ x).2 x μ ∧ XF σ (f_X10_gatherFireballs σ x).2 := by
  obtain ⟨s1, s2⟩ := rep_sx h
  obtain ⟨g1, g2, g3⟩ := gatherF_i s1 s2 (rep_l2 h).2
  exact ⟨g1, ⟨n0, n1, n2, n4, n5, n6, rep0_xf h g2, g3⟩, g2⟩
theorem br_clock : Br_clock Rep := by
  intro σ x μ p0 p1 hh
  obtain ⟨n0, n1, n2, n4, n5, n6, h, hG⟩ := id hh
  have d1 : cd_clock 3 = 1 := by decide
  have d2 : cd_clock 1 = 2 := by decide
  have i1 : ¬ (1 : Int32) ≤ 0 := by decide
  have i2 : ¬ (2 : Int32) ≤ 0 := by decide
  obtain ⟨e1, e2, e3⟩ := cam_ex (x := x) p0 h.2.1
  rcases e3 with ⟨c, hc, rfl, hix, h10, hF, hM, hK⟩ | ⟨-, hF, hM⟩
  · rcases in_or p1 (-99) 99 with ⟨a1, a2, a3⟩ | ⟨a1, a2, a3⟩
    · have h1 := clock_rep (t := 0) hc a1 h
      obtain ⟨g1, g2, -⟩ := gath_rep h1
      have w : xi σ 22 (xe σ 0 c) = mi μ 4 c := ((h.2.1.2.2.2) c hc).2.2.1
      have hFo : ∀ nq, FL_clock σ x (nI c) p1 nq = .ok (mi μ 4 c, (f_X10_gatherFireballs (xI σ 22 (xe σ 0 c) p1) x).2) := by
        intro nq
        show f_X10_clock σ x (nI c) p1 = _
        unfold f_X10_clock
        rw [hF, exb_i, a3, exb_i, w]
      have hMo : f_X11_clock μ (nI c) p1 = (mi μ 4 c, mI (mI μ 0 0 0) 4 c p1) := by
        unfold f_X11_clock
        rw [hM, if_neg i_1ne0, a2, if_neg i_1ne0]
        unfold f_X11_clock_29
        rw [if_pos (by decide), hix]
      refine ⟨?_, no_er hFo, ?_, fun nq f _ _ => cl_oI (hFo nq) hMo rfl g2 f⟩
      · unfold of_X10_clock
        rw [hF, exo_i, a3, exo_i]
        exact ⟨e1, hK, g1, trivial⟩
      · unfold of_X11_clock
        rw [hM, a2]
        exact ⟨e2, fun z => absurd z i_1ne0, fun _ => ⟨fun z => absurd z i_1ne0, fun _ => ⟨fun _ => ⟨h10, h10, trivial⟩, fun _ => trivial⟩⟩⟩
    · have hFe : ∀ nq, FL_clock σ x (nI c) p1 nq = .error 1 := fun nq => by simp [FL_clock, f_X10_clock, hF, a3, exb_i, exb_e]
      have hMe : f_X11_clock μ (nI c) p1 = (0, mI μ 0 0 2) := by simp [f_X11_clock, f_X11_clock_29, hM, a2, i2]
      exact ⟨by simp [of_X10_clock, e1, hF, a3, exo_i, exo_e], is_er hFe (Or.inr rfl), by simp [of_X11_clock, of_X11_clock_29, oif, e2, hM, a2, i2], fun nq f _ _ => cl_eI hFe hMe (fr_refl μ) d2 (by decide) hh nq f⟩
  · have hFe : ∀ nq, FL_clock σ x p0 p1 nq = .error 3 := fun nq => by simp [FL_clock, f_X10_clock, hF, exb_e]
    have hMe : f_X11_clock μ p0 p1 = (0, mI μ 0 0 1) := by simp [f_X11_clock, f_X11_clock_29, hM, i1]
    exact ⟨by simp [of_X10_clock, e1, hF, exo_e], is_er hFe (Or.inl rfl), by simp [of_X11_clock, of_X11_clock_29, oif, e2, hM, i1], fun nq f _ _ => cl_eI hFe hMe (fr_refl μ) d1 (by decide) hh nq f⟩
/-! ===== end ===== -/
theorem dir_or (p q : Int32) : (isDir p q ∧ f_X11_isDirection p q = 1 ∧ f_X10_requireDirection p q = .ok ()) ∨ (¬ isDir p q ∧ f_X11_isDirection p q = 0 ∧ f_X10_requireDirection p q = .error 1) := by
  rcases in_or p (-100) 100 with ⟨a1, a2, a3⟩ | ⟨a1, a2, a3⟩
  · rcases in_or q (-100) 100 with ⟨b1, b2, b3⟩ | ⟨b1, b2, b3⟩
    · by_cases c : p = 0
      · by_cases d : q = 0
        · refine Or.inr ⟨fun z => z.2.2 ⟨c, d⟩, ?_, ?_⟩
          · unfold f_X11_isDirection
            rw [a2, if_neg i_1ne0, b2, if_neg i_1ne0, if_pos c, if_pos d]
          · unfold f_X10_requireDirection
            rw [a3, exb_i, b3, exb_i, if_pos c, if_pos d]
        · refine Or.inl ⟨⟨a1, b1, fun z => d z.2⟩, ?_, ?_⟩
          · unfold f_X11_isDirection
            rw [a2, if_neg i_1ne0, b2, if_neg i_1ne0, if_pos c, if_neg d]
          · unfold f_X10_requireDirection
            rw [a3, exb_i, b3, exb_i, if_pos c, if_neg d]
      · refine Or.inl ⟨⟨a1, b1, fun z => c z.1⟩, ?_, ?_⟩
        · unfold f_X11_isDirection
          rw [a2, if_neg i_1ne0, b2, if_neg i_1ne0, if_neg c]
        · unfold f_X10_requireDirection
          rw [a3, exb_i, b3, exb_i, if_neg c]
    · refine Or.inr ⟨fun z => b1 z.2.1, ?_, ?_⟩
      · unfold f_X11_isDirection
        rw [a2, if_neg i_1ne0, b2, if_pos rfl]
      · unfold f_X10_requireDirection
        rw [a3, exb_i, b3, exb_e]
  · refine Or.inr ⟨fun z => a1 z.1, ?_, ?_⟩
    · unfold f_X11_isDirection
      rw [a2, if_pos rfl]
    · unfold f_X10_requireDirection
      rw [a3, exb_e]
/-- what the reference has behind an end -/
def endM (μ : MS) (t : Int32) (n2 : Nat) (p0 p1 p2 p3 : Int32) : MS := mI (mI (mI (mI (mI (mI (mI (mI (mI (mI (mI (mI μ 0 0 t) 14 n2 (mi μ 8 0)) 15 n2 (mi μ 9 0)) 16 n2 (mi μ 10 0)) 17 n2 (mi μ 11 0)) 18 n2 (mi μ 12 0)) 19 n2 p0) 20 n2 p1) 21 n2 p2) 22 n2 p3) 8 0 (-1)) 13 0 (nI n2 + 1)
theorem end_rep {σ : XS} {x : Nat} {μ : MS} {n0 n1 n2 n4 n5 n6 : Nat} {t p0 p1 p2 p3 : Int32} (hn : n2 < 60) (r1 : isDir p0 p1) (r2 : isDir p2 p3) (h : Rep0 σ x μ n0 n1 n2 n4 n5 n6) (hb : xr σ 223 x ≠ 0) : Rep0 (xR (xAdd (xI (xI (xI (xI σ 145 (xr σ 223 x) p0) 146 (xr σ 223 x) p1) 147 (xr σ 223 x) p2) 148 (xr σ 223 x) p3) 2 (xr σ 223 x)) 223 x 0) x (endM μ t n2 p0 p1 p2 p3) n0 n1 (n2 + 1) n4 n5 n6 := by
  obtain ⟨a0, ac, al, ab, as', aw, ak, at', ala, an, ar, a3, x5, x6, x9⟩ := h
  obtain ⟨q, eq⟩ : ∃ z, xr σ 223 x = z := ⟨_, rfl⟩
  rw [eq] at hb ⊢
  rcases ab with ⟨-, b2⟩ | ⟨-, b2, b3⟩
  · rw [eq] at b2; exact absurd b2 hb
  rw [eq] at b2 b3
  obtain ⟨l1, l2, l3, l4⟩ := as'
  have e223 : xr (xR (xAdd (xI (xI (xI (xI σ 145 q p0) 146 q p1) 147 q p2) 148 q p3) 2 q) 223 x 0) 223 x = 0 := by rw [xrr_at, if_pos rfl]
  refine ⟨a0, ac, al, Or.inl ⟨rfl, e223⟩, ⟨by omega, ?_, ?_, fun i hi => ?_⟩, aw, ak, at', ala, an, ar, a3, x5, x6, x9⟩
  · show mi (mI _ 13 0 (nI n2 + 1)) 13 0 = _
    rw [mi_at, if_pos rfl, nI_succ]
  · have := add_lst (σ := xI (xI (xI (xI σ 145 q p0) 146 q p1) 147 q p2) 148 q p3) (j := 2) (K := 7) (n := n2) (e := q) l3 b3.1 b2
    exact this
  · have hlast : xe (xAdd (xI (xI (xI (xI σ 145 q p0) 146 q p1) 147 q p2) 148 q p3) 2 q) 2 n2 = q := by
      have := add_last (xI (xI (xI (xI σ 145 q p0) 146 q p1) 147 q p2) 148 q p3) 2 q
      rw [show xn (xI (xI (xI (xI σ 145 q p0) 146 q p1) 147 q p2) 148 q p3) 2 = n2 from l3.1] at this
      exact this
    have hold : ∀ k, k < n2 → xe (xAdd (xI (xI (xI (xI σ 145 q p0) 146 q p1) 147 q p2) 148 q p3) 2 q) 2 k = xe σ 2 k := fun k hk => by
      rw [add_xe (Or.inr (by rw [show xn (xI (xI (xI (xI σ 145 q p0) 146 q p1) 147 q p2) 148 q p3) 2 = n2 from l3.1]; omega))]; rfl
    have z : ∀ (a : Nat) (v w : Int32), (if i = n2 then v else w) = (if i = n2 then v else w) := fun _ _ _ => rfl
    have m14 : mi (endM μ t n2 p0 p1 p2 p3) 14 i = if i = n2 then mi μ 8 0 else mi μ 14 i := by
      show mi (mI (mI μ 0 0 t) 14 n2 (mi μ 8 0)) 14 i = _
      rw [mi_at]; rfl
    have m15 : mi (endM μ t n2 p0 p1 p2 p3) 15 i = if i = n2 then mi μ 9 0 else mi μ 15 i := by
      show mi (mI (mI μ 0 0 t) 15 n2 (mi μ 9 0)) 15 i = _
      rw [mi_at]; rfl
    have m16 : mi (endM μ t n2 p0 p1 p2 p3) 16 i = if i = n2 then mi μ 10 0 else mi μ 16 i := by
      show mi (mI (mI μ 0 0 t) 16 n2 (mi μ 10 0)) 16 i = _
      rw [mi_at]; rfl
    have m17 : mi (endM μ t n2 p0 p1 p2 p3) 17 i = if i = n2 then mi μ 11 0 else mi μ 17 i := by
      show mi (mI (mI μ 0 0 t) 17 n2 (mi μ 11 0)) 17 i = _
      rw [mi_at]; rfl
    have m18 : mi (endM μ t n2 p0 p1 p2 p3) 18 i = if i = n2 then mi μ 12 0 else mi μ 18 i := by
      show mi (mI (mI μ 0 0 t) 18 n2 (mi μ 12 0)) 18 i = _
      rw [mi_at]; rfl
    have m19 : mi (endM μ t n2 p0 p1 p2 p3) 19 i = if i = n2 then p0 else mi μ 19 i := by
      show mi (mI (mI μ 0 0 t) 19 n2 p0) 19 i = _
      rw [mi_at]; rfl
    have m20 : mi (endM μ t n2 p0 p1 p2 p3) 20 i = if i = n2 then p1 else mi μ 20 i := by
      show mi (mI (mI μ 0 0 t) 20 n2 p1) 20 i = _
      rw [mi_at]; rfl
    have m21 : mi (endM μ t n2 p0 p1 p2 p3) 21 i = if i = n2 then p2 else mi μ 21 i := by
      show mi (mI (mI μ 0 0 t) 21 n2 p2) 21 i = _
      rw [mi_at]; rfl
    have m22 : mi (endM μ t n2 p0 p1 p2 p3) 22 i = if i = n2 then p3 else mi μ 22 i := by
      show mi (mI (mI μ 0 0 t) 22 n2 p3) 22 i = _
      rw [mi_at]; rfl
    rw [m14, m15, m16, m17, m18, m19, m20, m21, m22]
    by_cases c : i = n2
    · simp only [if_pos c]
      show RSig _ n0 (xe (xAdd (xI (xI (xI (xI σ 145 q p0) 146 q p1) 147 q p2) 148 q p3) 2 q) 2 i) _ _ _ _ _ ∧ xi (xI (xI (xI (xI σ 145 q p0) 146 q p1) 147 q p2) 148 q p3) 145 (xe (xAdd (xI (xI (xI (xI σ 145 q p0) 146 q p1) 147 q p2) 148 q p3) 2 q) 2 i) = p0 ∧ xi (xI (xI (xI (xI σ 145 q p0) 146 q p1) 147 q p2) 148 q p3) 146 (xe (xAdd (xI (xI (xI (xI σ 145 q p0) 146 q p1) 147 q p2) 148 q p3) 2 q) 2 i) = p1 ∧ xi (xI (xI (xI (xI σ 145 q p0) 146 q p1) 147 q p2) 148 q p3) 147 (xe (xAdd (xI (xI (xI (xI σ 145 q p0) 146 q p1) 147 q p2) 148 q p3) 2 q) 2 i) = p2 ∧ xi (xI (xI (xI (xI σ 145 q p0) 146 q p1) 147 q p2) 148 q p3) 148 (xe (xAdd (xI (xI (xI (xI σ 145 q p0) 146 q p1) 147 q p2) 148 q p3) 2 q) 2 i) = p3 ∧ isDir p0 p1 ∧ isDir p2 p3
      rw [c, hlast]
      refine ⟨b3, ?_, ?_, ?_, ?_, r1, r2⟩
      · rw [xI_z (Or.inl (by decide)), xI_z (Or.inl (by decide)), xI_z (Or.inl (by decide)), xi_at, if_pos rfl]
      · rw [xI_z (Or.inl (by decide)), xI_z (Or.inl (by decide)), xi_at, if_pos rfl]
      · rw [xI_z (Or.inl (by decide)), xi_at, if_pos rfl]
      · rw [xi_at, if_pos rfl]
    · simp only [if_neg c]
      obtain ⟨d1, d2, d3, d4, d5, d6⟩ := l4 i (by omega)
      have hne : xe σ 2 i ≠ q := b2 i (by omega)
      show RSig _ n0 (xe (xAdd (xI (xI (xI (xI σ 145 q p0) 146 q p1) 147 q p2) 148 q p3) 2 q) 2 i) _ _ _ _ _ ∧ xi (xI (xI (xI (xI σ 145 q p0) 146 q p1) 147 q p2) 148 q p3) 145 (xe (xAdd (xI (xI (xI (xI σ 145 q p0) 146 q p1) 147 q p2) 148 q p3) 2 q) 2 i) = _ ∧ xi (xI (xI (xI (xI σ 145 q p0) 146 q p1) 147 q p2) 148 q p3) 146 (xe (xAdd (xI (xI (xI (xI σ 145 q p0) 146 q p1) 147 q p2) 148 q p3) 2 q) 2 i) = _ ∧ xi (xI (xI (xI (xI σ 145 q p0) 146 q p1) 147 q p2) 148 q p3) 147 (xe (xAdd (xI (xI (xI (xI σ 145 q p0) 146 q p1) 147 q p2) 148 q p3) 2 q) 2 i) = _ ∧ xi (xI (xI (xI (xI σ 145 q p0) 146 q p1) 147 q p2) 148 q p3) 148 (xe (xAdd (xI (xI (xI (xI σ 145 q p0) 146 q p1) 147 q p2) 148 q p3) 2 q) 2 i) = _ ∧ _
      rw [hold i (by omega)]
      refine ⟨d1, ?_, ?_, ?_, ?_, d6⟩
      · rw [xI_z (Or.inr hne), xI_z (Or.inr hne), xI_z (Or.inr hne), xI_z (Or.inr hne)]; exact d2
      · rw [xI_z (Or.inr hne), xI_z (Or.inr hne), xI_z (Or.inr hne), xI_z (Or.inr hne)]; exact d3
      · rw [xI_z (Or.inr hne), xI_z (Or.inr hne), xI_z (Or.inr hne), xI_z (Or.inr hne)]; exact d4
      · rw [xI_z (Or.inr hne), xI_z (Or.inr hne), xI_z (Or.inr hne), xI_z (Or.inr hne)]; exact d5
theorem br_end : Br_end Rep := by
  intro σ x μ p0 p1 p2 p3 hh
  obtain ⟨n0, n1, n2, n4, n5, n6, h, hG⟩ := id hh
  have hcam := h.2.1
  have hclo := h.2.2.1
  have hbeg := h.2.2.2.1
  have hsis := h.2.2.2.2.1
  have hn2 := hsis.2.1
  have hx2 := hsis.2.2.1.1
  have d1 : cd_end 1 = 1 := by decide
  have d2 : cd_end 2 = 2 := by decide
  have i1 : ¬ (1 : Int32) ≤ 0 := by decide
  have i2 : ¬ (2 : Int32) ≤ 0 := by decide
  have t83 : ∀ t, ¬ t ≤ (0 : Int32) → f_X11_end_83 μ p0 p1 p2 p3 t = (0, mI μ 0 0 t) ∧ of_X11_end_83 μ p0 p1 p2 p3 t := fun t ht => ⟨if_neg ht, fun z => absurd z ht, fun _ => trivial⟩
  -- the reference, where it can't be ended
  have no61 : ∀ t, (f_X11_end_61 μ p0 p1 p2 p3 t 0 = (0, mI μ 0 0 (if t = 0 then 1 else 2))) ∧ of_X11_end_61 μ p0 p1 p2 p3 t 0 := by
    intro t
    by_cases c : t = 0
    · refine ⟨?_, fun _ => (t83 1 i1).2, fun z => absurd c z⟩
      unfold f_X11_end_61
      rw [if_pos c, if_pos c]; exact (t83 1 i1).1
    · refine ⟨?_, fun z => absurd z c, fun _ => ⟨fun _ => (t83 2 i2).2, fun z => absurd rfl z⟩⟩
      unfold f_X11_end_61
      rw [if_neg c, if_neg c, if_pos rfl]; exact (t83 2 i2).1
  rcases hbeg with ⟨b1, b2⟩ | ⟨b1, b2, b3⟩
  · -- none was begun
    have m22 : ∀ t, f_X11_end_22 μ p0 p1 p2 p3 t = (0, mI μ 0 0 (if t = 0 then 1 else 2)) ∧ of_X11_end_22 μ p0 p1 p2 p3 t := fun t => ⟨by
      unfold f_X11_end_22
      rw [if_pos b1]; exact (no61 t).1, fun _ => (no61 t).2, fun z => absurd b1 z⟩
    rcases dir_or p0 p1 with ⟨a1, a2, a3⟩ | ⟨a1, a2, a3⟩
    · rcases dir_or p2 p3 with ⟨c1, c2, c3⟩ | ⟨c1, c2, c3⟩
      · have hFe : ∀ nq, FL_end σ x p0 p1 p2 p3 nq = .error 2 := fun nq => by
          show f_X10_end σ x p0 p1 p2 p3 = _
          unfold f_X10_end
          rw [a3, exb_i, c3, exb_i, if_pos b2]
        have hMe : f_X11_end μ p0 p1 p2 p3 = (0, mI μ 0 0 2) := by
          unfold f_X11_end
          rw [a2, if_neg i_1ne0, c2, if_neg i_1ne0]; exact (m22 1).1
        refine ⟨?_, is_er hFe (Or.inr rfl), ?_, fun nq f _ _ => cl_eI hFe hMe (fr_refl μ) d2 (by decide) hh nq f⟩
        · unfold of_X10_end
          rw [a3, exo_i, c3, exo_i]
          exact ⟨fun _ => trivial, fun z => absurd b2 z⟩
        · exact ⟨fun _ => (m22 0).2, fun _ => ⟨fun _ => (m22 0).2, fun _ => (m22 1).2⟩⟩
      · have hFe : ∀ nq, FL_end σ x p0 p1 p2 p3 nq = .error 1 := fun nq => by
          show f_X10_end σ x p0 p1 p2 p3 = _
          unfold f_X10_end
          rw [a3, exb_i, c3, exb_e]
        have hMe : f_X11_end μ p0 p1 p2 p3 = (0, mI μ 0 0 1) := by
          unfold f_X11_end
          rw [a2, if_neg i_1ne0, c2, if_pos rfl]; exact (m22 0).1
        refine ⟨?_, is_er hFe (Or.inl rfl), ?_, fun nq f _ _ => cl_eI hFe hMe (fr_refl μ) d1 (by decide) hh nq f⟩
        · unfold of_X10_end
          rw [a3, exo_i, c3, exo_e]; trivial
        · exact ⟨fun _ => (m22 0).2, fun _ => ⟨fun _ => (m22 0).2, fun _ => (m22 1).2⟩⟩
    · have hFe : ∀ nq, FL_end σ x p0 p1 p2 p3 nq = .error 1 := fun nq => by
        show f_X10_end σ x p0 p1 p2 p3 = _
        unfold f_X10_end
        rw [a3, exb_e]
      have hMe : f_X11_end μ p0 p1 p2 p3 = (0, mI μ 0 0 1) := by
        unfold f_X11_end
        rw [a2, if_pos rfl]; exact (m22 0).1
      refine ⟨?_, is_er hFe (Or.inl rfl), ?_, fun nq f _ _ => cl_eI hFe hMe (fr_refl μ) d1 (by decide) hh nq f⟩
      · unfold of_X10_end
        rw [a3, exo_e]; trivial
      · exact ⟨fun _ => (m22 0).2, fun _ => ⟨fun _ => (m22 0).2, fun _ => (m22 1).2⟩⟩
  · -- one was begun, by camera c
    have hb3 := b3
    obtain ⟨s1, ⟨c, sc1, sc2, sc3⟩, s2, -⟩ := b3
    have hkc : xk σ (xr σ 140 (xr σ 223 x)) = 1 := by rw [sc3]; exact hcam.2.2.1.2.1 c sc1
    have m8 : ¬ mi μ 8 0 = -1 := by rw [sc2]; exact nI_m1 (by have := hcam.1; omega)
    obtain ⟨oI, oI2, rI⟩ := cl_both (x := x) hcam hclo sc1 (mi μ 9 0)
    rw [← sc3, ← s2] at oI rI
    rw [s2] at rI
    rw [← s2] at rI
    -- whether it can be ended
    have can : (f_X10_isCloudy σ x (xr σ 140 (xr σ 223 x)) (xi σ 141 (xr σ 223 x)) = 0 ∧ n2 < 60 ∧ ∀ t, f_X11_end_22 μ p0 p1 p2 p3 t = f_X11_end_61 μ p0 p1 p2 p3 t 1 ∧ (of_X11_end_61 μ p0 p1 p2 p3 t 1 → of_X11_end_22 μ p0 p1 p2 p3 t)) ∨ ((f_X10_isCloudy σ x (xr σ 140 (xr σ 223 x)) (xi σ 141 (xr σ 223 x)) = 0 → ¬ n2 < 60) ∧ zb (f_X10_isCloudy σ x (xr σ 140 (xr σ 223 x)) (xi σ 141 (xr σ 223 x))) ∧ ∀ t, f_X11_end_22 μ p0 p1 p2 p3 t = (0, mI μ 0 0 (if t = 0 then 1 else 2)) ∧ of_X11_end_22 μ p0 p1 p2 p3 t) := by
      have rI' : (f_X10_isCloudy σ x (xr σ 140 (xr σ 223 x)) (xi σ 141 (xr σ 223 x)) = 1 ∧ f_X11_isCloudy μ (mi μ 8 0) (mi μ 9 0) = 1) ∨ (f_X10_isCloudy σ x (xr σ 140 (xr σ 223 x)) (xi σ 141 (xr σ 223 x)) = 0 ∧ f_X11_isCloudy μ (mi μ 8 0) (mi μ 9 0) = 0) := by
        rw [sc2, ← s2]
        rcases rI with ⟨y1, y2⟩ | ⟨y1, y2, -⟩
        · exact Or.inl ⟨y1, y2⟩
        · exact Or.inr ⟨y1, y2⟩
      have oI3 : of_X11_isCloudy μ (mi μ 8 0) (mi μ 9 0) := by rw [sc2]; exact oI2
      rcases rI' with ⟨y1, y2⟩ | ⟨y1, y2⟩
      · refine Or.inr ⟨fun z => absurd (y1.symm.trans z) i_1ne0, Or.inr y1, fun t => ⟨?_, ?_⟩⟩
        · unfold f_X11_end_22
          rw [if_neg m8, y2, if_neg i_1ne0]; exact (no61 t).1
        · exact ⟨fun z => absurd z m8, fun _ => ⟨oI3, fun z => absurd (y2.symm.trans z) i_1ne0, fun _ => (no61 t).2⟩⟩
      · have c60 : (60 : Int32) ≤ mi μ 13 0 ↔ 60 ≤ n2 := by rw [hn2, show (60 : Int32) = nI 60 from rfl, nI_leI (by omega) (by have := hsis.1; omega)]
        by_cases hn : n2 < 60
        · refine Or.inl ⟨y1, hn, fun t => ⟨?_, fun w => ?_⟩⟩
          · unfold f_X11_end_22
            rw [if_neg m8, y2, if_pos rfl, if_neg (fun z => by have := c60.mp z; omega)]
          · exact ⟨fun z => absurd z m8, fun _ => ⟨oI3, fun _ => ⟨fun z => by have := c60.mp z; omega, fun _ => w⟩, fun z => absurd y2 z⟩⟩
        · refine Or.inr ⟨fun _ => hn, Or.inl y1, fun t => ⟨?_, ?_⟩⟩
          · unfold f_X11_end_22
            rw [if_neg m8, y2, if_pos rfl, if_pos (c60.mpr (by omega))]; exact (no61 t).1
          · exact ⟨fun z => absurd z m8, fun _ => ⟨oI3, fun _ => ⟨fun _ => (no61 t).2, fun z => absurd (c60.mpr (by omega)) z⟩, fun z => absurd y2 z⟩⟩
    have x60 : (nI n2 < (60 : Int32)) ↔ n2 < 60 := by rw [show (60 : Int32) = nI 60 from rfl, nI_ltI (by have := hsis.1; omega) (by omega)]
    -- the class behind the directions
    have oX : of_X10_isCloudy σ x (xr σ 140 (xr σ 223 x)) (xi σ 141 (xr σ 223 x)) := oI
    rcases can with ⟨y1, hn, hE⟩ | ⟨y1, yz, hE⟩
    · rcases dir_or p0 p1 with ⟨a1, a2, a3⟩ | ⟨a1, a2, a3⟩
      · rcases dir_or p2 p3 with ⟨c1, c2, c3⟩ | ⟨c1, c2, c3⟩
        · have h1 := end_rep (t := 0) hn a1 c1 h b1
          obtain ⟨g1, g2, g3⟩ := gath_rep h1
          have hix : ix (nI n2) = n2 := clamp_nI (by omega)
          have vin : vp_in (nI n2) 60 := nI_in hn (by decide)
          have hxn : xn (f_X10_gatherFireballs (xR (xAdd (xI (xI (xI (xI σ 145 (xr σ 223 x) p0) 146 (xr σ 223 x) p1) 147 (xr σ 223 x) p2) 148 (xr σ 223 x) p3) 2 (xr σ 223 x)) 223 x 0) x).2 2 = n2 + 1 := by
            have e : xn (xR (xAdd (xI (xI (xI (xI σ 145 (xr σ 223 x) p0) 146 (xr σ 223 x) p1) 147 (xr σ 223 x) p2) 148 (xr σ 223 x) p3) 2 (xr σ 223 x)) 223 x 0) 2 = n2 + 1 := h1.2.2.2.2.1.2.2.1.1
            rw [← e]
            show (f_X10_gatherFireballs _ x).2.2.2.2.2.1 2 = _
            rw [g3.2.2]; rfl
          have hFo : ∀ nq, FL_end σ x p0 p1 p2 p3 nq = .ok (nI n2, (f_X10_gatherFireballs (xR (xAdd (xI (xI (xI (xI σ 145 (xr σ 223 x) p0) 146 (xr σ 223 x) p1) 147 (xr σ 223 x) p2) 148 (xr σ 223 x) p3) 2 (xr σ 223 x)) 223 x 0) x).2) := by
            intro nq
            show f_X10_end σ x p0 p1 p2 p3 = _
            unfold f_X10_end
            rw [a3, exb_i, c3, exb_i, if_neg b1, y1, if_pos rfl, hx2, if_pos (x60.mpr hn)]
            unfold f_X10_end_129
            rw [hxn, nI_pred]
          have hMo : f_X11_end μ p0 p1 p2 p3 = (nI n2, endM μ 0 n2 p0 p1 p2 p3) := by
            unfold f_X11_end
            rw [a2, if_neg i_1ne0, c2, if_neg i_1ne0, (hE 1).1]
            unfold f_X11_end_61
            rw [if_neg i_1ne0, if_neg i_1ne0]
            unfold f_X11_end_83
            rw [if_pos (by decide), hn2, hix]
            unfold f_X11_end_147 f_X11_end_190
            have e13 : ∀ z : MS, mi z 13 0 = nI n2 → mi z 13 0 = nI n2 := fun _ h => h
            show ((mi μ 13 0 + 1) - 1, mI (mI (mI (mI (mI (mI (mI (mI (mI (mI (mI (mI μ 0 0 0) 14 n2 (mi μ 8 0)) 15 n2 (mi μ 9 0)) 16 n2 (mi μ 10 0)) 17 n2 (mi μ 11 0)) 18 (ix (mi μ 13 0)) (mi μ 12 0)) 19 (ix (mi μ 13 0)) p0) 20 (ix (mi μ 13 0)) p1) 21 (ix (mi μ 13 0)) p2) 22 (ix (mi μ 13 0)) p3) 8 0 (-1)) 13 0 (mi μ 13 0 + 1)) = _
            rw [hn2, hix]
            unfold endM
            rw [← nI_succ, nI_pred]
          refine ⟨?_, no_er hFo, ?_, fun nq f _ _ => cl_oI (hFo nq) hMo rfl g2 f⟩
          · unfold of_X10_end
            rw [a3, exo_i, c3, exo_i, y1, hx2]
            exact ⟨fun z => absurd z b1, fun _ => ⟨s1, hkc, oX, fun _ => ⟨fun _ => ⟨by omega, hsis.2.2.1.2.1, g1, trivial⟩, fun z => absurd (x60.mpr hn) z⟩, fun z => absurd rfl z⟩⟩
          · unfold of_X11_end
            rw [a2, c2]
            refine ⟨fun z => absurd z i_1ne0, fun _ => ⟨fun z => absurd z i_1ne0, fun _ => (hE 1).2 ⟨fun z => absurd z i_1ne0, fun _ => ⟨fun z => absurd z i_1ne0, fun _ => ⟨fun _ => ?_, fun _ => trivial⟩⟩⟩⟩⟩
            have v : vp_in (mi μ 13 0) 60 := by rw [hn2]; exact vin
            exact ⟨v, v, v, v, v, v, v, v, v, trivial⟩
        · have hFe : ∀ nq, FL_end σ x p0 p1 p2 p3 nq = .error 1 := fun nq => by
            show f_X10_end σ x p0 p1 p2 p3 = _
            unfold f_X10_end
            rw [a3, exb_i, c3, exb_e]
          have m61 : f_X11_end_61 μ p0 p1 p2 p3 0 1 = (0, mI μ 0 0 1) ∧ of_X11_end_61 μ p0 p1 p2 p3 0 1 := ⟨by unfold f_X11_end_61; rw [if_pos rfl]; exact (t83 1 i1).1, fun _ => (t83 1 i1).2, fun z => absurd rfl z⟩
          have hMe : f_X11_end μ p0 p1 p2 p3 = (0, mI μ 0 0 1) := by
            unfold f_X11_end
            rw [a2, if_neg i_1ne0, c2, if_pos rfl, (hE 0).1]; exact m61.1
          refine ⟨?_, is_er hFe (Or.inl rfl), ?_, fun nq f _ _ => cl_eI hFe hMe (fr_refl μ) d1 (by decide) hh nq f⟩
          · unfold of_X10_end
            rw [a3, exo_i, c3, exo_e]; trivial
          · unfold of_X11_end
            rw [a2, c2]
            exact ⟨fun z => absurd z i_1ne0, fun _ => ⟨fun _ => (hE 0).2 m61.2, fun z => absurd rfl z⟩⟩
      · have hFe : ∀ nq, FL_end σ x p0 p1 p2 p3 nq = .error 1 := fun nq => by
          show f_X10_end σ x p0 p1 p2 p3 = _
          unfold f_X10_end
          rw [a3, exb_e]
        have m61 : f_X11_end_61 μ p0 p1 p2 p3 0 1 = (0, mI μ 0 0 1) ∧ of_X11_end_61 μ p0 p1 p2 p3 0 1 := ⟨by unfold f_X11_end_61; rw [if_pos rfl]; exact (t83 1 i1).1, fun _ => (t83 1 i1).2, fun z => absurd rfl z⟩
        have hMe : f_X11_end μ p0 p1 p2 p3 = (0, mI μ 0 0 1) := by
          unfold f_X11_end
          rw [a2, if_pos rfl, (hE 0).1]; exact m61.1
        refine ⟨?_, is_er hFe (Or.inl rfl), ?_, fun nq f _ _ => cl_eI hFe hMe (fr_refl μ) d1 (by decide) hh nq f⟩
        · unfold of_X10_end
          rw [a3, exo_e]; trivial
        · unfold of_X11_end
          rw [a2]
          exact ⟨fun _ => (hE 0).2 m61.2, fun z => absurd rfl z⟩
    · rcases dir_or p0 p1 with ⟨a1, a2, a3⟩ | ⟨a1, a2, a3⟩
      · rcases dir_or p2 p3 with ⟨c1, c2, c3⟩ | ⟨c1, c2, c3⟩
        · have hFe : ∀ nq, FL_end σ x p0 p1 p2 p3 nq = .error 2 := fun nq => by
            show f_X10_end σ x p0 p1 p2 p3 = _
            unfold f_X10_end
            rw [a3, exb_i, c3, exb_i, if_neg b1]
            by_cases z : f_X10_isCloudy σ x (xr σ 140 (xr σ 223 x)) (xi σ 141 (xr σ 223 x)) = 0
            · rw [if_pos z, hx2, if_neg (fun w => y1 z (x60.mp w))]
            · rw [if_neg z]
          have hMe : f_X11_end μ p0 p1 p2 p3 = (0, mI μ 0 0 2) := by
            unfold f_X11_end
            rw [a2, if_neg i_1ne0, c2, if_neg i_1ne0]; exact (hE 1).1
          refine ⟨?_, is_er hFe (Or.inr rfl), ?_, fun nq f _ _ => cl_eI hFe hMe (fr_refl μ) d2 (by decide) hh nq f⟩
          · unfold of_X10_end
            rw [a3, exo_i, c3, exo_i, hx2]
            exact ⟨fun z => absurd z b1, fun _ => ⟨s1, hkc, oX, fun z => ⟨fun w => absurd (x60.mp w) (y1 z), fun _ => trivial⟩, fun _ => trivial⟩⟩
          · exact ⟨fun _ => (hE 0).2, fun _ => ⟨fun _ => (hE 0).2, fun _ => (hE 1).2⟩⟩
        · have hFe : ∀ nq, FL_end σ x p0 p1 p2 p3 nq = .error 1 := fun nq => by
            show f_X10_end σ x p0 p1 p2 p3 = _
            unfold f_X10_end
            rw [a3, exb_i, c3, exb_e]
          have hMe : f_X11_end μ p0 p1 p2 p3 = (0, mI μ 0 0 1) := by
            unfold f_X11_end
            rw [a2, if_neg i_1ne0, c2, if_pos rfl]; exact (hE 0).1
          refine ⟨?_, is_er hFe (Or.inl rfl), ?_, fun nq f _ _ => cl_eI hFe hMe (fr_refl μ) d1 (by decide) hh nq f⟩
          · unfold of_X10_end
            rw [a3, exo_i, c3, exo_e]; trivial
          · exact ⟨fun _ => (hE 0).2, fun _ => ⟨fun _ => (hE 0).2, fun _ => (hE 1).2⟩⟩
      · have hFe : ∀ nq, FL_end σ x p0 p1 p2 p3 nq = .error 1 := fun nq => by
          show f_X10_end σ x p0 p1 p2 p3 = _
          unfold f_X10_end
          rw [a3, exb_e]
        have hMe : f_X11_end μ p0 p1 p2 p3 = (0, mI μ 0 0 1) := by
          unfold f_X11_end
          rw [a2, if_pos rfl]; exact (hE 0).1
        refine ⟨?_, is_er hFe (Or.inl rfl), ?_, fun nq f _ _ => cl_eI hFe hMe (fr_refl μ) d1 (by decide) hh nq f⟩
        · unfold of_X10_end
          rw [a3, exo_e]; trivial
        · exact ⟨fun _ => (hE 0).2, fun _ => ⟨fun _ => (hE 0).2, fun _ => (hE 1).2⟩⟩
