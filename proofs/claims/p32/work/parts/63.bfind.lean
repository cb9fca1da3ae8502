/-! ===== a new stone's fields ===== -/
def ini (σ : XS) (nq : Nat) (N a b nt gr ow : Int32) (o : Nat) : XS := xR (xI (xI (xI (xI (xI (xI (xI (xI (xI (xI (xNew σ 8 nq) 168 nq 0) 169 nq (-1)) 170 nq (-1)) 173 nq (-1)) 160 nq N) 161 nq a) 162 nq b) 163 nq nt) 165 nq gr) 167 nq ow) 164 nq o
theorem ini_e (σ : XS) (nq : Nat) (N a b nt gr ow : Int32) (o : Nat) : (f_X7_init (xNew σ 8 nq) nq N a b nt gr ow o).2 = ini σ nq N a b nt gr ow o := rfl
theorem ini_agr {σ : XS} {nq : Nat} (hq : xk σ nq = 0) (N a b nt gr ow : Int32) (o : Nat) : Agr σ (ini σ nq N a b nt gr ow o) := agr_R (agr_I (agr_I (agr_I (agr_I (agr_I (agr_I (agr_I (agr_I (agr_I (agr_I (agr_new hq (by omega)) hq (by omega)) hq (by omega)) hq (by omega)) hq (by omega)) hq (by omega)) hq (by omega)) hq (by omega)) hq (by omega)) hq (by omega)) hq (by omega)) hq (by omega)
theorem ini_f (σ : XS) (nq : Nat) (N a b nt gr ow : Int32) (o : Nat) : xk (ini σ nq N a b nt gr ow o) nq = 8 ∧ xi (ini σ nq N a b nt gr ow o) 160 nq = N ∧ xi (ini σ nq N a b nt gr ow o) 161 nq = a ∧ xi (ini σ nq N a b nt gr ow o) 162 nq = b ∧ xi (ini σ nq N a b nt gr ow o) 163 nq = nt ∧ xi (ini σ nq N a b nt gr ow o) 165 nq = gr ∧ xi (ini σ nq N a b nt gr ow o) 166 nq = 0 ∧ xi (ini σ nq N a b nt gr ow o) 167 nq = ow ∧ xi (ini σ nq N a b nt gr ow o) 168 nq = 0 ∧ xi (ini σ nq N a b nt gr ow o) 169 nq = -1 ∧ xi (ini σ nq N a b nt gr ow o) 173 nq = -1 ∧ xi (ini σ nq N a b nt gr ow o) 175 nq = 0 ∧ xr (ini σ nq N a b nt gr ow o) 164 nq = o ∧ xi (ini σ nq N a b nt gr ow o) 170 nq = -1 := by
  have z : ∀ c, c / 20 = 8 → xi (xNew σ 8 nq) c nq = 0 := fun c hc => by
    show (if c / 20 = 8 then (if nq = nq then 0 else xi σ c nq) else xi σ c nq) = 0
    rw [if_pos hc, if_pos rfl]
  refine ⟨?_, ?_, ?_, ?_, ?_, ?_, ?_, ?_, ?_, ?_, ?_, ?_, ?_, ?_⟩
  · show xk (xNew σ 8 nq) nq = 8
    rw [new_xk, if_pos rfl]
  · show xi (xI (xI (xI (xI (xI (xNew σ 8 nq) 168 nq 0) 169 nq (-1)) 170 nq (-1)) 173 nq (-1)) 160 nq N) 160 nq = N
    rw [xi_at, if_pos rfl]
  · show xi (xI (xI (xI (xI (xI (xI (xNew σ 8 nq) 168 nq 0) 169 nq (-1)) 170 nq (-1)) 173 nq (-1)) 160 nq N) 161 nq a) 161 nq = a
    rw [xi_at, if_pos rfl]
  · show xi (xI (xI (xI (xI (xI (xI (xI (xNew σ 8 nq) 168 nq 0) 169 nq (-1)) 170 nq (-1)) 173 nq (-1)) 160 nq N) 161 nq a) 162 nq b) 162 nq = b
    rw [xi_at, if_pos rfl]
  · show xi (xI (xI (xI (xI (xI (xI (xI (xI (xNew σ 8 nq) 168 nq 0) 169 nq (-1)) 170 nq (-1)) 173 nq (-1)) 160 nq N) 161 nq a) 162 nq b) 163 nq nt) 163 nq = nt
    rw [xi_at, if_pos rfl]
  · show xi (xI (xI (xI (xI (xI (xI (xI (xI (xI (xNew σ 8 nq) 168 nq 0) 169 nq (-1)) 170 nq (-1)) 173 nq (-1)) 160 nq N) 161 nq a) 162 nq b) 163 nq nt) 165 nq gr) 165 nq = gr
    rw [xi_at, if_pos rfl]
  · exact z 166 (by decide)
  · show xi (xI _ 167 nq ow) 167 nq = ow
    rw [xi_at, if_pos rfl]
  · show xi (xI (xNew σ 8 nq) 168 nq 0) 168 nq = 0
    rw [xi_at, if_pos rfl]
  · show xi (xI (xI (xNew σ 8 nq) 168 nq 0) 169 nq (-1)) 169 nq = -1
    rw [xi_at, if_pos rfl]
  · show xi (xI (xI (xI (xI (xNew σ 8 nq) 168 nq 0) 169 nq (-1)) 170 nq (-1)) 173 nq (-1)) 173 nq = -1
    rw [xi_at, if_pos rfl]
  · exact z 175 (by decide)
  · show xr (xR _ 164 nq o) 164 nq = o
    rw [xrr_at, if_pos rfl]
  · show xi (xI (xI (xI (xNew σ 8 nq) 168 nq 0) 169 nq (-1)) 170 nq (-1)) 170 nq = -1
    rw [xi_at, if_pos rfl]
/-! ===== find ===== -/
theorem mqs_thr (n6 : Nat) (μ : MS) (t : Int32) : MQs n6 μ (mI μ 0 0 t) := ⟨fun k h0 _ _ _ _ => mI_ne h0, fun k i h0 _ => mi_ne h0⟩
theorem find_rep {σ : XS} {x : Nat} {μ : MS} {n0 n1 n2 n4 n5 n6 nq : Nat} {t a b nt gr ow : Int32} (hq : xk σ nq = 0) (hq0 : nq ≠ 0) (hn : n6 < 40) (ra : rng 0 99 a) (rb : rng 0 99 b) (rn : rng 0 3649 nt) (h : Rep0 σ x μ n0 n1 n2 n4 n5 n6) (hG : RG σ n2 (sdt μ n2)) : Rep (xAdd (ini σ nq (nI n6) a b nt gr ow 0) 6 nq) x (addM (mI μ 0 0 t) n6 a b nt gr ow (-1)) := by
  have g := ini_agr hq (nI n6) a b nt gr ow 0
  obtain ⟨k1, k2, k3, k4, k5, k6, k7, k8, k9, k10, k11, k12, k13, k14⟩ := ini_f σ nq (nI n6) a b nt gr ow 0
  have h1 := agr_rep g h
  have hG1 := agr_rg g (rep_l2 h).1 (rep_l2 h).2 hG
  have f1 := lst_fresh (h.2.2.2.2.2.2.2.1.2.2.2.2.1) hq (by decide)
  have hz := (h.2.2.2.2.2.2.2.1.2.2.1 n6 (Nat.le_refl _)).2.2.1
  refine ⟨n0, n1, n2, n4, n5, n6 + 1, stone_add h1 (mqs_thr n6 μ t) hn k1 f1 hq0 k2 k3 k4 k5 k6 k7 k8 k9 k10 k11 k12 ra rb rn (Or.inl ⟨rfl, k13⟩) (Or.inl ⟨hz, k14⟩), ?_⟩
  rw [sdt_addM (mqs_thr n6 μ t)]
  exact hG1
theorem br_find : Br_find Rep := by
  intro σ x μ p0 p1 p2 p3 p4 hh
  obtain ⟨n0, n1, n2, n4, n5, n6, h, hG⟩ := id hh
  have hst := h.2.2.2.2.2.2.2.1
  have hla := h.2.2.2.2.2.2.2.2.1
  have hx6 := hst.2.2.2.2.1.1
  have hm6 := hst.2.2.2.1
  have d1 : cd_find 1 = 1 := by decide
  have d2 : cd_find 2 = 2 := by decide
  have i1 : ¬ (1 : Int32) ≤ 0 := by decide
  have i2 : ¬ (2 : Int32) ≤ 0 := by decide
  have oN : of_X11_isNight p2 := ⟨by rcases in_or p2 0 3649 with ⟨-, a2, -⟩ | ⟨-, a2, -⟩ <;> (rw [a2]; unfold zb; decide), trivial⟩
  have args : (rng 0 99 p0 ∧ rng 0 99 p1 ∧ rng 0 3649 p2 ∧ f_X10_requireCell p0 p1 = .ok () ∧ f_X10_requireNight p2 = .ok () ∧ f_X10_requireRange p3 1 1000000 = .ok () ∧ f_X10_requireRange p4 0 5 = .ok () ∧ f_X11_find μ p0 p1 p2 p3 p4 = f_X11_find_42 μ p0 p1 p2 p3 p4 1 ∧ (of_X11_find_42 μ p0 p1 p2 p3 p4 1 → of_X11_find μ p0 p1 p2 p3 p4)) ∨ ((∀ nq, FL_find σ x p0 p1 p2 p3 p4 nq = .error 1) ∧ (∀ nq, of_X10_find σ x nq p0 p1 p2 p3 p4) ∧ f_X11_find μ p0 p1 p2 p3 p4 = f_X11_find_42 μ p0 p1 p2 p3 p4 0 ∧ (of_X11_find_42 μ p0 p1 p2 p3 p4 0 → of_X11_find μ p0 p1 p2 p3 p4)) := by
    rcases in_or p0 0 99 with ⟨a1, a2, a3⟩ | ⟨a1, a2, a3⟩
    · rcases in_or p1 0 99 with ⟨b1, b2, b3⟩ | ⟨b1, b2, b3⟩
      · have hcell : f_X10_requireCell p0 p1 = .ok () := by simp [f_X10_requireCell, a3, b3, exb_i]
        have hcell2 : f_X11_isCell p0 p1 = 1 := by simp [f_X11_isCell, a2, b2]
        rcases in_or p2 0 3649 with ⟨c1, c2, c3⟩ | ⟨c1, c2, c3⟩
        · have c4 : f_X11_isNight p2 = 1 := c2
          have c5 : f_X10_requireNight p2 = .ok () := by simp [f_X10_requireNight, c3, exb_i]
          rcases in_or p3 1 1000000 with ⟨e1, e2, e3⟩ | ⟨e1, e2, e3⟩
          · rcases in_or p4 0 5 with ⟨f1, f2, f3⟩ | ⟨f1, f2, f3⟩
            · exact Or.inl ⟨a1, b1, c1, hcell, c5, e3, f3, by simp [f_X11_find, hcell2, c4, e2, f2], fun z => by simp [of_X11_find, oif, hcell2, c4, e2, f2, oN, z]⟩
            · exact Or.inr ⟨fun nq => by simp [FL_find, f_X10_find, hcell, c5, e3, f3, exb_i, exb_e], fun nq => by simp [of_X10_find, hcell, c5, e3, f3, exo_i, exo_e], by simp [f_X11_find, hcell2, c4, e2, f2], fun z => by simp [of_X11_find, oif, hcell2, c4, e2, f2, oN, z]⟩
          · exact Or.inr ⟨fun nq => by simp [FL_find, f_X10_find, hcell, c5, e3, exb_i, exb_e], fun nq => by simp [of_X10_find, hcell, c5, e3, exo_i, exo_e], by simp [f_X11_find, hcell2, c4, e2], fun z => by simp [of_X11_find, oif, hcell2, c4, e2, oN, z]⟩
        · have c4 : f_X11_isNight p2 = 0 := c2
          have c5 : f_X10_requireNight p2 = .error 1 := by simp [f_X10_requireNight, c3, exb_e]
          exact Or.inr ⟨fun nq => by simp [FL_find, f_X10_find, hcell, c5, exb_i, exb_e], fun nq => by simp [of_X10_find, hcell, c5, exo_i, exo_e], by simp [f_X11_find, hcell2, c4], fun z => by simp [of_X11_find, oif, hcell2, c4, oN, z]⟩
      · have hcell : f_X10_requireCell p0 p1 = .error 1 := by simp [f_X10_requireCell, a3, b3, exb_i, exb_e]
        have hcell2 : f_X11_isCell p0 p1 = 0 := by simp [f_X11_isCell, a2, b2]
        exact Or.inr ⟨fun nq => by simp [FL_find, f_X10_find, hcell, exb_e], fun nq => by simp [of_X10_find, hcell, exo_e], by simp [f_X11_find, hcell2], fun z => by simp [of_X11_find, oif, hcell2, z]⟩
    · have hcell : f_X10_requireCell p0 p1 = .error 1 := by simp [f_X10_requireCell, a3, exb_e]
      have hcell2 : f_X11_isCell p0 p1 = 0 := by simp [f_X11_isCell, a2]
      exact Or.inr ⟨fun nq => by simp [FL_find, f_X10_find, hcell, exb_e], fun nq => by simp [of_X10_find, hcell, exo_e], by simp [f_X11_find, hcell2], fun z => by simp [of_X11_find, oif, hcell2, z]⟩
  have t68 : ∀ t, ¬ t ≤ (0 : Int32) → f_X11_find_68 μ p0 p1 p2 p3 p4 t = (0, mI μ 0 0 t) ∧ of_X11_find_68 μ p0 p1 p2 p3 p4 t := fun t ht => ⟨if_neg ht, fun z => absurd z ht, fun _ => trivial⟩
  rcases args with ⟨r0, r1, r2, q1, q2, q3, q4, hM, hO⟩ | ⟨hFe, ho, hM, hO⟩
  · obtain ⟨le1, i, hi, le2⟩ := land_eq p0 p1
    obtain ⟨w1, w2, w3, w4⟩ := law_in (σ := σ) (x := x) hla hi
    by_cases hn : n6 < 40
    · have n40 : nI n6 < 40 := by rw [show (40 : Int32) = nI 40 from rfl, nI_ltI (by omega) (by omega)]; exact hn
      have m40 : ¬ mi μ 46 0 = 40 := by rw [hm6, show (40 : Int32) = nI 40 from rfl, nI_eq (by omega) (by omega)]; omega
      obtain ⟨ow, how⟩ : ∃ ow : Int32, ow = if mi μ 66 i = 1 then 10 + nI i else p4 := ⟨_, rfl⟩
      have hFo : ∀ nq, FL_find σ x p0 p1 p2 p3 p4 nq = .ok (nI n6, xAdd (ini σ nq (nI n6) p0 p1 p2 p3 ow 0) 6 nq) := by
        intro nq
        show f_X10_find σ x nq p0 p1 p2 p3 p4 = _
        unfold f_X10_find
        rw [q1, exb_i, q2, exb_i, q3, exb_i, q4, exb_i, hx6, if_pos n40, le1, le2, w1]
        unfold f_X10_find_75 f_X10_find_101
        rw [ini_e, ini_e, hx6]
        by_cases c : mi μ 66 i = 1
        · rw [if_pos c] at how ⊢
          rw [← how, (ini_f σ nq (nI n6) p0 p1 p2 p3 ow 0).2.1]
        · rw [if_neg c] at how ⊢
          rw [← how, (ini_f σ nq (nI n6) p0 p1 p2 p3 ow 0).2.1]
      have hadd := fun ow : Int32 => adds_i (μ := mI μ 0 0 0) (n6 := n6) hm6 hn p0 p1 p2 p3 ow (-1)
      have hMo : f_X11_find μ p0 p1 p2 p3 p4 = (nI n6, addM (mI μ 0 0 0) n6 p0 p1 p2 p3 ow (-1)) := by
        rw [hM]
        unfold f_X11_find_42
        rw [if_neg i_1ne0, if_neg m40]
        unfold f_X11_find_68
        rw [if_pos (by decide), le2, w4]
        unfold f_X11_find_114
        by_cases c : mi μ 66 i = 1
        · rw [if_pos c] at how ⊢
          rw [← how, (hadd ow).1]
        · rw [if_neg c] at how ⊢
          rw [← how, (hadd ow).1]
      refine ⟨fun nq hq => ?_, no_er hFo, hO ⟨fun z => absurd z i_1ne0, fun _ => ⟨fun z => absurd z m40, fun _ => ⟨fun _ => ⟨by rw [le2]; exact w3, fun _ => ⟨(hadd _).2, trivial⟩, fun _ => ⟨(hadd _).2, trivial⟩⟩, fun _ => trivial⟩⟩⟩, fun nq f hq hq0 => cl_oI (hFo nq) hMo rfl (find_rep hq hq0 hn r0 r1 r2 h hG) f⟩
      unfold of_X10_find
      rw [q1, exo_i, q2, exo_i, q3, exo_i, q4, exo_i, hx6, le1, le2, w1]
      have o75 : ∀ t, of_X10_find_75 σ x nq p0 p1 p2 p3 p4 t := by
        intro t
        have kq : xk (xNew σ 8 nq) nq = 8 := by rw [new_xk, if_pos rfl]
        refine ⟨⟨kq, kq, trivial⟩, kq, by show xn σ 6 ≤ 100; rw [hx6]; omega, fun k hk => ?_, trivial⟩
        have hk : k < n6 := by have : k < xn σ 6 := hk; rw [hx6] at this; exact this
        show xk (xNew σ 8 nq) (xe σ 6 k) = 8
        rw [new_xk, if_neg (lst_fresh hst.2.2.2.2.1 hq (by decide) k hk)]
        exact hst.2.2.2.2.1.2.1 k hk
      exact ⟨fun _ => ⟨w2, fun _ => o75 _, fun _ => o75 _⟩, fun z => absurd n40 z⟩
    · have n40 : ¬ nI n6 < 40 := by rw [show (40 : Int32) = nI 40 from rfl, nI_ltI (by have := hst.1; omega) (by omega)]; exact hn
      have m40 : mi μ 46 0 = 40 := by rw [hm6, show n6 = 40 from by have := hst.1; omega]; rfl
      have hFe : ∀ nq, FL_find σ x p0 p1 p2 p3 p4 nq = .error 2 := by
        intro nq
        show f_X10_find σ x nq p0 p1 p2 p3 p4 = _
        unfold f_X10_find
        rw [q1, exb_i, q2, exb_i, q3, exb_i, q4, exb_i, hx6, if_neg n40]
      have hMe : f_X11_find μ p0 p1 p2 p3 p4 = (0, mI μ 0 0 2) := by
        rw [hM]
        unfold f_X11_find_42
        rw [if_neg i_1ne0, if_pos m40]; exact (t68 2 i2).1
      refine ⟨fun nq hq => ?_, is_er hFe (Or.inr rfl), hO ⟨fun z => absurd z i_1ne0, fun _ => ⟨fun _ => (t68 2 i2).2, fun z => absurd m40 z⟩⟩, fun nq f _ _ => cl_eI hFe hMe (fr_refl μ) d2 (by decide) hh nq f⟩
      unfold of_X10_find
      rw [q1, exo_i, q2, exo_i, q3, exo_i, q4, exo_i, hx6]
      exact ⟨fun z => absurd z n40, fun _ => trivial⟩
  · have hMe : f_X11_find μ p0 p1 p2 p3 p4 = (0, mI μ 0 0 1) := by
      rw [hM]
      unfold f_X11_find_42
      rw [if_pos rfl]; exact (t68 1 i1).1
    exact ⟨fun nq _ => ho nq, is_er hFe (Or.inl rfl), hO ⟨fun _ => (t68 1 i1).2, fun z => absurd rfl z⟩, fun nq f _ _ => cl_eI hFe hMe (fr_refl μ) d1 (by decide) hh nq f⟩
