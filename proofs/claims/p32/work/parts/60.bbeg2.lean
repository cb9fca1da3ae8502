/-! ===== begin ===== -/
theorem begin_rep {σ : XS} {x : Nat} {μ : MS} {n0 n1 n2 n4 n5 n6 nq c : Nat} {t p1 p2 p3 p4 : Int32} (hq : xk σ nq = 0) (hq0 : nq ≠ 0) (hc : c < n0) (r1 : rng 0 3649 p1) (r2 : rng 0 86399 p2) (r3 : rng 1 60 p3) (r4 : rng 1 1000 p4) (h : Rep0 σ x μ n0 n1 n2 n4 n5 n6) (hG : RG σ n2 (sdt μ n2)) : Rep (xR (xI (xI (xI (xI (xR (xI (xNew σ 7 nq) 150 nq (-1)) 140 nq (xe σ 0 c)) 141 nq p1) 142 nq p2) 143 nq p3) 144 nq p4) 223 x nq) x (mI (mI (mI (mI (mI (mI μ 0 0 t) 8 0 (nI c)) 9 0 p1) 10 0 p2) 11 0 p3) 12 0 p4) := by
  have g : Agr σ (xI (xI (xI (xI (xR (xI (xNew σ 7 nq) 150 nq (-1)) 140 nq (xe σ 0 c)) 141 nq p1) 142 nq p2) 143 nq p3) 144 nq p4) := agr_I (agr_I (agr_I (agr_I (agr_R (agr_I (agr_new hq (by omega)) hq (by omega)) hq (by omega)) hq (by omega)) hq (by omega)) hq (by omega)) hq (by omega)
  have h1 := agr_rep g h
  have hG1 := agr_rg g (rep_l2 h).1 (rep_l2 h).2 hG
  have f1 := lst_fresh ((rep_l2 h).1) hq (by decide)
  have hk1 : xk (xI (xI (xI (xI (xR (xI (xNew σ 7 nq) 150 nq (-1)) 140 nq (xe σ 0 c)) 141 nq p1) 142 nq p2) 143 nq p3) 144 nq p4) nq = 7 := by
    show xk (xNew σ 7 nq) nq = 7
    rw [new_xk, if_pos rfl]
  have v0 : xr (xI (xI (xI (xI (xR (xI (xNew σ 7 nq) 150 nq (-1)) 140 nq (xe σ 0 c)) 141 nq p1) 142 nq p2) 143 nq p3) 144 nq p4) 140 nq = xe σ 0 c := by
    show xr (xR (xI (xNew σ 7 nq) 150 nq (-1)) 140 nq (xe σ 0 c)) 140 nq = xe σ 0 c
    rw [xrr_at, if_pos rfl]
  have v1 : xi (xI (xI (xI (xI (xR (xI (xNew σ 7 nq) 150 nq (-1)) 140 nq (xe σ 0 c)) 141 nq p1) 142 nq p2) 143 nq p3) 144 nq p4) 141 nq = p1 := by
    rw [xI_z (Or.inl (by decide)), xI_z (Or.inl (by decide)), xI_z (Or.inl (by decide)), xi_at, if_pos rfl]
  have v2 : xi (xI (xI (xI (xI (xR (xI (xNew σ 7 nq) 150 nq (-1)) 140 nq (xe σ 0 c)) 141 nq p1) 142 nq p2) 143 nq p3) 144 nq p4) 142 nq = p2 := by
    rw [xI_z (Or.inl (by decide)), xI_z (Or.inl (by decide)), xi_at, if_pos rfl]
  have v3 : xi (xI (xI (xI (xI (xR (xI (xNew σ 7 nq) 150 nq (-1)) 140 nq (xe σ 0 c)) 141 nq p1) 142 nq p2) 143 nq p3) 144 nq p4) 143 nq = p3 := by
    rw [xI_z (Or.inl (by decide)), xi_at, if_pos rfl]
  have v4 : xi (xI (xI (xI (xI (xR (xI (xNew σ 7 nq) 150 nq (-1)) 140 nq (xe σ 0 c)) 141 nq p1) 142 nq p2) 143 nq p3) 144 nq p4) 144 nq = p4 := by
    rw [xi_at, if_pos rfl]
  have hxe0 : ∀ k, xe (xI (xI (xI (xI (xR (xI (xNew σ 7 nq) 150 nq (-1)) 140 nq (xe σ 0 c)) 141 nq p1) 142 nq p2) 143 nq p3) 144 nq p4) 0 k = xe σ 0 k := fun _ => rfl
  have hf1 : ∀ i, i < n2 → xe (xI (xI (xI (xI (xR (xI (xNew σ 7 nq) 150 nq (-1)) 140 nq (xe σ 0 c)) 141 nq p1) 142 nq p2) 143 nq p3) 144 nq p4) 2 i ≠ nq := f1
  obtain ⟨σ1, e1⟩ : ∃ z, xI (xI (xI (xI (xR (xI (xNew σ 7 nq) 150 nq (-1)) 140 nq (xe σ 0 c)) 141 nq p1) 142 nq p2) 143 nq p3) 144 nq p4 = z := ⟨_, rfl⟩
  rw [e1] at h1 hG1 hk1 v0 v1 v2 v3 v4 hxe0 hf1 ⊢
  obtain ⟨a0, ac, al, ab, as', aw, ak, at', ala, an, ar, a3, x5, x6, x9⟩ := h1
  have e223 : xr (xR σ1 223 x nq) 223 x = nq := by rw [xrr_at, if_pos rfl]
  refine ⟨n0, n1, n2, n4, n5, n6, ⟨a0, ac, al, Or.inr ?_, as', aw, ak, at', ala, an, ar, a3, x5, x6, x9⟩, hG1⟩
  rw [e223]
  exact ⟨hq0, hf1, hk1, ⟨c, hc, rfl, v0.trans (hxe0 c).symm⟩, v1, v2, v3, v4, r1, r2, r3, r4⟩
theorem br_begin : Br_begin Rep := by
  intro σ x μ p0 p1 p2 p3 p4 hh
  obtain ⟨n0, n1, n2, n4, n5, n6, h, hG⟩ := id hh
  have hcam := h.2.1
  have hclo := h.2.2.1
  have d1 : cd_begin 3 = 1 := by decide
  have d2 : cd_begin 1 = 2 := by decide
  have d3 : cd_begin 2 = 3 := by decide
  have j1 : ¬ (1 : Int32) = 0 := by decide
  have j2 : ¬ (2 : Int32) = 0 := by decide
  have j3 : ¬ (3 : Int32) = 0 := by decide
  obtain ⟨e1, e2, e3⟩ := cam_ex (x := x) p0 hcam
  have oN : of_X11_isNight p1 := ⟨by rcases in_or p1 0 3649 with ⟨-, a2, -⟩ | ⟨-, a2, -⟩ <;> (rw [a2]; unfold zb; decide), trivial⟩
  have t83 : ∀ t, ¬ t = (0 : Int32) → f_X11_begin_83 μ p0 p1 p2 p3 p4 t = mI μ 0 0 t := fun t ht => if_neg ht
  -- where the arguments but the camera fit or not
  have args : (rng 0 3649 p1 ∧ rng 0 86399 p2 ∧ rng 1 60 p3 ∧ rng 1 1000 p4 ∧ f_X10_requireNight p1 = .ok () ∧ f_X10_requireRange p2 0 86399 = .ok () ∧ f_X10_requireRange p3 1 60 = .ok () ∧ f_X10_requireRange p4 1 1000 = .ok () ∧ f_X11_begin μ p0 p1 p2 p3 p4 = f_X11_begin_45 μ p0 p1 p2 p3 p4 1 ∧ (of_X11_begin_45 μ p0 p1 p2 p3 p4 1 → of_X11_begin μ p0 p1 p2 p3 p4)) ∨ (f_X11_begin μ p0 p1 p2 p3 p4 = f_X11_begin_45 μ p0 p1 p2 p3 p4 0 ∧ (of_X11_begin_45 μ p0 p1 p2 p3 p4 0 → of_X11_begin μ p0 p1 p2 p3 p4) ∧ ∀ {α : Type} (g : Except Nat α), exb (f_X10_requireNight p1) (fun _ => exb (f_X10_requireRange p2 0 86399) (fun _ => exb (f_X10_requireRange p3 1 60) (fun _ => exb (f_X10_requireRange p4 1 1000) (fun _ => g)))) = .error 1 ∧ ∀ q : Prop, exo (f_X10_requireNight p1) (fun _ => exo (f_X10_requireRange p2 0 86399) (fun _ => exo (f_X10_requireRange p3 1 60) (fun _ => exo (f_X10_requireRange p4 1 1000) (fun _ => q))))) := by
    rcases in_or p1 0 3649 with ⟨a1, a2, a3⟩ | ⟨a1, a2, a3⟩
    · have a4 : f_X11_isNight p1 = 1 := a2
      rcases in_or p2 0 86399 with ⟨b1, b2, b3⟩ | ⟨b1, b2, b3⟩
      · rcases in_or p3 1 60 with ⟨c1, c2, c3⟩ | ⟨c1, c2, c3⟩
        · rcases in_or p4 1 1000 with ⟨f1, f2, f3⟩ | ⟨f1, f2, f3⟩
          · exact Or.inl ⟨a1, b1, c1, f1, by simp [f_X10_requireNight, a3, exb_i], b3, c3, f3, by simp [f_X11_begin, a4, b2, c2, f2], fun z => by simp [of_X11_begin, oif, a4, b2, c2, f2, z, oN]⟩
          · exact Or.inr ⟨by simp [f_X11_begin, a4, b2, c2, f2], fun z => by simp [of_X11_begin, oif, a4, b2, c2, f2, z, oN], fun g => ⟨by simp [f_X10_requireNight, a3, b3, c3, f3, exb_i, exb_e], fun q => by simp [f_X10_requireNight, a3, b3, c3, f3, exb_i, exo_i, exo_e]⟩⟩
        · exact Or.inr ⟨by simp [f_X11_begin, a4, b2, c2], fun z => by simp [of_X11_begin, oif, a4, b2, c2, z, oN], fun g => ⟨by simp [f_X10_requireNight, a3, b3, c3, exb_i, exb_e], fun q => by simp [f_X10_requireNight, a3, b3, c3, exb_i, exo_i, exo_e]⟩⟩
      · exact Or.inr ⟨by simp [f_X11_begin, a4, b2], fun z => by simp [of_X11_begin, oif, a4, b2, z, oN], fun g => ⟨by simp [f_X10_requireNight, a3, b3, exb_i, exb_e], fun q => by simp [f_X10_requireNight, a3, b3, exb_i, exo_i, exo_e]⟩⟩
    · have a4 : f_X11_isNight p1 = 0 := a2
      exact Or.inr ⟨by simp [f_X11_begin, a4], fun z => by simp [of_X11_begin, oif, a4, z, oN], fun g => ⟨by simp [f_X10_requireNight, a3, exb_e], fun q => by simp [f_X10_requireNight, a3, exb_e, exo_e]⟩⟩
  rcases e3 with ⟨c, hc, rfl, hix, h10, hF, hMc, hK⟩ | ⟨-, hF, hMc⟩
  · rcases args with ⟨r1, r2, r3, r4, q1, q2, q3, q4, hM, hO⟩ | ⟨hM, hO, hE⟩
    · obtain ⟨oI, oI2, rI⟩ := cl_both (x := x) hcam hclo hc p1
      rcases rI with ⟨i1, i2⟩ | ⟨i1, i2, -⟩
      · have hFe : ∀ nq, FL_begin σ x (nI c) p1 p2 p3 p4 nq = .error 2 := by
          intro nq
          show f_X10_begin σ x nq (nI c) p1 p2 p3 p4 = _
          unfold f_X10_begin
          rw [hF, exb_i, q1, exb_i, q2, exb_i, q3, exb_i, q4, exb_i, i1, if_neg i_1ne0]
        have hMe : f_X11_begin μ (nI c) p1 p2 p3 p4 = mI μ 0 0 3 := by
          rw [hM]
          unfold f_X11_begin_45
          rw [hMc, if_neg i_1ne0, if_neg i_1ne0, i2, if_neg i_1ne0]
          exact t83 3 j3
        refine ⟨fun nq hq => ?_, is_er hFe (Or.inr (Or.inr rfl)), hO ⟨e2, fun _ => trivial, fun _ => ⟨fun _ => trivial, fun _ => ⟨oI2, trivial⟩⟩⟩, fun nq f _ _ => cl_eV hFe hMe (fr_refl μ) d3 hh nq f⟩
        unfold of_X10_begin
        rw [hF, exo_i, q1, exo_i, q2, exo_i, q3, exo_i, q4, exo_i, i1]
        exact ⟨e1, oI, fun z => absurd z i_1ne0, fun _ => trivial⟩
      · have hFo : ∀ nq, FL_begin σ x (nI c) p1 p2 p3 p4 nq = .ok ((), xR (xI (xI (xI (xI (xR (xI (xNew σ 7 nq) 150 nq (-1)) 140 nq (xe σ 0 c)) 141 nq p1) 142 nq p2) 143 nq p3) 144 nq p4) 223 x nq) := by
          intro nq
          show f_X10_begin σ x nq (nI c) p1 p2 p3 p4 = _
          unfold f_X10_begin
          rw [hF, exb_i, q1, exb_i, q2, exb_i, q3, exb_i, q4, exb_i, i1, if_pos rfl]
          rfl
        have hMo : f_X11_begin μ (nI c) p1 p2 p3 p4 = mI (mI (mI (mI (mI (mI μ 0 0 0) 8 0 (nI c)) 9 0 p1) 10 0 p2) 11 0 p3) 12 0 p4 := by
          rw [hM]
          unfold f_X11_begin_45
          rw [hMc, if_neg i_1ne0, if_neg i_1ne0, i2, if_pos rfl]
          unfold f_X11_begin_83
          rw [if_pos rfl]
        refine ⟨fun nq hq => ?_, no_er hFo, hO ⟨e2, fun _ => trivial, fun _ => ⟨fun _ => trivial, fun _ => ⟨oI2, trivial⟩⟩⟩, fun nq f hq hq0 => cl_oV (hFo nq) hMo rfl (begin_rep hq hq0 hc r1 r2 r3 r4 h hG) f⟩
        unfold of_X10_begin
        rw [hF, exo_i, q1, exo_i, q2, exo_i, q3, exo_i, q4, exo_i, i1]
        refine ⟨e1, oI, fun _ => ⟨⟨by rw [new_xk, if_pos rfl], ?_, trivial⟩, ?_, trivial⟩, fun z => absurd rfl z⟩
        · rw [new_xk, if_neg (fun e => by rw [e, hq] at hK; exact absurd hK (by decide))]; exact hK
        · show xk (xNew σ 7 nq) nq = 7
          rw [new_xk, if_pos rfl]
    · have hFe : ∀ nq, FL_begin σ x (nI c) p1 p2 p3 p4 nq = .error 1 := by
        intro nq
        show f_X10_begin σ x nq (nI c) p1 p2 p3 p4 = _
        unfold f_X10_begin
        rw [hF, exb_i]
        exact (hE _).1
      have hMe : f_X11_begin μ (nI c) p1 p2 p3 p4 = mI μ 0 0 2 := by
        rw [hM]
        unfold f_X11_begin_45
        rw [hMc, if_neg i_1ne0, if_pos rfl]
        exact t83 2 j2
      refine ⟨fun nq hq => ?_, is_er hFe (Or.inr (Or.inl rfl)), hO ⟨e2, fun _ => trivial, fun _ => ⟨fun _ => trivial, fun z => absurd rfl z⟩⟩, fun nq f _ _ => cl_eV hFe hMe (fr_refl μ) d2 hh nq f⟩
      unfold of_X10_begin
      rw [hF, exo_i]
      exact ⟨e1, (hE (α := Unit) (.ok ())).2 _⟩
  · have hFe : ∀ nq, FL_begin σ x p0 p1 p2 p3 p4 nq = .error 3 := by
      intro nq
      show f_X10_begin σ x nq p0 p1 p2 p3 p4 = _
      unfold f_X10_begin
      rw [hF, exb_e]
    have m45 : ∀ t, f_X11_begin_45 μ p0 p1 p2 p3 p4 t = mI μ 0 0 1 := fun t => by
      unfold f_X11_begin_45
      rw [hMc, if_pos rfl]
      exact t83 1 j1
    have o45 : ∀ t, of_X11_begin_45 μ p0 p1 p2 p3 p4 t := fun t => ⟨e2, fun _ => trivial, fun z => absurd hMc z⟩
    have hMe : f_X11_begin μ p0 p1 p2 p3 p4 = mI μ 0 0 1 ∧ of_X11_begin μ p0 p1 p2 p3 p4 := by
      rcases args with ⟨-, -, -, -, -, -, -, -, hM, hO⟩ | ⟨hM, hO, -⟩
      · exact ⟨hM.trans (m45 1), hO (o45 1)⟩
      · exact ⟨hM.trans (m45 0), hO (o45 0)⟩
    refine ⟨fun nq hq => ?_, is_er hFe (Or.inl rfl), hMe.2, fun nq f _ _ => cl_eV hFe hMe.1 (fr_refl μ) d1 hh nq f⟩
    unfold of_X10_begin
    rw [hF, exo_e]
    exact ⟨e1, trivial⟩
/-! ===== rule ===== -/
theorem rule_rep {σ : XS} {x : Nat} {μ : MS} {n0 n1 n2 n4 n5 n6 nq i : Nat} {t p1 p2 : Int32} (hq : xk σ nq = 0) (hq0 : nq ≠ 0) (hi : i < 10) (h : Rep0 σ x μ n0 n1 n2 n4 n5 n6) (hG : RG σ n2 (sdt μ n2)) : Rep (xR (xI (xI (xNew σ 6 nq) 120 nq p1) 121 nq p2) 242 i nq) x (mI (mI (mI (mI μ 0 0 t) 63 i (bz 1)) 64 i p1) 65 i p2) := by
  have g : Agr σ (xI (xI (xNew σ 6 nq) 120 nq p1) 121 nq p2) := agr_I (agr_I (agr_new hq (by omega)) hq (by omega)) hq (by omega)
  have h1 := agr_rep g h
  have hG1 := agr_rg g (rep_l2 h).1 (rep_l2 h).2 hG
  have hk1 : xk (xI (xI (xNew σ 6 nq) 120 nq p1) 121 nq p2) nq = 6 := by
    show xk (xNew σ 6 nq) nq = 6
    rw [new_xk, if_pos rfl]
  have v0 : xi (xI (xI (xNew σ 6 nq) 120 nq p1) 121 nq p2) 120 nq = p1 := by
    rw [xI_z (Or.inl (by decide)), xi_at, if_pos rfl]
  have v1 : xi (xI (xI (xNew σ 6 nq) 120 nq p1) 121 nq p2) 121 nq = p2 := by
    rw [xi_at, if_pos rfl]
  obtain ⟨σ1, e1⟩ : ∃ z, xI (xI (xNew σ 6 nq) 120 nq p1) 121 nq p2 = z := ⟨_, rfl⟩
  rw [e1] at h1 hG1 hk1 v0 v1 ⊢
  obtain ⟨a0, ac, al, ab, as', aw, ak, at', ala, an, ar, a3, x5, x6, x9⟩ := h1
  refine ⟨n0, n1, n2, n4, n5, n6, ⟨a0, ac, al, ab, as', aw, ak, at', ala, an, fun k hk => ?_, a3, x5, x6, x9⟩, hG1⟩
  have b1 : bz 1 = 1 := by decide
  have m63 : mi (mI (mI (mI (mI μ 0 0 t) 63 i (bz 1)) 64 i p1) 65 i p2) 63 k = if k = i then 1 else mi μ 63 k := by
    show mi (mI (mI μ 0 0 t) 63 i (bz 1)) 63 k = _
    rw [mi_at, b1]; rfl
  have m64 : mi (mI (mI (mI (mI μ 0 0 t) 63 i (bz 1)) 64 i p1) 65 i p2) 64 k = if k = i then p1 else mi μ 64 k := by
    show mi (mI (mI (mI μ 0 0 t) 63 i (bz 1)) 64 i p1) 64 k = _
    rw [mi_at]; rfl
  have m65 : mi (mI (mI (mI (mI μ 0 0 t) 63 i (bz 1)) 64 i p1) 65 i p2) 65 k = if k = i then p2 else mi μ 65 k := by
    rw [mi_at]; rfl
  rw [m63, m64, m65]
  by_cases c : k = i
  · have er : xr (xR σ1 242 i nq) 242 k = nq := by rw [xrr_at, if_pos c]
    rw [if_pos c, if_pos c, if_pos c, er]
    exact Or.inr ⟨rfl, hk1, hq0, v0, v1⟩
  · have er : xr (xR σ1 242 i nq) 242 k = xr σ1 242 k := by rw [xrr_at, if_neg c]
    rw [if_neg c, if_neg c, if_neg c, er]
    exact ar k hk
theorem br_rule : Br_rule Rep := by
  intro σ x μ p0 p1 p2 hh
  obtain ⟨n0, n1, n2, n4, n5, n6, h, hG⟩ := id hh
  have d1 : cd_rule 1 = 1 := by decide
  have j1 : ¬ (1 : Int32) = 0 := by decide
  rcases in_or p0 0 9 with ⟨a1, a2, a3⟩ | ⟨a1, a2, a3⟩
  · rcases in_or p1 0 1000 with ⟨b1, b2, b3⟩ | ⟨b1, b2, b3⟩
    · rcases in_or p2 0 p1 with ⟨c1, c2, c3⟩ | ⟨c1, c2, c3⟩
      · obtain ⟨i, hi, rfl⟩ := (rng_iff (n := 10) (by decide) (by decide)).mp a1
        have n0' : ¬ nI i < 0 := nI_pos (by omega)
        have n10 : ¬ (10 : Int32) ≤ nI i := by rw [show (10 : Int32) = nI 10 from rfl, nI_leI (by omega) (by omega)]; omega
        have hix : ix (nI i) = i := clamp_nI (by omega)
        have vin : vp_in (nI i) 10 := nI_in hi (by decide)
        have hFo : ∀ nq, FL_rule σ x (nI i) p1 p2 nq = .ok ((), xR (xI (xI (xNew σ 6 nq) 120 nq p1) 121 nq p2) 242 i nq) := by
          intro nq
          show f_X10_rule σ x nq (nI i) p1 p2 = _
          unfold f_X10_rule
          rw [a3, exb_i, b3, exb_i, c3, exb_i, if_neg n0', if_neg n10]
          unfold f_X10_rule_48
          rw [hix]; rfl
        have hMo : f_X11_rule μ (nI i) p1 p2 = mI (mI (mI (mI μ 0 0 0) 63 i (bz 1)) 64 i p1) 65 i p2 := by
          unfold f_X11_rule
          rw [a2, if_neg i_1ne0, b2, if_neg i_1ne0, c2, if_neg i_1ne0]
          unfold f_X11_rule_36
          rw [if_pos rfl, hix]
        refine ⟨fun nq hq => ?_, no_er hFo, ?_, fun nq f hq hq0 => cl_oV (hFo nq) hMo rfl (rule_rep hq hq0 hi h hG) f⟩
        · unfold of_X10_rule
          rw [a3, exo_i, b3, exo_i, c3, exo_i]
          refine ⟨fun _ => trivial, fun _ => ⟨fun _ => trivial, fun _ => ⟨⟨by rw [new_xk, if_pos rfl], trivial⟩, vin, ?_, trivial⟩⟩⟩
          show xk (xNew σ 6 nq) nq = 6
          rw [new_xk, if_pos rfl]
        · unfold of_X11_rule
          rw [a2, b2, c2]
          exact ⟨fun z => absurd z i_1ne0, fun _ => ⟨fun z => absurd z i_1ne0, fun _ => ⟨fun z => absurd z i_1ne0, fun _ => ⟨fun _ => ⟨vin, vin, vin, trivial⟩, fun _ => trivial⟩⟩⟩⟩
      · have hFe : ∀ nq, FL_rule σ x p0 p1 p2 nq = .error 1 := fun nq => by simp [FL_rule, f_X10_rule, a3, b3, c3, exb_i, exb_e]
        have hMe : f_X11_rule μ p0 p1 p2 = mI μ 0 0 1 := by simp [f_X11_rule, f_X11_rule_36, a2, b2, c2]
        exact ⟨fun nq _ => by simp [of_X10_rule, a3, b3, c3, exo_i, exo_e], is_er hFe rfl, by simp [of_X11_rule, of_X11_rule_36, oif, a2, b2, c2], fun nq f _ _ => cl_eV hFe hMe (fr_refl μ) d1 hh nq f⟩
    · have hFe : ∀ nq, FL_rule σ x p0 p1 p2 nq = .error 1 := fun nq => by simp [FL_rule, f_X10_rule, a3, b3, exb_i, exb_e]
      have hMe : f_X11_rule μ p0 p1 p2 = mI μ 0 0 1 := by simp [f_X11_rule, f_X11_rule_36, a2, b2]
      exact ⟨fun nq _ => by simp [of_X10_rule, a3, b3, exo_i, exo_e], is_er hFe rfl, by simp [of_X11_rule, of_X11_rule_36, oif, a2, b2], fun nq f _ _ => cl_eV hFe hMe (fr_refl μ) d1 hh nq f⟩
  · have hFe : ∀ nq, FL_rule σ x p0 p1 p2 nq = .error 1 := fun nq => by simp [FL_rule, f_X10_rule, a3, exb_e]
    have hMe : f_X11_rule μ p0 p1 p2 = mI μ 0 0 1 := by simp [f_X11_rule, f_X11_rule_36, a2]
    exact ⟨fun nq _ => by simp [of_X10_rule, a3, exo_e], is_er hFe rfl, by simp [of_X11_rule, of_X11_rule_36, oif, a2], fun nq f _ _ => cl_eV hFe hMe (fr_refl μ) d1 hh nq f⟩
