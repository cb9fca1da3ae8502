/-! ===== how bridges end ===== -/
theorem cl_eI {cd : Nat → Int32} {r : Nat → Except Nat (Int32 × XS)} {k : Nat} {t : Int32} {σ : XS} {x : Nat} {μ μ1 : MS} {M : Int32 × MS} (hF : ∀ nq, r nq = .error k) (hM : M = (0, mI μ1 0 0 t)) (hg : Fr μ μ1) (ht : cd k = t) (h0 : t ≠ 0) (hh : Rep σ x μ) (nq : Nat) (f : Nat → Int64) : f_X11_thrown M.2 = (hR cd cvI (r nq) f σ).1 ∧ ((hR cd cvI (r nq) f σ).1 = 0 → (hR cd cvI (r nq) f σ).2.1 0 = (M.1).toInt64) ∧ Rep (hR cd cvI (r nq) f σ).2.2 x M.2 := by
  rw [hR_e (hF nq), hM]
  exact ⟨(thr_at _ _).trans ht.symm, fun z => absurd (ht.symm.trans z) h0, rep_fr hh (fr_thr2 hg t)⟩
theorem cl_eV {cd : Nat → Int32} {r : Nat → Except Nat (Unit × XS)} {k : Nat} {t : Int32} {σ : XS} {x : Nat} {μ μ1 : MS} {M : MS} (hF : ∀ nq, r nq = .error k) (hM : M = mI μ1 0 0 t) (hg : Fr μ μ1) (ht : cd k = t) (hh : Rep σ x μ) (nq : Nat) (f : Nat → Int64) : f_X11_thrown M = (hR cd cvV (r nq) f σ).1 ∧ Rep (hR cd cvV (r nq) f σ).2.2 x M := by
  rw [hR_e (hF nq), hM]
  exact ⟨(thr_at _ _).trans ht.symm, rep_fr hh (fr_thr2 hg t)⟩
theorem cl_eL {cd : Nat → Int32} {r : Nat → Except Nat (Int64 × XS)} {k : Nat} {t : Int32} {σ : XS} {x : Nat} {μ μ1 : MS} {M : Int64 × MS} (hF : ∀ nq, r nq = .error k) (hM : M = (0, mI μ1 0 0 t)) (hg : Fr μ μ1) (ht : cd k = t) (h0 : t ≠ 0) (hh : Rep σ x μ) (nq : Nat) (f : Nat → Int64) : f_X11_thrown M.2 = (hR cd cvL (r nq) f σ).1 ∧ ((hR cd cvL (r nq) f σ).1 = 0 → (hR cd cvL (r nq) f σ).2.1 0 = M.1) ∧ Rep (hR cd cvL (r nq) f σ).2.2 x M.2 := by
  rw [hR_e (hF nq), hM]
  exact ⟨(thr_at _ _).trans ht.symm, fun z => absurd (ht.symm.trans z) h0, rep_fr hh (fr_thr2 hg t)⟩
theorem cl_eZ {cd : Nat → Int32} {r : Nat → Except Nat (Int32 × XS)} {k : Nat} {t : Int32} {σ : XS} {x : Nat} {μ μ1 : MS} {M : Int32 × MS} (hF : ∀ nq, r nq = .error k) (hM : M = (0, mI μ1 0 0 t)) (hg : Fr μ μ1) (ht : cd k = t) (h0 : t ≠ 0) (hh : Rep σ x μ) (nq : Nat) (f : Nat → Int64) : f_X11_thrown M.2 = (hR cd cvZ (r nq) f σ).1 ∧ ((hR cd cvZ (r nq) f σ).1 = 0 → (hR cd cvZ (r nq) f σ).2.1 0 = (if M.1 = 0 then 0 else 1)) ∧ Rep (hR cd cvZ (r nq) f σ).2.2 x M.2 := by
  rw [hR_e (hF nq), hM]
  exact ⟨(thr_at _ _).trans ht.symm, fun z => absurd (ht.symm.trans z) h0, rep_fr hh (fr_thr2 hg t)⟩
theorem cl_oI {cd : Nat → Int32} {r : Except Nat (Int32 × XS)} {v : Int32} {σ τ : XS} {x : Nat} {M : Int32 × MS} {μ' : MS} (hF : r = .ok (v, τ)) (hM : M = (v, μ')) (ht : mi μ' 0 0 = 0) (hh : Rep τ x μ') (f : Nat → Int64) : f_X11_thrown M.2 = (hR cd cvI r f σ).1 ∧ ((hR cd cvI r f σ).1 = 0 → (hR cd cvI r f σ).2.1 0 = (M.1).toInt64) ∧ Rep (hR cd cvI r f σ).2.2 x M.2 := by
  rw [hR_o hF, hM]
  exact ⟨ht, fun _ => cvI_0 v f, hh⟩
theorem cl_oV {cd : Nat → Int32} {r : Except Nat (Unit × XS)} {σ τ : XS} {x : Nat} {M : MS} {μ' : MS} (hF : r = .ok ((), τ)) (hM : M = μ') (ht : mi μ' 0 0 = 0) (hh : Rep τ x μ') (f : Nat → Int64) : f_X11_thrown M = (hR cd cvV r f σ).1 ∧ Rep (hR cd cvV r f σ).2.2 x M := by
  rw [hR_o hF, hM]
  exact ⟨ht, hh⟩
theorem cl_oL {cd : Nat → Int32} {r : Except Nat (Int64 × XS)} {v : Int64} {σ τ : XS} {x : Nat} {M : Int64 × MS} {μ' : MS} (hF : r = .ok (v, τ)) (hM : M = (v, μ')) (ht : mi μ' 0 0 = 0) (hh : Rep τ x μ') (f : Nat → Int64) : f_X11_thrown M.2 = (hR cd cvL r f σ).1 ∧ ((hR cd cvL r f σ).1 = 0 → (hR cd cvL r f σ).2.1 0 = M.1) ∧ Rep (hR cd cvL r f σ).2.2 x M.2 := by
  rw [hR_o hF, hM]
  exact ⟨ht, fun _ => cvL_0 v f, hh⟩
theorem cl_oZ {cd : Nat → Int32} {r : Except Nat (Int32 × XS)} {v : Int32} {σ τ : XS} {x : Nat} {M : Int32 × MS} {μ' : MS} (hF : r = .ok (v, τ)) (hM : M = (v, μ')) (ht : mi μ' 0 0 = 0) (hh : Rep τ x μ') (f : Nat → Int64) : f_X11_thrown M.2 = (hR cd cvZ r f σ).1 ∧ ((hR cd cvZ r f σ).1 = 0 → (hR cd cvZ r f σ).2.1 0 = (if M.1 = 0 then 0 else 1)) ∧ Rep (hR cd cvZ r f σ).2.2 x M.2 := by
  rw [hR_o hF, hM]
  exact ⟨ht, fun _ => cvZ_0 v f, hh⟩
theorem no_er {α : Type} {r : Nat → Except Nat α} {v : Nat → α} {P : Nat → Prop} (hF : ∀ nq, r nq = .ok (v nq)) : ∀ nq k, r nq = .error k → P k := fun nq k hk => by
  rw [hF nq] at hk
  cases hk
theorem is_er {α : Type} {r : Nat → Except Nat α} {k0 : Nat} {P : Nat → Prop} (hF : ∀ nq, r nq = .error k0) (h : P k0) : ∀ nq k, r nq = .error k → P k := fun nq k hk => by
  rw [hF nq] at hk
  cases hk
  exact h
/-! ===== camera ===== -/
theorem sig_add {σ σ' : XS} {n0 q : Nat} {c ni se le li : Int32} (e : ∀ k, k < n0 → xe σ' 0 k = xe σ 0 k) (ek : xk σ' q = xk σ q) (ei : ∀ c, xi σ' c q = xi σ c q) (er : xr σ' 140 q = xr σ 140 q) (h : RSig σ n0 q c ni se le li) : RSig σ' (n0 + 1) q c ni se le li := by
  obtain ⟨h1, ⟨k, k1, k2, k3⟩, h3, h4, h5, h6, h7⟩ := h
  exact ⟨ek.trans h1, ⟨k, by omega, k2, by rw [er, e k k1]; exact k3⟩, (ei _).trans h3, (ei _).trans h4, (ei _).trans h5, (ei _).trans h6, h7⟩
theorem camera_rep {σ : XS} {x : Nat} {μ : MS} {n0 n1 n2 n4 n5 n6 nq : Nat} {t p0 p1 p2 : Int32} (hq : xk σ nq = 0) (hn : n0 < 10) (r0 : rng 0 99 p0) (r1 : rng 0 99 p1) (r2 : rng (-99) 99 p2) (h : Rep0 σ x μ n0 n1 n2 n4 n5 n6) (hG : RG σ n2 (sdt μ n2)) : Rep (xAdd (xI (xI (xI (xNew σ 1 nq) 20 nq p0) 21 nq p1) 22 nq p2) 0 nq) x (mI (mI (mI (mI (mI μ 0 0 t) 2 n0 p0) 3 n0 p1) 4 n0 p2) 1 0 (nI n0 + 1)) := by
  have g : Agr σ (xI (xI (xI (xNew σ 1 nq) 20 nq p0) 21 nq p1) 22 nq p2) := agr_I (agr_I (agr_I (agr_new hq (by omega)) hq (by omega)) hq (by omega)) hq (by omega)
  have hsdt : sdt (mI (mI (mI (mI (mI μ 0 0 t) 2 n0 p0) 3 n0 p1) 4 n0 p2) 1 0 (nI n0 + 1)) n2 = sdt μ n2 := by
    funext k j
    show sdt (mI (mI (mI μ 2 n0 p0) 3 n0 p1) 4 n0 p2) n2 k j = sdt μ n2 k j
    unfold sdt
    by_cases hk : k < n2
    · rw [if_pos hk, if_pos hk]
      obtain ⟨⟨-, ⟨c, k1, k2, -⟩, -⟩, -⟩ := h.2.2.2.2.1.2.2.2 k hk
      have hix : ix (mi μ 14 k) = c := by rw [k2]; exact clamp_nI (by omega)
      have e14 : mi (mI (mI (mI μ 2 n0 p0) 3 n0 p1) 4 n0 p2) 14 k = mi μ 14 k := rfl
      have e2 : mi (mI (mI (mI μ 2 n0 p0) 3 n0 p1) 4 n0 p2) 2 c = mi μ 2 c := by
        show mi (mI μ 2 n0 p0) 2 c = _
        rw [mi_at, if_neg (by omega)]
      have e3 : mi (mI (mI (mI μ 2 n0 p0) 3 n0 p1) 4 n0 p2) 3 c = mi μ 3 c := by
        show mi (mI (mI μ 2 n0 p0) 3 n0 p1) 3 c = _
        rw [mi_at, if_neg (by omega)]; rfl
      have e4 : mi (mI (mI (mI μ 2 n0 p0) 3 n0 p1) 4 n0 p2) 4 c = mi μ 4 c := by
        rw [mi_at, if_neg (by omega)]; rfl
      rw [e14, hix, e2, e3, e4]
      rfl
    · rw [if_neg hk, if_neg hk]
  have h1 := agr_rep g h
  have hG1 := agr_rg g (rep_l2 h).1 (rep_l2 h).2 hG
  have f1 := lst_fresh (h.2.1.2.2.1) hq (by decide)
  have hk1 : xk (xI (xI (xI (xNew σ 1 nq) 20 nq p0) 21 nq p1) 22 nq p2) nq = 1 := by
    show xk (xNew σ 1 nq) nq = 1
    rw [new_xk, if_pos rfl]
  have v0 : xi (xI (xI (xI (xNew σ 1 nq) 20 nq p0) 21 nq p1) 22 nq p2) 20 nq = p0 := by
    rw [xI_z (Or.inl (by decide)), xI_z (Or.inl (by decide)), xi_at, if_pos rfl]
  have v1 : xi (xI (xI (xI (xNew σ 1 nq) 20 nq p0) 21 nq p1) 22 nq p2) 21 nq = p1 := by
    rw [xI_z (Or.inl (by decide)), xi_at, if_pos rfl]
  have v2 : xi (xI (xI (xI (xNew σ 1 nq) 20 nq p0) 21 nq p1) 22 nq p2) 22 nq = p2 := by
    rw [xi_at, if_pos rfl]
  have hf1 : ∀ i, i < n0 → xe (xI (xI (xI (xNew σ 1 nq) 20 nq p0) 21 nq p1) 22 nq p2) 0 i ≠ nq := f1
  obtain ⟨σ1, e1⟩ : ∃ z, xI (xI (xI (xNew σ 1 nq) 20 nq p0) 21 nq p1) 22 nq p2 = z := ⟨_, rfl⟩
  rw [e1] at h1 hG1 hk1 v0 v1 v2 hf1 ⊢
  obtain ⟨a0, ac, al, ab, as', aw, ak, at', ala, an, ar, a3, x5, x6, x9⟩ := h1
  obtain ⟨c1, c2, c3, c4⟩ := ac
  have hxe : ∀ k, k < n0 → xe (xAdd σ1 0 nq) 0 k = xe σ1 0 k := fun k hk => add_xe (Or.inr (by rw [c3.1]; omega))
  have hlast : xe (xAdd σ1 0 nq) 0 n0 = nq := by have := add_last σ1 0 nq; rw [c3.1] at this; exact this
  refine ⟨n0 + 1, n1, n2, n4, n5, n6, ⟨a0, ⟨by omega, ?_, add_lst c3 hk1 hf1, fun i hi => ?_⟩, ?_, ?_, ?_, aw, ak, at', ala, an, ar, a3, x5, x6, x9⟩, ?_⟩
  · rw [mi_at, if_pos rfl, nI_succ]
  · have m2 : mi (mI (mI (mI (mI (mI μ 0 0 t) 2 n0 p0) 3 n0 p1) 4 n0 p2) 1 0 (nI n0 + 1)) 2 i = if i = n0 then p0 else mi μ 2 i := by
      show mi (mI (mI μ 0 0 t) 2 n0 p0) 2 i = _
      rw [mi_at]; rfl
    have m3 : mi (mI (mI (mI (mI (mI μ 0 0 t) 2 n0 p0) 3 n0 p1) 4 n0 p2) 1 0 (nI n0 + 1)) 3 i = if i = n0 then p1 else mi μ 3 i := by
      show mi (mI (mI (mI μ 0 0 t) 2 n0 p0) 3 n0 p1) 3 i = _
      rw [mi_at]; rfl
    have m4 : mi (mI (mI (mI (mI (mI μ 0 0 t) 2 n0 p0) 3 n0 p1) 4 n0 p2) 1 0 (nI n0 + 1)) 4 i = if i = n0 then p2 else mi μ 4 i := by
      show mi (mI (mI (mI (mI μ 0 0 t) 2 n0 p0) 3 n0 p1) 4 n0 p2) 4 i = _
      rw [mi_at]; rfl
    rw [m2, m3, m4]
    by_cases ci : i = n0
    · rw [if_pos ci, if_pos ci, if_pos ci, ci, hlast]
      exact ⟨v0, v1, v2, r0, r1, r2⟩
    · rw [if_neg ci, if_neg ci, if_neg ci, hxe i (by omega)]
      exact c4 i (by omega)
  · obtain ⟨l1, l2, l3, l4, l5⟩ := al
    refine ⟨l1, l2, l3, fun i hi => ?_, l5⟩
    obtain ⟨c, d1, d2, d3, d4⟩ := l4 i hi
    exact ⟨c, by omega, d2, by rw [hxe c d1]; exact d3, d4⟩
  · rcases ab with ⟨b1, b2⟩ | ⟨b1, b2, b3⟩
    · exact Or.inl ⟨b1, b2⟩
    · exact Or.inr ⟨b1, b2, sig_add hxe rfl (fun _ => rfl) rfl b3⟩
  · obtain ⟨l1, l2, l3, l4⟩ := as'
    refine ⟨l1, l2, l3, fun i hi => ?_⟩
    obtain ⟨d1, d2⟩ := l4 i hi
    exact ⟨sig_add hxe rfl (fun _ => rfl) rfl d1, d2⟩
  · rw [hsdt]; exact hG1
theorem br_camera : Br_camera Rep := by
  intro σ x μ p0 p1 p2 hh
  obtain ⟨n0, n1, n2, n4, n5, n6, h, hG⟩ := id hh
  obtain ⟨c1, c2, c3, c4⟩ := id h.2.1
  have i1 : ¬ (1 : Int32) ≤ 0 := by decide
  have i2 : ¬ (2 : Int32) ≤ 0 := by decide
  have d1 : cd_camera 1 = 1 := by decide
  have d2 : cd_camera 2 = 2 := by decide
  have bad : (¬ rng 0 99 p0 ∨ ¬ rng 0 99 p1 ∨ ¬ rng (-99) 99 p2) → (∀ nq, FL_camera σ x p0 p1 p2 nq = .error 1) ∧ f_X11_camera μ p0 p1 p2 = (0, mI μ 0 0 1) ∧ (∀ nq, of_X10_camera σ x nq p0 p1 p2) ∧ of_X11_camera μ p0 p1 p2 := by
    intro hb
    rcases in_or p0 0 99 with ⟨a1, a2, a3⟩ | ⟨a1, a2, a3⟩
    · rcases in_or p1 0 99 with ⟨b1, b2, b3⟩ | ⟨b1, b2, b3⟩
      · rcases in_or p2 (-99) 99 with ⟨e1, e2, e3⟩ | ⟨e1, e2, e3⟩
        · exact absurd hb (by simp [a1, b1, e1])
        · exact ⟨fun nq => by simp [FL_camera, f_X10_camera, f_X10_requireCell, a3, b3, e3, exb_i, exb_e], by simp [f_X11_camera, f_X11_camera_36, f_X11_camera_62, a2, b2, e2, i1], fun nq => by simp [of_X10_camera, f_X10_requireCell, a3, b3, e3, exb_i, exo_i, exo_e], by simp [of_X11_camera, of_X11_camera_36, of_X11_camera_62, oif, a2, b2, e2, i1]⟩
      · exact ⟨fun nq => by simp [FL_camera, f_X10_camera, f_X10_requireCell, a3, b3, exb_i, exb_e], by simp [f_X11_camera, f_X11_camera_36, f_X11_camera_62, a2, b2, i1], fun nq => by simp [of_X10_camera, f_X10_requireCell, a3, b3, exb_i, exb_e, exo_e], by simp [of_X11_camera, of_X11_camera_36, of_X11_camera_62, oif, a2, b2, i1]⟩
    · exact ⟨fun nq => by simp [FL_camera, f_X10_camera, f_X10_requireCell, a3, exb_e], by simp [f_X11_camera, f_X11_camera_36, f_X11_camera_62, a2, i1], fun nq => by simp [of_X10_camera, f_X10_requireCell, a3, exb_e, exo_e], by simp [of_X11_camera, of_X11_camera_36, of_X11_camera_62, oif, a2, i1]⟩
  rcases in_or p0 0 99 with ⟨a1, a2, a3⟩ | ⟨a1, a2, a3⟩
  · rcases in_or p1 0 99 with ⟨b1, b2, b3⟩ | ⟨b1, b2, b3⟩
    · rcases in_or p2 (-99) 99 with ⟨e1, e2, e3⟩ | ⟨e1, e2, e3⟩
      · have hcell : f_X10_requireCell p0 p1 = .ok () := by simp [f_X10_requireCell, a3, b3, exb_i]
        have hM36 : f_X11_camera μ p0 p1 p2 = f_X11_camera_36 μ p0 p1 p2 1 := by simp [f_X11_camera, a2, b2, e2]
        have hO36 : of_X11_camera_36 μ p0 p1 p2 1 → of_X11_camera μ p0 p1 p2 := fun z => by simp [of_X11_camera, oif, a2, b2, e2, z]
        by_cases hn : n0 < 10
        · have n10 : nI n0 < 10 := by rw [show (10 : Int32) = nI 10 from rfl, nI_ltI (by omega) (by omega)]; exact hn
          have m10 : ¬ mi μ 1 0 = 10 := by rw [c2, show (10 : Int32) = nI 10 from rfl, nI_eq (by omega) (by omega)]; omega
          have hix : ix (nI n0) = n0 := clamp_nI (by omega)
          have vin : vp_in (nI n0) 10 := nI_in hn (by decide)
          have hF : ∀ nq, FL_camera σ x p0 p1 p2 nq = .ok (nI n0, xAdd (xI (xI (xI (xNew σ 1 nq) 20 nq p0) 21 nq p1) 22 nq p2) 0 nq) := by
            intro nq
            show f_X10_camera σ x nq p0 p1 p2 = _
            unfold f_X10_camera
            rw [hcell, exb_i, e3, exb_i, c3.1, if_pos n10]
            show Except.ok ((nI (xn (xAdd (xI (xI (xI (xNew σ 1 nq) 20 nq p0) 21 nq p1) 22 nq p2) 0 nq) 0)) - 1, _) = _
            rw [add_xn]
            show Except.ok ((nI (xn σ 0 + 1)) - 1, _) = _
            rw [c3.1, nI_pred]
            rfl
          have hM : f_X11_camera μ p0 p1 p2 = (nI n0, mI (mI (mI (mI (mI μ 0 0 0) 2 n0 p0) 3 n0 p1) 4 n0 p2) 1 0 (nI n0 + 1)) := by
            rw [hM36]
            unfold f_X11_camera_36
            rw [if_neg i_1ne0, if_neg m10]
            unfold f_X11_camera_62
            rw [if_pos (by decide), c2, hix, ← nI_succ, nI_pred]
          refine ⟨fun nq hq => ?_, no_er hF, hO36 ?_, fun nq f hq hq0 => cl_oI (hF nq) hM rfl (camera_rep hq hn a1 b1 e1 h hG) f⟩
          · unfold of_X10_camera
            rw [hcell, exo_i, e3, exo_i, c3.1]
            refine ⟨fun _ => ⟨⟨by rw [new_xk, if_pos rfl], trivial⟩, ⟨by show xk (xNew σ 1 nq) nq = 1; rw [new_xk, if_pos rfl], by show xn σ 0 ≤ 100; rw [c3.1]; omega, fun i hi => ?_, trivial⟩⟩, fun z => absurd n10 z⟩
            have hi : i < n0 := by have : i < xn σ 0 := hi; rw [c3.1] at this; exact this
            show xk (xNew σ 1 nq) (xe σ 0 i) = 1
            rw [new_xk, if_neg (lst_fresh c3 hq (by decide) i hi)]
            exact c3.2.1 i hi
          · exact ⟨fun z => absurd z i_1ne0, fun _ => ⟨fun z => absurd z m10, fun _ => ⟨fun _ => ⟨by rw [c2]; exact vin, by show vp_in (mi μ 1 0) 10; rw [c2]; exact vin, by show vp_in (mi μ 1 0) 10; rw [c2]; exact vin, trivial⟩, fun _ => trivial⟩⟩⟩
        · have n10 : ¬ nI n0 < 10 := by rw [show (10 : Int32) = nI 10 from rfl, nI_ltI (by omega) (by omega)]; exact hn
          have m10 : mi μ 1 0 = 10 := by rw [c2, show n0 = 10 from by omega]; rfl
          have hF : ∀ nq, FL_camera σ x p0 p1 p2 nq = .error 2 := by
            intro nq
            show f_X10_camera σ x nq p0 p1 p2 = _
            unfold f_X10_camera
            rw [hcell, exb_i, e3, exb_i, c3.1, if_neg n10]
          have hM : f_X11_camera μ p0 p1 p2 = (0, mI μ 0 0 2) := by
            rw [hM36]
            unfold f_X11_camera_36
            rw [if_neg i_1ne0, if_pos m10]
            unfold f_X11_camera_62
            rw [if_neg i2]
          refine ⟨fun nq hq => ?_, is_er hF (Or.inr rfl), hO36 ?_, fun nq f _ _ => cl_eI hF hM (fr_refl μ) d2 (by decide) hh nq f⟩
          · unfold of_X10_camera
            rw [hcell, exo_i, e3, exo_i, c3.1]
            exact ⟨fun z => absurd z n10, fun _ => trivial⟩
          · exact ⟨fun z => absurd z i_1ne0, fun _ => ⟨fun _ => ⟨fun z => absurd z i2, fun _ => trivial⟩, fun z => absurd m10 z⟩⟩
      · obtain ⟨hF, hM, ho, hO⟩ := bad (Or.inr (Or.inr e1))
        exact ⟨fun nq _ => ho nq, is_er hF (Or.inl rfl), hO, fun nq f _ _ => cl_eI hF hM (fr_refl μ) d1 (by decide) hh nq f⟩
    · obtain ⟨hF, hM, ho, hO⟩ := bad (Or.inr (Or.inl b1))
      exact ⟨fun nq _ => ho nq, is_er hF (Or.inl rfl), hO, fun nq f _ _ => cl_eI hF hM (fr_refl μ) d1 (by decide) hh nq f⟩
  · obtain ⟨hF, hM, ho, hO⟩ := bad (Or.inl a1)
    exact ⟨fun nq _ => ho nq, is_er hF (Or.inl rfl), hO, fun nq f _ _ => cl_eI hF hM (fr_refl μ) d1 (by decide) hh nq f⟩
