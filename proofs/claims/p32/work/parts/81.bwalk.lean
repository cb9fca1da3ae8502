/-! ===== walk ===== -/
theorem walked_i {ρ : XS} {x : Nat} {μ : MS} {n5 : Nat} (h : RWal ρ μ n5) (p a b : Int32) : of_X10_wasWalked ρ x p a b ∧ (((∃ k, k < n5 ∧ mi μ 40 k = p ∧ mi μ 41 k = a ∧ mi μ 42 k = b) ∧ f_X10_wasWalked ρ x p a b = 1) ∨ ((¬ ∃ k, k < n5 ∧ mi μ 40 k = p ∧ mi μ 41 k = a ∧ mi μ 42 k = b) ∧ f_X10_wasWalked ρ x p a b = 0)) := by
  obtain ⟨h60, -, ⟨hx, hk, -⟩, hf⟩ := h
  have st : ∀ (k : Nat) (w : Int32), k < n5 → w = nI k → ob_X10_wasWalked_3 x p a b ρ w ∧ b_X10_wasWalked_3 x p a b ρ w = if (mi μ 40 k = p ∧ mi μ 41 k = a ∧ mi μ 42 k = b) then (false, (nI k, some 1)) else (true, (nI (k + 1), none)) := by
    intro k w hk2 hw
    have hix : ix (nI k) = k := clamp_nI (by omega)
    have c1 : ¬ nI n5 ≤ nI k := by rw [nI_leI (by omega) (by omega)]; omega
    have kk := hk k hk2
    obtain ⟨r1, r2, r3, -⟩ := hf k hk2
    unfold ob_X10_wasWalked_3 b_X10_wasWalked_3 f_X8_isThrough
    rw [hw, hx, hix, if_neg c1, r1, r2, r3, nI_1]
    refine ⟨⟨fun _ => trivial, fun _ => ⟨nI_in hk2 (by omega), kk, ⟨kk, trivial⟩, trivial⟩⟩, ?_⟩
    by_cases c : mi μ 40 k = p ∧ mi μ 41 k = a ∧ mi μ 42 k = b
    · rw [if_pos c.1, if_pos c.2.1, if_pos c.2.2, if_neg i_1ne0, if_pos c]
    · have z : (if mi μ 40 k = p then (if mi μ 41 k = a then (if mi μ 42 k = b then (1 : Int32) else 0) else 0) else 0) = 0 := by
        by_cases d1 : mi μ 40 k = p
        · by_cases d2 : mi μ 41 k = a
          · rw [if_pos d1, if_pos d2, if_neg (fun d3 => c ⟨d1, d2, d3⟩)]
          · rw [if_pos d1, if_neg d2]
        · rw [if_neg d1]
      rw [z, if_pos rfl, if_neg c]
  have main := itr_find (f := s_X10_wasWalked_3 x p a b ρ) (o := os_X10_wasWalked_3 x p a b ρ) (fun k v => v.1 = nI k) (fun k => mi μ 40 k = p ∧ mi μ 41 k = a ∧ mi μ 42 k = b) (fun k => (nI k, some 1)) (nI n5, none) (n := n5) (by
    rintro k ⟨w, o⟩ hk2 hw hq
    obtain ⟨s1, s2⟩ := st k w hk2 hw
    rw [if_neg hq] at s2
    exact ⟨s1, _, s2, rfl⟩) (by
    rintro k ⟨w, o⟩ hk2 hw hq
    obtain ⟨s1, s2⟩ := st k w hk2 hw
    rw [if_pos hq] at s2
    exact ⟨s1, s2⟩) (by
    rintro ⟨w, o⟩ hw
    have hw : w = nI n5 := hw
    show ob_X10_wasWalked_3 x p a b ρ w ∧ b_X10_wasWalked_3 x p a b ρ w = _
    unfold ob_X10_wasWalked_3 b_X10_wasWalked_3
    rw [hw, hx, if_pos (Int32.le_refl _)]
    exact ⟨⟨fun _ => trivial, fun z => absurd (Int32.le_refl _) z⟩, rfl⟩) FU 0 (0, none) (Nat.zero_le _) (by show n5 - 0 < 100000; omega) rfl
  obtain ⟨m1, m2⟩ := main
  have fe : f_X10_wasWalked ρ x p a b = lret (itr (s_X10_wasWalked_3 x p a b ρ) FU (0, none)).2 0 := by
    unfold f_X10_wasWalked f_X10_wasWalked_3 f_X10_wasWalked_48
    rfl
  rw [fe]
  rcases m2 with ⟨j, -, j2, j3, -, j5⟩ | ⟨j1, j2⟩
  · exact ⟨⟨m1, by rw [j5]; exact trivial⟩, Or.inl ⟨⟨j, j2, j3⟩, by rw [j5]; rfl⟩⟩
  · exact ⟨⟨m1, by rw [j2]; exact trivial⟩, Or.inr ⟨fun ⟨k, k1, k2⟩ => j1 k (Nat.zero_le _) k1 k2, by rw [j2]; rfl⟩⟩
def wk (σ : XS) (nq : Nat) (p a b c fl : Int32) : XS := xI (xI (xI (xI (xI (xNew σ 9 nq) 180 nq p) 181 nq a) 182 nq b) 183 nq c) 184 nq fl
def addW (μ : MS) (n5 : Nat) (p a b c : Int32) : MS := mI (mI (mI (mI (mI μ 40 n5 p) 41 n5 a) 42 n5 b) 43 n5 c) 39 0 (nI n5 + 1)
theorem walk_rep {σ : XS} {x : Nat} {μ : MS} {n0 n1 n2 n4 n5 n6 nq : Nat} {p a b c fl : Int32} (hq : xk σ nq = 0) (hn : n5 < 60) (ra : rng 0 99 a) (rb : rng 0 99 b) (rc : rng 1 100 c) (hfl : (fl = 0 ∧ ∃ k, k < n5 ∧ mi μ 40 k = p ∧ mi μ 41 k = a ∧ mi μ 42 k = b) ∨ (fl = 1 ∧ ¬ ∃ k, k < n5 ∧ mi μ 40 k = p ∧ mi μ 41 k = a ∧ mi μ 42 k = b)) (h : Rep0 σ x μ n0 n1 n2 n4 n5 n6) (hG : RG σ n2 (sdt μ n2)) : Rep0 (xAdd (wk σ nq p a b c fl) 5 nq) x (addW μ n5 p a b c) n0 n1 n2 n4 (n5 + 1) n6 ∧ RG (xAdd (wk σ nq p a b c fl) 5 nq) n2 (sdt (addW μ n5 p a b c) n2) := by
  have g : Agr σ (wk σ nq p a b c fl) := agr_I (agr_I (agr_I (agr_I (agr_I (agr_new hq (by omega)) hq (by omega)) hq (by omega)) hq (by omega)) hq (by omega)) hq (by omega)
  have h1 := agr_rep g h
  have hG1 := agr_rg g (rep_l2 h).1 (rep_l2 h).2 hG
  have f1 := lst_fresh (h.2.2.2.2.2.2.1.2.2.1) hq (by decide)
  have hf1 : ∀ i, i < n5 → xe (wk σ nq p a b c fl) 5 i ≠ nq := f1
  have hk1 : xk (wk σ nq p a b c fl) nq = 9 := by
    show xk (xNew σ 9 nq) nq = 9
    rw [new_xk, if_pos rfl]
  have v0 : xi (wk σ nq p a b c fl) 180 nq = p := by
    unfold wk
    rw [xI_z (Or.inl (by decide)), xI_z (Or.inl (by decide)), xI_z (Or.inl (by decide)), xI_z (Or.inl (by decide)), xi_at, if_pos rfl]
  have v1 : xi (wk σ nq p a b c fl) 181 nq = a := by
    unfold wk
    rw [xI_z (Or.inl (by decide)), xI_z (Or.inl (by decide)), xI_z (Or.inl (by decide)), xi_at, if_pos rfl]
  have v2 : xi (wk σ nq p a b c fl) 182 nq = b := by
    unfold wk
    rw [xI_z (Or.inl (by decide)), xI_z (Or.inl (by decide)), xi_at, if_pos rfl]
  have v3 : xi (wk σ nq p a b c fl) 183 nq = c := by
    unfold wk
    rw [xI_z (Or.inl (by decide)), xi_at, if_pos rfl]
  have v4 : xi (wk σ nq p a b c fl) 184 nq = fl := by
    unfold wk
    rw [xi_at, if_pos rfl]
  obtain ⟨σ1, e1⟩ : ∃ z, wk σ nq p a b c fl = z := ⟨_, rfl⟩
  rw [e1] at h1 hG1 hk1 v0 v1 v2 v3 v4 hf1 ⊢
  obtain ⟨a0, ac, al, ab, as', aw, ak, at', ala, an, ar, a3, x5, x6, x9⟩ := h1
  obtain ⟨c1, c2, c3, c4⟩ := ak
  have hxe : ∀ k, k < n5 → xe (xAdd σ1 5 nq) 5 k = xe σ1 5 k := fun k hk => add_xe (Or.inr (by rw [c3.1]; omega))
  have hlast : xe (xAdd σ1 5 nq) 5 n5 = nq := by have := add_last σ1 5 nq; rw [c3.1] at this; exact this
  obtain ⟨μ', eμ⟩ : ∃ z, addW μ n5 p a b c = z := ⟨_, rfl⟩
  have m40 : ∀ i, mi μ' 40 i = if i = n5 then p else mi μ 40 i := fun i => by
    rw [← eμ]
    show mi (mI μ 40 n5 p) 40 i = _
    rw [mi_at]
  have m41 : ∀ i, mi μ' 41 i = if i = n5 then a else mi μ 41 i := fun i => by
    rw [← eμ]
    show mi (mI (mI μ 40 n5 p) 41 n5 a) 41 i = _
    rw [mi_at]; rfl
  have m42 : ∀ i, mi μ' 42 i = if i = n5 then b else mi μ 42 i := fun i => by
    rw [← eμ]
    show mi (mI (mI (mI μ 40 n5 p) 41 n5 a) 42 n5 b) 42 i = _
    rw [mi_at]; rfl
  have m43 : ∀ i, mi μ' 43 i = if i = n5 then c else mi μ 43 i := fun i => by
    rw [← eμ]
    show mi (mI (mI (mI (mI μ 40 n5 p) 41 n5 a) 42 n5 b) 43 n5 c) 43 i = _
    rw [mi_at]; rfl
  have m39 : mi μ' 39 0 = nI (n5 + 1) := by
    rw [← eμ, ← nI_1]
    show mi (mI (mI (mI (mI (mI μ 40 n5 p) 41 n5 a) 42 n5 b) 43 n5 c) 39 0 (nI n5 + 1)) 39 0 = _
    rw [mi_at, if_pos rfl]
  have hw' : RWal (xAdd σ1 5 nq) μ' (n5 + 1) := by
    refine ⟨by omega, m39, add_lst c3 hk1 hf1, fun i hi => ?_⟩
    have old : ∀ k, k < n5 → mi μ' 40 k = mi μ 40 k ∧ mi μ' 41 k = mi μ 41 k ∧ mi μ' 42 k = mi μ 42 k := fun k hk => by
      rw [m40, m41, m42, if_neg (by omega), if_neg (by omega), if_neg (by omega)]
      exact ⟨rfl, rfl, rfl⟩
    have ex : (∃ k, k < i ∧ mi μ' 40 k = mi μ' 40 i ∧ mi μ' 41 k = mi μ' 41 i ∧ mi μ' 42 k = mi μ' 42 i) ↔ ∃ k, k < i ∧ mi μ 40 k = mi μ' 40 i ∧ mi μ 41 k = mi μ' 41 i ∧ mi μ 42 k = mi μ' 42 i := by
      constructor
      · intro ⟨k, k1, k2⟩
        obtain ⟨o1, o2, o3⟩ := old k (by omega)
        rw [o1, o2, o3] at k2
        exact ⟨k, k1, k2⟩
      · intro ⟨k, k1, k2⟩
        obtain ⟨o1, o2, o3⟩ := old k (by omega)
        refine ⟨k, k1, ?_⟩
        rw [o1, o2, o3]
        exact k2
    rw [ex, m40 i, m41 i, m42 i, m43 i]
    by_cases ci : i = n5
    · have v4' : xi (xAdd σ1 5 nq) 184 nq = fl := v4
      rw [if_pos ci, if_pos ci, if_pos ci, if_pos ci, ci, hlast, v4']
      exact ⟨v0, v1, v2, v3, ra, rb, rc, hfl⟩
    · rw [if_neg ci, if_neg ci, if_neg ci, if_neg ci, hxe i (by omega)]
      exact c4 i (by omega)
  rw [← eμ] at hw'
  exact ⟨⟨a0, ac, al, ab, as', aw, hw', at', ala, an, ar, a3, x5, x6, x9⟩, hG1⟩
theorem chance_m {σ ρ : XS} {μ : MS} {n n4 n5 f : Nat} {s : Nat → Nat → Int32} {a b : Int32} (hms : MS1 μ n s) (hs : Sok s n) (hf : isF (JJ s n) f) (hwi : RWin σ μ n4) (hwa : RWal ρ μ n5) (ra : rng 0 99 a) (rb : rng 0 99 b) : of_X11_chanceOf μ (nI f) a b := by
  have h60 := hms.1.1
  obtain ⟨hfn, -⟩ := z_pos hs h60 hf
  obtain ⟨oM, hmf, hz⟩ := measures_i hms hs hf
  obtain ⟨μm, eμ⟩ : ∃ z, f_X11_measures μ (nI f) = z := ⟨_, rfl⟩
  rw [eμ] at hmf hz
  obtain ⟨-, -, -, -, z5, z6, -⟩ := hz
  have hwi' : RWin σ μm n4 := by rw [fr_eq (fr_mf hmf)]; exact hwi
  have hwa' : RWal ρ μm n5 := by rw [fr_eq (fr_mf hmf)]; exact hwa
  have hix : ix (nI f) = f := clamp_nI (by omega)
  have v60 : vp_in (nI f) 60 := nI_in (by omega) (by decide)
  obtain ⟨oW, rM⟩ := wof_m hwi' (mi μm 15 f)
  have A := rng_i (L := 0) (H := 99) ra rfl rfl
  have B := rng_i (L := 0) (H := 99) rb rfl rfl
  have wind : ∃ (wx wy : Int) (v2 : Int32), wx.natAbs ≤ 20 ∧ wy.natAbs ≤ 20 ∧ f_X11_windOf μm (mi μm 15 f) = v2 ∧ ((v2 = -1 ∧ wx = 0 ∧ wy = 0) ∨ ∃ j, j < 50 ∧ v2 = nI j ∧ (mi μm 37 j).toInt = wx ∧ (mi μm 38 j).toInt = wy) := by
    rcases rM with ⟨j, j1, j2, j3⟩ | ⟨-, j3⟩
    · obtain ⟨w1, w2, w3, w4, w5, w6⟩ := hwi'.2.2.2.2.1 j j1
      have w5' := rng_i (L := -20) (H := 20) w5 rfl rfl
      have w6' := rng_i (L := -20) (H := 20) w6 rfl rfl
      have h50 := hwi'.1
      exact ⟨_, _, nI j, by omega, by omega, j3, Or.inr ⟨j, by omega, rfl, rfl, rfl⟩⟩
    · exact ⟨0, 0, -1, by decide, by decide, j3, Or.inl ⟨rfl, rfl, rfl⟩⟩
  obtain ⟨wx, wy, v2, bx, by', ev, hv⟩ := wind
  obtain ⟨l1, μf, l2, l3, l4⟩ := falls_i z5 z6 bx by' hv
  have hwaf : RWal ρ μf n5 := by rw [fr_eq (fr_mf (mf_1 l3.1))]; exact hwa'
  obtain ⟨G, eG⟩ : ∃ G, sm (fun a => sm (fun b => wl μf (nI f) (nI a) (nI b) (1000000 * wsq (PP (zTx s n f) wx) (PP (zTy s n f) wy) a b) n5) 100) 100 = G := ⟨_, rfl⟩
  have hG0 : 0 ≤ G := by
    rw [← eG]
    exact sm_nn 100 (fun i _ => sm_nn 100 (fun j _ => (wl_b hwaf (nI f) (nI i) (nI j) (by have := wsq_b (PP (zTx s n f) wx) (PP (zTy s n f) wy) i j; omega) n5 (Nat.le_refl _)).1))
  obtain ⟨m1, -⟩ := mc_i hwaf l4 μ (nI f) a b rfl rfl A B eG hG0
  have efalls : f_X11_falls μ (nI f) = μf := by
    unfold f_X11_falls
    rw [eμ]
    unfold f_X11_falls_5
    rw [hix, ev]
    unfold f_X11_falls_18 f_X11_falls_116
    rw [l2]
  refine ⟨⟨oM, ?_⟩, ?_⟩
  · rw [eμ]
    unfold of_X11_falls_5
    rw [hix, ev]
    exact ⟨v60, oW, l1, trivial⟩
  · rw [efalls]; exact m1
/-- a memory of the class made up for the walks alone -/
noncomputable def mkw (μ : MS) (N : Nat) : XS := (fun _ => 9, fun c q => if c = 180 then mi μ 40 q else if c = 181 then mi μ 41 q else if c = 182 then mi μ 42 q else if c = 183 then mi μ 43 q else @ite Int32 (∃ k, k < q ∧ mi μ 40 k = mi μ 40 q ∧ mi μ 41 k = mi μ 41 q ∧ mi μ 42 k = mi μ 42 q) (Classical.propDecidable _) 0 1, fun _ _ => 0, fun _ _ => 0, fun _ => N, fun _ i => i)
theorem mkw_i {μ : MS} {N : Nat} (hN : N ≤ 60) (h39 : mi μ 39 0 = nI N) (hr : ∀ i, i < N → rng 0 99 (mi μ 41 i) ∧ rng 0 99 (mi μ 42 i) ∧ rng 1 100 (mi μ 43 i)) : RWal (mkw μ N) μ N := by
  refine ⟨hN, h39, ⟨rfl, fun i _ => rfl, fun i k _ _ z => z⟩, fun i hi => ?_⟩
  obtain ⟨r1, r2, r3⟩ := hr i hi
  refine ⟨rfl, rfl, rfl, rfl, r1, r2, r3, ?_⟩
  have e : xi (mkw μ N) 184 (xe (mkw μ N) 5 i) = @ite Int32 (∃ k, k < i ∧ mi μ 40 k = mi μ 40 i ∧ mi μ 41 k = mi μ 41 i ∧ mi μ 42 k = mi μ 42 i) (Classical.propDecidable _) 0 1 := rfl
  rw [e]
  by_cases c : ∃ k, k < i ∧ mi μ 40 k = mi μ 40 i ∧ mi μ 41 k = mi μ 41 i ∧ mi μ 42 k = mi μ 42 i
  · rw [if_pos c]; exact Or.inl ⟨rfl, c⟩
  · rw [if_neg c]; exact Or.inr ⟨rfl, c⟩
theorem br_walk : Br_walk Rep := by
  intro σ x μ p0 p1 p2 p3 hh
  obtain ⟨n0, n1, n2, n4, n5, n6, h, hG⟩ := id hh
  have h60 := h.2.2.2.2.1.1
  have h3 := h.2.2.2.2.2.2.2.2.2.2.2.1
  have hs := (rep_sx h).2
  have hwa := h.2.2.2.2.2.2.1
  have hx5 := hwa.2.2.1.1
  have d1 : cd_walk 3 = 1 := by decide
  have d2 : cd_walk 1 = 2 := by decide
  have d3 : cd_walk 2 = 3 := by decide
  have i1 : ¬ (1 : Int32) ≤ 0 := by decide
  have i2 : ¬ (2 : Int32) ≤ 0 := by decide
  have i3 : ¬ (3 : Int32) ≤ 0 := by decide
  obtain ⟨oS, hms, hfr, ht⟩ := spr_ms h
  obtain ⟨e1, e3⟩ := fb_ex (x := x) p0 h3 hG hs h60
  obtain ⟨o1, o3⟩ := isf_i hms p0
  obtain ⟨μs, eμ⟩ : ∃ z, f_X11_spreads μ = z := ⟨_, rfl⟩
  have hM0 : f_X11_walk μ p0 p1 p2 p3 = f_X11_walk_4 μ p0 p1 p2 p3 μs := by unfold f_X11_walk; rw [eμ]
  have hO0 : of_X11_walk_4 μ p0 p1 p2 p3 μs → of_X11_walk μ p0 p1 p2 p3 := fun z => ⟨oS, by rw [eμ]; exact z⟩
  rw [eμ] at hms hfr ht o1 o3
  have hRs := rep0_fr h hfr
  have h39 : mi μs 39 0 = nI n5 := hRs.2.2.2.2.2.2.1.2.1
  have h5 := hwa.1
  have t66 : ∀ t, ¬ t ≤ (0 : Int32) → f_X11_walk_66 μ p0 p1 p2 p3 t μs = (0, mI μs 0 0 t) ∧ of_X11_walk_66 μ p0 p1 p2 p3 t μs := fun t ht => ⟨if_neg ht, fun z => absurd z ht, fun _ => trivial⟩
  -- what walk_4 makes of the arguments
  have args : (rng 0 99 p1 ∧ rng 0 99 p2 ∧ rng 1 100 p3 ∧ f_X10_requireCell p1 p2 = .ok () ∧ f_X10_requireRange p3 1 100 = .ok () ∧ f_X11_walk_4 μ p0 p1 p2 p3 μs = f_X11_walk_28 μ p0 p1 p2 p3 1 μs ∧ (of_X11_walk_28 μ p0 p1 p2 p3 1 μs → of_X11_walk_4 μ p0 p1 p2 p3 μs)) ∨ ((f_X10_requireCell p1 p2 = .error 1 ∨ (f_X10_requireCell p1 p2 = .ok () ∧ f_X10_requireRange p3 1 100 = .error 1)) ∧ f_X11_walk_4 μ p0 p1 p2 p3 μs = f_X11_walk_28 μ p0 p1 p2 p3 0 μs ∧ (of_X11_walk_28 μ p0 p1 p2 p3 0 μs → of_X11_walk_4 μ p0 p1 p2 p3 μs)) := by
    unfold f_X11_walk_4 of_X11_walk_4
    rcases cell_or p1 p2 with ⟨a1, a2, a3, a4⟩ | ⟨a3, a4⟩
    · have na : ¬ f_X11_isCell p1 p2 = 0 := by rw [a3]; exact i_1ne0
      rcases in_or p3 1 100 with ⟨b1, b2, b3⟩ | ⟨b1, b2, b3⟩
      · have nb : ¬ f_X11_isIn p3 1 100 = 0 := by rw [b2]; exact i_1ne0
        exact Or.inl ⟨a1, a2, b1, a4, b3, by rw [if_neg na, if_neg nb], fun z => ⟨fun y => absurd y na, fun _ => ⟨fun y => absurd y nb, fun _ => z⟩⟩⟩
      · exact Or.inr ⟨Or.inr ⟨a4, b3⟩, by rw [if_neg na, if_pos b2], fun z => ⟨fun y => absurd y na, fun _ => ⟨fun _ => z, fun y => absurd b2 y⟩⟩⟩
    · exact Or.inr ⟨Or.inl a4, by rw [if_pos a3], fun z => ⟨fun _ => z, fun y => absurd a3 y⟩⟩
  rcases e3 with ⟨f, hf, hisf, rfl, hF, hK⟩ | ⟨hF, hno⟩
  · rcases o3 with ⟨-, -, -, -, hI⟩ | ⟨-, hno⟩
    · have hm1 : ¬ f_X11_isFireball μs (nI f) = 0 := by rw [hI]; exact i_1ne0
      rcases args with ⟨ra, rb, rc, hc1, hc2, hM4, hO4⟩ | ⟨hc, hM4, hO4⟩
      · by_cases hn : n5 < 60
        · have n60 : nI n5 < 60 := by rw [show (60 : Int32) = nI 60 from rfl, nI_ltI (by omega) (by omega)]; exact hn
          have m60 : ¬ mi μs 39 0 = 60 := by rw [h39, show (60 : Int32) = nI 60 from rfl, nI_eq (by omega) (by omega)]; omega
          have hix5 : ix (nI n5) = n5 := clamp_nI (by omega)
          have v5 : vp_in (nI n5) 60 := nI_in hn (by decide)
          obtain ⟨μ0, em⟩ : ∃ z, mI μs 0 0 0 = z := ⟨_, rfl⟩
          have hfr0 : Fr μ μ0 := by rw [← em]; exact fr_thr2 hfr 0
          have h0 := rep0_fr h hfr0
          have es : sdt μ0 n2 = sdt μ n2 := sdt_fr hfr0
          have hms0 : MS1 μ0 n2 (sdt μ n2) := by rw [← em]; exact ms_mf_thr hms
          have hG0 : RG σ n2 (sdt μ0 n2) := by rw [es]; exact hG
          have h390 : mi μ0 39 0 = nI n5 := h0.2.2.2.2.2.2.1.2.1
          -- what the class does at a fresh address
          have step : ∀ nq, xk σ nq = 0 → of_X10_wasWalked (xNew σ 9 nq) x (nI f) p1 p2 ∧ ∃ (fl : Int32) (σ2 : XS), (if f_X10_wasWalked (xNew σ 9 nq) x (nI f) p1 p2 = 0 then (1 : Int32) else 0) = fl ∧ zb fl ∧ xAdd (wk σ nq (nI f) p1 p2 p3 fl) 5 nq = σ2 ∧ Rep0 σ2 x (addW μ0 n5 (nI f) p1 p2 p3) n0 n1 n2 n4 (n5 + 1) n6 ∧ RG σ2 n2 (sdt μ n2) := by
            intro nq hq
            have hN := (agr_rep (agr_new (K := 9) hq (by omega)) h0).2.2.2.2.2.2.1
            obtain ⟨w1, w2⟩ := walked_i (x := x) hN (nI f) p1 p2
            refine ⟨w1, _, _, rfl, ?_, rfl, ?_⟩
            · split
              · exact Or.inr rfl
              · exact Or.inl rfl
            · rcases w2 with ⟨w2, w3⟩ | ⟨w2, w3⟩
              · rw [w3, if_neg i_1ne0]
                have r := walk_rep hq hn ra rb rc (Or.inl ⟨rfl, w2⟩) h0 hG0
                exact ⟨r.1, by rw [← es]; exact r.2⟩
              · rw [w3, if_pos rfl]
                have r := walk_rep hq hn ra rb rc (Or.inr ⟨rfl, w2⟩) h0 hG0
                exact ⟨r.1, by rw [← es]; exact r.2⟩
          obtain ⟨μ2, em2⟩ : ∃ z, addW μ0 n5 (nI f) p1 p2 p3 = z := ⟨_, rfl⟩
          have hms2 : MS1 μ2 n2 (sdt μ n2) := by rw [← em2]; exact ⟨hms0.1, hms0.2⟩
          have es2 : sdt μ2 n2 = sdt μ n2 := by rw [← em2]; exact es
          have ht2 : mi μ2 0 0 = 0 := by rw [← em2, ← em]; rfl
          -- both at such an address
          have both : ∀ nq, xk σ nq = 0 → of_X10_walk σ x nq (nI f) p1 p2 p3 ∧ of_X11_chanceOf μ2 (nI f) p1 p2 ∧ ∃ τ μ3 V σ2, FL_walk σ x (nI f) p1 p2 p3 nq = .ok (V, τ) ∧ f_X11_chanceOf μ2 (nI f) p1 p2 = (V, μ3) ∧ SC σ2 τ ∧ MF μ2 μ3 ∧ Rep σ2 x μ2 := by
            intro nq hq
            obtain ⟨w1, fl, σ2, efl, zfl, e2, r2, r3⟩ := step nq hq
            rw [em2] at r2
            have exe : xe σ2 3 f = xe σ 3 f := by rw [← e2, add_xe (Or.inl (by decide))]; rfl
            obtain ⟨c1, c2, τ, μ3, V, c3, c4, c5, c6⟩ := chance_i r2 (by rw [es2]; exact r3) (by rw [es2]; exact hms2) (by rw [es2]; exact hisf) ra rb
            rw [exe] at c1 c3
            have k9 : xk (xNew σ 9 nq) nq = 9 := by rw [new_xk, if_pos rfl]
            have g : Agr σ (wk σ nq (nI f) p1 p2 p3 fl) := agr_I (agr_I (agr_I (agr_I (agr_I (agr_new hq (by omega)) hq (by omega)) hq (by omega)) hq (by omega)) hq (by omega)) hq (by omega)
            have e72 : ∀ fl', fl' = fl → f_X10_walk_72 σ x nq (nI f) p1 p2 p3 (xe σ 3 f) fl' p3 p2 p1 (nI f) nq nq (xNew σ 9 nq) = .ok (V, τ) ∧ of_X10_walk_72 σ x nq (nI f) p1 p2 p3 (xe σ 3 f) fl' p3 p2 p1 (nI f) nq nq (xNew σ 9 nq) := by
              intro fl' e
              rw [e]
              constructor
              · show Except.ok ((f_X10_chanceIn (xAdd (wk σ nq (nI f) p1 p2 p3 fl) 5 nq) x (xe σ 3 f) (nI f) p1 p2).1, (f_X10_chanceIn (xAdd (wk σ nq (nI f) p1 p2 p3 fl) 5 nq) x (xe σ 3 f) (nI f) p1 p2).2) = _
                rw [e2, c3]
              · refine ⟨⟨k9, zfl, trivial⟩, k9, k9, ?_, fun i hi => ?_, ?_, trivial⟩
                · show xn σ 5 ≤ 100
                  rw [hx5]; omega
                · have hi : i < n5 := by
                    have : i < xn σ 5 := hi
                    rw [hx5] at this; exact this
                  exact (agr_lst g (by decide) hwa.2.2.1).2.1 i hi
                · show of_X10_chanceIn (xAdd (wk σ nq (nI f) p1 p2 p3 fl) 5 nq) x (xe σ 3 f) (nI f) p1 p2
                  rw [e2]; exact c1
            refine ⟨?_, c2, τ, μ3, V, σ2, ?_, c4, c5, c6, ⟨n0, n1, n2, n4, n5 + 1, n6, r2, by rw [es2]; exact r3⟩⟩
            · unfold of_X10_walk
              rw [hF, exo_i, hc1, exo_i, hc2, exo_i, hx5]
              exact ⟨e1, fun _ => ⟨w1, fun z => (e72 1 (by rw [← efl, if_pos z])).2, fun z => (e72 0 (by rw [← efl, if_neg z])).2⟩, fun z => absurd n60 z⟩
            · show f_X10_walk σ x nq (nI f) p1 p2 p3 = _
              unfold f_X10_walk
              rw [hF, exb_i, hc1, exb_i, hc2, exb_i, hx5, if_pos n60]
              by_cases z : f_X10_wasWalked (xNew σ 9 nq) x (nI f) p1 p2 = 0
              · rw [if_pos z]; exact (e72 1 (by rw [← efl, if_pos z])).1
              · rw [if_neg z]; exact (e72 0 (by rw [← efl, if_neg z])).1
          have F66 : f_X11_walk μ (nI f) p1 p2 p3 = ((f_X11_chanceOf μ2 (nI f) p1 p2).1, (f_X11_chanceOf μ2 (nI f) p1 p2).2) := by
            rw [hM0, hM4]
            unfold f_X11_walk_28
            rw [if_neg hm1, if_neg i_1ne0, if_neg m60]
            unfold f_X11_walk_66
            rw [if_pos (by decide), h39, hix5, em]
            unfold f_X11_walk_119
            show ((f_X11_chanceOf (mI (mI (mI (mI (mI μ0 40 n5 (nI f)) 41 n5 p1) 42 n5 p2) 43 n5 p3) 39 0 (mi μ0 39 0 + 1)) (nI f) p1 p2).1, (f_X11_chanceOf (mI (mI (mI (mI (mI μ0 40 n5 (nI f)) 41 n5 p1) 42 n5 p2) 43 n5 p3) 39 0 (mi μ0 39 0 + 1)) (nI f) p1 p2).2) = _
            rw [h390]
            show ((f_X11_chanceOf (addW μ0 n5 (nI f) p1 p2 p3) (nI f) p1 p2).1, (f_X11_chanceOf (addW μ0 n5 (nI f) p1 p2 p3) (nI f) p1 p2).2) = _
            rw [em2]
          have O66 : of_X11_chanceOf μ2 (nI f) p1 p2 → of_X11_walk μ (nI f) p1 p2 p3 := by
            intro z
            refine hO0 (hO4 ⟨o1, fun y => absurd y hm1, fun _ => ⟨fun y => absurd y i_1ne0, fun _ => ⟨fun y => absurd y m60, fun _ => ⟨fun _ => ?_, fun _ => trivial⟩⟩⟩⟩)
            rw [h39, hix5, em]
            refine ⟨v5, v5, v5, v5, ?_, trivial⟩
            show of_X11_chanceOf (mI (mI (mI (mI (mI μ0 40 n5 (nI f)) 41 n5 p1) 42 n5 p2) 43 n5 p3) 39 0 (mi μ0 39 0 + 1)) (nI f) p1 p2
            rw [h390]
            show of_X11_chanceOf (addW μ0 n5 (nI f) p1 p2 p3) (nI f) p1 p2
            rw [em2]
            exact z
          have noE : ∀ nq k, FL_walk σ x (nI f) p1 p2 p3 nq = .error k → k = 3 ∨ k = 1 ∨ k = 2 := by
            intro nq k hk
            have hFn : ∃ r, FL_walk σ x (nI f) p1 p2 p3 nq = .ok r := by
              have e : FL_walk σ x (nI f) p1 p2 p3 nq = if f_X10_wasWalked (xNew σ 9 nq) x (nI f) p1 p2 = 0 then f_X10_walk_72 σ x nq (nI f) p1 p2 p3 (xe σ 3 f) 1 p3 p2 p1 (nI f) nq nq (xNew σ 9 nq) else f_X10_walk_72 σ x nq (nI f) p1 p2 p3 (xe σ 3 f) 0 p3 p2 p1 (nI f) nq nq (xNew σ 9 nq) := by
                show f_X10_walk σ x nq (nI f) p1 p2 p3 = _
                unfold f_X10_walk
                rw [hF, exb_i, hc1, exb_i, hc2, exb_i, hx5, if_pos n60]
              rw [e]
              split
              · exact ⟨_, rfl⟩
              · exact ⟨_, rfl⟩
            obtain ⟨r, hr⟩ := hFn
            rw [hr] at hk
            cases hk
          have oC : of_X11_chanceOf μ2 (nI f) p1 p2 := by
            have hwin : RWin σ μ2 n4 := by rw [← em2]; exact h0.2.2.2.2.2.1
            have m39 : mi μ2 39 0 = nI (n5 + 1) := by
              rw [← em2, ← nI_1]
              show mi (mI (mI (mI (mI (mI μ0 40 n5 (nI f)) 41 n5 p1) 42 n5 p2) 43 n5 p3) 39 0 (nI n5 + 1)) 39 0 = _
              rw [mi_at, if_pos rfl]
            refine chance_m hms2 hs hisf hwin (mkw_i (by omega) m39 (fun i hi => ?_)) ra rb
            have m41 : mi μ2 41 i = if i = n5 then p1 else mi μ0 41 i := by
              rw [← em2]
              show mi (mI (mI μ0 40 n5 (nI f)) 41 n5 p1) 41 i = _
              rw [mi_at]; rfl
            have m42 : mi μ2 42 i = if i = n5 then p2 else mi μ0 42 i := by
              rw [← em2]
              show mi (mI (mI (mI μ0 40 n5 (nI f)) 41 n5 p1) 42 n5 p2) 42 i = _
              rw [mi_at]; rfl
            have m43 : mi μ2 43 i = if i = n5 then p3 else mi μ0 43 i := by
              rw [← em2]
              show mi (mI (mI (mI (mI μ0 40 n5 (nI f)) 41 n5 p1) 42 n5 p2) 43 n5 p3) 43 i = _
              rw [mi_at]; rfl
            rw [m41, m42, m43]
            by_cases ci : i = n5
            · rw [if_pos ci, if_pos ci, if_pos ci]
              exact ⟨ra, rb, rc⟩
            · rw [if_neg ci, if_neg ci, if_neg ci]
              obtain ⟨-, -, -, -, q5, q6, q7, -⟩ := h0.2.2.2.2.2.2.1.2.2.2 i (by omega)
              exact ⟨q5, q6, q7⟩
          refine ⟨fun nq hq => (both nq hq).1, noE, O66 oC, fun nq g hq hq0 => ?_⟩
          obtain ⟨-, -, τ, μ3, V, σ2, c3, c4, c5, c6, r⟩ := both nq hq
          have ht3 : mi μ3 0 0 = 0 := by
            show μ3.1 0 0 = 0
            rw [c6 0 (by decide) (by decide)]
            exact ht2
          exact cl_oL c3 (by rw [F66, c4]) ht3 (sc_rep c5 (rep_fr r (fr_mf c6))) g
        · have n60 : ¬ nI n5 < 60 := by rw [show (60 : Int32) = nI 60 from rfl, nI_ltI (by omega) (by omega)]; exact hn
          have m60 : mi μs 39 0 = 60 := by rw [h39, show (60 : Int32) = nI 60 from rfl, nI_eq (by omega) (by omega)]; omega
          have hFe : ∀ nq, FL_walk σ x (nI f) p1 p2 p3 nq = .error 2 := fun nq => by
            show f_X10_walk σ x nq (nI f) p1 p2 p3 = _
            unfold f_X10_walk
            rw [hF, exb_i, hc1, exb_i, hc2, exb_i, hx5, if_neg n60]
          have hMe : f_X11_walk μ (nI f) p1 p2 p3 = (0, mI μs 0 0 3) := by
            rw [hM0, hM4]
            unfold f_X11_walk_28
            rw [if_neg hm1, if_neg i_1ne0, if_pos m60]
            exact (t66 3 i3).1
          refine ⟨fun nq _ => ?_, is_er hFe (Or.inr (Or.inr rfl)), hO0 (hO4 ⟨o1, fun y => absurd y hm1, fun _ => ⟨fun y => absurd y i_1ne0, fun _ => ⟨fun _ => (t66 3 i3).2, fun y => absurd m60 y⟩⟩⟩), fun nq g _ _ => cl_eL hFe hMe hfr d3 (by decide) hh nq g⟩
          unfold of_X10_walk
          rw [hF, exo_i, hc1, exo_i, hc2, exo_i, hx5]
          exact ⟨e1, fun z => absurd z n60, fun _ => trivial⟩
      · have hFe : ∀ nq, FL_walk σ x (nI f) p1 p2 p3 nq = .error 1 := fun nq => by
          show f_X10_walk σ x nq (nI f) p1 p2 p3 = _
          unfold f_X10_walk
          rcases hc with hc | ⟨hc1, hc2⟩
          · rw [hF, exb_i, hc, exb_e]
          · rw [hF, exb_i, hc1, exb_i, hc2, exb_e]
        have hMe : f_X11_walk μ (nI f) p1 p2 p3 = (0, mI μs 0 0 2) := by
          rw [hM0, hM4]
          unfold f_X11_walk_28
          rw [if_neg hm1, if_pos rfl]
          exact (t66 2 i2).1
        refine ⟨fun nq _ => ?_, is_er hFe (Or.inr (Or.inl rfl)), hO0 (hO4 ⟨o1, fun y => absurd y hm1, fun _ => ⟨fun _ => (t66 2 i2).2, fun y => absurd rfl y⟩⟩), fun nq g _ _ => cl_eL hFe hMe hfr d2 (by decide) hh nq g⟩
        unfold of_X10_walk
        rcases hc with hc | ⟨hc1, hc2⟩
        · rw [hF, exo_i, hc, exo_e]
          exact ⟨e1, trivial⟩
        · rw [hF, exo_i, hc1, exo_i, hc2, exo_e]
          exact ⟨e1, trivial⟩
    · exact absurd hisf (hno f rfl (by omega))
  · rcases o3 with ⟨f, hf, hisf, rfl, hI⟩ | ⟨hI, -⟩
    · exact absurd hisf (hno f rfl (by omega))
    · have hFe : ∀ nq, FL_walk σ x p0 p1 p2 p3 nq = .error 3 := fun nq => by
        show f_X10_walk σ x nq p0 p1 p2 p3 = _
        unfold f_X10_walk
        rw [hF, exb_e]
      have w28 : ∀ t, f_X11_walk_28 μ p0 p1 p2 p3 t μs = (0, mI μs 0 0 1) ∧ of_X11_walk_28 μ p0 p1 p2 p3 t μs := fun t => ⟨by
        unfold f_X11_walk_28
        rw [if_pos hI]
        exact (t66 1 i1).1, o1, fun _ => (t66 1 i1).2, fun y => absurd hI y⟩
      have hMe : f_X11_walk μ p0 p1 p2 p3 = (0, mI μs 0 0 1) := by
        rw [hM0]
        rcases args with ⟨-, -, -, -, -, hM4, -⟩ | ⟨-, hM4, -⟩
        · rw [hM4]; exact (w28 1).1
        · rw [hM4]; exact (w28 0).1
      have hOe : of_X11_walk μ p0 p1 p2 p3 := by
        refine hO0 ?_
        rcases args with ⟨-, -, -, -, -, -, hO4⟩ | ⟨-, -, hO4⟩
        · exact hO4 (w28 1).2
        · exact hO4 (w28 0).2
      refine ⟨fun nq _ => ?_, is_er hFe (Or.inl rfl), hOe, fun nq g _ _ => cl_eL hFe hMe hfr d1 (by decide) hh nq g⟩
      unfold of_X10_walk
      rw [hF, exo_e]
      exact ⟨e1, trivial⟩
