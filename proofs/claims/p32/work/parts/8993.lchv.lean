/-! ===== chances as numbers ===== -/
def GG (ρ : MS) (zx zy wx wy : Int) (n5 : Nat) (p : Int32) : Int := sm (fun a => sm (fun b => wl ρ p (nI a) (nI b) (1000000 * wsq (PP zx wx) (PP zy wy) a b) n5) 100) 100
def CHv (ρ : MS) (zx zy wx wy : Int) (n5 : Nat) (p a b : Int32) : Int := if GG ρ zx zy wx wy n5 p = 0 then 0 else (wl ρ p a b (1000000 * wsq (PP zx wx) (PP zy wy) a.toInt b.toInt) n5 * 1000000) / GG ρ zx zy wx wy n5 p
/-- the wind of a night -/
def WNd (ρ : MS) (n4 : Nat) (p : Int32) (wx wy : Int) : Prop := (∃ j, j < n4 ∧ mi ρ 36 j = p ∧ (mi ρ 37 j).toInt = wx ∧ (mi ρ 38 j).toInt = wy) ∨ ((∀ j, j < n4 → ¬ mi ρ 36 j = p) ∧ wx = 0 ∧ wy = 0)
theorem wl_c {μ μ' : MS} (h : ∀ a, a = 40 ∨ a = 41 ∨ a = 42 ∨ a = 43 → μ'.1 a = μ.1 a) (p a b : Int32) (W : Int) : ∀ j, wl μ' p a b W j = wl μ p a b W j
  | 0 => rfl
  | j + 1 => by
    have ih := wl_c h p a b W j
    have e0 : mi μ' 40 j = mi μ 40 j := congrFun (h 40 (by omega)) j
    have e1 : mi μ' 41 j = mi μ 41 j := congrFun (h 41 (by omega)) j
    have e2 : mi μ' 42 j = mi μ 42 j := congrFun (h 42 (by omega)) j
    have e3 : mi μ' 43 j = mi μ 43 j := congrFun (h 43 (by omega)) j
    show (if (mi μ' 40 j = p ∧ mi μ' 41 j = a ∧ mi μ' 42 j = b) then (wl μ' p a b W j * (100 - (mi μ' 43 j).toInt)) / 100 else wl μ' p a b W j) = _
    rw [e0, e1, e2, e3, ih]
    rfl
theorem chv_c {μ μ' : MS} (h : ∀ a, a = 40 ∨ a = 41 ∨ a = 42 ∨ a = 43 → μ'.1 a = μ.1 a) : CHv μ' = CHv μ := by
  have e : wl μ' = wl μ := by
    funext p a b W j
    exact wl_c h p a b W j
  funext zx zy wx wy n5 p a b
  unfold CHv GG
  rw [e]
theorem chv_fr {μ μ' : MS} (g : Fr μ μ') : CHv μ' = CHv μ := chv_c (fun a ha => g a (by omega) (by omega) (by omega) (by omega) (by omega))
theorem wnd_fr {μ μ' : MS} {n4 : Nat} {p : Int32} {wx wy : Int} (g : Fr μ μ') (h : WNd μ n4 p wx wy) : WNd μ' n4 p wx wy := by
  rw [fr_eq g]
  exact h
theorem fr_I {μ μ' : MS} (g : Fr μ μ') (k i : Nat) (v : Int32) : Fr (mI μ k i v) (mI μ' k i v) := fun a h0 h1 h2 h3 h4 => by
  show up2 μ'.1 k i v a = up2 μ.1 k i v a
  unfold up2
  rw [g a h0 h1 h2 h3 h4]
theorem chance_v {σ ρ' : XS} {μ : MS} {n n4 n5 f : Nat} {s : Nat → Nat → Int32} {a b : Int32} {wx wy : Int} (hms : MS1 μ n s) (hs : Sok s n) (hf : isF (JJ s n) f) (hwi : RWin σ μ n4) (hwa : RWal ρ' μ n5) (hw : WNd μ n4 (s f 1) wx wy) (ra : rng 0 99 a) (rb : rng 0 99 b) : ∃ V μ', f_X11_chanceOf μ (nI f) a b = (V, μ') ∧ MF μ μ' ∧ V.toInt = CHv μ (zTx s n f) (zTy s n f) wx wy n5 (nI f) a b := by
  have h60 := hms.1.1
  obtain ⟨hfn, -⟩ := z_pos hs h60 hf
  obtain ⟨-, hmf, hz⟩ := measures_i hms hs hf
  obtain ⟨μm, eμ⟩ : ∃ z, f_X11_measures μ (nI f) = z := ⟨_, rfl⟩
  rw [eμ] at hmf hz
  obtain ⟨-, -, -, -, z5, z6, -⟩ := hz
  have hwi' : RWin σ μm n4 := by rw [fr_eq (fr_mf hmf)]; exact hwi
  have hw' : WNd μm n4 (s f 1) wx wy := wnd_fr (fr_mf hmf) hw
  have e15 : mi μm 15 f = s f 1 := (sdt_at (ms_mf hms hmf).1 hfn).2.1
  have hix : ix (nI f) = f := clamp_nI (by omega)
  have A := rng_i (L := 0) (H := 99) ra rfl rfl
  have B := rng_i (L := 0) (H := 99) rb rfl rfl
  have wind : ∃ v2 : Int32, wx.natAbs ≤ 20 ∧ wy.natAbs ≤ 20 ∧ f_X11_windOf μm (s f 1) = v2 ∧ ((v2 = -1 ∧ wx = 0 ∧ wy = 0) ∨ ∃ j, j < 50 ∧ v2 = nI j ∧ (mi μm 37 j).toInt = wx ∧ (mi μm 38 j).toInt = wy) := by
    rcases (wof_m hwi' (s f 1)).2 with ⟨j, j1, j2, j3⟩ | ⟨j1, j3⟩
    · rcases hw' with ⟨i, i1, i2, i3, i4⟩ | ⟨i1, -⟩
      · have hij : i = j := hwi'.2.2.2.2.2 i j i1 j1 (i2.trans j2.symm)
        subst hij
        obtain ⟨w1, w2, w3, w4, w5, w6⟩ := hwi'.2.2.2.2.1 i i1
        have w5' := rng_i (L := -20) (H := 20) w5 rfl rfl
        have w6' := rng_i (L := -20) (H := 20) w6 rfl rfl
        have h50 := hwi'.1
        exact ⟨nI i, by omega, by omega, j3, Or.inr ⟨i, by omega, rfl, i3, i4⟩⟩
      · exact absurd j2 (i1 j j1)
    · rcases hw' with ⟨i, i1, i2, -⟩ | ⟨-, i2, i3⟩
      · exact absurd i2 (j1 i i1)
      · exact ⟨-1, by omega, by omega, j3, Or.inl ⟨rfl, i2, i3⟩⟩
  obtain ⟨v2, bx, by', ev, hv⟩ := wind
  obtain ⟨l1, μf, l2, l3, l4⟩ := falls_i z5 z6 bx by' hv
  have hmf3 : MF μ μf := mf_tr hmf (mf_1 l3.1)
  have hwaf : RWal ρ' μf n5 := by rw [fr_eq (fr_mf hmf3)]; exact hwa
  have hG0 : 0 ≤ GG μf (zTx s n f) (zTy s n f) wx wy n5 (nI f) := sm_nn 100 (fun i _ => sm_nn 100 (fun j _ => (wl_b hwaf (nI f) (nI i) (nI j) (by have := wsq_b (PP (zTx s n f) wx) (PP (zTy s n f) wy) i j; omega) n5 (Nat.le_refl _)).1))
  obtain ⟨-, V, m2, m3⟩ := mc_i (G := GG μf (zTx s n f) (zTy s n f) wx wy n5 (nI f)) hwaf l4 μ (nI f) a b rfl rfl A B rfl hG0
  have efalls : f_X11_falls μ (nI f) = μf := by
    unfold f_X11_falls
    rw [eμ]
    unfold f_X11_falls_5
    rw [hix, e15, ev]
    unfold f_X11_falls_18 f_X11_falls_116
    rw [l2]
  refine ⟨V, μf, ?_, hmf3, ?_⟩
  · unfold f_X11_chanceOf
    rw [efalls, m2]
  · rw [← chv_fr (fr_mf hmf3)]
    exact m3
theorem isf_k {μ : MS} {n f : Nat} {s : Nat → Nat → Int32} (h : MS1 μ n s) (hf : isF (JJ s n) f) (hn : f < 60) : f_X11_isFireball μ (nI f) = 1 := by
  rcases (isf_i h (nI f)).2 with ⟨-, -, -, -, z⟩ | ⟨-, z⟩
  · exact z
  · exact absurd hf (z f rfl hn)
theorem cell_y {a b : Int32} (ra : rng 0 99 a) (rb : rng 0 99 b) : f_X11_isCell a b = 1 := by
  unfold f_X11_isCell
  rw [isIn_y ra, isIn_y rb]
  decide
theorem v_chance {σ : XS} {x : Nat} {ρ : MS} {n0 n n4 n5 n6 f : Nat} {a b : Int32} {wx wy : Int} (h : GS σ x ρ n0 n n4 n5 n6) (hf : isF (JJ (sdt ρ n) n) f) (hw : WNd ρ n4 (sdt ρ n f 1) wx wy) (ra : rng 0 99 a) (rb : rng 0 99 b) : of_X10_chance σ x (nI f) a b ∧ ∀ N, xk σ N = 0 → N ≠ 0 → ∃ V τ, f_X10_chance σ x (nI f) a b = .ok (V, τ) ∧ GS τ x ρ n0 n n4 n5 n6 ∧ V.toInt = CHv ρ (zTx (sdt ρ n) n f) (zTy (sdt ρ n) n f) wx wy n5 (nI f) a b := by
  obtain ⟨b1, b2, -, b4⟩ := br_chance σ x ρ (nI f) a b (gs_rep h)
  obtain ⟨-, -, -, hfn⟩ := fb_k h hf
  have a2 := (gs_b h).2.1
  obtain ⟨-, hms, hfr, ht⟩ := spr_ms h.1
  obtain ⟨μs, eμ⟩ : ∃ z, f_X11_spreads ρ = z := ⟨_, rfl⟩
  rw [eμ] at hms hfr ht
  have hfr0 : Fr ρ (mI μs 0 0 0) := fr_thr2 hfr 0
  have h0 := rep0_fr h.1 hfr0
  obtain ⟨V, μ2, d1, d2, d3⟩ := chance_v (ms_mf_thr (t := 0) hms) (gs_sok h) hf h0.2.2.2.2.2.1 h0.2.2.2.2.2.2.1 (wnd_fr hfr0 hw) ra rb
  have hM : f_X11_chance ρ (nI f) a b = (V, μ2) := by
    unfold f_X11_chance
    rw [eμ]
    unfold f_X11_chance_4
    rw [isf_k hms hf (by omega), if_neg i_1ne0, cell_y ra rb, if_neg i_1ne0]
    unfold f_X11_chance_30
    rw [if_pos (by decide), d1]
  refine ⟨b1, fun N hN hN0 => ?_⟩
  obtain ⟨τ, t1, t2⟩ := ok_L (b4 N (fun _ => 0) hN hN0) (fun k hk => cd31_I (by decide) (by decide) (b2 N k hk)) (by
    rw [hM]
    show μ2.1 0 0 = 0
    rw [d2 0 (by decide) (by decide)]
    rfl)
  rw [hM] at t1 t2
  refine ⟨V, τ, t1, gs_re h (fr_tr hfr0 (fr_mf d2)) t2, ?_⟩
  rw [d3, chv_fr hfr0]
theorem v_walk {σ : XS} {x : Nat} {ρ : MS} {n0 n n4 n5 n6 f : Nat} {a b c : Int32} {wx wy : Int} (h : GS σ x ρ n0 n n4 n5 n6) (hn : n5 < 60) (hf : isF (JJ (sdt ρ n) n) f) (hw : WNd ρ n4 (sdt ρ n f 1) wx wy) (ra : rng 0 99 a) (rb : rng 0 99 b) (rc : rng 1 100 c) : (∀ nq, xk σ nq = 0 → of_X10_walk σ x nq (nI f) a b c) ∧ ∀ N, xk σ N = 0 → N ≠ 0 → ∃ V τ, f_X10_walk σ x N (nI f) a b c = .ok (V, τ) ∧ GS τ x (addW ρ n5 (nI f) a b c) n0 n n4 (n5 + 1) n6 ∧ V.toInt = CHv (addW ρ n5 (nI f) a b c) (zTx (sdt ρ n) n f) (zTy (sdt ρ n) n f) wx wy (n5 + 1) (nI f) a b := by
  obtain ⟨b1, b2, -, b4⟩ := br_walk σ x ρ (nI f) a b c (gs_rep h)
  obtain ⟨c0, c1, c2, c4, c5, c6⟩ := gs_cnt h
  obtain ⟨a0, a2, a4, a5, a6⟩ := gs_b h
  obtain ⟨-, -, -, hfn⟩ := fb_k h hf
  obtain ⟨-, hms, hfr, ht⟩ := spr_ms h.1
  obtain ⟨μs, eμ⟩ : ∃ z, f_X11_spreads ρ = z := ⟨_, rfl⟩
  rw [eμ] at hms hfr ht
  obtain ⟨μ0, em⟩ : ∃ z, mI μs 0 0 0 = z := ⟨_, rfl⟩
  have hfr0 : Fr ρ μ0 := by rw [← em]; exact fr_thr2 hfr 0
  have hms0 : MS1 μ0 n (sdt ρ n) := by rw [← em]; exact ms_mf_thr hms
  have h0 := rep0_fr h.1 hfr0
  have h390 : mi μ0 39 0 = nI n5 := h0.2.2.2.2.2.2.1.2.1
  have h39 : mi μs 39 0 = nI n5 := (rep0_fr h.1 hfr).2.2.2.2.2.2.1.2.1
  have hix5 : ix (nI n5) = n5 := clamp_nI (by omega)
  have m60 : ¬ mi μs 39 0 = 60 := by rw [h39, show (60 : Int32) = nI 60 from rfl, nI_eq (by omega) (by omega)]; omega
  obtain ⟨μ2, em2⟩ : ∃ z, addW μ0 n5 (nI f) a b c = z := ⟨_, rfl⟩
  have hfr2 : Fr (addW ρ n5 (nI f) a b c) μ2 := by
    rw [← em2]
    unfold addW
    exact fr_I (fr_I (fr_I (fr_I (fr_I hfr0 _ _ _) _ _ _) _ _ _) _ _ _) _ _ _
  have hms2 : MS1 μ2 n (sdt ρ n) := by rw [← em2]; exact ⟨hms0.1, hms0.2⟩
  have ht2 : mi μ2 0 0 = 0 := by rw [← em2, ← em]; rfl
  have hwi2 : RWin σ μ2 n4 := by rw [← em2]; exact h0.2.2.2.2.2.1
  have hwn2 : WNd μ2 n4 (sdt ρ n f 1) wx wy := by
    have := wnd_fr hfr0 hw
    rw [← em2]
    exact this
  have hwa2 : RWal (mkw μ2 (n5 + 1)) μ2 (n5 + 1) := by
    refine mkw_i (by omega) ?_ (fun i hi => ?_)
    · rw [← em2]
      unfold addW
      rw [mi_at, if_pos rfl, nI_1]
    · have m41 : mi μ2 41 i = if i = n5 then a else mi μ0 41 i := by
        rw [← em2]
        show mi (mI (mI μ0 40 n5 (nI f)) 41 n5 a) 41 i = _
        rw [mi_at]; rfl
      have m42 : mi μ2 42 i = if i = n5 then b else mi μ0 42 i := by
        rw [← em2]
        show mi (mI (mI (mI μ0 40 n5 (nI f)) 41 n5 a) 42 n5 b) 42 i = _
        rw [mi_at]; rfl
      have m43 : mi μ2 43 i = if i = n5 then c else mi μ0 43 i := by
        rw [← em2]
        show mi (mI (mI (mI (mI μ0 40 n5 (nI f)) 41 n5 a) 42 n5 b) 43 n5 c) 43 i = _
        rw [mi_at]; rfl
      rw [m41, m42, m43]
      by_cases ci : i = n5
      · rw [if_pos ci, if_pos ci, if_pos ci]
        exact ⟨ra, rb, rc⟩
      · rw [if_neg ci, if_neg ci, if_neg ci]
        obtain ⟨-, -, -, -, r5, r6, r7, -⟩ := h0.2.2.2.2.2.2.1.2.2.2 i (by omega)
        exact ⟨r5, r6, r7⟩
  obtain ⟨V, μ3, d1, d2, d3⟩ := chance_v hms2 (gs_sok h) hf hwi2 hwa2 hwn2 ra rb
  have hM : f_X11_walk ρ (nI f) a b c = (V, μ3) := by
    unfold f_X11_walk
    rw [eμ]
    unfold f_X11_walk_4
    rw [cell_y ra rb, if_neg i_1ne0, isIn_y rc, if_neg i_1ne0]
    unfold f_X11_walk_28
    rw [isf_k hms hf (by omega), if_neg i_1ne0, if_neg i_1ne0, if_neg m60]
    unfold f_X11_walk_66
    rw [if_pos (by decide), h39, hix5, em]
    unfold f_X11_walk_119
    show ((f_X11_chanceOf (mI (mI (mI (mI (mI μ0 40 n5 (nI f)) 41 n5 a) 42 n5 b) 43 n5 c) 39 0 (mi μ0 39 0 + 1)) (nI f) a b).1, (f_X11_chanceOf (mI (mI (mI (mI (mI μ0 40 n5 (nI f)) 41 n5 a) 42 n5 b) 43 n5 c) 39 0 (mi μ0 39 0 + 1)) (nI f) a b).2) = _
    rw [h390]
    show ((f_X11_chanceOf (addW μ0 n5 (nI f) a b c) (nI f) a b).1, (f_X11_chanceOf (addW μ0 n5 (nI f) a b c) (nI f) a b).2) = _
    rw [em2, d1]
  refine ⟨b1, fun N hN hN0 => ?_⟩
  obtain ⟨τ, t1, t2⟩ := ok_L (b4 N (fun _ => 0) hN hN0) (fun k hk => cd312_I (by decide) (by decide) (by decide) (b2 N k hk)) (by
    rw [hM]
    show μ3.1 0 0 = 0
    rw [d2 0 (by decide) (by decide)]
    exact ht2)
  rw [hM] at t1 t2
  refine ⟨V, τ, t1, ?_, ?_⟩
  · refine rep_gs (rep_fr t2 (fr_sy (fr_tr hfr2 (fr_mf d2)))) c0 c1 c2 c4 ?_ c6 (by omega) (by omega) (by omega) (by omega) (by omega)
    unfold addW
    rw [mi_at, if_pos rfl, nI_1]
  · rw [d3, chv_fr hfr2]
/-! ===== the first of the greatest chances ===== -/
def BS (P : Nat → Prop) (C : Nat → Int) (k : Nat) (v : Int32) (m : Int) : Prop := (v = -1 ∧ m = 0 ∧ ∀ i, i < k → P i → C i ≤ 0) ∨ ∃ j, j < k ∧ v = nI j ∧ P j ∧ m = C j ∧ 0 < m ∧ (∀ i, i < k → P i → C i ≤ m) ∧ ∀ i, i < j → P i → C i < m
theorem bs_0 (P : Nat → Prop) (C : Nat → Int) : BS P C 0 (-1) 0 := Or.inl ⟨rfl, rfl, fun i hi => absurd hi (Nat.not_lt_zero _)⟩
theorem bs_n {P : Nat → Prop} {C : Nat → Int} {k : Nat} {v : Int32} {m : Int} (h : BS P C k v m) (hk : P k → C k ≤ m) : BS P C (k + 1) v m := by
  have up : ∀ (b : Int), (∀ i, i < k → P i → C i ≤ b) → (P k → C k ≤ b) → ∀ i, i < k + 1 → P i → C i ≤ b := fun b g1 g2 i hi hP => by
    by_cases e : i = k
    · rw [e] at hP ⊢
      exact g2 hP
    · exact g1 i (by omega) hP
  rcases h with ⟨h1, h2, h3⟩ | ⟨j, j1, j2, j3, j4, j5, j6, j7⟩
  · exact Or.inl ⟨h1, h2, up 0 h3 (fun z => by rw [← h2]; exact hk z)⟩
  · exact Or.inr ⟨j, by omega, j2, j3, j4, j5, up m j6 hk, j7⟩
theorem bs_y {P : Nat → Prop} {C : Nat → Int} {k : Nat} {v : Int32} {m : Int} (h : BS P C k v m) (hP : P k) (hk : m < C k) : BS P C (k + 1) (nI k) (C k) := by
  have all : 0 ≤ m ∧ ∀ i, i < k → P i → C i ≤ m := by
    rcases h with ⟨h1, h2, h3⟩ | ⟨j, j1, j2, j3, j4, j5, j6, j7⟩
    · rw [h2]
      exact ⟨Int.le_refl _, h3⟩
    · exact ⟨by omega, j6⟩
  obtain ⟨m0, m1⟩ := all
  refine Or.inr ⟨k, by omega, rfl, hP, rfl, by omega, fun i hi hPi => ?_, fun i hi hPi => ?_⟩
  · by_cases e : i = k
    · rw [e]
      exact Int.le_refl _
    · have := m1 i (by omega) hPi
      omega
  · have := m1 i hi hPi
    omega
theorem bs_u {P : Nat → Prop} {C : Nat → Int} {k : Nat} {v w : Int32} {m l : Int} (h : BS P C k v m) (g : BS P C k w l) : v = w := by
  rcases h with ⟨h1, h2, h3⟩ | ⟨j, j1, j2, j3, j4, j5, j6, j7⟩
  · rcases g with ⟨g1, -⟩ | ⟨i, i1, i2, i3, i4, i5, i6, i7⟩
    · rw [h1, g1]
    · have := h3 i i1 i3
      omega
  · rcases g with ⟨g1, g2, g3⟩ | ⟨i, i1, i2, i3, i4, i5, i6, i7⟩
    · have := g3 j j1 j3
      omega
    · have a := j6 i i1 i3
      have b := i6 j j1 j3
      rcases Nat.lt_trichotomy i j with z | z | z
      · have := j7 i z i3
        omega
      · rw [j2, i2, z]
      · have := i7 j z j3
        omega
/-! ===== fall ===== -/
theorem v_fall {σ : XS} {x : Nat} {ρ : MS} {n0 n n4 n5 : Nat} {W1 W2 : Nat → Int} (h : GS σ x ρ n0 n n4 n5 1) (hw : ∀ k, k < n → isF (JJ (sdt ρ n) n) k → WNd ρ n4 (sdt ρ n k 1) (W1 k) (W2 k)) : of_X10_fall σ x (nI 0) ∧ ∀ N, xk σ N = 0 → N ≠ 0 → ∃ v τ m, f_X10_fall σ x (nI 0) = .ok (v, τ) ∧ BS (fun k => isF (JJ (sdt ρ n) n) k ∧ ¬ mi ρ 49 0 < sdt ρ n k 1) (fun k => CHv ρ (zTx (sdt ρ n) n k) (zTy (sdt ρ n) n k) (W1 k) (W2 k) n5 (nI k) (mi ρ 47 0) (mi ρ 48 0)) n v m := by
  obtain ⟨b1, b2, -, b4⟩ := br_fall σ x ρ (nI 0) (gs_rep h)
  obtain ⟨c0, c1, c2, c4, c5, c6⟩ := gs_cnt h
  obtain ⟨a0, a2, a4, a5, a6⟩ := gs_b h
  have hs := gs_sok h
  obtain ⟨-, -, -, -, -, -, -, -, -, -, -, t1, t2, -⟩ := h.1.2.2.2.2.2.2.2.1.2.2.2.2.2 0 (by omega)
  have es : sdt (mI ρ 0 0 0) n = sdt ρ n := sdt_fr (fr_thr ρ 0)
  obtain ⟨-, hms, hfr, ht⟩ := spr_ms (thr_rep (t := 0) h.1)
  obtain ⟨μs, eμ⟩ : ∃ z, f_X11_spreads (mI ρ 0 0 0) = z := ⟨_, rfl⟩
  rw [eμ] at hms hfr ht
  rw [es] at hms
  have hfrs : Fr ρ μs := fr_tr (fr_thr ρ 0) hfr
  have main := itr_for (f := s_X11_fallOf_11 (nI 0)) (o := fun _ => True) (fun k (b : Int32 × Int64 × MS) => (b.1, b.2.1, nI k, b.2.2)) (fun k b => MF μs b.2.2 ∧ BS (fun k => isF (JJ (sdt ρ n) n) k ∧ ¬ mi ρ 49 0 < sdt ρ n k 1) (fun k => CHv ρ (zTx (sdt ρ n) n k) (zTy (sdt ρ n) n k) (W1 k) (W2 k) n5 (nI k) (mi ρ 47 0) (mi ρ 48 0)) k b.1 b.2.1.toInt) (n := n) (by
    rintro k ⟨v, V, ν⟩ hk ⟨g1, g2⟩
    have g1 : MF μs ν := g1
    have g2 : BS (fun k => isF (JJ (sdt ρ n) n) k ∧ ¬ mi ρ 49 0 < sdt ρ n k 1) (fun k => CHv ρ (zTx (sdt ρ n) n k) (zTy (sdt ρ n) n k) (W1 k) (W2 k) n5 (nI k) (mi ρ 47 0) (mi ρ 48 0)) k v V.toInt := g2
    refine ⟨trivial, ?_⟩
    have hfrν : Fr ρ ν := fr_tr hfrs (fr_mf g1)
    have hmsν := ms_mf hms g1
    have h0 := rep0_fr h.1 hfrν
    have h13 : mi ν 13 0 = nI n := hmsν.1.2.1
    have hix : ix (nI k) = k := clamp_nI (by omega)
    have hix0 : ix (nI 0) = 0 := clamp_nI (by omega)
    have cn : ¬ nI n ≤ nI k := by rw [nI_leI (by omega) (by omega)]; omega
    have e15 : mi ν 15 k = sdt ρ n k 1 := (sdt_at hmsν.1 hk).2.1
    have e47 : mi ν 47 0 = mi ρ 47 0 := congrFun (hfrν 47 (by decide) (by decide) (by decide) (by decide) (by decide)) 0
    have e48 : mi ν 48 0 = mi ρ 48 0 := congrFun (hfrν 48 (by decide) (by decide) (by decide) (by decide) (by decide)) 0
    have e49 : mi ν 49 0 = mi ρ 49 0 := congrFun (hfrν 49 (by decide) (by decide) (by decide) (by decide) (by decide)) 0
    show ∃ b' : Int32 × Int64 × MS, b_X11_fallOf_11 (nI 0) v V (nI k) ν = (true, (b'.1, b'.2.1, nI (k + 1), b'.2.2)) ∧ MF μs b'.2.2 ∧ BS (fun k => isF (JJ (sdt ρ n) n) k ∧ ¬ mi ρ 49 0 < sdt ρ n k 1) (fun k => CHv ρ (zTx (sdt ρ n) n k) (zTy (sdt ρ n) n k) (W1 k) (W2 k) n5 (nI k) (mi ρ 47 0) (mi ρ 48 0)) (k + 1) b'.1 b'.2.1.toInt
    unfold b_X11_fallOf_11 f_X11_fallOf_l11_93
    rw [h13, hix, if_neg cn, e15, hix0, e47, e48, e49]
    rcases (isf_i hmsν (nI k)).2 with ⟨f, hf, d, e, o3⟩ | ⟨o3, o4⟩
    · have : k = f := (nI_eq (by omega) (by omega)).mp e
      subst this
      rw [o3, if_neg i_1ne0]
      by_cases cm : mi ρ 49 0 < sdt ρ n k 1
      · rw [if_pos cm]
        exact ⟨(v, V, ν), by rw [nI_1], g1, bs_n g2 (fun z => absurd cm z.2)⟩
      · rw [if_neg cm]
        obtain ⟨U, μ2, d1, d2, d3⟩ := chance_v hmsν hs d h0.2.2.2.2.2.1 h0.2.2.2.2.2.2.1 (wnd_fr hfrν (hw k hk d)) t1 t2
        rw [d1]
        rw [chv_fr hfrν] at d3
        unfold f_X11_fallOf_l11_63 f_X11_fallOf_l11_78 f_X11_fallOf_l11_92 f_X11_fallOf_l11_93
        by_cases cc : lg_cmp U V ≤ 0
        · rw [if_pos cc, if_pos cc]
          refine ⟨(v, V, μ2), by rw [nI_1], mf_tr g1 d2, bs_n g2 (fun _ => ?_)⟩
          rw [lg_cmp_le, Int64.le_iff_toInt_le, d3] at cc
          exact cc
        · rw [if_neg cc, if_neg cc]
          refine ⟨(nI k, U, μ2), by rw [nI_1], mf_tr g1 d2, ?_⟩
          rw [lg_cmp_le, Int64.le_iff_toInt_le, d3] at cc
          show BS _ _ (k + 1) (nI k) U.toInt
          rw [d3]
          exact bs_y g2 ⟨d, cm⟩ (by omega)
    · rw [o3, if_pos rfl]
      exact ⟨(v, V, ν), by rw [nI_1], g1, bs_n g2 (fun z => absurd z.1 (o4 k rfl (by omega)))⟩) (by
    rintro ⟨v, V, ν⟩ ⟨g1, -⟩
    have g1 : MF μs ν := g1
    refine ⟨trivial, ?_⟩
    have h13 : mi ν 13 0 = nI n := (ms_mf hms g1).1.2.1
    show b_X11_fallOf_11 (nI 0) v V (nI n) ν = _
    unfold b_X11_fallOf_11
    rw [h13, if_pos (Int32.le_refl _)]) FU 0 (-1, 0, μs) (Nat.zero_le _) (by show n - 0 < 100000; omega) ⟨mf_refl μs, bs_0 _ _⟩
  obtain ⟨-, ⟨v, V, ν⟩, m2, m3, m4⟩ := main
  have m2 : itr (s_X11_fallOf_11 (nI 0)) FU (-1, 0, 0, μs) = (v, V, nI n, ν) := m2
  have m3 : MF μs ν := m3
  have hM : f_X11_fall ρ (nI 0) = (v, ν) := by
    have hst : f_X11_isStone ρ (nI 0) = 1 := by
      unfold f_X11_isStone
      rw [c6]
      exact isIn_y (nat_in (by omega) (by omega))
    unfold f_X11_fall
    rw [hst, if_neg i_1ne0]
    unfold f_X11_fall_14
    rw [if_pos (by decide)]
    unfold f_X11_fallOf
    rw [eμ]
    unfold f_X11_fallOf_4 f_X11_fallOf_11 f_X11_fallOf_99
    rw [m2]
  refine ⟨b1, fun N hN hN0 => ?_⟩
  obtain ⟨τ, u1, u2⟩ := ok_I (b4 N (fun _ => 0) hN hN0) (fun k hk => by rw [b2 N k hk]; decide) (by
    rw [hM]
    show ν.1 0 0 = 0
    rw [m3 0 (by decide) (by decide)]
    exact ht)
  rw [hM] at u1
  exact ⟨v, τ, V.toInt, u1, m4⟩
