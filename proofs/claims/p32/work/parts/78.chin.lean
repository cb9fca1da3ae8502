/-! ===== chanceIn ===== -/
def SC (σ τ : XS) : Prop := τ.1 = σ.1 ∧ (∀ c, c ≠ 82 → c ≠ 83 → τ.2.1 c = σ.2.1 c) ∧ (∀ c, c ≠ 80 → c ≠ 81 → τ.2.2.1 c = σ.2.2.1 c) ∧ τ.2.2.2 = σ.2.2.2
theorem sc_refl (σ : XS) : SC σ σ := ⟨rfl, fun _ _ _ => rfl, fun _ _ _ => rfl, rfl⟩
theorem sc_tr {a b c : XS} (h : SC a b) (g : SC b c) : SC a c := ⟨g.1.trans h.1, fun k h1 h2 => (g.2.1 k h1 h2).trans (h.2.1 k h1 h2), fun k h1 h2 => (g.2.2.1 k h1 h2).trans (h.2.2.1 k h1 h2), g.2.2.2.trans h.2.2.2⟩
theorem scf_eq {σ τ : XS} (h : SC σ τ) : τ = (σ.1, fun a => if a = 82 ∨ a = 83 then τ.2.1 a else σ.2.1 a, fun a => if a = 80 ∨ a = 81 then τ.2.2.1 a else σ.2.2.1 a, σ.2.2.2) := by
  refine Prod.ext h.1 (Prod.ext ?_ (Prod.ext ?_ h.2.2.2))
  · funext a
    show τ.2.1 a = if _ then _ else _
    split
    · rfl
    · exact h.2.1 a (fun e => by simp_all) (fun e => by simp_all)
  · funext a
    show τ.2.2.1 a = if _ then _ else _
    split
    · rfl
    · exact h.2.2.1 a (fun e => by simp_all) (fun e => by simp_all)
theorem sc_rep0 {σ τ : XS} {x : Nat} {μ : MS} {n0 n1 n2 n4 n5 n6 : Nat} (g : SC σ τ) (h : Rep0 σ x μ n0 n1 n2 n4 n5 n6) : Rep0 τ x μ n0 n1 n2 n4 n5 n6 := by
  rw [scf_eq g]
  exact h
theorem sc_rg {σ τ : XS} {n : Nat} {s : Nat → Nat → Int32} (g : SC σ τ) (h : RG σ n s) : RG τ n s := by
  rw [scf_eq g]
  exact h
theorem sc_rep {σ τ : XS} {x : Nat} {μ : MS} (g : SC σ τ) (h : Rep σ x μ) : Rep τ x μ := by
  obtain ⟨n0, n1, n2, n4, n5, n6, h0, hG⟩ := h
  exact ⟨n0, n1, n2, n4, n5, n6, sc_rep0 g h0, sc_rg g hG⟩
/-- ints the same, longs too but 44 and 45 -/
def LF (μ μ' : MS) : Prop := μ'.1 = μ.1 ∧ ∀ a, a ≠ 44 → a ≠ 45 → μ'.2 a = μ.2 a
theorem lf_set {μ μ' : MS} {k : Nat} {v : Int64} {a : Nat} (ha : a = 44 ∨ a = 45) (h : LF μ μ') : LF μ (mL μ' a k v) := ⟨h.1, fun c h1 h2 => by rw [mL_ne (by omega)]; exact h.2 c h1 h2⟩
theorem falls_i {μ : MS} {zx zy wx wy : Int} {v2 : Int32} (h29 : B6 (ml μ 29 0) zx 198009900) (h30 : B6 (ml μ 30 0) zy 198009900) (hx : wx.natAbs ≤ 20) (hy : wy.natAbs ≤ 20) (hv : (v2 = -1 ∧ wx = 0 ∧ wy = 0) ∨ ∃ j, j < 50 ∧ v2 = nI j ∧ (mi μ 37 j).toInt = wx ∧ (mi μ 38 j).toInt = wy) : ito (s_X11_falls_18 v2) (os_X11_falls_18 v2) FU (1, μ) ∧ ∃ μ', itr (s_X11_falls_18 v2) FU (1, μ) = (6, μ') ∧ LF μ μ' ∧ MCt μ' zx zy wx wy := by
  have main := itr_for (f := s_X11_falls_18 v2) (o := os_X11_falls_18 v2) (fun k (b : MS) => (nI (k + 1), b)) (fun k b => LF μ b ∧ ∀ i, i < k → B6 (ml b 44 i) (PP zx wx i) 198011900 ∧ B6 (ml b 45 i) (PP zy wy i) 198011900) (n := 5) (by
    rintro k ρ hk ⟨g1, g2⟩
    have c1 : ¬ (5 : Int32) < nI (k + 1) := by rw [show (5 : Int32) = nI 5 from rfl, nI_ltI (by omega) (by omega)]; omega
    have em : nI (k + 1) - 1 = nI k := by
      rw [show (1 : Int32) = nI 1 from rfl, ← nI_add, Int32.add_sub_cancel]
    have hix : ix (nI k) = k := clamp_nI (by omega)
    have vk : vp_in (nI k) 5 := nI_in hk (by decide)
    have l29 : ml ρ 29 0 = ml μ 29 0 := by show ρ.2 29 0 = μ.2 29 0; rw [g1.2 29 (by decide) (by decide)]
    have six := six_i hk
    have e20 : (20 : Int32).toInt = 20 := rfl
    have t20 : (20 * (6 - nI (k + 1))).toInt = 20 * (5 - (k : Int)) := by
      rw [i32_mul (m := 1000) (by rw [six, e20]; omega) (by omega), six, e20]
    have b20 : B6 (20 * (6 - nI (k + 1))).toInt64 (20 * (5 - (k : Int))) 100 := b6_i32 t20 (by omega)
    obtain ⟨D, eD⟩ : ∃ D, 20 * (6 - nI (k + 1)) = D := ⟨_, rfl⟩
    rw [eD] at b20
    -- the two terms the wind adds
    have key : ∃ T U : Int64, B6 T (wx * (20 * (5 - (k : Int)))) 2000 ∧ B6 U (wy * (20 * (5 - (k : Int)))) 2000 ∧ b_X11_falls_18 v2 (nI (k + 1)) ρ = (true, (nI (k + 2), mL (mL ρ 44 k (f_X11_down (ml μ 29 0 + T) 100)) 45 k (f_X11_down (ml μ 30 0 + U) 100))) ∧ ob_X11_falls_18 v2 (nI (k + 1)) ρ := by
      have l30 : ml ρ 30 0 = ml μ 30 0 := by
        show ρ.2 30 0 = μ.2 30 0
        rw [g1.2 30 (by decide) (by decide)]
      unfold b_X11_falls_18 ob_X11_falls_18 f_X11_falls_l18_63 of_X11_falls_l18_63 f_X11_falls_l18_102 of_X11_falls_l18_102
      rw [if_neg c1, em, hix, eD, l29]
      rcases hv with ⟨e, ex, ey⟩ | ⟨j, hj, e, ex, ey⟩
      · have z0 : ∀ w : Int, w = 0 → B6 0 (w * (20 * (5 - (k : Int)))) 2000 := fun w hw => by rw [hw, Int.zero_mul]; exact b6_le b6_0 (by omega)
        refine ⟨0, 0, z0 wx ex, z0 wy ey, ?_, ?_⟩
        · rw [if_pos e, if_pos e, l30, nI_1]
        · exact ⟨fun _ => trivial, fun _ => ⟨fun _ => ⟨(pm_i h29 (z0 wx ex)).2, vk, fun _ => ⟨by rw [l30]; exact (pm_i h30 (z0 wy ey)).2, vk, trivial⟩, fun z => absurd e z⟩, fun z => absurd e z⟩⟩
      · have ne : ¬ v2 = -1 := by rw [e]; exact nI_m1 (by omega)
        have hj2 : ix v2 = j := by rw [e]; exact clamp_nI (by omega)
        have vj : vp_in v2 50 := by rw [e]; exact nI_in hj (by decide)
        have e37 : mi ρ 37 j = mi μ 37 j := by show ρ.1 37 j = μ.1 37 j; rw [g1.1]
        have e38 : mi ρ 38 j = mi μ 38 j := by show ρ.1 38 j = μ.1 38 j; rw [g1.1]
        have B1 : B6 ((mi μ 37 j).toInt64 * D.toInt64) (wx * (20 * (5 - (k : Int)))) 2000 := b6_mul (b6_i32 ex hx) b20 (by omega)
        have B2 : B6 ((mi μ 38 j).toInt64 * D.toInt64) (wy * (20 * (5 - (k : Int)))) 2000 := b6_mul (b6_i32 ey hy) b20 (by omega)
        refine ⟨_, _, B1, B2, ?_, ?_⟩
        · rw [if_neg ne, if_neg ne, hj2, e37, e38, l30, nI_1]
        · rw [hj2, e37]
          exact ⟨fun _ => trivial, fun _ => ⟨fun z => absurd z ne, fun _ => ⟨vj, (pm_i h29 B1).2, vk, fun z => absurd z ne, fun _ => ⟨vj, by rw [e38, l30]; exact (pm_i h30 B2).2, vk, trivial⟩⟩⟩⟩
    obtain ⟨T, U, t1, t2, t3, t4⟩ := key
    refine ⟨t4, _, t3, lf_set (Or.inr rfl) (lf_set (Or.inl rfl) g1), fun i hi => ?_⟩
    have q1 := (pm_i h29 t1).1
    have q2 := (pm_i h30 t2).1
    obtain ⟨X, eX⟩ : ∃ X, f_X11_down (ml μ 29 0 + T) 100 = X := ⟨_, rfl⟩
    obtain ⟨Y, eY⟩ : ∃ Y, f_X11_down (ml μ 30 0 + U) 100 = Y := ⟨_, rfl⟩
    rw [eX] at q1
    rw [eY] at q2
    rw [eX, eY]
    have m44 : ml (mL (mL ρ 44 k X) 45 k Y) 44 i = if i = k then X else ml ρ 44 i := by
      show up2 (up2 ρ.2 44 k X) 45 k Y 44 i = _
      rw [up2_at, if_neg (by decide), up2_at, if_pos rfl]; rfl
    have m45 : ml (mL (mL ρ 44 k X) 45 k Y) 45 i = if i = k then Y else ml ρ 45 i := by
      show up2 (up2 ρ.2 44 k X) 45 k Y 45 i = _
      rw [up2_at, if_pos rfl, up2_nk ρ.2 X (show (45 : Nat) ≠ 44 by decide)]; rfl
    rw [m44, m45]
    by_cases c : i = k
    · rw [if_pos c, if_pos c, c]; exact ⟨q1, q2⟩
    · rw [if_neg c, if_neg c]; exact g2 i (by omega)) (by
    rintro ρ ⟨g1, g2⟩
    have c1 : (5 : Int32) < nI (5 + 1) := by decide
    show ob_X11_falls_18 v2 (nI (5 + 1)) ρ ∧ b_X11_falls_18 v2 (nI (5 + 1)) ρ = _
    unfold ob_X11_falls_18 b_X11_falls_18
    rw [if_pos c1]
    exact ⟨⟨fun _ => trivial, fun z => absurd c1 z⟩, rfl⟩) FU 0 μ (Nat.zero_le _) (by show 5 - 0 < 100000; omega) ⟨⟨rfl, fun _ _ _ => rfl⟩, fun i hi => absurd hi (Nat.not_lt_zero _)⟩
  obtain ⟨m1, μ', m2, m3, m4⟩ := main
  exact ⟨m1, μ', m2, m3, m4⟩
/-- the class's chance, once the pieces are strewn -/
theorem cc_i {σ : XS} {x : Nat} {μ : MS} {n5 : Nat} {zx zy wx wy : Int} (hw : RWal σ μ n5) (h : SCt σ (x + 9) zx zy wx wy) (σ' : XS) (c : Nat) (p a b : Int32) {A B : Int} (ha : a.toInt = A) (hb : b.toInt = B) (hA : 0 ≤ A ∧ A ≤ 99) (hB : 0 ≤ B ∧ B ≤ 99) {G : Int} (hG : sm (fun a => sm (fun b => wl μ p (nI a) (nI b) (1000000 * wsq (PP zx wx) (PP zy wy) a b) n5) 100) 100 = G) (hG0 : 0 ≤ G) : of_X10_chanceIn_46 σ' x c p a b σ ∧ ∃ V, f_X10_chanceIn_46 σ' x c p a b σ = (V, σ) ∧ V.toInt = if G = 0 then 0 else (wl μ p a b (1000000 * wsq (PP zx wx) (PP zy wy) A B) n5 * 1000000) / G := by
  obtain ⟨w1, w2⟩ := cw_i h ha hb hA hB
  have wb := wsq_b (PP zx wx) (PP zy wy) A B
  obtain ⟨l1, l2⟩ := cleft_i (x := x) hw p a b w2 (by omega)
  obtain ⟨g1, g2⟩ := cgw_i hw h p
  rw [hG] at g2
  have n := b6_mul l2 b6_M (by omega)
  unfold of_X10_chanceIn_46 f_X10_chanceIn_46
  by_cases c0 : G = 0
  · have z := (b6_ceq g2 b6_0).mpr c0
    refine ⟨⟨w1, h.1, l1, g1, ⟨fun _ => trivial, fun y => absurd z y⟩, trivial⟩, _, rfl, ?_⟩
    rw [if_pos c0]
    unfold f_X10_divided
    rw [if_pos z]; rfl
  · refine ⟨⟨w1, h.1, l1, g1, of_dv g2 (by omega), trivial⟩, _, rfl, ?_⟩
    rw [if_neg c0]
    exact (b6_dv n g2 (by omega) (by omega)).1
theorem mc_i {σ : XS} {μ : MS} {n5 : Nat} {zx zy wx wy : Int} (hw : RWal σ μ n5) (h : MCt μ zx zy wx wy) (μ0 : MS) (p a b : Int32) {A B : Int} (ha : a.toInt = A) (hb : b.toInt = B) (hA : 0 ≤ A ∧ A ≤ 99) (hB : 0 ≤ B ∧ B ≤ 99) {G : Int} (hG : sm (fun a => sm (fun b => wl μ p (nI a) (nI b) (1000000 * wsq (PP zx wx) (PP zy wy) a b) n5) 100) 100 = G) (hG0 : 0 ≤ G) : of_X11_chanceOf_5 μ0 p a b μ ∧ ∃ V, f_X11_chanceOf_5 μ0 p a b μ = (V, μ) ∧ V.toInt = if G = 0 then 0 else (wl μ p a b (1000000 * wsq (PP zx wx) (PP zy wy) A B) n5 * 1000000) / G := by
  obtain ⟨w1, w2⟩ := mw_i hw h p ha hb hA hB
  have wb := wsq_b (PP zx wx) (PP zy wy) A B
  have wlb := wl_b hw p a b (W := 1000000 * wsq (PP zx wx) (PP zy wy) A B) (by omega) n5 (Nat.le_refl _)
  obtain ⟨g1, V, g2, g3⟩ := mg_i hw h p a b
  rw [hG] at g3
  have n := b6_mul w2 b6_M (by omega)
  have F : f_X11_chanceOf_5 μ0 p a b μ = f_X11_chanceOf_54 μ0 p a b V μ := by
    unfold f_X11_chanceOf_5 f_X11_chanceOf_11
    rw [g2]
  have O : of_X11_chanceOf_54 μ0 p a b V μ → of_X11_chanceOf_5 μ0 p a b μ := fun z => ⟨g1, by rw [g2]; exact z⟩
  rw [F]
  unfold f_X11_chanceOf_54
  by_cases c0 : G = 0
  · have z := (b6_ceq g3 b6_0).mpr c0
    rw [if_pos z]
    refine ⟨O ⟨fun _ => trivial, fun y => absurd z y⟩, 0, rfl, ?_⟩
    rw [if_pos c0]; rfl
  · have z : ¬ lg_cmp V 0 = 0 := fun y => c0 ((b6_ceq g3 b6_0).mp y)
    rw [if_neg z]
    refine ⟨O ⟨fun y => absurd y z, fun _ => ⟨w1, b6_n0 g3 (by omega), trivial⟩⟩, _, rfl, ?_⟩
    rw [if_neg c0]
    exact (b6_div n g3 (by omega) (by omega) (by omega)).1
theorem chance_i {σ : XS} {x : Nat} {μ : MS} {n0 n1 n2 n4 n5 n6 f : Nat} {a b : Int32} (h : Rep0 σ x μ n0 n1 n2 n4 n5 n6) (hG : RG σ n2 (sdt μ n2)) (hms : MS1 μ n2 (sdt μ n2)) (hf : isF (JJ (sdt μ n2) n2) f) (ra : rng 0 99 a) (rb : rng 0 99 b) : of_X10_chanceIn σ x (xe σ 3 f) (nI f) a b ∧ of_X11_chanceOf μ (nI f) a b ∧ ∃ τ μ' V, f_X10_chanceIn σ x (xe σ 3 f) (nI f) a b = (V, τ) ∧ f_X11_chanceOf μ (nI f) a b = (V, μ') ∧ SC σ τ ∧ MF μ μ' := by
  have hs := (rep_sx h).2
  have h60 := h.2.2.2.2.1.1
  have h3 := h.2.2.2.2.2.2.2.2.2.2.2.1
  have k9 := h.2.2.2.2.2.2.2.2.2.2.2.2.2.2
  obtain ⟨hfn, -⟩ := z_pos hs h60 hf
  have k5 : xk σ (xe σ 3 f) = 5 := h3.2.1 f (by omega)
  obtain ⟨r1, -, -, -, r5, r6, -⟩ := (hG.2.2 f (by omega)).1 hf
  obtain ⟨oM, hmf, hz⟩ := measures_i hms hs hf
  obtain ⟨μm, eμ⟩ : ∃ z, f_X11_measures μ (nI f) = z := ⟨_, rfl⟩
  rw [eμ] at hmf hz
  obtain ⟨-, -, -, -, z5, z6, -⟩ := hz
  have hm := rep0_fr h (fr_mf hmf)
  have e15 : mi μm 15 f = sdt μ n2 f 1 := (sdt_at (ms_mf hms hmf).1 hfn).2.1
  have hix : ix (nI f) = f := clamp_nI (by omega)
  have v60 : vp_in (nI f) 60 := nI_in (by omega) (by decide)
  have hwi := hm.2.2.2.2.2.1
  obtain ⟨oX, rX⟩ := wof_c (x := x) hwi (sdt μ n2 f 1)
  obtain ⟨oW, rM⟩ := wof_m hwi (sdt μ n2 f 1)
  have A := rng_i (L := 0) (H := 99) ra rfl rfl
  have B := rng_i (L := 0) (H := 99) rb rfl rfl
  -- the winds of both
  have wind : ∃ (wx wy : Int) (v2 : Int32), wx.natAbs ≤ 20 ∧ wy.natAbs ≤ 20 ∧ f_X11_windOf μm (sdt μ n2 f 1) = v2 ∧ ((v2 = -1 ∧ wx = 0 ∧ wy = 0) ∨ ∃ j, j < 50 ∧ v2 = nI j ∧ (mi μm 37 j).toInt = wx ∧ (mi μm 38 j).toInt = wy) ∧ ∃ c d : Int32, c.toInt = wx ∧ d.toInt = wy ∧ f_X10_chanceIn σ x (xe σ 3 f) (nI f) a b = f_X10_chanceIn_46 σ x (xe σ 3 f) (nI f) a b ((f_X3_scatter σ (x + 9) (xe σ 3 f) c d).2) ∧ (of_X10_chanceIn_46 σ x (xe σ 3 f) (nI f) a b ((f_X3_scatter σ (x + 9) (xe σ 3 f) c d).2) → of_X10_chanceIn σ x (xe σ 3 f) (nI f) a b) := by
    unfold f_X10_chanceIn of_X10_chanceIn f_X10_chanceIn_25
    rw [r1]
    rcases rX with ⟨i, i1, i2, i3⟩ | ⟨i1, i3⟩
    · rcases rM with ⟨j, j1, j2, j3⟩ | ⟨j1, -⟩
      · have hij : i = j := hwi.2.2.2.2.2 i j i1 j1 (i2.trans j2.symm)
        subst hij
        obtain ⟨w1, w2, w3, w4, w5, w6⟩ := hwi.2.2.2.2.1 i i1
        have w5' := rng_i (L := -20) (H := 20) w5 rfl rfl
        have w6' := rng_i (L := -20) (H := 20) w6 rfl rfl
        have ne := hwi.2.1 i i1
        have k10 := hwi.2.2.2.1.2.1 i i1
        have h50 := hwi.1
        rw [i3]
        refine ⟨_, _, nI i, by omega, by omega, j3, Or.inr ⟨i, by omega, rfl, rfl, rfl⟩, mi μm 37 i, mi μm 38 i, rfl, rfl, ?_, fun z => ⟨k5, oX, fun y => absurd y ne, fun _ => ⟨k10, ⟨k5, k9, trivial⟩, k9, ?_⟩⟩⟩
        · rw [if_neg ne, w2, w3]
        · rw [w2, w3]; exact z
      · exact absurd i2 (j1 i i1)
    · rcases rM with ⟨j, j1, j2, -⟩ | ⟨-, j3⟩
      · exact absurd j2 (i1 j j1)
      · rw [i3]
        refine ⟨0, 0, -1, by decide, by decide, j3, Or.inl ⟨rfl, rfl, rfl⟩, 0, 0, rfl, rfl, ?_, fun z => ⟨k5, oX, fun _ => ⟨⟨k5, k9, trivial⟩, k9, z⟩, fun y => absurd rfl y⟩⟩
        rw [if_pos rfl]
  obtain ⟨wx, wy, v2, bx, by', ev, hv, c, d, hc, hd, F0, O0⟩ := wind
  obtain ⟨l1, μf, l2, l3, l4⟩ := falls_i z5 z6 bx by' hv
  have hmf2 : MF μm μf := mf_1 l3.1
  have hf0 := rep0_fr hm (fr_mf hmf2)
  obtain ⟨τ, eτ⟩ : ∃ z, (f_X3_scatter σ (x + 9) (xe σ 3 f) c d).2 = z := ⟨_, rfl⟩
  have hsc : SC σ τ := by
    rw [← eτ]
    refine ⟨rfl, fun k h1 h2 => ?_, fun k h1 h2 => ?_, rfl⟩
    · show (xI (xI (xJ (xJ σ 80 (x + 9) (xj σ 108 (xe σ 3 f))) 81 (x + 9) (xj σ 109 (xe σ 3 f))) 82 (x + 9) c) 83 (x + 9) d).2.1 k = _
      rw [xI_ne h2, xI_ne h1]; rfl
    · show (xJ (xJ σ 80 (x + 9) (xj σ 108 (xe σ 3 f))) 81 (x + 9) (xj σ 109 (xe σ 3 f))).2.2.1 k = _
      rw [xJ_ne h2, xJ_ne h1]
  have hsct : SCt τ (x + 9) (zTx (sdt μ n2) n2 f) (zTy (sdt μ n2) n2 f) wx wy := by
    rw [← eτ]
    have e80 : xj (f_X3_scatter σ (x + 9) (xe σ 3 f) c d).2 80 (x + 9) = xj σ 108 (xe σ 3 f) := by
      show up2 (up2 σ.2.2.1 80 (x + 9) (xj σ 108 (xe σ 3 f))) 81 (x + 9) (xj σ 109 (xe σ 3 f)) 80 (x + 9) = _
      rw [up2_at, if_neg (by decide), up2_at, if_pos rfl, if_pos rfl]
    have e81 : xj (f_X3_scatter σ (x + 9) (xe σ 3 f) c d).2 81 (x + 9) = xj σ 109 (xe σ 3 f) := by
      show up2 (up2 σ.2.2.1 80 (x + 9) (xj σ 108 (xe σ 3 f))) 81 (x + 9) (xj σ 109 (xe σ 3 f)) 81 (x + 9) = _
      rw [up2_at, if_pos rfl, if_pos rfl]
    have e82 : xi (f_X3_scatter σ (x + 9) (xe σ 3 f) c d).2 82 (x + 9) = c := by
      show up2 (up2 σ.2.1 82 (x + 9) c) 83 (x + 9) d 82 (x + 9) = _
      rw [up2_at, if_neg (by decide), up2_at, if_pos rfl, if_pos rfl]
    have e83 : xi (f_X3_scatter σ (x + 9) (xe σ 3 f) c d).2 83 (x + 9) = d := by
      show up2 (up2 σ.2.1 82 (x + 9) c) 83 (x + 9) d 83 (x + 9) = _
      rw [up2_at, if_pos rfl, if_pos rfl]
    unfold SCt
    rw [e80, e81, e82, e83]
    exact ⟨k9, r5, r6, hc, hd, bx, by'⟩
  have hτ := sc_rep0 hsc hf0
  have hwal := hf0.2.2.2.2.2.2.1
  have hwalτ := hτ.2.2.2.2.2.2.1
  obtain ⟨G, eG⟩ : ∃ G, sm (fun a => sm (fun b => wl μf (nI f) (nI a) (nI b) (1000000 * wsq (PP (zTx (sdt μ n2) n2 f) wx) (PP (zTy (sdt μ n2) n2 f) wy) a b) n5) 100) 100 = G := ⟨_, rfl⟩
  have hG0 : 0 ≤ G := by
    rw [← eG]
    exact sm_nn 100 (fun i _ => sm_nn 100 (fun j _ => (wl_b hwal (nI f) (nI i) (nI j) (by have := wsq_b (PP (zTx (sdt μ n2) n2 f) wx) (PP (zTy (sdt μ n2) n2 f) wy) i j; omega) n5 (Nat.le_refl _)).1))
  obtain ⟨c1, V, c2, c3⟩ := cc_i hwalτ hsct σ (xe σ 3 f) (nI f) a b rfl rfl A B eG hG0
  obtain ⟨m1, U, m2, m3⟩ := mc_i hwal l4 μ (nI f) a b rfl rfl A B eG hG0
  have eUV : V = U := Int64.toInt_inj.mp (c3.trans m3.symm)
  have efalls : f_X11_falls μ (nI f) = μf := by
    unfold f_X11_falls
    rw [eμ]
    unfold f_X11_falls_5
    rw [hix, e15, ev]
    unfold f_X11_falls_18 f_X11_falls_116
    rw [l2]
  refine ⟨O0 (by rw [eτ]; exact c1), ⟨⟨oM, ?_⟩, ?_⟩, τ, μf, V, ?_, ?_, hsc, mf_tr hmf hmf2⟩
  · rw [eμ]
    unfold of_X11_falls_5
    rw [hix, e15, ev]
    exact ⟨v60, oW, l1, trivial⟩
  · rw [efalls]; exact m1
  · rw [F0, eτ]; exact c2
  · unfold f_X11_chanceOf
    rw [efalls, m2, eUV]
