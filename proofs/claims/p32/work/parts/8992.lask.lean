/-! ===== fireballs, and what is told of them ===== -/
theorem sg_k {σ : XS} {x : Nat} {ρ : MS} {n0 n n4 n5 n6 k : Nat} (h : GS σ x ρ n0 n n4 n5 n6) (hk : k < n) : of_X10_existingSighting σ x (nI k) ∧ f_X10_existingSighting σ x (nI k) = .ok (xe σ 2 k) ∧ f_X11_isIn (nI k) 0 (mi ρ 13 0 - 1) = 1 ∧ xk σ (xe σ 2 k) = 7 := by
  have c2 := (gs_cnt h).2.2.1
  have a2 := (gs_b h).2.1
  have i1 : f_X11_isIn (nI k) 0 (mi ρ 13 0 - 1) = 1 := by
    rw [c2]
    exact isIn_y (nat_in (by omega) hk)
  obtain ⟨e1, e3⟩ := sg_ex (x := x) (nI k) h.1.2.2.2.2.1
  rcases e3 with ⟨j, hj, ej, -, -, hF, -, hK⟩ | ⟨-, hM⟩
  · have : k = j := (nI_eq (by omega) (by omega)).mp ej
    subst this
    exact ⟨e1, hF, i1, hK⟩
  · rw [i1] at hM
    exact absurd hM i_1ne0
theorem fb_k {σ : XS} {x : Nat} {ρ : MS} {n0 n n4 n5 n6 f : Nat} (h : GS σ x ρ n0 n n4 n5 n6) (hf : isF (JJ (sdt ρ n) n) f) : of_X10_existingFireball σ x (nI f) ∧ f_X10_existingFireball σ x (nI f) = .ok (xe σ 3 f) ∧ xk σ (xe σ 3 f) = 5 ∧ f < n := by
  have a2 := (gs_b h).2.1
  have hs := gs_sok h
  obtain ⟨hfn, -⟩ := z_pos hs a2 hf
  obtain ⟨e1, e3⟩ := fb_ex (x := x) (nI f) h.1.2.2.2.2.2.2.2.2.2.2.2.1 h.2 hs a2
  rcases e3 with ⟨j, hj, -, ej, hF, hK⟩ | ⟨-, hno⟩
  · have : f = j := (nI_eq (by omega) (by omega)).mp ej
    subst this
    exact ⟨e1, hF, hK, hfn⟩
  · exact absurd hf (hno f rfl (by omega))
theorem v_fireball {σ : XS} {x : Nat} {ρ : MS} {n0 n n4 n5 n6 k : Nat} (h : GS σ x ρ n0 n n4 n5 n6) (hk : k < n) : of_X10_fireball σ x (nI k) ∧ (jd (JJ (sdt ρ n) n) k → f_X10_fireball σ x (nI k) = .ok (nI (low (JJ (sdt ρ n) n) k))) ∧ (¬ jd (JJ (sdt ρ n) n) k → f_X10_fireball σ x (nI k) = .ok (-1)) := by
  obtain ⟨e1, hF, -, hK⟩ := sg_k h hk
  obtain ⟨g1, g2⟩ := h.2.2.1 k hk
  have eF : f_X10_fireball σ x (nI k) = .ok (xi σ 150 (xe σ 2 k)) := by
    unfold f_X10_fireball
    rw [hF, exb_i]
  refine ⟨?_, fun c => by rw [eF, g1 c], fun c => by rw [eF, g2 c]⟩
  unfold of_X10_fireball
  rw [hF, exo_i]
  exact ⟨e1, hK, trivial⟩
theorem v_anew {σ : XS} {x : Nat} {ρ : MS} {n0 n n4 n5 n6 k : Nat} (h : GS σ x ρ n0 n n4 n5 n6) (hk : k < n) : of_X10_fireballAnew σ x (nI k) ∧ ∀ N, xk σ N = 0 → N ≠ 0 → ∃ v τ, f_X10_fireballAnew σ x (nI k) = .ok (v, τ) ∧ GS τ x ρ n0 n n4 n5 n6 ∧ (jd (JJ (sdt ρ n) n) k → v = nI (low (JJ (sdt ρ n) n) k)) ∧ (¬ jd (JJ (sdt ρ n) n) k → v = -1) := by
  obtain ⟨b1, b2, -, b4⟩ := br_fireballAnew σ x ρ (nI k) (gs_rep h)
  obtain ⟨-, -, hI, -⟩ := sg_k h hk
  obtain ⟨oM, μ', hfr, ht, m1, m2⟩ := fof_i h.1 hk hI
  refine ⟨b1, fun N hN hN0 => ?_⟩
  have he : ∀ e, FL_fireballAnew σ x (nI k) N = .error e → cd_fireballAnew e ≠ 0 := fun e he => by
    rw [b2 N e he]; decide
  by_cases c : jd (JJ (sdt ρ n) n) k
  · have hM : f_X11_fireballAnew ρ (nI k) = (nI (low (JJ (sdt ρ n) n) k), μ') := by
      unfold f_X11_fireballAnew
      rw [m1 c]
    obtain ⟨τ, t1, t2⟩ := ok_I (b4 N (fun _ => 0) hN hN0) he (by rw [hM]; exact ht)
    rw [hM] at t1 t2
    exact ⟨_, τ, t1, gs_re h hfr t2, fun _ => rfl, fun z => absurd c z⟩
  · have hM : f_X11_fireballAnew ρ (nI k) = (-1, μ') := by
      unfold f_X11_fireballAnew
      rw [m2 c]
    obtain ⟨τ, t1, t2⟩ := ok_I (b4 N (fun _ => 0) hN hN0) he (by rw [hM]; exact ht)
    rw [hM] at t1 t2
    exact ⟨_, τ, t1, gs_re h hfr t2, fun z => absurd z c, fun _ => rfl⟩
theorem v_balls {σ : XS} {x : Nat} {ρ : MS} {n0 n n4 n5 n6 : Nat} {p : Int32} (h : GS σ x ρ n0 n n4 n5 n6) (r1 : rng 0 3649 p) : of_X10_fireballs σ x p ∧ f_X10_fireballs σ x p = .ok (nI (cdn (cf (sdt ρ n) n p p 0) n)) := by
  have hnight : f_X10_requireNight p = .ok () := by
    unfold f_X10_requireNight
    rw [req_y r1]
    rfl
  obtain ⟨oC, eC⟩ := count_c (x := x) h.1.2.2.2.2.2.2.2.2.2.2.2.1 h.2 (gs_sok h) (gs_b h).2.1 p p 0
  constructor
  · unfold of_X10_fireballs
    rw [hnight, exo_i]
    exact ⟨oC, trivial⟩
  · unfold f_X10_fireballs
    rw [hnight, exb_i, eC]
theorem told_v {σ : XS} {s : Nat → Nat → Int32} {n f q a : Nat} {g : Nat → Int64} (hk : xk σ q = 5) (h : RR s n f q σ) (hg : AL s n f g) (ha : a < 8) : of_X4_number σ q (nI a) ∧ f_X4_number σ q (nI a) = g a := by
  refine ⟨⟨fun _ => ⟨hk, trivial⟩, fun _ => ⟨fun _ => ⟨hk, trivial⟩, fun _ => ⟨fun _ => ⟨hk, trivial⟩, fun _ => ⟨fun _ => ⟨hk, trivial⟩, fun _ => ⟨fun _ => ⟨hk, trivial⟩, fun _ => ⟨fun _ => ⟨hk, trivial⟩, fun _ => ⟨fun _ => ⟨hk, trivial⟩, fun _ => ⟨hk, trivial⟩⟩⟩⟩⟩⟩⟩⟩, ?_⟩
  obtain ⟨r1, r2, r3, r4, r5, r6, r7, r8, r9, r10⟩ := h
  obtain ⟨z0, z1, z2, z3, z4, z5, z6, z7⟩ := hg
  have d : ∀ i j : Nat, i < 8 → j < 8 → (nI i = nI j ↔ i = j) := fun i j hi hj => nI_eq (by omega) (by omega)
  unfold f_X4_number
  rcases (show a = 0 ∨ a = 1 ∨ a = 2 ∨ a = 3 ∨ a = 4 ∨ a = 5 ∨ a = 6 ∨ a = 7 by omega) with rfl | rfl | rfl | rfl | rfl | rfl | rfl | rfl
  · rw [if_pos (by decide)]
    exact Int64.toInt_inj.mp (by rw [Int32.toInt_toInt64, r2, z0])
  · rw [if_neg (by decide), if_pos (by decide)]
    exact b6_eq r3 z1
  · rw [if_neg (by decide), if_neg (by decide), if_pos (by decide)]
    exact b6_eq r4 z2
  · rw [if_neg (by decide), if_neg (by decide), if_neg (by decide), if_pos (by decide)]
    exact b6_eq r5 z3
  · rw [if_neg (by decide), if_neg (by decide), if_neg (by decide), if_neg (by decide), if_pos (by decide)]
    exact b6_eq r6 z4
  · rw [if_neg (by decide), if_neg (by decide), if_neg (by decide), if_neg (by decide), if_neg (by decide), if_pos (by decide)]
    exact b6_eq r8 z5
  · rw [if_neg (by decide), if_neg (by decide), if_neg (by decide), if_neg (by decide), if_neg (by decide), if_neg (by decide), if_pos (by decide)]
    exact b6_eq r9 z6
  · rw [if_neg (by decide), if_neg (by decide), if_neg (by decide), if_neg (by decide), if_neg (by decide), if_neg (by decide), if_neg (by decide)]
    exact Int64.toInt_inj.mp (by rw [r10.1, z7])
theorem v_told {σ : XS} {x : Nat} {ρ : MS} {n0 n n4 n5 n6 f a : Nat} {g : Nat → Int64} (h : GS σ x ρ n0 n n4 n5 n6) (hf : isF (JJ (sdt ρ n) n) f) (hg : AL (sdt ρ n) n f g) (ha : a < 8) : of_X10_told σ x (nI f) (nI a) ∧ f_X10_told σ x (nI f) (nI a) = .ok (g a) := by
  obtain ⟨e1, hF, hK, hfn⟩ := fb_k h hf
  have a2 := (gs_b h).2.1
  obtain ⟨oN, eN⟩ := told_v hK ((h.2.2.2 f (by omega)).1 hf) hg ha
  have hr : f_X10_requireRange (nI a) 0 7 = .ok () := req_y (nat_in (n := 8) (by omega) ha)
  constructor
  · unfold of_X10_told
    rw [hF, exo_i, hr, exo_i]
    exact ⟨e1, oN, hK, trivial⟩
  · unfold f_X10_told
    rw [hF, exb_i, hr, exb_i, eN]
/-! ===== find ===== -/
theorem v_find {σ : XS} {x : Nat} {ρ : MS} {n0 n n4 n5 : Nat} {p0 p1 p2 p3 p4 : Int32} (h : GS σ x ρ n0 n n4 n5 0) (r0 : rng 0 99 p0) (r1 : rng 0 99 p1) (r2 : rng 0 3649 p2) (r3 : rng 1 1000000 p3) (r4 : rng 0 5 p4) : (∀ nq, xk σ nq = 0 → of_X10_find σ x nq p0 p1 p2 p3 p4) ∧ ∀ N, xk σ N = 0 → N ≠ 0 → ∃ τ ow, f_X10_find σ x N p0 p1 p2 p3 p4 = .ok (nI 0, τ) ∧ GS τ x (addM (mI ρ 0 0 0) 0 p0 p1 p2 p3 ow (-1)) n0 n n4 n5 1 := by
  obtain ⟨b1, b2, -, b4⟩ := br_find σ x ρ p0 p1 p2 p3 p4 (gs_rep h)
  obtain ⟨c0, c1, c2, c4, c5, c6⟩ := gs_cnt h
  obtain ⟨a0, a2, a4, a5, a6⟩ := gs_b h
  have m40 : ¬ mi ρ 46 0 = 40 := by rw [c6]; decide
  have hcell : f_X11_isCell p0 p1 = 1 := by
    unfold f_X11_isCell
    rw [isIn_y r0, isIn_y r1]
    decide
  have hM : ∃ ow, f_X11_find ρ p0 p1 p2 p3 p4 = (nI 0, addM (mI ρ 0 0 0) 0 p0 p1 p2 p3 ow (-1)) := by
    have hadd := fun ow : Int32 => adds_i (μ := mI ρ 0 0 0) (n6 := 0) c6 (by omega) p0 p1 p2 p3 ow (-1)
    refine ⟨if mi ρ 66 (ix (f_X11_landOf p0 p1)) = 1 then 10 + f_X11_landOf p0 p1 else p4, ?_⟩
    unfold f_X11_find
    rw [hcell, if_neg i_1ne0, show f_X11_isNight p2 = 1 from isIn_y r2, if_neg i_1ne0, isIn_y r3, if_neg i_1ne0, isIn_y r4, if_neg i_1ne0]
    unfold f_X11_find_42
    rw [if_neg i_1ne0, if_neg m40]
    unfold f_X11_find_68
    rw [if_pos (by decide)]
    unfold f_X11_find_114
    by_cases c : mi ρ 66 (ix (f_X11_landOf p0 p1)) = 1
    · rw [if_pos c, if_pos c, (hadd _).1]
    · rw [if_neg c, if_neg c, (hadd _).1]
  obtain ⟨ow, hM⟩ := hM
  refine ⟨b1, fun N hN hN0 => ?_⟩
  obtain ⟨τ, t1, t2⟩ := ok_I (b4 N (fun _ => 0) hN hN0) (fun k hk => cd12_I (by decide) (by decide) (b2 N k hk)) (by rw [hM]; rfl)
  rw [hM] at t1 t2
  exact ⟨τ, ow, t1, rep_gs t2 c0 c1 c2 c4 c5 rfl (by omega) (by omega) (by omega) (by omega) (by omega)⟩
