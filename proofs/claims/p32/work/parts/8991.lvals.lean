/-! ===== what the class answers while the law asks it ===== -/
def GS (σ : XS) (x : Nat) (ρ : MS) (n0 n n4 n5 n6 : Nat) : Prop := Rep0 σ x ρ n0 0 n n4 n5 n6 ∧ RG σ n (sdt ρ n)
theorem gs_rep {σ : XS} {x : Nat} {ρ : MS} {n0 n n4 n5 n6 : Nat} (h : GS σ x ρ n0 n n4 n5 n6) : Rep σ x ρ := ⟨n0, 0, n, n4, n5, n6, h.1, h.2⟩
theorem rep_gs {σ : XS} {x : Nat} {ρ : MS} {n0 n n4 n5 n6 : Nat} (h : Rep σ x ρ) (e0 : mi ρ 1 0 = nI n0) (e1 : mi ρ 5 0 = nI 0) (e2 : mi ρ 13 0 = nI n) (e4 : mi ρ 35 0 = nI n4) (e5 : mi ρ 39 0 = nI n5) (e6 : mi ρ 46 0 = nI n6) (b0 : n0 < 1000) (b2 : n < 1000) (b4 : n4 < 1000) (b5 : n5 < 1000) (b6 : n6 < 1000) : GS σ x ρ n0 n n4 n5 n6 := by
  obtain ⟨m0, m1, m2, m4, m5, m6, k, kG⟩ := h
  have a0 := k.2.1.1
  have a1 := k.2.2.1.1
  have a2 := k.2.2.2.2.1.1
  have a4 := k.2.2.2.2.2.1.1
  have a5 := k.2.2.2.2.2.2.1.1
  have a6 := k.2.2.2.2.2.2.2.1.1
  have d0 : m0 = n0 := (nI_eq (by omega) (by omega)).mp (k.2.1.2.1.symm.trans e0)
  have d1 : m1 = 0 := (nI_eq (by omega) (by omega)).mp (k.2.2.1.2.1.symm.trans e1)
  have d2 : m2 = n := (nI_eq (by omega) (by omega)).mp (k.2.2.2.2.1.2.1.symm.trans e2)
  have d4 : m4 = n4 := (nI_eq (by omega) (by omega)).mp (k.2.2.2.2.2.1.2.2.1.symm.trans e4)
  have d5 : m5 = n5 := (nI_eq (by omega) (by omega)).mp (k.2.2.2.2.2.2.1.2.1.symm.trans e5)
  have d6 : m6 = n6 := (nI_eq (by omega) (by omega)).mp (k.2.2.2.2.2.2.2.1.2.2.2.1.symm.trans e6)
  subst d0
  subst d1
  subst d2
  subst d4
  subst d5
  subst d6
  exact ⟨k, kG⟩
theorem gs_cnt {σ : XS} {x : Nat} {ρ : MS} {n0 n n4 n5 n6 : Nat} (h : GS σ x ρ n0 n n4 n5 n6) : mi ρ 1 0 = nI n0 ∧ mi ρ 5 0 = nI 0 ∧ mi ρ 13 0 = nI n ∧ mi ρ 35 0 = nI n4 ∧ mi ρ 39 0 = nI n5 ∧ mi ρ 46 0 = nI n6 := by
  have k := h.1
  exact ⟨k.2.1.2.1, k.2.2.1.2.1, k.2.2.2.2.1.2.1, k.2.2.2.2.2.1.2.2.1, k.2.2.2.2.2.2.1.2.1, k.2.2.2.2.2.2.2.1.2.2.2.1⟩
theorem gs_b {σ : XS} {x : Nat} {ρ : MS} {n0 n n4 n5 n6 : Nat} (h : GS σ x ρ n0 n n4 n5 n6) : n0 ≤ 10 ∧ n ≤ 60 ∧ n4 ≤ 50 ∧ n5 ≤ 60 ∧ n6 ≤ 40 := by
  have k := h.1
  exact ⟨k.2.1.1, k.2.2.2.2.1.1, k.2.2.2.2.2.1.1, k.2.2.2.2.2.2.1.1, k.2.2.2.2.2.2.2.1.1⟩
theorem gs_sok {σ : XS} {x : Nat} {ρ : MS} {n0 n n4 n5 n6 : Nat} (h : GS σ x ρ n0 n n4 n5 n6) : Sok (sdt ρ n) n := (rep_sx h.1).2
theorem fr_sy {a b : MS} (h : Fr a b) : Fr b a := fun k h1 h2 h3 h4 h5 => (h k h1 h2 h3 h4 h5).symm
theorem gs_fr {σ : XS} {x : Nat} {ρ ρ' : MS} {n0 n n4 n5 n6 : Nat} (h : GS σ x ρ n0 n n4 n5 n6) (g : Fr ρ ρ') : GS σ x ρ' n0 n n4 n5 n6 := ⟨rep0_fr h.1 g, by rw [sdt_fr g]; exact h.2⟩
theorem gs_sc {σ τ : XS} {x : Nat} {ρ : MS} {n0 n n4 n5 n6 : Nat} (h : GS σ x ρ n0 n n4 n5 n6) (g : SC σ τ) : GS τ x ρ n0 n n4 n5 n6 := ⟨sc_rep0 g h.1, sc_rg g h.2⟩
/-- the same counts, from a memory that keeps them -/
theorem gs_re {σ τ : XS} {x : Nat} {ρ ρ' : MS} {n0 n n4 n5 n6 : Nat} (h : GS σ x ρ n0 n n4 n5 n6) (g : Fr ρ ρ') (r : Rep τ x ρ') : GS τ x ρ n0 n n4 n5 n6 := by
  obtain ⟨c0, c1, c2, c4, c5, c6⟩ := gs_cnt h
  obtain ⟨b0, b2, b4, b5, b6⟩ := gs_b h
  exact rep_gs (rep_fr r (fr_sy g)) c0 c1 c2 c4 c5 c6 (by omega) (by omega) (by omega) (by omega) (by omega)
theorem ok_I {cd : Nat → Int32} {r : Except Nat (Int32 × XS)} {M : Int32 × MS} {f : Nat → Int64} {σ : XS} {x : Nat} (h : f_X11_thrown M.2 = (hR cd cvI r f σ).1 ∧ ((hR cd cvI r f σ).1 = 0 → (hR cd cvI r f σ).2.1 0 = (M.1).toInt64) ∧ Rep (hR cd cvI r f σ).2.2 x M.2) (he : ∀ k, r = .error k → cd k ≠ 0) (ht : f_X11_thrown M.2 = 0) : ∃ τ, r = .ok (M.1, τ) ∧ Rep τ x M.2 := by
  cases r with
  | error k => exact absurd (h.1.symm.trans ht) (he k rfl)
  | ok w =>
    obtain ⟨v, τ⟩ := w
    obtain ⟨-, h2, h3⟩ := h
    have e : cvI v f 0 = M.1.toInt64 := h2 rfl
    rw [cvI_0] at e
    have e' : v = M.1 := Int32.toInt_inj.mp (by rw [← Int32.toInt_toInt64 v, e, Int32.toInt_toInt64])
    exact ⟨τ, by rw [e'], h3⟩
theorem ok_L {cd : Nat → Int32} {r : Except Nat (Int64 × XS)} {M : Int64 × MS} {f : Nat → Int64} {σ : XS} {x : Nat} (h : f_X11_thrown M.2 = (hR cd cvL r f σ).1 ∧ ((hR cd cvL r f σ).1 = 0 → (hR cd cvL r f σ).2.1 0 = M.1) ∧ Rep (hR cd cvL r f σ).2.2 x M.2) (he : ∀ k, r = .error k → cd k ≠ 0) (ht : f_X11_thrown M.2 = 0) : ∃ τ, r = .ok (M.1, τ) ∧ Rep τ x M.2 := by
  cases r with
  | error k => exact absurd (h.1.symm.trans ht) (he k rfl)
  | ok w =>
    obtain ⟨v, τ⟩ := w
    obtain ⟨-, h2, h3⟩ := h
    have e : cvL v f 0 = M.1 := h2 rfl
    rw [cvL_0] at e
    exact ⟨τ, by rw [e], h3⟩
theorem ok_V {cd : Nat → Int32} {r : Except Nat (Unit × XS)} {M : MS} {f : Nat → Int64} {σ : XS} {x : Nat} (h : f_X11_thrown M = (hR cd cvV r f σ).1 ∧ Rep (hR cd cvV r f σ).2.2 x M) (he : ∀ k, r = .error k → cd k ≠ 0) (ht : f_X11_thrown M = 0) : ∃ τ, r = .ok ((), τ) ∧ Rep τ x M := by
  cases r with
  | error k => exact absurd (h.1.symm.trans ht) (he k rfl)
  | ok w =>
    obtain ⟨v, τ⟩ := w
    obtain ⟨-, h3⟩ := h
    exact ⟨τ, rfl, h3⟩
theorem cd12_I {f : Nat → Int32} (h1 : f 1 ≠ 0) (h2 : f 2 ≠ 0) {k : Nat} (h : k = 1 ∨ k = 2) : f k ≠ 0 := by
  rcases h with rfl | rfl
  · exact h1
  · exact h2
theorem cd31_I {f : Nat → Int32} (h1 : f 3 ≠ 0) (h2 : f 1 ≠ 0) {k : Nat} (h : k = 3 ∨ k = 1) : f k ≠ 0 := by
  rcases h with rfl | rfl
  · exact h1
  · exact h2
theorem cd312_I {f : Nat → Int32} (h1 : f 3 ≠ 0) (h2 : f 1 ≠ 0) (h3 : f 2 ≠ 0) {k : Nat} (h : k = 3 ∨ k = 1 ∨ k = 2) : f k ≠ 0 := by
  rcases h with rfl | rfl | rfl
  · exact h1
  · exact h2
  · exact h3
/-! the camera -/
def camM (ρ : MS) (n0 : Nat) (p0 p1 p2 : Int32) : MS := mI (mI (mI (mI (mI ρ 0 0 0) 2 n0 p0) 3 n0 p1) 4 n0 p2) 1 0 (nI n0 + 1)
theorem v_camera {σ : XS} {x : Nat} {ρ : MS} {n0 n n4 n5 n6 : Nat} {p0 p1 p2 : Int32} (h : GS σ x ρ n0 n n4 n5 n6) (hn : n0 < 10) (r0 : rng 0 99 p0) (r1 : rng 0 99 p1) (r2 : rng (-99) 99 p2) : (∀ nq, xk σ nq = 0 → of_X10_camera σ x nq p0 p1 p2) ∧ ∀ N, xk σ N = 0 → N ≠ 0 → ∃ τ, f_X10_camera σ x N p0 p1 p2 = .ok (nI n0, τ) ∧ GS τ x (camM ρ n0 p0 p1 p2) (n0 + 1) n n4 n5 n6 := by
  obtain ⟨b1, b2, -, b4⟩ := br_camera σ x ρ p0 p1 p2 (gs_rep h)
  obtain ⟨c0, c1, c2, c4, c5, c6⟩ := gs_cnt h
  obtain ⟨a0, a2, a4, a5, a6⟩ := gs_b h
  have m10 : ¬ mi ρ 1 0 = 10 := by rw [c0, show (10 : Int32) = nI 10 from rfl, nI_eq (by omega) (by omega)]; omega
  have hix : ix (nI n0) = n0 := clamp_nI (by omega)
  have hM : f_X11_camera ρ p0 p1 p2 = (nI n0, camM ρ n0 p0 p1 p2) := by
    unfold f_X11_camera
    rw [isIn_y r0, if_neg i_1ne0, isIn_y r1, if_neg i_1ne0, isIn_y r2, if_neg i_1ne0]
    unfold f_X11_camera_36
    rw [if_neg i_1ne0, if_neg m10]
    unfold f_X11_camera_62
    rw [if_pos (by decide), c0, hix, ← nI_succ, nI_pred]
    unfold camM
    rw [nI_1]
  refine ⟨b1, fun N hN hN0 => ?_⟩
  obtain ⟨τ, t1, t2⟩ := ok_I (b4 N (fun _ => 0) hN hN0) (fun k hk => cd12_I (by decide) (by decide) (b2 N k hk)) (by rw [hM]; rfl)
  rw [hM] at t1 t2
  refine ⟨τ, t1, rep_gs t2 ?_ c1 c2 c4 c5 c6 (by omega) (by omega) (by omega) (by omega) (by omega)⟩
  unfold camM
  show mi (mI _ 1 0 _) 1 0 = _
  rw [mi_at, if_pos rfl, nI_1]
/-! no cloud -/
theorem nc_0 {ρ : MS} (h5 : mi ρ 5 0 = nI 0) (a b : Int32) : f_X11_isCloudy ρ a b = 0 := by
  have fm : s_X11_isCloudy_5 a b ρ (0, 0) = (false, (0, 0)) := by
    show b_X11_isCloudy_5 a b ρ 0 0 = _
    unfold b_X11_isCloudy_5
    rw [h5, if_pos (by decide)]
  have e : itr (s_X11_isCloudy_5 a b ρ) (99999 + 1) (0, 0) = (0, 0) := (it_f (o := os_X11_isCloudy_5 a b ρ) fm 99999).1
  have e2 : itr (s_X11_isCloudy_5 a b ρ) FU (0, 0) = (0, 0) := e
  unfold f_X11_isCloudy f_X11_isCloudy_5 f_X11_isCloudy_52
  rw [e2]
/-! begin -/
def begM (ρ : MS) (c : Nat) (p1 p2 p3 p4 : Int32) : MS := mI (mI (mI (mI (mI (mI ρ 0 0 0) 8 0 (nI c)) 9 0 p1) 10 0 p2) 11 0 p3) 12 0 p4
theorem v_begin {σ : XS} {x : Nat} {ρ : MS} {n0 n n4 n5 n6 c : Nat} {p1 p2 p3 p4 : Int32} (h : GS σ x ρ n0 n n4 n5 n6) (hc : c < n0) (r1 : rng 0 3649 p1) (r2 : rng 0 86399 p2) (r3 : rng 1 60 p3) (r4 : rng 1 1000 p4) : (∀ nq, xk σ nq = 0 → of_X10_begin σ x nq (nI c) p1 p2 p3 p4) ∧ ∀ N, xk σ N = 0 → N ≠ 0 → ∃ τ, f_X10_begin σ x N (nI c) p1 p2 p3 p4 = .ok ((), τ) ∧ GS τ x (begM ρ c p1 p2 p3 p4) n0 n n4 n5 n6 := by
  obtain ⟨b1, b2, -, b4⟩ := br_begin σ x ρ (nI c) p1 p2 p3 p4 (gs_rep h)
  obtain ⟨c0, c1, c2, c4, c5, c6⟩ := gs_cnt h
  obtain ⟨a0, a2, a4, a5, a6⟩ := gs_b h
  have hcam : f_X11_isCamera ρ (nI c) = 1 := by
    unfold f_X11_isCamera
    rw [c0]
    exact isIn_y (nat_in (by omega) hc)
  have hM : f_X11_begin ρ (nI c) p1 p2 p3 p4 = begM ρ c p1 p2 p3 p4 := by
    unfold f_X11_begin
    rw [show f_X11_isNight p1 = 1 from isIn_y r1, if_neg i_1ne0, isIn_y r2, if_neg i_1ne0, isIn_y r3, if_neg i_1ne0, isIn_y r4, if_neg i_1ne0]
    unfold f_X11_begin_45
    rw [hcam, if_neg i_1ne0, if_neg i_1ne0, nc_0 c1, if_pos rfl]
    unfold f_X11_begin_83
    rw [if_pos rfl]
    rfl
  refine ⟨b1, fun N hN hN0 => ?_⟩
  obtain ⟨τ, t1, t2⟩ := ok_V (b4 N (fun _ => 0) hN hN0) (fun k hk => cd312_I (by decide) (by decide) (by decide) (b2 N k hk)) (by rw [hM]; rfl)
  rw [hM] at t2
  exact ⟨τ, t1, rep_gs t2 c0 c1 c2 c4 c5 c6 (by omega) (by omega) (by omega) (by omega) (by omega)⟩
/-! end -/
theorem v_end {σ : XS} {x : Nat} {ρ : MS} {n0 n n4 n5 n6 c : Nat} {p0 p1 p2 p3 : Int32} (h : GS σ x ρ n0 n n4 n5 n6) (hn : n < 60) (hb : mi ρ 8 0 = nI c) (hc : c < 60) (r1 : isDir p0 p1) (r2 : isDir p2 p3) : of_X10_end σ x p0 p1 p2 p3 ∧ ∀ N, xk σ N = 0 → N ≠ 0 → ∃ τ, f_X10_end σ x p0 p1 p2 p3 = .ok (nI n, τ) ∧ GS τ x (endM ρ 0 n p0 p1 p2 p3) n0 (n + 1) n4 n5 n6 := by
  obtain ⟨b1, b2, -, b4⟩ := br_end σ x ρ p0 p1 p2 p3 (gs_rep h)
  obtain ⟨c0, c1, c2, c4, c5, c6⟩ := gs_cnt h
  obtain ⟨a0, a2, a4, a5, a6⟩ := gs_b h
  have m8 : ¬ mi ρ 8 0 = -1 := by rw [hb]; exact nI_m1 hc
  have m60 : ¬ (60 : Int32) ≤ mi ρ 13 0 := by rw [c2, show (60 : Int32) = nI 60 from rfl, nI_leI (by omega) (by omega)]; omega
  have hix : ix (nI n) = n := clamp_nI (by omega)
  have d1 : f_X11_isDirection p0 p1 = 1 := by
    rcases dir_or p0 p1 with ⟨-, z, -⟩ | ⟨z, -⟩
    · exact z
    · exact absurd r1 z
  have d2 : f_X11_isDirection p2 p3 = 1 := by
    rcases dir_or p2 p3 with ⟨-, z, -⟩ | ⟨z, -⟩
    · exact z
    · exact absurd r2 z
  have hM : f_X11_end ρ p0 p1 p2 p3 = (nI n, endM ρ 0 n p0 p1 p2 p3) := by
    unfold f_X11_end
    rw [d1, if_neg i_1ne0, d2, if_neg i_1ne0]
    unfold f_X11_end_22
    rw [if_neg m8, nc_0 c1, if_pos rfl, if_neg m60]
    unfold f_X11_end_61
    rw [if_neg i_1ne0, if_neg i_1ne0]
    unfold f_X11_end_83
    rw [if_pos (by decide), c2, hix]
    unfold f_X11_end_147 f_X11_end_190
    show ((mi ρ 13 0 + 1) - 1, mI (mI (mI (mI (mI (mI (mI (mI (mI (mI (mI (mI ρ 0 0 0) 14 n (mi ρ 8 0)) 15 n (mi ρ 9 0)) 16 n (mi ρ 10 0)) 17 n (mi ρ 11 0)) 18 (ix (mi ρ 13 0)) (mi ρ 12 0)) 19 (ix (mi ρ 13 0)) p0) 20 (ix (mi ρ 13 0)) p1) 21 (ix (mi ρ 13 0)) p2) 22 (ix (mi ρ 13 0)) p3) 8 0 (-1)) 13 0 (mi ρ 13 0 + 1)) = _
    rw [c2, hix]
    unfold endM
    rw [← nI_succ, nI_pred]
  refine ⟨b1, fun N hN hN0 => ?_⟩
  obtain ⟨τ, t1, t2⟩ := ok_I (b4 N (fun _ => 0) hN hN0) (fun k hk => cd12_I (by decide) (by decide) (b2 N k hk)) (by rw [hM]; rfl)
  rw [hM] at t1 t2
  refine ⟨τ, t1, rep_gs t2 c0 c1 ?_ c4 c5 c6 (by omega) (by omega) (by omega) (by omega) (by omega)⟩
  unfold endM
  show mi (mI _ 13 0 _) 13 0 = _
  rw [mi_at, if_pos rfl, nI_1]
/-! clock -/
theorem v_clock {σ : XS} {x : Nat} {ρ : MS} {n0 n n4 n5 n6 c : Nat} {v : Int32} (h : GS σ x ρ n0 n n4 n5 n6) (hc : c < n0) (r1 : rng (-99) 99 v) : of_X10_clock σ x (nI c) v ∧ ∀ N, xk σ N = 0 → N ≠ 0 → ∃ τ, f_X10_clock σ x (nI c) v = .ok (mi ρ 4 c, τ) ∧ GS τ x (mI (mI ρ 0 0 0) 4 c v) n0 n n4 n5 n6 := by
  obtain ⟨b1, b2, -, b4⟩ := br_clock σ x ρ (nI c) v (gs_rep h)
  obtain ⟨c0, c1, c2, c4, c5, c6⟩ := gs_cnt h
  obtain ⟨a0, a2, a4, a5, a6⟩ := gs_b h
  have hcam : f_X11_isCamera ρ (nI c) = 1 := by
    unfold f_X11_isCamera
    rw [c0]
    exact isIn_y (nat_in (by omega) hc)
  have hix : ix (nI c) = c := clamp_nI (by omega)
  have hM : f_X11_clock ρ (nI c) v = (mi ρ 4 c, mI (mI ρ 0 0 0) 4 c v) := by
    unfold f_X11_clock
    rw [hcam, if_neg i_1ne0, isIn_y r1, if_neg i_1ne0]
    unfold f_X11_clock_29
    rw [if_pos (by decide), hix]
  refine ⟨b1, fun N hN hN0 => ?_⟩
  obtain ⟨τ, t1, t2⟩ := ok_I (b4 N (fun _ => 0) hN hN0) (fun k hk => cd31_I (by decide) (by decide) (b2 N k hk)) (by rw [hM]; rfl)
  rw [hM] at t1 t2
  exact ⟨τ, t1, rep_gs t2 c0 c1 c2 c4 c5 c6 (by omega) (by omega) (by omega) (by omega) (by omega)⟩
/-! wind -/
def wndM (ρ : MS) (n4 : Nat) (p v w : Int32) : MS := mI (mI (mI (mI (mI ρ 0 0 0) 36 n4 p) 35 0 (nI n4 + 1)) 37 n4 v) 38 n4 w
theorem v_wind {σ : XS} {x : Nat} {ρ : MS} {n0 n n4 n5 n6 : Nat} {p v w : Int32} (h : GS σ x ρ n0 n n4 n5 n6) (hn : n4 < 50) (r1 : rng 0 3649 p) (r2 : rng (-20) 20 v) (r3 : rng (-20) 20 w) : (∀ nq, xk σ nq = 0 → of_X10_wind σ x nq p v w) ∧ ∀ N, xk σ N = 0 → N ≠ 0 → ∃ τ, f_X10_wind σ x N p v w = .ok ((), τ) ∧ ((∃ j, j < n4 ∧ mi ρ 36 j = p ∧ GS τ x (mI (mI (mI ρ 0 0 0) 37 j v) 38 j w) n0 n n4 n5 n6) ∨ ((∀ j, j < n4 → ¬ mi ρ 36 j = p) ∧ GS τ x (wndM ρ n4 p v w) n0 n (n4 + 1) n5 n6)) := by
  obtain ⟨b1, b2, -, b4⟩ := br_wind σ x ρ p v w (gs_rep h)
  obtain ⟨c0, c1, c2, c4, c5, c6⟩ := gs_cnt h
  obtain ⟨a0, a2, a4, a5, a6⟩ := gs_b h
  have hM1 : f_X11_wind ρ p v w = f_X11_wind_34 ρ p v w 1 := by
    unfold f_X11_wind
    rw [show f_X11_isNight p = 1 from isIn_y r1, if_neg i_1ne0, isIn_y r2, if_neg i_1ne0, isIn_y r3, if_neg i_1ne0]
  refine ⟨b1, fun N hN hN0 => ?_⟩
  rcases (wof_m h.1.2.2.2.2.2.1 p).2 with ⟨j, k1, k2, k3⟩ | ⟨k1, k2⟩
  · have hix : ix (nI j) = j := clamp_nI (by omega)
    have nm : ¬ nI j = -1 := nI_m1 (by omega)
    have hM : f_X11_wind ρ p v w = mI (mI (mI ρ 0 0 0) 37 j v) 38 j w := by
      rw [hM1]
      unfold f_X11_wind_34
      rw [if_neg i_1ne0, k3, if_neg nm]
      unfold f_X11_wind_73
      rw [if_pos (by decide), if_neg nm]
      unfold f_X11_wind_116
      rw [hix]
    obtain ⟨τ, t1, t2⟩ := ok_V (b4 N (fun _ => 0) hN hN0) (fun k hk => cd12_I (by decide) (by decide) (b2 N k hk)) (by rw [hM]; rfl)
    rw [hM] at t2
    exact ⟨τ, t1, Or.inl ⟨j, k1, k2, rep_gs t2 c0 c1 c2 c4 c5 c6 (by omega) (by omega) (by omega) (by omega) (by omega)⟩⟩
  · have m50 : ¬ mi ρ 35 0 = 50 := by rw [c4, show (50 : Int32) = nI 50 from rfl, nI_eq (by omega) (by omega)]; omega
    have hix : ix (nI n4) = n4 := clamp_nI (by omega)
    have hM : f_X11_wind ρ p v w = wndM ρ n4 p v w := by
      rw [hM1]
      unfold f_X11_wind_34
      rw [if_neg i_1ne0, k2, if_pos rfl, if_neg m50]
      unfold f_X11_wind_73
      rw [if_pos (by decide), if_pos rfl, c4]
      unfold f_X11_wind_116
      rw [hix]
      rfl
    obtain ⟨τ, t1, t2⟩ := ok_V (b4 N (fun _ => 0) hN hN0) (fun k hk => cd12_I (by decide) (by decide) (b2 N k hk)) (by rw [hM]; rfl)
    rw [hM] at t2
    refine ⟨τ, t1, Or.inr ⟨k1, rep_gs t2 c0 c1 c2 ?_ c5 c6 (by omega) (by omega) (by omega) (by omega) (by omega)⟩⟩
    unfold wndM
    show mi (mI (mI (mI ρ 0 0 0) 36 n4 p) 35 0 (nI n4 + 1)) 35 0 = _
    rw [mi_at, if_pos rfl, nI_1]
