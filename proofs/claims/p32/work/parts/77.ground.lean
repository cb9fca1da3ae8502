/-! ===== all the ground ===== -/
theorem cel_b (X : Int) (w : Nat) : 0 ≤ cel X w ∧ cel X w ≤ 100 := by unfold cel; omega
theorem cells_i {Z : Int64} {X : Int} {w : Nat} (hZ : B6 Z X 198011900) (hw : w < 8) : B6 (f_X3_cellsWithin Z (nI w)) (cel X w) 100 := by
  have e : B6 (nI w).toInt64 (w : Int) 8 := b6_i32 (nI_toInt (by omega)) (by omega)
  have a := b6_min (b6_le b6_99 (by omega)) (b6_le (b6_add hZ e (by omega)) (Nat.le_refl 198011908) : B6 _ _ 198011908)
  have b := b6_max (b6_le b6_0 (Nat.zero_le _)) (b6_sub hZ e (by omega))
  have c := b6_add (b6_sub a b (by omega)) b6_1 (by omega)
  have d := b6_max (b6_le b6_0 (Nat.zero_le _)) c
  have q := cel_b X w
  exact ⟨d.1, by omega⟩
theorem prod_b {x y : Int} (hx : 0 ≤ x ∧ x ≤ 100) (hy : 0 ≤ y ∧ y ≤ 100) : 0 ≤ x * y ∧ x * y ≤ 10000 := mul_b (A := 100) (B := 100) hx.1 hx.2 hy.1 hy.2
theorem cg_in {σ : XS} {q : Nat} {v3 : Int32} {Z Y : Int64} {X R : Int} (hZ : B6 Z X 198011900) (hY : B6 Y R 198011900) {V : Int64} {S : Int} {m : Nat} (hV : B6 V S m) (hm : m ≤ 400000) : ito (s_X3_weightOfGround_26 q v3 Z Y σ) (os_X3_weightOfGround_26 q v3 Z Y σ) FU (V, 0) ∧ ∃ w, itr (s_X3_weightOfGround_26 q v3 Z Y σ) FU (V, 0) = (w, 8) ∧ B6 w (S + sm (fun w => cel X w * cel R w) 8) (m + 80000) := by
  have main := itr_for (f := s_X3_weightOfGround_26 q v3 Z Y σ) (o := os_X3_weightOfGround_26 q v3 Z Y σ) (fun k (w : Int64) => (w, nI k)) (fun k w => B6 w (S + sm (fun w => cel X w * cel R w) k) (m + 10000 * k)) (n := 8) (by
    intro k w hk hw
    have c1 : ¬ (8 : Int32) ≤ nI k := by rw [show (8 : Int32) = nI 8 from rfl, nI_leI (by omega) (by omega)]; omega
    have q1 := prod_b (cel_b X k) (cel_b R k)
    refine ⟨trivial, w + f_X3_cellsWithin Z (nI k) * f_X3_cellsWithin Y (nI k), ?_, ?_⟩
    · show b_X3_weightOfGround_26 q v3 Z Y σ w (nI k) = _
      unfold b_X3_weightOfGround_26
      rw [if_neg c1, nI_1]
    · have a := b6_add hw (b6_mul (cells_i hZ hk) (cells_i hY hk) (by omega)) (by omega)
      show B6 _ (S + (sm (fun w => cel X w * cel R w) k + cel X k * cel R k)) _
      rw [← Int.add_assoc]
      exact b6_le a (by omega)) (by
    intro w hw
    have c1 : (8 : Int32) ≤ nI 8 := by decide
    refine ⟨trivial, ?_⟩
    show b_X3_weightOfGround_26 q v3 Z Y σ w (nI 8) = _
    unfold b_X3_weightOfGround_26
    rw [if_pos c1]) FU 0 V (Nat.zero_le _) (by show 8 - 0 < 100000; omega) (by show B6 V (S + 0) (m + 10000 * 0); rw [Int.add_zero]; exact hV)
  obtain ⟨m1, w, m2, m3⟩ := main
  exact ⟨m1, w, m2, m3⟩
theorem cg_i {σ : XS} {q : Nat} {zx zy wx wy : Int} (h : SCt σ q zx zy wx wy) : of_X3_weightOfGround σ q ∧ B6 (f_X3_weightOfGround σ q) (1000000 * sm (fun i => sm (fun w => cel (PP zx wx i) w * cel (PP zy wy i) w) 8) 5) 400000000000 := by
  have k4 := h.1
  have main := itr_for (f := s_X3_weightOfGround_4 q σ) (o := os_X3_weightOfGround_4 q σ) (fun k (w : Int64) => (w, nI (k + 1))) (fun k w => B6 w (sm (fun i => sm (fun w => cel (PP zx wx i) w * cel (PP zy wy i) w) 8) k) (80000 * k)) (n := 5) (by
    intro k w hk hw
    obtain ⟨o1, o2, p1, p2⟩ := px_i h hk
    have c1 : ¬ (5 : Int32) < nI (k + 1) := by rw [show (5 : Int32) = nI 5 from rfl, nI_ltI (by omega) (by omega)]; omega
    obtain ⟨i1, w', i2, i3⟩ := cg_in (σ := σ) (q := q) (v3 := nI (k + 1)) p1 p2 hw (by omega)
    refine ⟨⟨fun _ => trivial, fun _ => ⟨o1, k4, o2, i1, trivial⟩⟩, w', ?_, b6_le i3 (by omega)⟩
    show b_X3_weightOfGround_4 q σ w (nI (k + 1)) = _
    unfold b_X3_weightOfGround_4 f_X3_weightOfGround_l4_26 f_X3_weightOfGround_l4_57
    rw [if_neg c1, i2, nI_1]) (by
    intro w hw
    have c1 : (5 : Int32) < nI (5 + 1) := by decide
    show ob_X3_weightOfGround_4 q σ w (nI (5 + 1)) ∧ b_X3_weightOfGround_4 q σ w (nI (5 + 1)) = _
    unfold ob_X3_weightOfGround_4 b_X3_weightOfGround_4
    rw [if_pos c1]
    exact ⟨⟨fun _ => trivial, fun z => absurd c1 z⟩, rfl⟩) FU 0 0 (Nat.zero_le _) (by show 5 - 0 < 100000; omega) b6_0
  obtain ⟨m1, w, m2, m3⟩ := main
  have m2 : itr (s_X3_weightOfGround_4 q σ) FU (0, 1) = (w, nI 6) := m2
  refine ⟨⟨m1, trivial⟩, ?_⟩
  unfold f_X3_weightOfGround f_X3_weightOfGround_4 f_X3_weightOfGround_63
  rw [m2]
  exact b6_mul b6_M m3 (by omega)
theorem cgw_i {σ : XS} {x : Nat} {μ : MS} {n5 : Nat} {zx zy wx wy : Int} (hw : RWal σ μ n5) (h : SCt σ (x + 9) zx zy wx wy) (p : Int32) : of_X10_weightOfGround σ x p ∧ B6 (f_X10_weightOfGround σ x p) (sm (fun a => sm (fun b => wl μ p (nI a) (nI b) (1000000 * wsq (PP zx wx) (PP zy wy) a b) n5) 100) 100) 1000000000000 := by
  have k4 := h.1
  have h60 := hw.1
  have hx := hw.2.2.1.1
  have hk := hw.2.2.1.2.1
  obtain ⟨g1, g2⟩ := cg_i h
  have gs := ground_sum hw p (fun a b => 1000000 * wsq (PP zx wx) (PP zy wy) a b) (fun a b => by have := wsq_b (PP zx wx) (PP zy wy) a b; omega)
  have e1 : sm (fun a => sm (fun b => 1000000 * wsq (PP zx wx) (PP zy wy) a b) 100) 100 = 1000000 * sm (fun i => sm (fun w => cel (PP zx wx i) w * cel (PP zy wy i) w) 8) 5 := by
    rw [← wsq_all, ← sm_mul]
    exact sm_c 100 (fun a _ => sm_mul 100)
  rw [e1] at gs
  rw [gs]
  obtain ⟨G, eG⟩ : ∃ G, 1000000 * sm (fun i => sm (fun w => cel (PP zx wx i) w * cel (PP zy wy i) w) 8) 5 = G := ⟨_, rfl⟩
  rw [eG] at g2 ⊢
  have main := itr_for (f := s_X10_weightOfGround_11 x p σ) (o := os_X10_weightOfGround_11 x p σ) (fun k (w : Int64) => (w, nI k)) (fun k w => B6 w (G + sm (fun j => if xi σ 184 (xe σ 5 j) = 0 then 0 else if mi μ 40 j = p then wl μ p (mi μ 41 j) (mi μ 42 j) (1000000 * wsq (PP zx wx) (PP zy wy) (mi μ 41 j).toInt (mi μ 42 j).toInt) n5 - 1000000 * wsq (PP zx wx) (PP zy wy) (mi μ 41 j).toInt (mi μ 42 j).toInt else 0) k) (400000000000 + 40000000 * k)) (n := n5) (by
    intro k w hk2 hw2
    have hix : ix (nI k) = k := clamp_nI (by omega)
    have c1 : ¬ nI n5 ≤ nI k := by rw [nI_leI (by omega) (by omega)]; omega
    have kk := hk k hk2
    obtain ⟨r1, r2, r3, r4, r5, r6, r7, -⟩ := hw.2.2.2 k hk2
    have r5' := rng_i (L := 0) (H := 99) r5 rfl rfl
    have r6' := rng_i (L := 0) (H := 99) r6 rfl rfl
    obtain ⟨w1, w2⟩ := cw_i h (a := mi μ 41 k) (b := mi μ 42 k) rfl rfl r5' r6'
    have wb := wsq_b (PP zx wx) (PP zy wy) (mi μ 41 k).toInt (mi μ 42 k).toInt
    obtain ⟨l1, l2⟩ := cleft_i (x := x) hw p (mi μ 41 k) (mi μ 42 k) w2 (by omega)
    have lb := wl_b hw p (mi μ 41 k) (mi μ 42 k) (W := 1000000 * wsq (PP zx wx) (PP zy wy) (mi μ 41 k).toInt (mi μ 42 k).toInt) (by omega) n5 (Nat.le_refl _)
    constructor
    · show ob_X10_weightOfGround_11 x p σ w (nI k)
      unfold ob_X10_weightOfGround_11
      rw [hx, hix, r1, r2, r3]
      exact ⟨fun _ => trivial, fun _ => ⟨nI_in hk2 (by omega), kk, fun _ => trivial, fun _ => ⟨fun _ => ⟨w1, k4, l1, trivial⟩, fun _ => trivial⟩⟩⟩
    · show ∃ b', b_X10_weightOfGround_11 x p σ w (nI k) = (true, (b', nI (k + 1))) ∧ B6 b' (G + (sm (fun j => if xi σ 184 (xe σ 5 j) = 0 then 0 else if mi μ 40 j = p then wl μ p (mi μ 41 j) (mi μ 42 j) (1000000 * wsq (PP zx wx) (PP zy wy) (mi μ 41 j).toInt (mi μ 42 j).toInt) n5 - 1000000 * wsq (PP zx wx) (PP zy wy) (mi μ 41 j).toInt (mi μ 42 j).toInt else 0) k + (if xi σ 184 (xe σ 5 k) = 0 then 0 else if mi μ 40 k = p then wl μ p (mi μ 41 k) (mi μ 42 k) (1000000 * wsq (PP zx wx) (PP zy wy) (mi μ 41 k).toInt (mi μ 42 k).toInt) n5 - 1000000 * wsq (PP zx wx) (PP zy wy) (mi μ 41 k).toInt (mi μ 42 k).toInt else 0))) (400000000000 + 40000000 * (k + 1))
      unfold b_X10_weightOfGround_11 f_X10_weightOfGround_l11_100
      rw [hx, if_neg c1, hix, r1, r2, r3, nI_1, ← Int.add_assoc]
      by_cases d1 : xi σ 184 (xe σ 5 k) = 0
      · rw [if_pos d1, if_pos d1, Int.add_zero]
        exact ⟨w, rfl, b6_le hw2 (by omega)⟩
      · rw [if_neg d1, if_neg d1]
        by_cases d2 : mi μ 40 k = p
        · rw [if_pos d2, if_pos d2]
          have q := b6_sub l2 w2 (by omega)
          have q' : B6 _ (wl μ p (mi μ 41 k) (mi μ 42 k) (1000000 * wsq (PP zx wx) (PP zy wy) (mi μ 41 k).toInt (mi μ 42 k).toInt) n5 - 1000000 * wsq (PP zx wx) (PP zy wy) (mi μ 41 k).toInt (mi μ 42 k).toInt) 40000000 := ⟨q.1, by omega⟩
          exact ⟨_, rfl, b6_le (b6_add hw2 q' (by omega)) (by omega)⟩
        · rw [if_neg d2, if_neg d2, Int.add_zero]
          exact ⟨w, rfl, b6_le hw2 (by omega)⟩) (by
    intro w hw2
    show ob_X10_weightOfGround_11 x p σ w (nI n5) ∧ b_X10_weightOfGround_11 x p σ w (nI n5) = _
    unfold ob_X10_weightOfGround_11 b_X10_weightOfGround_11
    rw [hx, if_pos (Int32.le_refl _)]
    exact ⟨⟨fun _ => trivial, fun z => absurd (Int32.le_refl _) z⟩, rfl⟩) FU 0 (f_X3_weightOfGround σ (x + 9)) (Nat.zero_le _) (by show n5 - 0 < 100000; omega) (by show B6 _ (G + 0) _; rw [Int.add_zero]; exact b6_le g2 (by omega))
  obtain ⟨m1, w, m2, m3⟩ := main
  have m2 : itr (s_X10_weightOfGround_11 x p σ) FU (f_X3_weightOfGround σ (x + 9), 0) = (w, nI n5) := m2
  refine ⟨⟨g1, k4, m1, trivial⟩, ?_⟩
  unfold f_X10_weightOfGround f_X10_weightOfGround_11 f_X10_weightOfGround_106
  rw [m2]
  exact b6_le m3 (by omega)
theorem mg_i {σ : XS} {μ : MS} {n5 : Nat} {zx zy wx wy : Int} (hw : RWal σ μ n5) (h : MCt μ zx zy wx wy) (p a b : Int32) : ito (s_X11_chanceOf_11 p a b μ) (os_X11_chanceOf_11 p a b μ) FU (0, 0) ∧ ∃ G, itr (s_X11_chanceOf_11 p a b μ) FU (0, 0) = (G, 100) ∧ B6 G (sm (fun a => sm (fun b => wl μ p (nI a) (nI b) (1000000 * wsq (PP zx wx) (PP zy wy) a b) n5) 100) 100) 400000000000 := by
  have inner : ∀ (i : Nat) (V : Int64) (S : Int) (m : Nat), i < 100 → B6 V S m → m ≤ 400000000000 → ito (s_X11_chanceOf_21 p a b (nI i) μ) (os_X11_chanceOf_21 p a b (nI i) μ) FU (V, 0) ∧ ∃ w, itr (s_X11_chanceOf_21 p a b (nI i) μ) FU (V, 0) = (w, 100) ∧ B6 w (S + sm (fun b => wl μ p (nI i) (nI b) (1000000 * wsq (PP zx wx) (PP zy wy) i b) n5) 100) (m + 4000000000) := by
    intro i V S m hi hV hm
    have main := itr_for (f := s_X11_chanceOf_21 p a b (nI i) μ) (o := os_X11_chanceOf_21 p a b (nI i) μ) (fun k (w : Int64) => (w, nI k)) (fun k w => B6 w (S + sm (fun b => wl μ p (nI i) (nI b) (1000000 * wsq (PP zx wx) (PP zy wy) i b) n5) k) (m + 40000000 * k)) (n := 100) (by
      intro k w hk hw2
      have c1 : ¬ (100 : Int32) ≤ nI k := by rw [show (100 : Int32) = nI 100 from rfl, nI_leI (by omega) (by omega)]; omega
      obtain ⟨o1, o2⟩ := mw_i hw h p (a := nI i) (b := nI k) (A := i) (B := k) (nI_toInt (by omega)) (nI_toInt (by omega)) (by omega) (by omega)
      refine ⟨⟨fun _ => trivial, fun _ => ⟨o1, trivial⟩⟩, w + f_X11_weight μ p (nI i) (nI k), ?_, ?_⟩
      · show b_X11_chanceOf_21 p a b (nI i) μ w (nI k) = _
        unfold b_X11_chanceOf_21
        rw [if_neg c1, nI_1]
      · have q := b6_add hw2 o2 (by omega)
        show B6 _ (S + (sm (fun b => wl μ p (nI i) (nI b) (1000000 * wsq (PP zx wx) (PP zy wy) i b) n5) k + wl μ p (nI i) (nI k) (1000000 * wsq (PP zx wx) (PP zy wy) i k) n5)) _
        rw [← Int.add_assoc]
        exact b6_le q (by omega)) (by
      intro w hw2
      have c1 : (100 : Int32) ≤ nI 100 := by decide
      show ob_X11_chanceOf_21 p a b (nI i) μ w (nI 100) ∧ b_X11_chanceOf_21 p a b (nI i) μ w (nI 100) = _
      unfold ob_X11_chanceOf_21 b_X11_chanceOf_21
      rw [if_pos c1]
      exact ⟨⟨fun _ => trivial, fun z => absurd c1 z⟩, rfl⟩) FU 0 V (Nat.zero_le _) (by show 100 - 0 < 100000; omega) (by show B6 V (S + 0) (m + 40000000 * 0); rw [Int.add_zero]; exact hV)
    obtain ⟨m1, w, m2, m3⟩ := main
    exact ⟨m1, w, m2, m3⟩
  have main := itr_for (f := s_X11_chanceOf_11 p a b μ) (o := os_X11_chanceOf_11 p a b μ) (fun k (w : Int64) => (w, nI k)) (fun k w => B6 w (sm (fun a => sm (fun b => wl μ p (nI a) (nI b) (1000000 * wsq (PP zx wx) (PP zy wy) a b) n5) 100) k) (4000000000 * k)) (n := 100) (by
    intro k w hk hw2
    have c1 : ¬ (100 : Int32) ≤ nI k := by rw [show (100 : Int32) = nI 100 from rfl, nI_leI (by omega) (by omega)]; omega
    obtain ⟨i1, w', i2, i3⟩ := inner k w _ _ hk hw2 (by omega)
    refine ⟨⟨fun _ => trivial, fun _ => ⟨i1, trivial⟩⟩, w', ?_, b6_le i3 (by omega)⟩
    show b_X11_chanceOf_11 p a b μ w (nI k) = _
    unfold b_X11_chanceOf_11 f_X11_chanceOf_l11_21 f_X11_chanceOf_l11_48
    rw [if_neg c1, i2, nI_1]) (by
    intro w hw2
    have c1 : (100 : Int32) ≤ nI 100 := by decide
    show ob_X11_chanceOf_11 p a b μ w (nI 100) ∧ b_X11_chanceOf_11 p a b μ w (nI 100) = _
    unfold ob_X11_chanceOf_11 b_X11_chanceOf_11
    rw [if_pos c1]
    exact ⟨⟨fun _ => trivial, fun z => absurd c1 z⟩, rfl⟩) FU 0 0 (Nat.zero_le _) (by show 100 - 0 < 100000; omega) b6_0
  obtain ⟨m1, w, m2, m3⟩ := main
  exact ⟨m1, w, m2, m3⟩
